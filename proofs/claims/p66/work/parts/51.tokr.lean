/-! the reference's scanner finds the same -/
section TOKR
variable {M : MS} {y : Nat → Int32} {n p s : Nat}
def rx (M : MS) (y : Nat → Int32) : MS := (y, M.2)
theorem rx_1 {q : Nat} : (rx M y).1 q = y q := rfl
theorem rx_11 : (rx M y).1 = y := rfl
theorem rx_2 : (rx M y).2 = M.2 := rfl
theorem rx_p {z : Nat → Int32} : ((z, M.2) : MS) = rx M z := rfl
theorem rx_rx {z : Nat → Int32} : rx (rx M y) z = rx M z := rfl
theorem rx_self : rx M M.1 = M := rfl
/-- va_up of numbers is upd -/
theorem vu {f : Nat → Int32} {k : Nat} {v : Int32} : va_up f k v = upd f k v := rfl
def rv (M : MS) (n p : Nat) : Int32 := if p < n then M.2 8 p else -1
theorem r_byteAt (h9 : y 9 = nI n) (hn : n ≤ 600) (hp : p ≤ 600) : fX11_byteAt (rx M y) (nI p) = some (rv M n p) := by
  unfold fX11_byteAt fX11_byteAt_0 rv
  rw [rx_1, h9]
  by_cases q : p < n
  · rw [if_neg (nI_ge q (by omega)), fX11_byteAt_8, gi_m (by omega) (by omega), rx_2, nI_c (by omega), if_pos q]; rfl
  · rw [if_pos (nI_le (by omega) (by omega)), if_neg q]; rfl
theorem r_inRange {a b c : Int32} : fX11_inRange M a b c = some (if a < b then 0 else if c < a then 0 else 1) := by
  simp only [fX11_inRange_15, fX11_inRange_14, fX11_inRange_10, fX11_inRange_5, fX11_inRange_0, fX11_inRange]
  by_cases h : a < b
  · rw [if_pos h, if_pos h]; rfl
  · rw [if_neg h, if_neg h]
    by_cases g : c < a
    · rw [if_pos g, if_pos g]; rfl
    · rw [if_neg g, if_neg g]; rfl
theorem bz_s {α : Type} {r : Int32} {S : α} (h : r = 0 ∨ r = 1) : bz (some (r, S)) = some (r, S) := if_pos h
theorem bq_s {r : Int32} (h : r = 0 ∨ r = 1) : bq (some r) = some r := if_pos h
def isL (v : Int32) : Int32 := if v < 97 then 0 else if 122 < v then 0 else 1
def isD (v : Int32) : Int32 := if v < 48 then 0 else if 57 < v then 0 else 1
theorem isL_01 {v : Int32} : isL v = 0 ∨ isL v = 1 := by
  unfold isL
  repeat' split
  all_goals simp
theorem r_isLetter (h9 : y 9 = nI n) (hn : n ≤ 600) (hp : p ≤ 600) : fX11_isLetter (rx M y) (nI p) = some (isL (rv M n p)) := by
  unfold fX11_isLetter fX11_isLetter_0
  rw [r_byteAt h9 hn hp, Option.bind_some, fX11_isLetter_5, r_inRange, Option.bind_some, fX11_isLetter_12]
  exact bq_s isL_01
theorem isL_k {v : Int32} : (isL v = 0) ↔ ¬ kdB v = 1 := by
  unfold isL kdB
  by_cases h : v < 97
  · rw [if_pos h, if_pos h]
    simp only [true_iff]
    repeat' split
    all_goals omega
  · rw [if_neg h, if_neg h]
    by_cases g : 122 < v
    · rw [if_pos g, if_pos g]
      simp only [true_iff]
      repeat' split
      all_goals omega
    · rw [if_neg g, if_neg g]; simp
theorem i32 {a b : Int32} : (a < b) ↔ a.toInt < b.toInt := Int32.lt_iff_toInt_lt
theorem isD_k {v : Int32} : (isD v = 0) ↔ ¬ kdB v = 2 := by
  have e48 : (48 : Int32).toInt = 48 := by decide
  have e57 : (57 : Int32).toInt = 57 := by decide
  have e97 : (97 : Int32).toInt = 97 := by decide
  have e122 : (122 : Int32).toInt = 122 := by decide
  unfold isD kdB
  simp only [i32, e48, e57, e97, e122]
  by_cases h : v.toInt < 48
  · rw [if_pos h]
    simp only [true_iff]
    repeat' split
    all_goals omega
  · rw [if_neg h]
    by_cases g : 57 < v.toInt
    · rw [if_pos g]
      simp only [true_iff]
      repeat' split
      all_goals omega
    · rw [if_neg g, if_pos (by omega), if_neg h, if_neg g]; simp
theorem bl_k {v : Int32} : (v = 32 ∨ v = 10) ↔ kdB v = 4 := by
  constructor
  · rintro (h | h) <;> (subst h; decide)
  · intro h
    unfold kdB at h
    repeat' split at h
    all_goals first | (left; assumption) | (right; assumption) | omega
theorem sm_k {v : Int32} : (v = 59) ↔ kdB v = 3 := by
  constructor
  · intro h; subst h; decide
  · intro h
    unfold kdB at h
    repeat' split at h
    all_goals first | assumption | omega
theorem neg_k : kdB (-1) = 5 := by decide
theorem rv_k : kdB (rv M n p) = if p < n then kdB (M.2 8 p) else 5 := by
  unfold rv
  split
  · rfl
  · exact neg_k
theorem r_skip (hn : n ≤ 600) : ∀ r p f (y : Nat → Int32), n = p + r → r < f → y 9 = nI n → y 14 = nI p → fX11_advanceToken_0 f (rx M y) = fX11_advanceToken_39 (rx M (upd y 14 (nI (runF (fun j => kdB (M.2 8 j) == 4) r p)))) := by
  intro r
  induction r with
  | zero =>
    intro p f y hp hf h9 h14
    obtain ⟨f, rfl⟩ : ∃ g, f = g + 1 := ⟨f - 1, by omega⟩
    have e : rv M n p = -1 := by unfold rv; rw [if_neg (by omega)]
    rw [fX11_advanceToken_0]
    dsimp only
    rw [rx_1, h14, r_byteAt h9 hn (by omega), Option.bind_some, e, fX11_advanceToken_8, if_neg (by decide), fX11_advanceToken_13, rx_1, h14, r_byteAt h9 hn (by omega), Option.bind_some, e, fX11_advanceToken_21, if_neg (by decide), runF, upd_at h14]
  | succ r ih =>
    intro p f y hp hf h9 h14
    obtain ⟨f, rfl⟩ : ∃ g, f = g + 1 := ⟨f - 1, by omega⟩
    have e : rv M n p = M.2 8 p := by unfold rv; rw [if_pos (by omega)]
    have go : fX11_advanceToken_26 (fX11_advanceToken_0 f) (rx M y) = fX11_advanceToken_39 (rx M (upd y 14 (nI (runF (fun j => kdB (M.2 8 j) == 4) r (p + 1))))) := by
      rw [fX11_advanceToken_26, rx_1, rx_11, rx_2, vu, rx_p, fX11_advanceToken_36, h14, nI_1, ih (p + 1) f _ (by omega) (by omega) (by rw [pk_un (by omega)]; exact h9) pk_us, upd_upd]
    rw [fX11_advanceToken_0]
    dsimp only
    rw [rx_1, h14, r_byteAt h9 hn (by omega), Option.bind_some, e, fX11_advanceToken_8, runF]
    by_cases q : kdB (M.2 8 p) = 4
    · rw [if_pos (show (kdB (M.2 8 p) == 4) = true by simp [q])]
      rcases bl_k.mpr q with h | h
      · rw [if_pos h, go]
      · rw [if_neg (show ¬ M.2 8 p = 32 by rw [h]; decide), fX11_advanceToken_13, rx_1, h14, r_byteAt h9 hn (by omega), Option.bind_some, e, fX11_advanceToken_21, if_pos h, go]
    · rw [if_neg (show ¬ (kdB (M.2 8 p) == 4) = true by simp [q]), if_neg (fun h => q (bl_k.mp (Or.inl h))), fX11_advanceToken_13, rx_1, h14, r_byteAt h9 hn (by omega), Option.bind_some, e, fX11_advanceToken_21, if_neg (fun h => q (bl_k.mp (Or.inr h))), upd_at h14]
theorem r_letters (hn : n ≤ 600) : ∀ r p f (y : Nat → Int32), n = p + r → r < f → y 9 = nI n → y 14 = nI p → fX11_advanceToken_85 f (rx M y) = fX11_advanceToken_109 (rx M (upd y 14 (nI (runF (fun j => kdB (M.2 8 j) == 1) r p)))) := by
  intro r
  induction r with
  | zero =>
    intro p f y hp hf h9 h14
    obtain ⟨f, rfl⟩ : ∃ g, f = g + 1 := ⟨f - 1, by omega⟩
    have e : isL (rv M n p) = 0 := isL_k.mpr (by rw [rv_k, if_neg (by omega)]; omega)
    rw [fX11_advanceToken_85]
    dsimp only
    rw [rx_1, h14, r_isLetter h9 hn (by omega), Option.bind_some, e, fX11_advanceToken_93, if_pos rfl, runF, upd_at h14]
  | succ r ih =>
    intro p f y hp hf h9 h14
    obtain ⟨f, rfl⟩ : ∃ g, f = g + 1 := ⟨f - 1, by omega⟩
    have e : kdB (rv M n p) = kdB (M.2 8 p) := by rw [rv_k, if_pos (by omega)]
    rw [fX11_advanceToken_85]
    dsimp only
    rw [rx_1, h14, r_isLetter h9 hn (by omega), Option.bind_some, fX11_advanceToken_93, runF]
    by_cases q : kdB (M.2 8 p) = 1
    · rw [if_pos (show (kdB (M.2 8 p) == 1) = true by simp [q]), if_neg (fun z => isL_k.mp z (e.trans q)), fX11_advanceToken_96, rx_1, rx_11, rx_2, vu, rx_p, fX11_advanceToken_106, h14, nI_1, ih (p + 1) f _ (by omega) (by omega) (by rw [pk_un (by omega)]; exact h9) pk_us, upd_upd]
    · rw [if_neg (show ¬ (kdB (M.2 8 p) == 1) = true by simp [q]), if_pos (isL_k.mpr (fun z => q (e.symm.trans z))), upd_at h14]
def numV (b : Nat → Int32) (s : Nat) : Nat → Int32
  | 0 => 0
  | i + 1 => 10 * numV b s i + b (s + i) - 48
theorem r_digits (hn : n ≤ 600) : ∀ r p f (y : Nat → Int32), n = p + r → r < f → s ≤ p → y 9 = nI n → y 14 = nI p → y 15 = nI s → y 16 = numV (M.2 8) s (min (p - s) 4) → fX11_advanceToken_146 f (rx M y) = fX11_advanceToken_220 (rx M (upd (upd y 14 (nI (runF (fun j => kdB (M.2 8 j) == 2) r p))) 16 (numV (M.2 8) s (min (runF (fun j => kdB (M.2 8 j) == 2) r p - s) 4)))) := by
  intro r
  induction r with
  | zero =>
    intro p f y hp hf hs h9 h14 h15 h16
    obtain ⟨f, rfl⟩ : ∃ g, f = g + 1 := ⟨f - 1, by omega⟩
    have e : isD (rv M n p) = 0 := isD_k.mpr (by rw [rv_k, if_neg (by omega)]; omega)
    rw [fX11_advanceToken_146]
    dsimp only
    rw [rx_1, h14, r_byteAt h9 hn (by omega), Option.bind_some, fX11_advanceToken_154, r_inRange, Option.bind_some]
    rw [show (if rv M n p < 48 then (0 : Int32) else if 57 < rv M n p then 0 else 1) = 0 from e, fX11_advanceToken_161, if_pos rfl, runF, upd_at h14, upd_at h16]
  | succ r ih =>
    intro p f y hp hf hs h9 h14 h15 h16
    obtain ⟨f, rfl⟩ : ∃ g, f = g + 1 := ⟨f - 1, by omega⟩
    have e : kdB (rv M n p) = kdB (M.2 8 p) := by rw [rv_k, if_pos (by omega)]
    have ev : rv M n p = M.2 8 p := by unfold rv; rw [if_pos (by omega)]
    rw [fX11_advanceToken_146]
    dsimp only
    rw [rx_1, h14, r_byteAt h9 hn (by omega), Option.bind_some, fX11_advanceToken_154, r_inRange, Option.bind_some, fX11_advanceToken_161, runF]
    by_cases q : kdB (M.2 8 p) = 2
    · rw [if_pos (show (kdB (M.2 8 p) == 2) = true by simp [q]), if_neg (show ¬ (if rv M n p < 48 then (0 : Int32) else if 57 < rv M n p then 0 else 1) = 0 from fun z => isD_k.mp z (e.trans q))]
      have go : fX11_advanceToken_164 (fX11_advanceToken_146 f) (rx M y) = fX11_advanceToken_207 (fX11_advanceToken_146 f) (rx M (upd y 16 (numV (M.2 8) s (min (p + 1 - s) 4)))) := by
        rw [fX11_advanceToken_164, rx_1, rx_1, h14, h15, pk_sub hs]
        by_cases g : 4 ≤ p - s
        · rw [if_pos (show (4 : Int32) ≤ nI (p - s) from nI_le (a := 4) g (by omega)), fX11_advanceToken_200, fX11_advanceToken_204, rx_1, rx_11, rx_2, vu, rx_p, h16, show min (p + 1 - s) 4 = min (p - s) 4 by omega]
        · rw [if_neg (show ¬ (4 : Int32) ≤ nI (p - s) from nI_ge (b := 4) (by omega) (by omega)), fX11_advanceToken_178, rx_1, h14, r_byteAt h9 hn (by omega), Option.bind_some, fX11_advanceToken_193, fX11_advanceToken_204, rx_1, rx_11, rx_2, vu, rx_p, h16, ev, show min (p + 1 - s) 4 = min (p - s) 4 + 1 by omega, numV, show s + min (p - s) 4 = p by omega]
      rw [go, fX11_advanceToken_207, rx_1, rx_11, rx_2, vu, rx_p, fX11_advanceToken_217, pk_un (by omega), h14, nI_1, ih (p + 1) f _ (by omega) (by omega) (by omega) (by simp (disch := omega) only [pk_un]; exact h9) pk_us (by simp (disch := omega) only [pk_un]; exact h15) (by rw [pk_un (by omega), pk_us])]
      refine congrArg (fun z => fX11_advanceToken_220 (rx M z)) (funext fun j => ?_)
      unfold upd
      repeat' split
      all_goals rfl
    · rw [if_neg (show ¬ (kdB (M.2 8 p) == 2) = true by simp [q]), if_pos (show (if rv M n p < 48 then (0 : Int32) else if 57 < rv M n p then 0 else 1) = 0 from isD_k.mpr (fun z => q (e.symm.trans z))), upd_at h14, upd_at h16]
def tkr (y : Nat → Int32) (s e k : Nat) (v : Int32) : Nat → Int32 := upd (upd (upd (upd y 15 (nI s)) 14 (nI e)) 16 v) 17 (nI (if k = 5 then 4 else k))
def tkV (b : Nat → Int32) (k : Nat → Nat) (n s : Nat) : Int32 := if s < n ∧ k s = 2 then numV b s (min (tkE k n s - s) 4) else 0
theorem r_advance (h9 : y 9 = nI n) (hn : n ≤ 600) (h14 : y 14 = nI p) (hp : p ≤ n) (hb : ∀ j, j < n → ¬ M.2 8 j = -1) {k : Nat → Nat} (hk : k = fun j => kdB (M.2 8 j)) : fX11_advanceToken (rx M y) = some (rx M (tkr y (skp k n p) (tkD k n (skp k n p)) (tkK k n (skp k n p)) (tkV (M.2 8) k n (skp k n p)))) := by
  have a : fX11_advanceToken_0 FU (rx M y) = fX11_advanceToken_39 (rx M (upd y 14 (nI (skp k n p)))) := by
    have := r_skip (M := M) hn (n - p) p FU y (by omega) (by rw [FU_eq]; omega) h9 h14
    rw [this, hk]
    rfl
  have hs : skp k n p ≤ n := skp_le hp
  have hnb : skp k n p < n → ¬ k (skp k n p) = 4 := fun h z => by
    have := runF_out (P := fun j => k j == 4) (n - p) p (by show skp k n p < _; omega)
    rw [show (k (runF (fun j => k j == 4) (n - p) p) == 4) = true from beq_iff_eq.mpr z] at this
    cases this
  unfold fX11_advanceToken
  rw [a]
  generalize skp k n p = s at *
  have g9 : ∀ v, (upd (upd y 14 (nI s)) 15 v) 9 = nI n := fun v => by rw [pk_un (by omega), pk_un (by omega)]; exact h9
  rw [fX11_advanceToken_39, rx_1, rx_11, rx_2, vu, rx_p, pk_us, fX11_advanceToken_47, rx_1, pk_un (by omega), pk_us, r_byteAt (g9 _) hn (by omega), Option.bind_some, fX11_advanceToken_55, rx_11, rx_2, vu, rx_p, fX11_advanceToken_61]
  have y9 : (upd (upd (upd y 14 (nI s)) 15 (nI s)) 16 0) 9 = nI n := by rw [pk_un (by omega)]; exact g9 _
  have y14 : (upd (upd (upd y 14 (nI s)) 15 (nI s)) 16 0) 14 = nI s := by rw [pk_un (by omega), pk_un (by omega), pk_us]
  have y15 : (upd (upd (upd y 14 (nI s)) 15 (nI s)) 16 0) 15 = nI s := by rw [pk_un (by omega), pk_us]
  have y16 : (upd (upd (upd y 14 (nI s)) 15 (nI s)) 16 0) 16 = 0 := pk_us
  have yo : ∀ j, j ≠ 14 → j ≠ 15 → j ≠ 16 → (upd (upd (upd y 14 (nI s)) 15 (nI s)) 16 0) j = y j := fun j a b c => by rw [pk_un c, pk_un b, pk_un a]
  generalize upd (upd (upd y 14 (nI s)) 15 (nI s)) 16 0 = z at *
  have fin : ∀ (e kr : Nat) (v : Int32) (u : Nat → Int32), e = tkD k n s → kr = (if tkK k n s = 5 then 4 else tkK k n s) → v = tkV (M.2 8) k n s → u 14 = nI e → u 15 = nI s → u 16 = v → (∀ j, j ≠ 14 → j ≠ 15 → j ≠ 16 → u j = y j) → (some (rx M (upd u 17 (nI kr))) : Option MS) = some (rx M (tkr y s (tkD k n s) (tkK k n s) (tkV (M.2 8) k n s))) := fun e kr v u he hkr hv u14 u15 u16 uo => by
    refine congrArg (fun f => some (rx M f)) (funext fun j => ?_)
    unfold tkr
    rw [← he, ← hkr, ← hv]
    by_cases j17 : j = 17
    · subst j17; rw [pk_us, pk_us]
    · rw [pk_un j17, pk_un j17]
      by_cases j16 : j = 16
      · subst j16; rw [pk_us, u16]
      · rw [pk_un j16]
        by_cases j14 : j = 14
        · subst j14; rw [pk_us, u14]
        · rw [pk_un j14]
          by_cases j15 : j = 15
          · subst j15; rw [pk_us, u15]
          · rw [pk_un j15, uo j j14 j15 j16]
  by_cases q : s < n
  · have ev : rv M n s = M.2 8 s := by unfold rv; rw [if_pos q]
    have ek : k s = kdB (M.2 8 s) := by rw [hk]
    have m1 := hb s q
    rw [ev]
    have e1 := tkE_gt (k := k) (n := n) (s := s)
    have e2 := tkE_le (k := k) q
    rw [if_neg m1, fX11_advanceToken_74, rx_1, y14, r_isLetter y9 hn (by omega), Option.bind_some, fX11_advanceToken_82, ev]
    by_cases k1 : k s = 1
    · rw [if_neg (fun w => isL_k.mp w (ek.symm.trans k1))]
      have hf : FU = 2999 + 1 := rfl
      have r1 : fX11_advanceToken_85 FU (rx M z) = fX11_advanceToken_109 (rx M (upd z 14 (nI (tkE k n s)))) := by
        rw [r_letters hn (n - s) s FU z (by omega) (by rw [FU_eq]; omega) y9 y14]
        have : runF (fun j => kdB (M.2 8 j) == 1) (n - s) s = tkE k n s := by
          rw [show n - s = (n - (s + 1)) + 1 by omega, runF, if_pos (by simp [← ek, k1])]
          unfold tkE
          rw [if_pos (Or.inl k1), k1, hk]
        rw [this]
      have kk : tkK k n s = if 8 < tkE k n s - s then 5 else 1 := by
        unfold tkK
        rw [if_pos q, k1]
        by_cases g : 8 < tkE k n s - s
        · rw [if_pos (Or.inl ⟨rfl, g⟩), if_pos g]
        · rw [if_neg (by omega), if_neg g]
      have hD : tkE k n s = tkD k n s := by unfold tkD; rw [if_pos q]
      have hV : (0 : Int32) = tkV (M.2 8) k n s := by unfold tkV; rw [if_neg (by omega)]
      rw [r1, fX11_advanceToken_109, rx_1, rx_1, pk_us, pk_un (by omega), y15, pk_sub (by omega)]
      by_cases g : tkE k n s - s ≤ 8
      · rw [if_pos (show nI (tkE k n s - s) ≤ (8 : Int32) from nI_le (b := 8) g (by omega)), fX11_advanceToken_128, fX11_advanceToken_129, rx_11, rx_2, vu, rx_p, fX11_advanceToken_132, fX11_advanceToken_270]
        have k' : tkK k n s = 1 := kk.trans (if_neg (by omega))
        exact fin _ 1 0 _ hD (by rw [k']; rfl) hV pk_us (by rw [pk_un (by omega)]; exact y15) (by rw [pk_un (by omega)]; exact y16) (fun j a b c => by rw [pk_un a]; exact yo j a b c)
      · rw [if_neg (show ¬ nI (tkE k n s - s) ≤ (8 : Int32) from nI_ge (a := 8) (by omega) (by omega)), fX11_advanceToken_124, fX11_advanceToken_129, rx_11, rx_2, vu, rx_p, fX11_advanceToken_132, fX11_advanceToken_270]
        have k' : tkK k n s = 5 := kk.trans (if_pos (by omega))
        exact fin _ 4 0 _ hD (by rw [k']; rfl) hV pk_us (by rw [pk_un (by omega)]; exact y15) (by rw [pk_un (by omega)]; exact y16) (fun j a b c => by rw [pk_un a]; exact yo j a b c)
    · rw [if_pos (isL_k.mpr (fun w => k1 (ek.trans w))), fX11_advanceToken_135, r_inRange, Option.bind_some, fX11_advanceToken_143]
      by_cases k2 : k s = 2
      · rw [if_neg (show ¬ (if M.2 8 s < 48 then (0 : Int32) else if 57 < M.2 8 s then 0 else 1) = 0 from fun w => isD_k.mp w (ek.symm.trans k2))]
        have hrun : runF (fun j => kdB (M.2 8 j) == 2) (n - s) s = tkE k n s := by
          rw [show n - s = (n - (s + 1)) + 1 by omega, runF, if_pos (by simp [← ek, k2])]
          unfold tkE
          rw [if_pos (Or.inr k2), k2, hk]
        have r1 := r_digits (M := M) (s := s) hn (n - s) s FU z (by omega) (by rw [FU_eq]; omega) (Nat.le_refl _) y9 y14 y15 (by rw [Nat.sub_self]; exact y16)
        rw [hrun] at r1
        have kk : tkK k n s = if 4 < tkE k n s - s then 5 else 2 := by
          unfold tkK
          rw [if_pos q, k2]
          by_cases g : 4 < tkE k n s - s
          · rw [if_pos (Or.inr ⟨rfl, g⟩), if_pos g]
          · rw [if_neg (by omega), if_neg g]
        have hD : tkE k n s = tkD k n s := by unfold tkD; rw [if_pos q]
        have hV : numV (M.2 8) s (min (tkE k n s - s) 4) = tkV (M.2 8) k n s := by unfold tkV; rw [if_pos ⟨q, k2⟩]
        rw [r1, fX11_advanceToken_220, rx_1, rx_1, pk_un (by omega), pk_us, pk_un (by omega), pk_un (by omega), y15, pk_sub (by omega)]
        by_cases g : tkE k n s - s ≤ 4
        · rw [if_pos (show nI (tkE k n s - s) ≤ (4 : Int32) from nI_le (b := 4) g (by omega)), fX11_advanceToken_238, fX11_advanceToken_239, rx_11, rx_2, vu, rx_p, fX11_advanceToken_242, fX11_advanceToken_270]
          have k' : tkK k n s = 2 := kk.trans (if_neg (by omega))
          exact fin _ 2 _ _ hD (by rw [k']; rfl) hV (by rw [pk_un (by omega), pk_us]) (by rw [pk_un (by omega), pk_un (by omega)]; exact y15) pk_us (fun j a b c => by rw [pk_un c, pk_un a]; exact yo j a b c)
        · rw [if_neg (show ¬ nI (tkE k n s - s) ≤ (4 : Int32) from nI_ge (a := 4) (by omega) (by omega)), fX11_advanceToken_234, fX11_advanceToken_239, rx_11, rx_2, vu, rx_p, fX11_advanceToken_242, fX11_advanceToken_270]
          have k' : tkK k n s = 5 := kk.trans (if_pos (by omega))
          exact fin _ 4 _ _ hD (by rw [k']; rfl) hV (by rw [pk_un (by omega), pk_us]) (by rw [pk_un (by omega), pk_un (by omega)]; exact y15) pk_us (fun j a b c => by rw [pk_un c, pk_un a]; exact yo j a b c)
      · rw [if_pos (show (if M.2 8 s < 48 then (0 : Int32) else if 57 < M.2 8 s then 0 else 1) = 0 from isD_k.mpr (fun w => k2 (ek.trans w))), fX11_advanceToken_245]
        have k4 := hnb q
        have lt := kdB_lt (c := M.2 8 s)
        have hD : s + 1 = tkD k n s := by unfold tkD tkE; rw [if_pos q, if_neg (by omega)]
        have hV : (0 : Int32) = tkV (M.2 8) k n s := by unfold tkV; rw [if_neg (by omega)]
        have kk : tkK k n s = k s := by unfold tkK; rw [if_pos q, if_neg (by omega)]
        have cm : ∀ kr : Int32, upd (upd z 17 kr) 14 (nI (s + 1)) = upd (upd z 14 (nI (s + 1))) 17 kr := fun kr => funext fun j => by
          unfold upd
          repeat' split
          all_goals first | rfl | omega
        by_cases k3 : k s = 3
        · rw [if_pos (sm_k.mpr (ek.symm.trans k3)), fX11_advanceToken_252, fX11_advanceToken_257, rx_11, rx_2, vu, rx_p, fX11_advanceToken_260, rx_1, rx_11, rx_2, vu, rx_p, pk_un (by omega), y14, nI_1, fX11_advanceToken_270, cm]
          exact fin _ 3 0 _ hD (by rw [kk, k3]; rfl) hV pk_us (by rw [pk_un (by omega)]; exact y15) (by rw [pk_un (by omega)]; exact y16) (fun j a b c => by rw [pk_un a]; exact yo j a b c)
        · rw [if_neg (fun w => k3 (ek.trans (sm_k.mp w))), fX11_advanceToken_256, fX11_advanceToken_257, rx_11, rx_2, vu, rx_p, fX11_advanceToken_260, rx_1, rx_11, rx_2, vu, rx_p, pk_un (by omega), y14, nI_1, fX11_advanceToken_270, cm]
          have k0 : ¬ k s = 0 := by
            rw [ek]
            unfold kdB
            repeat' split
            all_goals omega
          exact fin _ 4 0 _ hD (by rw [kk, if_pos (by omega)]) hV pk_us (by rw [pk_un (by omega)]; exact y15) (by rw [pk_un (by omega)]; exact y16) (fun j a b c => by rw [pk_un a]; exact yo j a b c)
  · have ev : rv M n s = -1 := by unfold rv; rw [if_neg q]
    rw [ev, if_pos rfl, fX11_advanceToken_66, rx_11, rx_2, vu, rx_p, fX11_advanceToken_71, fX11_advanceToken_270]
    exact fin s 0 0 z (by unfold tkD; rw [if_neg q]) (by unfold tkK; rw [if_neg q]; rfl) (by unfold tkV; rw [if_neg (by omega)]) y14 y15 y16 yo
end TOKR
