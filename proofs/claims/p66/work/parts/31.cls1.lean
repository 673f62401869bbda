/-! the class's hour says the plain words -/
section CLS1
variable {S : CS} {t nc ns nh k : Nat} {w : Wd} {E : Nat → Nat → Int32}
theorem cer0 : (cw S t nc ns nh w E).1 (t + 4) = E 0 := funext fun f => ce0
theorem cer1 : (cw S t nc ns nh w E).1 (t + 4 + 1) = E 1 := funext fun f => ce1
theorem cer2 : (cw S t nc ns nh w E).1 (t + 4 + 2) = E 2 := funext fun f => ce2
theorem cer3 : (cw S t nc ns nh w E).1 (t + 4 + 3) = E 3 := funext fun f => ce3
theorem va_n {α : Type} {f : Nat → α} {j k : Nat} {v : α} (h : j ≠ k) : va_up f k v j = f j := by simp [va_up, h]
theorem mx0 (x : Int32) : (if x < 0 then 0 else x) = (if 0 < x then x else 0) := by
  by_cases h : x < 0
  · rw [if_pos h, if_neg (fun z => by rw [Int32.lt_iff_toInt_lt] at h z; omega)]
  · rw [if_neg h]
    by_cases g : 0 < x
    · rw [if_pos g]
    · rw [if_neg g]
      apply Int32.toInt_inj.mp
      rw [Int32.lt_iff_toInt_lt] at h g
      rw [Int32.toInt_zero] at h g ⊢
      omega
theorem mn2 (a b : Int32) : (if a < b then a else b) = (if b < a then b else a) := by
  by_cases h : a < b
  · rw [if_pos h, if_neg (fun z => by rw [Int32.lt_iff_toInt_lt] at h z; omega)]
  · rw [if_neg h]
    by_cases g : b < a
    · rw [if_pos g]
    · rw [if_neg g]
      apply Int32.toInt_inj.mp
      rw [Int32.lt_iff_toInt_lt] at h g
      omega
/-- the ring takes an event -/
def addE (E : Nat → Nat → Int32) (a b c : Int32) : Nat → Nat → Int32 :=
  va_up (va_up (va_up (va_up E 1 (upd (E 1) (E 0 4).toNatClampNeg a)) 2 (upd (E 2) (E 0 4).toNatClampNeg b)) 3 (upd (E 3) (E 0 4).toNatClampNeg c)) 0
    (upd (upd (E 0) 4 (E 0 4 + 1 - (E 0 4 + 1) / 16 * 16)) 3 (if 16 < E 0 3 + 1 then 16 else E 0 3 + 1))
def EvRel (E : Nat → Nat → Int32) (w : Wd) : Prop := ∃ nx c, nx < 16 ∧ c ≤ 16 ∧ E 0 4 = nI nx ∧ E 0 3 = nI c ∧ w 16 = nI c ∧ ∀ k, k < c → E 1 ((nx + 15 - k) % 16) = w (17 + 3 * k) ∧ E 2 ((nx + 15 - k) % 16) = w (18 + 3 * k) ∧ E 3 ((nx + 15 - k) % 16) = w (19 + 3 * k)
theorem c_add {a b c : Int32} {nx : Nat} (h : E 0 4 = nI nx) (hn : nx < 16) : fX1_add (cw S t nc ns nh w E) (t + 4) a b c = some (cw S t nc ns nh w (addE E a b c)) := by
  simp (disch := omega) only [fX1_add_58, fX1_add_43, fX1_add_30, fX1_add_20, fX1_add_10, fX1_add_0, fX1_add, cer0, cer1, cer2, cer3, we0, we1, we2, we3, va_n, va_s, up_up, h, gi_m, nI_c, cw_p, cw_2, pk_un, pk_us, addE]
theorem EvRel.e16 (h : EvRel E w) : ∃ e, e ≤ 16 ∧ w 16 = nI e := by obtain ⟨nx, c, h1, h2, h3, h4, h5, h6⟩ := h; exact ⟨c, h2, h5⟩
theorem EvRel.only {v : Wd} {A : Nat → Prop} (h : EvRel E w) (o : Only A w v) (hA : ∀ q, A q → q < 16 ∨ 65 ≤ q) : EvRel E v := by
  obtain ⟨nx, c, h1, h2, h3, h4, h5, h6⟩ := h
  have e : ∀ q, 16 ≤ q → q < 65 → v q = w q := fun q a b => o q (fun z => by have := hA q z; omega)
  refine ⟨nx, c, h1, h2, h3, h4, by rw [e 16 (by omega) (by omega)]; exact h5, fun k hk => ?_⟩
  rw [e _ (by omega) (by omega), e _ (by omega) (by omega), e _ (by omega) (by omega)]
  exact h6 k hk
theorem ring_ne {nx k : Nat} (hn : nx < 16) (hk : k < 15) : (nx + 15 - k) % 16 ≠ nx := by omega
theorem EvRel.add {a b c : Int32} (h : EvRel E w) : EvRel (addE E a b c) (logsW w a b c) := by
  obtain ⟨nx, n, h1, h2, h3, h4, h5, h6⟩ := h
  have hL : logM w = nI (if 16 ≤ n then n else n + 1) := by
    unfold logM
    rw [h5]
    by_cases q : 16 ≤ n
    · rw [if_pos (show (16 : Int32) ≤ nI n from nI_le (a := 16) q (by omega)), if_pos q]
    · rw [if_neg (show ¬ (16 : Int32) ≤ nI n from nI_ge (b := 16) (by omega) (by omega)), nI_1, if_neg q]
  have hC : (if 16 < nI n + 1 then 16 else nI n + 1 : Int32) = nI (if 16 ≤ n then n else n + 1) := by
    rw [nI_1]
    by_cases q : 16 ≤ n
    · rw [if_pos (show (16 : Int32) < nI (n + 1) from nI_lt (a := 16) (by omega) (by omega)), if_pos q]; exact congrArg nI (show 16 = n by omega)
    · rw [if_neg (show ¬ (16 : Int32) < nI (n + 1) from nI_nlt (b := n + 1) (a := 16) (by omega) (by omega)), if_neg q]
  have hm : (if 16 ≤ n then n else n + 1) ≤ 16 := by split <;> omega
  refine ⟨(nx + 1) % 16, if 16 ≤ n then n else n + 1, Nat.mod_lt _ (by omega), hm, ?_, ?_, ?_, ?_⟩
  · unfold addE
    rw [va_s, pk_un (by omega), pk_us, h3, nI_1]
    exact pk_rem (a := nx + 1) (d := 16) (by omega) (by omega) (by omega)
  · unfold addE
    rw [va_s, pk_us, h4, hC]
  · unfold logsW
    simp (disch := omega) only [pk_un]
    unfold shf
    rw [if_neg (by omega), pk_us, hL]
  intro k hk
  have hj : ((nx + 1) % 16 + 15 - k) % 16 = (nx + 16 - k) % 16 := by omega
  rw [hj]
  unfold addE logsW
  rw [hL, nI_clamp (by omega), h3, nI_clamp (by omega)]
  by_cases k0 : k = 0
  · subst k0
    rw [show (nx + 16 - 0) % 16 = nx by omega]
    simp (disch := omega) only [va_n, va_s, pk_us, pk_un, Nat.mul_zero, Nat.add_zero, and_self]
  · obtain ⟨p, rfl⟩ : ∃ p, k = p + 1 := ⟨k - 1, by omega⟩
    have hp : p < n := by split at hk <;> omega
    have hne : (nx + 16 - (p + 1)) % 16 ≠ nx := by have : p + 1 < 16 := by split at hk <;> omega
                                                   omega
    obtain ⟨g1, g2, g3⟩ := h6 p hp
    rw [show (nx + 15 - p) % 16 = (nx + 16 - (p + 1)) % 16 by omega] at g1 g2 g3
    simp (disch := omega) only [va_n, va_s, pk_un]
    unfold shf
    refine ⟨?_, ?_, ?_⟩
    · rw [g1, if_pos (by omega), pk_un (by omega)]; exact congrArg w (by omega)
    · rw [g2, if_pos (by omega), pk_un (by omega)]; exact congrArg w (by omega)
    · rw [g3, if_pos (by omega), pk_un (by omega)]; exact congrArg w (by omega)
/-- flaps are shut or not -/
def Fl (n : Nat) (w : Wd) : Prop := ∀ k, k < n → w (161 + 12 * k + 9) = 0 ∨ w (161 + 12 * k + 9) = 1
theorem c_nextOpen_l (hw : w 1 = nI ns) (hn : ns ≤ 6) (hf : Fl ns w) (hk : k < ns) : ∀ r j f, ns = j + r → r < f → fX2_nextOpenSack_2 t f (cw S t nc ns nh w E) (nI k) (nI j) = some (nxtL w ns k r j) := by
  intro r
  induction r with
  | zero =>
    intro j f hj hf'
    obtain ⟨f, rfl⟩ : ∃ g, f = g + 1 := ⟨f - 1, by omega⟩
    rw [fX2_nextOpenSack_2]
    dsimp only
    rw [ch6, hw, if_pos (nI_le (show ns ≤ j by omega) (by omega))]
    rfl
  | succ r ih =>
    intro j f hj hf'
    obtain ⟨f, rfl⟩ : ∃ g, f = g + 1 := ⟨f - 1, by omega⟩
    have e1 : nI k + nI j - (nI k + nI j) / nI ns * nI ns = nI ((k + j) % ns) := by rw [nI_add, pk_rem (by omega) (by omega) (by omega)]
    have hq : (k + j) % ns < ns := Nat.mod_lt _ (by omega)
    have h6 : (k + j) % ns < 6 := Nat.lt_of_lt_of_le hq hn
    rw [fX2_nextOpenSack_2]
    dsimp only
    rw [ch6, hw, if_neg (nI_ge (show j < ns by omega) (by omega)), fX2_nextOpenSack_10, ch6, hw, if_pos (nI_ne0 (show 0 < ns by omega) (by omega)), e1, gi_m h6 (by omega), nI_c (by omega), cs3 hq h6, nxtL]
    rcases hf _ hq with h | h
    · rw [if_pos h, if_neg (by rw [h]; decide), fX2_nextOpenSack_33, nI_1]
      exact ih (j + 1) f (by omega) (by omega)
    · rw [if_neg (by rw [h]; decide), if_pos h, fX2_nextOpenSack_31]
theorem c_nextOpen (hw : w 1 = nI ns) (hn : ns ≤ 6) (hf : Fl ns w) (hk : k < ns) : fX2_nextOpenSack (cw S t nc ns nh w E) t (nI k) = some (nextW w k) := by
  unfold fX2_nextOpenSack fX2_nextOpenSack_0 nextW
  rw [nS_of hw hn]
  exact c_nextOpen_l hw hn hf hk (ns - 1) 1 FU (by omega) (by rw [FU_eq]; omega)
theorem c_starve (hk : k < ns) (h6 : k < 6) {x : Int32} : fX2_starve (cw S t nc ns nh w E) t (t + 2 + 15 + k) x = some (cw S t nc ns nh (starveW w k x) E) := by
  simp (disch := omega) only [fX2_starve_23, fX2_starve_10, fX2_starve_0, fX2_starve, cs2, wsk2, cg3, wg3, cw_2, cw_p, pk_un, starveW]
/-- mice and grain stay within bounds -/
def Bd (n : Nat) (w : Wd) : Prop := ∀ k, k < n → (∃ m, m ≤ 99 ∧ w (161 + 12 * k + 8) = nI m) ∧ (∃ g, g ≤ 9999 ∧ w (161 + 12 * k + 7) = nI g)
theorem upd_self {f : Wd} {k : Nat} : upd f k (f k) = f := funext fun j => by unfold upd; split <;> simp_all
theorem starve0 : starveW w k 0 = w := by
  unfold starveW
  rw [Int32.sub_zero, Int32.add_zero, upd_self, upd_self]
theorem c_moves_end {j : Nat} (hj : j < ns) (h6 : j < 6) {m : Nat} (hm : m ≤ 198) (e : w (161 + 12 * j + 8) = nI m) : starveW w j (if w (161 + 12 * j + 8) - 99 < 0 then 0 else w (161 + 12 * j + 8) - 99) = (if nI m ≤ 99 then w else starveW w j (nI m - 99)) := by
  rw [e]
  by_cases h : m ≤ 99
  · rw [if_pos (show nI m ≤ (99 : Int32) from nI_le (b := 99) h (by omega))]
    by_cases g : m = 99
    · subst g
      rw [if_neg (by decide)]
      exact starve0
    · rw [if_pos (show nI m - (99 : Int32) < 0 from pk_sneg (b := 99) (by omega) (by omega))]
      exact starve0
  · rw [if_neg (show ¬ nI m ≤ (99 : Int32) from nI_ge (a := 99) (by omega) (by omega)), if_neg (show ¬ nI m - (99 : Int32) < 0 by rw [show nI m - (99 : Int32) = nI (m - 99) from pk_sub (b := 99) (by omega)]; exact nI_pos (by omega))]
theorem c_tail (hw : w 1 = nI ns) (hn : ns ≤ 6) (hf : Fl ns w) (hk : k < ns) (hb : ∀ j, j < ns → ∃ m, m ≤ 99 ∧ w (161 + 12 * j + 8) = nI m) : fX2_feedMice_52 t (cw S t nc ns nh w E) (t + 2 + 15 + k) (nI k) = some (cw S t nc ns nh (if w (161 + 12 * k + 8) = 0 then w else if w (161 + 12 * k + 7) ≤ 0 then (if w (161 + 12 * k + 9) = 1 then tailW w k (w (161 + 12 * k + 8)) (nextW w k) else tailW w k (w (161 + 12 * k + 8)) (-1)) else w) E) := by
  have hk6 : k < 6 := by omega
  simp only [fX2_feedMice_52, fX2_feedMice_66, cs2 hk hk6, fX2_feedMice_59, cs1 hk hk6, fX2_feedMice_67, cs3 hk hk6, fX2_feedMice_74, c_nextOpen hw hn hf hk, Option.bind_some, fX2_feedMice_79, fX2_feedMice_82, fX2_feedMice_83, fX2_feedMice_91, c_starve hk hk6, fX2_feedMice_104, fX2_feedMice_159]
  by_cases h1 : w (161 + 12 * k + 8) = 0
  · rw [if_pos h1, if_pos h1]
  rw [if_neg h1, if_neg h1]
  by_cases h2 : w (161 + 12 * k + 7) ≤ 0
  · rw [if_pos h2, if_pos h2]
    rcases hf k hk with h3 | h3
    · rw [if_pos h3, if_pos trivial, if_neg (show ¬ w (161 + 12 * k + 9) = 1 by rw [h3]; decide)]; rfl
    · rw [if_neg (by rw [h3]; decide), if_pos h3]
      rcases nextW_in hw hn hk with h4 | ⟨i, i1, i2, i3, -⟩
      · rw [h4, if_pos rfl]; rfl
      · have hi6 : i < 6 := by omega
        rw [i3, if_neg (nI_nem (by omega))]
        obtain ⟨a, ha, ea⟩ := hb i i1
        obtain ⟨b, hb', eb⟩ := hb k hk
        have e := c_moves_end (w := upd (upd w (161 + 12 * i + 8) (w (161 + 12 * i + 8) + w (161 + 12 * k + 8))) (161 + 12 * k + 8) 0) i1 hi6 (m := a + b) (by omega) (by rw [pk_un (by omega), pk_us, ea, eb, nI_add])
        simp (disch := omega) only [fX2_feedMice_107, gi_m, nI_c, cs2, wsk2, cw_2, cw_p, fX2_feedMice_126, fX2_feedMice_131, c_starve, Option.bind_some, fX2_feedMice_159, e, tailW, movesW]
        rw [if_neg (nI_nem (by omega)), ea, eb, nI_add]
  · rw [if_neg h2, if_neg h2]
theorem c_feedMice (hw : w 1 = nI ns) (hn : ns ≤ 6) (hf : Fl ns w) (hk : k < ns) (hb : ∀ j, j < ns → ∃ m, m ≤ 99 ∧ w (161 + 12 * j + 8) = nI m) : fX2_feedMice (cw S t nc ns nh w E) t (nI k) = some (cw S t nc ns nh (eatsW w k) E) := by
  have hk6 : k < 6 := by omega
  have o : ∀ e, Only WE w (eatW w k e) := fun e => eatW_only hk6
  simp (disch := omega) only [fX2_feedMice, fX2_feedMice_0, fX2_feedMice_29, fX2_feedMice_39, gi_m, nI_c, cs1, cs2, cs4, wsk1, wsk4, cg1, wg1, cw_2, cw_p, pk_un]
  have h := c_tail (S := S) (t := t) (nc := nc) (nh := nh) (E := E) (w := eatW w k (if w (161 + 12 * k + 7) < w (161 + 12 * k + 8) then w (161 + 12 * k + 7) else w (161 + 12 * k + 8))) (ns := ns) (k := k) (by rw [o _ 1 (by unfold WE; omega)]; exact hw) hn (fun j hj => by rw [o _ _ (by unfold WE; omega)]; exact hf j hj) hk (fun j hj => by unfold eatW; simp (disch := omega) only [pk_un]; exact hb j hj)
  have e8 : ∀ e, eatW w k e (161 + 12 * k + 8) = w (161 + 12 * k + 8) := fun e => by unfold eatW; simp (disch := omega) only [pk_un]
  rw [e8] at h
  simp only [eatsW]
  exact h
end CLS1
