/-! a granary of the class holds the plain words w: 35 places from t on; E is its ring of events -/
def cm (nc ns nh o f : Nat) : Nat :=
  if o = 0 then (if f = 5 then 0 else if f = 6 then 1 else if f = 7 then 2 else if f = 8 then 5 else if f = 9 then 6 else if f = 10 then 7 else if f = 11 then 4 else if f = 12 then 3 else 999)
  else if o = 8 then (if f < 8 then 8 + f else 999)
  else if 9 ≤ o ∧ o < 17 then (if o - 9 < nc ∧ 1 ≤ f ∧ f ≤ 5 then (65 + 12 * (o - 9) + (f + 6)) else 999)
  else if 17 ≤ o ∧ o < 23 then (if o - 17 < ns ∧ 1 ≤ f ∧ f ≤ 4 then (161 + 12 * (o - 17) + (f + 6)) else 999)
  else if 23 ≤ o ∧ o < 35 then (if o - 23 < nh ∧ f < 2 then 233 + 2 * (o - 23) + f else 999)
  else 999
def ico (q : Nat) : Nat := if q < 8 then 0 else if q < 16 then 8 else if q < 161 then 9 + (q - 65) / 12 else if q < 233 then 17 + (q - 161) / 12 else 23 + (q - 233) / 2
def icf (q : Nat) : Nat := if q < 3 then 5 + q else if q = 3 then 12 else if q = 4 then 11 else if q < 8 then q + 3 else if q < 16 then q - 8 else if q < 161 then (q - 65) % 12 - 6 else if q < 233 then (q - 161) % 12 - 6 else (q - 233) % 2
theorem cm_in0 {nc ns nh f : Nat} (hn : cm nc ns nh 0 f ≠ 999) : ico (cm nc ns nh 0 f) = 0 ∧ icf (cm nc ns nh 0 f) = f := by
  unfold cm at hn ⊢
  rw [if_pos rfl] at hn ⊢
  by_cases h : f = 5 ∨ f = 6 ∨ f = 7 ∨ f = 8 ∨ f = 9 ∨ f = 10 ∨ f = 11 ∨ f = 12
  · rcases h with h | h | h | h | h | h | h | h <;> (subst h; decide)
  · exact absurd (by rw [if_neg (by omega), if_neg (by omega), if_neg (by omega), if_neg (by omega), if_neg (by omega), if_neg (by omega), if_neg (by omega), if_neg (by omega)]) hn
theorem cm_inv {nc ns nh o f : Nat} (hn : cm nc ns nh o f ≠ 999) : ico (cm nc ns nh o f) = o ∧ icf (cm nc ns nh o f) = f := by
  by_cases h0 : o = 0
  · subst h0; exact cm_in0 hn
  unfold cm at hn ⊢
  rw [if_neg h0] at hn ⊢
  by_cases h8 : o = 8
  · subst h8
    rw [if_pos rfl] at hn ⊢
    by_cases h : f < 8
    · rw [if_pos h]; unfold ico icf; rw [if_neg (by omega), if_pos (by omega), if_neg (by omega), if_neg (by omega), if_neg (by omega), if_neg (by omega), if_pos (by omega)]; omega
    · exact absurd (if_neg h) hn
  rw [if_neg h8] at hn ⊢
  by_cases h9 : 9 ≤ o ∧ o < 17
  · rw [if_pos h9] at hn ⊢
    by_cases h : o - 9 < nc ∧ 1 ≤ f ∧ f ≤ 5
    · rw [if_pos h]; unfold ico icf; rw [if_neg (by omega), if_neg (by omega), if_pos (by omega), if_neg (by omega), if_neg (by omega), if_neg (by omega), if_neg (by omega), if_neg (by omega), if_pos (by omega)]; omega
    · exact absurd (if_neg h) hn
  rw [if_neg h9] at hn ⊢
  by_cases h17 : 17 ≤ o ∧ o < 23
  · rw [if_pos h17] at hn ⊢
    by_cases h : o - 17 < ns ∧ 1 ≤ f ∧ f ≤ 4
    · rw [if_pos h]; unfold ico icf; rw [if_neg (by omega), if_neg (by omega), if_neg (by omega), if_pos (by omega), if_neg (by omega), if_neg (by omega), if_neg (by omega), if_neg (by omega), if_neg (by omega), if_neg (by omega), if_pos (by omega)]; omega
    · exact absurd (if_neg h) hn
  rw [if_neg h17] at hn ⊢
  by_cases h23 : 23 ≤ o ∧ o < 35
  · rw [if_pos h23] at hn ⊢
    by_cases h : o - 23 < nh ∧ f < 2
    · rw [if_pos h]; unfold ico icf; rw [if_neg (by omega), if_neg (by omega), if_neg (by omega), if_neg (by omega), if_neg (by omega), if_neg (by omega), if_neg (by omega), if_neg (by omega), if_neg (by omega), if_neg (by omega), if_neg (by omega)]; omega
    · exact absurd (if_neg h) hn
  rw [if_neg h23] at hn
  exact absurd rfl hn
theorem cm_inj {nc ns nh o f o' f' : Nat} (h : cm nc ns nh o f = cm nc ns nh o' f') (hn : cm nc ns nh o f ≠ 999) : o = o' ∧ f = f' := by
  obtain ⟨a, b⟩ := cm_inv hn
  obtain ⟨c, d⟩ := cm_inv (h ▸ hn : cm nc ns nh o' f' ≠ 999)
  rw [h] at a b
  exact ⟨a.symm.trans c, b.symm.trans d⟩
def gv (nc ns nh : Nat) (w : Wd) (E : Nat → Nat → Int32) (o f : Nat) (d : Int32) : Int32 := if 4 ≤ o ∧ o < 8 then E (o - 4) f else if cm nc ns nh o f = 999 then d else w (cm nc ns nh o f)
def cw (S : CS) (t nc ns nh : Nat) (w : Wd) (E : Nat → Nat → Int32) : CS := (fun p f => if t ≤ p ∧ p < t + 35 then gv nc ns nh w E (p - t) f (S.1 p f) else S.1 p f, S.2)
section CW
variable {S : CS} {t nc ns nh : Nat} {w : Wd} {E : Nat → Nat → Int32}
theorem cw_2 : (cw S t nc ns nh w E).2 = S.2 := rfl
theorem cw_p : ((cw S t nc ns nh w E).1, S.2) = cw S t nc ns nh w E := rfl
theorem cw_rd {o f q : Nat} (ho : o < 35) (h4 : ¬ (4 ≤ o ∧ o < 8)) (hq : cm nc ns nh o f = q) (hn : q ≠ 999) : (cw S t nc ns nh w E).1 (t + o) f = w q := by
  show (if t ≤ t + o ∧ t + o < t + 35 then gv nc ns nh w E (t + o - t) f (S.1 (t + o) f) else S.1 (t + o) f) = w q
  rw [if_pos (by omega), show t + o - t = o by omega]
  unfold gv
  rw [if_neg h4, hq, if_neg hn]
theorem cw_wr {o f q : Nat} {v : Int32} (ho : o < 35) (h4 : ¬ (4 ≤ o ∧ o < 8)) (hq : cm nc ns nh o f = q) (hn : q ≠ 999) : va_up (cw S t nc ns nh w E).1 (t + o) (upd ((cw S t nc ns nh w E).1 (t + o)) f v) = (cw S t nc ns nh (upd w q v) E).1 := by
  refine funext fun p => funext fun g => ?_
  show (if p = t + o then upd ((cw S t nc ns nh w E).1 (t + o)) f v else (cw S t nc ns nh w E).1 p) g = _
  by_cases hp : p = t + o
  · subst hp
    rw [if_pos rfl]
    by_cases hg : g = f
    · subst hg
      rw [pk_us, cw_rd (w := upd w q v) ho h4 hq hn, pk_us]
    · rw [pk_un hg]
      show (if t ≤ t + o ∧ t + o < t + 35 then gv nc ns nh w E (t + o - t) g (S.1 (t + o) g) else S.1 (t + o) g) = (if t ≤ t + o ∧ t + o < t + 35 then gv nc ns nh (upd w q v) E (t + o - t) g (S.1 (t + o) g) else S.1 (t + o) g)
      rw [if_pos (by omega), if_pos (by omega), show t + o - t = o by omega]
      unfold gv
      rw [if_neg h4, if_neg h4]
      by_cases hc : cm nc ns nh o g = 999
      · rw [if_pos hc, if_pos hc]
      · rw [if_neg hc, if_neg hc, pk_un (fun z => hg ((cm_inj (z.trans hq.symm) hc).2))]
  · rw [if_neg hp]
    show (if t ≤ p ∧ p < t + 35 then gv nc ns nh w E (p - t) g (S.1 p g) else S.1 p g) = (if t ≤ p ∧ p < t + 35 then gv nc ns nh (upd w q v) E (p - t) g (S.1 p g) else S.1 p g)
    by_cases hr : t ≤ p ∧ p < t + 35
    · rw [if_pos hr, if_pos hr]
      unfold gv
      by_cases h5 : 4 ≤ p - t ∧ p - t < 8
      · rw [if_pos h5, if_pos h5]
      · rw [if_neg h5, if_neg h5]
        by_cases hc : cm nc ns nh (p - t) g = 999
        · rw [if_pos hc, if_pos hc]
        · rw [if_neg hc, if_neg hc, pk_un (fun z => hp (by have := (cm_inj (z.trans hq.symm) hc).1; omega))]
    · rw [if_neg hr, if_neg hr]
theorem cw_re {o f : Nat} (ho : o < 4) : (cw S t nc ns nh w E).1 (t + (4 + o)) f = E o f := by
  show (if t ≤ t + (4 + o) ∧ t + (4 + o) < t + 35 then gv nc ns nh w E (t + (4 + o) - t) f (S.1 (t + (4 + o)) f) else S.1 (t + (4 + o)) f) = _
  rw [if_pos (by omega), show t + (4 + o) - t = 4 + o by omega]
  unfold gv
  rw [if_pos (by omega), show 4 + o - 4 = o by omega]
theorem cw_we {o : Nat} {r : Nat → Int32} (ho : o < 4) : va_up (cw S t nc ns nh w E).1 (t + (4 + o)) r = (cw S t nc ns nh w (va_up E o r)).1 := by
  refine funext fun p => funext fun g => ?_
  show (if p = t + (4 + o) then r else (cw S t nc ns nh w E).1 p) g = (if t ≤ p ∧ p < t + 35 then gv nc ns nh w (va_up E o r) (p - t) g (S.1 p g) else S.1 p g)
  by_cases hp : p = t + (4 + o)
  · subst hp
    rw [if_pos rfl, if_pos (by omega), show t + (4 + o) - t = 4 + o by omega]
    unfold gv
    rw [if_pos (by omega), show 4 + o - 4 = o by omega, va_s]
  · rw [if_neg hp]
    show (if t ≤ p ∧ p < t + 35 then gv nc ns nh w E (p - t) g (S.1 p g) else S.1 p g) = _
    by_cases hr : t ≤ p ∧ p < t + 35
    · rw [if_pos hr, if_pos hr]
      unfold gv
      by_cases h5 : 4 ≤ p - t ∧ p - t < 8
      · rw [if_pos h5, if_pos h5]
        show _ = (if p - t - 4 = o then r else E (p - t - 4)) g
        rw [if_neg (by omega)]
      · rw [if_neg h5, if_neg h5]
    · rw [if_neg hr, if_neg hr]
/-! the places by their forms -/
theorem ch5 : (cw S t nc ns nh w E).1 t 5 = w 0 := cw_rd (o := 0) (by omega) (by omega) rfl (by omega)
theorem wh5 {v : Int32} : va_up (cw S t nc ns nh w E).1 t (upd ((cw S t nc ns nh w E).1 t) 5 v) = (cw S t nc ns nh (upd w 0 v) E).1 := cw_wr (o := 0) (by omega) (by omega) rfl (by omega)
theorem ch6 : (cw S t nc ns nh w E).1 t 6 = w 1 := cw_rd (o := 0) (by omega) (by omega) rfl (by omega)
theorem wh6 {v : Int32} : va_up (cw S t nc ns nh w E).1 t (upd ((cw S t nc ns nh w E).1 t) 6 v) = (cw S t nc ns nh (upd w 1 v) E).1 := cw_wr (o := 0) (by omega) (by omega) rfl (by omega)
theorem ch7 : (cw S t nc ns nh w E).1 t 7 = w 2 := cw_rd (o := 0) (by omega) (by omega) rfl (by omega)
theorem wh7 {v : Int32} : va_up (cw S t nc ns nh w E).1 t (upd ((cw S t nc ns nh w E).1 t) 7 v) = (cw S t nc ns nh (upd w 2 v) E).1 := cw_wr (o := 0) (by omega) (by omega) rfl (by omega)
theorem ch8 : (cw S t nc ns nh w E).1 t 8 = w 5 := cw_rd (o := 0) (by omega) (by omega) rfl (by omega)
theorem wh8 {v : Int32} : va_up (cw S t nc ns nh w E).1 t (upd ((cw S t nc ns nh w E).1 t) 8 v) = (cw S t nc ns nh (upd w 5 v) E).1 := cw_wr (o := 0) (by omega) (by omega) rfl (by omega)
theorem ch9 : (cw S t nc ns nh w E).1 t 9 = w 6 := cw_rd (o := 0) (by omega) (by omega) rfl (by omega)
theorem wh9 {v : Int32} : va_up (cw S t nc ns nh w E).1 t (upd ((cw S t nc ns nh w E).1 t) 9 v) = (cw S t nc ns nh (upd w 6 v) E).1 := cw_wr (o := 0) (by omega) (by omega) rfl (by omega)
theorem ch10 : (cw S t nc ns nh w E).1 t 10 = w 7 := cw_rd (o := 0) (by omega) (by omega) rfl (by omega)
theorem wh10 {v : Int32} : va_up (cw S t nc ns nh w E).1 t (upd ((cw S t nc ns nh w E).1 t) 10 v) = (cw S t nc ns nh (upd w 7 v) E).1 := cw_wr (o := 0) (by omega) (by omega) rfl (by omega)
theorem ch11 : (cw S t nc ns nh w E).1 t 11 = w 4 := cw_rd (o := 0) (by omega) (by omega) rfl (by omega)
theorem wh11 {v : Int32} : va_up (cw S t nc ns nh w E).1 t (upd ((cw S t nc ns nh w E).1 t) 11 v) = (cw S t nc ns nh (upd w 4 v) E).1 := cw_wr (o := 0) (by omega) (by omega) rfl (by omega)
theorem ch12 : (cw S t nc ns nh w E).1 t 12 = w 3 := cw_rd (o := 0) (by omega) (by omega) rfl (by omega)
theorem wh12 {v : Int32} : va_up (cw S t nc ns nh w E).1 t (upd ((cw S t nc ns nh w E).1 t) 12 v) = (cw S t nc ns nh (upd w 3 v) E).1 := cw_wr (o := 0) (by omega) (by omega) rfl (by omega)
theorem cg0 : (cw S t nc ns nh w E).1 (t + 8) 0 = w 8 := cw_rd (o := 8) (by omega) (by omega) rfl (by omega)
theorem wg0 {v : Int32} : va_up (cw S t nc ns nh w E).1 (t + 8) (upd ((cw S t nc ns nh w E).1 (t + 8)) 0 v) = (cw S t nc ns nh (upd w 8 v) E).1 := cw_wr (o := 8) (by omega) (by omega) rfl (by omega)
theorem cg1 : (cw S t nc ns nh w E).1 (t + 8) 1 = w 9 := cw_rd (o := 8) (by omega) (by omega) rfl (by omega)
theorem wg1 {v : Int32} : va_up (cw S t nc ns nh w E).1 (t + 8) (upd ((cw S t nc ns nh w E).1 (t + 8)) 1 v) = (cw S t nc ns nh (upd w 9 v) E).1 := cw_wr (o := 8) (by omega) (by omega) rfl (by omega)
theorem cg2 : (cw S t nc ns nh w E).1 (t + 8) 2 = w 10 := cw_rd (o := 8) (by omega) (by omega) rfl (by omega)
theorem wg2 {v : Int32} : va_up (cw S t nc ns nh w E).1 (t + 8) (upd ((cw S t nc ns nh w E).1 (t + 8)) 2 v) = (cw S t nc ns nh (upd w 10 v) E).1 := cw_wr (o := 8) (by omega) (by omega) rfl (by omega)
theorem cg3 : (cw S t nc ns nh w E).1 (t + 8) 3 = w 11 := cw_rd (o := 8) (by omega) (by omega) rfl (by omega)
theorem wg3 {v : Int32} : va_up (cw S t nc ns nh w E).1 (t + 8) (upd ((cw S t nc ns nh w E).1 (t + 8)) 3 v) = (cw S t nc ns nh (upd w 11 v) E).1 := cw_wr (o := 8) (by omega) (by omega) rfl (by omega)
theorem cg4 : (cw S t nc ns nh w E).1 (t + 8) 4 = w 12 := cw_rd (o := 8) (by omega) (by omega) rfl (by omega)
theorem wg4 {v : Int32} : va_up (cw S t nc ns nh w E).1 (t + 8) (upd ((cw S t nc ns nh w E).1 (t + 8)) 4 v) = (cw S t nc ns nh (upd w 12 v) E).1 := cw_wr (o := 8) (by omega) (by omega) rfl (by omega)
theorem cg5 : (cw S t nc ns nh w E).1 (t + 8) 5 = w 13 := cw_rd (o := 8) (by omega) (by omega) rfl (by omega)
theorem wg5 {v : Int32} : va_up (cw S t nc ns nh w E).1 (t + 8) (upd ((cw S t nc ns nh w E).1 (t + 8)) 5 v) = (cw S t nc ns nh (upd w 13 v) E).1 := cw_wr (o := 8) (by omega) (by omega) rfl (by omega)
theorem cg6 : (cw S t nc ns nh w E).1 (t + 8) 6 = w 14 := cw_rd (o := 8) (by omega) (by omega) rfl (by omega)
theorem wg6 {v : Int32} : va_up (cw S t nc ns nh w E).1 (t + 8) (upd ((cw S t nc ns nh w E).1 (t + 8)) 6 v) = (cw S t nc ns nh (upd w 14 v) E).1 := cw_wr (o := 8) (by omega) (by omega) rfl (by omega)
theorem cg7 : (cw S t nc ns nh w E).1 (t + 8) 7 = w 15 := cw_rd (o := 8) (by omega) (by omega) rfl (by omega)
theorem wg7 {v : Int32} : va_up (cw S t nc ns nh w E).1 (t + 8) (upd ((cw S t nc ns nh w E).1 (t + 8)) 7 v) = (cw S t nc ns nh (upd w 15 v) E).1 := cw_wr (o := 8) (by omega) (by omega) rfl (by omega)
theorem cm_c1 {k : Nat} (hk : k < nc) (h8 : k < 8) : cm nc ns nh (9 + k) 1 = (65 + 12 * k + 7) := by unfold cm; rw [if_neg (by omega), if_neg (by omega), if_pos (by omega), if_pos (by omega)]; omega
theorem cc1 {k : Nat} (hk : k < nc) (h8 : k < 8) : (cw S t nc ns nh w E).1 (t + 1 + 8 + k) 1 = w (65 + 12 * k + 7) := by rw [show t + 1 + 8 + k = t + (9 + k) by omega]; exact cw_rd (by omega) (by omega) (cm_c1 hk h8) (by omega)
theorem wc1 {k : Nat} {v : Int32} (hk : k < nc) (h8 : k < 8) : va_up (cw S t nc ns nh w E).1 (t + 1 + 8 + k) (upd ((cw S t nc ns nh w E).1 (t + 1 + 8 + k)) 1 v) = (cw S t nc ns nh (upd w (65 + 12 * k + 7) v) E).1 := by rw [show t + 1 + 8 + k = t + (9 + k) by omega]; exact cw_wr (by omega) (by omega) (cm_c1 hk h8) (by omega)
theorem cm_c2 {k : Nat} (hk : k < nc) (h8 : k < 8) : cm nc ns nh (9 + k) 2 = (65 + 12 * k + 8) := by unfold cm; rw [if_neg (by omega), if_neg (by omega), if_pos (by omega), if_pos (by omega)]; omega
theorem cc2 {k : Nat} (hk : k < nc) (h8 : k < 8) : (cw S t nc ns nh w E).1 (t + 1 + 8 + k) 2 = w (65 + 12 * k + 8) := by rw [show t + 1 + 8 + k = t + (9 + k) by omega]; exact cw_rd (by omega) (by omega) (cm_c2 hk h8) (by omega)
theorem wc2 {k : Nat} {v : Int32} (hk : k < nc) (h8 : k < 8) : va_up (cw S t nc ns nh w E).1 (t + 1 + 8 + k) (upd ((cw S t nc ns nh w E).1 (t + 1 + 8 + k)) 2 v) = (cw S t nc ns nh (upd w (65 + 12 * k + 8) v) E).1 := by rw [show t + 1 + 8 + k = t + (9 + k) by omega]; exact cw_wr (by omega) (by omega) (cm_c2 hk h8) (by omega)
theorem cm_c3 {k : Nat} (hk : k < nc) (h8 : k < 8) : cm nc ns nh (9 + k) 3 = (65 + 12 * k + 9) := by unfold cm; rw [if_neg (by omega), if_neg (by omega), if_pos (by omega), if_pos (by omega)]; omega
theorem cc3 {k : Nat} (hk : k < nc) (h8 : k < 8) : (cw S t nc ns nh w E).1 (t + 1 + 8 + k) 3 = w (65 + 12 * k + 9) := by rw [show t + 1 + 8 + k = t + (9 + k) by omega]; exact cw_rd (by omega) (by omega) (cm_c3 hk h8) (by omega)
theorem wc3 {k : Nat} {v : Int32} (hk : k < nc) (h8 : k < 8) : va_up (cw S t nc ns nh w E).1 (t + 1 + 8 + k) (upd ((cw S t nc ns nh w E).1 (t + 1 + 8 + k)) 3 v) = (cw S t nc ns nh (upd w (65 + 12 * k + 9) v) E).1 := by rw [show t + 1 + 8 + k = t + (9 + k) by omega]; exact cw_wr (by omega) (by omega) (cm_c3 hk h8) (by omega)
theorem cm_c4 {k : Nat} (hk : k < nc) (h8 : k < 8) : cm nc ns nh (9 + k) 4 = (65 + 12 * k + 10) := by unfold cm; rw [if_neg (by omega), if_neg (by omega), if_pos (by omega), if_pos (by omega)]; omega
theorem cc4 {k : Nat} (hk : k < nc) (h8 : k < 8) : (cw S t nc ns nh w E).1 (t + 1 + 8 + k) 4 = w (65 + 12 * k + 10) := by rw [show t + 1 + 8 + k = t + (9 + k) by omega]; exact cw_rd (by omega) (by omega) (cm_c4 hk h8) (by omega)
theorem wc4 {k : Nat} {v : Int32} (hk : k < nc) (h8 : k < 8) : va_up (cw S t nc ns nh w E).1 (t + 1 + 8 + k) (upd ((cw S t nc ns nh w E).1 (t + 1 + 8 + k)) 4 v) = (cw S t nc ns nh (upd w (65 + 12 * k + 10) v) E).1 := by rw [show t + 1 + 8 + k = t + (9 + k) by omega]; exact cw_wr (by omega) (by omega) (cm_c4 hk h8) (by omega)
theorem cm_c5 {k : Nat} (hk : k < nc) (h8 : k < 8) : cm nc ns nh (9 + k) 5 = (65 + 12 * k + 11) := by unfold cm; rw [if_neg (by omega), if_neg (by omega), if_pos (by omega), if_pos (by omega)]; omega
theorem cc5 {k : Nat} (hk : k < nc) (h8 : k < 8) : (cw S t nc ns nh w E).1 (t + 1 + 8 + k) 5 = w (65 + 12 * k + 11) := by rw [show t + 1 + 8 + k = t + (9 + k) by omega]; exact cw_rd (by omega) (by omega) (cm_c5 hk h8) (by omega)
theorem wc5 {k : Nat} {v : Int32} (hk : k < nc) (h8 : k < 8) : va_up (cw S t nc ns nh w E).1 (t + 1 + 8 + k) (upd ((cw S t nc ns nh w E).1 (t + 1 + 8 + k)) 5 v) = (cw S t nc ns nh (upd w (65 + 12 * k + 11) v) E).1 := by rw [show t + 1 + 8 + k = t + (9 + k) by omega]; exact cw_wr (by omega) (by omega) (cm_c5 hk h8) (by omega)
theorem cm_s1 {k : Nat} (hk : k < ns) (h8 : k < 6) : cm nc ns nh (17 + k) 1 = (161 + 12 * k + 7) := by unfold cm; rw [if_neg (by omega), if_neg (by omega), if_neg (by omega), if_pos (by omega), if_pos (by omega)]; omega
theorem cs1 {k : Nat} (hk : k < ns) (h8 : k < 6) : (cw S t nc ns nh w E).1 (t + 2 + 15 + k) 1 = w (161 + 12 * k + 7) := by rw [show t + 2 + 15 + k = t + (17 + k) by omega]; exact cw_rd (by omega) (by omega) (cm_s1 hk h8) (by omega)
theorem wsk1 {k : Nat} {v : Int32} (hk : k < ns) (h8 : k < 6) : va_up (cw S t nc ns nh w E).1 (t + 2 + 15 + k) (upd ((cw S t nc ns nh w E).1 (t + 2 + 15 + k)) 1 v) = (cw S t nc ns nh (upd w (161 + 12 * k + 7) v) E).1 := by rw [show t + 2 + 15 + k = t + (17 + k) by omega]; exact cw_wr (by omega) (by omega) (cm_s1 hk h8) (by omega)
theorem cm_s2 {k : Nat} (hk : k < ns) (h8 : k < 6) : cm nc ns nh (17 + k) 2 = (161 + 12 * k + 8) := by unfold cm; rw [if_neg (by omega), if_neg (by omega), if_neg (by omega), if_pos (by omega), if_pos (by omega)]; omega
theorem cs2 {k : Nat} (hk : k < ns) (h8 : k < 6) : (cw S t nc ns nh w E).1 (t + 2 + 15 + k) 2 = w (161 + 12 * k + 8) := by rw [show t + 2 + 15 + k = t + (17 + k) by omega]; exact cw_rd (by omega) (by omega) (cm_s2 hk h8) (by omega)
theorem wsk2 {k : Nat} {v : Int32} (hk : k < ns) (h8 : k < 6) : va_up (cw S t nc ns nh w E).1 (t + 2 + 15 + k) (upd ((cw S t nc ns nh w E).1 (t + 2 + 15 + k)) 2 v) = (cw S t nc ns nh (upd w (161 + 12 * k + 8) v) E).1 := by rw [show t + 2 + 15 + k = t + (17 + k) by omega]; exact cw_wr (by omega) (by omega) (cm_s2 hk h8) (by omega)
theorem cm_s3 {k : Nat} (hk : k < ns) (h8 : k < 6) : cm nc ns nh (17 + k) 3 = (161 + 12 * k + 9) := by unfold cm; rw [if_neg (by omega), if_neg (by omega), if_neg (by omega), if_pos (by omega), if_pos (by omega)]; omega
theorem cs3 {k : Nat} (hk : k < ns) (h8 : k < 6) : (cw S t nc ns nh w E).1 (t + 2 + 15 + k) 3 = w (161 + 12 * k + 9) := by rw [show t + 2 + 15 + k = t + (17 + k) by omega]; exact cw_rd (by omega) (by omega) (cm_s3 hk h8) (by omega)
theorem wsk3 {k : Nat} {v : Int32} (hk : k < ns) (h8 : k < 6) : va_up (cw S t nc ns nh w E).1 (t + 2 + 15 + k) (upd ((cw S t nc ns nh w E).1 (t + 2 + 15 + k)) 3 v) = (cw S t nc ns nh (upd w (161 + 12 * k + 9) v) E).1 := by rw [show t + 2 + 15 + k = t + (17 + k) by omega]; exact cw_wr (by omega) (by omega) (cm_s3 hk h8) (by omega)
theorem cm_s4 {k : Nat} (hk : k < ns) (h8 : k < 6) : cm nc ns nh (17 + k) 4 = (161 + 12 * k + 10) := by unfold cm; rw [if_neg (by omega), if_neg (by omega), if_neg (by omega), if_pos (by omega), if_pos (by omega)]; omega
theorem cs4 {k : Nat} (hk : k < ns) (h8 : k < 6) : (cw S t nc ns nh w E).1 (t + 2 + 15 + k) 4 = w (161 + 12 * k + 10) := by rw [show t + 2 + 15 + k = t + (17 + k) by omega]; exact cw_rd (by omega) (by omega) (cm_s4 hk h8) (by omega)
theorem wsk4 {k : Nat} {v : Int32} (hk : k < ns) (h8 : k < 6) : va_up (cw S t nc ns nh w E).1 (t + 2 + 15 + k) (upd ((cw S t nc ns nh w E).1 (t + 2 + 15 + k)) 4 v) = (cw S t nc ns nh (upd w (161 + 12 * k + 10) v) E).1 := by rw [show t + 2 + 15 + k = t + (17 + k) by omega]; exact cw_wr (by omega) (by omega) (cm_s4 hk h8) (by omega)
theorem cm_h0 {k : Nat} (hk : k < nh) (h8 : k < 12) : cm nc ns nh (23 + k) 0 = 233 + 2 * k := by unfold cm; rw [if_neg (by omega), if_neg (by omega), if_neg (by omega), if_neg (by omega), if_pos (by omega), if_pos (by omega)]; omega
theorem cp0 {k : Nat} (hk : k < nh) (h8 : k < 12) : (cw S t nc ns nh w E).1 (t + 3 + 20 + k) 0 = w (233 + 2 * k) := by rw [show t + 3 + 20 + k = t + (23 + k) by omega]; exact cw_rd (by omega) (by omega) (cm_h0 hk h8) (by omega)
theorem cm_h1 {k : Nat} (hk : k < nh) (h8 : k < 12) : cm nc ns nh (23 + k) 1 = 233 + 2 * k + 1 := by unfold cm; rw [if_neg (by omega), if_neg (by omega), if_neg (by omega), if_neg (by omega), if_pos (by omega), if_pos (by omega)]; omega
theorem cp1 {k : Nat} (hk : k < nh) (h8 : k < 12) : (cw S t nc ns nh w E).1 (t + 3 + 20 + k) 1 = w (233 + 2 * k + 1) := by rw [show t + 3 + 20 + k = t + (23 + k) by omega]; exact cw_rd (by omega) (by omega) (cm_h1 hk h8) (by omega)
theorem ce0 {f : Nat} : (cw S t nc ns nh w E).1 (t + 4) f = E 0 f := cw_re (o := 0) (by omega)
theorem we0 {r : Nat → Int32} : va_up (cw S t nc ns nh w E).1 (t + 4) r = (cw S t nc ns nh w (va_up E 0 r)).1 := cw_we (o := 0) (by omega)
theorem ce1 {f : Nat} : (cw S t nc ns nh w E).1 (t + 4 + 1) f = E 1 f := cw_re (o := 1) (by omega)
theorem we1 {r : Nat → Int32} : va_up (cw S t nc ns nh w E).1 (t + 4 + 1) r = (cw S t nc ns nh w (va_up E 1 r)).1 := cw_we (o := 1) (by omega)
theorem ce2 {f : Nat} : (cw S t nc ns nh w E).1 (t + 4 + 2) f = E 2 f := cw_re (o := 2) (by omega)
theorem we2 {r : Nat → Int32} : va_up (cw S t nc ns nh w E).1 (t + 4 + 2) r = (cw S t nc ns nh w (va_up E 2 r)).1 := cw_we (o := 2) (by omega)
theorem ce3 {f : Nat} : (cw S t nc ns nh w E).1 (t + 4 + 3) f = E 3 f := cw_re (o := 3) (by omega)
theorem we3 {r : Nat → Int32} : va_up (cw S t nc ns nh w E).1 (t + 4 + 3) r = (cw S t nc ns nh w (va_up E 3 r)).1 := cw_we (o := 3) (by omega)
theorem ce_r {o : Nat} (ho : o < 4) : (cw S t nc ns nh w E).1 (t + 4 + o) = E o := funext fun f => by rw [Nat.add_assoc]; exact cw_re ho
theorem gi_m {α : Type} {a b : α} {n N : Nat} (h : n < N) (hN : N < 2147483648) : (if gIn (nI n) N then a else b) = a := if_pos (nI_in h hN)
theorem nI_c {n : Nat} (h : n < 2147483648) : (nI n).toNatClampNeg = n := nI_clamp h
end CW
