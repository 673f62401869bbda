/-! sums, copies and the start of a granary, both sides -/
section SUMS
variable {S : CS} {M : MS} {t nc ns nh n : Nat} {w : Wd} {E : Nat → Nat → Int32}
def sumA (g : Nat → Int32) : Nat → Nat → Int32 → Int32
  | 0, _, a => a
  | r + 1, i, a => sumA g r (i + 1) (a + g i)
theorem r_sumOf_l {a m f cnt : Nat} (hm : m < 257) (hc : w m = nI cnt) (h8 : cnt ≤ 8) (hf : f < 12) (ha : a + 12 * cnt ≤ 257) : ∀ r i k (x : Int32), cnt = i + r → r < k → fX11_sumOf_6 k (mw M w) (nI a) (nI m) (nI f) x (nI i) = some (sumA (fun j => w (a + 12 * j + f)) r i x) := by
  intro r
  induction r with
  | zero =>
    intro i k x hi hk
    obtain ⟨k, rfl⟩ : ∃ g, k = g + 1 := ⟨k - 1, by omega⟩
    rw [fX11_sumOf_6]
    dsimp only
    rw [gi_m hm (by omega), nI_c (by omega), mw_w, hc, if_pos (nI_le (by omega) (by omega)), fX11_sumOf_42]
    rfl
  | succ r ih =>
    intro i k x hi hk
    obtain ⟨k, rfl⟩ : ∃ g, k = g + 1 := ⟨k - 1, by omega⟩
    rw [fX11_sumOf_6]
    dsimp only
    rw [gi_m hm (by omega), nI_c (by omega), mw_w, hc, if_neg (nI_ge (show i < cnt by omega) (by omega)), fX11_sumOf_17, show nI a + 12 * nI i + nI f = nI (a + 12 * i + f) from nI_a a 12 i f, gi_m (by omega) (by omega), nI_c (by omega), mw_w, nI_1, ih (i + 1) k _ (by omega) (by omega)]
    rfl
theorem r_sumOf {a m f cnt : Nat} (hm : m < 257) (hc : w m = nI cnt) (h8 : cnt ≤ 8) (hf : f < 12) (ha : a + 12 * cnt ≤ 257) : fX11_sumOf (mw M w) (nI a) (nI m) (nI f) = some (sumA (fun j => w (a + 12 * j + f)) cnt 0 0) := by
  unfold fX11_sumOf fX11_sumOf_0
  have := r_sumOf_l (M := M) hm hc h8 hf ha cnt 0 FU 0 (by omega) (by rw [FU_eq]; omega)
  rw [nI_0] at this
  exact this
theorem c_miceOfAll (hw : w 1 = nI ns) (hn : ns ≤ 6) : fX2_miceOfAll (cw S t nc ns nh w E) t = some (sumA (fun j => w (161 + 12 * j + 8)) ns 0 0) := by
  have lp : ∀ r i k (x : Int32), ns = i + r → r < k → fX2_miceOfAll_4 t k (cw S t nc ns nh w E) x (nI i) = some (sumA (fun j => w (161 + 12 * j + 8)) r i x) := by
    intro r
    induction r with
    | zero =>
      intro i k x hi hk
      obtain ⟨k, rfl⟩ : ∃ g, k = g + 1 := ⟨k - 1, by omega⟩
      rw [fX2_miceOfAll_4]
      dsimp only
      rw [ch6, hw, if_pos (nI_le (by omega) (by omega)), fX2_miceOfAll_30]
      rfl
    | succ r ih =>
      intro i k x hi hk
      obtain ⟨k, rfl⟩ : ∃ g, k = g + 1 := ⟨k - 1, by omega⟩
      rw [fX2_miceOfAll_4]
      dsimp only
      rw [ch6, hw, if_neg (nI_ge (show i < ns by omega) (by omega)), fX2_miceOfAll_12, gi_m (show i < 6 by omega) (by omega), nI_c (by omega), cs2 (by omega) (by omega), nI_1, ih (i + 1) k _ (by omega) (by omega)]
      rfl
  unfold fX2_miceOfAll fX2_miceOfAll_0
  have := lp ns 0 FU 0 (by omega) (by rw [FU_eq]; omega)
  rw [nI_0] at this
  exact this
theorem c_grainOfAll (hw : w 1 = nI ns) (hn : ns ≤ 6) : fX2_grainOfAll (cw S t nc ns nh w E) t = some (sumA (fun j => w (161 + 12 * j + 7)) ns 0 0) := by
  have lp : ∀ r i k (x : Int32), ns = i + r → r < k → fX2_grainOfAll_4 t k (cw S t nc ns nh w E) x (nI i) = some (sumA (fun j => w (161 + 12 * j + 7)) r i x) := by
    intro r
    induction r with
    | zero =>
      intro i k x hi hk
      obtain ⟨k, rfl⟩ : ∃ g, k = g + 1 := ⟨k - 1, by omega⟩
      rw [fX2_grainOfAll_4]
      dsimp only
      rw [ch6, hw, if_pos (nI_le (by omega) (by omega)), fX2_grainOfAll_30]
      rfl
    | succ r ih =>
      intro i k x hi hk
      obtain ⟨k, rfl⟩ : ∃ g, k = g + 1 := ⟨k - 1, by omega⟩
      rw [fX2_grainOfAll_4]
      dsimp only
      rw [ch6, hw, if_neg (nI_ge (show i < ns by omega) (by omega)), fX2_grainOfAll_12, gi_m (show i < 6 by omega) (by omega), nI_c (by omega), cs1 (by omega) (by omega), nI_1, ih (i + 1) k _ (by omega) (by omega)]
      rfl
  unfold fX2_grainOfAll fX2_grainOfAll_0
  have := lp ns 0 FU 0 (by omega) (by rw [FU_eq]; omega)
  rw [nI_0] at this
  exact this
/-- the granary begins -/
def stA (ns : Nat) (w : Wd) : Wd := upd w 14 (sumA (fun j => w (161 + 12 * j + 8)) ns 0 0)
def stB (ns : Nat) (w : Wd) : Wd := upd w 15 (sumA (fun j => w (161 + 12 * j + 7)) ns 0 0)
def stC (w : Wd) : Wd := upd w 7 (w (233 + 2 * 0 + 1))
def startW (ns : Nat) (w : Wd) : Wd := swearsInW (stC (stB ns (stA ns w))) ((stC (stB ns (stA ns w))) (233 + 2 * 0)).toNatClampNeg
theorem r_starts (h1 : w 1 = nI ns) (h6 : ns ≤ 6) {c : Nat} (hc : w 233 = nI c) (h8 : c < 8) : fX11_starts (mw M w) = some (mw M (startW ns w)) := by
  have hc' : stC (stB ns (stA ns w)) (233 + 2 * 0) = nI c := by
    unfold stC stB stA; rw [pk_un (by omega), pk_un (by omega), pk_un (by omega)]; exact hc
  unfold fX11_starts fX11_starts_0 startW
  rw [show fX11_sumOf (mw M w) 161 1 8 = _ from r_sumOf (a := 161) (m := 1) (f := 8) (by omega) h1 (by omega) (by omega) (by omega), Option.bind_some, fX11_starts_16, gi14, tn14, mw_w, mw_up, fX11_starts_17, show upd w 14 (sumA (fun j => w (161 + 12 * j + 8)) ns 0 0) = stA ns w from rfl]
  rw [show fX11_sumOf (mw M (stA ns w)) 161 1 7 = _ from r_sumOf (a := 161) (m := 1) (f := 7) (by omega) (by unfold stA; rw [pk_un (by omega)]; exact h1) (by omega) (by omega) (by omega), Option.bind_some, fX11_starts_33, gi15, tn15, mw_w, mw_up, fX11_starts_34, show upd (stA ns w) 15 (sumA (fun j => stA ns w (161 + 12 * j + 7)) ns 0 0) = stB ns (stA ns w) from rfl]
  rw [show fX11_shiftHours (mw M (stB ns (stA ns w))) 0 = _ from r_shiftHours (k := 0) (by omega), Option.bind_some, fX11_starts_45, gi7, tn7, mw_w, mw_up, fX11_starts_46, show upd (stB ns (stA ns w)) 7 (stB ns (stA ns w) (233 + 2 * 0 + 1)) = stC (stB ns (stA ns w)) from rfl]
  rw [show fX11_shiftCat (mw M (stC (stB ns (stA ns w)))) 0 = _ from r_shiftCat (k := 0) (by omega), Option.bind_some, fX11_starts_52, hc', r_swearsIn h8, nI_c (by omega), Option.bind_some, fX11_starts_55]
theorem c_begin (h1 : w 1 = nI ns) (h6 : ns ≤ 6) {c : Nat} (hc : w 233 = nI c) (h8 : c < nc) (hn : nc ≤ 8) (hh : 0 < nh) : fX2_begin (cw S t nc ns nh w E) t = some (cw S t nc ns nh (startW ns w) E) := by
  have hc' : stC (stB ns (stA ns w)) (233 + 2 * 0) = nI c := by
    unfold stC stB stA; rw [pk_un (by omega), pk_un (by omega), pk_un (by omega)]; exact hc
  have g12 : gIn 0 12 := nI_in (c := 0) (by omega) (by omega)
  unfold fX2_begin fX2_begin_0 startW
  rw [c_miceOfAll h1 h6, Option.bind_some, fX2_begin_8, wg6, cw_2, cw_p, fX2_begin_11, show upd w 14 (sumA (fun j => w (161 + 12 * j + 8)) ns 0 0) = stA ns w from rfl]
  rw [c_grainOfAll (by unfold stA; rw [pk_un (by omega)]; exact h1) h6, Option.bind_some, fX2_begin_19, wg7, cw_2, cw_p, fX2_begin_22, show upd (stA ns w) 15 (sumA (fun j => stA ns w (161 + 12 * j + 7)) ns 0 0) = stB ns (stA ns w) from rfl, if_pos g12, tn0, cp1 hh (by omega), wh10, cw_2, cw_p, fX2_begin_35, if_pos g12, tn0, cp0 hh (by omega), show upd (stB ns (stA ns w)) 7 (stB ns (stA ns w) (233 + 2 * 0 + 1)) = stC (stB ns (stA ns w)) from rfl, hc', c_swearIn h8 hn, nI_c (by omega), Option.bind_some, fX2_begin_48]
/-- copies of 257 cells -/
def cpW (f : Wd) (p : Nat) (d : Wd) (q n : Nat) : Wd := fun j => if q ≤ j ∧ j < q + n then f (p + (j - q)) else d j
theorem cpW_0 {f d : Wd} {p q : Nat} : cpW f p d q 0 = d := funext fun j => if_neg (by omega)
theorem cpW_s {f d : Wd} {p q i : Nat} : upd (cpW f p d q i) (q + i) (f (p + i)) = cpW f p d q (i + 1) := funext fun j => by
  by_cases e : j = q + i
  · subst e
    rw [pk_us]
    unfold cpW
    rw [if_pos (show q ≤ q + i ∧ q + i < q + (i + 1) by omega), show q + i - q = i by omega]
  · rw [pk_un e]
    unfold cpW
    by_cases h : q ≤ j ∧ j < q + i
    · rw [if_pos h, if_pos (show q ≤ j ∧ j < q + (i + 1) by omega)]
    · rw [if_neg h, if_neg (show ¬ (q ≤ j ∧ j < q + (i + 1)) by omega)]
theorem r_copies {a b p q : Nat} (hab : a ≠ b) (ia : mIs a) (ib : mIs b) (la : p + 257 ≤ mL a) (lb : q + 257 ≤ mL b) (la' : mL a < 100000) (lb' : mL b < 100000) : fX11_copies M a (nI p) b (nI q) = some (M.1, va_up M.2 b (cpW (M.2 a) p (M.2 b) q 257)) := by
  have lp : ∀ r i k, 257 = i + r → r < k → fX11_copies_3 k (M.1, va_up M.2 b (cpW (M.2 a) p (M.2 b) q i)) a b (nI p) (nI q) (nI i) = some (M.1, va_up M.2 b (cpW (M.2 a) p (M.2 b) q 257)) := by
    intro r
    induction r with
    | zero =>
      intro i k hi hk
      obtain ⟨k, rfl⟩ : ∃ g, k = g + 1 := ⟨k - 1, by omega⟩
      rw [fX11_copies_3]
      dsimp only
      rw [if_pos (show (257 : Int32) ≤ nI i from nI_le (a := 257) (by omega) (by omega)), fX11_copies_29, show i = 257 by omega]
    | succ r ih =>
      intro i k hi hk
      obtain ⟨k, rfl⟩ : ∃ g, k = g + 1 := ⟨k - 1, by omega⟩
      rw [fX11_copies_3]
      dsimp only
      rw [if_neg (show ¬ (257 : Int32) ≤ nI i from nI_ge (b := 257) (by omega) (by omega)), fX11_copies_11, if_pos ia, nI_add, nI_add, gi_m (by omega) (by omega), if_pos ib, gi_m (by omega) (by omega), nI_c (by omega), nI_c (by omega)]
      dsimp only
      rw [vat, vne hab, up_up, cpW_s, fX11_copies_23, nI_1, ih (i + 1) k (by omega) (by omega)]
  unfold fX11_copies fX11_copies_0
  have := lp 257 0 FU (by omega) (by rw [FU_eq]; omega)
  rw [cpW_0, up_self, nI_0] at this
  exact this
end SUMS
