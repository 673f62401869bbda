/-! relation of a granary of the class with plain words; copies -/
section COPY
variable {S : CS} {t b nc ns nh k : Nat} {w : Wd} {E : Nat → Nat → Int32}
/-- a name: its letters at a+1 on, its length at a -/
def NmOk (bs : List Int32) (w : Wd) (a : Nat) : Prop := 1 ≤ bs.length ∧ bs.length ≤ 6 ∧ w a = nI bs.length ∧ ∀ j, j < bs.length → bs.getD j 0 = w (a + 1 + j) ∧ ∃ n, 97 ≤ n ∧ n ≤ 122 ∧ w (a + 1 + j) = nI n
/-- the granary at t holds w -/
def GR (S : CS) (t : Nat) (w : Wd) : Prop := (∃ E, cw S t (nC w) (nS w) (nH w) w E = S ∧ EvRel E w) ∧ (∀ i, i < nC w → NmOk (S.2 (t + (9 + i))) w (65 + 12 * i + 0)) ∧ (∀ i, i < nS w → NmOk (S.2 (t + (17 + i))) w (161 + 12 * i + 0))
/-- paws and milk -/
def Pw (w : Wd) : Prop := (∀ i, i < nC w → w (65 + 12 * i + 8) = 0 ∨ w (65 + 12 * i + 8) = 1) ∧ ∃ m, m ≤ 9 ∧ w 4 = nI m
def In (w : Wd) : Prop := Ok w ∧ Pw w
theorem GR.rd (g : GR S t w) {o f q : Nat} (ho : o < 35) (h4 : ¬ (4 ≤ o ∧ o < 8)) (hq : cm (nC w) (nS w) (nH w) o f = q) (hn : q ≠ 999) : S.1 (t + o) f = w q := by
  obtain ⟨⟨E, e, -⟩, -⟩ := g
  rw [← e]
  exact cw_rd ho h4 hq hn
def cps (S : CS) (t b : Nat) (A : Nat → Nat → Bool) (N : Nat → Bool) : CS :=
  (fun p f => if t ≤ p ∧ p < t + 35 ∧ A (p - t) f = true then S.1 (b + (p - t)) f else S.1 p f, fun p => if t ≤ p ∧ p < t + 35 ∧ N (p - t) = true then S.2 (b + (p - t)) else S.2 p)
variable {A : Nat → Nat → Bool} {N : Nat → Bool}
theorem cps_cong {A' : Nat → Nat → Bool} {N' : Nat → Bool} (h : ∀ o f, A o f = A' o f) (hN : ∀ o, N o = N' o) : cps S t b A N = cps S t b A' N' := by
  rw [show A = A' from funext fun o => funext fun f => h o f, show N = N' from funext hN]
def Au (A : Nat → Nat → Bool) (o f : Nat) : Nat → Nat → Bool := fun o' f' => A o' f' || (o' == o && f' == f)
def Ac (A : Nat → Nat → Bool) (o : Nat) : Nat → Nat → Bool := fun o' f' => A o' f' || (o' == o && decide (f' < 16))
def Nu (N : Nat → Bool) (o : Nat) : Nat → Bool := fun o' => N o' || o' == o
theorem cps_p : ((cps S t b A N).1, (cps S t b A N).2) = cps S t b A N := Prod.ext rfl rfl
theorem cps_p2 {A' : Nat → Nat → Bool} {N' : Nat → Bool} : ((cps S t b A N).1, (cps S t b A' N').2) = cps S t b A N' := Prod.ext rfl rfl
theorem cps_src {o : Nat} (ho : o < 35) (hd : t + 35 ≤ b ∨ b + 35 ≤ t) : (cps S t b A N).1 (b + o) = S.1 (b + o) := funext fun f => if_neg (by omega)
theorem cps_srcN {o : Nat} (ho : o < 35) (hd : t + 35 ≤ b ∨ b + 35 ≤ t) : (cps S t b A N).2 (b + o) = S.2 (b + o) := if_neg (by omega)
theorem cps_wr {o f : Nat} (ho : o < 35) : va_up (cps S t b A N).1 (t + o) (upd ((cps S t b A N).1 (t + o)) f (S.1 (b + o) f)) = (cps S t b (Au A o f) N).1 := by
  refine funext fun p => funext fun g => ?_
  unfold va_up upd cps Au
  dsimp only
  by_cases hp : p = t + o
  · subst hp
    rw [if_pos rfl]
    by_cases hg : g = f
    · subst hg
      rw [if_pos rfl, if_pos ⟨by omega, by omega, by simp⟩]
      rw [show t + o - t = o by omega]
    · rw [if_neg hg]
      have : (A (t + o - t) g || (t + o - t == o && g == f)) = A (t + o - t) g := by simp [hg]
      rw [this]
  · rw [if_neg hp]
    by_cases hr : t ≤ p
    · have : (A (p - t) g || (p - t == o && g == f)) = A (p - t) g := by
        have : ¬ p - t = o := by omega
        simp [this]
      rw [this]
    · rw [if_neg (fun z => hr z.1), if_neg (fun z => hr z.1)]
theorem cps_wc {o : Nat} (ho : o < 35) : va_up (cps S t b A N).1 (t + o) (va_cpy (S.1 (b + o)) ((cps S t b A N).1 (t + o)) 0 0 16) = (cps S t b (Ac A o) N).1 := by
  refine funext fun p => funext fun g => ?_
  unfold va_up va_cpy cps Ac
  dsimp only
  by_cases hp : p = t + o
  · subst hp
    rw [if_pos rfl]
    by_cases hg : g < 16
    · rw [if_pos (by omega), if_pos ⟨by omega, by omega, by simp [hg]⟩]
      rw [show t + o - t = o by omega, show 0 + (g - 0) = g by omega]
    · rw [if_neg (by omega)]
      have : (A (t + o - t) g || (t + o - t == o && decide (g < 16))) = A (t + o - t) g := by simp [hg]
      rw [this]
  · rw [if_neg hp]
    by_cases hr : t ≤ p
    · have : (A (p - t) g || (p - t == o && decide (g < 16))) = A (p - t) g := by
        have : ¬ p - t = o := by omega
        simp [this]
      rw [this]
    · rw [if_neg (fun z => hr z.1), if_neg (fun z => hr z.1)]
theorem cps_wn {o : Nat} (ho : o < 35) : va_up (cps S t b A N).2 (t + o) (S.2 (b + o)) = (cps S t b A (Nu N o)).2 := by
  refine funext fun p => ?_
  unfold va_up cps Nu
  dsimp only
  by_cases hp : p = t + o
  · subst hp
    rw [if_pos rfl, if_pos ⟨by omega, by omega, by simp⟩, show t + o - t = o by omega]
  · rw [if_neg hp]
    by_cases hr : t ≤ p
    · have : (N (p - t) || p - t == o) = N (p - t) := by
        have : ¬ p - t = o := by omega
        simp [this]
      rw [this]
    · rw [if_neg (fun z => hr z.1), if_neg (fun z => hr z.1)]
theorem n16 : (16 : Int32).toNatClampNeg = 16 := by decide +kernel
/-! the same, by the forms of places -/
theorem qs0 (hd : t + 35 ≤ b ∨ b + 35 ≤ t) : (cps S t b A N).1 (b) = S.1 (b) := by rw [show b = b + (0) by omega]; exact cps_src (by omega) hd
theorem qw0 {f : Nat} : va_up (cps S t b A N).1 (t) (upd ((cps S t b A N).1 (t)) f (S.1 (b) f)) = (cps S t b (Au A (0) f) N).1 := by rw [show t = t + (0) by omega, show b = b + (0) by omega]; exact cps_wr (by omega)
theorem qs1 (hd : t + 35 ≤ b ∨ b + 35 ≤ t) : (cps S t b A N).1 (b + 8) = S.1 (b + 8) := by rw [show b + 8 = b + (8) by omega]; exact cps_src (by omega) hd
theorem qw1 {f : Nat} : va_up (cps S t b A N).1 (t + 8) (upd ((cps S t b A N).1 (t + 8)) f (S.1 (b + 8) f)) = (cps S t b (Au A (8) f) N).1 := by rw [show t + 8 = t + (8) by omega, show b + 8 = b + (8) by omega]; exact cps_wr (by omega)
theorem qs2 (hd : t + 35 ≤ b ∨ b + 35 ≤ t) : (cps S t b A N).1 (b + 4) = S.1 (b + 4) := by rw [show b + 4 = b + (4) by omega]; exact cps_src (by omega) hd
theorem qw2 {f : Nat} : va_up (cps S t b A N).1 (t + 4) (upd ((cps S t b A N).1 (t + 4)) f (S.1 (b + 4) f)) = (cps S t b (Au A (4) f) N).1 := by rw [show t + 4 = t + (4) by omega, show b + 4 = b + (4) by omega]; exact cps_wr (by omega)
theorem qs3 (hd : t + 35 ≤ b ∨ b + 35 ≤ t) : (cps S t b A N).1 (b + 4 + 1) = S.1 (b + 4 + 1) := by rw [show b + 4 + 1 = b + (4 + 1) by omega]; exact cps_src (by omega) hd
theorem qw3 {f : Nat} : va_up (cps S t b A N).1 (t + 4 + 1) (upd ((cps S t b A N).1 (t + 4 + 1)) f (S.1 (b + 4 + 1) f)) = (cps S t b (Au A (4 + 1) f) N).1 := by rw [show t + 4 + 1 = t + (4 + 1) by omega, show b + 4 + 1 = b + (4 + 1) by omega]; exact cps_wr (by omega)
theorem qc3 : va_up (cps S t b A N).1 (t + 4 + 1) (va_cpy (S.1 (b + 4 + 1)) ((cps S t b A N).1 (t + 4 + 1)) 0 0 16) = (cps S t b (Ac A (4 + 1)) N).1 := by rw [show t + 4 + 1 = t + (4 + 1) by omega, show b + 4 + 1 = b + (4 + 1) by omega]; exact cps_wc (by omega)
theorem qs4 (hd : t + 35 ≤ b ∨ b + 35 ≤ t) : (cps S t b A N).1 (b + 4 + 2) = S.1 (b + 4 + 2) := by rw [show b + 4 + 2 = b + (4 + 2) by omega]; exact cps_src (by omega) hd
theorem qw4 {f : Nat} : va_up (cps S t b A N).1 (t + 4 + 2) (upd ((cps S t b A N).1 (t + 4 + 2)) f (S.1 (b + 4 + 2) f)) = (cps S t b (Au A (4 + 2) f) N).1 := by rw [show t + 4 + 2 = t + (4 + 2) by omega, show b + 4 + 2 = b + (4 + 2) by omega]; exact cps_wr (by omega)
theorem qc4 : va_up (cps S t b A N).1 (t + 4 + 2) (va_cpy (S.1 (b + 4 + 2)) ((cps S t b A N).1 (t + 4 + 2)) 0 0 16) = (cps S t b (Ac A (4 + 2)) N).1 := by rw [show t + 4 + 2 = t + (4 + 2) by omega, show b + 4 + 2 = b + (4 + 2) by omega]; exact cps_wc (by omega)
theorem qs5 (hd : t + 35 ≤ b ∨ b + 35 ≤ t) : (cps S t b A N).1 (b + 4 + 3) = S.1 (b + 4 + 3) := by rw [show b + 4 + 3 = b + (4 + 3) by omega]; exact cps_src (by omega) hd
theorem qw5 {f : Nat} : va_up (cps S t b A N).1 (t + 4 + 3) (upd ((cps S t b A N).1 (t + 4 + 3)) f (S.1 (b + 4 + 3) f)) = (cps S t b (Au A (4 + 3) f) N).1 := by rw [show t + 4 + 3 = t + (4 + 3) by omega, show b + 4 + 3 = b + (4 + 3) by omega]; exact cps_wr (by omega)
theorem qc5 : va_up (cps S t b A N).1 (t + 4 + 3) (va_cpy (S.1 (b + 4 + 3)) ((cps S t b A N).1 (t + 4 + 3)) 0 0 16) = (cps S t b (Ac A (4 + 3)) N).1 := by rw [show t + 4 + 3 = t + (4 + 3) by omega, show b + 4 + 3 = b + (4 + 3) by omega]; exact cps_wc (by omega)
theorem qsk (hd : t + 35 ≤ b ∨ b + 35 ≤ t) (hk : k < 8) : (cps S t b A N).1 (b + 1 + 8 + k) = S.1 (b + 1 + 8 + k) := by rw [show b + 1 + 8 + k = b + (9 + k) by omega]; exact cps_src (by omega) hd
theorem qnk (hd : t + 35 ≤ b ∨ b + 35 ≤ t) (hk : k < 8) : (cps S t b A N).2 (b + 1 + 8 + k) = S.2 (b + 1 + 8 + k) := by rw [show b + 1 + 8 + k = b + (9 + k) by omega]; exact cps_srcN (by omega) hd
theorem qwk {f : Nat} (hk : k < 8) : va_up (cps S t b A N).1 (t + 1 + 8 + k) (upd ((cps S t b A N).1 (t + 1 + 8 + k)) f (S.1 (b + 1 + 8 + k) f)) = (cps S t b (Au A (9 + k) f) N).1 := by rw [show t + 1 + 8 + k = t + (9 + k) by omega, show b + 1 + 8 + k = b + (9 + k) by omega]; exact cps_wr (by omega)
theorem qmk (hk : k < 8) : va_up (cps S t b A N).2 (t + 1 + 8 + k) (S.2 (b + 1 + 8 + k)) = (cps S t b A (Nu N (9 + k))).2 := by rw [show t + 1 + 8 + k = t + (9 + k) by omega, show b + 1 + 8 + k = b + (9 + k) by omega]; exact cps_wn (by omega)
theorem qsz (hd : t + 35 ≤ b ∨ b + 35 ≤ t) (hk : k < 6) : (cps S t b A N).1 (b + 2 + 15 + k) = S.1 (b + 2 + 15 + k) := by rw [show b + 2 + 15 + k = b + (17 + k) by omega]; exact cps_src (by omega) hd
theorem qnz (hd : t + 35 ≤ b ∨ b + 35 ≤ t) (hk : k < 6) : (cps S t b A N).2 (b + 2 + 15 + k) = S.2 (b + 2 + 15 + k) := by rw [show b + 2 + 15 + k = b + (17 + k) by omega]; exact cps_srcN (by omega) hd
theorem qwz {f : Nat} (hk : k < 6) : va_up (cps S t b A N).1 (t + 2 + 15 + k) (upd ((cps S t b A N).1 (t + 2 + 15 + k)) f (S.1 (b + 2 + 15 + k) f)) = (cps S t b (Au A (17 + k) f) N).1 := by rw [show t + 2 + 15 + k = t + (17 + k) by omega, show b + 2 + 15 + k = b + (17 + k) by omega]; exact cps_wr (by omega)
theorem qmz (hk : k < 6) : va_up (cps S t b A N).2 (t + 2 + 15 + k) (S.2 (b + 2 + 15 + k)) = (cps S t b A (Nu N (17 + k))).2 := by rw [show t + 2 + 15 + k = t + (17 + k) by omega, show b + 2 + 15 + k = b + (17 + k) by omega]; exact cps_wn (by omega)
theorem qsh (hd : t + 35 ≤ b ∨ b + 35 ≤ t) (hk : k < 12) : (cps S t b A N).1 (b + 3 + 20 + k) = S.1 (b + 3 + 20 + k) := by rw [show b + 3 + 20 + k = b + (23 + k) by omega]; exact cps_src (by omega) hd
theorem qnh (hd : t + 35 ≤ b ∨ b + 35 ≤ t) (hk : k < 12) : (cps S t b A N).2 (b + 3 + 20 + k) = S.2 (b + 3 + 20 + k) := by rw [show b + 3 + 20 + k = b + (23 + k) by omega]; exact cps_srcN (by omega) hd
theorem qwh {f : Nat} (hk : k < 12) : va_up (cps S t b A N).1 (t + 3 + 20 + k) (upd ((cps S t b A N).1 (t + 3 + 20 + k)) f (S.1 (b + 3 + 20 + k) f)) = (cps S t b (Au A (23 + k) f) N).1 := by rw [show t + 3 + 20 + k = t + (23 + k) by omega, show b + 3 + 20 + k = b + (23 + k) by omega]; exact cps_wr (by omega)
theorem qmh (hk : k < 12) : va_up (cps S t b A N).2 (t + 3 + 20 + k) (S.2 (b + 3 + 20 + k)) = (cps S t b A (Nu N (23 + k))).2 := by rw [show t + 3 + 20 + k = t + (23 + k) by omega, show b + 3 + 20 + k = b + (23 + k) by omega]; exact cps_wn (by omega)
theorem c_copyCat (hd : t + 35 ≤ b ∨ b + 35 ≤ t) (hk : k < 8) (hp : S.1 (b + 1 + 8 + k) 2 = 0 ∨ S.1 (b + 1 + 8 + k) 2 = 1) : fX0_copyFrom (cps S t b A N) (t + 1 + 8 + k) (b + 1 + 8 + k) = some (cps S t b (Au (Au (Au (Au (Au A (9 + k) 1) (9 + k) 2) (9 + k) 3) (9 + k) 4) (9 + k) 5) (Nu N (9 + k))) := by
  simp (disch := first | omega | exact hd) only [fX0_copyFrom_48, fX0_copyFrom_40, fX0_copyFrom_32, fX0_copyFrom_24, fX0_copyFrom_16, fX0_copyFrom_8, fX0_copyFrom_0, fX0_copyFrom, qsk, qnk, qwk, qmk, cps_p, cps_p2, if_pos hp]
theorem c_copySack (hd : t + 35 ≤ b ∨ b + 35 ≤ t) (hk : k < 6) (hp : S.1 (b + 2 + 15 + k) 3 = 0 ∨ S.1 (b + 2 + 15 + k) 3 = 1) : fX4_copyFrom (cps S t b A N) (t + 2 + 15 + k) (b + 2 + 15 + k) = some (cps S t b (Au (Au (Au (Au A (17 + k) 1) (17 + k) 2) (17 + k) 3) (17 + k) 4) (Nu N (17 + k))) := by
  simp (disch := first | omega | exact hd) only [fX4_copyFrom_40, fX4_copyFrom_32, fX4_copyFrom_24, fX4_copyFrom_16, fX4_copyFrom_8, fX4_copyFrom_0, fX4_copyFrom, qsz, qnz, qwz, qmz, cps_p, cps_p2, if_pos hp]
theorem c_copyShift (hd : t + 35 ≤ b ∨ b + 35 ≤ t) (hk : k < 12) : fX7_copyFrom (cps S t b A N) (t + 3 + 20 + k) (b + 3 + 20 + k) = some (cps S t b (Au (Au A (23 + k) 0) (23 + k) 1) N) := by
  simp (disch := first | omega | exact hd) only [fX7_copyFrom_16, fX7_copyFrom_8, fX7_copyFrom_0, fX7_copyFrom, qsh, qwh, cps_p, cps_p2]
theorem c_copyEv (hd : t + 35 ≤ b ∨ b + 35 ≤ t) : fX1_copyFrom (cps S t b A N) (t + 4) (b + 4) = some (cps S t b (Au (Au (Ac (Ac (Ac A (4 + 1)) (4 + 2)) (4 + 3)) 4 3) 4 4) N) := by
  simp (disch := first | omega | exact hd) only [fX1_copyFrom_61, fX1_copyFrom_53, fX1_copyFrom_45, fX1_copyFrom_30, fX1_copyFrom_15, fX1_copyFrom_0, fX1_copyFrom, qs2, qw2, qs3, qc3, qs4, qc4, qs5, qc5, n16, cps_p, cps_p2]
theorem c_copyTo (hd : t + 35 ≤ b ∨ b + 35 ≤ t) : fX9_copyFrom (cps S t b A N) (t + 8) (b + 8) = some (cps S t b (Au (Au (Au (Au (Au (Au (Au (Au A 8 0) 8 1) 8 2) 8 3) 8 4) 8 5) 8 6) 8 7) N) := by
  simp (disch := first | omega | exact hd) only [fX9_copyFrom_64, fX9_copyFrom_56, fX9_copyFrom_48, fX9_copyFrom_40, fX9_copyFrom_32, fX9_copyFrom_24, fX9_copyFrom_16, fX9_copyFrom_8, fX9_copyFrom_0, fX9_copyFrom, qs1, qw1, cps_p, cps_p2]
end COPY
