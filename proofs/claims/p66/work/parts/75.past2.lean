/-! remember, both sides -/
section PAST
variable {S S' : CS} {M M' : MS} {n t k : Nat} {w w' : Wd}
def mq (M : MS) (X : Wd) : MS := (M.1, va_up M.2 4 X)
theorem mq_self : mq M (M.2 4) = M := by unfold mq; rw [up_self]
theorem mq_4 {X : Wd} : (mq M X).2 4 = X := by unfold mq; dsimp only; rw [vat]
theorem mq_w {X Y : Wd} : (((mq M X).1, va_up (mq M X).2 4 Y) : MS) = mq M Y := by unfold mq; dsimp only; rw [up_up]
def shW (M : MS) (i : Nat) : Wd := fun q => if q < i then M.2 4 (q + 257) else M.2 4 q
theorem shW_0 : shW M 0 = M.2 4 := funext fun q => if_neg (by omega)
theorem shW_s {i : Nat} : upd (shW M i) i (shW M i (i + 257)) = shW M (i + 1) := funext fun q => by
  unfold upd shW
  rw [if_neg (show ¬ i + 257 < i by omega)]
  by_cases h : q = i
  · subst h; rw [if_pos rfl, if_pos (show q < q + 1 by omega)]
  · rw [if_neg h]
    by_cases h2 : q < i
    · rw [if_pos h2, if_pos (show q < i + 1 by omega)]
    · rw [if_neg h2, if_neg (show ¬ q < i + 1 by omega)]
theorem mq_e {X : Wd} : ((M.1, va_up M.2 4 X) : MS) = mq M X := rfl
/-- what the reference remembers -/
theorem r_remembers {u : Nat} (u8 : u ≤ 8) (h5 : M.1 5 = nI u) : ∃ P, fX11_remembers M = some (va_up M.1 5 (nI (if u = 8 then 8 else u + 1)), va_up M.2 4 P) ∧ (∀ q, q < 257 → P (257 * ((if u = 8 then 8 else u + 1) - 1) + q) = M.2 0 q) ∧ ∀ j q, j + 1 < (if u = 8 then 8 else u + 1) → q < 257 → P (257 * j + q) = M.2 4 (257 * (j + if u = 8 then 1 else 0) + q) := by
  have cp : ∀ (N : MS) (v : Nat), v < 8 → N.1 5 = nI v → fX11_remembers_50 N = some (va_up N.1 5 (nI (v + 1)), va_up N.2 4 (cpW (N.2 0) 0 (N.2 4) (257 * v) 257)) := fun N v hv h => by
    rw [fX11_remembers_50, h, show (257 : Int32) * nI v = nI (257 * v) from pk_mul 257 v, show fX11_copies N 0 0 4 (nI (257 * v)) = _ from r_copies (a := 0) (b := 4) (p := 0) (q := 257 * v) (by omega) (mIs_k (by omega)) (mIs_k (by omega)) (by rw [mL_k (by omega)]; omega) (by rw [mL_4]; omega) (by rw [mL_k (by omega)]; omega) (by rw [mL_4]; omega), Option.bind_some, fX11_remembers_70]
    dsimp only
    rw [h, nI_1, fX11_remembers_80]
  unfold fX11_remembers fX11_remembers_0
  rw [h5]
  by_cases e : u = 8
  · subst e
    rw [if_pos (show nI 8 = (8 : Int32) from rfl), if_pos rfl, if_pos rfl, fX11_remembers_9]
    have lp : ∀ r i f, 1799 = i + r → r < f → fX11_remembers_11 f (mq M (shW M i)) (nI i) = fX11_remembers_40 (mq M (shW M 1799)) := by
      intro r
      induction r with
      | zero =>
        intro i f hi hf
        obtain ⟨f, rfl⟩ : ∃ g, f = g + 1 := ⟨f - 1, by omega⟩
        rw [fX11_remembers_11]
        dsimp only
        rw [if_pos (show (1799 : Int32) ≤ nI i from nI_le (a := 1799) (by omega) (by omega)), show i = 1799 by omega]
      | succ r ih =>
        intro i f hi hf
        obtain ⟨f, rfl⟩ : ∃ g, f = g + 1 := ⟨f - 1, by omega⟩
        rw [fX11_remembers_11]
        dsimp only
        rw [if_neg (show ¬ (1799 : Int32) ≤ nI i from nI_ge (b := 1799) (by omega) (by omega)), fX11_remembers_18, show nI i + 257 = nI (i + 257) from nI_add i 257, gi_m (show i + 257 < 2056 by omega) (by omega), gi_m (show i < 2056 by omega) (by omega), nI_c (by omega), nI_c (by omega)]
        rw [mq_4, mq_w, shW_s, fX11_remembers_34, nI_1, ih (i + 1) f (by omega) (by omega)]
    have l0 := lp 1799 0 FU (by omega) (by rw [FU_eq]; omega)
    rw [shW_0, mq_self, nI_0] at l0
    rw [l0, fX11_remembers_40]
    unfold mq
    dsimp only
    rw [h5, show nI 8 - 1 = nI 7 from pk_sub (a := 8) (b := 1) (by omega), cp _ 7 (by omega) (by dsimp only; rw [vat])]
    dsimp only
    rw [up_up, up_up, vne (by omega), vat]
    refine ⟨_, rfl, fun q hq => ?_, fun j q hj hq => ?_⟩
    · unfold cpW
      rw [if_pos (show 257 * 7 ≤ 257 * (8 - 1) + q ∧ 257 * (8 - 1) + q < 257 * 7 + 257 by omega), show 0 + (257 * (8 - 1) + q - 257 * 7) = q by omega]
    · unfold cpW
      rw [if_neg (show ¬ (257 * 7 ≤ 257 * j + q ∧ 257 * j + q < 257 * 7 + 257) by omega)]
      unfold shW
      rw [if_pos (show 257 * j + q < 1799 by omega), show 257 * j + q + 257 = 257 * (j + 1) + q by omega]
  · rw [if_neg (show ¬ nI u = (8 : Int32) from fun z => e ((nI_eq (b := 8) (by omega) (by omega)).mp z)), if_neg e, if_neg e, cp M u (by omega) h5]
    refine ⟨_, rfl, fun q hq => ?_, fun j q hj hq => ?_⟩
    · unfold cpW
      rw [if_pos (show 257 * u ≤ 257 * (u + 1 - 1) + q ∧ 257 * (u + 1 - 1) + q < 257 * u + 257 by omega), show 0 + (257 * (u + 1 - 1) + q - 257 * u) = q by omega]
    · unfold cpW
      rw [if_neg (show ¬ (257 * u ≤ 257 * j + q ∧ 257 * j + q < 257 * u + 257) by omega), Nat.add_zero]
end PAST
