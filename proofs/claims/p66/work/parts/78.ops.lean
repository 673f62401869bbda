/-! the changes of a granary, both sides -/
section OPS
variable {S S' : CS} {M M' : MS} {n t k : Nat} {w w' : Wd}
theorem Rel.now (r : Rel S M) (hS : ∀ q, q < 13 ∨ 48 ≤ q → S'.1 q = S.1 q ∧ S'.2 q = S.2 q) (g : GR S' 13 w') (i : In w') : Rel S' (mw M w') := by
  obtain ⟨⟨a, b⟩, ⟨n, rt⟩, c, d, e⟩ := r
  refine ⟨⟨by rw [mw_w]; exact g, by rw [mw_w]; exact i⟩, ⟨n, rt.fr ?_ ?_ ?_ ?_ ?_ ?_⟩, c.fr ?_ ?_ ?_ ?_, d.fr ?_ ?_ ?_ ?_, e.fr ?_ ?_ ?_ ?_⟩
  · exact (hS 1 (by omega)).1
  · exact (hS 2 (by omega)).1
  · rfl
  · rfl
  · rfl
  · exact mw_n (by decide)
  · exact (hS 0 (by omega)).1
  · exact fun q h => hS q (by omega)
  · rfl
  · exact mw_n (by decide)
  · rw [(hS 0 (by omega)).1]
  · exact fun q h h2 => hS q (by omega)
  · rfl
  · exact mw_n (by decide)
  · exact (hS 5 (by omega)).1
  · exact (hS 6 (by omega)).1
  · rfl
  · exact mw_n (by decide)
theorem In.up {q : Nat} {v : Int32} (i : In w) (h0 : 3 ≤ q) (h6 : q ≠ 6) (h16 : q ≠ 16) (h233 : q < 233) (h5 : q = 5 → v = -1) (h4 : q = 4 → ∃ m, m ≤ 9 ∧ v = nI m) (hp : ∀ k, k < 8 → q ≠ (65 + 12 * k + 8)) (h9 : ∀ k, k < 6 → q = (161 + 12 * k + 9) → v = 0 ∨ v = 1) (h8 : ∀ k, k < 6 → q = (161 + 12 * k + 8) → ∃ m, m ≤ 99 ∧ v = nI m) (h7 : ∀ k, k < 6 → q = (161 + 12 * k + 7) → ∃ m, m ≤ 9999 ∧ v = nI m) : In (upd w q v) := by
  have sz := i.sz
  have e0 : nC (upd w q v) = nC w := by unfold nC; rw [pk_un (by omega)]
  have e1 : nS (upd w q v) = nS w := by unfold nS; rw [pk_un (by omega)]
  have e2 : nH (upd w q v) = nH w := by unfold nH; rw [pk_un (by omega)]
  obtain ⟨⟨⟨a, b, c, d⟩, ⟨e, f, g⟩, kk, l⟩, m, o⟩ := i
  refine ⟨⟨⟨?_, ?_, ?_, fun j hj => ?_⟩, ⟨?_, ?_, ?_⟩, fun j hj => ?_, fun j hj => ⟨?_, ?_⟩⟩, fun j hj => ?_, ?_⟩
  · rw [pk_un (by omega)]; exact a
  · rw [pk_un (by omega)]; exact b
  · rw [pk_un (by omega)]; exact c
  · rw [e2] at hj; rw [e0, pk_un (by omega)]; exact d j hj
  · by_cases z : q = 5
    · subst z; rw [pk_us]; exact Or.inl (h5 rfl)
    · rw [e0, pk_un (fun y => z y.symm)]; exact e
  · rw [e2, pk_un (by omega)]; exact f
  · rw [pk_un (by omega)]; exact g
  · rw [e1] at hj
    by_cases z : q = (161 + 12 * j + 9)
    · rw [← z, pk_us]; exact h9 j (by omega) z
    · rw [pk_un (fun y => z y.symm)]; exact kk j hj
  · rw [e1] at hj
    by_cases z : q = (161 + 12 * j + 8)
    · rw [← z, pk_us]; exact h8 j (by omega) z
    · rw [pk_un (fun y => z y.symm)]; exact (l j hj).1
  · rw [e1] at hj
    by_cases z : q = (161 + 12 * j + 7)
    · rw [← z, pk_us]; exact h7 j (by omega) z
    · rw [pk_un (fun y => z y.symm)]; exact (l j hj).2
  · rw [e0] at hj
    rw [pk_un (fun y => hp j (by omega) y.symm)]; exact m j hj
  · by_cases z : q = 4
    · subst z; rw [pk_us]; exact h4 rfl
    · rw [pk_un (fun y => z y.symm)]; exact o
theorem GR.setS {f : Nat} {v : Int32} (g : GR S t w) (i : In w) (hk : k < nS w) (h6 : k < 6) (h1 : 1 ≤ f) (h4 : f ≤ 4) : GR (va_up S.1 (t + 2 + 15 + k) (upd (S.1 (t + 2 + 15 + k)) f v), S.2) t (upd w (161 + 12 * k + (f + 6)) v) := by
  have e : t + 2 + 15 + k = t + (17 + k) := by omega
  rw [e]
  refine g.set (o := 17 + k) (f := f) (q := (161 + 12 * k + (f + 6))) (v := v) i.sz.1 i.sz.2.1 (by omega) (by omega) ?_ (by omega) (by omega) (fun o' f' ho' hX => ?_) ?_ (fun o ho => rfl) rfl
  · unfold cm
    rw [if_neg (by omega), if_neg (by omega), if_neg (by omega), if_pos (by omega), if_pos (by omega), show 17 + k - 17 = k by omega]
  · dsimp only
    by_cases z : o' = 17 + k
    · subst z; rw [vat, pk_un (fun y => hX ⟨rfl, y⟩)]
    · rw [vne (by omega)]
  · dsimp only; rw [vat, pk_us]
theorem GR.setT {f : Nat} {v : Int32} (g : GR S t w) (i : In w) (h8 : f < 8) : GR (va_up S.1 (t + 8) (upd (S.1 (t + 8)) f v), S.2) t (upd w (8 + f) v) := by
  refine g.set (o := 8) (f := f) (q := 8 + f) (v := v) i.sz.1 i.sz.2.1 (by omega) (by omega) ?_ (by omega) (by omega) (fun o' f' ho' hX => ?_) ?_ (fun o ho => rfl) rfl
  · unfold cm
    rw [if_neg (by omega), if_pos rfl, if_pos h8]
  · dsimp only
    by_cases z : o' = 8
    · subst z; rw [vat, pk_un (fun y => hX ⟨rfl, y⟩)]
    · rw [vne (by omega)]
  · dsimp only; rw [vat, pk_us]
theorem GR.setH {f q : Nat} {v : Int32} (g : GR S t w) (i : In w) (hq : cm (nC w) (nS w) (nH w) 0 f = q) (hn : q ≠ 999) (h3 : 3 ≤ q) : GR (va_up S.1 t (upd (S.1 t) f v), S.2) t (upd w q v) := by
  refine g.set (o := 0) (f := f) (q := q) (v := v) i.sz.1 i.sz.2.1 (by omega) (by omega) hq hn h3 (fun o' f' ho' hX => ?_) ?_ (fun o ho => rfl) rfl
  · dsimp only
    by_cases z : o' = 0
    · subst z; rw [Nat.add_zero, vat, pk_un (fun y => hX ⟨rfl, y⟩)]
    · rw [vne (by omega)]
  · dsimp only; rw [Nat.add_zero, vat, pk_us]
theorem va_out {v : Nat → Int32} {q p : Nat} (h : p ≤ q ∧ q < p + 35) : ∀ j, j < p ∨ p + 35 ≤ j → ((va_up S.1 q v, S.2) : CS).1 j = S.1 j ∧ ((va_up S.1 q v, S.2) : CS).2 j = S.2 j := fun j hj => ⟨by dsimp only; rw [vne (by omega)], rfl⟩
def sumK (f : Nat) (w : Wd) : Int32 := sumA (fun j => w (161 + 12 * j + f)) (nS w) 0 0
theorem c_openFlaps (g : GR S t w) (i : In w) : fX2_openFlaps S t = some (sumK 9 w) := by
  have h1 : S.1 t 6 = nI (nS w) := (g.hd (f := 6) (q := 1) (by unfold cm; simp) (by omega)).trans i.1.1.sz.2.1.2.2
  have h6 := i.sz.2.1
  have lp : ∀ r j k (x : Int32), nS w = j + r → r < k → fX2_openFlaps_4 t k S x (nI j) = some (sumA (fun j => w (161 + 12 * j + 9)) r j x) := by
    intro r
    induction r with
    | zero =>
      intro j k x hi hk
      obtain ⟨k, rfl⟩ : ∃ g, k = g + 1 := ⟨k - 1, by omega⟩
      rw [fX2_openFlaps_4]
      dsimp only
      rw [h1, if_pos (nI_le (by omega) (by omega)), fX2_openFlaps_33]
      rfl
    | succ r ih =>
      intro j k x hi hk
      obtain ⟨k, rfl⟩ : ∃ g, k = g + 1 := ⟨k - 1, by omega⟩
      rw [fX2_openFlaps_4]
      dsimp only
      rw [h1, if_neg (nI_ge (show j < nS w by omega) (by omega)), fX2_openFlaps_12, gi_m (show j < 6 by omega) (by omega), nI_c (by omega), g.sack (f := 3) (by omega) (by omega) (by omega) (by omega), sumA]
      rcases i.1.2.2.1 j (by omega) with z | z
      · rw [if_pos z, fX2_openFlaps_27, nI_1, ih (j + 1) k _ (by omega) (by omega), z, Int32.add_zero]
      · rw [if_neg (by rw [z]; decide), fX2_openFlaps_24, fX2_openFlaps_27, nI_1, ih (j + 1) k _ (by omega) (by omega), z]
  unfold fX2_openFlaps fX2_openFlaps_0 sumK
  have := lp (nS w) 0 FU 0 (by omega) (by rw [FU_eq]; omega)
  rw [nI_0] at this
  exact this
theorem r_sumS {f : Nat} {ff : Int32} (ef : ff = nI f) (hf : f < 12) (i : In w) : fX11_sumOf (mw M w) 161 1 ff = some (sumK f w) := by
  subst ef
  have := i.sz.2.1
  exact r_sumOf (a := 161) (m := 1) (f := f) (by omega) i.1.1.sz.2.1.2.2 (by omega) hf (by omega)
/-- a flap -/
theorem o_flap {v : Int32} (g : GR S 13 (M.2 0)) (i : In (M.2 0)) (hk : k < nS (M.2 0)) (h6 : k < 6) (hv : v = 0 ∨ v = 1) : ∃ S' w', In w' ∧ GR S' 13 w' ∧ (∀ q, q < 13 ∨ 48 ≤ q → S'.1 q = S.1 q ∧ S'.2 q = S.2 q) ∧ S' = (va_up S.1 (13 + 2 + 15 + k) (upd (S.1 (13 + 2 + 15 + k)) 3 v), S.2) ∧ fX2_openFlaps S' 13 = some (sumK 9 w') ∧ fX11_setsFlap M (nI k) v = some (sumK 9 w', mw M w') := by
  have i' : In (upd (M.2 0) (161 + 12 * k + 9) v) := i.up (by omega) (by omega) (by omega) (by omega) (fun z => by omega) (fun z => by omega) (fun j hj => by omega) (fun j hj hq => hv) (fun j hj hq => by omega) (fun j hj hq => by omega)
  have g' := g.setS (f := 3) (v := v) i hk h6 (by omega) (by omega)
  refine ⟨_, _, i', g', va_out (by omega), rfl, c_openFlaps g' i', ?_⟩
  unfold fX11_setsFlap fX11_setsFlap_0
  have p := ps9 (M := M) (w := M.2 0) (k := k) (v := v) h6
  rw [mw_self] at p
  rw [p, Option.bind_some, fX11_setsFlap_8]
  unfold fX11_openMany fX11_openMany_0
  rw [r_sumS (f := 9) (ff := 9) rfl (by omega) i', Option.bind_some, fX11_openMany_10, Option.bind_some, fX11_setsFlap_12]
end OPS
