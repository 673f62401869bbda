/-! isConsistent, both sides -/
section CONS
variable {S S' : CS} {M M' : MS} {n t k : Nat} {w w' : Wd} {nc ns nh : Nat} {E : Nat → Nat → Int32}
def bkA (g : Nat → Int32) : Nat → Int32 → Int32
  | 0, a => a
  | r + 1, a => bkA g r (a + g r)
theorem neg0 : (nI 0 - 1 : Int32) < 0 := by decide
theorem nI_m1 {r : Nat} : nI r + (-1) = nI r - 1 := (Int32.sub_eq_add_neg (nI r) 1).symm
theorem nI_p1 {r : Nat} : nI (r + 1) - 1 = nI r := by rw [← nI_1, Int32.add_sub_cancel]
theorem nI_nn {r : Nat} (h : r < 2 ^ 31) : ¬ nI r < 0 := by rw [← nI_0]; exact nI_nlt (by omega) h
theorem c_back (hw : w 1 = nI ns) (hn : ns ≤ 6) : fX2_miceOfAllBackwards (cw S t nc ns nh w E) t = some (bkA (fun j => w (161 + 12 * j + 8)) ns 0) := by
  have lp : ∀ r f (x : Int32), r ≤ ns → r < f → fX2_miceOfAllBackwards_9 t f (cw S t nc ns nh w E) x (nI r - 1) = some (bkA (fun j => w (161 + 12 * j + 8)) r x) := by
    intro r
    induction r with
    | zero =>
      intro f x hr hf
      obtain ⟨f, rfl⟩ : ∃ g, f = g + 1 := ⟨f - 1, by omega⟩
      rw [fX2_miceOfAllBackwards_9]
      dsimp only
      rw [if_pos neg0, fX2_miceOfAllBackwards_31]
      rfl
    | succ r ih =>
      intro f x hr hf
      obtain ⟨f, rfl⟩ : ∃ g, f = g + 1 := ⟨f - 1, by omega⟩
      rw [fX2_miceOfAllBackwards_9]
      dsimp only
      rw [nI_p1, if_neg (nI_nn (by omega)), fX2_miceOfAllBackwards_13, gi_m (show r < 6 by omega) (by omega), nI_c (by omega), cs2 (by omega) (by omega), nI_m1, ih f _ (by omega) (by omega)]
      rfl
  unfold fX2_miceOfAllBackwards fX2_miceOfAllBackwards_0
  rw [ch6, hw]
  exact lp ns FU 0 (Nat.le_refl _) (by rw [FU_eq]; omega)
theorem r_backw (hw : w 1 = nI ns) (hn : ns ≤ 6) : fX11_miceBackwards (mw M w) = some (bkA (fun j => w (161 + 12 * j + 8)) ns 0) := by
  have lp : ∀ r f (x : Int32), r ≤ ns → r < f → fX11_miceBackwards_11 f (mw M w) x (nI r - 1) = some (bkA (fun j => w (161 + 12 * j + 8)) r x) := by
    intro r
    induction r with
    | zero =>
      intro f x hr hf
      obtain ⟨f, rfl⟩ : ∃ g, f = g + 1 := ⟨f - 1, by omega⟩
      rw [fX11_miceBackwards_11]
      dsimp only
      rw [if_pos neg0, fX11_miceBackwards_31]
      rfl
    | succ r ih =>
      intro f x hr hf
      obtain ⟨f, rfl⟩ : ∃ g, f = g + 1 := ⟨f - 1, by omega⟩
      rw [fX11_miceBackwards_11]
      dsimp only
      rw [nI_p1, if_neg (nI_nn (by omega)), fX11_miceBackwards_15, rs8 (show r < 6 by omega), Option.bind_some, fX11_miceBackwards_23, nI_m1, ih f _ (by omega) (by omega)]
      rfl
  unfold fX11_miceBackwards fX11_miceBackwards_0
  rw [gi1, tn1, mw_w, hw]
  exact lp ns FU 0 (Nat.le_refl _) (by rw [FU_eq]; omega)
theorem c_gone (hw : w 1 = nI ns) (hn : ns ≤ 6) : fX2_grainAddsUp (cw S t nc ns nh w E) t = some (if sumA (fun j => w (161 + 12 * j + 10)) ns 0 0 = w 9 then (if sumA (fun j => w (161 + 12 * j + 7)) ns 0 0 = w 15 - w 9 then 1 else 0) else 0) := by
  have lp : ∀ r i k (x : Int32), ns = i + r → r < k → fX2_grainAddsUp_4 t k (cw S t nc ns nh w E) x (nI i) = fX2_grainAddsUp_30 t (cw S t nc ns nh w E) (sumA (fun j => w (161 + 12 * j + 10)) r i x) := by
    intro r
    induction r with
    | zero =>
      intro i k x hi hk
      obtain ⟨k, rfl⟩ : ∃ g, k = g + 1 := ⟨k - 1, by omega⟩
      rw [fX2_grainAddsUp_4]
      dsimp only
      rw [ch6, hw, if_pos (nI_le (by omega) (by omega))]
      rfl
    | succ r ih =>
      intro i k x hi hk
      obtain ⟨k, rfl⟩ : ∃ g, k = g + 1 := ⟨k - 1, by omega⟩
      rw [fX2_grainAddsUp_4]
      dsimp only
      rw [ch6, hw, if_neg (nI_ge (show i < ns by omega) (by omega)), fX2_grainAddsUp_12, gi_m (show i < 6 by omega) (by omega), nI_c (by omega), cs4 (by omega) (by omega), nI_1, ih (i + 1) k _ (by omega) (by omega)]
      rfl
  have l0 := lp ns 0 FU 0 (by omega) (by rw [FU_eq]; omega)
  rw [nI_0] at l0
  unfold fX2_grainAddsUp fX2_grainAddsUp_0
  rw [l0, fX2_grainAddsUp_30, cg1]
  by_cases q : sumA (fun j => w (161 + 12 * j + 10)) ns 0 0 = w 9
  · rw [if_pos q, if_pos q, fX2_grainAddsUp_41, c_grainOfAll hw hn, Option.bind_some, fX2_grainAddsUp_45, cg7, cg1]
    by_cases q2 : sumA (fun j => w (161 + 12 * j + 7)) ns 0 0 = w 15 - w 9
    · rw [if_pos q2, if_pos q2, fX2_grainAddsUp_63, fX2_grainAddsUp_68]; rfl
    · rw [if_neg q2, if_neg q2, fX2_grainAddsUp_67, fX2_grainAddsUp_68]; rfl
  · rw [if_neg q, if_neg q, fX2_grainAddsUp_67, fX2_grainAddsUp_68]; rfl
theorem c_mice (hw : w 1 = nI ns) (hn : ns ≤ 6) : fX2_miceAddUp (cw S t nc ns nh w E) t = some (if sumA (fun j => w (161 + 12 * j + 8)) ns 0 0 = w 14 + w 10 - w 8 - w 11 then (if bkA (fun j => w (161 + 12 * j + 8)) ns 0 = w 14 + w 10 - w 8 - w 11 then 1 else 0) else 0) := by
  unfold fX2_miceAddUp fX2_miceAddUp_0
  rw [c_miceOfAll hw hn, Option.bind_some, cg6, cg2, cg0, cg3, fX2_miceAddUp_36]
  by_cases q : sumA (fun j => w (161 + 12 * j + 8)) ns 0 0 = w 14 + w 10 - w 8 - w 11
  · rw [if_pos q, if_pos q, fX2_miceAddUp_40, c_back hw hn, Option.bind_some, fX2_miceAddUp_44]
    by_cases q2 : bkA (fun j => w (161 + 12 * j + 8)) ns 0 = w 14 + w 10 - w 8 - w 11
    · rw [if_pos q2, if_pos q2, fX2_miceAddUp_48, fX2_miceAddUp_53]; rfl
    · rw [if_neg q2, if_neg q2, fX2_miceAddUp_52, fX2_miceAddUp_53]; rfl
  · rw [if_neg q, if_neg q, fX2_miceAddUp_52, fX2_miceAddUp_53]; rfl
theorem c_catsUp (hw : w 0 = nI nc) (hn : nc ≤ 8) : fX2_catsAddUp (cw S t nc ns nh w E) t = some (if sumA (fun j => w (65 + 12 * j + 10)) nc 0 0 = w 8 then (if sumA (fun j => w (65 + 12 * j + 11)) nc 0 0 = w 12 then 1 else 0) else 0) := by
  have lp : ∀ r i k (x y : Int32), nc = i + r → r < k → fX2_catsAddUp_6 t k (cw S t nc ns nh w E) x y (nI i) = fX2_catsAddUp_44 t (cw S t nc ns nh w E) (sumA (fun j => w (65 + 12 * j + 10)) r i x) (sumA (fun j => w (65 + 12 * j + 11)) r i y) := by
    intro r
    induction r with
    | zero =>
      intro i k x y hi hk
      obtain ⟨k, rfl⟩ : ∃ g, k = g + 1 := ⟨k - 1, by omega⟩
      rw [fX2_catsAddUp_6]
      dsimp only
      rw [ch5, hw, if_pos (nI_le (by omega) (by omega))]
      rfl
    | succ r ih =>
      intro i k x y hi hk
      obtain ⟨k, rfl⟩ : ∃ g, k = g + 1 := ⟨k - 1, by omega⟩
      rw [fX2_catsAddUp_6]
      dsimp only
      rw [ch5, hw, if_neg (nI_ge (show i < nc by omega) (by omega)), fX2_catsAddUp_14, gi_m (show i < 8 by omega) (by omega), gi_m (show i < 8 by omega) (by omega), nI_c (by omega), cc4 (by omega) (by omega), cc5 (by omega) (by omega), nI_1, ih (i + 1) k _ _ (by omega) (by omega)]
      rfl
  have l0 := lp nc 0 FU 0 0 (by omega) (by rw [FU_eq]; omega)
  rw [nI_0] at l0
  unfold fX2_catsAddUp fX2_catsAddUp_0
  rw [l0, fX2_catsAddUp_44, cg0]
  by_cases q : sumA (fun j => w (65 + 12 * j + 10)) nc 0 0 = w 8
  · rw [if_pos q, if_pos q, fX2_catsAddUp_55, cg4]
    by_cases q2 : sumA (fun j => w (65 + 12 * j + 11)) nc 0 0 = w 12
    · rw [if_pos q2, if_pos q2, fX2_catsAddUp_66, fX2_catsAddUp_71]; rfl
    · rw [if_neg q2, if_neg q2, fX2_catsAddUp_70, fX2_catsAddUp_71]; rfl
  · rw [if_neg q, if_neg q, fX2_catsAddUp_70, fX2_catsAddUp_71]; rfl
def consW (nc ns : Nat) (w : Wd) : Int32 := if sumA (fun j => w (161 + 12 * j + 8)) ns 0 0 = w 14 + w 10 - w 8 - w 11 ∧ bkA (fun j => w (161 + 12 * j + 8)) ns 0 = w 14 + w 10 - w 8 - w 11 ∧ sumA (fun j => w (161 + 12 * j + 10)) ns 0 0 = w 9 ∧ sumA (fun j => w (161 + 12 * j + 7)) ns 0 0 = w 15 - w 9 ∧ sumA (fun j => w (65 + 12 * j + 10)) nc 0 0 = w 8 ∧ sumA (fun j => w (65 + 12 * j + 11)) nc 0 0 = w 12 then 1 else 0
theorem c_cons (h0 : w 0 = nI nc) (h8 : nc ≤ 8) (hw : w 1 = nI ns) (hn : ns ≤ 6) : fX10_isConsistent (cw S 13 nc ns nh w E) = some (consW nc ns w) := by
  unfold fX10_isConsistent fX10_isConsistent_0 consW
  rw [c_mice hw hn, Option.bind_some, fX10_isConsistent_7]
  by_cases a : sumA (fun j => w (161 + 12 * j + 8)) ns 0 0 = w 14 + w 10 - w 8 - w 11
  case neg => rw [if_neg a, if_pos rfl, fX10_isConsistent_34, fX10_isConsistent_35, if_neg (fun z => a z.1)]; rfl
  by_cases b : bkA (fun j => w (161 + 12 * j + 8)) ns 0 = w 14 + w 10 - w 8 - w 11
  case neg => rw [if_pos a, if_neg b, if_pos rfl, fX10_isConsistent_34, fX10_isConsistent_35, if_neg (fun z => b z.2.1)]; rfl
  rw [if_pos a, if_pos b, if_neg one0, fX10_isConsistent_10, c_gone hw hn, Option.bind_some, fX10_isConsistent_17]
  by_cases c : sumA (fun j => w (161 + 12 * j + 10)) ns 0 0 = w 9
  case neg => rw [if_neg c, if_pos rfl, fX10_isConsistent_34, fX10_isConsistent_35, if_neg (fun z => c z.2.2.1)]; rfl
  by_cases d : sumA (fun j => w (161 + 12 * j + 7)) ns 0 0 = w 15 - w 9
  case neg => rw [if_pos c, if_neg d, if_pos rfl, fX10_isConsistent_34, fX10_isConsistent_35, if_neg (fun z => d z.2.2.2.1)]; rfl
  rw [if_pos c, if_pos d, if_neg one0, fX10_isConsistent_20, c_catsUp h0 h8, Option.bind_some, fX10_isConsistent_27]
  by_cases e : sumA (fun j => w (65 + 12 * j + 10)) nc 0 0 = w 8
  case neg => rw [if_neg e, if_pos rfl, fX10_isConsistent_34, fX10_isConsistent_35, if_neg (fun z => e z.2.2.2.2.1)]; rfl
  by_cases f : sumA (fun j => w (65 + 12 * j + 11)) nc 0 0 = w 12
  case neg => rw [if_pos e, if_neg f, if_pos rfl, fX10_isConsistent_34, fX10_isConsistent_35, if_neg (fun z => f z.2.2.2.2.2)]; rfl
  rw [if_pos e, if_pos f, if_neg one0, fX10_isConsistent_30, fX10_isConsistent_35, if_pos ⟨a, b, c, d, e, f⟩]; rfl
theorem r_cons (h0 : w 0 = nI nc) (h8 : nc ≤ 8) (hw : w 1 = nI ns) (hn : ns ≤ 6) : bz (fX11_isConsistent_5 (mw M w)) = some (consW nc ns w, mw M w) := by
  have sm : ∀ f (ff : Int32), ff = nI f → f < 12 → fX11_sumOf (mw M w) 161 1 ff = some (sumA (fun j => w (161 + 12 * j + f)) ns 0 0) := fun f ff ef hf => by
    subst ef
    exact r_sumOf (a := 161) (m := 1) (f := f) (by omega) hw (by omega) hf (by omega)
  have sc : ∀ f (ff : Int32), ff = nI f → f < 12 → fX11_sumOf (mw M w) 65 0 ff = some (sumA (fun j => w (65 + 12 * j + f)) nc 0 0) := fun f ff ef hf => by
    subst ef
    exact r_sumOf (a := 65) (m := 0) (f := f) (by omega) h0 (by omega) hf (by omega)
  have no : bz (fX11_isConsistent_169 (mw M w)) = some (0, mw M w) := by rw [fX11_isConsistent_169, fX11_isConsistent_170]; rfl
  have tail : ∀ (p1 p2 : Int32), fX11_isConsistent_118 (mw M w) p1 p2 = if p1 = 0 then fX11_isConsistent_169 (mw M w) else if p2 = 0 then fX11_isConsistent_169 (mw M w) else fX11_isConsistent_127 (mw M w) := fun p1 p2 => by
    rw [fX11_isConsistent_118, fX11_isConsistent_123]
  have mid : ∀ p : Int32, fX11_isConsistent_64 (mw M w) p = fX11_isConsistent_118 (mw M w) p (if sumA (fun j => w (161 + 12 * j + 10)) ns 0 0 = w 9 ∧ sumA (fun j => w (161 + 12 * j + 7)) ns 0 0 = w 15 - w 9 then 1 else 0) := fun p => by
    rw [fX11_isConsistent_64, sm 7 7 rfl (by omega), Option.bind_some, fX11_isConsistent_75, gi15, gi9, tn15, tn9, mw_w]
    by_cases d : sumA (fun j => w (161 + 12 * j + 7)) ns 0 0 = w 15 - w 9
    · rw [if_pos d, fX11_isConsistent_93, sm 10 10 rfl (by omega), Option.bind_some, fX11_isConsistent_103, gi9, tn9, mw_w]
      by_cases c : sumA (fun j => w (161 + 12 * j + 10)) ns 0 0 = w 9
      · rw [if_pos c, if_pos ⟨c, d⟩, fX11_isConsistent_113]
      · rw [if_neg c, if_neg (fun z => c z.1), fX11_isConsistent_117]
    · rw [if_neg d, if_neg (fun z => d z.2), fX11_isConsistent_117]
  have head : fX11_isConsistent_5 (mw M w) = fX11_isConsistent_64 (mw M w) (if sumA (fun j => w (161 + 12 * j + 8)) ns 0 0 = w 14 + w 10 - w 8 - w 11 ∧ bkA (fun j => w (161 + 12 * j + 8)) ns 0 = w 14 + w 10 - w 8 - w 11 then 1 else 0) := by
    rw [fX11_isConsistent_5, sm 8 8 rfl (by omega), Option.bind_some, fX11_isConsistent_15, gi14, gi10, gi8, gi11, tn14, tn10, tn8, tn11, mw_w]
    by_cases a : sumA (fun j => w (161 + 12 * j + 8)) ns 0 0 = w 14 + w 10 - w 8 - w 11
    · rw [if_pos a, fX11_isConsistent_51, r_backw hw hn, Option.bind_some, fX11_isConsistent_56]
      by_cases b : bkA (fun j => w (161 + 12 * j + 8)) ns 0 = w 14 + w 10 - w 8 - w 11
      · rw [if_pos (a.trans b.symm), if_pos ⟨a, b⟩, fX11_isConsistent_59]
      · rw [if_neg (fun z => b (z.symm.trans a)), if_neg (fun z => b z.2), fX11_isConsistent_63]
    · rw [if_neg a, if_neg (fun z => a z.1), fX11_isConsistent_63]
  rw [head, mid, tail]
  unfold consW
  by_cases ab : sumA (fun j => w (161 + 12 * j + 8)) ns 0 0 = w 14 + w 10 - w 8 - w 11 ∧ bkA (fun j => w (161 + 12 * j + 8)) ns 0 = w 14 + w 10 - w 8 - w 11
  case neg => rw [if_neg ab, if_pos rfl, no, if_neg (fun z => ab ⟨z.1, z.2.1⟩)]
  by_cases cd : sumA (fun j => w (161 + 12 * j + 10)) ns 0 0 = w 9 ∧ sumA (fun j => w (161 + 12 * j + 7)) ns 0 0 = w 15 - w 9
  case neg => rw [if_pos ab, if_neg one0, if_neg cd, if_pos rfl, no, if_neg (fun z => cd ⟨z.2.2.1, z.2.2.2.1⟩)]
  rw [if_pos ab, if_neg one0, if_pos cd, if_neg one0, fX11_isConsistent_127, sc 10 10 rfl (by omega), Option.bind_some, fX11_isConsistent_136, gi8, tn8, mw_w]
  by_cases e : sumA (fun j => w (65 + 12 * j + 10)) nc 0 0 = w 8
  case neg => rw [if_neg e, no, if_neg (fun z => e z.2.2.2.2.1)]
  rw [if_pos e, fX11_isConsistent_146, sc 11 11 rfl (by omega), Option.bind_some, fX11_isConsistent_155, gi12, tn12, mw_w]
  by_cases f : sumA (fun j => w (65 + 12 * j + 11)) nc 0 0 = w 12
  case neg => rw [if_neg f, no, if_neg (fun z => f z.2.2.2.2.2)]
  rw [if_pos f, fX11_isConsistent_165, fX11_isConsistent_170, if_pos ⟨ab.1, ab.2, cd.1, cd.2, e, f⟩]
  rfl
theorem q_isConsistent (r : Rel S M) : Br S (fX10_isConsistent S) (fX11_isConsistent M) := by
  have i := r.1.2
  have z := i.1.1.sz
  obtain ⟨E, e, -⟩ := r.1.1.cwE
  have c := c_cons (S := S) (w := M.2 0) (nc := nC (M.2 0)) (ns := nS (M.2 0)) (nh := nH (M.2 0)) (E := E) z.1.2.2 z.1.2.1 z.2.1.2.2 z.2.1.2.1
  rw [e] at c
  have d := r_cons (M := th M 0) (w := M.2 0) (nc := nC (M.2 0)) (ns := nS (M.2 0)) z.1.2.2 z.1.2.1 z.2.1.2.2 z.2.1.2.1
  rw [thw] at d
  exact ⟨_, th M 0, c, d, r.thr, th_7⟩
end CONS
