/-! a granary under construction -/
section ADDS
variable {S S' : CS} {t nc ns nh : Nat} {w w' : Wd}
theorem cm_h {o f q : Nat} (h : cm nc ns (nh + 1) o f = q) (hn : q ≠ 999) (h12 : nh < 12) (ho : o < 35) : (o = 23 + nh ∧ f < 2 ∧ q = 233 + 2 * nh + f) ∨ (cm nc ns nh o f = q ∧ q ≠ 233 + 2 * nh ∧ q ≠ 233 + 2 * nh + 1 ∧ (q = 2 ↔ o = 0 ∧ f = 7)) := by
  unfold cm at h ⊢
  by_cases a : o = 0
  · subst a
    rw [if_pos rfl] at h ⊢
    right
    refine ⟨h, ?_⟩
    repeat' split at h
    all_goals omega
  rw [if_neg a] at h ⊢
  by_cases b : o = 8
  · rw [if_pos b] at h ⊢
    right
    refine ⟨h, ?_⟩
    split at h <;> omega
  rw [if_neg b] at h ⊢
  by_cases c : 9 ≤ o ∧ o < 17
  · rw [if_pos c] at h ⊢
    right
    refine ⟨h, ?_⟩
    split at h <;> omega
  rw [if_neg c] at h ⊢
  by_cases d : 17 ≤ o ∧ o < 23
  · rw [if_pos d] at h ⊢
    right
    refine ⟨h, ?_⟩
    split at h <;> omega
  rw [if_neg d] at h ⊢
  by_cases e : 23 ≤ o ∧ o < 35
  · rw [if_pos e] at h ⊢
    by_cases i : o = 23 + nh
    · left
      split at h <;> omega
    · right
      split at h
      · rw [if_pos (by omega)]; omega
      · omega
  · rw [if_neg e] at h; omega
theorem cm_c {o f q : Nat} (h : cm (nc + 1) ns nh o f = q) (hn : q ≠ 999) (h12 : nc < 8) (ho : o < 35) : (o = 9 + nc ∧ 1 ≤ f ∧ f ≤ 5 ∧ q = (65 + 12 * nc + (f + 6))) ∨ (cm nc ns nh o f = q ∧ (q < (65 + 12 * nc + 0) ∨ (65 + 12 * nc + 12) ≤ q) ∧ (q = 0 ↔ o = 0 ∧ f = 5) ∧ ¬ (o = 9 + nc)) := by
  unfold cm at h ⊢
  by_cases a : o = 0
  · subst a
    rw [if_pos rfl] at h ⊢
    right
    refine ⟨h, ?_⟩
    repeat' split at h
    all_goals omega
  rw [if_neg a] at h ⊢
  by_cases b : o = 8
  · rw [if_pos b] at h ⊢
    right
    refine ⟨h, ?_⟩
    split at h <;> omega
  rw [if_neg b] at h ⊢
  by_cases c : 9 ≤ o ∧ o < 17
  · rw [if_pos c] at h ⊢
    by_cases i : o = 9 + nc
    · left
      subst i
      split at h
      · rw [show 9 + nc - 9 = nc by omega] at h; omega
      · omega
    · right
      split at h
      · rw [if_pos (by omega)]; omega
      · omega
  rw [if_neg c] at h ⊢
  by_cases d : 17 ≤ o ∧ o < 23
  · rw [if_pos d] at h ⊢
    right
    refine ⟨h, ?_⟩
    split at h <;> omega
  rw [if_neg d] at h ⊢
  by_cases e : 23 ≤ o ∧ o < 35
  · rw [if_pos e] at h ⊢
    right
    refine ⟨h, ?_⟩
    split at h <;> omega
  · rw [if_neg e] at h; omega
theorem cm_s {o f q : Nat} (h : cm nc (ns + 1) nh o f = q) (hn : q ≠ 999) (h12 : ns < 6) (ho : o < 35) : (o = 17 + ns ∧ 1 ≤ f ∧ f ≤ 4 ∧ q = (161 + 12 * ns + (f + 6))) ∨ (cm nc ns nh o f = q ∧ (q < (161 + 12 * ns + 0) ∨ (161 + 12 * ns + 12) ≤ q ∨ nc > 8) ∧ (q = 1 ↔ o = 0 ∧ f = 6) ∧ ¬ (o = 17 + ns)) := by
  unfold cm at h ⊢
  by_cases a : o = 0
  · subst a
    rw [if_pos rfl] at h ⊢
    right
    refine ⟨h, ?_⟩
    repeat' split at h
    all_goals omega
  rw [if_neg a] at h ⊢
  by_cases b : o = 8
  · rw [if_pos b] at h ⊢
    right
    refine ⟨h, ?_⟩
    split at h <;> omega
  rw [if_neg b] at h ⊢
  by_cases c : 9 ≤ o ∧ o < 17
  · rw [if_pos c] at h ⊢
    right
    refine ⟨h, ?_⟩
    split at h <;> omega
  rw [if_neg c] at h ⊢
  by_cases d : 17 ≤ o ∧ o < 23
  · rw [if_pos d] at h ⊢
    by_cases i : o = 17 + ns
    · left
      subst i
      split at h
      · rw [show 17 + ns - 17 = ns by omega] at h; omega
      · omega
    · right
      split at h
      · rw [if_pos (by omega)]; omega
      · omega
  rw [if_neg d] at h ⊢
  by_cases e : 23 ≤ o ∧ o < 35
  · rw [if_pos e] at h ⊢
    right
    refine ⟨h, ?_⟩
    split at h <;> omega
  · rw [if_neg e] at h; omega
theorem EvRel.congw {E : Nat → Nat → Int32} (h : ∀ q, 16 ≤ q → q < 65 → w' q = w q) (e : EvRel E w) : EvRel E w' := by
  obtain ⟨nx, c, h1, h2, h3, h4, h5, h6⟩ := e
  refine ⟨nx, c, h1, h2, h3, h4, by rw [h 16 (by omega) (by omega)]; exact h5, fun k hk => ?_⟩
  rw [h (17 + 3 * k) (by omega) (by omega), h (18 + 3 * k) (by omega) (by omega), h (19 + 3 * k) (by omega) (by omega)]
  exact h6 k hk
theorem NmOk.cong {bs : List Int32} {a : Nat} (h : ∀ j, j < 7 → w' (a + j) = w (a + j)) (g : NmOk bs w a) : NmOk bs w' a := by
  obtain ⟨g1, g2, g3, g4⟩ := g
  refine ⟨g1, g2, by rw [show a = a + 0 by omega, h 0 (by omega)]; exact g3, fun j hj => ?_⟩
  rw [show a + 1 + j = a + (1 + j) by omega, h (1 + j) (by omega), show a + (1 + j) = a + 1 + j by omega]
  exact g4 j hj
/-- the fields of the new granary, and what it was -/
def Smp (S S' : CS) (t : Nat) (X : Nat → Nat → Prop) : Prop := ∀ o f, o < 35 → ¬ X o f → S'.1 (t + o) f = S.1 (t + o) f
theorem GR.set {o f q : Nat} {v : Int32} (g : GR S t w) (hc : nC w ≤ 8) (hs : nS w ≤ 6) (ho : o < 35) (h4 : ¬ (4 ≤ o ∧ o < 8)) (hq : cm (nC w) (nS w) (nH w) o f = q) (hn : q ≠ 999) (h3 : 3 ≤ q) (s1 : Smp S S' t (fun o' f' => o' = o ∧ f' = f)) (s2 : S'.1 (t + o) f = v) (s3 : ∀ o, o < 35 → S'.2 (t + o) = S.2 (t + o)) (hw : w' = upd w q v) : GR S' t w' := by
  subst hw
  have e0 : nC (upd w q v) = nC w := by unfold nC; rw [pk_un (by omega)]
  have e1 : nS (upd w q v) = nS w := by unfold nS; rw [pk_un (by omega)]
  have e2 : nH (upd w q v) = nH w := by unfold nH; rw [pk_un (by omega)]
  have img : q < 16 ∨ (65 ≤ q ∧ q < 161 ∧ 7 ≤ (q - 65) % 12) ∨ (161 ≤ q ∧ q < 233 ∧ 7 ≤ (q - 161) % 12) ∨ 233 ≤ q := by
    unfold cm at hq
    repeat' split at hq
    all_goals omega
  refine GR.mk (fun o' f' q' ho' h4' hq' hn' => ?_) ((g.ev.cong fun o' f' ho' => ?_).congw fun q' h1 h2 => ?_) (fun i hi => ?_) (fun i hi => ?_)
  · rw [e0, e1, e2] at hq'
    by_cases z : q' = q
    · subst z
      obtain ⟨z1, z2⟩ := cm_inj (hq'.trans hq.symm) (by rw [hq']; exact hn')
      subst z1; subst z2
      rw [pk_us]; exact s2
    · rw [pk_un z, s1 o' f' ho' (fun y => z (by rw [← hq', ← hq, y.1, y.2]))]
      exact g.cls o' f' q' ho' h4' hq' hn'
  · exact (s1 (4 + o') f' (by omega) (fun y => h4 (by omega))).symm
  · exact pk_un (by omega)
  · rw [e0] at hi
    rw [s3 (9 + i) (by omega)]
    exact (g.2.1 i hi).cong (fun j hj => pk_un (by omega))
  · rw [e1] at hi
    rw [s3 (17 + i) (by omega)]
    exact (g.2.2 i hi).cong (fun j hj => pk_un (by omega))
theorem GR.addShift {c h : Int32} (g : GR S t w) (hc : nC w ≤ 8) (hs : nS w ≤ 6) (hh : w 2 = nI nh) (h12 : nh < 12) (s1 : Smp S S' t (fun o f => (o = 23 + nh ∧ f < 2) ∨ (o = 0 ∧ f = 7))) (sc : S'.1 (t + (23 + nh)) 0 = c) (sh : S'.1 (t + (23 + nh)) 1 = h) (s7 : S'.1 t 7 = nI (nh + 1)) (s3 : ∀ o, o < 35 → S'.2 (t + o) = S.2 (t + o)) (hw : w' = upd (upd (upd w (233 + 2 * nh) c) (233 + 2 * nh + 1) h) 2 (nI (nh + 1))) : GR S' t w' := by
  have eo : ∀ q, q ≠ 2 → q ≠ 233 + 2 * nh → q ≠ 233 + 2 * nh + 1 → w' q = w q := fun q a b d => by rw [hw, pk_un a, pk_un d, pk_un b]
  have e0 : nC w' = nC w := by unfold nC; rw [eo 0 (by omega) (by omega) (by omega)]
  have e1 : nS w' = nS w := by unfold nS; rw [eo 1 (by omega) (by omega) (by omega)]
  have e2 : nH w' = nh + 1 := nH_of (by rw [hw, pk_us]) (by omega)
  have e3 : nH w = nh := nH_of hh (by omega)
  refine GR.mk (fun o f q ho h4 hq hn => ?_) ((g.ev.cong fun o' f' ho' => ?_).congw fun q' h1 h2 => ?_) (fun i hi => ?_) (fun i hi => ?_)
  · rw [e0, e1, e2] at hq
    rcases cm_h hq hn h12 ho with ⟨z1, z2, z3⟩ | ⟨z1, z2, z3, z4⟩
    · subst z1; subst z3
      rcases (show f = 0 ∨ f = 1 by omega) with z | z
      · subst z; rw [sc, hw, pk_un (by omega), pk_un (by omega)]; exact pk_us.symm
      · subst z; rw [sh, hw, pk_un (by omega), pk_us]
    · by_cases z : q = 2
      · obtain ⟨z5, z6⟩ := z4.mp z
        subst z5; subst z6; subst z
        rw [Nat.add_zero, s7, hw, pk_us]
      · rw [eo q z z2 z3, s1 o f ho (fun y => ?_)]
        · rw [← e3] at z1
          exact g.cls o f q ho h4 z1 hn
        · rcases y with ⟨y1, y2⟩ | y
          · subst y1
            unfold cm at z1
            rw [if_neg (by omega), if_neg (by omega), if_neg (by omega), if_neg (by omega), if_pos (by omega), if_neg (by omega)] at z1
            exact hn z1.symm
          · exact z (z4.mpr y)
  · exact (s1 (4 + o') f' (by omega) (fun y => by omega)).symm
  · exact eo q' (by omega) (by omega) (by omega)
  · rw [e0] at hi
    rw [s3 (9 + i) (by omega)]
    exact (g.2.1 i hi).cong (fun j hj => eo _ (by omega) (by omega) (by omega))
  · rw [e1] at hi
    rw [s3 (17 + i) (by omega)]
    exact (g.2.2 i hi).cong (fun j hj => eo _ (by omega) (by omega) (by omega))
theorem GR.addCat {bs : List Int32} (g : GR S t w) (hs : nS w ≤ 6) (hh : w 0 = nI nc) (h8 : nc < 8) (s1 : Smp S S' t (fun o f => (o = 9 + nc ∧ 1 ≤ f ∧ f ≤ 5) ∨ (o = 0 ∧ f = 5))) (sc : ∀ f, 1 ≤ f → f ≤ 5 → S'.1 (t + (9 + nc)) f = w' (65 + 12 * nc + (f + 6))) (s5 : S'.1 t 5 = nI (nc + 1)) (s3 : ∀ o, o < 35 → o ≠ 9 + nc → S'.2 (t + o) = S.2 (t + o)) (sn : S'.2 (t + (9 + nc)) = bs) (hw0 : w' 0 = nI (nc + 1)) (eo : ∀ q, q ≠ 0 → (q < (65 + 12 * nc + 0) ∨ (65 + 12 * nc + 12) ≤ q) → w' q = w q) (nm : NmOk bs w' (65 + 12 * nc + 0)) : GR S' t w' := by
  have e0 : nC w' = nc + 1 := nC_of hw0 (by omega)
  have e1 : nS w' = nS w := by unfold nS; rw [eo 1 (by omega) (by omega)]
  have e2 : nH w' = nH w := by unfold nH; rw [eo 2 (by omega) (by omega)]
  have e3 : nC w = nc := nC_of hh (by omega)
  refine GR.mk (fun o f q ho h4 hq hn => ?_) ((g.ev.cong fun o' f' ho' => ?_).congw fun q' h1 h2 => ?_) (fun i hi => ?_) (fun i hi => ?_)
  · rw [e0, e1, e2] at hq
    rcases cm_c hq hn h8 ho with ⟨z1, z2, z3, z4⟩ | ⟨z1, z2, z3, z4⟩
    · subst z1; subst z4
      exact sc f z2 z3
    · by_cases z : q = 0
      · obtain ⟨z5, z6⟩ := z3.mp z
        subst z5; subst z6; subst z
        rw [Nat.add_zero, s5, hw0]
      · rw [eo q z z2, s1 o f ho (fun y => ?_)]
        · rw [← e3] at z1
          exact g.cls o f q ho h4 z1 hn
        · rcases y with ⟨y1, y2⟩ | y
          · exact z4 y1
          · exact z (z3.mpr y)
  · exact (s1 (4 + o') f' (by omega) (fun y => by omega)).symm
  · exact eo q' (by omega) (by omega)
  · rw [e0] at hi
    by_cases z : i = nc
    · subst z; rw [sn]; exact nm
    · rw [s3 (9 + i) (by omega) (by omega)]
      exact (g.2.1 i (by omega)).cong (fun j hj => eo _ (by omega) (by omega))
  · rw [e1] at hi
    rw [s3 (17 + i) (by omega) (by omega)]
    exact (g.2.2 i hi).cong (fun j hj => eo _ (by omega) (by omega))
theorem GR.addSack {bs : List Int32} (g : GR S t w) (hc : nC w ≤ 8) (hh : w 1 = nI ns) (h6 : ns < 6) (s1 : Smp S S' t (fun o f => (o = 17 + ns ∧ 1 ≤ f ∧ f ≤ 4) ∨ (o = 0 ∧ f = 6))) (sc : ∀ f, 1 ≤ f → f ≤ 4 → S'.1 (t + (17 + ns)) f = w' (161 + 12 * ns + (f + 6))) (s5 : S'.1 t 6 = nI (ns + 1)) (s3 : ∀ o, o < 35 → o ≠ 17 + ns → S'.2 (t + o) = S.2 (t + o)) (sn : S'.2 (t + (17 + ns)) = bs) (hw0 : w' 1 = nI (ns + 1)) (eo : ∀ q, q ≠ 1 → (q < (161 + 12 * ns + 0) ∨ (161 + 12 * ns + 12) ≤ q) → w' q = w q) (nm : NmOk bs w' (161 + 12 * ns + 0)) : GR S' t w' := by
  have e0 : nS w' = ns + 1 := nS_of hw0 (by omega)
  have e1 : nC w' = nC w := by unfold nC; rw [eo 0 (by omega) (by omega)]
  have e2 : nH w' = nH w := by unfold nH; rw [eo 2 (by omega) (by omega)]
  have e3 : nS w = ns := nS_of hh (by omega)
  refine GR.mk (fun o f q ho h4 hq hn => ?_) ((g.ev.cong fun o' f' ho' => ?_).congw fun q' h1 h2 => ?_) (fun i hi => ?_) (fun i hi => ?_)
  · rw [e0, e1, e2] at hq
    rcases cm_s hq hn h6 ho with ⟨z1, z2, z3, z4⟩ | ⟨z1, z2, z3, z4⟩
    · subst z1; subst z4
      exact sc f z2 z3
    · by_cases z : q = 1
      · obtain ⟨z5, z6⟩ := z3.mp z
        subst z5; subst z6; subst z
        rw [Nat.add_zero, s5, hw0]
      · rw [eo q z (by omega), s1 o f ho (fun y => ?_)]
        · rw [← e3] at z1
          exact g.cls o f q ho h4 z1 hn
        · rcases y with ⟨y1, y2⟩ | y
          · exact z4 y1
          · exact z (z3.mpr y)
  · exact (s1 (4 + o') f' (by omega) (fun y => by omega)).symm
  · exact eo q' (by omega) (by omega)
  · rw [e1] at hi
    rw [s3 (9 + i) (by omega) (by omega)]
    exact (g.2.1 i hi).cong (fun j hj => eo _ (by omega) (by omega))
  · rw [e0] at hi
    by_cases z : i = ns
    · subst z; rw [sn]; exact nm
    · rw [s3 (17 + i) (by omega) (by omega)]
      exact (g.2.2 i (by omega)).cong (fun j hj => eo _ (by omega) (by omega))
end ADDS
