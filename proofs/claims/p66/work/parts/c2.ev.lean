/-! what is kept by an hour and by the changes of the law -/
section CEV
variable {S : CS} {M : MS} {w v : Wd} {C : LC} {n c k b t : Nat} {h : Nat → Int32}
/-- the grain of each sack is at most b -/
def GB (n b : Nat) (w : Wd) : Prop := ∀ k, k < n → ∃ g, g ≤ b ∧ w (161 + 12 * k + 7) = nI g
theorem GB.only {A : Nat → Prop} (g : GB n b w) (o : Only A w v) (hA : ∀ q, A q → q < 161 ∨ (q - 161) % 12 ≠ 7) : GB n b v := fun j hj => by
  rw [o (161 + 12 * j + 7) (fun z => by have := hA _ z; omega)]
  exact g j hj
theorem GB.upo {q : Nat} {x : Int32} (g : GB n b w) (hq : q < 161 ∨ (q - 161) % 12 ≠ 7) : GB n b (upd w q x) := g.only (A := fun p => p = q) (Only.rf.up rfl) (fun p z => by subst z; exact hq)
theorem GB.up7 {y : Nat} (g : GB n b w) (hy : y ≤ b) : GB n b (upd w (161 + 12 * k + 7) (nI y)) := fun j hj => by
  by_cases e : (161 + 12 * j + 7) = (161 + 12 * k + 7)
  · rw [e, pk_us]; exact ⟨y, hy, rfl⟩
  · rw [pk_un e]; exact g j hj
theorem GB.le {b' : Nat} (g : GB n b w) (hb : b ≤ b') : GB n b' w := fun j hj => by
  obtain ⟨x, h1, h2⟩ := g j hj
  exact ⟨x, by omega, h2⟩
theorem GB.starve {x : Int32} (g : GB n b w) : GB n b (starveW w k x) := by
  unfold starveW
  exact (g.upo (by omega)).upo (by omega)
theorem GB.moves {j : Nat} (g : GB n b w) : GB n b (movesW w k j) := by
  unfold movesW
  dsimp only
  split
  · exact (g.upo (by omega)).upo (by omega)
  · exact ((g.upo (by omega)).upo (by omega)).starve
theorem GB.eats (hk : k < n) (hb : Bd n w) (g : GB n b w) : GB n b (eatsW w k) := by
  obtain ⟨m, hm, em⟩ := (hb k hk).1
  obtain ⟨y, hy, ey⟩ := g k hk
  obtain ⟨y', hy', ey'⟩ := (hb k hk).2
  obtain ⟨x, hx, hxy, ex⟩ : ∃ x z, x ≤ y ∧ (z = x ∧ (if w (161 + 12 * k + 7) < w (161 + 12 * k + 8) then w (161 + 12 * k + 7) else w (161 + 12 * k + 8)) = nI x ∧ w (161 + 12 * k + 7) - nI x = nI (y - x)) := by
    by_cases q : w (161 + 12 * k + 7) < w (161 + 12 * k + 8)
    · rw [if_pos q]
      exact ⟨y, y, Nat.le_refl _, rfl, ey, by rw [ey, pk_sub (Nat.le_refl _)]⟩
    · rw [if_neg q]
      by_cases c1 : y' < m
      · exact absurd (by rw [ey', em]; exact nI_lt c1 (by omega)) q
      · refine ⟨min m y, _, Nat.min_le_right _ _, rfl, ?_, ?_⟩
        · rw [em]
          have e : nI y = nI y' := ey.symm.trans ey'
          by_cases c2 : m ≤ y
          · rw [Nat.min_eq_left c2]
          · have : y = y' := (nI_eq (by omega) (by omega)).mp e
            omega
        · rw [ey, pk_sub (Nat.min_le_right _ _)]
  obtain ⟨rfl, e1, e2⟩ := ex
  unfold eatsW
  dsimp only
  rw [e1]
  have g3 : GB n b (eatW w k (nI hx)) := by
    unfold eatW
    rw [e2]
    exact ((g.up7 (by omega)).upo (by omega)).upo (by omega)
  split
  · exact g3
  · split
    · split
      · unfold tailW
        split
        · exact g3.starve
        · exact g3.moves
      · unfold tailW
        split
        · exact g3.starve
        · exact g3.moves
    · exact g3
theorem GB.hour (ok : Ok w) (g : GB (nS w) b w) : GB (nS w) b (hourW w) := by
  have z := ok.1.sz
  have hn := z.2.1.2.1
  have h1 := z.2.1.2.2
  have bd := ok.2.2.2
  have okE := hourE_ok ok
  have okB := hourB_ok okE
  have gE : GB (nS w) b (hourE w) := by
    unfold hourE
    rw [nS_of (h1) hn]
    generalize nS w = n at g h1 hn bd
    exact (itr_keep (P := fun v => v 1 = nI n ∧ Bd n v ∧ GB n b v) (N := n) ⟨by rw [pk_un (by omega)]; exact h1, bd.upo (by omega), g.upo (by omega)⟩ (fun i v hi ⟨a, b, c⟩ => ⟨(eatsW_only a hn hi 1 (by unfold WE; omega)).trans a, eats_bd a hn hi b, GB.eats hi b c⟩) n (Nat.le_refl _)).2.2
  have gB : GB (nS w) b (hourB (hourE w)) := by
    unfold hourB
    split
    · exact itr_keep (P := fun v => GB (nS w) b v) (N := nS (hourE w)) gE (fun i v hi b => by unfold breedsW; exact (b.upo (by omega)).upo (by omega)) _ (Nat.le_refl _)
    · exact gE
  have gH := gB.only (hourH_only okB.1 okB.2.1) (fun q hq => by unfold WH WG WR at hq; omega)
  have okH := (hourH_ok okB).1
  have gS := gH.only (shiftW_only okH.1 okH.2.1) (fun q hq => by unfold WO WG at hq; omega)
  have okS := shiftW_ok okH
  exact gS.only (hourD_only okS.1 okS.2.1) (fun q hq => by unfold WO WG WR at hq; omega)
theorem hour_3 (ok : Ok w) : hourW w 3 = w 3 + 1 := by
  have okE := hourE_ok ok
  have okB := hourB_ok okE
  have okH := (hourH_ok okB).1
  have okS := shiftW_ok okH
  have z := ok.1.sz
  have hn := z.2.1.2.1
  have h1 := z.2.1.2.2
  have e : hourE w 3 = w 3 + 1 := by
    unfold hourE
    have o : (fun v : Wd => v 1 = nI (nS w) ∧ v 3 = w 3 + 1) (itr (fun k v => eatsW v k) (nS w) (upd w 3 (w 3 + 1))) := itr_keep (P := fun v => v 1 = nI (nS w) ∧ v 3 = w 3 + 1) (N := nS w) ⟨by rw [pk_un (by omega)]; exact h1, pk_us⟩ (fun i v hi ⟨a, b⟩ => ⟨(eatsW_only a hn hi 1 (by unfold WE; omega)).trans a, (eatsW_only a hn hi 3 (by unfold WE; omega)).trans b⟩) _ (Nat.le_refl _)
    have e2 : nS (upd w 3 (w 3 + 1)) = nS w := by unfold nS; rw [pk_un (by omega)]
    first | exact o.2 | (rw [e2]; exact o.2)
  unfold hourW
  rw [hourD_only okS.1 okS.2.1 3 (by unfold WO WG WR; omega), shiftW_only okH.1 okH.2.1 3 (by unfold WO WG; omega), hourH_only okB.1 okB.2.1 3 (by unfold WH WG WR; omega), hourB_only okE.1 3 (by unfold WE; omega), e]
/-- what every step of the law keeps: t bounds the clock, b the grain -/
def EI (C : LC) (t b : Nat) (w : Wd) (h : Nat → Int32) : Prop := LI C w ∧ LH C w h ∧ KB C.1.2.1 C.1.1 w ∧ (∃ x, x ≤ t ∧ w 3 = nI x) ∧ GB C.1.2.1 b w
theorem EI.le {t' b' : Nat} (e : EI C t b w h) (ht : t ≤ t') (hb : b ≤ b') : EI C t' b' w h := by
  obtain ⟨a1, a2, a3, ⟨x, hx, ex⟩, a5⟩ := e
  exact ⟨a1, a2, a3, ⟨x, by omega, ex⟩, a5.le hb⟩
theorem EI.ns (hC : lC C) (e : EI C t b w h) : nS w = C.1.2.1 := nS_of e.1.1.2.1 (by have := hC.2.1.2; omega)
theorem EI.nc (hC : lC C) (e : EI C t b w h) : nC w = C.1.1 := nC_of e.1.1.1 (by have := hC.1.2; omega)
theorem LI.ol (o : OL w v) (hC : lC C) (i : LI C w) : LI C v := by
  obtain ⟨⟨a, b, c⟩, d, e, f⟩ := i
  refine ⟨⟨(o 0 (by unfold WG; omega)).trans a, (o 1 (by unfold WG; omega)).trans b, (o 2 (by unfold WG; omega)).trans c⟩, fun j hj => ⟨(o _ (by unfold WG; omega)).trans (d j hj).1, (o _ (by unfold WG; omega)).trans (d j hj).2.1, (d j hj).2.2⟩, fun c hc => ?_, ?_⟩
  · rw [o _ (by unfold WG; omega)]; exact e c hc
  · rw [o 7 (by unfold WG; omega)]; exact f
theorem EI.hour (hC : lC C) (i : In w) (e : EI C t b w h) : ∃ h', fZ12_hour C (w, h) = some (hourV w, h') ∧ OL (hourW w) (hourV w) ∧ EI C (t + 1) b (hourW w) h' ∧ In (hourW w) := by
  have hns := e.ns hC
  have hnc := e.nc hC
  obtain ⟨a1, a2, a3, ⟨x, hx, ex⟩, a5⟩ := e
  obtain ⟨h', b1, b2, b3, b4⟩ := l_hour hC a1 i a2
  refine ⟨h', b1, b4, ⟨b3.ol b4.sy hC, fun c s hc hs => ?_, ?_, ⟨x + 1, by omega, by rw [hour_3 i.1, ex]; exact (nI_succ x).symm⟩, ?_⟩, i.hour⟩
  · have h4 := hC.1.2
    rw [b2, b2, hourW_only i.1.1 i.1.2.1 _ (show ¬ WN (65 + 12 * c + 8) by unfold WN; omega), hourW_only i.1.1 i.1.2.1 _ (show ¬ WN (65 + 12 * s + 8) by unfold WN; omega)]
    exact a2 c s hc hs
  · have := KB.hour i.1 (by rw [hns, hnc]; exact a3)
    rw [hns, hnc] at this
    exact this
  · have := GB.hour (b := b) i.1 (by rw [hns]; exact a5)
    rw [hns] at this
    exact this
theorem EI.cons (hC : lC C) (e : EI C t b w h) : consW (nC w) (nS w) w = 1 := by
  rw [e.ns hC, e.nc hC]
  obtain ⟨k1, k2, k3, k4, k5⟩ := e.2.2.1
  unfold consW
  exact if_pos ⟨k1, (bk_sum _ _).trans k1, k2, k3, k4, k5⟩
theorem x_isConsistent (hC : lC C) (r : Rel S M) (e : EI C t b (M.2 0) h) : fX10_isConsistent S = some 1 := by
  have i := r.1.2
  have z := i.1.1.sz
  obtain ⟨E, q, -⟩ := r.1.1.cwE
  have c := c_cons (S := S) (w := M.2 0) (nc := nC (M.2 0)) (ns := nS (M.2 0)) (nh := nH (M.2 0)) (E := E) z.1.2.2 z.1.2.1 z.2.1.2.2 z.2.1.2.1
  rw [q, e.cons hC] at c
  exact c
/-- a change of a place that nothing of it speaks of -/
theorem EI.up {p : Nat} {x : Int32} (hC : lC C) (e : EI C t b w h) (h7 : p ≠ 7) (h3 : 3 < p) (hp : p < 65 ∨ (65 ≤ p ∧ p < 161 ∧ (p - 65) % 12 ≠ 8 ∧ (p - 65) % 12 ≠ 9) ∨ (161 ≤ p ∧ p < 233 ∧ (p - 161) % 12 ≠ 7)) (hk : ¬ KW p) : EI C t b (upd w p x) h := by
  obtain ⟨⟨⟨a, a', a''⟩, d, e, f⟩, a2, a3, ⟨y, hy, ey⟩, a5⟩ := e
  have h4 := hC.1.2
  have n4 := hC.2.1.2
  refine ⟨⟨⟨by rw [pk_un (by omega)]; exact a, by rw [pk_un (by omega)]; exact a', by rw [pk_un (by omega)]; exact a''⟩, fun j hj => ⟨by rw [pk_un (by omega)]; exact (d j hj).1, by rw [pk_un (by omega)]; exact (d j hj).2.1, (d j hj).2.2⟩, fun c hc => by rw [pk_un (by omega)]; exact e c hc, by rw [pk_un (by omega)]; exact f⟩, fun c s hc hs => ?_, a3.up hk (by omega) (by omega), ⟨y, hy, by rw [pk_un (by omega)]; exact ey⟩, a5.upo (by omega)⟩
  rw [pk_un (by omega), pk_un (by omega)]
  exact a2 c s hc hs
theorem EI.mice {y : Nat} (hC : lC C) (e : EI C t b w h) (hk : k < C.1.2.1) : EI C t b (upd (upd w (161 + 12 * k + 8) (w (161 + 12 * k + 8) + nI y)) 14 (w 14 + nI y)) h := by
  obtain ⟨⟨⟨a, a', a''⟩, d, e, f⟩, a2, ⟨k1, k2, k3, k4, k5⟩, ⟨x, hx, ex⟩, a5⟩ := e
  have h4 := hC.1.2
  have n4 := hC.2.1.2
  refine ⟨⟨⟨by rw [pk_un (by omega), pk_un (by omega)]; exact a, by rw [pk_un (by omega), pk_un (by omega)]; exact a', by rw [pk_un (by omega), pk_un (by omega)]; exact a''⟩, fun j hj => ⟨by rw [pk_un (by omega), pk_un (by omega)]; exact (d j hj).1, by rw [pk_un (by omega), pk_un (by omega)]; exact (d j hj).2.1, (d j hj).2.2⟩, fun c hc => by rw [pk_un (by omega), pk_un (by omega)]; exact e c hc, by rw [pk_un (by omega), pk_un (by omega)]; exact f⟩, fun c s hc hs => ?_, ⟨?_, ?_, ?_, ?_, ?_⟩, ⟨x, hx, by rw [pk_un (by omega), pk_un (by omega)]; exact ex⟩, (a5.upo (by omega)).upo (by omega)⟩
  · rw [pk_un (by omega), pk_un (by omega), pk_un (by omega), pk_un (by omega)]
    exact a2 c s hc hs
  · rw [Q_n (fun j hj => by omega), Q_up (d := nI y) hk rfl, k1, pk_us]
    simp (disch := omega) only [pk_un, Int32.sub_eq_add_neg]
    ac_rfl
  · rw [Q_n (fun j hj => by omega), Q_n (fun j hj => by omega), k2]
    simp (disch := omega) only [pk_un]
  · rw [Q_n (fun j hj => by omega), Q_n (fun j hj => by omega), k3]
    simp (disch := omega) only [pk_un]
  · rw [P_n (fun j hj => by omega), P_n (fun j hj => by omega), k4]
    simp (disch := omega) only [pk_un]
  · rw [P_n (fun j hj => by omega), P_n (fun j hj => by omega), k5]
    simp (disch := omega) only [pk_un]
theorem EI.grain {y : Nat} (hC : lC C) (e : EI C t b w h) (hk : k < C.1.2.1) : EI C t (b + y) (upd (upd w (161 + 12 * k + 7) (w (161 + 12 * k + 7) + nI y)) 15 (w 15 + nI y)) h := by
  obtain ⟨⟨⟨a, a', a''⟩, d, e, f⟩, a2, ⟨k1, k2, k3, k4, k5⟩, ⟨x, hx, ex⟩, a5⟩ := e
  have h4 := hC.1.2
  have n4 := hC.2.1.2
  obtain ⟨g, hg, eg⟩ := a5 k hk
  have a6 := (((a5.le (b' := b + y) (by omega)).up7 (k := k) (y := g + y) (by omega)).upo (q := 15) (x := w 15 + nI y) (by omega))
  rw [← nI_add, ← eg] at a6
  refine ⟨⟨⟨by rw [pk_un (by omega), pk_un (by omega)]; exact a, by rw [pk_un (by omega), pk_un (by omega)]; exact a', by rw [pk_un (by omega), pk_un (by omega)]; exact a''⟩, fun j hj => ⟨by rw [pk_un (by omega), pk_un (by omega)]; exact (d j hj).1, by rw [pk_un (by omega), pk_un (by omega)]; exact (d j hj).2.1, (d j hj).2.2⟩, fun c hc => by rw [pk_un (by omega), pk_un (by omega)]; exact e c hc, by rw [pk_un (by omega), pk_un (by omega)]; exact f⟩, fun c s hc hs => ?_, ⟨?_, ?_, ?_, ?_, ?_⟩, ⟨x, hx, by rw [pk_un (by omega), pk_un (by omega)]; exact ex⟩, a6⟩
  · rw [pk_un (by omega), pk_un (by omega), pk_un (by omega), pk_un (by omega)]
    exact a2 c s hc hs
  · rw [Q_n (fun j hj => by omega), Q_n (fun j hj => by omega), k1]
    simp (disch := omega) only [pk_un]
  · rw [Q_n (fun j hj => by omega), Q_n (fun j hj => by omega), k2]
    simp (disch := omega) only [pk_un]
  · rw [Q_n (fun j hj => by omega), Q_up (d := nI y) hk rfl, k3, pk_us]
    simp (disch := omega) only [pk_un, Int32.sub_eq_add_neg]
    ac_rfl
  · rw [P_n (fun j hj => by omega), P_n (fun j hj => by omega), k4]
    simp (disch := omega) only [pk_un]
  · rw [P_n (fun j hj => by omega), P_n (fun j hj => by omega), k5]
    simp (disch := omega) only [pk_un]
/-- hours one after another -/
theorem hoursW_s (n : Nat) (w : Wd) : hoursW (n + 1) w = hoursW n (hourW w) := rfl
end CEV
