/-! the best flap, both sides -/
section BEST
variable {S S' : CS} {M M' N N' : MS} {n t k H : Nat} {w w' : Wd}
theorem c_sum7 (g : GR S t w) (i : In w) : fX2_grainOfAll S t = some (sumK 7 w) := by
  obtain ⟨E, e, -⟩ := g.cwE
  have c := c_grainOfAll (S := S) (t := t) (nc := nC w) (ns := nS w) (nh := nH w) (w := w) (E := E) i.1.1.sz.2.1.2.2 i.sz.2.1
  rw [e] at c
  exact c
/-- the reference but for what lies aside -/
def Sb (P : MS) (w : Wd) (N : MS) : Prop := N.1 = P.1 ∧ N.2 0 = w ∧ ∀ j, j ≠ 0 → j ≠ 2 → N.2 j = P.2 j
theorem r_allG {P : MS} (b : Sb P w N) (i : In w) (hH : H ≤ 200) : ∃ N', fX11_allGrainAfter N (nI H) = some (sumK 7 (hoursW H w), N') ∧ Sb P w N' := by
  obtain ⟨b1, b2, b3⟩ := b
  refine ⟨bck (mw (asd N) (hoursW H w)), ?_, b1, ?_, fun j h0 h2 => ?_⟩
  · unfold fX11_allGrainAfter fX11_allGrainAfter_0
    rw [r_aside, Option.bind_some, fX11_allGrainAfter_4, r_pass (by omega) (by rw [asd_0, b2]; exact i), Option.bind_some]
    dsimp only
    rw [fX11_allGrainAfter_9, asd_0, b2, r_sumS (f := 7) (ff := 7) rfl (by omega) i.hours, Option.bind_some, fX11_allGrainAfter_21, r_back, Option.bind_some, fX11_allGrainAfter_24]
  · unfold bck
    dsimp only
    rw [vat, mw_n (by decide)]
    unfold asd
    dsimp only
    rw [vat, b2, mw_w]
    funext q
    by_cases h : q < 257
    · rw [cpW_in h, cpW_in h]
    · unfold cpW
      rw [if_neg (by omega)]
      exact hoursW_only H w i.1 q (by unfold WN; omega)
  · unfold bck
    dsimp only
    rw [vne h0, mw_n h0]
    unfold asd
    dsimp only
    rw [vne h2]
    exact b3 j h0 h2
def chg (w : Wd) (k : Nat) : Wd := upd w (161 + 12 * k + 9) (1 - w (161 + 12 * k + 9))
theorem chg_in (i : In w) (hk : k < nS w) : In (chg w k) := by
  have h6 : k < 6 := Nat.lt_of_lt_of_le hk i.sz.2.1
  unfold chg
  exact i.up (by omega) (by omega) (by omega) (by omega) (fun z => by omega) (fun z => by omega) (fun j hj => by omega) (fun j hj hq => by
    rcases i.1.2.2.1 k hk with z | z
    · rw [z]; exact Or.inr (by decide)
    · rw [z]; exact Or.inl (by decide)) (fun j hj hq => by omega) (fun j hj hq => by omega)
theorem r_gch {P : MS} (b : Sb P w N) (i : In w) (hk : k < nS w) (hH : H ≤ 200) : ∃ N', fX11_grainWithChange N (nI k) (nI H) = some (sumK 7 (hoursW H (chg w k)), N') ∧ Sb P w N' := by
  have h6 : k < 6 := Nat.lt_of_lt_of_le hk i.sz.2.1
  obtain ⟨b1, b2, b3⟩ := b
  obtain ⟨N2, c1, c2, c3, c4⟩ := r_allG (P := P) (w := chg w k) (N := mw N (chg w k)) (H := H) ⟨b1, mw_w, fun j h0 h2 => by rw [mw_n h0]; exact b3 j h0 h2⟩ (chg_in i hk) hH
  refine ⟨mw N2 w, ?_, c2, mw_w, fun j h0 h2 => by rw [mw_n h0]; exact c4 j h0 h2⟩
  have p1 := ps9 (M := N) (w := N.2 0) (k := k) (v := 1 - w (161 + 12 * k + 9)) h6
  rw [mw_self, b2] at p1
  have p2 := ps9 (M := N2) (w := N2.2 0) (k := k) (v := w (161 + 12 * k + 9)) h6
  rw [mw_self, c3] at p2
  unfold fX11_grainWithChange fX11_grainWithChange_0
  rw [rS (f := 9) (ff := 9) rfl h6 (by omega), Option.bind_some, fX11_grainWithChange_7, b2, p1, Option.bind_some, fX11_grainWithChange_18, show upd w (161 + 12 * k + 9) (1 - w (161 + 12 * k + 9)) = chg w k from rfl, c1, Option.bind_some]
  dsimp only
  rw [fX11_grainWithChange_23, p2, Option.bind_some, fX11_grainWithChange_33, show upd (chg w k) (161 + 12 * k + 9) (w (161 + 12 * k + 9)) = w from by unfold chg; rw [upd_upd, upd_self]]
theorem c_gch (g : GR S 13 w) (i : In w) (hk : k < nS w) (hH : H ≤ 200) : ∃ S', fX10_grainWithFlapChanged S (nI k) (nI H) = some (sumK 7 (hoursW H (chg w k)), S') ∧ ∀ q, q < 83 ∨ 118 ≤ q → S'.1 q = S.1 q ∧ S'.2 q = S.2 q := by
  have h6 : k < 6 := Nat.lt_of_lt_of_le hk i.sz.2.1
  obtain ⟨S1, a1, a2, a3⟩ := c_copyFrom (S := S) (t := 83) (b := 13) (by omega) i g
  have e3 : S1.1 (83 + 2 + 15 + k) 3 = w (161 + 12 * k + 9) := a2.sack (f := 3) hk h6 (by omega) (by omega)
  have g2 := a2.setS (f := 3) (v := 1 - w (161 + 12 * k + 9)) i hk h6 (by omega) (by omega)
  have fr := va_out (S := S1) (v := upd (S1.1 (83 + 2 + 15 + k)) 3 (1 - w (161 + 12 * k + 9))) (q := 83 + 2 + 15 + k) (p := 83) (by omega)
  obtain ⟨T, eT⟩ : ∃ T : CS, T = (va_up S1.1 (83 + 2 + 15 + k) (upd (S1.1 (83 + 2 + 15 + k)) 3 (1 - w (161 + 12 * k + 9))), S1.2) := ⟨_, rfl⟩
  rw [← eT] at g2 fr
  obtain ⟨S2, b1, b2, b3⟩ := c_passH (S := T) (t := 83) (H := H) (w := chg w k) (by omega) g2 (chg_in i hk)
  refine ⟨S2, ?_, fun q hq => ⟨((b3 q (by omega)).1.trans (fr q (by omega)).1).trans (a3 q (by omega)).1, ((b3 q (by omega)).2.trans (fr q (by omega)).2).trans (a3 q (by omega)).2⟩⟩
  have fin : fX10_grainWithFlapChanged_43 T (nI H) = some (sumK 7 (hoursW H (chg w k)), S2) := by
    rw [fX10_grainWithFlapChanged_43, b1, Option.bind_some, fX10_grainWithFlapChanged_51, c_sum7 b2 (chg_in i hk).hours, Option.bind_some, fX10_grainWithFlapChanged_59]
  unfold fX10_grainWithFlapChanged fX10_grainWithFlapChanged_0
  rw [a1, Option.bind_some, fX10_grainWithFlapChanged_11, gi_m (show k < 6 by omega) (by omega), gi_m (show k < 6 by omega) (by omega), nI_c (by omega), e3]
  rcases i.1.2.2.1 k hk with z | z
  · rw [if_pos z, fX10_grainWithFlapChanged_35, fX10_grainWithFlapChanged_40, if_pos (Or.inr rfl), ← fin, eT, z]
    rfl
  · rw [if_neg (by rw [z]; decide), fX10_grainWithFlapChanged_39, fX10_grainWithFlapChanged_40, if_pos (Or.inl rfl), ← fin, eT, z]
    rfl
def bestL (g : Nat → Int32) : Nat → Nat → Int32 → Int32 → Int32
  | 0, _, _, b => b
  | r + 1, i, m, b => if g i ≤ m then bestL g r (i + 1) m b else bestL g r (i + 1) (g i) (nI i)
theorem r_best_l {P : MS} (i : In w) (hH : H ≤ 200) : ∀ r j f (N : MS) (m b : Int32), nS w = j + r → r < f → Sb P w N → ∃ N', fX11_bestFlapToChange_27 f N (nI H) b m (nI j) = some (bestL (fun k => sumK 7 (hoursW H (chg w k))) r j m b, N') ∧ Sb P w N' := by
  have h6 := i.sz.2.1
  have h1 := i.1.1.sz.2.1.2.2
  intro r
  induction r with
  | zero =>
    intro j f N m b hj hf sb
    obtain ⟨f, rfl⟩ : ∃ g, f = g + 1 := ⟨f - 1, by omega⟩
    rw [fX11_bestFlapToChange_27]
    dsimp only
    rw [gi1, tn1, sb.2.1, h1, if_pos (nI_le (by omega) (by omega)), fX11_bestFlapToChange_69]
    exact ⟨N, rfl, sb⟩
  | succ r ih =>
    intro j f N m b hj hf sb
    obtain ⟨f, rfl⟩ : ∃ g, f = g + 1 := ⟨f - 1, by omega⟩
    obtain ⟨N2, c1, c2⟩ := r_gch sb i (show j < nS w by omega) hH
    rw [fX11_bestFlapToChange_27]
    dsimp only
    rw [gi1, tn1, sb.2.1, h1, if_neg (nI_ge (show j < nS w by omega) (by omega)), fX11_bestFlapToChange_38, c1, Option.bind_some]
    dsimp only
    rw [fX11_bestFlapToChange_45, bestL]
    by_cases q : sumK 7 (hoursW H (chg w j)) ≤ m
    · rw [if_pos q, if_pos q, fX11_bestFlapToChange_56, if_neg (lt_le.mpr q), nI_1]
      exact ih (j + 1) f N2 _ _ (by omega) (by omega) c2
    · rw [if_neg q, if_neg q, fX11_bestFlapToChange_53, fX11_bestFlapToChange_56, if_pos (Classical.byContradiction fun y => q (lt_le.mp y)), nI_1]
      exact ih (j + 1) f N2 _ _ (by omega) (by omega) c2
theorem c_best_l (i : In w) (hH : H ≤ 200) : ∀ r j f (S : CS) (m b : Int32), nS w = j + r → r < f → GR S 13 w → ∃ S', fX10_bestFlapToChange_18 f S (nI H) m b (nI j) = some (bestL (fun k => sumK 7 (hoursW H (chg w k))) r j m b, S') ∧ ∀ q, q < 83 ∨ 118 ≤ q → S'.1 q = S.1 q ∧ S'.2 q = S.2 q := by
  have h6 := i.sz.2.1
  intro r
  induction r with
  | zero =>
    intro j f S m b hj hf g
    obtain ⟨f, rfl⟩ : ∃ g, f = g + 1 := ⟨f - 1, by omega⟩
    have h1 : S.1 13 6 = nI (nS w) := (g.hd (f := 6) (q := 1) (by unfold cm; simp) (by omega)).trans i.1.1.sz.2.1.2.2
    rw [fX10_bestFlapToChange_18]
    dsimp only
    rw [h1, if_pos (nI_le (by omega) (by omega)), fX10_bestFlapToChange_57]
    exact ⟨S, rfl, fun q _ => ⟨rfl, rfl⟩⟩
  | succ r ih =>
    intro j f S m b hj hf g
    obtain ⟨f, rfl⟩ : ∃ g, f = g + 1 := ⟨f - 1, by omega⟩
    have h1 : S.1 13 6 = nI (nS w) := (g.hd (f := 6) (q := 1) (by unfold cm; simp) (by omega)).trans i.1.1.sz.2.1.2.2
    obtain ⟨S2, c1, c2⟩ := c_gch g i (show j < nS w by omega) hH
    have g2 : GR S2 13 w := g.fr i (fun q h1 h2 => c2 q (by omega))
    rw [fX10_bestFlapToChange_18]
    dsimp only
    rw [h1, if_neg (nI_ge (show j < nS w by omega) (by omega)), fX10_bestFlapToChange_30, c1, Option.bind_some]
    dsimp only
    rw [fX10_bestFlapToChange_37, bestL]
    by_cases q : sumK 7 (hoursW H (chg w j)) ≤ m
    · rw [if_pos q, if_pos q, fX10_bestFlapToChange_51, nI_1]
      obtain ⟨S3, d1, d2⟩ := ih (j + 1) f S2 m b (by omega) (by omega) g2
      exact ⟨S3, d1, fun q hq => ⟨(d2 q hq).1.trans (c2 q hq).1, (d2 q hq).2.trans (c2 q hq).2⟩⟩
    · rw [if_neg q, if_neg q, fX10_bestFlapToChange_45, fX10_bestFlapToChange_51, nI_1]
      obtain ⟨S3, d1, d2⟩ := ih (j + 1) f S2 (sumK 7 (hoursW H (chg w j))) (nI j) (by omega) (by omega) g2
      exact ⟨S3, d1, fun q hq => ⟨(d2 q hq).1.trans (c2 q hq).1, (d2 q hq).2.trans (c2 q hq).2⟩⟩
theorem q_bestFlapToChange (r : Rel S M) (a : Int32) : Bo (fX10_bestFlapToChange S a) (fX11_bestFlapToChange M a) ∨ Bt (tX10_bestFlapToChange S a) (fX11_bestFlapToChange M a) "java/lang/IllegalArgumentException" 1 := by
  have i := r.1.2
  rcases s_hoursOk (S := S) (M := M) (c := 1) (a := a) with ⟨H, hH, ea, h1, h2, h3⟩ | ⟨h1, h2⟩
  · left
    subst ea
    obtain ⟨S1, p1, p2, p3⟩ := c_predict hH r.1.1 i h2
    have g1 : GR S1 13 (M.2 0) := r.1.1.fr i (fun q h1 h2 => p3 q (by omega))
    obtain ⟨S2, c1, c2⟩ := c_best_l i hH (nS (M.2 0)) 0 FU S1 (sumK 7 (hoursW H (M.2 0))) (-1) (by omega) (by rw [FU_eq]; have := i.sz.2.1; omega) g1
    obtain ⟨N1, d1, d2⟩ := r_allG (P := th M 0) (N := th M 0) (w := M.2 0) (H := H) ⟨rfl, rfl, fun j _ _ => rfl⟩ i hH
    obtain ⟨N2, e1, e2, e3, e4⟩ := r_best_l (P := th M 0) i hH (nS (M.2 0)) 0 FU N1 (sumK 7 (hoursW H (M.2 0))) (-1) (by omega) (by rw [FU_eq]; have := i.sz.2.1; omega) d2
    rw [nI_0] at c1 e1
    refine ⟨bestL (fun k => sumK 7 (hoursW H (chg (M.2 0) k))) (nS (M.2 0)) 0 (sumK 7 (hoursW H (M.2 0))) (-1), S2, N2, ?_, ?_, ?_, by rw [e2]; exact th_7⟩
    · unfold fX10_bestFlapToChange fX10_bestFlapToChange_0
      rw [p1, Option.bind_some, fX10_bestFlapToChange_5, c_sum7 p2 i.hours, Option.bind_some, fX10_bestFlapToChange_12, c1]
    · unfold fX11_bestFlapToChange fX11_bestFlapToChange_0
      rw [th_e, fX11_bestFlapToChange_5, h1, Option.bind_some]
      dsimp only
      rw [fX11_bestFlapToChange_11, if_pos rfl, fX11_bestFlapToChange_16, d1, Option.bind_some]
      dsimp only
      rw [fX11_bestFlapToChange_23, e1]
    · exact r.same (fun q hq => ⟨(c2 q hq).1.trans (p3 q hq).1, (c2 q hq).2.trans (p3 q hq).2⟩) (fun j hj => by rw [e2]; exact th_o hj) (fun q hq => by rw [e3]) (fun j h0 h2 => by rw [e4 j h0 h2]; rfl)
  · right
    refine ⟨0, S, th M 1, ?_, ?_, r.thr, th_7⟩
    · unfold tX10_bestFlapToChange tX10_bestFlapToChange_0
      rw [t_predict h2]
    · unfold fX11_bestFlapToChange fX11_bestFlapToChange_0
      rw [th_e, fX11_bestFlapToChange_5, h1, Option.bind_some]
      dsimp only
      rw [fX11_bestFlapToChange_11, if_neg one0, fX11_bestFlapToChange_14]
end BEST
