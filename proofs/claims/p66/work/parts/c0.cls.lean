/-! what the class answers, told of the plain granary alone -/
section XCLS
variable {S S1 S2 S' : CS} {M M' : MS} {n t k : Nat} {w w' : Wd}
theorem x_clock (r : RN S M) : fX10_clock S = some (M.2 0 3) := congrArg some (r.1.hd (f := 12) (q := 3) (by unfold cm; simp) (by omega))
theorem x_milk (r : RN S M) : fX10_milk S = some (M.2 0 4) := congrArg some (r.1.hd (f := 11) (q := 4) (by unfold cm; simp) (by omega))
theorem x_swornCat (r : RN S M) : fX10_swornCat S = some (M.2 0 5) := congrArg some (r.1.hd (f := 8) (q := 5) (by unfold cm; simp) (by omega))
theorem x_currentShift (r : RN S M) : fX10_currentShift S = some (M.2 0 6) := congrArg some (r.1.hd (f := 9) (q := 6) (by unfold cm; simp) (by omega))
theorem x_hoursLeft (r : RN S M) : fX10_hoursLeft S = some (M.2 0 7) := congrArg some (r.1.hd (f := 10) (q := 7) (by unfold cm; simp) (by omega))
theorem x_totalCaught (r : RN S M) : fX10_totalCaught S = some (M.2 0 8) := congrArg some (r.1.tot (f := 0) (by omega))
theorem x_totalEaten (r : RN S M) : fX10_totalEaten S = some (M.2 0 9) := congrArg some (r.1.tot (f := 1) (by omega))
theorem x_totalBorn (r : RN S M) : fX10_totalBorn S = some (M.2 0 10) := congrArg some (r.1.tot (f := 2) (by omega))
theorem x_totalStarved (r : RN S M) : fX10_totalStarved S = some (M.2 0 11) := congrArg some (r.1.tot (f := 3) (by omega))
theorem x_totalOaths (r : RN S M) : fX10_totalOaths S = some (M.2 0 12) := congrArg some (r.1.tot (f := 4) (by omega))
theorem x_totalRefusals (r : RN S M) : fX10_totalRefusals S = some (M.2 0 13) := congrArg some (r.1.tot (f := 5) (by omega))
theorem x_catAt (r : RN S M) (hk : k < nC (M.2 0)) : fX10_catAt S (nI k) = some (13 + 1 + 8 + k) := by
  have h8 := r.2.sz.1
  rcases s_noCat r (nI k) with ⟨j, hj, j8, ea, h1, h2, h3⟩ | ⟨h1, h2⟩
  · have e : k = j := (nI_eq (by omega) (by omega)).mp ea
    rw [e]; rw [e] at h2; exact h2
  · exfalso
    have e : S.1 13 5 = nI (nC (M.2 0)) := (r.1.hd (f := 5) (q := 0) (by unfold cm; simp) (by omega)).trans r.2.1.1.sz.1.2.2
    unfold tX10_catAt tX10_catAt_0 at h2
    rw [if_neg (show ¬ nI k < 0 from nI_pos (by omega)), tX10_catAt_4, e, if_pos (nI_lt hk (by omega))] at h2
    cases h2
theorem x_sackAt (r : RN S M) (hk : k < nS (M.2 0)) : fX10_sackAt S (nI k) = some (13 + 2 + 15 + k) := by
  have h6 := r.2.sz.2.1
  rcases s_noSack r (nI k) with ⟨j, hj, j8, ea, h1, h2, h3⟩ | ⟨h1, h2⟩
  · have e : k = j := (nI_eq (by omega) (by omega)).mp ea
    rw [e]; rw [e] at h2; exact h2
  · exfalso
    have e : S.1 13 6 = nI (nS (M.2 0)) := (r.1.hd (f := 6) (q := 1) (by unfold cm; simp) (by omega)).trans r.2.1.1.sz.2.1.2.2
    unfold tX10_sackAt tX10_sackAt_0 at h2
    rw [if_neg (show ¬ nI k < 0 from nI_pos (by omega)), tX10_sackAt_4, e, if_pos (nI_lt hk (by omega))] at h2
    cases h2
theorem x_tirednessOf (r : RN S M) (hk : k < nC (M.2 0)) : fX10_tirednessOf S (nI k) = some (M.2 0 (65 + 12 * k + 9)) := by
  have h8 := r.2.sz.1
  unfold fX10_tirednessOf fX10_tirednessOf_0 fX10_tirednessOf_5
  rw [x_catAt r hk, Option.bind_some]
  exact congrArg some (r.1.cat (f := 3) hk (by omega) (by omega) (by omega))
theorem x_caughtBy (r : RN S M) (hk : k < nC (M.2 0)) : fX10_caughtBy S (nI k) = some (M.2 0 (65 + 12 * k + 10)) := by
  have h8 := r.2.sz.1
  unfold fX10_caughtBy fX10_caughtBy_0 fX10_caughtBy_5
  rw [x_catAt r hk, Option.bind_some]
  exact congrArg some (r.1.cat (f := 4) hk (by omega) (by omega) (by omega))
theorem x_oathsOf (r : RN S M) (hk : k < nC (M.2 0)) : fX10_oathsOf S (nI k) = some (M.2 0 (65 + 12 * k + 11)) := by
  have h8 := r.2.sz.1
  unfold fX10_oathsOf fX10_oathsOf_0 fX10_oathsOf_5
  rw [x_catAt r hk, Option.bind_some]
  exact congrArg some (r.1.cat (f := 5) hk (by omega) (by omega) (by omega))
theorem x_grainIn (r : RN S M) (hk : k < nS (M.2 0)) : fX10_grainIn S (nI k) = some (M.2 0 (161 + 12 * k + 7)) := by
  have h6 := r.2.sz.2.1
  unfold fX10_grainIn fX10_grainIn_0 fX10_grainIn_5
  rw [x_sackAt r hk, Option.bind_some]
  exact congrArg some (r.1.sack (f := 1) hk (by omega) (by omega) (by omega))
theorem x_miceIn (r : RN S M) (hk : k < nS (M.2 0)) : fX10_miceIn S (nI k) = some (M.2 0 (161 + 12 * k + 8)) := by
  have h6 := r.2.sz.2.1
  unfold fX10_miceIn fX10_miceIn_0 fX10_miceIn_5
  rw [x_sackAt r hk, Option.bind_some]
  exact congrArg some (r.1.sack (f := 2) hk (by omega) (by omega) (by omega))
theorem x_eatenFrom (r : RN S M) (hk : k < nS (M.2 0)) : fX10_eatenFrom S (nI k) = some (M.2 0 (161 + 12 * k + 10)) := by
  have h6 := r.2.sz.2.1
  unfold fX10_eatenFrom fX10_eatenFrom_0 fX10_eatenFrom_5
  rw [x_sackAt r hk, Option.bind_some]
  exact congrArg some (r.1.sack (f := 4) hk (by omega) (by omega) (by omega))
theorem x_isOpen (r : RN S M) (hk : k < nS (M.2 0)) : fX10_isOpen S (nI k) = some (M.2 0 (161 + 12 * k + 9)) := by
  have h6 := r.2.sz.2.1
  unfold fX10_isOpen fX10_isOpen_0 fX10_isOpen_5
  rw [x_sackAt r hk, Option.bind_some, show S.1 (13 + 2 + 15 + k) 3 = M.2 0 (161 + 12 * k + 9) from r.1.sack (f := 3) hk (by omega) (by omega) (by omega)]
  exact bq_s (r.2.1.2.2.1 k hk)
theorem x_strengthOf (r : RN S M) (hk : k < nC (M.2 0)) : fX10_strengthOf S (nI k) = some (strengthW (M.2 0) k) := by
  have h8 := r.2.sz.1
  obtain ⟨E, e, -⟩ := r.1.cwE
  have c := c_strength (S := S) (t := 13) (nc := nC (M.2 0)) (ns := nS (M.2 0)) (nh := nH (M.2 0)) (w := M.2 0) (E := E) hk (by omega)
  rw [e] at c
  unfold fX10_strengthOf fX10_strengthOf_0 fX10_strengthOf_5
  rw [x_catAt r hk, Option.bind_some, c, Option.bind_some, fX10_strengthOf_8]
/-- a change: what it answers, what the granary is then -/
def Xc (f : Option (Int32 × CS)) (a : Int32) (w' : Wd) : Prop := ∃ S' M', f = some (a, S') ∧ Rel S' M' ∧ M'.2 0 = w'
theorem rg_in {a b y : Nat} (h1 : a ≤ y) (h2 : y ≤ b) (hb : b < 2 ^ 31) : rgQ (nI y) (nI a) (nI b) := ⟨nI_nlt h1 (by omega), nI_le h2 hb⟩
theorem x_flap {v : Int32} (r : Rel S M) (hk : k < nS (M.2 0)) (hv : v = 0 ∨ v = 1) (hz : ¬ M.2 0 (161 + 12 * k + 9) = v) : Xc (if v = 1 then fX10_openFlap S (nI k) else fX10_shutFlap S (nI k)) (sumK 9 (upd (M.2 0) (161 + 12 * k + 9) v)) (upd (M.2 0) (161 + 12 * k + 9) v) := by
  have h6 := r.1.2.sz.2.1
  have k8 : k < 6 := by omega
  have fl : S.1 (13 + 2 + 15 + k) 3 = M.2 0 (161 + 12 * k + 9) := r.1.1.sack (f := 3) hk k8 (by omega) (by omega)
  obtain ⟨S1, M1, m1, m2, m3, m4, m5⟩ := s_remember (r.thr (v := 0))
  have hk1 : k < nS (M1.2 0) := by rw [m5]; exact hk
  have i' : In (upd (M1.2 0) (161 + 12 * k + 9) v) := m3.1.2.up (by omega) (by omega) (by omega) (by omega) (fun z => by omega) (fun z => by omega) (fun j hj => by omega) (fun j hj hq => hv) (fun j hj hq => by omega) (fun j hj hq => by omega)
  have g' := m3.1.1.setS (f := 3) (v := v) m3.1.2 hk1 k8 (by omega) (by omega)
  have o5 := c_openFlaps g' i'
  have e1 : M1.2 0 = M.2 0 := m5.trans rfl
  have rel := m3.now (S' := (va_up S1.1 (13 + 2 + 15 + k) (upd (S1.1 (13 + 2 + 15 + k)) 3 v), S1.2)) (va_out (by omega)) g' i'
  rw [e1] at o5 rel
  refine ⟨_, _, ?_, rel, mw_w⟩
  rcases hv with e | e
  · subst e
    rw [if_neg (by decide)]
    have z : M.2 0 (161 + 12 * k + 9) = 1 := (r.1.2.1.2.2.1 k hk).resolve_left hz
    have al : fX2_allows S 13 2 (nI k) 0 = some 1 := by
      rw [al2, fX2_allows_76, gi_m (show k < 6 by omega) (by omega), nI_c (by omega), fl, z]
      rfl
    have ap : fX2_apply S1 13 2 (nI k) 0 = some (sumK 9 (upd (M.2 0) (161 + 12 * k + 9) 0), (va_up S1.1 (13 + 2 + 15 + k) (upd (S1.1 (13 + 2 + 15 + k)) 3 0), S1.2)) := by
      rw [ap2, fX2_apply_61, gi_m (show k < 6 by omega) (by omega), nI_c (by omega), fX2_apply_71]
      exact (congrArg (fun z => Option.bind z _) o5).trans rfl
    unfold fX10_shutFlap fX10_shutFlap_0
    rw [x_sackAt r.1 hk, Option.bind_some, fX10_shutFlap_5, c_change al m1 ap, Option.bind_some, fX10_shutFlap_13]
  · subst e
    rw [if_pos rfl]
    have z : M.2 0 (161 + 12 * k + 9) = 0 := (r.1.2.1.2.2.1 k hk).resolve_right hz
    have al : fX2_allows S 13 1 (nI k) 0 = some 1 := by
      rw [al1, fX2_allows_58, gi_m (show k < 6 by omega) (by omega), nI_c (by omega), fl, if_pos z, fX2_allows_70, fX2_allows_75]
      rfl
    have ap : fX2_apply S1 13 1 (nI k) 0 = some (sumK 9 (upd (M.2 0) (161 + 12 * k + 9) 1), (va_up S1.1 (13 + 2 + 15 + k) (upd (S1.1 (13 + 2 + 15 + k)) 3 1), S1.2)) := by
      rw [ap1, fX2_apply_46, gi_m (show k < 6 by omega) (by omega), nI_c (by omega), fX2_apply_56]
      exact (congrArg (fun z => Option.bind z _) o5).trans rfl
    unfold fX10_openFlap fX10_openFlap_0
    rw [x_sackAt r.1 hk, Option.bind_some, fX10_openFlap_5, c_change al m1 ap, Option.bind_some, fX10_openFlap_13]
theorem x_letPass {H : Nat} (r : Rel S M) (h1 : 1 ≤ H) (h99 : H ≤ 99) (z : M.2 0 3 + nI H ≤ 9999) : Xc (fX10_letPass S (nI H)) (hoursW H (M.2 0) 8 - M.2 0 8) (hoursW H (M.2 0)) := by
  have cl : S.1 13 12 = M.2 0 3 := r.1.1.hd (f := 12) (q := 3) (by unfold cm; simp) (by omega)
  rcases s_rng (S := S) (M := th M 0) (lo := 1) (hi := 99) (a := nI H) with ⟨-, -, h3, -⟩ | ⟨hn, -, -⟩
  · obtain ⟨S1, M1, m1, m2, m3, m4, m5⟩ := s_remember (r.thr (v := 0))
    obtain ⟨S', o1, o2, o3⟩ := c_passH (S := S1) (t := 13) (H := H) (by omega) m3.1.1 m3.1.2
    have e1 : M1.2 0 = M.2 0 := m5.trans rfl
    have rel := m3.now (fun q hq => o3 q (by omega)) o2 m3.1.2.hours
    rw [e1] at o1 rel
    have al : fX2_allows S 13 0 (-1) (nI H) = some 1 := by
      rw [al0, fX2_allows_40, cl, if_neg (lt_le.mpr z), fX2_allows_52, fX2_allows_57]
      rfl
    have ap : fX2_apply S1 13 0 (-1) (nI H) = some (hoursW H (M.2 0) 8 - M.2 0 8, S') := by
      rw [ap0, fX2_apply_40, o1, Option.bind_some, fX2_apply_45]
    refine ⟨S', _, ?_, rel, mw_w⟩
    unfold fX10_letPass fX10_letPass_0
    rw [h3, Option.bind_some, fX10_letPass_7, c_change al m1 ap, Option.bind_some, fX10_letPass_14]
  · exact absurd (rg_in (a := 1) (b := 99) h1 h99 (by omega)) hn
theorem x_dismiss (r : Rel S M) (z : ¬ M.2 0 5 = -1) : Xc (fX10_dismiss S) (M.2 0 5) (upd (M.2 0) 5 (-1)) := by
  have e8 : S.1 13 8 = M.2 0 5 := r.1.1.hd (f := 8) (q := 5) (by unfold cm; simp) (by omega)
  obtain ⟨S1, M1, m1, m2, m3, m4, m5⟩ := s_remember (r.thr (v := 0))
  have e1 : M1.2 0 = M.2 0 := m5.trans rfl
  have hcm : cm (nC (M1.2 0)) (nS (M1.2 0)) (nH (M1.2 0)) 0 8 = 5 := by unfold cm; simp
  have i' : In (upd (M1.2 0) 5 (-1)) := m3.1.2.up (by omega) (by omega) (by omega) (by omega) (fun _ => rfl) (fun y => absurd y (by omega)) (fun j hj => by omega) (fun j hj hq => by omega) (fun j hj hq => by omega) (fun j hj hq => by omega)
  have g' := m3.1.1.setH (v := -1) m3.1.2 hcm (by omega) (by omega)
  have o3 := m3.1.1.hd hcm (by omega)
  have rel := m3.now (va_out (q := 13) (p := 13) (by omega)) g' i'
  rw [e1] at o3 rel
  have al : fX2_allows S 13 5 (-1) 0 = some 1 := by
    rw [al5, fX2_allows_131, e8, if_neg z, fX2_allows_139, fX2_allows_144]
    rfl
  have ap : fX2_apply S1 13 5 (-1) 0 = some (M.2 0 5, (va_up S1.1 13 (upd (S1.1 13) 8 (-1)), S1.2)) := by
    rw [ap5, fX2_apply_152, o3, fX2_apply_163]
  refine ⟨_, _, ?_, rel, mw_w⟩
  unfold fX10_dismiss fX10_dismiss_0
  rw [c_change al m1 ap, Option.bind_some, fX10_dismiss_7]
theorem x_setMilk {m : Nat} (r : Rel S M) (hm : m ≤ 9) : Xc (fX10_setMilk S (nI m)) (M.2 0 4) (upd (M.2 0) 4 (nI m)) := by
  rcases s_rng (S := S) (M := th M 0) (lo := 0) (hi := 9) (a := nI m) with ⟨-, -, h3, -⟩ | ⟨hn, -, -⟩
  · obtain ⟨S1, M1, m1, m2, m3, m4, m5⟩ := s_remember (r.thr (v := 0))
    have e1 : M1.2 0 = M.2 0 := m5.trans rfl
    have hcm : cm (nC (M1.2 0)) (nS (M1.2 0)) (nH (M1.2 0)) 0 11 = 4 := by unfold cm; simp
    have i' : In (upd (M1.2 0) 4 (nI m)) := m3.1.2.up (by omega) (by omega) (by omega) (by omega) (fun y => absurd y (by omega)) (fun _ => ⟨m, hm, rfl⟩) (fun j hj => by omega) (fun j hj hq => by omega) (fun j hj hq => by omega) (fun j hj hq => by omega)
    have g' := m3.1.1.setH (v := nI m) m3.1.2 hcm (by omega) (by omega)
    have o3 := m3.1.1.hd hcm (by omega)
    have rel := m3.now (va_out (q := 13) (p := 13) (by omega)) g' i'
    rw [e1] at o3 rel
    have al : fX2_allows S 13 6 (-1) (nI m) = some 1 := by
      rw [al6, fX2_allows_145]
      rfl
    have ap : fX2_apply S1 13 6 (-1) (nI m) = some (M.2 0 4, (va_up S1.1 13 (upd (S1.1 13) 11 (nI m)), S1.2)) := by
      rw [ap6, fX2_apply_166, o3, fX2_apply_177]
    refine ⟨_, _, ?_, rel, mw_w⟩
    unfold fX10_setMilk fX10_setMilk_0
    rw [h3, Option.bind_some, fX10_setMilk_7, c_change al m1 ap, Option.bind_some, fX10_setMilk_15]
  · exact absurd (rg_in (a := 0) (b := 9) (Nat.zero_le _) hm (by omega)) hn
theorem x_addMice {y z : Nat} (r : Rel S M) (hk : k < nS (M.2 0)) (y1 : 1 ≤ y) (y9 : y ≤ 99) (ez : M.2 0 (161 + 12 * k + 8) = nI z) (q : z + y ≤ 99) : Xc (fX10_addMice S (nI k) (nI y)) (nI (z + y)) (upd (upd (M.2 0) (161 + 12 * k + 8) (nI (z + y))) 14 (M.2 0 14 + nI y)) := by
  have h6 := r.1.2.sz.2.1
  have k8 : k < 6 := by omega
  have eS : S.1 (13 + 2 + 15 + k) 2 = M.2 0 (161 + 12 * k + 8) := r.1.1.sack (f := 2) hk k8 (by omega) (by omega)
  have es : M.2 0 (161 + 12 * k + 8) + nI y = nI (z + y) := by rw [ez, nI_add]
  rcases s_rng (S := S) (M := th M 0) (lo := 1) (hi := 99) (a := nI y) with ⟨-, -, j3, -⟩ | ⟨hn, -, -⟩
  · obtain ⟨S1, M1, m1, m2, m3, m4, m5⟩ := s_remember (r.thr (v := 0))
    have e1 : M1.2 0 = M.2 0 := m5.trans rfl
    have g := m3.1.1
    have i := m3.1.2
    rw [e1] at g i
    have i1 : In (upd (M.2 0) (161 + 12 * k + 8) (nI (z + y))) := i.up (by omega) (by omega) (by omega) (by omega) (fun z => by omega) (fun z => by omega) (fun j hj => by omega) (fun j hj hq => by omega) (fun j hj hq => by first | omega | exact ⟨_, q, rfl⟩) (fun j hj hq => by first | omega | exact ⟨_, q, rfl⟩)
    have g1 := g.setS (f := 2) (v := nI (z + y)) i hk k8 (by omega) (by omega)
    obtain ⟨T, eT⟩ : ∃ T : CS, T = (va_up S1.1 (13 + 2 + 15 + k) (upd (S1.1 (13 + 2 + 15 + k)) 2 (nI (z + y))), S1.2) := ⟨_, rfl⟩
    rw [← eT] at g1
    obtain ⟨W, eW⟩ : ∃ W : Wd, W = upd (M.2 0) (161 + 12 * k + 8) (nI (z + y)) := ⟨_, rfl⟩
    rw [show (161 + 12 * k + (2 + 6)) = (161 + 12 * k + 8) from rfl, ← eW] at g1
    rw [← eW] at i1
    have i2 : In (upd W 14 (W 14 + nI y)) := i1.up (by omega) (by omega) (by omega) (by omega) (fun z => by omega) (fun z => by omega) (fun j hj => by omega) (fun j hj hq => by omega) (fun j hj hq => by omega) (fun j hj hq => by omega)
    have g2 := g1.setT (f := 6) (v := W 14 + nI y) i1 (by omega)
    have eS1 : S1.1 (13 + 2 + 15 + k) 2 = M.2 0 (161 + 12 * k + 8) := g.sack (f := 2) hk k8 (by omega) (by omega)
    have eTt : T.1 (13 + 8) 6 = W 14 := g1.tot (f := 6) (by omega)
    have fr : ∀ q, q < 13 ∨ 48 ≤ q → ((va_up T.1 (13 + 8) (upd (T.1 (13 + 8)) 6 (W 14 + nI y)), T.2) : CS).1 q = S1.1 q ∧ ((va_up T.1 (13 + 8) (upd (T.1 (13 + 8)) 6 (W 14 + nI y)), T.2) : CS).2 q = S1.2 q := fun q hq => by
      dsimp only
      rw [vne (by omega), eT]
      dsimp only
      rw [vne (by omega)]
      exact ⟨rfl, rfl⟩
    have rel := m3.now fr g2 i2
    have eW14 : W 14 = M.2 0 14 := by rw [eW, pk_un (by omega)]
    have al : fX2_allows S 13 3 (nI k) (nI y) = some 1 := by
      rw [al3, fX2_allows_86, gi_m (show k < 6 by omega) (by omega), nI_c (by omega), eS, es, if_neg (show ¬ (99 : Int32) < nI (z + y) from nI_nlt (a := 99) q (by omega)), fX2_allows_102, fX2_allows_107]
      rfl
    have ap : fX2_apply S1 13 3 (nI k) (nI y) = some (nI (z + y), (va_up T.1 (13 + 8) (upd (T.1 (13 + 8)) 6 (W 14 + nI y)), T.2)) := by
      rw [ap3, fX2_apply_76, gi_m (show k < 6 by omega) (by omega), nI_c (by omega), eS1, es, ← eT, fX2_apply_91, eTt, fX2_apply_104, gi_m (show k < 6 by omega) (by omega), nI_c (by omega)]
      dsimp only
      rw [vne (by omega), eT]
      dsimp only
      rw [vat, pk_us]
    refine ⟨_, _, ?_, rel, ?_⟩
    · unfold fX10_addMice fX10_addMice_0
      rw [x_sackAt r.1 hk, Option.bind_some, fX10_addMice_5, j3, Option.bind_some, fX10_addMice_13, c_change al m1 ap, Option.bind_some, fX10_addMice_20]
    · rw [mw_w, eW14, eW]
  · exact absurd (rg_in (a := 1) (b := 99) y1 y9 (by omega)) hn
theorem x_addGrain {y z : Nat} (r : Rel S M) (hk : k < nS (M.2 0)) (y1 : 1 ≤ y) (y9 : y ≤ 999) (ez : M.2 0 (161 + 12 * k + 7) = nI z) (q : z + y ≤ 9999) : Xc (fX10_addGrain S (nI k) (nI y)) (nI (z + y)) (upd (upd (M.2 0) (161 + 12 * k + 7) (nI (z + y))) 15 (M.2 0 15 + nI y)) := by
  have h6 := r.1.2.sz.2.1
  have k8 : k < 6 := by omega
  have eS : S.1 (13 + 2 + 15 + k) 1 = M.2 0 (161 + 12 * k + 7) := r.1.1.sack (f := 1) hk k8 (by omega) (by omega)
  have es : M.2 0 (161 + 12 * k + 7) + nI y = nI (z + y) := by rw [ez, nI_add]
  rcases s_rng (S := S) (M := th M 0) (lo := 1) (hi := 999) (a := nI y) with ⟨-, -, j3, -⟩ | ⟨hn, -, -⟩
  · obtain ⟨S1, M1, m1, m2, m3, m4, m5⟩ := s_remember (r.thr (v := 0))
    have e1 : M1.2 0 = M.2 0 := m5.trans rfl
    have g := m3.1.1
    have i := m3.1.2
    rw [e1] at g i
    have i1 : In (upd (M.2 0) (161 + 12 * k + 7) (nI (z + y))) := i.up (by omega) (by omega) (by omega) (by omega) (fun z => by omega) (fun z => by omega) (fun j hj => by omega) (fun j hj hq => by omega) (fun j hj hq => by first | omega | exact ⟨_, q, rfl⟩) (fun j hj hq => by first | omega | exact ⟨_, q, rfl⟩)
    have g1 := g.setS (f := 1) (v := nI (z + y)) i hk k8 (by omega) (by omega)
    obtain ⟨T, eT⟩ : ∃ T : CS, T = (va_up S1.1 (13 + 2 + 15 + k) (upd (S1.1 (13 + 2 + 15 + k)) 1 (nI (z + y))), S1.2) := ⟨_, rfl⟩
    rw [← eT] at g1
    obtain ⟨W, eW⟩ : ∃ W : Wd, W = upd (M.2 0) (161 + 12 * k + 7) (nI (z + y)) := ⟨_, rfl⟩
    rw [show (161 + 12 * k + (1 + 6)) = (161 + 12 * k + 7) from rfl, ← eW] at g1
    rw [← eW] at i1
    have i2 : In (upd W 15 (W 15 + nI y)) := i1.up (by omega) (by omega) (by omega) (by omega) (fun z => by omega) (fun z => by omega) (fun j hj => by omega) (fun j hj hq => by omega) (fun j hj hq => by omega) (fun j hj hq => by omega)
    have g2 := g1.setT (f := 7) (v := W 15 + nI y) i1 (by omega)
    have eS1 : S1.1 (13 + 2 + 15 + k) 1 = M.2 0 (161 + 12 * k + 7) := g.sack (f := 1) hk k8 (by omega) (by omega)
    have eTt : T.1 (13 + 8) 7 = W 15 := g1.tot (f := 7) (by omega)
    have fr : ∀ q, q < 13 ∨ 48 ≤ q → ((va_up T.1 (13 + 8) (upd (T.1 (13 + 8)) 7 (W 15 + nI y)), T.2) : CS).1 q = S1.1 q ∧ ((va_up T.1 (13 + 8) (upd (T.1 (13 + 8)) 7 (W 15 + nI y)), T.2) : CS).2 q = S1.2 q := fun q hq => by
      dsimp only
      rw [vne (by omega), eT]
      dsimp only
      rw [vne (by omega)]
      exact ⟨rfl, rfl⟩
    have rel := m3.now fr g2 i2
    have eW14 : W 15 = M.2 0 15 := by rw [eW, pk_un (by omega)]
    have al : fX2_allows S 13 4 (nI k) (nI y) = some 1 := by
      rw [al4, fX2_allows_108, gi_m (show k < 6 by omega) (by omega), nI_c (by omega), eS, es, if_neg (show ¬ (9999 : Int32) < nI (z + y) from nI_nlt (a := 9999) q (by omega)), fX2_allows_125, fX2_allows_130]
      rfl
    have ap : fX2_apply S1 13 4 (nI k) (nI y) = some (nI (z + y), (va_up T.1 (13 + 8) (upd (T.1 (13 + 8)) 7 (W 15 + nI y)), T.2)) := by
      rw [ap4, fX2_apply_114, gi_m (show k < 6 by omega) (by omega), nI_c (by omega), eS1, es, ← eT, fX2_apply_129, eTt, fX2_apply_142, gi_m (show k < 6 by omega) (by omega), nI_c (by omega)]
      dsimp only
      rw [vne (by omega), eT]
      dsimp only
      rw [vat, pk_us]
    refine ⟨_, _, ?_, rel, ?_⟩
    · unfold fX10_addGrain fX10_addGrain_0
      rw [x_sackAt r.1 hk, Option.bind_some, fX10_addGrain_5, j3, Option.bind_some, fX10_addGrain_14, c_change al m1 ap, Option.bind_some, fX10_addGrain_21]
    · rw [mw_w, eW14, eW]
  · exact absurd (rg_in (a := 1) (b := 999) y1 y9 (by omega)) hn
end XCLS
