/-! the calls that only read, both sides -/
section READ
variable {S S' : CS} {M M' : MS} {n t k : Nat} {w w' : Wd}
def Br (S : CS) (c : Option Int32) (r : Option (Int32 × MS)) : Prop := ∃ a M', c = some a ∧ r = some (a, M') ∧ Rel S M' ∧ M'.1 7 = 0
def Bt (t : Option (String × CS)) (r : Option (Int32 × MS)) (e : String) (k : Int32) : Prop := ∃ a S' M', t = some (e, S') ∧ r = some (a, M') ∧ Rel S' M' ∧ M'.1 7 = k
def Bo (c : Option (Int32 × CS)) (r : Option (Int32 × MS)) : Prop := ∃ a S' M', c = some (a, S') ∧ r = some (a, M') ∧ Rel S' M' ∧ M'.1 7 = 0
def th (M : MS) (v : Int32) : MS := (va_up M.1 7 v, M.2)
theorem th_e {v : Int32} : ((va_up M.1 7 v, M.2) : MS) = th M v := rfl
theorem th_2 {v : Int32} : (th M v).2 = M.2 := rfl
theorem th_7 {v : Int32} : (th M v).1 7 = v := by unfold th; dsimp only; rw [vat]
theorem th_o {v : Int32} {j : Nat} (h : j ≠ 7) : (th M v).1 j = M.1 j := by unfold th; dsimp only; rw [vne h]
theorem th_th {u v : Int32} : th (th M u) v = th M v := by unfold th; rw [up_up]
theorem Rel.thr {v : Int32} (r : Rel S M) : Rel S (th M v) := by
  obtain ⟨a, ⟨n, b1, b2, b3, b4, b5⟩, c, d, e⟩ := r
  refine ⟨a, ⟨n, b1, by rw [th_o (by omega)]; exact b2, b3, by rw [th_o (by omega)]; exact b4, by rw [th_o (by omega)]; exact b5⟩, c.fr rfl (fun q h => ⟨rfl, rfl⟩) (th_o (by omega)) rfl, d.fr rfl (fun q h h2 => ⟨rfl, rfl⟩) (th_o (by omega)) rfl, e.fr rfl rfl (th_o (by omega)) rfl⟩
theorem GR.cat {f : Nat} (g : GR S t w) (hk : k < nC w) (h8 : k < 8) (h1 : 1 ≤ f) (h5 : f ≤ 5) : S.1 (t + 1 + 8 + k) f = w (65 + 12 * k + (f + 6)) := by
  rw [show t + 1 + 8 + k = t + (9 + k) by omega]
  refine g.rd (by omega) (by omega) ?_ (by omega)
  unfold cm
  rw [if_neg (by omega), if_neg (by omega), if_pos (by omega), if_pos (by omega), show 9 + k - 9 = k by omega]
theorem GR.sack {f : Nat} (g : GR S t w) (hk : k < nS w) (h8 : k < 6) (h1 : 1 ≤ f) (h5 : f ≤ 4) : S.1 (t + 2 + 15 + k) f = w (161 + 12 * k + (f + 6)) := by
  rw [show t + 2 + 15 + k = t + (17 + k) by omega]
  refine g.rd (by omega) (by omega) ?_ (by omega)
  unfold cm
  rw [if_neg (by omega), if_neg (by omega), if_neg (by omega), if_pos (by omega), if_pos (by omega), show 17 + k - 17 = k by omega]
theorem GR.shift {f : Nat} (g : GR S t w) (hk : k < nH w) (h8 : k < 12) (h5 : f < 2) : S.1 (t + 3 + 20 + k) f = w (233 + 2 * k + f) := by
  rw [show t + 3 + 20 + k = t + (23 + k) by omega]
  refine g.rd (by omega) (by omega) ?_ (by omega)
  unfold cm
  rw [if_neg (by omega), if_neg (by omega), if_neg (by omega), if_neg (by omega), if_pos (by omega), if_pos (by omega), show 23 + k - 23 = k by omega]
theorem GR.hd {f q : Nat} (g : GR S t w) (hq : cm (nC w) (nS w) (nH w) 0 f = q) (hn : q ≠ 999) : S.1 t f = w q := g.at0 hq hn
theorem GR.tot {f : Nat} (g : GR S t w) (h : f < 8) : S.1 (t + 8) f = w (8 + f) := by
  refine g.rd (by omega) (by omega) ?_ (by omega)
  unfold cm
  rw [if_neg (by omega), if_pos rfl, if_pos h]
theorem rC {f : Nat} {ff : Int32} (ef : ff = nI f) (hk : k < 8) (hf : f < 12) : fX11_ofCat M (nI k) ff = some (M.2 0 (65 + 12 * k + f)) := by
  have := r_ofCat (M := M) (w := M.2 0) hk f hf
  rw [mw_self] at this
  rw [ef]; exact this
theorem rS {f : Nat} {ff : Int32} (ef : ff = nI f) (hk : k < 6) (hf : f < 12) : fX11_ofSack M (nI k) ff = some (M.2 0 (161 + 12 * k + f)) := by
  have := r_ofSack (M := M) (w := M.2 0) hk f hf
  rw [mw_self] at this
  rw [ef]; exact this
theorem rH0 (hk : k < 12) : fX11_shiftCat M (nI k) = some (M.2 0 (233 + 2 * k)) := by
  have := r_shiftCat (M := M) (w := M.2 0) hk
  rw [mw_self] at this
  exact this
theorem rH1 (hk : k < 12) : fX11_shiftHours M (nI k) = some (M.2 0 (233 + 2 * k + 1)) := by
  have := r_shiftHours (M := M) (w := M.2 0) hk
  rw [mw_self] at this
  exact this
/-- a number counts something, or it does not -/
theorem idx (a : Int32) (n : Nat) (hn : n < 2 ^ 31) : (∃ k, k < n ∧ a = nI k) ∨ a < 0 ∨ (¬ a < 0 ∧ nI n ≤ a) := by
  by_cases h : a < 0
  · exact Or.inr (Or.inl h)
  · obtain ⟨k, hk, e⟩ := nI_of h
    by_cases q : k < n
    · exact Or.inl ⟨k, q, e⟩
    · exact Or.inr (Or.inr ⟨h, by rw [e]; exact nI_le (by omega) (by omega)⟩)
theorem inR {a : Int32} {n : Nat} (h1 : 1 ≤ n) (hn : n < 2 ^ 31) : fX11_inRange M a 0 (nI n - 1) = some (if a < 0 then 0 else if nI n ≤ a then 0 else 1) := by
  rw [r_inRange, show nI n - 1 = nI (n - 1) from pk_sub (b := 1) h1]
  by_cases h : a < 0
  · rw [if_pos h, if_pos h]
  · rw [if_neg h, if_neg h]
    obtain ⟨k, hk, e⟩ := nI_of h
    subst e
    by_cases q : k < n
    · rw [if_neg (nI_nlt (by omega) (by omega)), if_neg (nI_ge q (by omega))]
    · rw [if_pos (nI_lt (by omega) (by omega)), if_pos (nI_le (by omega) (by omega))]
theorem r_fails1 {v : Int32} : fX11_fails M 1 v = some (1, th M v) := by
  unfold fX11_fails fX11_fails_0
  rw [if_neg one0, fX11_fails_4, fX11_fails_9, th_e]
  exact bz_s (Or.inr rfl)
theorem r_fails0 {v : Int32} : fX11_fails M 0 v = some (0, M) := by
  unfold fX11_fails fX11_fails_0
  rw [if_pos rfl, fX11_fails_9]
  exact bz_s (Or.inl rfl)
theorem s_noCat (r : RN S M) (a : Int32) : (∃ k, k < nC (M.2 0) ∧ k < 8 ∧ a = nI k ∧ fX11_noCat (th M 0) a = some (0, th M 0) ∧ fX10_catAt S a = some (13 + 1 + 8 + k) ∧ tX10_catAt S a = none) ∨ (fX11_noCat (th M 0) a = some (1, th M 1) ∧ tX10_catAt S a = some ("java/lang/IndexOutOfBoundsException", S)) := by
  obtain ⟨gN, iN⟩ := r
  obtain ⟨h1, h2, h3⟩ : 1 ≤ nC (M.2 0) ∧ nC (M.2 0) ≤ 8 ∧ M.2 0 0 = nI (nC (M.2 0)) := ⟨iN.1.1.sz.1.1, iN.1.1.sz.1.2.1, iN.1.1.sz.1.2.2⟩
  have e : S.1 13 5 = nI (nC (M.2 0)) := (gN.hd (f := 5) (q := 0) (by unfold cm; simp) (by omega)).trans h3
  generalize nC (M.2 0) = n at *
  unfold fX11_noCat fX11_noCat_0 fX10_catAt fX10_catAt_0 tX10_catAt tX10_catAt_0
  rw [gi0, tn0, th_2, h3, inR h1 (by omega), Option.bind_some, fX11_noCat_14]
  rcases idx a n (by omega) with ⟨k, hk, ea⟩ | ha | ⟨ha, hb⟩
  · left
    subst ea
    refine ⟨k, hk, by omega, rfl, ?_, ?_, ?_⟩
    · rw [if_neg (show ¬ nI k < 0 from by rw [← nI_0]; exact nI_nlt (by omega) (by omega)), if_neg (nI_ge hk (by omega)), if_neg one0, fX11_noCat_21, fX11_noCat_22, r_fails0, Option.bind_some, fX11_noCat_26]
      exact bz_s (Or.inl rfl)
    · rw [if_neg (show ¬ nI k < 0 from by rw [← nI_0]; exact nI_nlt (by omega) (by omega)), fX10_catAt_4, e, if_pos (nI_lt hk (by omega)), fX10_catAt_26, gi_m (show k < 8 by omega) (by omega), nI_c (by omega)]
    · rw [if_neg (show ¬ nI k < 0 from by rw [← nI_0]; exact nI_nlt (by omega) (by omega)), tX10_catAt_4, e, if_pos (nI_lt hk (by omega))]
  · right
    refine ⟨?_, ?_⟩
    · rw [if_pos ha, if_pos rfl, fX11_noCat_17, fX11_noCat_22, r_fails1, Option.bind_some, fX11_noCat_26, th_th]
      exact bz_s (Or.inr rfl)
    · rw [if_pos ha, tX10_catAt_15]
  · right
    refine ⟨?_, ?_⟩
    · rw [if_neg ha, if_pos hb, if_pos rfl, fX11_noCat_17, fX11_noCat_22, r_fails1, Option.bind_some, fX11_noCat_26, th_th]
      exact bz_s (Or.inr rfl)
    · rw [if_neg ha, tX10_catAt_4, e, if_neg (show ¬ a < nI n from fun z => (lt_le.mpr hb) z), tX10_catAt_15]
theorem s_noSack (r : RN S M) (a : Int32) : (∃ k, k < nS (M.2 0) ∧ k < 6 ∧ a = nI k ∧ fX11_noSack (th M 0) a = some (0, th M 0) ∧ fX10_sackAt S a = some (13 + 2 + 15 + k) ∧ tX10_sackAt S a = none) ∨ (fX11_noSack (th M 0) a = some (1, th M 1) ∧ tX10_sackAt S a = some ("java/lang/IndexOutOfBoundsException", S)) := by
  obtain ⟨gN, iN⟩ := r
  obtain ⟨h1, h2, h3⟩ : 1 ≤ nS (M.2 0) ∧ nS (M.2 0) ≤ 6 ∧ M.2 0 1 = nI (nS (M.2 0)) := ⟨iN.1.1.sz.2.1.1, iN.1.1.sz.2.1.2.1, iN.1.1.sz.2.1.2.2⟩
  have e : S.1 13 6 = nI (nS (M.2 0)) := (gN.hd (f := 6) (q := 1) (by unfold cm; simp) (by omega)).trans h3
  generalize nS (M.2 0) = n at *
  unfold fX11_noSack fX11_noSack_0 fX10_sackAt fX10_sackAt_0 tX10_sackAt tX10_sackAt_0
  rw [gi1, tn1, th_2, h3, inR h1 (by omega), Option.bind_some, fX11_noSack_14]
  rcases idx a n (by omega) with ⟨k, hk, ea⟩ | ha | ⟨ha, hb⟩
  · left
    subst ea
    refine ⟨k, hk, by omega, rfl, ?_, ?_, ?_⟩
    · rw [if_neg (show ¬ nI k < 0 from by rw [← nI_0]; exact nI_nlt (by omega) (by omega)), if_neg (nI_ge hk (by omega)), if_neg one0, fX11_noSack_21, fX11_noSack_22, r_fails0, Option.bind_some, fX11_noSack_26]
      exact bz_s (Or.inl rfl)
    · rw [if_neg (show ¬ nI k < 0 from by rw [← nI_0]; exact nI_nlt (by omega) (by omega)), fX10_sackAt_4, e, if_pos (nI_lt hk (by omega)), fX10_sackAt_26, gi_m (show k < 6 by omega) (by omega), nI_c (by omega)]
    · rw [if_neg (show ¬ nI k < 0 from by rw [← nI_0]; exact nI_nlt (by omega) (by omega)), tX10_sackAt_4, e, if_pos (nI_lt hk (by omega))]
  · right
    refine ⟨?_, ?_⟩
    · rw [if_pos ha, if_pos rfl, fX11_noSack_17, fX11_noSack_22, r_fails1, Option.bind_some, fX11_noSack_26, th_th]
      exact bz_s (Or.inr rfl)
    · rw [if_pos ha, tX10_sackAt_15]
  · right
    refine ⟨?_, ?_⟩
    · rw [if_neg ha, if_pos hb, if_pos rfl, fX11_noSack_17, fX11_noSack_22, r_fails1, Option.bind_some, fX11_noSack_26, th_th]
      exact bz_s (Or.inr rfl)
    · rw [if_neg ha, tX10_sackAt_4, e, if_neg (show ¬ a < nI n from fun z => (lt_le.mpr hb) z), tX10_sackAt_15]
theorem q_clock (r : Rel S M) : Br S (fX10_clock S) (fX11_clock M) := by
  refine ⟨M.2 0 3, th M 0, ?_, ?_, r.thr, th_7⟩
  · exact congrArg some (r.1.1.hd (f := 12) (q := 3) (by unfold cm; simp) (by omega))
  · unfold fX11_clock fX11_clock_0 fX11_clock_5
    rw [gi3, tn3]; rfl
theorem q_swornCat (r : Rel S M) : Br S (fX10_swornCat S) (fX11_swornCat M) := by
  refine ⟨M.2 0 5, th M 0, ?_, ?_, r.thr, th_7⟩
  · exact congrArg some (r.1.1.hd (f := 8) (q := 5) (by unfold cm; simp) (by omega))
  · unfold fX11_swornCat fX11_swornCat_0 fX11_swornCat_5
    rw [gi5, tn5]; rfl
theorem q_currentShift (r : Rel S M) : Br S (fX10_currentShift S) (fX11_currentShift M) := by
  refine ⟨M.2 0 6, th M 0, ?_, ?_, r.thr, th_7⟩
  · exact congrArg some (r.1.1.hd (f := 9) (q := 6) (by unfold cm; simp) (by omega))
  · unfold fX11_currentShift fX11_currentShift_0 fX11_currentShift_5
    rw [gi6, tn6]; rfl
theorem q_hoursLeft (r : Rel S M) : Br S (fX10_hoursLeft S) (fX11_hoursLeft M) := by
  refine ⟨M.2 0 7, th M 0, ?_, ?_, r.thr, th_7⟩
  · exact congrArg some (r.1.1.hd (f := 10) (q := 7) (by unfold cm; simp) (by omega))
  · unfold fX11_hoursLeft fX11_hoursLeft_0 fX11_hoursLeft_5
    rw [gi7, tn7]; rfl
theorem q_milk (r : Rel S M) : Br S (fX10_milk S) (fX11_milk M) := by
  refine ⟨M.2 0 4, th M 0, ?_, ?_, r.thr, th_7⟩
  · exact congrArg some (r.1.1.hd (f := 11) (q := 4) (by unfold cm; simp) (by omega))
  · unfold fX11_milk fX11_milk_0 fX11_milk_5
    rw [gi4, tn4]; rfl
theorem q_totalCaught (r : Rel S M) : Br S (fX10_totalCaught S) (fX11_totalCaught M) := by
  refine ⟨M.2 0 8, th M 0, ?_, ?_, r.thr, th_7⟩
  · exact congrArg some (r.1.1.tot (f := 0) (by omega))
  · unfold fX11_totalCaught fX11_totalCaught_0 fX11_totalCaught_5
    rw [gi8, tn8]; rfl
theorem q_totalEaten (r : Rel S M) : Br S (fX10_totalEaten S) (fX11_totalEaten M) := by
  refine ⟨M.2 0 9, th M 0, ?_, ?_, r.thr, th_7⟩
  · exact congrArg some (r.1.1.tot (f := 1) (by omega))
  · unfold fX11_totalEaten fX11_totalEaten_0 fX11_totalEaten_5
    rw [gi9, tn9]; rfl
theorem q_totalBorn (r : Rel S M) : Br S (fX10_totalBorn S) (fX11_totalBorn M) := by
  refine ⟨M.2 0 10, th M 0, ?_, ?_, r.thr, th_7⟩
  · exact congrArg some (r.1.1.tot (f := 2) (by omega))
  · unfold fX11_totalBorn fX11_totalBorn_0 fX11_totalBorn_5
    rw [gi10, tn10]; rfl
theorem q_totalStarved (r : Rel S M) : Br S (fX10_totalStarved S) (fX11_totalStarved M) := by
  refine ⟨M.2 0 11, th M 0, ?_, ?_, r.thr, th_7⟩
  · exact congrArg some (r.1.1.tot (f := 3) (by omega))
  · unfold fX11_totalStarved fX11_totalStarved_0 fX11_totalStarved_5
    rw [gi11, tn11]; rfl
theorem q_totalOaths (r : Rel S M) : Br S (fX10_totalOaths S) (fX11_totalOaths M) := by
  refine ⟨M.2 0 12, th M 0, ?_, ?_, r.thr, th_7⟩
  · exact congrArg some (r.1.1.tot (f := 4) (by omega))
  · unfold fX11_totalOaths fX11_totalOaths_0 fX11_totalOaths_5
    rw [gi12, tn12]; rfl
theorem q_totalRefusals (r : Rel S M) : Br S (fX10_totalRefusals S) (fX11_totalRefusals M) := by
  refine ⟨M.2 0 13, th M 0, ?_, ?_, r.thr, th_7⟩
  · exact congrArg some (r.1.1.tot (f := 5) (by omega))
  · unfold fX11_totalRefusals fX11_totalRefusals_0 fX11_totalRefusals_5
    rw [gi13, tn13]; rfl
theorem q_tirednessOf (r : Rel S M) (a : Int32) : Br S (fX10_tirednessOf S a) (fX11_tirednessOf M a) ∨ Bt (tX10_tirednessOf S a) (fX11_tirednessOf M a) "java/lang/IndexOutOfBoundsException" 1 := by
  rcases s_noCat r.1 a with ⟨k, hk, k8, ea, h1, h2, h3⟩ | ⟨h1, h2⟩
  · left
    refine ⟨M.2 0 (65 + 12 * k + 9), th M 0, ?_, ?_, r.thr, th_7⟩
    · unfold fX10_tirednessOf fX10_tirednessOf_0 fX10_tirednessOf_5
      rw [h2, Option.bind_some]
      exact congrArg some (r.1.1.cat (f := 3) hk k8 (by omega) (by omega))
    · unfold fX11_tirednessOf fX11_tirednessOf_0
      rw [th_e, fX11_tirednessOf_5, h1, Option.bind_some]
      dsimp only
      rw [fX11_tirednessOf_10, if_pos rfl, fX11_tirednessOf_17, ea, rC (f := 9) (ff := 9) rfl k8 (by omega), Option.bind_some, fX11_tirednessOf_24]
      rfl
  · right
    refine ⟨0, S, th M 1, ?_, ?_, r.thr, th_7⟩
    · unfold tX10_tirednessOf tX10_tirednessOf_0
      rw [h2]
    · unfold fX11_tirednessOf fX11_tirednessOf_0
      rw [th_e, fX11_tirednessOf_5, h1, Option.bind_some]
      dsimp only
      rw [fX11_tirednessOf_10, if_neg one0, fX11_tirednessOf_13, fX11_tirednessOf_24]
theorem q_caughtBy (r : Rel S M) (a : Int32) : Br S (fX10_caughtBy S a) (fX11_caughtBy M a) ∨ Bt (tX10_caughtBy S a) (fX11_caughtBy M a) "java/lang/IndexOutOfBoundsException" 1 := by
  rcases s_noCat r.1 a with ⟨k, hk, k8, ea, h1, h2, h3⟩ | ⟨h1, h2⟩
  · left
    refine ⟨M.2 0 (65 + 12 * k + 10), th M 0, ?_, ?_, r.thr, th_7⟩
    · unfold fX10_caughtBy fX10_caughtBy_0 fX10_caughtBy_5
      rw [h2, Option.bind_some]
      exact congrArg some (r.1.1.cat (f := 4) hk k8 (by omega) (by omega))
    · unfold fX11_caughtBy fX11_caughtBy_0
      rw [th_e, fX11_caughtBy_5, h1, Option.bind_some]
      dsimp only
      rw [fX11_caughtBy_10, if_pos rfl, fX11_caughtBy_17, ea, rC (f := 10) (ff := 10) rfl k8 (by omega), Option.bind_some, fX11_caughtBy_24]
      rfl
  · right
    refine ⟨0, S, th M 1, ?_, ?_, r.thr, th_7⟩
    · unfold tX10_caughtBy tX10_caughtBy_0
      rw [h2]
    · unfold fX11_caughtBy fX11_caughtBy_0
      rw [th_e, fX11_caughtBy_5, h1, Option.bind_some]
      dsimp only
      rw [fX11_caughtBy_10, if_neg one0, fX11_caughtBy_13, fX11_caughtBy_24]
theorem q_oathsOf (r : Rel S M) (a : Int32) : Br S (fX10_oathsOf S a) (fX11_oathsOf M a) ∨ Bt (tX10_oathsOf S a) (fX11_oathsOf M a) "java/lang/IndexOutOfBoundsException" 1 := by
  rcases s_noCat r.1 a with ⟨k, hk, k8, ea, h1, h2, h3⟩ | ⟨h1, h2⟩
  · left
    refine ⟨M.2 0 (65 + 12 * k + 11), th M 0, ?_, ?_, r.thr, th_7⟩
    · unfold fX10_oathsOf fX10_oathsOf_0 fX10_oathsOf_5
      rw [h2, Option.bind_some]
      exact congrArg some (r.1.1.cat (f := 5) hk k8 (by omega) (by omega))
    · unfold fX11_oathsOf fX11_oathsOf_0
      rw [th_e, fX11_oathsOf_5, h1, Option.bind_some]
      dsimp only
      rw [fX11_oathsOf_10, if_pos rfl, fX11_oathsOf_17, ea, rC (f := 11) (ff := 11) rfl k8 (by omega), Option.bind_some, fX11_oathsOf_24]
      rfl
  · right
    refine ⟨0, S, th M 1, ?_, ?_, r.thr, th_7⟩
    · unfold tX10_oathsOf tX10_oathsOf_0
      rw [h2]
    · unfold fX11_oathsOf fX11_oathsOf_0
      rw [th_e, fX11_oathsOf_5, h1, Option.bind_some]
      dsimp only
      rw [fX11_oathsOf_10, if_neg one0, fX11_oathsOf_13, fX11_oathsOf_24]
theorem q_grainIn (r : Rel S M) (a : Int32) : Br S (fX10_grainIn S a) (fX11_grainIn M a) ∨ Bt (tX10_grainIn S a) (fX11_grainIn M a) "java/lang/IndexOutOfBoundsException" 1 := by
  rcases s_noSack r.1 a with ⟨k, hk, k8, ea, h1, h2, h3⟩ | ⟨h1, h2⟩
  · left
    refine ⟨M.2 0 (161 + 12 * k + 7), th M 0, ?_, ?_, r.thr, th_7⟩
    · unfold fX10_grainIn fX10_grainIn_0 fX10_grainIn_5
      rw [h2, Option.bind_some]
      exact congrArg some (r.1.1.sack (f := 1) hk k8 (by omega) (by omega))
    · unfold fX11_grainIn fX11_grainIn_0
      rw [th_e, fX11_grainIn_5, h1, Option.bind_some]
      dsimp only
      rw [fX11_grainIn_10, if_pos rfl, fX11_grainIn_17, ea, rS (f := 7) (ff := 7) rfl k8 (by omega), Option.bind_some, fX11_grainIn_24]
      rfl
  · right
    refine ⟨0, S, th M 1, ?_, ?_, r.thr, th_7⟩
    · unfold tX10_grainIn tX10_grainIn_0
      rw [h2]
    · unfold fX11_grainIn fX11_grainIn_0
      rw [th_e, fX11_grainIn_5, h1, Option.bind_some]
      dsimp only
      rw [fX11_grainIn_10, if_neg one0, fX11_grainIn_13, fX11_grainIn_24]
theorem q_miceIn (r : Rel S M) (a : Int32) : Br S (fX10_miceIn S a) (fX11_miceIn M a) ∨ Bt (tX10_miceIn S a) (fX11_miceIn M a) "java/lang/IndexOutOfBoundsException" 1 := by
  rcases s_noSack r.1 a with ⟨k, hk, k8, ea, h1, h2, h3⟩ | ⟨h1, h2⟩
  · left
    refine ⟨M.2 0 (161 + 12 * k + 8), th M 0, ?_, ?_, r.thr, th_7⟩
    · unfold fX10_miceIn fX10_miceIn_0 fX10_miceIn_5
      rw [h2, Option.bind_some]
      exact congrArg some (r.1.1.sack (f := 2) hk k8 (by omega) (by omega))
    · unfold fX11_miceIn fX11_miceIn_0
      rw [th_e, fX11_miceIn_5, h1, Option.bind_some]
      dsimp only
      rw [fX11_miceIn_10, if_pos rfl, fX11_miceIn_17, ea, rS (f := 8) (ff := 8) rfl k8 (by omega), Option.bind_some, fX11_miceIn_24]
      rfl
  · right
    refine ⟨0, S, th M 1, ?_, ?_, r.thr, th_7⟩
    · unfold tX10_miceIn tX10_miceIn_0
      rw [h2]
    · unfold fX11_miceIn fX11_miceIn_0
      rw [th_e, fX11_miceIn_5, h1, Option.bind_some]
      dsimp only
      rw [fX11_miceIn_10, if_neg one0, fX11_miceIn_13, fX11_miceIn_24]
theorem q_eatenFrom (r : Rel S M) (a : Int32) : Br S (fX10_eatenFrom S a) (fX11_eatenFrom M a) ∨ Bt (tX10_eatenFrom S a) (fX11_eatenFrom M a) "java/lang/IndexOutOfBoundsException" 1 := by
  rcases s_noSack r.1 a with ⟨k, hk, k8, ea, h1, h2, h3⟩ | ⟨h1, h2⟩
  · left
    refine ⟨M.2 0 (161 + 12 * k + 10), th M 0, ?_, ?_, r.thr, th_7⟩
    · unfold fX10_eatenFrom fX10_eatenFrom_0 fX10_eatenFrom_5
      rw [h2, Option.bind_some]
      exact congrArg some (r.1.1.sack (f := 4) hk k8 (by omega) (by omega))
    · unfold fX11_eatenFrom fX11_eatenFrom_0
      rw [th_e, fX11_eatenFrom_5, h1, Option.bind_some]
      dsimp only
      rw [fX11_eatenFrom_10, if_pos rfl, fX11_eatenFrom_17, ea, rS (f := 10) (ff := 10) rfl k8 (by omega), Option.bind_some, fX11_eatenFrom_24]
      rfl
  · right
    refine ⟨0, S, th M 1, ?_, ?_, r.thr, th_7⟩
    · unfold tX10_eatenFrom tX10_eatenFrom_0
      rw [h2]
    · unfold fX11_eatenFrom fX11_eatenFrom_0
      rw [th_e, fX11_eatenFrom_5, h1, Option.bind_some]
      dsimp only
      rw [fX11_eatenFrom_10, if_neg one0, fX11_eatenFrom_13, fX11_eatenFrom_24]
end READ
