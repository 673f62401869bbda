/-! the hunting sack and the events, both sides -/
section EVTS
variable {S S' : CS} {M M' : MS} {n t k : Nat} {w w' : Wd}
theorem q_huntingSack (r : Rel S M) : Br S (fX10_huntingSack S) (fX11_huntingSack M) := by
  have i := r.1.2
  refine ⟨huntedW (M.2 0), th M 0, ?_, ?_, r.thr, th_7⟩
  · obtain ⟨E, e, -⟩ := r.1.1.cwE
    have c := c_busy (S := S) (t := 13) (nc := nC (M.2 0)) (ns := nS (M.2 0)) (nh := nH (M.2 0)) (w := M.2 0) (E := E) i.1.1.sz.2.1.2.2 i.sz.2.1 i.1.2.2.1 (fun j hj => (i.1.2.2.2 j hj).1)
    rw [e] at c
    unfold fX10_huntingSack fX10_huntingSack_0
    rw [c, Option.bind_some, fX10_huntingSack_7]
  · have c := r_hunted (M := th M 0) (w := M.2 0) i.1.1.sz.2.1.2.2 i.sz.2.1
    rw [thw] at c
    unfold fX11_huntingSack fX11_huntingSack_0
    rw [th_e, fX11_huntingSack_5, c, Option.bind_some, fX11_huntingSack_9]
theorem c_holds {c : Nat} (h3 : S.1 t 3 = nI c) (hc : c ≤ 16) (a : Int32) : fX1_holds S t a = some (if a < 0 then 0 else if nI c ≤ a then 0 else 1) := by
  unfold fX1_holds fX1_holds_0
  by_cases h : a < 0
  · rw [if_pos h, if_pos h, fX1_holds_16, fX1_holds_17]; rfl
  · rw [if_neg h, if_neg h, fX1_holds_4, h3]
    by_cases q : nI c ≤ a
    · rw [if_pos q, if_pos q, fX1_holds_16, fX1_holds_17]; rfl
    · rw [if_neg q, if_neg q, fX1_holds_12, fX1_holds_17]; rfl
theorem c_slot {nx b : Nat} (h4 : S.1 t 4 = nI nx) (hn : nx < 16) (hb : b < 16) : fX1_slot S t (nI b) = some (nI ((nx + 15 - b) % 16)) := by
  unfold fX1_slot fX1_slot_0
  rw [h4, c_floorMod, show fmo (nI nx - 1 - nI b) 16 = some (nI ((nx + 15 - b) % 16)) from fmo16 ⟨nx, hn⟩ ⟨b, hb⟩, Option.bind_some, fX1_slot_13]
theorem inR0 {a : Int32} {n : Nat} (hn : n < 2 ^ 31) : fX11_inRange M a 0 (nI n - 1) = some (if a < 0 then 0 else if nI n ≤ a then 0 else 1) := by
  by_cases z : n = 0
  · subst z
    rw [r_inRange]
    by_cases h : a < 0
    · rw [if_pos h, if_pos h]
    · have e1 : (nI 0 - 1 : Int32).toInt = -1 := by decide
      have e0 : (0 : Int32).toInt = 0 := by decide
      have h' : ¬ a.toInt < (0 : Int32).toInt := fun y => h (i32.mpr y)
      have q1 : nI 0 - 1 < a := by rw [i32]; omega
      have q2 : nI 0 ≤ a := by rw [nI_0]; exact lt_le.mp h
      rw [if_neg h, if_neg h, if_pos q1, if_pos q2]
  · exact inR (by omega) hn
theorem q_eventKind (r : Rel S M) (a : Int32) : Br S (fX10_eventKind S a) (fX11_eventKind M a) := by
  obtain ⟨nx, c, h1, h2, h3, h4, h5, h6⟩ := r.1.1.ev
  have h3' : S.1 (13 + 4) 4 = nI nx := h3
  have h4' : S.1 (13 + 4) 3 = nI c := h4
  unfold fX10_eventKind fX10_eventKind_0 fX11_eventKind fX11_eventKind_0 fX11_eventKind_5 fX11_logged fX11_logged_0
  rw [c_holds h4' h2, Option.bind_some, fX10_eventKind_11, th_e, gi16, tn16, th_2, h5, inR0 (by omega), Option.bind_some, fX11_logged_14]
  by_cases ha : a < 0
  · rw [if_pos ha, if_pos rfl, fX10_eventKind_39, fX10_eventKind_40, if_pos rfl, fX11_logged_33, fX11_logged_34, Option.bind_some, fX11_eventKind_11]
    exact ⟨-1, th M 0, rfl, rfl, r.thr, th_7⟩
  · rw [if_neg ha]
    by_cases q : nI c ≤ a
    · rw [if_pos q, if_pos rfl, fX10_eventKind_39, fX10_eventKind_40, if_pos rfl, fX11_logged_33, fX11_logged_34, Option.bind_some, fX11_eventKind_11]
      exact ⟨-1, th M 0, rfl, rfl, r.thr, th_7⟩
    · obtain ⟨b, hb, e⟩ := nI_of ha
      subst e
      have lt : b < c := Classical.byContradiction fun z => q (nI_le (by omega) (by omega))
      obtain ⟨k1, k2, k3⟩ := h6 b lt
      rw [if_neg q, if_neg one0, fX10_eventKind_14, c_slot h3' h1 (by omega), Option.bind_some, fX10_eventKind_35, gi_m (show (nx + 15 - b) % 16 < 16 by omega) (by omega), fX10_eventKind_40, nI_c (by omega), if_neg one0, fX11_logged_17, show (17 + 3 * nI b + 0 : Int32) = nI (17 + 3 * b + 0) from nI_a 17 3 b 0, gi_m (by omega) (by omega), nI_c (by omega), fX11_logged_34, Option.bind_some, fX11_eventKind_11, th_2]
      refine ⟨_, th M 0, rfl, ?_, r.thr, th_7⟩
      rw [show M.2 0 (17 + 3 * b + 0) = S.1 (13 + 4 + 1) ((nx + 15 - b) % 16) from ?_]
      have := k1
      rw [show 17 + 3 * b + 0 = 17 + 3 * b by omega]
      exact this.symm
theorem q_eventCat (r : Rel S M) (a : Int32) : Br S (fX10_eventCat S a) (fX11_eventCat M a) := by
  obtain ⟨nx, c, h1, h2, h3, h4, h5, h6⟩ := r.1.1.ev
  have h3' : S.1 (13 + 4) 4 = nI nx := h3
  have h4' : S.1 (13 + 4) 3 = nI c := h4
  unfold fX10_eventCat fX10_eventCat_0 fX11_eventCat fX11_eventCat_0 fX11_eventCat_5 fX11_logged fX11_logged_0
  rw [c_holds h4' h2, Option.bind_some, fX10_eventCat_11, th_e, gi16, tn16, th_2, h5, inR0 (by omega), Option.bind_some, fX11_logged_14]
  by_cases ha : a < 0
  · rw [if_pos ha, if_pos rfl, fX10_eventCat_39, fX10_eventCat_40, if_pos rfl, fX11_logged_33, fX11_logged_34, Option.bind_some, fX11_eventCat_11]
    exact ⟨-1, th M 0, rfl, rfl, r.thr, th_7⟩
  · rw [if_neg ha]
    by_cases q : nI c ≤ a
    · rw [if_pos q, if_pos rfl, fX10_eventCat_39, fX10_eventCat_40, if_pos rfl, fX11_logged_33, fX11_logged_34, Option.bind_some, fX11_eventCat_11]
      exact ⟨-1, th M 0, rfl, rfl, r.thr, th_7⟩
    · obtain ⟨b, hb, e⟩ := nI_of ha
      subst e
      have lt : b < c := Classical.byContradiction fun z => q (nI_le (by omega) (by omega))
      obtain ⟨k1, k2, k3⟩ := h6 b lt
      rw [if_neg q, if_neg one0, fX10_eventCat_14, c_slot h3' h1 (by omega), Option.bind_some, fX10_eventCat_35, gi_m (show (nx + 15 - b) % 16 < 16 by omega) (by omega), fX10_eventCat_40, nI_c (by omega), if_neg one0, fX11_logged_17, show (17 + 3 * nI b + 1 : Int32) = nI (17 + 3 * b + 1) from nI_a 17 3 b 1, gi_m (by omega) (by omega), nI_c (by omega), fX11_logged_34, Option.bind_some, fX11_eventCat_11, th_2]
      refine ⟨_, th M 0, rfl, ?_, r.thr, th_7⟩
      rw [show M.2 0 (17 + 3 * b + 1) = S.1 (13 + 4 + 2) ((nx + 15 - b) % 16) from ?_]
      have := k2
      rw [show 17 + 3 * b + 1 = 18 + 3 * b by omega]
      exact this.symm
theorem q_eventNumber (r : Rel S M) (a : Int32) : Br S (fX10_eventNumber S a) (fX11_eventNumber M a) := by
  obtain ⟨nx, c, h1, h2, h3, h4, h5, h6⟩ := r.1.1.ev
  have h3' : S.1 (13 + 4) 4 = nI nx := h3
  have h4' : S.1 (13 + 4) 3 = nI c := h4
  unfold fX10_eventNumber fX10_eventNumber_0 fX11_eventNumber fX11_eventNumber_0 fX11_eventNumber_5 fX11_logged fX11_logged_0
  rw [c_holds h4' h2, Option.bind_some, fX10_eventNumber_11, th_e, gi16, tn16, th_2, h5, inR0 (by omega), Option.bind_some, fX11_logged_14]
  by_cases ha : a < 0
  · rw [if_pos ha, if_pos rfl, fX10_eventNumber_39, fX10_eventNumber_40, if_pos rfl, fX11_logged_33, fX11_logged_34, Option.bind_some, fX11_eventNumber_11]
    exact ⟨-1, th M 0, rfl, rfl, r.thr, th_7⟩
  · rw [if_neg ha]
    by_cases q : nI c ≤ a
    · rw [if_pos q, if_pos rfl, fX10_eventNumber_39, fX10_eventNumber_40, if_pos rfl, fX11_logged_33, fX11_logged_34, Option.bind_some, fX11_eventNumber_11]
      exact ⟨-1, th M 0, rfl, rfl, r.thr, th_7⟩
    · obtain ⟨b, hb, e⟩ := nI_of ha
      subst e
      have lt : b < c := Classical.byContradiction fun z => q (nI_le (by omega) (by omega))
      obtain ⟨k1, k2, k3⟩ := h6 b lt
      rw [if_neg q, if_neg one0, fX10_eventNumber_14, c_slot h3' h1 (by omega), Option.bind_some, fX10_eventNumber_35, gi_m (show (nx + 15 - b) % 16 < 16 by omega) (by omega), fX10_eventNumber_40, nI_c (by omega), if_neg one0, fX11_logged_17, show (17 + 3 * nI b + 2 : Int32) = nI (17 + 3 * b + 2) from nI_a 17 3 b 2, gi_m (by omega) (by omega), nI_c (by omega), fX11_logged_34, Option.bind_some, fX11_eventNumber_11, th_2]
      refine ⟨_, th M 0, rfl, ?_, r.thr, th_7⟩
      rw [show M.2 0 (17 + 3 * b + 2) = S.1 (13 + 4 + 3) ((nx + 15 - b) % 16) from ?_]
      have := k3
      rw [show 17 + 3 * b + 2 = 19 + 3 * b by omega]
      exact this.symm
end EVTS
