/-! hours until, save, restore, remember and undo, both sides -/
section UNTIL
variable {S S' : CS} {M M' : MS} {n t k : Nat} {w w' : Wd}
/-- the hours until a cell has a value -/
def untW (c : Nat) (x : Int32) : Nat → Nat → Wd → Int32
  | 0, _, _ => -1
  | r + 1, i, w => if w c = x then nI i else untW c x r (i + 1) (hourW w)
def untE (c : Nat) (x : Int32) : Nat → Wd → Wd
  | 0, w => w
  | r + 1, w => if w c = x then w else untE c x r (hourW w)
theorem r_until_l {c : Nat} {x : Int32} (hc : c < 257) : ∀ r i f (w : Wd), 201 = i + r → r < f → In w → fX11_hoursUntil_6 f (mw M w) (nI c) x (nI i) = some (untW c x r i w, bck (mw M (untE c x r w))) := by
  intro r
  induction r with
  | zero =>
    intro i f w hi hf iw
    obtain ⟨f, rfl⟩ : ∃ g, f = g + 1 := ⟨f - 1, by omega⟩
    rw [fX11_hoursUntil_6]
    dsimp only
    rw [if_pos (show (200 : Int32) < nI i from nI_lt (a := 200) (by omega) (by omega)), fX11_hoursUntil_39, r_back, Option.bind_some, fX11_hoursUntil_44]
    rfl
  | succ r ih =>
    intro i f w hi hf iw
    obtain ⟨f, rfl⟩ : ∃ g, f = g + 1 := ⟨f - 1, by omega⟩
    rw [fX11_hoursUntil_6]
    dsimp only
    rw [if_neg (show ¬ (200 : Int32) < nI i from nI_nlt (a := 200) (by omega) (by omega)), fX11_hoursUntil_13, gi_m hc (by omega), nI_c (by omega), mw_w, untW, untE]
    by_cases q : w c = x
    · rw [if_pos q, if_pos q, if_pos q, fX11_hoursUntil_23, r_back, Option.bind_some, fX11_hoursUntil_28]
    · rw [if_neg q, if_neg q, if_neg q, fX11_hoursUntil_29, r_hour iw.1.1 iw.1.2.1, Option.bind_some, fX11_hoursUntil_33, nI_1, ih (i + 1) f _ (by omega) (by omega) iw.hour]
theorem r_until {c : Nat} {x : Int32} (hc : c < 257) (i : In (M.2 0)) : ∃ v, fX11_hoursUntil (th M 0) (nI c) x = some (untW c x 201 0 (M.2 0), bck (mw (asd (th M 0)) v)) := by
  refine ⟨untE c x 201 (M.2 0), ?_⟩
  unfold fX11_hoursUntil fX11_hoursUntil_0
  rw [r_aside, Option.bind_some, fX11_hoursUntil_4]
  have := r_until_l (M := asd (th M 0)) (x := x) hc 201 0 FU (M.2 0) (by omega) (by rw [FU_eq]; omega) i
  rw [nI_0, show M.2 0 = (asd (th M 0)).2 0 from (asd_0 (M := th M 0)).symm, mw_self] at this
  rw [this, show (asd (th M 0)).2 0 = M.2 0 from asd_0 (M := th M 0)]
theorem c_unt_l : ∀ r i f (S : CS) (w : Wd), 201 = i + r → r < f → GR S 83 w → In w → ∃ S', fX10_hoursUntilUnguarded_13 f S (nI i) = some (untW 5 (-1) r i w, S') ∧ ∀ q, q < 83 ∨ 118 ≤ q → S'.1 q = S.1 q ∧ S'.2 q = S.2 q := by
  intro r
  induction r with
  | zero =>
    intro i f S w hi hf g iw
    obtain ⟨f, rfl⟩ : ∃ g, f = g + 1 := ⟨f - 1, by omega⟩
    rw [fX10_hoursUntilUnguarded_13]
    dsimp only
    rw [if_pos (show (200 : Int32) < nI i from nI_lt (a := 200) (by omega) (by omega)), fX10_hoursUntilUnguarded_46]
    exact ⟨S, rfl, fun q _ => ⟨rfl, rfl⟩⟩
  | succ r ih =>
    intro i f S w hi hf g iw
    obtain ⟨f, rfl⟩ : ∃ g, f = g + 1 := ⟨f - 1, by omega⟩
    rw [fX10_hoursUntilUnguarded_13]
    dsimp only
    rw [if_neg (show ¬ (200 : Int32) < nI i from nI_nlt (a := 200) (by omega) (by omega)), fX10_hoursUntilUnguarded_20, g.hd (f := 8) (q := 5) (by unfold cm; simp) (by omega), untW]
    by_cases q : w 5 = -1
    · rw [if_pos q, if_pos q, fX10_hoursUntilUnguarded_31]
      exact ⟨S, rfl, fun q _ => ⟨rfl, rfl⟩⟩
    · obtain ⟨S1, h1, h2, h3⟩ := c_passO g iw
      rw [if_neg q, if_neg q, fX10_hoursUntilUnguarded_33, h1, Option.bind_some, fX10_hoursUntilUnguarded_40, nI_1]
      obtain ⟨S2, k1, k2⟩ := ih (i + 1) f S1 _ (by omega) (by omega) h2 iw.hour
      exact ⟨S2, k1, fun q hq => ⟨(k2 q hq).1.trans (h3 q (by omega)).1, (k2 q hq).2.trans (h3 q (by omega)).2⟩⟩
theorem q_hoursUntilUnguarded (r : Rel S M) : Bo (fX10_hoursUntilUnguarded S) (fX11_hoursUntilUnguarded M) := by
  obtain ⟨S1, h1, h2, h3⟩ := c_copyFrom (S := S) (t := 83) (b := 13) (by omega) r.1.2 r.1.1
  obtain ⟨S2, k1, k2⟩ := c_unt_l 201 0 FU S1 (M.2 0) (by omega) (by rw [FU_eq]; omega) h2 r.1.2
  obtain ⟨v, hv⟩ := r_until (M := M) (c := 5) (x := -1) (by omega) r.1.2
  obtain ⟨rl, e7⟩ := r.ahead (S' := S2) (v := v) (fun q hq => ⟨(k2 q hq).1.trans (h3 q (by omega)).1, (k2 q hq).2.trans (h3 q (by omega)).2⟩)
  rw [nI_0] at k1
  refine ⟨untW 5 (-1) 201 0 (M.2 0), S2, _, ?_, ?_, rl, e7⟩
  · unfold fX10_hoursUntilUnguarded fX10_hoursUntilUnguarded_0
    rw [h1, Option.bind_some, fX10_hoursUntilUnguarded_11, k1]
  · unfold fX11_hoursUntilUnguarded fX11_hoursUntilUnguarded_0
    rw [th_e, fX11_hoursUntilUnguarded_5, show fX11_hoursUntil (th M 0) 5 (-1) = _ from hv, Option.bind_some, fX11_hoursUntilUnguarded_11]
theorem c_emp_l {k : Nat} (h6 : k < 6) : ∀ r i f (S : CS) (w : Wd), 201 = i + r → r < f → GR S 83 w → In w → k < nS w → ∃ S', fX10_hoursUntilEmpty_19 f S (nI k) (nI i) = some (untW (161 + 12 * k + 7) 0 r i w, S') ∧ ∀ q, q < 83 ∨ 118 ≤ q → S'.1 q = S.1 q ∧ S'.2 q = S.2 q := by
  intro r
  induction r with
  | zero =>
    intro i f S w hi hf g iw hk
    obtain ⟨f, rfl⟩ : ∃ g, f = g + 1 := ⟨f - 1, by omega⟩
    rw [fX10_hoursUntilEmpty_19]
    dsimp only
    rw [if_pos (show (200 : Int32) < nI i from nI_lt (a := 200) (by omega) (by omega)), fX10_hoursUntilEmpty_56]
    exact ⟨S, rfl, fun q _ => ⟨rfl, rfl⟩⟩
  | succ r ih =>
    intro i f S w hi hf g iw hk
    obtain ⟨f, rfl⟩ : ∃ g, f = g + 1 := ⟨f - 1, by omega⟩
    rw [fX10_hoursUntilEmpty_19]
    dsimp only
    rw [if_neg (show ¬ (200 : Int32) < nI i from nI_nlt (a := 200) (by omega) (by omega)), fX10_hoursUntilEmpty_26, gi_m h6 (by omega), nI_c (by omega), show S.1 (83 + 2 + 15 + k) 1 = w (161 + 12 * k + 7) from g.sack (f := 1) hk h6 (by omega) (by omega), untW]
    by_cases q : w (161 + 12 * k + 7) = 0
    · rw [if_pos q, if_pos q, fX10_hoursUntilEmpty_41]
      exact ⟨S, rfl, fun q _ => ⟨rfl, rfl⟩⟩
    · obtain ⟨S1, h1, h2, h3⟩ := c_passO g iw
      have ens : nS (hourW w) = nS w := by unfold nS; rw [hourW_only iw.1.1 iw.1.2.1 1 (by unfold WN; omega)]
      rw [if_neg q, if_neg q, fX10_hoursUntilEmpty_43, h1, Option.bind_some, fX10_hoursUntilEmpty_50, nI_1]
      obtain ⟨S2, k1, k2⟩ := ih (i + 1) f S1 _ (by omega) (by omega) h2 iw.hour (by rw [ens]; exact hk)
      exact ⟨S2, k1, fun q hq => ⟨(k2 q hq).1.trans (h3 q (by omega)).1, (k2 q hq).2.trans (h3 q (by omega)).2⟩⟩
theorem q_hoursUntilEmpty (r : Rel S M) (a : Int32) : Bo (fX10_hoursUntilEmpty S a) (fX11_hoursUntilEmpty M a) ∨ Bt (tX10_hoursUntilEmpty S a) (fX11_hoursUntilEmpty M a) "java/lang/IndexOutOfBoundsException" 1 := by
  rcases s_noSack r.1 a with ⟨k, hk, k8, ea, g1, g2, g3⟩ | ⟨g1, g2⟩
  · left
    obtain ⟨S1, h1, h2, h3⟩ := c_copyFrom (S := S) (t := 83) (b := 13) (by omega) r.1.2 r.1.1
    obtain ⟨S2, k1, k2⟩ := c_emp_l k8 201 0 FU S1 (M.2 0) (by omega) (by rw [FU_eq]; omega) h2 r.1.2 hk
    obtain ⟨v, hv⟩ := r_until (M := M) (c := (161 + 12 * k + 7)) (x := 0) (by omega) r.1.2
    obtain ⟨rl, e7⟩ := r.ahead (S' := S2) (v := v) (fun q hq => ⟨(k2 q hq).1.trans (h3 q (by omega)).1, (k2 q hq).2.trans (h3 q (by omega)).2⟩)
    rw [nI_0] at k1
    refine ⟨untW (161 + 12 * k + 7) 0 201 0 (M.2 0), S2, _, ?_, ?_, rl, e7⟩
    · unfold fX10_hoursUntilEmpty fX10_hoursUntilEmpty_0
      rw [g2, Option.bind_some, fX10_hoursUntilEmpty_5, h1, Option.bind_some, fX10_hoursUntilEmpty_17, ea, k1]
    · unfold fX11_hoursUntilEmpty fX11_hoursUntilEmpty_0
      rw [th_e, fX11_hoursUntilEmpty_5, g1, Option.bind_some]
      dsimp only
      rw [fX11_hoursUntilEmpty_10, if_pos rfl, fX11_hoursUntilEmpty_17, ea, show (161 + 12 * nI k + 7 : Int32) = nI (161 + 12 * k + 7) from nI_a 161 12 k 7, hv, Option.bind_some, fX11_hoursUntilEmpty_33]
  · right
    refine ⟨0, S, th M 1, ?_, ?_, r.thr, th_7⟩
    · unfold tX10_hoursUntilEmpty tX10_hoursUntilEmpty_0
      rw [g2]
    · unfold fX11_hoursUntilEmpty fX11_hoursUntilEmpty_0
      rw [th_e, fX11_hoursUntilEmpty_5, g1, Option.bind_some]
      dsimp only
      rw [fX11_hoursUntilEmpty_10, if_neg one0, fX11_hoursUntilEmpty_13, fX11_hoursUntilEmpty_33]
theorem RP.fr2 (r : RP S M) (ha : S'.1 0 11 = S.1 0 11) (hb : S'.1 0 10 = S.1 0 10) (hp : ∀ q, 153 ≤ q → S'.1 q = S.1 q ∧ S'.2 q = S.2 q) (h5 : M'.1 5 = M.1 5) (h4 : M'.2 4 = M.2 4) : RP S' M' := by
  obtain ⟨u, nx, u8, n8, a, b, c, d⟩ := r
  have e : ∀ k, pW M' k = pW M k := fun k => by unfold pW; rw [h4]
  refine ⟨u, nx, u8, n8, by rw [ha]; exact a, by rw [h5]; exact b, by rw [hb]; exact c, fun k hk => ?_⟩
  rw [e]
  exact ⟨(d k hk).1.fr (d k hk).2 (fun q h1 h2 => hp q (by omega)), (d k hk).2⟩
theorem RT.fr (r : RT S M n) (h1 : S'.1 1 = S.1 1) (h2 : S'.1 2 = S.1 2) (h9 : M'.1 9 = M.1 9) (h10 : M'.1 10 = M.1 10) (h11 : M'.1 11 = M.1 11) (h8 : M'.2 8 = M.2 8) : RT S' M' n := by
  unfold RT
  rw [h1, h2, h9, h10, h11, h8]
  exact r
theorem q_saveState (r : Rel S M) : Bo (fX10_saveState S) (fX11_saveState M) := by
  obtain ⟨S1, h1, h2, h3⟩ := c_copyFrom (S := S) (t := 118) (b := 13) (by omega) r.1.2 r.1.1
  obtain ⟨⟨a, b⟩, ⟨n, rt⟩, c, d, e⟩ := r
  have ew : ∀ q, q < 257 → cpW (M.2 0) 0 (M.2 3) 0 257 q = M.2 0 q := fun q hq => cpW_in hq
  obtain ⟨S2, e2⟩ : ∃ S2 : CS, S2 = (va_up S1.1 0 (upd (S1.1 0) 9 1), S1.2) := ⟨_, rfl⟩
  obtain ⟨M2, m2⟩ : ∃ M2 : MS, M2 = (va_up (th M 0).1 6 1, va_up M.2 3 (cpW (M.2 0) 0 (M.2 3) 0 257)) := ⟨_, rfl⟩
  have p1 : ∀ q, q ≠ 0 → (q < 118 ∨ 153 ≤ q) → S2.1 q = S.1 q ∧ S2.2 q = S.2 q := fun q h0 hq => by
    rw [e2]; dsimp only; rw [vne h0]; exact h3 q (by omega)
  have p0 : ∀ f, f ≠ 9 → S2.1 0 f = S.1 0 f := fun f hf => by
    rw [e2]; dsimp only; rw [vat, pk_un hf, (h3 0 (by omega)).1]
  have i1 : ∀ j, j ≠ 6 → j ≠ 7 → M2.1 j = M.1 j := fun j h6 h7 => by rw [m2]; dsimp only; rw [vne h6, th_o h7]
  have i2 : ∀ j, j ≠ 3 → M2.2 j = M.2 j := fun j h => by rw [m2]; dsimp only; rw [vne h]
  have i3 : M2.2 3 = cpW (M.2 0) 0 (M.2 3) 0 257 := by rw [m2]; dsimp only; rw [vat]
  refine ⟨M.2 0 3, S2, M2, ?_, ?_, ⟨⟨?_, ?_⟩, ⟨n, rt.fr ?_ ?_ ?_ ?_ ?_ ?_⟩, c.fr2 ?_ ?_ ?_ ?_ ?_, Or.inr ⟨?_, ?_, ?_, ?_⟩, e.fr ?_ ?_ ?_ ?_⟩, ?_⟩
  · unfold fX10_saveState fX10_saveState_0
    rw [h1, Option.bind_some, fX10_saveState_11, fX10_saveState_16, ← e2, (p1 13 (by omega) (by omega)).1, a.hd (f := 12) (q := 3) (by unfold cm; simp) (by omega)]
  · unfold fX11_saveState fX11_saveState_0 fX11_saveState_5
    rw [th_e, r_copy (a := 0) (b := 3) (by omega) (by omega) (by omega), Option.bind_some, fX11_saveState_18]
    dsimp only
    rw [th_2, ← m2, fX11_saveState_23, gi3, tn3, i2 0 (by omega)]
  · rw [i2 0 (by omega)]; exact a.fr b (fun q h1 h2 => p1 q (by omega) (by omega))
  · rw [i2 0 (by omega)]; exact b
  · exact (p1 1 (by omega) (by omega)).1
  · exact (p1 2 (by omega) (by omega)).1
  · exact i1 9 (by omega) (by omega)
  · exact i1 10 (by omega) (by omega)
  · exact i1 11 (by omega) (by omega)
  · exact i2 8 (by omega)
  · exact p0 11 (by omega)
  · exact p0 10 (by omega)
  · exact fun q hq => p1 q (by omega) (by omega)
  · exact i1 5 (by omega) (by omega)
  · exact i2 4 (by omega)
  · rw [e2]; dsimp only; rw [vat, pk_us]
  · rw [m2]; dsimp only; rw [vat]
  · rw [i3]
    exact (h2.fr b (fun q h1 h2 => by rw [e2]; dsimp only; rw [vne (by omega)]; exact ⟨rfl, rfl⟩)).cg b ew
  · rw [i3]; exact b.cong ew
  · exact (p1 5 (by omega) (by omega)).1
  · exact (p1 6 (by omega) (by omega)).1
  · exact i1 24 (by omega) (by omega)
  · exact i2 23 (by omega)
  · rw [m2]; dsimp only; rw [vne (by omega), th_7]
theorem q_restoreState (r : Rel S M) : (S.1 0 9 = 1 ∧ Bo (fX10_restoreState S) (fX11_restoreState M)) ∨ (S.1 0 9 = 0 ∧ ∃ M', fX11_restoreState M = some (0, M') ∧ Rel S M' ∧ M'.1 7 = 1) := by
  have rr := r
  obtain ⟨⟨a, b⟩, ⟨n, rt⟩, c, d, e⟩ := r
  rcases d with ⟨d1, d2⟩ | ⟨d1, d2, d3, d4⟩
  · right
    refine ⟨d1, th M 1, ?_, rr.thr, th_7⟩
    unfold fX11_restoreState fX11_restoreState_0 fX11_restoreState_5
    rw [th_e, th_o (by omega), if_pos d2, fX11_restoreState_13, fX11_restoreState_18, r_fails1, Option.bind_some, th_th]
    dsimp only
    rw [fX11_restoreState_22, if_neg one0, fX11_restoreState_25]
  · left
    refine ⟨d1, ?_⟩
    obtain ⟨S1, h1, h2, h3⟩ := c_copyFrom (S := S) (t := 13) (b := 118) (by omega) d4 d3
    have ew : ∀ q, q < 257 → cpW (M.2 3) 0 (M.2 0) 0 257 q = M.2 3 q := fun q hq => cpW_in hq
    obtain ⟨S2, e2⟩ : ∃ S2 : CS, S2 = (va_up S1.1 0 (upd (S1.1 0) 11 0), S1.2) := ⟨_, rfl⟩
    obtain ⟨M2, m2⟩ : ∃ M2 : MS, M2 = (va_up (th M 0).1 5 0, va_up M.2 0 (cpW (M.2 3) 0 (M.2 0) 0 257)) := ⟨_, rfl⟩
    have p1 : ∀ q, q ≠ 0 → (q < 13 ∨ 48 ≤ q) → S2.1 q = S.1 q ∧ S2.2 q = S.2 q := fun q h0 hq => by
      rw [e2]; dsimp only; rw [vne h0]; exact h3 q (by omega)
    have p0 : ∀ f, f ≠ 11 → S2.1 0 f = S.1 0 f := fun f hf => by
      rw [e2]; dsimp only; rw [vat, pk_un hf, (h3 0 (by omega)).1]
    have i1 : ∀ j, j ≠ 5 → j ≠ 7 → M2.1 j = M.1 j := fun j h6 h7 => by rw [m2]; dsimp only; rw [vne h6, th_o h7]
    have i2 : ∀ j, j ≠ 0 → M2.2 j = M.2 j := fun j h => by rw [m2]; dsimp only; rw [vne h]
    have i3 : M2.2 0 = cpW (M.2 3) 0 (M.2 0) 0 257 := by rw [m2]; dsimp only; rw [vat]
    have g13 : GR S2 13 (M.2 3) := h2.fr d4 (fun q h1 h2 => by rw [e2]; dsimp only; rw [vne (by omega)]; exact ⟨rfl, rfl⟩)
    refine ⟨M.2 3 3, S2, M2, ?_, ?_, ⟨⟨?_, ?_⟩, ⟨n, rt.fr ?_ ?_ ?_ ?_ ?_ ?_⟩, ?_, Or.inr ⟨?_, ?_, ?_, ?_⟩, e.fr ?_ ?_ ?_ ?_⟩, ?_⟩
    · unfold fX10_restoreState fX10_restoreState_0
      rw [if_neg (by rw [d1]; decide), fX10_restoreState_18, h1, Option.bind_some, fX10_restoreState_29, fX10_restoreState_34, ← e2, g13.hd (f := 12) (q := 3) (by unfold cm; simp) (by omega)]
    · unfold fX11_restoreState fX11_restoreState_0 fX11_restoreState_5
      rw [th_e, th_o (by omega), if_neg (by rw [d2]; decide), fX11_restoreState_17, fX11_restoreState_18, r_fails0, Option.bind_some]
      dsimp only
      rw [fX11_restoreState_22, if_pos rfl, fX11_restoreState_27, r_copy (a := 3) (b := 0) (by omega) (by omega) (by omega), Option.bind_some, fX11_restoreState_40]
      dsimp only
      rw [th_2, ← m2, fX11_restoreState_45, gi3, tn3, i3, ew 3 (by omega)]
    · rw [i3]; exact g13.cg d4 ew
    · rw [i3]; exact d4.cong ew
    · exact (p1 1 (by omega) (by omega)).1
    · exact (p1 2 (by omega) (by omega)).1
    · exact i1 9 (by omega) (by omega)
    · exact i1 10 (by omega) (by omega)
    · exact i1 11 (by omega) (by omega)
    · exact i2 8 (by omega)
    · obtain ⟨u, nx, u8, n8, c1, c2, c3, c4⟩ := c
      refine ⟨0, nx, by omega, n8, ?_, ?_, by rw [p0 10 (by omega)]; exact c3, fun k hk => absurd hk (by omega)⟩
      · rw [e2]; dsimp only; rw [vat, pk_us, nI_0]
      · rw [m2]; dsimp only; rw [vat, nI_0]
    · rw [p0 9 (by omega)]; exact d1
    · rw [i1 6 (by omega) (by omega)]; exact d2
    · rw [i2 3 (by omega)]; exact d3.fr d4 (fun q h1 h2 => p1 q (by omega) (by omega))
    · rw [i2 3 (by omega)]; exact d4
    · exact (p1 5 (by omega) (by omega)).1
    · exact (p1 6 (by omega) (by omega)).1
    · exact i1 24 (by omega) (by omega)
    · exact i2 23 (by omega)
    · rw [m2]; dsimp only; rw [vne (by omega), th_7]
end UNTIL
