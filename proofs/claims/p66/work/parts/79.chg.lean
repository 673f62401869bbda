/-! the calls that change a granary, both sides -/
section CHG
variable {S S1 S2 S' : CS} {M M' : MS} {n t k : Nat} {w w' : Wd}
theorem c_change {kd s x v : Int32} (ha : fX2_allows S 13 kd s x = some 1) (hr : fX10_remember S = some S1) (hp : fX2_apply S1 13 kd s x = some (v, S2)) : fX10_change S kd s x = some (v, S2) := by
  unfold fX10_change fX10_change_0
  rw [ha, Option.bind_some, fX10_change_10, if_neg one0, fX10_change_24, hr, Option.bind_some, fX10_change_28, hp, Option.bind_some, fX10_change_38]
theorem t_change {kd s x : Int32} (ha : fX2_allows S 13 kd s x = some 0) : tX10_change S kd s x = some ("java/lang/IllegalStateException", S) := by
  unfold tX10_change tX10_change_0
  rw [ha, Option.bind_some, tX10_change_10, if_pos rfl, tX10_change_13]
theorem ap0 {s x : Int32} : fX2_apply S t 0 s x = fX2_apply_40 t S x := by
  unfold fX2_apply fX2_apply_0
  rw [if_pos rfl]
theorem al0 {s x : Int32} : fX2_allows S t 0 s x = bq (fX2_allows_40 t S x) := by
  unfold fX2_allows fX2_allows_0
  rw [if_pos rfl]
theorem ap1 {s x : Int32} : fX2_apply S t 1 s x = fX2_apply_46 t S s := by
  unfold fX2_apply fX2_apply_0
  rw [if_neg (show ¬ (1 : Int32) = 0 by decide), if_pos rfl]
theorem al1 {s x : Int32} : fX2_allows S t 1 s x = bq (fX2_allows_58 t S s) := by
  unfold fX2_allows fX2_allows_0
  rw [if_neg (show ¬ (1 : Int32) = 0 by decide), if_pos rfl]
theorem ap2 {s x : Int32} : fX2_apply S t 2 s x = fX2_apply_61 t S s := by
  unfold fX2_apply fX2_apply_0
  rw [if_neg (show ¬ (2 : Int32) = 0 by decide), if_neg (show ¬ (2 : Int32) = 1 by decide), if_pos rfl]
theorem al2 {s x : Int32} : fX2_allows S t 2 s x = bq (fX2_allows_76 t S s) := by
  unfold fX2_allows fX2_allows_0
  rw [if_neg (show ¬ (2 : Int32) = 0 by decide), if_neg (show ¬ (2 : Int32) = 1 by decide), if_pos rfl]
theorem ap3 {s x : Int32} : fX2_apply S t 3 s x = fX2_apply_76 t S s x := by
  unfold fX2_apply fX2_apply_0
  rw [if_neg (show ¬ (3 : Int32) = 0 by decide), if_neg (show ¬ (3 : Int32) = 1 by decide), if_neg (show ¬ (3 : Int32) = 2 by decide), if_pos rfl]
theorem al3 {s x : Int32} : fX2_allows S t 3 s x = bq (fX2_allows_86 t S s x) := by
  unfold fX2_allows fX2_allows_0
  rw [if_neg (show ¬ (3 : Int32) = 0 by decide), if_neg (show ¬ (3 : Int32) = 1 by decide), if_neg (show ¬ (3 : Int32) = 2 by decide), if_pos rfl]
theorem ap4 {s x : Int32} : fX2_apply S t 4 s x = fX2_apply_114 t S s x := by
  unfold fX2_apply fX2_apply_0
  rw [if_neg (show ¬ (4 : Int32) = 0 by decide), if_neg (show ¬ (4 : Int32) = 1 by decide), if_neg (show ¬ (4 : Int32) = 2 by decide), if_neg (show ¬ (4 : Int32) = 3 by decide), if_pos rfl]
theorem al4 {s x : Int32} : fX2_allows S t 4 s x = bq (fX2_allows_108 t S s x) := by
  unfold fX2_allows fX2_allows_0
  rw [if_neg (show ¬ (4 : Int32) = 0 by decide), if_neg (show ¬ (4 : Int32) = 1 by decide), if_neg (show ¬ (4 : Int32) = 2 by decide), if_neg (show ¬ (4 : Int32) = 3 by decide), if_pos rfl]
theorem ap5 {s x : Int32} : fX2_apply S t 5 s x = fX2_apply_152 t S := by
  unfold fX2_apply fX2_apply_0
  rw [if_neg (show ¬ (5 : Int32) = 0 by decide), if_neg (show ¬ (5 : Int32) = 1 by decide), if_neg (show ¬ (5 : Int32) = 2 by decide), if_neg (show ¬ (5 : Int32) = 3 by decide), if_neg (show ¬ (5 : Int32) = 4 by decide), if_pos rfl]
theorem al5 {s x : Int32} : fX2_allows S t 5 s x = bq (fX2_allows_131 t S) := by
  unfold fX2_allows fX2_allows_0
  rw [if_neg (show ¬ (5 : Int32) = 0 by decide), if_neg (show ¬ (5 : Int32) = 1 by decide), if_neg (show ¬ (5 : Int32) = 2 by decide), if_neg (show ¬ (5 : Int32) = 3 by decide), if_neg (show ¬ (5 : Int32) = 4 by decide), if_pos rfl]
theorem ap6 {s x : Int32} : fX2_apply S t 6 s x = fX2_apply_166 t S x := by
  unfold fX2_apply fX2_apply_0
  rw [if_neg (show ¬ (6 : Int32) = 0 by decide), if_neg (show ¬ (6 : Int32) = 1 by decide), if_neg (show ¬ (6 : Int32) = 2 by decide), if_neg (show ¬ (6 : Int32) = 3 by decide), if_neg (show ¬ (6 : Int32) = 4 by decide), if_neg (show ¬ (6 : Int32) = 5 by decide)]
theorem al6 {s x : Int32} : fX2_allows S t 6 s x = bq (fX2_allows_145 t S) := by
  unfold fX2_allows fX2_allows_0
  rw [if_neg (show ¬ (6 : Int32) = 0 by decide), if_neg (show ¬ (6 : Int32) = 1 by decide), if_neg (show ¬ (6 : Int32) = 2 by decide), if_neg (show ¬ (6 : Int32) = 3 by decide), if_neg (show ¬ (6 : Int32) = 4 by decide), if_neg (show ¬ (6 : Int32) = 5 by decide)]
theorem q_openFlap (r : Rel S M) (a : Int32) : Bo (fX10_openFlap S a) (fX11_openFlap M a) ∨ Bt (tX10_openFlap S a) (fX11_openFlap M a) "java/lang/IndexOutOfBoundsException" 1 ∨ Bt (tX10_openFlap S a) (fX11_openFlap M a) "java/lang/IllegalStateException" 2 := by
  rcases s_noSack r.1 a with ⟨k, hk, k8, ea, h1, h2, h3⟩ | ⟨h1, h2⟩
  · have pw := r.1.2.1.2.2.1 k hk
    have fl : S.1 (13 + 2 + 15 + k) 3 = M.2 0 (161 + 12 * k + 9) := r.1.1.sack (f := 3) hk k8 (by omega) (by omega)
    rcases Or.symm pw.symm with z | z
    · left
      obtain ⟨S1, M1, m1, m2, m3, m4, m5⟩ := s_remember (r.thr (v := 0))
      obtain ⟨S', w', o1, o2, o3, o4, o5, o6⟩ := o_flap (S := S1) (M := M1) (v := 1) m3.1.1 m3.1.2 (by rw [m5]; exact hk) k8 (by decide)
      refine ⟨sumK 9 w', S', mw M1 w', ?_, ?_, m3.now o3 o2 o1, m4.trans th_7⟩
      · have al : fX2_allows S 13 1 (nI k) 0 = some 1 := by
          rw [al1, fX2_allows_58, gi_m (show k < 6 by omega) (by omega), nI_c (by omega), fl, if_pos z, fX2_allows_70, fX2_allows_75]
          rfl
        have ap : fX2_apply S1 13 1 (nI k) 0 = some (sumK 9 w', S') := by
          rw [ap1, fX2_apply_46, gi_m (show k < 6 by omega) (by omega), nI_c (by omega), ← o4, fX2_apply_56, o5, Option.bind_some, fX2_apply_60]
        unfold fX10_openFlap fX10_openFlap_0
        rw [h2, Option.bind_some, fX10_openFlap_5, ea, c_change al m1 ap, Option.bind_some, fX10_openFlap_13]
      · unfold fX11_openFlap fX11_openFlap_0
        rw [th_e, fX11_openFlap_5, h1, Option.bind_some]
        dsimp only
        rw [fX11_openFlap_10, if_pos rfl, fX11_openFlap_13, ea, rOpen (M := th M 0) k8 (by rw [th_2]; exact pw), Option.bind_some, fX11_openFlap_19, th_2, z, r_fails0, Option.bind_some]
        dsimp only
        rw [fX11_openFlap_23, if_pos rfl, fX11_openFlap_28, m2, Option.bind_some, fX11_openFlap_32, o6, Option.bind_some, fX11_openFlap_38]
    · right; right
      refine ⟨0, S, th M 2, ?_, ?_, r.thr, th_7⟩
      · have al : fX2_allows S 13 1 (nI k) 0 = some 0 := by
          rw [al1, fX2_allows_58, gi_m (show k < 6 by omega) (by omega), nI_c (by omega), fl, if_neg (by rw [z]; decide), fX2_allows_74, fX2_allows_75]
          rfl
        unfold tX10_openFlap tX10_openFlap_0
        rw [h3]
        dsimp only
        rw [h2, Option.bind_some, tX10_openFlap_5, ea, t_change al]
      · unfold fX11_openFlap fX11_openFlap_0
        rw [th_e, fX11_openFlap_5, h1, Option.bind_some]
        dsimp only
        rw [fX11_openFlap_10, if_pos rfl, fX11_openFlap_13, ea, rOpen (M := th M 0) k8 (by rw [th_2]; exact pw), Option.bind_some, fX11_openFlap_19, th_2, z, r_fails1, Option.bind_some, th_th]
        dsimp only
        rw [fX11_openFlap_23, if_neg one0, fX11_openFlap_26]
  · right; left
    refine ⟨0, S, th M 1, ?_, ?_, r.thr, th_7⟩
    · unfold tX10_openFlap tX10_openFlap_0
      rw [h2]
    · unfold fX11_openFlap fX11_openFlap_0
      rw [th_e, fX11_openFlap_5, h1, Option.bind_some]
      dsimp only
      rw [fX11_openFlap_10, if_neg one0, fX11_openFlap_26]
theorem q_shutFlap (r : Rel S M) (a : Int32) : Bo (fX10_shutFlap S a) (fX11_shutFlap M a) ∨ Bt (tX10_shutFlap S a) (fX11_shutFlap M a) "java/lang/IndexOutOfBoundsException" 1 ∨ Bt (tX10_shutFlap S a) (fX11_shutFlap M a) "java/lang/IllegalStateException" 2 := by
  rcases s_noSack r.1 a with ⟨k, hk, k8, ea, h1, h2, h3⟩ | ⟨h1, h2⟩
  · have pw := r.1.2.1.2.2.1 k hk
    have fl : S.1 (13 + 2 + 15 + k) 3 = M.2 0 (161 + 12 * k + 9) := r.1.1.sack (f := 3) hk k8 (by omega) (by omega)
    rcases pw.symm with z | z
    · left
      obtain ⟨S1, M1, m1, m2, m3, m4, m5⟩ := s_remember (r.thr (v := 0))
      obtain ⟨S', w', o1, o2, o3, o4, o5, o6⟩ := o_flap (S := S1) (M := M1) (v := 0) m3.1.1 m3.1.2 (by rw [m5]; exact hk) k8 (by decide)
      refine ⟨sumK 9 w', S', mw M1 w', ?_, ?_, m3.now o3 o2 o1, m4.trans th_7⟩
      · have al : fX2_allows S 13 2 (nI k) 0 = some 1 := by
          rw [al2, fX2_allows_76, gi_m (show k < 6 by omega) (by omega), nI_c (by omega), fl, z]
          rfl
        have ap : fX2_apply S1 13 2 (nI k) 0 = some (sumK 9 w', S') := by
          rw [ap2, fX2_apply_61, gi_m (show k < 6 by omega) (by omega), nI_c (by omega), ← o4, fX2_apply_71, o5, Option.bind_some, fX2_apply_75]
        unfold fX10_shutFlap fX10_shutFlap_0
        rw [h2, Option.bind_some, fX10_shutFlap_5, ea, c_change al m1 ap, Option.bind_some, fX10_shutFlap_13]
      · unfold fX11_shutFlap fX11_shutFlap_0
        rw [th_e, fX11_shutFlap_5, h1, Option.bind_some]
        dsimp only
        rw [fX11_shutFlap_10, if_pos rfl, fX11_shutFlap_13, ea, rOpen (M := th M 0) k8 (by rw [th_2]; exact pw), Option.bind_some, fX11_shutFlap_19, th_2, z, if_neg one0, fX11_shutFlap_26, fX11_shutFlap_27, r_fails0, Option.bind_some]
        dsimp only
        rw [fX11_shutFlap_31, if_pos rfl, fX11_shutFlap_36, m2, Option.bind_some, fX11_shutFlap_40, o6, Option.bind_some, fX11_shutFlap_46]
    · right; right
      refine ⟨0, S, th M 2, ?_, ?_, r.thr, th_7⟩
      · have al : fX2_allows S 13 2 (nI k) 0 = some 0 := by
          rw [al2, fX2_allows_76, gi_m (show k < 6 by omega) (by omega), nI_c (by omega), fl, z]
          rfl
        unfold tX10_shutFlap tX10_shutFlap_0
        rw [h3]
        dsimp only
        rw [h2, Option.bind_some, tX10_shutFlap_5, ea, t_change al]
      · unfold fX11_shutFlap fX11_shutFlap_0
        rw [th_e, fX11_shutFlap_5, h1, Option.bind_some]
        dsimp only
        rw [fX11_shutFlap_10, if_pos rfl, fX11_shutFlap_13, ea, rOpen (M := th M 0) k8 (by rw [th_2]; exact pw), Option.bind_some, fX11_shutFlap_19, th_2, z, if_pos rfl, fX11_shutFlap_22, fX11_shutFlap_27, r_fails1, Option.bind_some, th_th]
        dsimp only
        rw [fX11_shutFlap_31, if_neg one0, fX11_shutFlap_34]
  · right; left
    refine ⟨0, S, th M 1, ?_, ?_, r.thr, th_7⟩
    · unfold tX10_shutFlap tX10_shutFlap_0
      rw [h2]
    · unfold fX11_shutFlap fX11_shutFlap_0
      rw [th_e, fX11_shutFlap_5, h1, Option.bind_some]
      dsimp only
      rw [fX11_shutFlap_10, if_neg one0, fX11_shutFlap_34]
theorem q_letPass (r : Rel S M) (a : Int32) : Bo (fX10_letPass S a) (fX11_letPass M a) ∨ Bt (tX10_letPass S a) (fX11_letPass M a) "java/lang/IllegalArgumentException" 1 ∨ Bt (tX10_letPass S a) (fX11_letPass M a) "java/lang/IllegalStateException" 2 := by
  have cl : S.1 13 12 = M.2 0 3 := r.1.1.hd (f := 12) (q := 3) (by unfold cm; simp) (by omega)
  rcases s_rng (S := S) (M := th M 0) (lo := 1) (hi := 99) (a := a) with ⟨h1, h2, h3, h4⟩ | ⟨h1, h2, h3⟩
  · obtain ⟨H, -, hH, ea⟩ := rg_nat (a := 1) (b := 99) (by omega) (by omega) h1
    by_cases z : M.2 0 3 + a ≤ 9999
    · left
      obtain ⟨S1, M1, m1, m2, m3, m4, m5⟩ := s_remember (r.thr (v := 0))
      obtain ⟨S', o1, o2, o3⟩ := c_passH (S := S1) (t := 13) (H := H) (by omega) m3.1.1 m3.1.2
      refine ⟨hoursW H (M1.2 0) 8 - M1.2 0 8, S', mw M1 (hoursW H (M1.2 0)), ?_, ?_, m3.now (fun q hq => o3 q (by omega)) o2 m3.1.2.hours, m4.trans th_7⟩
      · have al : fX2_allows S 13 0 (-1) a = some 1 := by
          rw [al0, fX2_allows_40, cl, if_neg (lt_le.mpr z), fX2_allows_52, fX2_allows_57]
          rfl
        have ap : fX2_apply S1 13 0 (-1) a = some (hoursW H (M1.2 0) 8 - M1.2 0 8, S') := by
          rw [ap0, fX2_apply_40, ea, o1, Option.bind_some, fX2_apply_45]
        unfold fX10_letPass fX10_letPass_0
        rw [h3, Option.bind_some, fX10_letPass_7, c_change al m1 ap, Option.bind_some, fX10_letPass_14]
      · unfold fX11_letPass fX11_letPass_0
        rw [th_e, fX11_letPass_5, h2, Option.bind_some, fX11_letPass_13, if_neg one0, fX11_letPass_20, fX11_letPass_21, r_fails0, Option.bind_some]
        dsimp only
        rw [fX11_letPass_25, if_pos rfl, fX11_letPass_28, gi3, tn3, th_2, if_pos z, fX11_letPass_47, fX11_letPass_48, r_fails0, Option.bind_some]
        dsimp only
        rw [fX11_letPass_52, if_pos rfl, fX11_letPass_57, m2, Option.bind_some, fX11_letPass_61, ea, r_pass (by omega) m3.1.2, Option.bind_some, fX11_letPass_66]
    · right; right
      refine ⟨0, S, th M 2, ?_, ?_, r.thr, th_7⟩
      · have al : fX2_allows S 13 0 (-1) a = some 0 := by
          rw [al0, fX2_allows_40, cl, if_pos (Classical.byContradiction fun y => z (lt_le.mp y)), fX2_allows_56, fX2_allows_57]
          rfl
        unfold tX10_letPass tX10_letPass_0
        rw [h4]
        dsimp only
        rw [h3, Option.bind_some, tX10_letPass_7, t_change al]
      · unfold fX11_letPass fX11_letPass_0
        rw [th_e, fX11_letPass_5, h2, Option.bind_some, fX11_letPass_13, if_neg one0, fX11_letPass_20, fX11_letPass_21, r_fails0, Option.bind_some]
        dsimp only
        rw [fX11_letPass_25, if_pos rfl, fX11_letPass_28, gi3, tn3, th_2, if_neg z, fX11_letPass_43, fX11_letPass_48, r_fails1, Option.bind_some, th_th]
        dsimp only
        rw [fX11_letPass_52, if_neg one0, fX11_letPass_55]
  · right; left
    refine ⟨0, S, th M 1, ?_, ?_, r.thr, th_7⟩
    · unfold tX10_letPass tX10_letPass_0
      rw [h3]
    · unfold fX11_letPass fX11_letPass_0
      rw [th_e, fX11_letPass_5, h2, Option.bind_some, fX11_letPass_13, if_pos rfl, fX11_letPass_16, fX11_letPass_21, r_fails1, Option.bind_some, th_th]
      dsimp only
      rw [fX11_letPass_25, if_neg one0, fX11_letPass_55]
/-- a header cell -/
theorem o_sets {f q : Nat} {v : Int32} {qq : Int32} (eq : qq = nI q) (g : GR S 13 (M.2 0)) (i : In (M.2 0)) (hq : q = 4 ∧ f = 11 ∨ q = 5 ∧ f = 8) (h5 : q = 5 → v = -1) (h4 : q = 4 → ∃ m, m ≤ 9 ∧ v = nI m) : ∃ w', In w' ∧ GR (va_up S.1 13 (upd (S.1 13) f v), S.2) 13 w' ∧ S.1 13 f = M.2 0 q ∧ fX11_sets M qq v = some (M.2 0 q, mw M w') := by
  have hcm : cm (nC (M.2 0)) (nS (M.2 0)) (nH (M.2 0)) 0 f = q := by
    rcases hq with ⟨h1, h2⟩ | ⟨h1, h2⟩ <;> (subst h1; subst h2; unfold cm; simp)
  refine ⟨upd (M.2 0) q v, i.up (by omega) (by omega) (by omega) (by omega) h5 h4 (fun j hj => by omega) (fun j hj hq => by omega) (fun j hj hq => by omega) (fun j hj hq => by omega), g.setH i hcm (by omega) (by omega), g.hd hcm (by omega), ?_⟩
  unfold fX11_sets fX11_sets_0
  rw [eq, gi_m (by omega) (by omega), gi_m (by omega) (by omega), nI_c (by omega), fX11_sets_14]
  rfl
theorem q_dismiss (r : Rel S M) : Bo (fX10_dismiss S) (fX11_dismiss M) ∨ Bt (tX10_dismiss S) (fX11_dismiss M) "java/lang/IllegalStateException" 1 := by
  have e8 : S.1 13 8 = M.2 0 5 := r.1.1.hd (f := 8) (q := 5) (by unfold cm; simp) (by omega)
  by_cases z : M.2 0 5 = -1
  · right
    refine ⟨0, S, th M 1, ?_, ?_, r.thr, th_7⟩
    · have al : fX2_allows S 13 5 (-1) 0 = some 0 := by
        rw [al5, fX2_allows_131, e8, if_pos z, fX2_allows_143, fX2_allows_144]
        rfl
      unfold tX10_dismiss tX10_dismiss_0
      rw [t_change al]
    · unfold fX11_dismiss fX11_dismiss_0 fX11_dismiss_5
      rw [th_e, gi5, tn5, th_2, if_pos z, fX11_dismiss_16, fX11_dismiss_21, r_fails1, Option.bind_some, th_th]
      dsimp only
      rw [fX11_dismiss_25, if_neg one0, fX11_dismiss_28]
  · left
    obtain ⟨S1, M1, m1, m2, m3, m4, m5⟩ := s_remember (r.thr (v := 0))
    obtain ⟨w', o1, o2, o3, o4⟩ := o_sets (S := S1) (M := M1) (q := 5) (qq := 5) (f := 8) (v := -1) rfl m3.1.1 m3.1.2 (Or.inr ⟨rfl, rfl⟩) (fun _ => rfl) (fun y => absurd y (by omega))
    refine ⟨M1.2 0 5, _, mw M1 w', ?_, ?_, m3.now (va_out (q := 13) (p := 13) (by omega)) o2 o1, m4.trans th_7⟩
    · have al : fX2_allows S 13 5 (-1) 0 = some 1 := by
        rw [al5, fX2_allows_131, e8, if_neg z, fX2_allows_139, fX2_allows_144]
        rfl
      have ap : fX2_apply S1 13 5 (-1) 0 = some (M1.2 0 5, (va_up S1.1 13 (upd (S1.1 13) 8 (-1)), S1.2)) := by
        rw [ap5, fX2_apply_152, o3, fX2_apply_163]
      unfold fX10_dismiss fX10_dismiss_0
      rw [c_change al m1 ap, Option.bind_some, fX10_dismiss_7]
    · unfold fX11_dismiss fX11_dismiss_0 fX11_dismiss_5
      rw [th_e, gi5, tn5, th_2, if_neg z, fX11_dismiss_20, fX11_dismiss_21, r_fails0, Option.bind_some]
      dsimp only
      rw [fX11_dismiss_25, if_pos rfl, fX11_dismiss_30, m2, Option.bind_some, fX11_dismiss_34, o4, Option.bind_some, fX11_dismiss_40]
theorem q_setMilk (r : Rel S M) (a : Int32) : Bo (fX10_setMilk S a) (fX11_setMilk M a) ∨ Bt (tX10_setMilk S a) (fX11_setMilk M a) "java/lang/IllegalArgumentException" 1 := by
  rcases s_rng (S := S) (M := th M 0) (lo := 0) (hi := 9) (a := a) with ⟨h1, h2, h3, h4⟩ | ⟨h1, h2, h3⟩
  · left
    obtain ⟨m, -, hm, ea⟩ := rg_nat (a := 0) (b := 9) (by omega) (by omega) h1
    obtain ⟨S1, M1, m1, m2, m3, m4, m5⟩ := s_remember (r.thr (v := 0))
    obtain ⟨w', o1, o2, o3, o4⟩ := o_sets (S := S1) (M := M1) (q := 4) (qq := 4) (f := 11) (v := a) rfl m3.1.1 m3.1.2 (Or.inl ⟨rfl, rfl⟩) (fun y => absurd y (by omega)) (fun _ => ⟨m, hm, ea⟩)
    refine ⟨M1.2 0 4, _, mw M1 w', ?_, ?_, m3.now (va_out (q := 13) (p := 13) (by omega)) o2 o1, m4.trans th_7⟩
    · have al : fX2_allows S 13 6 (-1) a = some 1 := by
        rw [al6, fX2_allows_145]
        rfl
      have ap : fX2_apply S1 13 6 (-1) a = some (M1.2 0 4, (va_up S1.1 13 (upd (S1.1 13) 11 a), S1.2)) := by
        rw [ap6, fX2_apply_166, o3, fX2_apply_177]
      unfold fX10_setMilk fX10_setMilk_0
      rw [h3, Option.bind_some, fX10_setMilk_7, c_change al m1 ap, Option.bind_some, fX10_setMilk_15]
    · unfold fX11_setMilk fX11_setMilk_0
      rw [th_e, fX11_setMilk_5, h2, Option.bind_some, fX11_setMilk_13, if_neg one0, fX11_setMilk_20, fX11_setMilk_21, r_fails0, Option.bind_some]
      dsimp only
      rw [fX11_setMilk_25, if_pos rfl, fX11_setMilk_30, m2, Option.bind_some, fX11_setMilk_34, o4, Option.bind_some, fX11_setMilk_40]
  · right
    refine ⟨0, S, th M 1, ?_, ?_, r.thr, th_7⟩
    · unfold tX10_setMilk tX10_setMilk_0
      rw [h3]
    · unfold fX11_setMilk fX11_setMilk_0
      rw [th_e, fX11_setMilk_5, h2, Option.bind_some, fX11_setMilk_13, if_pos rfl, fX11_setMilk_16, fX11_setMilk_21, r_fails1, Option.bind_some, th_th]
      dsimp only
      rw [fX11_setMilk_25, if_neg one0, fX11_setMilk_28]
end CHG
