/-! mice and grain added, both sides -/
section ADDM
variable {S S1 S2 S' : CS} {M M' : MS} {n t k : Nat} {w w' : Wd}
theorem o_addMice {m : Nat} {x : Int32} (g : GR S 13 (M.2 0)) (i : In (M.2 0)) (hk : k < nS (M.2 0)) (h6 : k < 6) (hm : m ≤ 99) (e : M.2 0 (161 + 12 * k + 8) + x = nI m) : ∃ S' w', In w' ∧ GR S' 13 w' ∧ (∀ q, q < 13 ∨ 48 ≤ q → S'.1 q = S.1 q ∧ S'.2 q = S.2 q) ∧ fX2_apply S 13 3 (nI k) x = some (nI m, S') ∧ fX11_addsMice M (nI k) x = some (nI m, mw M w') ∧ nS w' = nS (M.2 0) := by
  have i1 : In (upd (M.2 0) (161 + 12 * k + 8) (nI m)) := i.up (by omega) (by omega) (by omega) (by omega) (fun z => by omega) (fun z => by omega) (fun j hj => by omega) (fun j hj hq => by omega) (fun j hj hq => by first | omega | exact ⟨m, hm, rfl⟩) (fun j hj hq => by first | omega | exact ⟨m, hm, rfl⟩)
  have g1 := g.setS (f := 2) (v := nI m) i hk h6 (by omega) (by omega)
  obtain ⟨T, eT⟩ : ∃ T : CS, T = (va_up S.1 (13 + 2 + 15 + k) (upd (S.1 (13 + 2 + 15 + k)) 2 (nI m)), S.2) := ⟨_, rfl⟩
  rw [← eT] at g1
  obtain ⟨W, eW⟩ : ∃ W : Wd, W = upd (M.2 0) (161 + 12 * k + 8) (nI m) := ⟨_, rfl⟩
  rw [show (161 + 12 * k + (2 + 6)) = (161 + 12 * k + 8) from rfl, ← eW] at g1
  rw [← eW] at i1
  have i2 : In (upd W 14 (W 14 + x)) := i1.up (by omega) (by omega) (by omega) (by omega) (fun z => by omega) (fun z => by omega) (fun j hj => by omega) (fun j hj hq => by omega) (fun j hj hq => by omega) (fun j hj hq => by omega)
  have g2 := g1.setT (f := 6) (v := W 14 + x) i1 (by omega)
  have eS : S.1 (13 + 2 + 15 + k) 2 = M.2 0 (161 + 12 * k + 8) := g.sack (f := 2) hk h6 (by omega) (by omega)
  have eTt : T.1 (13 + 8) 6 = W 14 := g1.tot (f := 6) (by omega)
  have fr : ∀ q, q < 13 ∨ 48 ≤ q → ((va_up T.1 (13 + 8) (upd (T.1 (13 + 8)) 6 (W 14 + x)), T.2) : CS).1 q = S.1 q ∧ ((va_up T.1 (13 + 8) (upd (T.1 (13 + 8)) 6 (W 14 + x)), T.2) : CS).2 q = S.2 q := fun q hq => by
    dsimp only
    rw [vne (by omega), eT]
    dsimp only
    rw [vne (by omega)]
    exact ⟨rfl, rfl⟩
  have eWk : W (161 + 12 * k + 8) = nI m := by rw [eW, pk_us]
  refine ⟨_, _, i2, g2, fr, ?_, ?_, ?_⟩
  · rw [ap3, fX2_apply_76, gi_m (show k < 6 by omega) (by omega), nI_c (by omega), eS, e, ← eT, fX2_apply_91, eTt, fX2_apply_104, gi_m (show k < 6 by omega) (by omega), nI_c (by omega)]
    dsimp only
    rw [vne (by omega), eT]
    dsimp only
    rw [vat, pk_us]
  · have p := ps8 (M := M) (w := M.2 0) (k := k) (v := nI m) h6
    rw [mw_self] at p
    unfold fX11_addsMice fX11_addsMice_0
    rw [rS (f := 8) (ff := 8) rfl h6 (by omega), Option.bind_some, fX11_addsMice_11, e, p, Option.bind_some, ← eW, fX11_addsMice_16, gi14, gi14, tn14, mw_w, mw_up, fX11_addsMice_27, rS (f := 8) (ff := 8) rfl h6 (by omega), Option.bind_some, fX11_addsMice_34, mw_w, pk_un (by omega), eWk]
  · unfold nS; rw [pk_un (by omega), eW, pk_un (by omega)]
theorem q_addMice (r : Rel S M) (a x : Int32) : Bo (fX10_addMice S a x) (fX11_addMice M a x) ∨ Bt (tX10_addMice S a x) (fX11_addMice M a x) "java/lang/IndexOutOfBoundsException" 1 ∨ Bt (tX10_addMice S a x) (fX11_addMice M a x) "java/lang/IllegalArgumentException" 2 ∨ Bt (tX10_addMice S a x) (fX11_addMice M a x) "java/lang/IllegalStateException" 3 := by
  rcases s_noSack r.1 a with ⟨k, hk, k8, ea, h1, h2, h3⟩ | ⟨h1, h2⟩
  · have i := r.1.2
    have eS : S.1 (13 + 2 + 15 + k) 2 = M.2 0 (161 + 12 * k + 8) := r.1.1.sack (f := 2) hk k8 (by omega) (by omega)
    have op : fX11_addMice M a x = (fX11_inRange (th M 0) x 1 99).bind fun q => fX11_addMice_21 (th M 0) a x q := by
      unfold fX11_addMice fX11_addMice_0
      rw [th_e, fX11_addMice_5, h1, Option.bind_some]
      dsimp only
      rw [fX11_addMice_10, if_pos rfl, fX11_addMice_13]
    rcases s_rng (S := S) (M := th M 0) (lo := 1) (hi := 99) (a := x) with ⟨j1, j2, j3, j4⟩ | ⟨j1, j2, j3⟩
    · obtain ⟨y, -, hy, ey⟩ := rg_nat (a := 1) (b := 99) (by omega) (by omega) j1
      obtain ⟨z, hz, ez⟩ := (i.1.2.2.2 k hk).1
      have es : M.2 0 (161 + 12 * k + 8) + x = nI (z + y) := by rw [ez, ey, nI_add]
      have my : fX11_mayAddMice (th M 0) a x = some (if z + y ≤ 99 then 1 else 0) := by
        unfold fX11_mayAddMice fX11_mayAddMice_0
        rw [ea, rS (f := 8) (ff := 8) rfl k8 (by omega), Option.bind_some, fX11_mayAddMice_7, th_2, es]
        by_cases q : z + y ≤ 99
        · rw [if_neg (show ¬ (99 : Int32) < nI (z + y) from nI_nlt (a := 99) q (by omega)), if_pos q, fX11_mayAddMice_14, fX11_mayAddMice_19]; rfl
        · rw [if_pos (show (99 : Int32) < nI (z + y) from nI_lt (a := 99) (by omega) (by omega)), if_neg q, fX11_mayAddMice_18, fX11_mayAddMice_19]; rfl
      have op2 : fX11_addMice M a x = fX11_addMice_43 (th M 0) a x (if z + y ≤ 99 then 1 else 0) := by
        rw [op, j2, Option.bind_some, fX11_addMice_21, if_neg one0, fX11_addMice_28, fX11_addMice_29, r_fails0, Option.bind_some]
        dsimp only
        rw [fX11_addMice_33, if_pos rfl, fX11_addMice_36, my, Option.bind_some]
      by_cases q : z + y ≤ 99
      · left
        obtain ⟨S1, M1, m1, m2, m3, m4, m5⟩ := s_remember (r.thr (v := 0))
        obtain ⟨S', w', o1, o2, o3, o4, o5, -⟩ := o_addMice (S := S1) (M := M1) (x := x) m3.1.1 m3.1.2 (by rw [m5]; exact hk) k8 q (by rw [m5]; exact es)
        refine ⟨nI (z + y), S', mw M1 w', ?_, ?_, m3.now o3 o2 o1, m4.trans th_7⟩
        · have al : fX2_allows S 13 3 (nI k) x = some 1 := by
            rw [al3, fX2_allows_86, gi_m (show k < 6 by omega) (by omega), nI_c (by omega), eS, es, if_neg (show ¬ (99 : Int32) < nI (z + y) from nI_nlt (a := 99) q (by omega)), fX2_allows_102, fX2_allows_107]
            rfl
          unfold fX10_addMice fX10_addMice_0
          rw [h2, Option.bind_some, fX10_addMice_5, j3, Option.bind_some, fX10_addMice_13, ea, c_change al m1 o4, Option.bind_some, fX10_addMice_20]
        · rw [op2, if_pos q, fX11_addMice_43, if_neg one0, fX11_addMice_50, fX11_addMice_51, r_fails0, Option.bind_some]
          dsimp only
          rw [fX11_addMice_55, if_pos rfl, fX11_addMice_60, m2, Option.bind_some, fX11_addMice_64, ea, o5, Option.bind_some, fX11_addMice_70]
      · right; right; right
        refine ⟨0, S, th M 3, ?_, ?_, r.thr, th_7⟩
        · have al : fX2_allows S 13 3 (nI k) x = some 0 := by
            rw [al3, fX2_allows_86, gi_m (show k < 6 by omega) (by omega), nI_c (by omega), eS, es, if_pos (show (99 : Int32) < nI (z + y) from nI_lt (a := 99) (by omega) (by omega)), fX2_allows_106, fX2_allows_107]
            rfl
          unfold tX10_addMice tX10_addMice_0
          rw [h3]
          dsimp only
          rw [h2, Option.bind_some, tX10_addMice_5, j4]
          dsimp only
          rw [j3, Option.bind_some, tX10_addMice_13, ea, t_change al]
        · rw [op2, if_neg q, fX11_addMice_43, if_pos rfl, fX11_addMice_46, fX11_addMice_51, r_fails1, Option.bind_some, th_th]
          dsimp only
          rw [fX11_addMice_55, if_neg one0, fX11_addMice_58]
    · right; right; left
      refine ⟨0, S, th M 2, ?_, ?_, r.thr, th_7⟩
      · unfold tX10_addMice tX10_addMice_0
        rw [h3]
        dsimp only
        rw [h2, Option.bind_some, tX10_addMice_5, j3]
      · rw [op, j2, Option.bind_some, fX11_addMice_21, if_pos rfl, fX11_addMice_24, fX11_addMice_29, r_fails1, Option.bind_some, th_th]
        dsimp only
        rw [fX11_addMice_33, if_neg one0, fX11_addMice_58]
  · right; left
    refine ⟨0, S, th M 1, ?_, ?_, r.thr, th_7⟩
    · unfold tX10_addMice tX10_addMice_0
      rw [h2]
    · unfold fX11_addMice fX11_addMice_0
      rw [th_e, fX11_addMice_5, h1, Option.bind_some]
      dsimp only
      rw [fX11_addMice_10, if_neg one0, fX11_addMice_58]
theorem o_addGrain {m : Nat} {x : Int32} (g : GR S 13 (M.2 0)) (i : In (M.2 0)) (hk : k < nS (M.2 0)) (h6 : k < 6) (hm : m ≤ 9999) (e : M.2 0 (161 + 12 * k + 7) + x = nI m) : ∃ S' w', In w' ∧ GR S' 13 w' ∧ (∀ q, q < 13 ∨ 48 ≤ q → S'.1 q = S.1 q ∧ S'.2 q = S.2 q) ∧ fX2_apply S 13 4 (nI k) x = some (nI m, S') ∧ fX11_addsGrain M (nI k) x = some (nI m, mw M w') ∧ nS w' = nS (M.2 0) := by
  have i1 : In (upd (M.2 0) (161 + 12 * k + 7) (nI m)) := i.up (by omega) (by omega) (by omega) (by omega) (fun z => by omega) (fun z => by omega) (fun j hj => by omega) (fun j hj hq => by omega) (fun j hj hq => by first | omega | exact ⟨m, hm, rfl⟩) (fun j hj hq => by first | omega | exact ⟨m, hm, rfl⟩)
  have g1 := g.setS (f := 1) (v := nI m) i hk h6 (by omega) (by omega)
  obtain ⟨T, eT⟩ : ∃ T : CS, T = (va_up S.1 (13 + 2 + 15 + k) (upd (S.1 (13 + 2 + 15 + k)) 1 (nI m)), S.2) := ⟨_, rfl⟩
  rw [← eT] at g1
  obtain ⟨W, eW⟩ : ∃ W : Wd, W = upd (M.2 0) (161 + 12 * k + 7) (nI m) := ⟨_, rfl⟩
  rw [show (161 + 12 * k + (1 + 6)) = (161 + 12 * k + 7) from rfl, ← eW] at g1
  rw [← eW] at i1
  have i2 : In (upd W 15 (W 15 + x)) := i1.up (by omega) (by omega) (by omega) (by omega) (fun z => by omega) (fun z => by omega) (fun j hj => by omega) (fun j hj hq => by omega) (fun j hj hq => by omega) (fun j hj hq => by omega)
  have g2 := g1.setT (f := 7) (v := W 15 + x) i1 (by omega)
  have eS : S.1 (13 + 2 + 15 + k) 1 = M.2 0 (161 + 12 * k + 7) := g.sack (f := 1) hk h6 (by omega) (by omega)
  have eTt : T.1 (13 + 8) 7 = W 15 := g1.tot (f := 7) (by omega)
  have fr : ∀ q, q < 13 ∨ 48 ≤ q → ((va_up T.1 (13 + 8) (upd (T.1 (13 + 8)) 7 (W 15 + x)), T.2) : CS).1 q = S.1 q ∧ ((va_up T.1 (13 + 8) (upd (T.1 (13 + 8)) 7 (W 15 + x)), T.2) : CS).2 q = S.2 q := fun q hq => by
    dsimp only
    rw [vne (by omega), eT]
    dsimp only
    rw [vne (by omega)]
    exact ⟨rfl, rfl⟩
  have eWk : W (161 + 12 * k + 7) = nI m := by rw [eW, pk_us]
  refine ⟨_, _, i2, g2, fr, ?_, ?_, ?_⟩
  · rw [ap4, fX2_apply_114, gi_m (show k < 6 by omega) (by omega), nI_c (by omega), eS, e, ← eT, fX2_apply_129, eTt, fX2_apply_142, gi_m (show k < 6 by omega) (by omega), nI_c (by omega)]
    dsimp only
    rw [vne (by omega), eT]
    dsimp only
    rw [vat, pk_us]
  · have p := ps7 (M := M) (w := M.2 0) (k := k) (v := nI m) h6
    rw [mw_self] at p
    unfold fX11_addsGrain fX11_addsGrain_0
    rw [rS (f := 7) (ff := 7) rfl h6 (by omega), Option.bind_some, fX11_addsGrain_11, e, p, Option.bind_some, ← eW, fX11_addsGrain_16, gi15, gi15, tn15, mw_w, mw_up, fX11_addsGrain_27, rS (f := 7) (ff := 7) rfl h6 (by omega), Option.bind_some, fX11_addsGrain_34, mw_w, pk_un (by omega), eWk]
  · unfold nS; rw [pk_un (by omega), eW, pk_un (by omega)]
theorem q_addGrain (r : Rel S M) (a x : Int32) : Bo (fX10_addGrain S a x) (fX11_addGrain M a x) ∨ Bt (tX10_addGrain S a x) (fX11_addGrain M a x) "java/lang/IndexOutOfBoundsException" 1 ∨ Bt (tX10_addGrain S a x) (fX11_addGrain M a x) "java/lang/IllegalArgumentException" 2 ∨ Bt (tX10_addGrain S a x) (fX11_addGrain M a x) "java/lang/IllegalStateException" 3 := by
  rcases s_noSack r.1 a with ⟨k, hk, k8, ea, h1, h2, h3⟩ | ⟨h1, h2⟩
  · have i := r.1.2
    have eS : S.1 (13 + 2 + 15 + k) 1 = M.2 0 (161 + 12 * k + 7) := r.1.1.sack (f := 1) hk k8 (by omega) (by omega)
    have op : fX11_addGrain M a x = (fX11_inRange (th M 0) x 1 999).bind fun q => fX11_addGrain_22 (th M 0) a x q := by
      unfold fX11_addGrain fX11_addGrain_0
      rw [th_e, fX11_addGrain_5, h1, Option.bind_some]
      dsimp only
      rw [fX11_addGrain_10, if_pos rfl, fX11_addGrain_13]
    rcases s_rng (S := S) (M := th M 0) (lo := 1) (hi := 999) (a := x) with ⟨j1, j2, j3, j4⟩ | ⟨j1, j2, j3⟩
    · obtain ⟨y, -, hy, ey⟩ := rg_nat (a := 1) (b := 999) (by omega) (by omega) j1
      obtain ⟨z, hz, ez⟩ := (i.1.2.2.2 k hk).2
      have es : M.2 0 (161 + 12 * k + 7) + x = nI (z + y) := by rw [ez, ey, nI_add]
      have my : fX11_mayAddGrain (th M 0) a x = some (if z + y ≤ 9999 then 1 else 0) := by
        unfold fX11_mayAddGrain fX11_mayAddGrain_0
        rw [ea, rS (f := 7) (ff := 7) rfl k8 (by omega), Option.bind_some, fX11_mayAddGrain_7, th_2, es]
        by_cases q : z + y ≤ 9999
        · rw [if_neg (show ¬ (9999 : Int32) < nI (z + y) from nI_nlt (a := 9999) q (by omega)), if_pos q, fX11_mayAddGrain_15, fX11_mayAddGrain_20]; rfl
        · rw [if_pos (show (9999 : Int32) < nI (z + y) from nI_lt (a := 9999) (by omega) (by omega)), if_neg q, fX11_mayAddGrain_19, fX11_mayAddGrain_20]; rfl
      have op2 : fX11_addGrain M a x = fX11_addGrain_44 (th M 0) a x (if z + y ≤ 9999 then 1 else 0) := by
        rw [op, j2, Option.bind_some, fX11_addGrain_22, if_neg one0, fX11_addGrain_29, fX11_addGrain_30, r_fails0, Option.bind_some]
        dsimp only
        rw [fX11_addGrain_34, if_pos rfl, fX11_addGrain_37, my, Option.bind_some]
      by_cases q : z + y ≤ 9999
      · left
        obtain ⟨S1, M1, m1, m2, m3, m4, m5⟩ := s_remember (r.thr (v := 0))
        obtain ⟨S', w', o1, o2, o3, o4, o5, -⟩ := o_addGrain (S := S1) (M := M1) (x := x) m3.1.1 m3.1.2 (by rw [m5]; exact hk) k8 q (by rw [m5]; exact es)
        refine ⟨nI (z + y), S', mw M1 w', ?_, ?_, m3.now o3 o2 o1, m4.trans th_7⟩
        · have al : fX2_allows S 13 4 (nI k) x = some 1 := by
            rw [al4, fX2_allows_108, gi_m (show k < 6 by omega) (by omega), nI_c (by omega), eS, es, if_neg (show ¬ (9999 : Int32) < nI (z + y) from nI_nlt (a := 9999) q (by omega)), fX2_allows_125, fX2_allows_130]
            rfl
          unfold fX10_addGrain fX10_addGrain_0
          rw [h2, Option.bind_some, fX10_addGrain_5, j3, Option.bind_some, fX10_addGrain_14, ea, c_change al m1 o4, Option.bind_some, fX10_addGrain_21]
        · rw [op2, if_pos q, fX11_addGrain_44, if_neg one0, fX11_addGrain_51, fX11_addGrain_52, r_fails0, Option.bind_some]
          dsimp only
          rw [fX11_addGrain_56, if_pos rfl, fX11_addGrain_61, m2, Option.bind_some, fX11_addGrain_65, ea, o5, Option.bind_some, fX11_addGrain_71]
      · right; right; right
        refine ⟨0, S, th M 3, ?_, ?_, r.thr, th_7⟩
        · have al : fX2_allows S 13 4 (nI k) x = some 0 := by
            rw [al4, fX2_allows_108, gi_m (show k < 6 by omega) (by omega), nI_c (by omega), eS, es, if_pos (show (9999 : Int32) < nI (z + y) from nI_lt (a := 9999) (by omega) (by omega)), fX2_allows_129, fX2_allows_130]
            rfl
          unfold tX10_addGrain tX10_addGrain_0
          rw [h3]
          dsimp only
          rw [h2, Option.bind_some, tX10_addGrain_5, j4]
          dsimp only
          rw [j3, Option.bind_some, tX10_addGrain_14, ea, t_change al]
        · rw [op2, if_neg q, fX11_addGrain_44, if_pos rfl, fX11_addGrain_47, fX11_addGrain_52, r_fails1, Option.bind_some, th_th]
          dsimp only
          rw [fX11_addGrain_56, if_neg one0, fX11_addGrain_59]
    · right; right; left
      refine ⟨0, S, th M 2, ?_, ?_, r.thr, th_7⟩
      · unfold tX10_addGrain tX10_addGrain_0
        rw [h3]
        dsimp only
        rw [h2, Option.bind_some, tX10_addGrain_5, j3]
      · rw [op, j2, Option.bind_some, fX11_addGrain_22, if_pos rfl, fX11_addGrain_25, fX11_addGrain_30, r_fails1, Option.bind_some, th_th]
        dsimp only
        rw [fX11_addGrain_34, if_neg one0, fX11_addGrain_59]
  · right; left
    refine ⟨0, S, th M 1, ?_, ?_, r.thr, th_7⟩
    · unfold tX10_addGrain tX10_addGrain_0
      rw [h2]
    · unfold fX11_addGrain fX11_addGrain_0
      rw [th_e, fX11_addGrain_5, h1, Option.bind_some]
      dsimp only
      rw [fX11_addGrain_10, if_neg one0, fX11_addGrain_59]
end ADDM
