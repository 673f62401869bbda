/-! the setup's cat, both sides -/
section CATS
variable {S : CS} {M : MS} {n p s nc ns nh : Nat} {w : Wd}
theorem SU.cat {w' : Wd} (u : SU nc ns nh w) (h8 : nc < 8) (h0 : w' 0 = nI (nc + 1)) (eo : ∀ q, q ≠ 0 → (q < (65 + 12 * nc + 0) ∨ (65 + 12 * nc + 9) ≤ q) → w' q = w q) (hp : w' (65 + 12 * nc + 8) = 0 ∨ w' (65 + 12 * nc + 8) = 1) : SU (nc + 1) ns nh w' := by
  obtain ⟨⟨a1, a2⟩, ⟨b1, b2⟩, ⟨c1, c2⟩, ⟨d1, d2, d3⟩, e, f, g, hh, i, jj, kk, l⟩ := u
  refine ⟨⟨h0, by omega⟩, ⟨?_, b2⟩, ⟨?_, c2⟩, ⟨?_, ?_, fun q h1 h2 => ?_⟩, fun k hk j h1 h2 => ?_, fun k hk => ?_, ?_, ?_, fun j hj => ?_, fun i hi => ?_, fun k hk => ?_, fun k hk => ?_⟩
  · rw [eo _ (by omega) (by omega)]; exact b1
  · rw [eo _ (by omega) (by omega)]; exact c1
  · rw [eo _ (by omega) (by omega)]; exact d1
  · rw [eo _ (by omega) (by omega)]; exact d2
  · rw [eo _ (by omega) (by omega)]; exact d3 q h1 h2
  · rw [eo _ (by omega) (by omega)]; exact e k hk j h1 h2
  · rw [eo _ (by omega) (by omega)]; exact f k hk
  · rw [eo _ (by omega) (by omega)]; exact g
  · rw [eo _ (by omega) (by omega)]; exact hh
  · rw [eo _ (by omega) (by omega)]
    obtain ⟨c, hc, ec⟩ := i j hj
    exact ⟨c, by omega, ec⟩
  · by_cases z : i = nc
    · subst z; exact hp
    · rw [eo _ (by omega) (by omega)]; exact jj i (by omega)
  · rw [eo _ (by omega) (by omega)]; exact kk _ hk
  · rw [eo _ (by omega) (by omega), eo _ (by omega) (by omega)]; exact l k hk
theorem c_begin0 {q : Nat} : fX0_begin S q = some (va_up S.1 q (upd (upd (upd (S.1 q) 3 0) 4 0) 5 0), S.2) := by
  unfold fX0_begin fX0_begin_0 fX0_begin_5 fX0_begin_10 fX0_begin_15
  dsimp only
  rw [vat, up_up, vat, up_up]
theorem r_addsCat {a b c : Int32} (h0 : w 0 = nI nc) (h8 : nc < 8) : fX11_addsCat (mw M w) a b c = some (mw M (upd (upd (upd (upd w (65 + 12 * nc + 0) a) (65 + 12 * nc + 7) b) (65 + 12 * nc + 8) c) 0 (nI (nc + 1)))) := by
  unfold fX11_addsCat fX11_addsCat_0
  rw [gi0, tn0, mw_w, h0, pc0 h8, Option.bind_some, fX11_addsCat_16, pc7 h8, Option.bind_some, fX11_addsCat_25, pc8 h8, Option.bind_some, fX11_addsCat_34, gi0, gi0, tn0, mw_w, mw_up, pk_un (by omega), pk_un (by omega), pk_un (by omega), h0, nI_1, fX11_addsCat_44]
theorem s_cat (sy : SY n s (S.1 1) (S.1 2) M.1 (M.2 8)) (h3 : s + 3 ≤ tkD (KM (M.2 8)) n s) (g : GR S 48 (M.2 0)) (u : SU nc ns nh (M.2 0)) : ∃ S' M' r, fX6_readCat S = some (r, S') ∧ fX11_readCat M = some (r, M') ∧ Done S M n s S' M' r := by
  have e5 : S.1 48 5 = nI nc := by rw [g.at0 (f := 5) (q := 0) (by unfold cm; simp) (by omega)]; exact u.1.1
  have n8 := u.1.2
  by_cases full : nc = 8
  · obtain ⟨x2, y2, f1, f2, er, fr⟩ := s_fail (S := S) (k := 5) sy
    rw [tx_self] at f1
    refine ⟨tx S x2, rx M y2, 0, ?_, ?_, fun q q1 q3 q4 q5 => ⟨tx_o q1, rfl⟩, ⟨fr, fun j _ _ => rfl⟩, Or.inr ⟨rfl, by rw [tx_1, rx_11]; exact er⟩⟩
    · unfold fX6_readCat fX6_readCat_0
      rw [e5, if_neg (show ¬ nI nc < (8 : Int32) from nI_nlt (b := 8) (by omega) (by omega)), fX6_readCat_12, f1, Option.bind_some]
      rfl
    · unfold fX11_readCat fX11_readCat_0
      rw [gi0, tn0, u.1.1, if_pos (show nI nc = (8 : Int32) by rw [full]; rfl), fX11_readCat_11, f2, Option.bind_some]
      rfl
  have hlt : nc < 8 := by omega
  obtain ⟨y1, n1, ps1, fr1, -⟩ := s_nxt sy
  obtain ⟨z, ez⟩ : ∃ z, z = skp (KM (M.2 8)) n (tkD (KM (M.2 8)) n s) := ⟨_, rfl⟩
  obtain ⟨v, ev⟩ : ∃ v, v = fnd (fun i => wq (M.2 8) (KM (M.2 8)) n z (S.2 (48 + (9 + i)))) nc 0 := ⟨_, rfl⟩
  have hN : ∀ i, i < nc → NmOk (S.2 (48 + (9 + i))) (M.2 0) (65 + 12 * i) := fun i hi => g.2.1 i (by rw [u.nC]; exact hi)
  have opR : fX11_readCat M = bz ((fX11_takesNewName (rx M y1) 65 0).bind fun q => fX11_readCat_28 q.2 q.1) := by
    unfold fX11_readCat fX11_readCat_0
    rw [gi0, tn0, u.1.1, if_neg (show ¬ nI nc = (8 : Int32) from fun z => full ((nI_eq (b := 8) (by omega) (by omega)).mp z)), fX11_readCat_17, n1, Option.bind_some, fX11_readCat_21]
  have opC : fX6_readCat S = bz ((fX8_takeName S).bind fun q => fX6_readCat_28 q.2 q.1) := by
    unfold fX6_readCat fX6_readCat_0
    rw [e5, if_pos (show nI nc < (8 : Int32) from nI_lt (b := 8) hlt (by omega)), fX6_readCat_21]
  obtain ⟨x1, ⟨c1, y', r1, er, fr⟩ | ⟨c1, sy1, k1, l6, hno, hyes⟩⟩ := s_new (S := S) (M := rx M y1) (a := 65) (m := 0) (cnt := nc) (v := v) ps1 ez (by omega) u.1.1 (by omega) (fun a b c => by
    rw [ev]
    exact r_nameHere (M := rx M y1) (a := 65) (m := 0) (nc := nc) (F := fun i => S.2 (48 + (9 + i))) a sy.1.1 b c (by omega) u.1.1 n8 (by omega) hN)
  · refine ⟨tx S x1, rx M y', 0, ?_, ?_, fun q q1 q3 q4 q5 => ⟨tx_o q1, rfl⟩, ⟨fr1.trans fr, fun j _ _ => rfl⟩, Or.inr ⟨rfl, by rw [tx_1, rx_11]; exact er⟩⟩
    · rw [opC, c1, Option.bind_some]; rfl
    · rw [opR, show fX11_takesNewName (rx M y1) 65 0 = _ from r1, Option.bind_some, rx_rx]; rfl
  have cn : fX2_catNamed (tx S x1) 48 = some v := by
    rw [ev]
    exact c_catNamed (S := tx S x1) (t := 48) (nc := nc) (y := y1) (by rw [tx_1, tx_b]; exact sy1) (by rw [tx_o (by omega)]; exact e5) n8 (fun i hi => (hN i hi).2.1)
  by_cases hm : v = -1
  case neg =>
    obtain ⟨x2, y2, f1, f2, er, fr⟩ := hno hm
    refine ⟨tx S x2, rx M y2, 0, ?_, ?_, fun q q1 q3 q4 q5 => ⟨tx_o q1, rfl⟩, ⟨fr1.trans fr, fun j j0 j19 => rfl⟩, Or.inr ⟨rfl, by rw [tx_1, rx_11]; exact er⟩⟩
    · rw [opC, c1, Option.bind_some]
      dsimp only
      rw [fX6_readCat_28, if_neg one0, fX6_readCat_33, cn, Option.bind_some, fX6_readCat_44, if_neg hm, fX6_readCat_48, f1, Option.bind_some]
      rfl
    · rw [opR, show fX11_takesNewName (rx M y1) 65 0 = _ from f2, Option.bind_some, rx_rx]; rfl
  obtain ⟨y2, p2, r2, ps2, hp2, fr2⟩ := hyes hm
  obtain ⟨L, eL⟩ : ∃ L, L = tkD (KM (M.2 8)) n z - z := ⟨_, rfl⟩
  obtain ⟨W, eW⟩ : ∃ W : Wd, W = spW (M.2 0) (65 + 12 * nc) z L (M.2 8) 6 := ⟨_, rfl⟩
  obtain ⟨R2, eR2⟩ : ∃ R2 : MS, R2 = (y2, va_up (va_up M.2 0 W) 19 (upd (M.2 19) 3 (nI L))) := ⟨_, rfl⟩
  have r2' : fX11_takesNewName (rx M y1) 65 0 = some (1, R2) := by
    rw [eR2, eW, eL]; exact r2
  have q8 : R2.2 8 = M.2 8 := by rw [eR2]; dsimp only; rw [vne (by omega), vne (by omega)]
  have q19 : R2.2 19 3 = nI L := by rw [eR2]; dsimp only; rw [vat, pk_us]
  have q0 : R2.2 0 = W := by rw [eR2]; dsimp only; rw [vne (by omega), vat]
  have qj : ∀ j, j ≠ 0 → j ≠ 19 → R2.2 j = M.2 j := fun j j0 j19 => by rw [eR2]; dsimp only; rw [vne j19, vne j0]
  have q1 : R2.1 = y2 := by rw [eR2]
  -- the class's name
  obtain ⟨T2, eT2⟩ : ∃ T2 : CS, T2 = (va_up (tx S x1).1 (48 + 1 + 8 + nc) (upd (upd (upd ((tx S x1).1 (48 + 1 + 8 + nc)) 3 0) 4 0) 5 0), (tx S x1).2) := ⟨_, rfl⟩
  have t1 : T2.1 1 = x1 := by rw [eT2]; dsimp only; rw [vne (by omega), tx_1]
  have t2 : T2.1 2 = S.1 2 := by rw [eT2]; dsimp only; rw [vne (by omega), tx_b]
  obtain ⟨Z, cw1, hZ⟩ := c_nameTo (S := T2) (x := x1) (q := 48 + 1 + 8 + nc) (by rw [t1, t2]; exact sy1) k1 l6
  obtain ⟨T3, eT3⟩ : ∃ T3 : CS, T3 = (Z, va_up T2.2 (48 + 1 + 8 + nc) (bsW (M.2 8) z L)) := ⟨_, rfl⟩
  have cw2 : fX8_nameTo T2 (48 + 1 + 8 + nc) = some T3 := by rw [eT3, eL]; exact cw1
  have z1 : T3.1 1 = x1 := by rw [eT3]; dsimp only; rw [hZ 1 (by omega) (by omega), t1]
  have z2 : T3.1 2 = S.1 2 := by rw [eT3]; dsimp only; rw [hZ 2 (by omega) (by omega), t2]
  have zq : T3.1 (48 + 1 + 8 + nc) = upd (upd (upd (S.1 (48 + 1 + 8 + nc)) 3 0) 4 0) 5 0 := by
    rw [eT3]; dsimp only; rw [hZ _ (by omega) (by omega), eT2]; dsimp only; rw [vat, tx_o (by omega)]
  have zj : ∀ j, j ≠ 1 → j ≠ 3 → j ≠ 4 → j ≠ 48 + 1 + 8 + nc → T3.1 j = S.1 j := fun j j1 j3 j4 jq => by
    rw [eT3]; dsimp only; rw [hZ _ j3 j4, eT2]; dsimp only; rw [vne jq, tx_o j1]
  have zn : T3.2 (48 + 1 + 8 + nc) = bsW (M.2 8) z L := by rw [eT3]; dsimp only; rw [vat]
  have znj : ∀ j, j ≠ 48 + 1 + 8 + nc → T3.2 j = S.2 j := fun j jq => by rw [eT3]; dsimp only; rw [vne jq, eT2]; rfl
  have opC2 : fX6_readCat S = bz ((fX8_takeNumber T3 1 9).bind fun q => fX6_readCat_98 q.2 (48 + 1 + 8 + nc) q.1) := by
    rw [opC, c1, Option.bind_some]
    dsimp only
    rw [fX6_readCat_28, if_neg one0, fX6_readCat_33, cn, Option.bind_some, fX6_readCat_44, if_pos hm, fX6_readCat_57, tx_o (q := 48) (by omega), e5, gi_m hlt (by omega), nI_c (by omega), c_begin0, Option.bind_some, ← eT2, fX6_readCat_77, cw2, Option.bind_some, fX6_readCat_88]
  have opR2 : fX11_readCat M = bz ((fX11_takes R2 0 1 9).bind fun q => fX11_readCat_39 q.2 q.1) := by
    rw [opR, r2', Option.bind_some]
    dsimp only
    rw [fX11_readCat_28, if_neg one0, fX11_readCat_31]
  have kq : 48 + (9 + nc) = 48 + 1 + 8 + nc := by omega
  have fcT : ∀ S' : CS, (∀ j, j ≠ 1 → j ≠ 48 → j ≠ 48 + 1 + 8 + nc → S'.1 j = T3.1 j) → S'.2 = T3.2 → FC S S' := fun S' h1 h2 q a1 a3 a4 a5 => ⟨by rw [h1 q a1 (by omega) (by omega), zj q a1 a3 a4 (by omega)], by rw [h2, znj q (by omega)]⟩
  obtain ⟨x4, y4, p4, fr4, hp4, ⟨c4, r4, ps4, rg⟩ | ⟨c4, r4, er⟩⟩ := s_takes (M := R2) (S := T3) (n := n) (p := p2) (k := 0) (kk := 0) (lo := 1) (hi := 9) rfl (by omega) (by rw [z1, z2, q1, q8]; exact ps2)
  case inr =>
    refine ⟨tx T3 x4, rx R2 y4, 0, by rw [opC2, c4, Option.bind_some]; rfl, by rw [opR2, r4, Option.bind_some]; rfl, fcT _ (fun j j1 _ _ => tx_o j1) rfl, ⟨(fr1.trans fr2).trans (by rw [q1] at fr4; exact fr4), fun j j0 j19 => by rw [rx_2]; exact qj j j0 j19⟩, Or.inr ⟨rfl, by rw [tx_1, rx_11]; exact er⟩⟩
  obtain ⟨T5, eT5⟩ : ∃ T5 : CS, T5 = (va_up (tx T3 x4).1 (48 + 1 + 8 + nc) (upd (T3.1 (48 + 1 + 8 + nc)) 1 (x4 6)), T3.2) := ⟨_, rfl⟩
  obtain ⟨R3, eR3⟩ : ∃ R3 : MS, R3 = (y4, va_up R2.2 19 (upd (R2.2 19) 0 (x4 6))) := ⟨_, rfl⟩
  have v1 : T5.1 1 = x4 := by rw [eT5]; dsimp only; rw [vne (by omega), tx_1]
  have v2 : T5.1 2 = S.1 2 := by rw [eT5]; dsimp only; rw [vne (by omega), tx_b, z2]
  have vq : T5.1 (48 + 1 + 8 + nc) = upd (T3.1 (48 + 1 + 8 + nc)) 1 (x4 6) := by rw [eT5]; dsimp only; rw [vat]
  have vj : ∀ j, j ≠ 1 → j ≠ 48 + 1 + 8 + nc → T5.1 j = T3.1 j := fun j j1 jq => by rw [eT5]; dsimp only; rw [vne jq, tx_o j1]
  have vn : T5.2 = T3.2 := by rw [eT5]
  have o8 : R3.2 8 = M.2 8 := by rw [eR3]; dsimp only; rw [vne (by omega), q8]
  have o1 : R3.1 = y4 := by rw [eR3]
  have o0 : R3.2 0 = W := by rw [eR3]; dsimp only; rw [vne (by omega), q0]
  have o19 : R3.2 19 = upd (R2.2 19) 0 (x4 6) := by rw [eR3]; dsimp only; rw [vat]
  have oj : ∀ j, j ≠ 0 → j ≠ 19 → R3.2 j = M.2 j := fun j j0 j19 => by rw [eR3]; dsimp only; rw [vne j19, qj j j0 j19]
  have opC3 : fX6_readCat S = bz ((fX8_takeEither T5 [108, 101, 102, 116] [114, 105, 103, 104, 116]).bind fun q => fX6_readCat_125 q.2 (48 + 1 + 8 + nc) q.1) := by
    rw [opC2, c4, Option.bind_some]
    dsimp only
    rw [fX6_readCat_98, if_neg one0, fX6_readCat_103, tx_o (q := 48 + 1 + 8 + nc) (by omega), tx_1, tx_2, ← eT5, fX6_readCat_114]
  obtain ⟨z5, ez5⟩ : ∃ z5, z5 = skp (KM (M.2 8)) n p4 := ⟨_, rfl⟩
  rw [q8, z2] at ps4
  have hsy := ps4
  obtain ⟨t5, pc5, ar5, ee5⟩ := ps4
  rw [← ez5] at ar5
  have W1 : fX11_isWord R3 [108, 101, 102, 116] = some (wq (M.2 8) (KM (M.2 8)) n z5 [108, 101, 102, 116]) := by
    rw [← o8]
    exact r_isWord (by rw [o1, o8]; exact ar5) t5.1 KM_lt (by decide)
  have W2 : fX11_isWord R3 [114, 105, 103, 104, 116] = some (wq (M.2 8) (KM (M.2 8)) n z5 [114, 105, 103, 104, 116]) := by
    rw [← o8]
    exact r_isWord (by rw [o1, o8]; exact ar5) t5.1 KM_lt (by decide)
  have opR3 : fX11_readCat M = bz ((fX11_takesChoice R3 1 (wq (M.2 8) (KM (M.2 8)) n z5 [108, 101, 102, 116]) (wq (M.2 8) (KM (M.2 8)) n z5 [114, 105, 103, 104, 116])).bind fun q => fX11_readCat_59 q.2 q.1) := by
    rw [opR2, r4, ← eR3, Option.bind_some]
    dsimp only
    rw [fX11_readCat_39, if_neg one0, fX11_readCat_42, W1, Option.bind_some, fX11_readCat_50, W2, Option.bind_some, fX11_readCat_56]
  have fr24 : FrR M.1 R3.1 := (fr1.trans fr2).trans (by rw [q1] at fr4; rw [o1]; exact fr4)
  obtain ⟨x6, h6⟩ := s_either (S := T5) (M := R3) (n := n) (p := p4) (l1 := [108, 101, 102, 116]) (l2 := [114, 105, 103, 104, 116]) (by decide) (by decide) (by rw [v1, v2, o1, o8]; exact hsy) (s := z5) (by rw [o8]; exact ez5)
  rw [o8] at h6
  rcases h6 with ⟨c6, nz, sy6⟩ | ⟨c6, zz, y6, f6, er, fr6⟩
  case inr =>
    refine ⟨tx T5 x6, rx R3 y6, 0, by rw [opC3, c6, Option.bind_some]; rfl, by rw [opR3, s_choice0 zz f6, Option.bind_some]; rfl, fcT _ (fun j j1 _ jq => by rw [tx_o j1, vj j j1 jq]) (by rw [tx_2, vn]), ⟨fr24.trans fr6, fun j j0 j19 => by rw [rx_2]; exact oj j j0 j19⟩, Or.inr ⟨rfl, by rw [tx_1, rx_11]; exact er⟩⟩
  obtain ⟨qv, eqv⟩ : ∃ qv, qv = wq (M.2 8) (KM (M.2 8)) n z5 [108, 101, 102, 116] := ⟨_, rfl⟩
  have qv01 : qv = 0 ∨ qv = 1 := by rw [eqv]; exact wq_01
  obtain ⟨y7, r7, ps7, fr7⟩ := s_choice (M := R3) (k := 1) (kk := 1) rfl (by omega) wq_01 nz (by rw [o8]; exact sy6)
  rw [← eqv] at r7 opR3
  rw [o8, v2] at ps7
  have cw6 : fX8_isWord (tx T5 x6) [108, 101, 102, 116] = some qv := by
    rw [eqv]
    exact SY.cw (S := tx T5 x6) (by rw [tx_1, tx_b]; exact sy6) (by decide)
  obtain ⟨T8, eT8⟩ : ∃ T8 : CS, T8 = (va_up (va_up (tx T5 x6).1 (48 + 1 + 8 + nc) (upd (T5.1 (48 + 1 + 8 + nc)) 2 qv)) 48 (upd (S.1 48) 5 (nI (nc + 1))), T5.2) := ⟨_, rfl⟩
  obtain ⟨W', eW'⟩ : ∃ W' : Wd, W' = upd (upd (upd (upd W (65 + 12 * nc + 0) (nI L)) (65 + 12 * nc + 7) (x4 6)) (65 + 12 * nc + 8) qv) 0 (nI (nc + 1)) := ⟨_, rfl⟩
  obtain ⟨R5, eR5⟩ : ∃ R5 : MS, R5 = (y7, va_up (va_up R3.2 19 (upd (R3.2 19) 1 qv)) 0 W') := ⟨_, rfl⟩
  have u1 : T8.1 1 = x6 := by rw [eT8]; dsimp only; rw [vne (by omega), vne (by omega), tx_1]
  have u2 : T8.1 2 = S.1 2 := by rw [eT8]; dsimp only; rw [vne (by omega), vne (by omega), tx_b, v2]
  have w8 : R5.2 8 = M.2 8 := by rw [eR5]; dsimp only; rw [vne (by omega), vne (by omega), o8]
  have w1 : R5.1 = y7 := by rw [eR5]
  have w0 : R5.2 0 = W' := by rw [eR5]; dsimp only; rw [vat]
  obtain ⟨x9, y9, p9, fr9, hp9, h9⟩ := s_semi' (S := T8) (M := R5) (n := n) (p := tkD (KM (M.2 8)) n z5) (by rw [u1, u2, w1, w8]; exact ps7)
  have hW0 : ∀ q, (q < (65 + 12 * nc + 0) ∨ (65 + 12 * nc + 7) ≤ q) → W q = M.2 0 q := fun q hq => by rw [eW]; unfold spW; exact if_neg (by omega)
  have hW1 : ∀ j, j < 6 → W ((65 + 12 * nc + 0) + 1 + j) = if j < L then M.2 8 (z + j) else 0 := fun j hj => by
    rw [eW]
    unfold spW
    rw [if_pos (show 65 + 12 * nc + 1 ≤ (65 + 12 * nc + 0) + 1 + j ∧ (65 + 12 * nc + 0) + 1 + j < 65 + 12 * nc + 1 + 6 by omega), show (65 + 12 * nc + 0) + 1 + j - (65 + 12 * nc + 1) = j by omega]
  have fc : FC S (tx T8 x9) := fcT _ (fun j j1 j48 jq => by rw [tx_o j1, eT8]; dsimp only; rw [vne j48, vne jq, tx_o j1, vj j j1 jq]) (by rw [tx_2, eT8, vn])
  have fm : FM M (rx R5 y9) := ⟨(fr24.trans fr7).trans (by rw [w1] at fr9; exact fr9), fun j j0 j19 => by rw [rx_2, eR5]; dsimp only; rw [vne j0, vne j19, oj j j0 j19]⟩
  have cl : ∀ r x, fX8_takeSemicolon T8 = some (r, x) → r = 0 ∨ r = 1 → fX6_readCat S = some (r, x) := fun r x hr h01 => by
    rw [opC3, c6, Option.bind_some]
    dsimp only
    rw [fX6_readCat_125, if_neg one0, fX6_readCat_130, cw6, Option.bind_some, fX6_readCat_140, if_pos qv01, fX6_readCat_143]
    dsimp only
    rw [vne (show 48 ≠ 48 + 1 + 8 + nc by omega), tx_o (q := 48) (by omega), tx_o (q := 48 + 1 + 8 + nc) (by omega), vj 48 (by omega) (by omega), zj 48 (by omega) (by omega) (by omega) (by omega), e5, nI_1, tx_2, ← eT8, fX6_readCat_156, hr, Option.bind_some]
    exact bz_s h01
  have rl : ∀ r x, fX11_takesSemicolon R5 = some (r, x) → r = 0 ∨ r = 1 → fX11_readCat M = some (r, x) := fun r x hr h01 => by
    rw [opR3, r7, Option.bind_some]
    dsimp only
    rw [fX11_readCat_59, if_neg one0, fX11_readCat_64, gj3, gj0, gj1, tn0, tn1, tn3]
    dsimp only
    have a3 : va_up R3.2 19 (upd (R3.2 19) 1 qv) 19 3 = nI L := by rw [vat, pk_un (by omega), o19, pk_un (by omega), q19]
    have a0 : va_up R3.2 19 (upd (R3.2 19) 1 qv) 19 0 = x4 6 := by rw [vat, pk_un (by omega), o19, pk_us]
    have a1 : va_up R3.2 19 (upd (R3.2 19) 1 qv) 19 1 = qv := by rw [vat, pk_us]
    have am : (y7, va_up R3.2 19 (upd (R3.2 19) 1 qv)) = mw (y7, va_up R3.2 19 (upd (R3.2 19) 1 qv)) W := by
      unfold mw
      dsimp only
      rw [← o0, ← vne (f := R3.2) (k := 19) (v := upd (R3.2 19) 1 qv) (show 0 ≠ 19 by omega), up_self]
    rw [a3, a0, a1, am, r_addsCat (nc := nc) (by rw [hW0 0 (by omega)]; exact u.1.1) hlt, Option.bind_some, ← eW']
    have am2 : mw (y7, va_up R3.2 19 (upd (R3.2 19) 1 qv)) W' = R5 := by rw [eR5]; rfl
    rw [am2, fX11_readCat_86, hr, Option.bind_some]
    exact bz_s h01
  rcases h9 with ⟨c9, r9, ps9⟩ | ⟨c9, r9, er9⟩
  case inr => exact ⟨_, _, 0, cl _ _ c9 (Or.inl rfl), rl _ _ r9 (Or.inl rfl), fc, fm, Or.inr ⟨rfl, by rw [tx_1, rx_11]; exact er9⟩⟩
  obtain ⟨f1, f2, f3, f4, f5, f6, f7⟩ := tk_run k1 (Or.inl rfl)
  have hL1 : 1 ≤ L := by rw [eL]; exact Nat.sub_pos_of_lt f5
  have hL6 : L ≤ 6 := by rw [eL]; exact l6
  have W'0 : W' 0 = nI (nc + 1) := by rw [eW', pk_us]
  have W'7 : W' (65 + 12 * nc + 7) = x4 6 := by rw [eW', pk_un (by omega), pk_un (by omega), pk_us]
  have W'8 : W' (65 + 12 * nc + 8) = qv := by rw [eW', pk_un (by omega), pk_us]
  have W'o : ∀ q, q ≠ 0 → (q < (65 + 12 * nc + 0) ∨ (65 + 12 * nc + 9) ≤ q) → W' q = M.2 0 q := fun q q0 hq => by rw [eW', pk_un q0, pk_un (by omega), pk_un (by omega), pk_un (by omega), hW0 q (by omega)]
  refine ⟨_, _, 1, cl _ _ c9 (Or.inr rfl), rl _ _ r9 (Or.inr rfl), fc, fm, Or.inl ⟨rfl, p9, nc + 1, ns, nh, ?_, ?_, ?_, ?_⟩⟩
  · have a1 : tkD (KM (M.2 8)) n s ≤ p2 := hp2
    have a2 : p4 ≤ z5 := by rw [ez5]; exact skp_ge
    have a3 := tkD_ge (K := KM (M.2 8)) (n := n) (s := z5)
    omega
  · rw [tx_1, tx_b, rx_11, rx_2]; exact ps9
  · rw [rx_2, w0]
    have tq : T8.1 (48 + (9 + nc)) = upd (upd (upd (upd (upd (S.1 (48 + 1 + 8 + nc)) 3 0) 4 0) 5 0) 1 (x4 6)) 2 qv := by
      rw [kq, eT8]; dsimp only; rw [vne (by omega), vat, vq, zq]
    refine g.addCat (nc := nc) (bs := bsW (M.2 8) z L) (by rw [u.nS]; exact u.2.1.2) u.1.1 hlt (fun o f ho hX => ?_) (fun f hf1 hf5 => ?_) ?_ (fun o ho on => ?_) ?_ W'0 (fun q q0 hq => W'o q q0 (by omega)) ?_
    · rw [tx_o (by omega)]
      by_cases e : o = 9 + nc
      · subst e
        rw [tq, kq, pk_un (by omega), pk_un (by omega), pk_un (by omega), pk_un (by omega), pk_un (by omega)]
      · by_cases e0 : o = 0
        · subst e0
          rw [Nat.add_zero, eT8]; dsimp only; rw [vat, pk_un (by omega)]
        · rw [eT8]; dsimp only; rw [vne (by omega), vne (by omega), tx_o (by omega), vj _ (by omega) (by omega), zj _ (by omega) (by omega) (by omega) (by omega)]
    · rw [tx_o (by omega), tq]
      rcases (show f = 1 ∨ f = 2 ∨ f = 3 ∨ f = 4 ∨ f = 5 by omega) with e | e | e | e | e
      · subst e; rw [pk_un (by omega), pk_us]; exact W'7.symm
      · subst e; rw [pk_us]; exact W'8.symm
      · subst e; rw [pk_un (by omega), pk_un (by omega), pk_un (by omega), pk_un (by omega), pk_us, W'o _ (by omega) (by omega)]; exact (u.2.2.2.2.1 nc hlt 9 (by omega) (by omega)).symm
      · subst e; rw [pk_un (by omega), pk_un (by omega), pk_un (by omega), pk_us, W'o _ (by omega) (by omega)]; exact (u.2.2.2.2.1 nc hlt 10 (by omega) (by omega)).symm
      · subst e; rw [pk_un (by omega), pk_un (by omega), pk_us, W'o _ (by omega) (by omega)]; exact (u.2.2.2.2.1 nc hlt 11 (by omega) (by omega)).symm
    · rw [tx_o (by omega), eT8]; dsimp only; rw [vat, pk_us]
    · rw [tx_2, eT8]; dsimp only; rw [vn, znj _ (by omega)]
    · rw [tx_2, eT8]; dsimp only; rw [vn, kq, zn]
    · refine nm_new hL1 hL6 (fun j h1 h2 => f7 j h1 ?_) (fun j hj => ?_) ?_
      · rw [eL] at h2
        have : z + (tkD (KM (M.2 8)) n z - z) = tkD (KM (M.2 8)) n z := by have : z ≤ tkD (KM (M.2 8)) n z := tkD_ge; omega
        rw [this] at h2; exact h2
      · rw [eW', pk_un (by omega), pk_un (by omega), pk_un (by omega), pk_un (by omega), hW1 j hj]
      · rw [eW', pk_un (by omega), pk_un (by omega), pk_un (by omega), pk_us]
  · rw [rx_2, w0]
    exact u.cat hlt W'0 W'o (by rw [W'8]; exact qv01)
end CATS
