/-! the setup's sack, both sides -/
section SACKS
variable {S : CS} {M : MS} {n p s nc ns nh : Nat} {w : Wd}
theorem SU.sack {w' : Wd} (u : SU nc ns nh w) (h6 : ns < 6) (h0 : w' 1 = nI (ns + 1)) (eo : ∀ q, q ≠ 1 → (q < (161 + 12 * ns + 0) ∨ (161 + 12 * ns + 10) ≤ q) → w' q = w q) (hp : w' (161 + 12 * ns + 9) = 0 ∨ w' (161 + 12 * ns + 9) = 1) (hg : ∃ g, g ≤ 9999 ∧ w' (161 + 12 * ns + 7) = nI g) (hm : ∃ m, m ≤ 99 ∧ w' (161 + 12 * ns + 8) = nI m) : SU nc (ns + 1) nh w' := by
  obtain ⟨⟨a1, a2⟩, ⟨b1, b2⟩, ⟨c1, c2⟩, ⟨d1, d2, d3⟩, e, f, g, hh, i, jj, kk, l⟩ := u
  refine ⟨⟨?_, a2⟩, ⟨h0, by omega⟩, ⟨?_, c2⟩, ⟨?_, ?_, fun q h1 h2 => ?_⟩, fun k hk j h1 h2 => ?_, fun k hk => ?_, ?_, ?_, fun j hj => ?_, fun i hi => ?_, fun k hk => ?_, fun k hk => ?_⟩
  · rw [eo _ (by omega) (by omega)]; exact a1
  · rw [eo _ (by omega) (by omega)]; exact c1
  · rw [eo _ (by omega) (by omega)]; exact d1
  · rw [eo _ (by omega) (by omega)]; exact d2
  · rw [eo _ (by omega) (by omega)]; exact d3 q h1 h2
  · rw [eo _ (by omega) (by omega)]; exact e k hk j h1 h2
  · rw [eo _ (by omega) (by omega)]; exact f k hk
  · rw [eo _ (by omega) (by omega)]; exact g
  · rw [eo _ (by omega) (by omega)]; exact hh
  · rw [eo _ (by omega) (by omega)]
    exact i j hj
  · rw [eo _ (by omega) (by omega)]; exact jj i hi
  · by_cases z : k = ns
    · subst z; exact hp
    · rw [eo _ (by omega) (by omega)]; exact kk k (by omega)
  · by_cases z : k = ns
    · subst z; exact ⟨hm, hg⟩
    · rw [eo _ (by omega) (by omega), eo _ (by omega) (by omega)]; exact l k (by omega)
theorem r_addsSack {a b c d : Int32} (h0 : w 1 = nI ns) (h6 : ns < 6) : fX11_addsSack (mw M w) a b c d = some (mw M (upd (upd (upd (upd (upd w (161 + 12 * ns + 0) a) (161 + 12 * ns + 7) b) (161 + 12 * ns + 8) c) (161 + 12 * ns + 9) d) 1 (nI (ns + 1)))) := by
  unfold fX11_addsSack fX11_addsSack_0
  rw [gi1, tn1, mw_w, h0, ps0 h6, Option.bind_some, fX11_addsSack_16, ps7 h6, Option.bind_some, fX11_addsSack_25, ps8 h6, Option.bind_some, fX11_addsSack_34, ps9 h6, Option.bind_some, fX11_addsSack_44, gi1, gi1, tn1, mw_w, mw_up, pk_un (by omega), pk_un (by omega), pk_un (by omega), pk_un (by omega), h0, nI_1, fX11_addsSack_54]
theorem s_sack (sy : SY n s (S.1 1) (S.1 2) M.1 (M.2 8)) (h3 : s + 3 ≤ tkD (KM (M.2 8)) n s) (g : GR S 48 (M.2 0)) (u : SU nc ns nh (M.2 0)) : ∃ S' M' r, fX6_readSack S = some (r, S') ∧ fX11_readSack M = some (r, M') ∧ Done S M n s S' M' r := by
  have e5 : S.1 48 6 = nI ns := by rw [g.at0 (f := 6) (q := 1) (by unfold cm; simp) (by omega)]; exact u.2.1.1
  have n8 := u.2.1.2
  by_cases full : ns = 6
  · obtain ⟨x2, y2, f1, f2, er, fr⟩ := s_fail (S := S) (k := 5) sy
    rw [tx_self] at f1
    refine ⟨tx S x2, rx M y2, 0, ?_, ?_, fun q q1 q3 q4 q5 => ⟨tx_o q1, rfl⟩, ⟨fr, fun j _ _ => rfl⟩, Or.inr ⟨rfl, by rw [tx_1, rx_11]; exact er⟩⟩
    · unfold fX6_readSack fX6_readSack_0
      rw [e5, if_neg (show ¬ nI ns < (6 : Int32) from nI_nlt (b := 6) (by omega) (by omega)), fX6_readSack_12, f1, Option.bind_some]
      rfl
    · unfold fX11_readSack fX11_readSack_0
      rw [gi1, tn1, u.2.1.1, if_pos (show nI ns = (6 : Int32) by rw [full]; rfl), fX11_readSack_11, f2, Option.bind_some]
      rfl
  have hlt : ns < 6 := by omega
  obtain ⟨y1, n1, ps1, fr1, -⟩ := s_nxt sy
  obtain ⟨z, ez⟩ : ∃ z, z = skp (KM (M.2 8)) n (tkD (KM (M.2 8)) n s) := ⟨_, rfl⟩
  obtain ⟨v, ev⟩ : ∃ v, v = fnd (fun i => wq (M.2 8) (KM (M.2 8)) n z (S.2 (48 + (17 + i)))) ns 0 := ⟨_, rfl⟩
  have hN : ∀ i, i < ns → NmOk (S.2 (48 + (17 + i))) (M.2 0) (161 + 12 * i) := fun i hi => g.2.2 i (by rw [u.nS]; exact hi)
  have opR : fX11_readSack M = bz ((fX11_takesNewName (rx M y1) 161 1).bind fun q => fX11_readSack_29 q.2 q.1) := by
    unfold fX11_readSack fX11_readSack_0
    rw [gi1, tn1, u.2.1.1, if_neg (show ¬ nI ns = (6 : Int32) from fun z => full ((nI_eq (b := 6) (by omega) (by omega)).mp z)), fX11_readSack_17, n1, Option.bind_some, fX11_readSack_21]
  have opC : fX6_readSack S = bz ((fX8_takeName S).bind fun q => fX6_readSack_28 q.2 q.1) := by
    unfold fX6_readSack fX6_readSack_0
    rw [e5, if_pos (show nI ns < (6 : Int32) from nI_lt (b := 6) hlt (by omega)), fX6_readSack_21]
  obtain ⟨x1, ⟨c1, y', r1, er, fr⟩ | ⟨c1, sy1, k1, l6, hno, hyes⟩⟩ := s_new (S := S) (M := rx M y1) (a := 161) (m := 1) (cnt := ns) (v := v) ps1 ez (by omega) u.2.1.1 (by omega) (fun a b c => by
    rw [ev]
    exact r_nameHere (M := rx M y1) (a := 161) (m := 1) (nc := ns) (F := fun i => S.2 (48 + (17 + i))) a sy.1.1 b c (by omega) u.2.1.1 (by omega) (by omega) hN)
  · refine ⟨tx S x1, rx M y', 0, ?_, ?_, fun q q1 q3 q4 q5 => ⟨tx_o q1, rfl⟩, ⟨fr1.trans fr, fun j _ _ => rfl⟩, Or.inr ⟨rfl, by rw [tx_1, rx_11]; exact er⟩⟩
    · rw [opC, c1, Option.bind_some]; rfl
    · rw [opR, show fX11_takesNewName (rx M y1) 161 1 = _ from r1, Option.bind_some, rx_rx]; rfl
  have cn : fX2_sackNamed (tx S x1) 48 = some v := by
    rw [ev]
    exact c_sackNamed (S := tx S x1) (t := 48) (nc := ns) (y := y1) (by rw [tx_1, tx_b]; exact sy1) (by rw [tx_o (by omega)]; exact e5) n8 (fun i hi => (hN i hi).2.1)
  by_cases hm : v = -1
  case neg =>
    obtain ⟨x2, y2, f1, f2, er, fr⟩ := hno hm
    refine ⟨tx S x2, rx M y2, 0, ?_, ?_, fun q q1 q3 q4 q5 => ⟨tx_o q1, rfl⟩, ⟨fr1.trans fr, fun j j0 j19 => rfl⟩, Or.inr ⟨rfl, by rw [tx_1, rx_11]; exact er⟩⟩
    · rw [opC, c1, Option.bind_some]
      dsimp only
      rw [fX6_readSack_28, if_neg one0, fX6_readSack_33, cn, Option.bind_some, fX6_readSack_44, if_neg hm, fX6_readSack_48, f1, Option.bind_some]
      rfl
    · rw [opR, show fX11_takesNewName (rx M y1) 161 1 = _ from f2, Option.bind_some, rx_rx]; rfl
  obtain ⟨y2, p2, r2, ps2, hp2, fr2⟩ := hyes hm
  obtain ⟨L, eL⟩ : ∃ L, L = tkD (KM (M.2 8)) n z - z := ⟨_, rfl⟩
  obtain ⟨W, eW⟩ : ∃ W : Wd, W = spW (M.2 0) (161 + 12 * ns) z L (M.2 8) 6 := ⟨_, rfl⟩
  obtain ⟨R2, eR2⟩ : ∃ R2 : MS, R2 = (y2, va_up (va_up M.2 0 W) 19 (upd (M.2 19) 3 (nI L))) := ⟨_, rfl⟩
  have r2' : fX11_takesNewName (rx M y1) 161 1 = some (1, R2) := by
    rw [eR2, eW, eL]; exact r2
  have q8 : R2.2 8 = M.2 8 := by rw [eR2]; dsimp only; rw [vne (by omega), vne (by omega)]
  have q19 : R2.2 19 3 = nI L := by rw [eR2]; dsimp only; rw [vat, pk_us]
  have q0 : R2.2 0 = W := by rw [eR2]; dsimp only; rw [vne (by omega), vat]
  have qj : ∀ j, j ≠ 0 → j ≠ 19 → R2.2 j = M.2 j := fun j j0 j19 => by rw [eR2]; dsimp only; rw [vne j19, vne j0]
  have q1 : R2.1 = y2 := by rw [eR2]
  -- the class's name
  obtain ⟨T2, eT2⟩ : ∃ T2 : CS, T2 = (va_up (tx S x1).1 (48 + 2 + 15 + ns) (upd ((tx S x1).1 (48 + 2 + 15 + ns)) 4 0), (tx S x1).2) := ⟨_, rfl⟩
  have t1 : T2.1 1 = x1 := by rw [eT2]; dsimp only; rw [vne (by omega), tx_1]
  have t2 : T2.1 2 = S.1 2 := by rw [eT2]; dsimp only; rw [vne (by omega), tx_b]
  obtain ⟨Z, cw1, hZ⟩ := c_nameTo (S := T2) (x := x1) (q := 48 + 2 + 15 + ns) (by rw [t1, t2]; exact sy1) k1 l6
  obtain ⟨T3, eT3⟩ : ∃ T3 : CS, T3 = (Z, va_up T2.2 (48 + 2 + 15 + ns) (bsW (M.2 8) z L)) := ⟨_, rfl⟩
  have cw2 : fX8_nameTo T2 (48 + 2 + 15 + ns) = some T3 := by rw [eT3, eL]; exact cw1
  have z1 : T3.1 1 = x1 := by rw [eT3]; dsimp only; rw [hZ 1 (by omega) (by omega), t1]
  have z2 : T3.1 2 = S.1 2 := by rw [eT3]; dsimp only; rw [hZ 2 (by omega) (by omega), t2]
  have zq : T3.1 (48 + 2 + 15 + ns) = upd (S.1 (48 + 2 + 15 + ns)) 4 0 := by
    rw [eT3]; dsimp only; rw [hZ _ (by omega) (by omega), eT2]; dsimp only; rw [vat, tx_o (by omega)]
  have zj : ∀ j, j ≠ 1 → j ≠ 3 → j ≠ 4 → j ≠ 48 + 2 + 15 + ns → T3.1 j = S.1 j := fun j j1 j3 j4 jq => by
    rw [eT3]; dsimp only; rw [hZ _ j3 j4, eT2]; dsimp only; rw [vne jq, tx_o j1]
  have zn : T3.2 (48 + 2 + 15 + ns) = bsW (M.2 8) z L := by rw [eT3]; dsimp only; rw [vat]
  have znj : ∀ j, j ≠ 48 + 2 + 15 + ns → T3.2 j = S.2 j := fun j jq => by rw [eT3]; dsimp only; rw [vne jq, eT2]; rfl
  have opC2 : fX6_readSack S = bz ((fX8_takeNumber T3 0 999).bind fun q => fX6_readSack_100 q.2 (48 + 2 + 15 + ns) q.1) := by
    rw [opC, c1, Option.bind_some]
    dsimp only
    rw [fX6_readSack_28, if_neg one0, fX6_readSack_33, cn, Option.bind_some, fX6_readSack_44, if_pos hm, fX6_readSack_57, tx_o (q := 48) (by omega), e5, gi_m hlt (by omega), nI_c (by omega), ← eT2, fX6_readSack_78, cw2, Option.bind_some, fX6_readSack_89]
  have opR2 : fX11_readSack M = bz ((fX11_takes R2 0 0 999).bind fun q => fX11_readSack_41 q.2 q.1) := by
    rw [opR, r2', Option.bind_some]
    dsimp only
    rw [fX11_readSack_29, if_neg one0, fX11_readSack_32]
  have kq : 48 + (17 + ns) = 48 + 2 + 15 + ns := by omega
  have fcT : ∀ S' : CS, (∀ j, j ≠ 1 → j ≠ 48 → j ≠ 48 + 2 + 15 + ns → S'.1 j = T3.1 j) → S'.2 = T3.2 → FC S S' := fun S' h1 h2 q a1 a3 a4 a5 => ⟨by rw [h1 q a1 (by omega) (by omega), zj q a1 a3 a4 (by omega)], by rw [h2, znj q (by omega)]⟩
  obtain ⟨x4, y4, p4, fr4, hp4, ⟨c4, r4, ps4, rg⟩ | ⟨c4, r4, er⟩⟩ := s_takes (M := R2) (S := T3) (n := n) (p := p2) (k := 0) (kk := 0) (lo := 0) (hi := 999) rfl (by omega) (by rw [z1, z2, q1, q8]; exact ps2)
  case inr =>
    refine ⟨tx T3 x4, rx R2 y4, 0, by rw [opC2, c4, Option.bind_some]; rfl, by rw [opR2, r4, Option.bind_some]; rfl, fcT _ (fun j j1 _ _ => tx_o j1) rfl, ⟨(fr1.trans fr2).trans (by rw [q1] at fr4; exact fr4), fun j j0 j19 => by rw [rx_2]; exact qj j j0 j19⟩, Or.inr ⟨rfl, by rw [tx_1, rx_11]; exact er⟩⟩
  obtain ⟨T5, eT5⟩ : ∃ T5 : CS, T5 = (va_up (tx T3 x4).1 (48 + 2 + 15 + ns) (upd (T3.1 (48 + 2 + 15 + ns)) 1 (x4 6)), T3.2) := ⟨_, rfl⟩
  obtain ⟨R3, eR3⟩ : ∃ R3 : MS, R3 = (y4, va_up R2.2 19 (upd (R2.2 19) 0 (x4 6))) := ⟨_, rfl⟩
  have v1 : T5.1 1 = x4 := by rw [eT5]; dsimp only; rw [vne (by omega), tx_1]
  have v2 : T5.1 2 = S.1 2 := by rw [eT5]; dsimp only; rw [vne (by omega), tx_b, z2]
  have vq : T5.1 (48 + 2 + 15 + ns) = upd (T3.1 (48 + 2 + 15 + ns)) 1 (x4 6) := by rw [eT5]; dsimp only; rw [vat]
  have vj : ∀ j, j ≠ 1 → j ≠ 48 + 2 + 15 + ns → T5.1 j = T3.1 j := fun j j1 jq => by rw [eT5]; dsimp only; rw [vne jq, tx_o j1]
  have vn : T5.2 = T3.2 := by rw [eT5]
  have o8 : R3.2 8 = M.2 8 := by rw [eR3]; dsimp only; rw [vne (by omega), q8]
  have o1 : R3.1 = y4 := by rw [eR3]
  have o0 : R3.2 0 = W := by rw [eR3]; dsimp only; rw [vne (by omega), q0]
  have o19 : R3.2 19 = upd (R2.2 19) 0 (x4 6) := by rw [eR3]; dsimp only; rw [vat]
  have oj : ∀ j, j ≠ 0 → j ≠ 19 → R3.2 j = M.2 j := fun j j0 j19 => by rw [eR3]; dsimp only; rw [vne j19, qj j j0 j19]
  have opC3 : fX6_readSack S = bz ((fX8_takeNumber T5 0 99).bind fun q => fX6_readSack_126 q.2 (48 + 2 + 15 + ns) q.1) := by
    rw [opC2, c4, Option.bind_some]
    dsimp only
    rw [fX6_readSack_100, if_neg one0, fX6_readSack_105, tx_o (q := 48 + 2 + 15 + ns) (by omega), tx_1, tx_2, ← eT5, fX6_readSack_116]
  have opR3 : fX11_readSack M = bz ((fX11_takes R3 1 0 99).bind fun q => fX11_readSack_52 q.2 q.1) := by
    rw [opR2, r4, ← eR3, Option.bind_some]
    dsimp only
    rw [fX11_readSack_41, if_neg one0, fX11_readSack_44]
  have fr24 : FrR M.1 R3.1 := (fr1.trans fr2).trans (by rw [q1] at fr4; rw [o1]; exact fr4)
  obtain ⟨xb, yb, pb, frb, hpb, ⟨cb, rb, psb, rgb⟩ | ⟨cb, rb, er⟩⟩ := s_takes (M := R3) (S := T5) (n := n) (p := p4) (k := 1) (kk := 1) (lo := 0) (hi := 99) rfl (by omega) (by rw [v1, v2, o1, o8]; rw [q8, z2] at ps4; exact ps4)
  case inr =>
    refine ⟨tx T5 xb, rx R3 yb, 0, by rw [opC3, cb, Option.bind_some]; rfl, by rw [opR3, rb, Option.bind_some]; rfl, fcT _ (fun j j1 _ jq => by rw [tx_o j1, vj j j1 jq]) (by rw [tx_2, vn]), ⟨fr24.trans frb, fun j j0 j19 => by rw [rx_2]; exact oj j j0 j19⟩, Or.inr ⟨rfl, by rw [tx_1, rx_11]; exact er⟩⟩
  obtain ⟨TB, eTB⟩ : ∃ TB : CS, TB = (va_up (tx T5 xb).1 (48 + 2 + 15 + ns) (upd (T5.1 (48 + 2 + 15 + ns)) 2 (xb 6)), T5.2) := ⟨_, rfl⟩
  obtain ⟨RB, eRB⟩ : ∃ RB : MS, RB = (yb, va_up R3.2 19 (upd (R3.2 19) 1 (xb 6))) := ⟨_, rfl⟩
  have vb1 : TB.1 1 = xb := by rw [eTB]; dsimp only; rw [vne (by omega), tx_1]
  have vb2 : TB.1 2 = S.1 2 := by rw [eTB]; dsimp only; rw [vne (by omega), tx_b, v2]
  have vbq : TB.1 (48 + 2 + 15 + ns) = upd (T5.1 (48 + 2 + 15 + ns)) 2 (xb 6) := by rw [eTB]; dsimp only; rw [vat]
  have vbj : ∀ j, j ≠ 1 → j ≠ 48 + 2 + 15 + ns → TB.1 j = T5.1 j := fun j j1 jq => by rw [eTB]; dsimp only; rw [vne jq, tx_o j1]
  have vbn : TB.2 = T5.2 := by rw [eTB]
  have ob8 : RB.2 8 = M.2 8 := by rw [eRB]; dsimp only; rw [vne (by omega), o8]
  have ob1 : RB.1 = yb := by rw [eRB]
  have ob0 : RB.2 0 = W := by rw [eRB]; dsimp only; rw [vne (by omega), o0]
  have ob19 : RB.2 19 = upd (R3.2 19) 1 (xb 6) := by rw [eRB]; dsimp only; rw [vat]
  have obj : ∀ j, j ≠ 0 → j ≠ 19 → RB.2 j = M.2 j := fun j j0 j19 => by rw [eRB]; dsimp only; rw [vne j19, oj j j0 j19]
  have opC4 : fX6_readSack S = bz ((fX8_takeEither TB [111, 112, 101, 110] [115, 104, 117, 116]).bind fun q => fX6_readSack_153 q.2 (48 + 2 + 15 + ns) q.1) := by
    rw [opC3, cb, Option.bind_some]
    dsimp only
    rw [fX6_readSack_126, if_neg one0, fX6_readSack_131, tx_o (q := 48 + 2 + 15 + ns) (by omega), tx_1, tx_2, ← eTB, fX6_readSack_142]
  obtain ⟨z5, ez5⟩ : ∃ z5, z5 = skp (KM (M.2 8)) n pb := ⟨_, rfl⟩
  rw [o8, v2] at psb
  have hsy := psb
  obtain ⟨t5, pc5, ar5, ee5⟩ := psb
  rw [← ez5] at ar5
  have W1 : fX11_isWord RB [111, 112, 101, 110] = some (wq (M.2 8) (KM (M.2 8)) n z5 [111, 112, 101, 110]) := by
    rw [← ob8]
    exact r_isWord (by rw [ob1, ob8]; exact ar5) t5.1 KM_lt (by decide)
  have W2 : fX11_isWord RB [115, 104, 117, 116] = some (wq (M.2 8) (KM (M.2 8)) n z5 [115, 104, 117, 116]) := by
    rw [← ob8]
    exact r_isWord (by rw [ob1, ob8]; exact ar5) t5.1 KM_lt (by decide)
  have opR4 : fX11_readSack M = bz ((fX11_takesChoice RB 2 (wq (M.2 8) (KM (M.2 8)) n z5 [111, 112, 101, 110]) (wq (M.2 8) (KM (M.2 8)) n z5 [115, 104, 117, 116])).bind fun q => fX11_readSack_76 q.2 q.1) := by
    rw [opR3, rb, ← eRB, Option.bind_some]
    dsimp only
    rw [fX11_readSack_52, if_neg one0, fX11_readSack_57, W1, Option.bind_some, fX11_readSack_66, W2, Option.bind_some, fX11_readSack_73]
  have frB : FrR M.1 RB.1 := fr24.trans (by rw [ob1]; exact frb)
  obtain ⟨x6, h6⟩ := s_either (S := TB) (M := RB) (n := n) (p := pb) (l1 := [111, 112, 101, 110]) (l2 := [115, 104, 117, 116]) (by decide) (by decide) (by rw [vb1, vb2, ob1, ob8]; exact hsy) (s := z5) (by rw [ob8]; exact ez5)
  rw [ob8] at h6
  rcases h6 with ⟨c6, nz, sy6⟩ | ⟨c6, zz, y6, f6, er, fr6⟩
  case inr =>
    refine ⟨tx TB x6, rx RB y6, 0, by rw [opC4, c6, Option.bind_some]; rfl, by rw [opR4, s_choice0 zz f6, Option.bind_some]; rfl, fcT _ (fun j j1 _ jq => by rw [tx_o j1, vbj j j1 jq, vj j j1 jq]) (by rw [tx_2, vbn, vn]), ⟨frB.trans fr6, fun j j0 j19 => by rw [rx_2]; exact obj j j0 j19⟩, Or.inr ⟨rfl, by rw [tx_1, rx_11]; exact er⟩⟩
  obtain ⟨qv, eqv⟩ : ∃ qv, qv = wq (M.2 8) (KM (M.2 8)) n z5 [111, 112, 101, 110] := ⟨_, rfl⟩
  have qv01 : qv = 0 ∨ qv = 1 := by rw [eqv]; exact wq_01
  obtain ⟨y7, r7, ps7, fr7⟩ := s_choice (M := RB) (k := 2) (kk := 2) rfl (by omega) wq_01 nz (by rw [ob8]; exact sy6)
  rw [← eqv] at r7 opR4
  rw [ob8, vb2] at ps7
  have cw6 : fX8_isWord (tx TB x6) [111, 112, 101, 110] = some qv := by
    rw [eqv]
    exact SY.cw (S := tx TB x6) (by rw [tx_1, tx_b]; exact sy6) (by decide)
  obtain ⟨T8, eT8⟩ : ∃ T8 : CS, T8 = (va_up (va_up (tx TB x6).1 (48 + 2 + 15 + ns) (upd (TB.1 (48 + 2 + 15 + ns)) 3 qv)) 48 (upd (S.1 48) 6 (nI (ns + 1))), TB.2) := ⟨_, rfl⟩
  obtain ⟨W', eW'⟩ : ∃ W' : Wd, W' = upd (upd (upd (upd (upd W (161 + 12 * ns + 0) (nI L)) (161 + 12 * ns + 7) (x4 6)) (161 + 12 * ns + 8) (xb 6)) (161 + 12 * ns + 9) qv) 1 (nI (ns + 1)) := ⟨_, rfl⟩
  obtain ⟨R5, eR5⟩ : ∃ R5 : MS, R5 = (y7, va_up (va_up RB.2 19 (upd (RB.2 19) 2 qv)) 0 W') := ⟨_, rfl⟩
  have u1 : T8.1 1 = x6 := by rw [eT8]; dsimp only; rw [vne (by omega), vne (by omega), tx_1]
  have u2 : T8.1 2 = S.1 2 := by rw [eT8]; dsimp only; rw [vne (by omega), vne (by omega), tx_b, vb2]
  have w8 : R5.2 8 = M.2 8 := by rw [eR5]; dsimp only; rw [vne (by omega), vne (by omega), ob8]
  have w1 : R5.1 = y7 := by rw [eR5]
  have w0 : R5.2 0 = W' := by rw [eR5]; dsimp only; rw [vat]
  obtain ⟨x9, y9, p9, fr9, hp9, h9⟩ := s_semi' (S := T8) (M := R5) (n := n) (p := tkD (KM (M.2 8)) n z5) (by rw [u1, u2, w1, w8]; exact ps7)
  have hW0 : ∀ q, (q < (161 + 12 * ns + 0) ∨ (161 + 12 * ns + 7) ≤ q) → W q = M.2 0 q := fun q hq => by rw [eW]; unfold spW; exact if_neg (by omega)
  have hW1 : ∀ j, j < 6 → W ((161 + 12 * ns + 0) + 1 + j) = if j < L then M.2 8 (z + j) else 0 := fun j hj => by
    rw [eW]
    unfold spW
    rw [if_pos (show 161 + 12 * ns + 1 ≤ (161 + 12 * ns + 0) + 1 + j ∧ (161 + 12 * ns + 0) + 1 + j < 161 + 12 * ns + 1 + 6 by omega), show (161 + 12 * ns + 0) + 1 + j - (161 + 12 * ns + 1) = j by omega]
  have fc : FC S (tx T8 x9) := fcT _ (fun j j1 j48 jq => by rw [tx_o j1, eT8]; dsimp only; rw [vne j48, vne jq, tx_o j1, vbj j j1 jq, vj j j1 jq]) (by rw [tx_2, eT8, vbn, vn])
  have fm : FM M (rx R5 y9) := ⟨(frB.trans fr7).trans (by rw [w1] at fr9; exact fr9), fun j j0 j19 => by rw [rx_2, eR5]; dsimp only; rw [vne j0, vne j19, obj j j0 j19]⟩
  have cl : ∀ r x, fX8_takeSemicolon T8 = some (r, x) → r = 0 ∨ r = 1 → fX6_readSack S = some (r, x) := fun r x hr h01 => by
    rw [opC4, c6, Option.bind_some]
    dsimp only
    rw [fX6_readSack_153, if_neg one0, fX6_readSack_158, cw6, Option.bind_some, fX6_readSack_168, if_pos qv01, fX6_readSack_171]
    dsimp only
    rw [vne (show 48 ≠ 48 + 2 + 15 + ns by omega), tx_o (q := 48) (by omega), tx_o (q := 48 + 2 + 15 + ns) (by omega), vbj 48 (by omega) (by omega), vj 48 (by omega) (by omega), zj 48 (by omega) (by omega) (by omega) (by omega), e5, nI_1, tx_2, ← eT8, fX6_readSack_184, hr, Option.bind_some]
    exact bz_s h01
  have rl : ∀ r x, fX11_takesSemicolon R5 = some (r, x) → r = 0 ∨ r = 1 → fX11_readSack M = some (r, x) := fun r x hr h01 => by
    rw [opR4, r7, Option.bind_some]
    dsimp only
    rw [fX11_readSack_76, if_neg one0, fX11_readSack_81, gj3, gj0, gj1, gj2, tn0, tn1, tn2, tn3]
    dsimp only
    have a3 : va_up RB.2 19 (upd (RB.2 19) 2 qv) 19 3 = nI L := by rw [vat, pk_un (by omega), ob19, pk_un (by omega), o19, pk_un (by omega), q19]
    have a0 : va_up RB.2 19 (upd (RB.2 19) 2 qv) 19 0 = x4 6 := by rw [vat, pk_un (by omega), ob19, pk_un (by omega), o19, pk_us]
    have a1 : va_up RB.2 19 (upd (RB.2 19) 2 qv) 19 1 = xb 6 := by rw [vat, pk_un (by omega), ob19, pk_us]
    have a2 : va_up RB.2 19 (upd (RB.2 19) 2 qv) 19 2 = qv := by rw [vat, pk_us]
    have am : (y7, va_up RB.2 19 (upd (RB.2 19) 2 qv)) = mw (y7, va_up RB.2 19 (upd (RB.2 19) 2 qv)) W := by
      unfold mw
      dsimp only
      rw [← ob0, ← vne (f := RB.2) (k := 19) (v := upd (RB.2 19) 2 qv) (show 0 ≠ 19 by omega), up_self]
    rw [a3, a0, a1, a2, am, r_addsSack (ns := ns) (by rw [hW0 1 (by omega)]; exact u.2.1.1) hlt, Option.bind_some, ← eW']
    have am2 : mw (y7, va_up RB.2 19 (upd (RB.2 19) 2 qv)) W' = R5 := by rw [eR5]; rfl
    rw [am2, fX11_readSack_109, hr, Option.bind_some]
    exact bz_s h01
  rcases h9 with ⟨c9, r9, ps9⟩ | ⟨c9, r9, er9⟩
  case inr => exact ⟨_, _, 0, cl _ _ c9 (Or.inl rfl), rl _ _ r9 (Or.inl rfl), fc, fm, Or.inr ⟨rfl, by rw [tx_1, rx_11]; exact er9⟩⟩
  obtain ⟨f1, f2, f3, f4, f5, f6, f7⟩ := tk_run k1 (Or.inl rfl)
  have hL1 : 1 ≤ L := by rw [eL]; exact Nat.sub_pos_of_lt f5
  have hL6 : L ≤ 6 := by rw [eL]; exact l6
  have W'0 : W' 1 = nI (ns + 1) := by rw [eW', pk_us]
  have W'7 : W' (161 + 12 * ns + 7) = x4 6 := by rw [eW', pk_un (by omega), pk_un (by omega), pk_un (by omega), pk_us]
  have W'8 : W' (161 + 12 * ns + 8) = xb 6 := by rw [eW', pk_un (by omega), pk_un (by omega), pk_us]
  have W'9 : W' (161 + 12 * ns + 9) = qv := by rw [eW', pk_un (by omega), pk_us]
  have W'o : ∀ q, q ≠ 1 → (q < (161 + 12 * ns + 0) ∨ (161 + 12 * ns + 10) ≤ q) → W' q = M.2 0 q := fun q q0 hq => by rw [eW', pk_un q0, pk_un (by omega), pk_un (by omega), pk_un (by omega), pk_un (by omega), hW0 q (by omega)]
  refine ⟨_, _, 1, cl _ _ c9 (Or.inr rfl), rl _ _ r9 (Or.inr rfl), fc, fm, Or.inl ⟨rfl, p9, nc, ns + 1, nh, ?_, ?_, ?_, ?_⟩⟩
  · have a1 : tkD (KM (M.2 8)) n s ≤ p2 := hp2
    have a2 : pb ≤ z5 := by rw [ez5]; exact skp_ge
    have a3 := tkD_ge (K := KM (M.2 8)) (n := n) (s := z5)
    omega
  · rw [tx_1, tx_b, rx_11, rx_2]; exact ps9
  · rw [rx_2, w0]
    have tq : T8.1 (48 + (17 + ns)) = upd (upd (upd (upd (S.1 (48 + 2 + 15 + ns)) 4 0) 1 (x4 6)) 2 (xb 6)) 3 qv := by
      rw [kq, eT8]; dsimp only; rw [vne (by omega), vat, vbq, vq, zq]
    refine g.addSack (ns := ns) (bs := bsW (M.2 8) z L) (by rw [u.nC]; exact u.1.2) u.2.1.1 hlt (fun o f ho hX => ?_) (fun f hf1 hf5 => ?_) ?_ (fun o ho on => ?_) ?_ W'0 (fun q q0 hq => W'o q q0 (by omega)) ?_
    · rw [tx_o (by omega)]
      by_cases e : o = 17 + ns
      · subst e
        rw [tq, kq, pk_un (by omega), pk_un (by omega), pk_un (by omega), pk_un (by omega)]
      · by_cases e0 : o = 0
        · subst e0
          rw [Nat.add_zero, eT8]; dsimp only; rw [vat, pk_un (by omega)]
        · rw [eT8]; dsimp only; rw [vne (by omega), vne (by omega), tx_o (by omega), vbj _ (by omega) (by omega), vj _ (by omega) (by omega), zj _ (by omega) (by omega) (by omega) (by omega)]
    · rw [tx_o (by omega), tq]
      rcases (show f = 1 ∨ f = 2 ∨ f = 3 ∨ f = 4 by omega) with e | e | e | e
      · subst e; rw [pk_un (by omega), pk_un (by omega), pk_us]; exact W'7.symm
      · subst e; rw [pk_un (by omega), pk_us]; exact W'8.symm
      · subst e; rw [pk_us]; exact W'9.symm
      · subst e; rw [pk_un (by omega), pk_un (by omega), pk_un (by omega), pk_us, W'o _ (by omega) (by omega)]; exact (u.2.2.2.2.2.1 ns hlt).symm
    · rw [tx_o (by omega), eT8]; dsimp only; rw [vat, pk_us]
    · rw [tx_2, eT8]; dsimp only; rw [vbn, vn, znj _ (by omega)]
    · rw [tx_2, eT8]; dsimp only; rw [vbn, vn, kq, zn]
    · refine nm_new hL1 hL6 (fun j h1 h2 => f7 j h1 ?_) (fun j hj => ?_) ?_
      · rw [eL] at h2
        have : z + (tkD (KM (M.2 8)) n z - z) = tkD (KM (M.2 8)) n z := by have : z ≤ tkD (KM (M.2 8)) n z := tkD_ge; omega
        rw [this] at h2; exact h2
      · rw [eW', pk_un (by omega), pk_un (by omega), pk_un (by omega), pk_un (by omega), pk_un (by omega), hW1 j hj]
      · rw [eW', pk_un (by omega), pk_un (by omega), pk_un (by omega), pk_un (by omega), pk_us]
  · rw [rx_2, w0]
    obtain ⟨g1, -, g2, g3⟩ := rg_nat (a := 0) (b := 999) (by omega) (by omega) rg
    obtain ⟨m1, -, m2, m3⟩ := rg_nat (a := 0) (b := 99) (by omega) (by omega) rgb
    exact u.sack hlt W'0 W'o (by rw [W'9]; exact qv01) ⟨g1, by omega, by rw [W'7]; exact g3⟩ ⟨m1, m2, by rw [W'8]; exact m3⟩
end SACKS
