/-! a known name; the setup's shift -/
section SHIFT
variable {S : CS} {M : MS} {n p s nc ns nh : Nat} {w : Wd}
theorem s_known {A B v : Int32} (h : PS n p (S.1 1) (S.1 2) M.1 (M.2 8)) (es : s = skp (KM (M.2 8)) n p) (hv : AtR M.1 (M.2 8) (KM (M.2 8)) n s → tkK (KM (M.2 8)) n s = 1 → tkD (KM (M.2 8)) n s - s ≤ 6 → fX11_nameHere M A B = some v) : ∃ x', (fX8_takeName S = some (0, tx S x') ∧ ∃ y', fX11_takesKnown M A B = some (0, rx M y') ∧ Er x' y' ∧ FrR M.1 y') ∨ (fX8_takeName S = some (1, tx S x') ∧ SY n s x' (S.1 2) M.1 (M.2 8) ∧ (v = -1 → ∃ x2 y2, fX8_fail (tx S x') 4 = some (0, tx S x2) ∧ fX11_takesKnown M A B = some (0, (y2, va_up M.2 19 (upd (M.2 19) 0 v))) ∧ Er x2 y2 ∧ FrR M.1 y2) ∧ (v ≠ -1 → ∃ y2 p', fX11_takesKnown M A B = some (1, (y2, va_up M.2 19 (upd (M.2 19) 0 v))) ∧ PS n p' x' (S.1 2) y2 (M.2 8) ∧ p ≤ p' ∧ FrR M.1 y2)) := by
  obtain ⟨x', ⟨c1, r1, sy, k1, l6⟩ | ⟨c1, y', r1, er, fr⟩⟩ := s_name h
  · rw [← es] at sy k1 l6
    refine ⟨x', Or.inr ⟨c1, sy, ?_, ?_⟩⟩
    · intro e
      have sy2 : SY n s x' (S.1 2) (M.1, va_up M.2 19 (upd (M.2 19) 0 v)).1 ((M.1, va_up M.2 19 (upd (M.2 19) 0 v)).2 8) := by
        dsimp only
        rw [vne (by omega)]; exact sy
      obtain ⟨x2, y2, f1, f2, er, fr⟩ := s_fail (S := S) (M := (M.1, va_up M.2 19 (upd (M.2 19) 0 v))) (k := 4) sy2
      refine ⟨x2, y2, f1, ?_, er, fr⟩
      unfold fX11_takesKnown fX11_takesKnown_0
      rw [r1, Option.bind_some]
      dsimp only
      rw [fX11_takesKnown_4, if_neg one0, fX11_takesKnown_9, hv sy.2.2.2.1 k1 l6, Option.bind_some, fX11_takesKnown_20, gj0, fX11_takesKnown_21, gj0, tn0]
      rw [if_pos (by dsimp only; rw [vat, pk_us]; exact e), fX11_takesKnown_31, f2, Option.bind_some]
      rfl
    · intro e
      have sy2 : SY n s x' (S.1 2) (M.1, va_up M.2 19 (upd (M.2 19) 0 v)).1 ((M.1, va_up M.2 19 (upd (M.2 19) 0 v)).2 8) := by
        dsimp only
        rw [vne (by omega)]; exact sy
      obtain ⟨y2, n1, n2, n3, n4⟩ := s_nxt sy2
      dsimp only at n2
      rw [vne (by omega)] at n2
      refine ⟨y2, _, ?_, n2, by rw [es]; exact np_ge, n3⟩
      unfold fX11_takesKnown fX11_takesKnown_0
      rw [r1, Option.bind_some]
      dsimp only
      rw [fX11_takesKnown_4, if_neg one0, fX11_takesKnown_9, hv sy.2.2.2.1 k1 l6, Option.bind_some, fX11_takesKnown_20, gj0, fX11_takesKnown_21, gj0, tn0]
      rw [if_neg (by dsimp only; rw [vat, pk_us]; exact e), fX11_takesKnown_37, n1, Option.bind_some]
      rfl
  · refine ⟨x', Or.inl ⟨c1, y', ?_, er, fr⟩⟩
    unfold fX11_takesKnown fX11_takesKnown_0
    rw [r1, Option.bind_some]
    rfl
theorem SU.shift {c h : Nat} (u : SU nc ns nh w) (h12 : nh < 12) (hc : c < nc) : SU nc ns (nh + 1) (upd (upd (upd w (233 + 2 * nh) (nI c)) (233 + 2 * nh + 1) (nI h)) 2 (nI (nh + 1))) := by
  obtain ⟨⟨a1, a2⟩, ⟨b1, b2⟩, ⟨c1, c2⟩, ⟨d1, d2, d3⟩, e, f, g, hh, i, jj, kk, l⟩ := u
  have un : ∀ q, q ≠ 2 → q ≠ 233 + 2 * nh → q ≠ 233 + 2 * nh + 1 → (upd (upd (upd w (233 + 2 * nh) (nI c)) (233 + 2 * nh + 1) (nI h)) 2 (nI (nh + 1))) q = w q := fun q a b d => by rw [pk_un a, pk_un d, pk_un b]
  refine ⟨⟨?_, a2⟩, ⟨?_, b2⟩, ⟨pk_us, by omega⟩, ⟨?_, ?_, fun q h1 h2 => ?_⟩, fun k hk j h1 h2 => ?_, fun k hk => ?_, ?_, ?_, fun j hj => ?_, fun i hi => ?_, fun k hk => ?_, fun k hk => ?_⟩
  · rw [un _ (by omega) (by omega) (by omega)]; exact a1
  · rw [un _ (by omega) (by omega) (by omega)]; exact b1
  · rw [un _ (by omega) (by omega) (by omega)]; exact d1
  · rw [un _ (by omega) (by omega) (by omega)]; exact d2
  · rw [un _ (by omega) (by omega) (by omega)]; exact d3 q h1 h2
  · rw [un _ (by omega) (by omega) (by omega)]; exact e k hk j h1 h2
  · rw [un _ (by omega) (by omega) (by omega)]; exact f k hk
  · rw [un _ (by omega) (by omega) (by omega)]; exact g
  · rw [un _ (by omega) (by omega) (by omega)]; exact hh
  · by_cases z : j = nh
    · subst z
      exact ⟨c, hc, by rw [pk_un (by omega), pk_un (by omega), pk_us]⟩
    · rw [un _ (by omega) (by omega) (by omega)]; exact i j (by omega)
  · rw [un _ (by omega) (by omega) (by omega)]; exact jj i hi
  · rw [un _ (by omega) (by omega) (by omega)]; exact kk _ hk
  · rw [un _ (by omega) (by omega) (by omega), un _ (by omega) (by omega) (by omega)]; exact l k hk
theorem r_addsShift {c h : Int32} (h2 : M.2 0 2 = nI nh) (h12 : nh < 12) : fX11_addsShift M c h = some (M.1, va_up M.2 0 (upd (upd (upd (M.2 0) (233 + 2 * nh) c) (233 + 2 * nh + 1) h) 2 (nI (nh + 1)))) := by
  unfold fX11_addsShift fX11_addsShift_0
  rw [gi2, tn2, h2, show (233 + 2 * nI nh : Int32) = nI (233 + 2 * nh) from nI_b 233 2 nh, gi_m (by omega) (by omega), nI_c (by omega), fX11_addsShift_18, gi2, tn2]
  simp only [vat]
  rw [pk_un (by omega), h2, show (233 + 2 * nI nh + 1 : Int32) = nI (233 + 2 * nh + 1) from nI_a 233 2 nh 1, gi_m (by omega) (by omega), nI_c (by omega), up_up, fX11_addsShift_38, gi2, gi2, tn2]
  simp only [vat]
  rw [pk_un (by omega), pk_un (by omega), h2, nI_1, up_up, fX11_addsShift_48]
theorem s_shift (sy : SY n s (S.1 1) (S.1 2) M.1 (M.2 8)) (h3 : s + 3 ≤ tkD (KM (M.2 8)) n s) (g : GR S 48 (M.2 0)) (u : SU nc ns nh (M.2 0)) : ∃ S' M' r, fX6_readShift S = some (r, S') ∧ fX11_readShift M = some (r, M') ∧ Done S M n s S' M' r := by
  have e7 : S.1 48 7 = nI nh := by rw [g.at0 (f := 7) (q := 2) (by unfold cm; simp) (by omega)]; exact u.2.2.1.1
  have e5 : S.1 48 5 = nI nc := by rw [g.at0 (f := 5) (q := 0) (by unfold cm; simp) (by omega)]; exact u.1.1
  have n8 := u.1.2
  have h12 := u.2.2.1.2
  by_cases full : nh = 12
  · obtain ⟨x2, y2, f1, f2, er, fr⟩ := s_fail (S := S) (k := 5) sy
    rw [tx_self] at f1
    refine ⟨tx S x2, rx M y2, 0, ?_, ?_, fun q q1 q3 q4 q5 => ⟨tx_o q1, rfl⟩, ⟨fr, fun j _ _ => rfl⟩, Or.inr ⟨rfl, by rw [tx_1, rx_11]; exact er⟩⟩
    · unfold fX6_readShift fX6_readShift_0
      rw [e7, if_neg (show ¬ nI nh < (12 : Int32) from nI_nlt (b := 12) (by omega) (by omega)), fX6_readShift_12, f1, Option.bind_some]
      rfl
    · unfold fX11_readShift fX11_readShift_0
      rw [gi2, tn2, u.2.2.1.1, if_pos (show nI nh = (12 : Int32) by rw [full]; rfl), fX11_readShift_11, f2, Option.bind_some]
      rfl
  have hlt : nh < 12 := by omega
  obtain ⟨y1, n1, ps1, fr1, -⟩ := s_nxt sy
  obtain ⟨v, ev⟩ : ∃ v, v = fnd (fun i => wq (M.2 8) (KM (M.2 8)) n (skp (KM (M.2 8)) n (tkD (KM (M.2 8)) n s)) (S.2 (48 + (9 + i)))) nc 0 := ⟨_, rfl⟩
  have hN : ∀ i, i < nc → NmOk (S.2 (48 + (9 + i))) (M.2 0) (65 + 12 * i) := fun i hi => g.2.1 i (by rw [u.nC]; exact hi)
  have hv : ∀ {z : Nat}, z = skp (KM (M.2 8)) n (tkD (KM (M.2 8)) n s) → AtR (rx M y1).1 ((rx M y1).2 8) (KM ((rx M y1).2 8)) n z → tkK (KM ((rx M y1).2 8)) n z = 1 → tkD (KM ((rx M y1).2 8)) n z - z ≤ 6 → fX11_nameHere (rx M y1) 65 0 = some v := fun {z} ez a b c => by
    rw [ev, ← ez]
    exact r_nameHere (M := rx M y1) (a := 65) (m := 0) (nc := nc) (F := fun i => S.2 (48 + (9 + i))) a sy.1.1 b c (by omega) u.1.1 n8 (by omega) hN
  have opR : fX11_readShift M = bz ((fX11_takesKnown (rx M y1) 65 0).bind fun q => fX11_readShift_28 q.2 q.1) := by
    unfold fX11_readShift fX11_readShift_0
    rw [gi2, tn2, u.2.2.1.1, if_neg (show ¬ nI nh = (12 : Int32) from fun z => full ((nI_eq (b := 12) (by omega) (by omega)).mp z)), fX11_readShift_17, n1, Option.bind_some, fX11_readShift_21]
  have opC : fX6_readShift S = bz ((fX8_takeName S).bind fun q => fX6_readShift_28 q.2 q.1) := by
    unfold fX6_readShift fX6_readShift_0
    rw [e7, if_pos (show nI nh < (12 : Int32) from nI_lt (b := 12) hlt (by omega)), fX6_readShift_21]
  obtain ⟨x1, ⟨c1, y', r1, er, fr⟩ | ⟨c1, sy1, hno, hyes⟩⟩ := s_known (S := S) (M := rx M y1) (A := 65) (B := 0) (v := v) ps1 rfl (hv rfl)
  · refine ⟨tx S x1, rx M y', 0, ?_, ?_, fun q q1 q3 q4 q5 => ⟨tx_o q1, rfl⟩, ⟨fr1.trans fr, fun j _ _ => rfl⟩, Or.inr ⟨rfl, by rw [tx_1, rx_11]; exact er⟩⟩
    · rw [opC, c1, Option.bind_some]; rfl
    · rw [opR, r1, Option.bind_some, rx_rx]; rfl
  have cn : fX2_catNamed (tx S x1) 48 = some v := by
    rw [ev]
    exact c_catNamed (S := tx S x1) (t := 48) (nc := nc) (y := y1) (by rw [tx_1, tx_b]; exact sy1) (by rw [tx_o (by omega)]; exact e5) n8 (fun i hi => (hN i hi).2.1)
  rcases fnd_in (g := fun i => wq (M.2 8) (KM (M.2 8)) n (skp (KM (M.2 8)) n (tkD (KM (M.2 8)) n s)) (S.2 (48 + (9 + i)))) nc 0 with hm | ⟨c, -, hc, hm⟩
  · rw [← ev] at hm
    obtain ⟨x2, y2, f1, f2, er, fr⟩ := hno hm
    refine ⟨tx S x2, (y2, va_up (rx M y1).2 19 (upd ((rx M y1).2 19) 0 v)), 0, ?_, by rw [opR, f2]; rfl, fun q q1 q3 q4 q5 => ⟨tx_o q1, rfl⟩, ⟨fr1.trans fr, fun j j0 j19 => by dsimp only; rw [vne j19, rx_2]⟩, Or.inr ⟨rfl, by rw [tx_1]; exact er⟩⟩
    rw [opC, c1, Option.bind_some]
    dsimp only
    rw [fX6_readShift_28, if_neg one0, fX6_readShift_33, cn, Option.bind_some, fX6_readShift_44, if_pos hm, fX6_readShift_50, f1, Option.bind_some]
    rfl
  rw [← ev] at hm
  rw [Nat.zero_add] at hc
  have hv1 : ¬ v = -1 := by rw [hm]; exact nI_nem (by omega)
  obtain ⟨y2, p2, r2, ps2, hp2, fr2⟩ := hyes hv1
  obtain ⟨Mk, eMk⟩ : ∃ Mk : MS, Mk = (y2, va_up (rx M y1).2 19 (upd ((rx M y1).2 19) 0 v)) := ⟨_, rfl⟩
  have mk8 : Mk.2 8 = M.2 8 := by rw [eMk]; dsimp only; rw [vne (by omega), rx_2]
  have mk19 : Mk.2 19 0 = v := by rw [eMk]; dsimp only; rw [vat, pk_us]
  have mk0 : Mk.2 0 = M.2 0 := by rw [eMk]; dsimp only; rw [vne (by omega), rx_2]
  have mkj : ∀ j, j ≠ 0 → j ≠ 19 → Mk.2 j = M.2 j := fun j _ j19 => by rw [eMk]; dsimp only; rw [vne j19, rx_2]
  have mk1 : Mk.1 = y2 := by rw [eMk]
  rw [← eMk] at r2
  have opC2 : fX6_readShift S = bz ((fX8_takeNumber (tx S x1) 1 24).bind fun q => fX6_readShift_69 q.2 v q.1) := by
    rw [opC, c1, Option.bind_some]
    dsimp only
    rw [fX6_readShift_28, if_neg one0, fX6_readShift_33, cn, Option.bind_some, fX6_readShift_44, if_neg hv1, fX6_readShift_59]
  have opR2 : fX11_readShift M = bz ((fX11_takes Mk 1 1 24).bind fun q => fX11_readShift_39 q.2 q.1) := by
    rw [opR, r2, Option.bind_some]
    dsimp only
    rw [fX11_readShift_28, if_neg one0, fX11_readShift_31]
  obtain ⟨x3, y3, p3, fr3, hp3, ⟨c3, r3, ps3, rg⟩ | ⟨c3, r3, er⟩⟩ := s_takes (M := Mk) (S := tx S x1) (n := n) (p := p2) (k := 1) (kk := 1) (lo := 1) (hi := 24) rfl (by omega) (by rw [tx_1, tx_b, mk1, mk8]; exact ps2)
  · obtain ⟨h, -, h24, eh⟩ := rg_nat (a := 1) (b := 24) (by omega) (by omega) rg
    rw [tx_tx] at c3
    obtain ⟨S2, eS2⟩ : ∃ S2 : CS, S2 = (va_up (va_up (va_up (tx S x3).1 (48 + 3 + 20 + nh) (upd ((tx S x3).1 (48 + 3 + 20 + nh)) 0 v)) (48 + 3 + 20 + nh) (upd (va_up (tx S x3).1 (48 + 3 + 20 + nh) (upd ((tx S x3).1 (48 + 3 + 20 + nh)) 0 v) (48 + 3 + 20 + nh)) 1 (x3 6))) 48 (upd (S.1 48) 7 (nI (nh + 1))), S.2) := ⟨_, rfl⟩
    obtain ⟨W, eW⟩ : ∃ W : Wd, W = upd (upd (upd (M.2 0) (233 + 2 * nh) v) (233 + 2 * nh + 1) (x3 6)) 2 (nI (nh + 1)) := ⟨_, rfl⟩
    obtain ⟨M2, eM2⟩ : ∃ M2 : MS, M2 = (y3, va_up (va_up Mk.2 19 (upd (Mk.2 19) 1 (x3 6))) 0 W) := ⟨_, rfl⟩
    have a1 : S2.1 1 = x3 := by rw [eS2]; dsimp only; rw [vne (by omega), vne (by omega), vne (by omega), tx_1]
    have a2 : S2.1 2 = S.1 2 := by rw [eS2]; dsimp only; rw [vne (by omega), vne (by omega), vne (by omega), tx_b]
    have b8 : M2.2 8 = M.2 8 := by rw [eM2]; dsimp only; rw [vne (by omega), vne (by omega), mk8]
    have b1 : M2.1 = y3 := by rw [eM2]
    have b0 : M2.2 0 = W := by rw [eM2]; dsimp only; rw [vat]
    obtain ⟨x4, y4, p4, fr4, hp4, h⟩ := s_semi' (S := S2) (M := M2) (n := n) (p := p3) (by rw [a1, a2, b8, b1]; rw [tx_b, mk8] at ps3; exact ps3)
    have fc : FC S (tx S2 x4) := fun q q1 q3 q4 q5 => by rw [tx_o q1, tx_2, eS2]; exact ⟨by dsimp only; rw [vne (by omega), vne (by omega), vne (by omega), tx_o q1], rfl⟩
    have fm : FM M (rx M2 y4) := ⟨((fr1.trans fr2).trans (by rw [mk1] at fr3; exact fr3)).trans (by rw [b1] at fr4; exact fr4), fun j j0 j19 => by rw [rx_2, eM2]; dsimp only; rw [vne j0, vne j19, mkj j j0 j19]⟩
    have e7b : ∀ y, va_up (tx S x3).1 (48 + 3 + 20 + nh) y 48 7 = nI nh := fun y => by rw [vne (by omega), tx_o (by omega)]; exact e7
    have e16 : ∀ y, va_up (tx S x3).1 (48 + 3 + 20 + nh) y 1 6 = x3 6 := fun y => by rw [vne (by omega), tx_1]
    have cl : ∀ r x, fX8_takeSemicolon S2 = some (r, x) → r = 0 ∨ r = 1 → fX6_readShift S = some (r, x) := fun r x hr h01 => by
      rw [opC2, c3, Option.bind_some]
      dsimp only
      rw [fX6_readShift_69, if_neg one0, fX6_readShift_74, tx_o (by omega), e7, gi_m hlt (by omega), nI_c (by omega), fX6_readShift_93]
      simp only [e7b, e16]
      rw [gi_m hlt (by omega), nI_c (by omega), fX6_readShift_118]
      dsimp only
      rw [vne (show 48 ≠ 48 + 3 + 20 + nh by omega), vne (show 48 ≠ 48 + 3 + 20 + nh by omega), tx_o (q := 48) (by omega), e7, nI_1, tx_2, ← eS2, fX6_readShift_131, hr, Option.bind_some]
      exact bz_s h01
    have rl : ∀ r x, fX11_takesSemicolon M2 = some (r, x) → r = 0 ∨ r = 1 → fX11_readShift M = some (r, x) := fun r x hr h01 => by
      rw [opR2, r3, Option.bind_some]
      dsimp only
      rw [fX11_readShift_39, if_neg one0, fX11_readShift_44, gj0, gj1, tn0, tn1]
      dsimp only
      rw [vat, pk_un (by omega), pk_us, mk19, r_addsShift (nh := nh) (by dsimp only; rw [vne (by omega), mk0]; exact u.2.2.1.1) hlt, Option.bind_some]
      dsimp only
      rw [vne (by omega), mk0, ← eW, ← eM2, fX11_readShift_60, hr, Option.bind_some]
      exact bz_s h01
    rcases h with ⟨c5, r5, ps5⟩ | ⟨c5, r5, er5⟩
    · refine ⟨_, _, 1, cl _ _ c5 (Or.inr rfl), rl _ _ r5 (Or.inr rfl), fc, fm, Or.inl ⟨rfl, p4, nc, ns, nh + 1, by omega, ?_, ?_, ?_⟩⟩
      · rw [tx_1, tx_b, rx_11, rx_2]; exact ps5
      · rw [rx_2, b0]
        refine g.addShift (nh := nh) (c := v) (h := x3 6) (by rw [u.nC]; exact n8) (by rw [u.nS]; exact u.2.1.2) u.2.2.1.1 hlt (fun o f ho hX => ?_) ?_ ?_ ?_ (fun o ho => by rw [tx_2, eS2]) eW
        · rw [tx_o (by omega), eS2]
          dsimp only
          by_cases e : o = 0
          · subst e
            rw [Nat.add_zero, vat, pk_un (by omega)]
          · rw [vne (by omega)]
            by_cases e2 : o = 23 + nh
            · subst e2
              rw [show 48 + (23 + nh) = 48 + 3 + 20 + nh by omega, vat, vat, pk_un (by omega), pk_un (by omega), tx_o (by omega)]
            · rw [vne (by omega), vne (by omega), tx_o (by omega)]
        · rw [tx_o (by omega), eS2]
          dsimp only
          rw [vne (by omega), show 48 + (23 + nh) = 48 + 3 + 20 + nh by omega, vat, vat, pk_un (by omega), pk_us]
        · rw [tx_o (by omega), eS2]
          dsimp only
          rw [vne (by omega), show 48 + (23 + nh) = 48 + 3 + 20 + nh by omega, vat, pk_us]
        · rw [tx_o (by omega), eS2]
          dsimp only
          rw [vat, pk_us]
      · rw [rx_2, b0, eW, hm, eh]
        exact u.shift hlt (by omega)
    · exact ⟨_, _, 0, cl _ _ c5 (Or.inl rfl), rl _ _ r5 (Or.inl rfl), fc, fm, Or.inr ⟨rfl, by rw [tx_1, rx_11]; exact er5⟩⟩
  · rw [tx_tx] at c3
    refine ⟨tx S x3, rx Mk y3, 0, ?_, ?_, fun q q1 q3 q4 q5 => ⟨tx_o q1, rfl⟩, ⟨(fr1.trans fr2).trans (by rw [mk1] at fr3; exact fr3), fun j j0 j19 => by rw [rx_2]; exact mkj j j0 j19⟩, Or.inr ⟨rfl, by rw [tx_1, rx_11]; exact er⟩⟩
    · rw [opC2, c3, Option.bind_some]
      rfl
    · rw [opR2, r3, Option.bind_some]
      rfl
end SHIFT
