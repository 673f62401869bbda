/-! the setup's statements, both sides: milk, hour, shift -/
section STMT
variable {S : CS} {M : MS} {n p s nc ns nh : Nat} {w : Wd}
theorem gj0 {α : Type} {a b : α} : (if gIn 0 4 then a else b) = a := gi_n (n := 0) (by decide) (by decide)
theorem gj1 {α : Type} {a b : α} : (if gIn 1 4 then a else b) = a := gi_n (n := 1) (by decide) (by decide)
theorem gj2 {α : Type} {a b : α} : (if gIn 2 4 then a else b) = a := gi_n (n := 2) (by decide) (by decide)
theorem gj3 {α : Type} {a b : α} : (if gIn 3 4 then a else b) = a := gi_n (n := 3) (by decide) (by decide)
theorem one0 : ¬ ((1 : Int32) = 0) := by decide
def SU (nc ns nh : Nat) (w : Wd) : Prop := (w 0 = nI nc ∧ nc ≤ 8) ∧ (w 1 = nI ns ∧ ns ≤ 6) ∧ (w 2 = nI nh ∧ nh ≤ 12) ∧ (w 5 = -1 ∧ w 6 = 0 ∧ ∀ q, 7 ≤ q → q < 17 → w q = 0) ∧ (∀ k, k < 8 → ∀ j, 9 ≤ j → j < 12 → w (65 + 12 * k + j) = 0) ∧ (∀ k, k < 6 → w (161 + 12 * k + 10) = 0) ∧ (∃ m, m ≤ 9 ∧ w 4 = nI m) ∧ (∃ m, m ≤ 23 ∧ w 3 = nI m) ∧ (∀ j, j < nh → ∃ c, c < nc ∧ w (233 + 2 * j) = nI c) ∧ (∀ i, i < nc → w (65 + 12 * i + 8) = 0 ∨ w (65 + 12 * i + 8) = 1) ∧ Fl ns w ∧ Bd ns w
def FC (S S' : CS) : Prop := ∀ q, q ≠ 1 → q ≠ 3 → q ≠ 4 → ¬ (48 ≤ q ∧ q < 83) → S'.1 q = S.1 q ∧ S'.2 q = S.2 q
def FM (M M' : MS) : Prop := FrR M.1 M'.1 ∧ ∀ j, j ≠ 0 → j ≠ 19 → M'.2 j = M.2 j
def Done (S : CS) (M : MS) (n s : Nat) (S' : CS) (M' : MS) (r : Int32) : Prop := FC S S' ∧ FM M M' ∧ ((r = 1 ∧ ∃ p nc ns nh, s + 3 ≤ p ∧ PS n p (S'.1 1) (S'.1 2) M'.1 (M'.2 8) ∧ GR S' 48 (M'.2 0) ∧ SU nc ns nh (M'.2 0)) ∨ (r = 0 ∧ Er (S'.1 1) M'.1))
theorem rg_nat {a b : Nat} {v : Int32} (ha : a < 2 ^ 31) (hb : b < 2 ^ 31) (h : rgQ v (nI a) (nI b)) : ∃ m, a ≤ m ∧ m ≤ b ∧ v = nI m := by
  obtain ⟨h1, h2⟩ := h
  have z : ¬ v < 0 := by
    intro q
    apply h1
    rw [i32] at q ⊢
    have e0 : (0 : Int32).toInt = 0 := by decide
    have := (lt_le (a := (0 : Int32)) (b := nI a)).mp (by
      rw [← nI_0]; exact nI_nlt (by omega) (by omega))
    rw [Int32.le_iff_toInt_le] at this
    omega
  obtain ⟨m, hm, em⟩ := nI_of z
  subst em
  refine ⟨m, ?_, ?_, rfl⟩
  · exact Classical.byContradiction fun q => h1 (nI_lt (by omega) (by omega))
  · exact Classical.byContradiction fun q => nI_ge (show b < m by omega) (by omega) h2
theorem np_ge {K : Nat → Nat} : p ≤ tkD K n (skp K n p) := Nat.le_trans skp_ge tkD_ge
theorem s_takes {lo hi kk : Int32} {k : Nat} (ek : kk = nI k) (hk : k < 4) (h : PS n p (S.1 1) (S.1 2) M.1 (M.2 8)) : ∃ x' y' p', FrR M.1 y' ∧ p ≤ p' ∧ ((fX8_takeNumber S lo hi = some (1, tx S x') ∧ fX11_takes M kk lo hi = some (1, (y', va_up M.2 19 (upd (M.2 19) k (x' 6)))) ∧ PS n p' x' (S.1 2) y' (M.2 8) ∧ rgQ (x' 6) lo hi) ∨ (fX8_takeNumber S lo hi = some (0, tx S x') ∧ fX11_takes M kk lo hi = some (0, rx M y') ∧ Er x' y')) := by
  subst ek
  obtain ⟨x', y', fr, h1⟩ := s_num (lo := lo) (hi := hi) h
  refine ⟨x', y', tkD (KM (M.2 8)) n (skp (KM (M.2 8)) n p), fr, np_ge, ?_⟩
  rcases h1 with ⟨c1, r1, ps, e, rg⟩ | ⟨c1, r1, er⟩
  · left
    refine ⟨c1, ?_, ps, by rw [e]; exact rg⟩
    unfold fX11_takes fX11_takes_0
    rw [r1, Option.bind_some]
    dsimp only
    rw [fX11_takes_6, if_neg one0, fX11_takes_11, gi_m hk (by omega), nI_c (by omega), fX11_takes_21, rx_1, e]
    rfl
  · right
    refine ⟨c1, ?_, er⟩
    unfold fX11_takes fX11_takes_0
    rw [r1, Option.bind_some]
    dsimp only
    rw [fX11_takes_6, if_pos rfl, fX11_takes_9]
    rfl
theorem s_semi' (h : PS n p (S.1 1) (S.1 2) M.1 (M.2 8)) : ∃ x' y' p', FrR M.1 y' ∧ p ≤ p' ∧ ((fX8_takeSemicolon S = some (1, tx S x') ∧ fX11_takesSemicolon M = some (1, rx M y') ∧ PS n p' x' (S.1 2) y' (M.2 8)) ∨ (fX8_takeSemicolon S = some (0, tx S x') ∧ fX11_takesSemicolon M = some (0, rx M y') ∧ Er x' y')) := by
  obtain ⟨x', y', fr, h1⟩ := s_semi h
  exact ⟨x', y', tkD (KM (M.2 8)) n (skp (KM (M.2 8)) n p), fr, np_ge, h1⟩
theorem vat {α : Type} {f : Nat → α} {k : Nat} {v : α} : va_up f k v k = v := by simp [va_up]
theorem vne {α : Type} {f : Nat → α} {k j : Nat} {v : α} (h : j ≠ k) : va_up f k v j = f j := by simp [va_up, h]
theorem SU.milk {m : Nat} (u : SU nc ns nh w) (hm : m ≤ 9) : SU nc ns nh (upd w 4 (nI m)) := by
  obtain ⟨⟨a1, a2⟩, ⟨b1, b2⟩, ⟨c1, c2⟩, ⟨d1, d2, d3⟩, e, f, g, h, i, jj, kk, l⟩ := u
  refine ⟨⟨?_, a2⟩, ⟨?_, b2⟩, ⟨?_, c2⟩, ⟨?_, ?_, fun q h1 h2 => ?_⟩, fun k hk j h1 h2 => ?_, fun k hk => ?_, ⟨m, hm, pk_us⟩, ?_, fun j hj => ?_, fun i hi => ?_, fun k hk => ?_, fun k hk => ?_⟩
  · rw [pk_un (by omega)]; exact a1
  · rw [pk_un (by omega)]; exact b1
  · rw [pk_un (by omega)]; exact c1
  · rw [pk_un (by omega)]; exact d1
  · rw [pk_un (by omega)]; exact d2
  · rw [pk_un (by omega)]; exact d3 q h1 h2
  · rw [pk_un (by omega)]; exact e k hk j h1 h2
  · rw [pk_un (by omega)]; exact f k hk
  · rw [pk_un (by omega)]; exact h
  · rw [pk_un (by omega)]; exact i j hj
  · rw [pk_un (by omega)]; exact jj i hi
  · rw [pk_un (by omega)]; exact kk _ hk
  · rw [pk_un (by omega), pk_un (by omega)]; exact l k hk
theorem SU.hour {m : Nat} (u : SU nc ns nh w) (hm : m ≤ 23) : SU nc ns nh (upd w 3 (nI m)) := by
  obtain ⟨⟨a1, a2⟩, ⟨b1, b2⟩, ⟨c1, c2⟩, ⟨d1, d2, d3⟩, e, f, g, h, i, jj, kk, l⟩ := u
  refine ⟨⟨?_, a2⟩, ⟨?_, b2⟩, ⟨?_, c2⟩, ⟨?_, ?_, fun q h1 h2 => ?_⟩, fun k hk j h1 h2 => ?_, fun k hk => ?_, ?_, ⟨m, hm, pk_us⟩, fun j hj => ?_, fun i hi => ?_, fun k hk => ?_, fun k hk => ?_⟩
  · rw [pk_un (by omega)]; exact a1
  · rw [pk_un (by omega)]; exact b1
  · rw [pk_un (by omega)]; exact c1
  · rw [pk_un (by omega)]; exact d1
  · rw [pk_un (by omega)]; exact d2
  · rw [pk_un (by omega)]; exact d3 q h1 h2
  · rw [pk_un (by omega)]; exact e k hk j h1 h2
  · rw [pk_un (by omega)]; exact f k hk
  · rw [pk_un (by omega)]; exact g
  · rw [pk_un (by omega)]; exact i j hj
  · rw [pk_un (by omega)]; exact jj i hi
  · rw [pk_un (by omega)]; exact kk _ hk
  · rw [pk_un (by omega), pk_un (by omega)]; exact l k hk
theorem SU.nC (u : SU nc ns nh w) : nC w = nc := nC_of u.1.1 u.1.2
theorem SU.nS (u : SU nc ns nh w) : nS w = ns := nS_of u.2.1.1 u.2.1.2
theorem SU.nH (u : SU nc ns nh w) : nH w = nh := nH_of u.2.2.1.1 u.2.2.1.2
theorem s_milk (sy : SY n s (S.1 1) (S.1 2) M.1 (M.2 8)) (h3 : s + 3 ≤ tkD (KM (M.2 8)) n s) (g : GR S 48 (M.2 0)) (u : SU nc ns nh (M.2 0)) : ∃ S' M' r, fX6_readMilk S = some (r, S') ∧ fX11_readCell M 4 9 = some (r, M') ∧ Done S M n s S' M' r := by
  obtain ⟨y1, n1, ps1, fr1, -⟩ := s_nxt sy
  obtain ⟨x2, y2, p2, fr2, hp2, ⟨c2, r2, ps2, rg⟩ | ⟨c2, r2, er⟩⟩ := s_takes (M := rx M y1) (S := S) (k := 0) (kk := 0) (lo := 0) (hi := 9) rfl (by omega) ps1
  · obtain ⟨m, m1, m2, em⟩ := rg_nat (a := 0) (b := 9) (by omega) (by omega) rg
    obtain ⟨S2, eS2⟩ : ∃ S2 : CS, S2 = (va_up (tx S x2).1 48 (upd ((tx S x2).1 48) 11 ((tx S x2).1 1 6)), (tx S x2).2) := ⟨_, rfl⟩
    obtain ⟨M2, eM2⟩ : ∃ M2 : MS, M2 = (y2, va_up (va_up M.2 19 (upd (M.2 19) 0 (x2 6))) 0 (upd (M.2 0) 4 (x2 6))) := ⟨_, rfl⟩
    have a1 : S2.1 1 = x2 := by rw [eS2]; dsimp only; rw [vne (by omega), tx_1]
    have a2 : S2.1 2 = S.1 2 := by rw [eS2]; dsimp only; rw [vne (by omega), tx_b]
    have b8 : M2.2 8 = M.2 8 := by rw [eM2]; dsimp only; rw [vne (by omega), vne (by omega)]
    obtain ⟨x3, y3, p3, fr3, hp3, h⟩ := s_semi' (S := S2) (M := M2) (n := n) (p := p2) (by rw [a1, a2, b8, eM2]; exact ps2)
    have fc : FC S (tx S2 x3) := fun q q1 q3 q4 q5 => by rw [tx_o q1, tx_2, eS2]; exact ⟨by dsimp only; rw [vne (by omega), tx_o q1], rfl⟩
    have fm : FM M (rx M2 y3) := ⟨(fr1.trans fr2).trans (by rw [eM2] at fr3; exact fr3), fun j j0 j19 => by rw [rx_2, eM2]; dsimp only; rw [vne j0, vne j19]⟩
    have cl : ∀ r x, fX8_takeSemicolon S2 = some (r, x) → r = 0 ∨ r = 1 → fX6_readMilk S = some (r, x) := fun r x hr h01 => by
      unfold fX6_readMilk fX6_readMilk_0
      rw [c2, Option.bind_some]
      dsimp only
      rw [fX6_readMilk_10, if_neg one0, fX6_readMilk_15, ← eS2, fX6_readMilk_29, hr, Option.bind_some]
      exact bz_s h01
    have rl : ∀ r x, fX11_takesSemicolon M2 = some (r, x) → r = 0 ∨ r = 1 → fX11_readCell M 4 9 = some (r, x) := fun r x hr h01 => by
      unfold fX11_readCell fX11_readCell_0
      rw [n1, Option.bind_some, fX11_readCell_4, r2, Option.bind_some]
      dsimp only
      rw [fX11_readCell_11, if_neg one0, fX11_readCell_16, gj0, gi4, tn4, tn0]
      dsimp only
      rw [rx_2, vat, vne (by omega), pk_us, ← eM2, fX11_readCell_28, hr, Option.bind_some]
      exact bz_s h01
    rcases h with ⟨c3, r3, ps3⟩ | ⟨c3, r3, er3⟩
    · refine ⟨_, _, 1, cl _ _ c3 (Or.inr rfl), rl _ _ r3 (Or.inr rfl), fc, fm, Or.inl ⟨rfl, p3, nc, ns, nh, by omega, ?_, ?_, ?_⟩⟩
      · rw [tx_1, tx_b, rx_11, rx_2]; exact ps3
      · rw [rx_2]
        refine g.set (o := 0) (f := 11) (q := 4) (v := x2 6) (by rw [u.nC]; exact u.1.2) (by rw [u.nS]; exact u.2.1.2) (by omega) (by omega) (by unfold cm; simp) (by omega) (by omega) (fun o f ho hX => ?_) ?_ (fun o ho => by rw [tx_2, eS2]; rfl) (by rw [eM2]; dsimp only; rw [vat])
        · rw [tx_o (by omega), eS2]
          by_cases e : o = 0
          · subst e
            rw [Nat.add_zero]
            dsimp only
            rw [vat, pk_un (by omega), tx_o (by omega)]
          · dsimp only
            rw [vne (by omega), tx_o (by omega)]
        · rw [Nat.add_zero, tx_o (by omega), eS2]
          dsimp only
          rw [vat, pk_us, tx_1]
      · rw [rx_2, eM2]
        dsimp only
        rw [vat, em]
        exact u.milk m2
    · exact ⟨_, _, 0, cl _ _ c3 (Or.inl rfl), rl _ _ r3 (Or.inl rfl), fc, fm, Or.inr ⟨rfl, by rw [tx_1, rx_11]; exact er3⟩⟩
  · refine ⟨tx S x2, rx M y2, 0, ?_, ?_, fun q q1 q3 q4 q5 => ⟨tx_o q1, rfl⟩, ⟨fr1.trans fr2, fun j _ _ => rfl⟩, Or.inr ⟨rfl, by rw [tx_1, rx_11]; exact er⟩⟩
    · unfold fX6_readMilk fX6_readMilk_0
      rw [c2, Option.bind_some]
      rfl
    · unfold fX11_readCell fX11_readCell_0
      rw [n1, Option.bind_some, fX11_readCell_4, r2, Option.bind_some, rx_rx]
      rfl
theorem s_hour (sy : SY n s (S.1 1) (S.1 2) M.1 (M.2 8)) (h3 : s + 3 ≤ tkD (KM (M.2 8)) n s) (g : GR S 48 (M.2 0)) (u : SU nc ns nh (M.2 0)) : ∃ S' M' r, fX6_readHour S = some (r, S') ∧ fX11_readCell M 3 23 = some (r, M') ∧ Done S M n s S' M' r := by
  obtain ⟨y1, n1, ps1, fr1, -⟩ := s_nxt sy
  obtain ⟨x2, y2, p2, fr2, hp2, ⟨c2, r2, ps2, rg⟩ | ⟨c2, r2, er⟩⟩ := s_takes (M := rx M y1) (S := S) (k := 0) (kk := 0) (lo := 0) (hi := 23) rfl (by omega) ps1
  · obtain ⟨m, m1, m2, em⟩ := rg_nat (a := 0) (b := 23) (by omega) (by omega) rg
    obtain ⟨S2, eS2⟩ : ∃ S2 : CS, S2 = (va_up (tx S x2).1 48 (upd ((tx S x2).1 48) 12 ((tx S x2).1 1 6)), (tx S x2).2) := ⟨_, rfl⟩
    obtain ⟨M2, eM2⟩ : ∃ M2 : MS, M2 = (y2, va_up (va_up M.2 19 (upd (M.2 19) 0 (x2 6))) 0 (upd (M.2 0) 3 (x2 6))) := ⟨_, rfl⟩
    have a1 : S2.1 1 = x2 := by rw [eS2]; dsimp only; rw [vne (by omega), tx_1]
    have a2 : S2.1 2 = S.1 2 := by rw [eS2]; dsimp only; rw [vne (by omega), tx_b]
    have b8 : M2.2 8 = M.2 8 := by rw [eM2]; dsimp only; rw [vne (by omega), vne (by omega)]
    obtain ⟨x3, y3, p3, fr3, hp3, h⟩ := s_semi' (S := S2) (M := M2) (n := n) (p := p2) (by rw [a1, a2, b8, eM2]; exact ps2)
    have fc : FC S (tx S2 x3) := fun q q1 q3 q4 q5 => by rw [tx_o q1, tx_2, eS2]; exact ⟨by dsimp only; rw [vne (by omega), tx_o q1], rfl⟩
    have fm : FM M (rx M2 y3) := ⟨(fr1.trans fr2).trans (by rw [eM2] at fr3; exact fr3), fun j j0 j19 => by rw [rx_2, eM2]; dsimp only; rw [vne j0, vne j19]⟩
    have cl : ∀ r x, fX8_takeSemicolon S2 = some (r, x) → r = 0 ∨ r = 1 → fX6_readHour S = some (r, x) := fun r x hr h01 => by
      unfold fX6_readHour fX6_readHour_0
      rw [c2, Option.bind_some]
      dsimp only
      rw [fX6_readHour_10, if_neg one0, fX6_readHour_15, ← eS2, fX6_readHour_29, hr, Option.bind_some]
      exact bz_s h01
    have rl : ∀ r x, fX11_takesSemicolon M2 = some (r, x) → r = 0 ∨ r = 1 → fX11_readCell M 3 23 = some (r, x) := fun r x hr h01 => by
      unfold fX11_readCell fX11_readCell_0
      rw [n1, Option.bind_some, fX11_readCell_4, r2, Option.bind_some]
      dsimp only
      rw [fX11_readCell_11, if_neg one0, fX11_readCell_16, gj0, gi3, tn3, tn0]
      dsimp only
      rw [rx_2, vat, vne (by omega), pk_us, ← eM2, fX11_readCell_28, hr, Option.bind_some]
      exact bz_s h01
    rcases h with ⟨c3, r3, ps3⟩ | ⟨c3, r3, er3⟩
    · refine ⟨_, _, 1, cl _ _ c3 (Or.inr rfl), rl _ _ r3 (Or.inr rfl), fc, fm, Or.inl ⟨rfl, p3, nc, ns, nh, by omega, ?_, ?_, ?_⟩⟩
      · rw [tx_1, tx_b, rx_11, rx_2]; exact ps3
      · rw [rx_2]
        refine g.set (o := 0) (f := 12) (q := 3) (v := x2 6) (by rw [u.nC]; exact u.1.2) (by rw [u.nS]; exact u.2.1.2) (by omega) (by omega) (by unfold cm; simp) (by omega) (by omega) (fun o f ho hX => ?_) ?_ (fun o ho => by rw [tx_2, eS2]; rfl) (by rw [eM2]; dsimp only; rw [vat])
        · rw [tx_o (by omega), eS2]
          by_cases e : o = 0
          · subst e
            rw [Nat.add_zero]
            dsimp only
            rw [vat, pk_un (by omega), tx_o (by omega)]
          · dsimp only
            rw [vne (by omega), tx_o (by omega)]
        · rw [Nat.add_zero, tx_o (by omega), eS2]
          dsimp only
          rw [vat, pk_us, tx_1]
      · rw [rx_2, eM2]
        dsimp only
        rw [vat, em]
        exact u.hour m2
    · exact ⟨_, _, 0, cl _ _ c3 (Or.inl rfl), rl _ _ r3 (Or.inl rfl), fc, fm, Or.inr ⟨rfl, by rw [tx_1, rx_11]; exact er3⟩⟩
  · refine ⟨tx S x2, rx M y2, 0, ?_, ?_, fun q q1 q3 q4 q5 => ⟨tx_o q1, rfl⟩, ⟨fr1.trans fr2, fun j _ _ => rfl⟩, Or.inr ⟨rfl, by rw [tx_1, rx_11]; exact er⟩⟩
    · unfold fX6_readHour fX6_readHour_0
      rw [c2, Option.bind_some]
      rfl
    · unfold fX11_readCell fX11_readCell_0
      rw [n1, Option.bind_some, fX11_readCell_4, r2, Option.bind_some, rx_rx]
      rfl
end STMT
