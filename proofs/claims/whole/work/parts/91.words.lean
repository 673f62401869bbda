/-! the words behind a script's keyword, both sides -/
section SWORDS
variable {S S' : CS} {M M' : MS} {n p s c d : Nat} {w : Wd}
/-- what the reading of a script leaves as it is -/
def FS (S S' : CS) : Prop := (∀ q, q ≠ 1 → q ≠ 8 → q ≠ 9 → q ≠ 10 → q ≠ 11 → S'.1 q = S.1 q) ∧ S'.2 = S.2
def FQ (M M' : MS) : Prop := (∀ j, ¬ (12 ≤ j ∧ j ≤ 18) → j ≠ 22 → M'.1 j = M.1 j) ∧ ∀ j, j ≠ 19 → j ≠ 20 → j ≠ 21 → M'.2 j = M.2 j
theorem FS.refl : FS S S := ⟨fun _ _ _ _ _ _ => rfl, rfl⟩
theorem FQ.refl : FQ M M := ⟨fun _ _ _ => rfl, fun _ _ _ _ => rfl⟩
theorem FS.trans {S1 S2 S3 : CS} (a : FS S1 S2) (b : FS S2 S3) : FS S1 S3 := ⟨fun q h1 h2 h3 h4 h5 => (b.1 q h1 h2 h3 h4 h5).trans (a.1 q h1 h2 h3 h4 h5), b.2.trans a.2⟩
theorem FQ.trans {M1 M2 M3 : MS} (a : FQ M1 M2) (b : FQ M2 M3) : FQ M1 M3 := ⟨fun j h1 h2 => (b.1 j h1 h2).trans (a.1 j h1 h2), fun j h1 h2 h3 => (b.2 j h1 h2 h3).trans (a.2 j h1 h2 h3)⟩
theorem FS.tx {x : Nat → Int32} : FS S (tx S x) := ⟨fun q h1 _ _ _ _ => tx_o h1, rfl⟩
theorem FQ.rx {y : Nat → Int32} (h : FrR M.1 y) : FQ M (rx M y) := ⟨fun j h1 h2 => h j h1, fun _ _ _ _ => rfl⟩
def NmS (S S' : CS) (c : Nat) (v : Int32) : Prop := (∀ q, q ≠ 1 → q ≠ 10 → S'.1 q = S.1 q) ∧ S'.1 10 = upd (S.1 10) c v ∧ S'.2 = S.2
def NoS (S S' : CS) (c : Nat) (v : Int32) : Prop := (∀ q, q ≠ 1 → q ≠ 11 → S'.1 q = S.1 q) ∧ S'.1 11 = upd (S.1 11) c v ∧ S'.2 = S.2
def OpM (M M' : MS) (k : Nat) (v : Int32) : Prop := FrR M.1 M'.1 ∧ M'.2 = va_up M.2 19 (upd (M.2 19) k v)
def Bad (S : CS) (M : MS) (S' : CS) (M' : MS) : Prop := FS S S' ∧ FQ M M' ∧ Er (S'.1 1) M'.1
theorem NmS.fs {v : Int32} (h : NmS S S' c v) : FS S S' := ⟨fun q h1 _ _ h4 _ => h.1 q h1 h4, h.2.2⟩
theorem NoS.fs {v : Int32} (h : NoS S S' c v) : FS S S' := ⟨fun q h1 _ _ _ h4 => h.1 q h1 h4, h.2.2⟩
theorem OpM.fq {k : Nat} {v : Int32} (h : OpM M M' k v) : FQ M M' := ⟨fun j h1 _ => h.1 j h1, fun j h19 _ _ => by rw [h.2, vne h19]⟩
theorem OpM.as {k j : Nat} {v : Int32} (h : OpM M M' k v) (h19 : j ≠ 19) : M'.2 j = M.2 j := by rw [h.2, vne h19]
theorem s_sackOp (h : PS n p (S.1 1) (S.1 2) M.1 (M.2 8)) (g : GR S 13 (M.2 0)) (iw : In (M.2 0)) (h8 : S.1 8 5 = nI c) (hc : c < 30) : ∃ S' M', (fX5_readSackName_17 S = some (0, S') ∧ fX11_takesKnown M 161 1 = some (0, M') ∧ Bad S M S' M') ∨ (fX5_readSackName_17 S = some (1, S') ∧ fX11_takesKnown M 161 1 = some (1, M') ∧ ∃ k p', k < nS (M.2 0) ∧ p ≤ p' ∧ PS n p' (S'.1 1) (S'.1 2) M'.1 (M'.2 8) ∧ NmS S S' c (nI k) ∧ OpM M M' 0 (nI k)) := by
  have e6 : S.1 13 6 = nI (nS (M.2 0)) := by
    rw [g.at0 (f := 6) (q := 1) (by unfold cm; simp) (by omega)]
    obtain ⟨k, h1, h2, h3⟩ := iw.1.1.2.1
    rw [nS_of h3 h2]; exact h3
  have hs : nS (M.2 0) ≤ 6 := iw.sz.2.1
  have e1 : (M.2 0) 1 = nI (nS (M.2 0)) := by
    obtain ⟨k, h1, h2, h3⟩ := iw.1.1.2.1
    rw [nS_of h3 h2]; exact h3
  obtain ⟨z, ez⟩ : ∃ z, z = skp (KM (M.2 8)) n p := ⟨_, rfl⟩
  obtain ⟨v, ev⟩ : ∃ v, v = fnd (fun i => wq (M.2 8) (KM (M.2 8)) n z (S.2 (13 + (17 + i)))) (nS (M.2 0)) 0 := ⟨_, rfl⟩
  have hN : ∀ i, i < nS (M.2 0) → NmOk (S.2 (13 + (17 + i))) (M.2 0) (161 + 12 * i) := fun i hi => g.2.2 i hi
  have hv : AtR M.1 (M.2 8) (KM (M.2 8)) n z → tkK (KM (M.2 8)) n z = 1 → tkD (KM (M.2 8)) n z - z ≤ 6 → fX11_nameHere M 161 1 = some v := fun a b c => by
    rw [ev]
    exact r_nameHere (M := M) (a := 161) (m := 1) (nc := nS (M.2 0)) (F := fun i => S.2 (13 + (17 + i))) a h.1.1 b c (by omega) e1 (by omega) (by omega) hN
  obtain ⟨x1, ⟨c1, y', r1, er, fr⟩ | ⟨c1, sy1, hno, hyes⟩⟩ := s_known (S := S) (M := M) (A := 161) (B := 1) (v := v) h ez hv
  · refine ⟨tx S x1, rx M y', Or.inl ⟨?_, r1, FS.tx, FQ.rx fr, by rw [tx_1, rx_11]; exact er⟩⟩
    rw [fX5_readSackName_17, c1, Option.bind_some]; rfl
  have cn : fX2_sackNamed (tx S x1) 13 = some v := by
    rw [ev]
    exact c_sackNamed (S := tx S x1) (t := 13) (nc := nS (M.2 0)) (y := M.1) (by rw [tx_1, tx_b]; exact sy1) (by rw [tx_o (by omega)]; exact e6) hs (fun i hi => (hN i hi).2.1)
  obtain ⟨S2, e2⟩ : ∃ S2 : CS, S2 = (va_up (tx S x1).1 10 (upd ((tx S x1).1 10) c v), (tx S x1).2) := ⟨_, rfl⟩
  have s8 : S2.1 8 5 = nI c := by rw [e2]; dsimp only; rw [vne (by omega), tx_o (by omega)]; exact h8
  have s10 : S2.1 10 = upd (S.1 10) c v := by rw [e2]; dsimp only; rw [vat, tx_o (by omega)]
  have so : ∀ q, q ≠ 1 → q ≠ 10 → S2.1 q = S.1 q := fun q h1 h10 => by rw [e2]; dsimp only; rw [vne h10, tx_o h1]
  have s1 : S2.1 1 = x1 := by rw [e2]; dsimp only; rw [vne (by omega), tx_1]
  have opC : fX5_readSackName_17 S = if v = -1 then fX5_readSackName_62 S2 else fX5_readSackName_73 S2 := by
    rw [fX5_readSackName_17, c1, Option.bind_some]
    dsimp only
    rw [fX5_readSackName_24, if_neg one0, fX5_readSackName_29, cn, Option.bind_some, fX5_readSackName_48, tx_o (by omega), h8, gi_m (show c < 30 by omega) (by omega), nI_c (by omega), ← e2, fX5_readSackName_49, s8, gi_m (show c < 30 by omega) (by omega), nI_c (by omega), s10, pk_us]
  rcases fnd_in (g := fun i => wq (M.2 8) (KM (M.2 8)) n z (S.2 (13 + (17 + i)))) (nS (M.2 0)) 0 with hm | ⟨k, -, hk, hm⟩
  · rw [← ev] at hm
    obtain ⟨x2, y2, f1, f2, er, fr⟩ := hno hm
    have eS : tx S2 x1 = S2 := by rw [← s1]; exact tx_self
    have f3 : fX8_fail S2 4 = some (0, tx S2 (upd (upd x1 7 4) 8 (x1 5))) := by
      have := c_fail (S := S2) (x := x1) (k := 4)
      rw [eS] at this; exact this
    have ex : x2 = upd (upd x1 7 4) 8 (x1 5) := by
      rw [c_fail] at f1
      have : tx S (upd (upd x1 7 4) 8 (x1 5)) = tx S x2 := by injection f1 with f1; exact (Prod.ext_iff.mp f1).2
      have h2 : (tx S (upd (upd x1 7 4) 8 (x1 5))).1 1 = (tx S x2).1 1 := congrArg (fun q : CS => q.1 1) this
      rw [tx_1, tx_1] at h2
      exact h2.symm
    refine ⟨tx S2 x2, _, Or.inl ⟨?_, f2, ⟨fun q h1 _ _ h10 _ => by rw [tx_o h1]; exact so q h1 h10, by rw [tx_2, e2]; rfl⟩, ⟨fun j h1 _ => fr j h1, fun j h19 _ _ => by dsimp only; rw [vne h19]⟩, by rw [tx_1]; exact er⟩⟩
    rw [opC, if_pos hm, fX5_readSackName_62, f3, Option.bind_some, ex]
    rfl
  · rw [← ev] at hm
    have hne : v ≠ -1 := by rw [hm]; exact nI_nem (by omega)
    obtain ⟨y2, p', f2, ps2, hp, fr⟩ := hyes hne
    rw [hm] at f2
    refine ⟨S2, _, Or.inr ⟨?_, f2, k, p', by omega, hp, ?_, ⟨so, by rw [s10, hm], by rw [e2]; rfl⟩, fr, rfl⟩⟩
    · rw [opC, if_neg hne]; rfl
    · dsimp only
      rw [s1, so 2 (by omega) (by omega), vne (by omega)]; exact ps2
theorem s_numOp {lo hi : Int32} {k : Nat} (hk : k < 4) (h : PS n p (S.1 1) (S.1 2) M.1 (M.2 8)) (h8 : S.1 8 5 = nI c) (hc : c < 30) : ∃ S' M', (fX5_readNumber_38 S hi lo = some (0, S') ∧ fX11_takes M (nI k) lo hi = some (0, M') ∧ Bad S M S' M') ∨ (fX5_readNumber_38 S hi lo = some (1, S') ∧ fX11_takes M (nI k) lo hi = some (1, M') ∧ ∃ v p', rgQ v lo hi ∧ p ≤ p' ∧ PS n p' (S'.1 1) (S'.1 2) M'.1 (M'.2 8) ∧ NoS S S' c v ∧ OpM M M' k v) := by
  obtain ⟨x, y, p', fr, hp, ⟨c1, r1, ps, rg⟩ | ⟨c1, r1, er⟩⟩ := s_takes (lo := lo) (hi := hi) (kk := nI k) rfl hk h
  · obtain ⟨S2, e2⟩ : ∃ S2 : CS, S2 = (va_up (tx S x).1 11 (upd ((tx S x).1 11) c (x 6)), (tx S x).2) := ⟨_, rfl⟩
    refine ⟨S2, _, Or.inr ⟨?_, r1, x 6, p', rg, hp, ?_, ⟨fun q h1 h11 => ?_, ?_, ?_⟩, fr, rfl⟩⟩
    · rw [fX5_readNumber_38, c1, Option.bind_some]
      dsimp only
      rw [fX5_readNumber_41, if_neg one0, fX5_readNumber_46, tx_o (by omega), h8, gi_m (show c < 30 by omega) (by omega), nI_c (by omega), tx_1, ← e2, fX5_readNumber_62]
    · rw [e2]
      dsimp only
      rw [vne (by omega), vne (by omega), vne (by omega), tx_1, tx_b]; exact ps
    · rw [e2]; dsimp only; rw [vne h11, tx_o h1]
    · rw [e2]; dsimp only; rw [vat, tx_o (by omega)]
    · rw [e2]; rfl
  · refine ⟨tx S x, rx M y, Or.inl ⟨?_, r1, FS.tx, FQ.rx fr, by rw [tx_1, rx_11]; exact er⟩⟩
    rw [fX5_readNumber_38, c1, Option.bind_some]
    rfl
end SWORDS
