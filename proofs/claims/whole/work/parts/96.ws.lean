/-! writeSacks, both sides -/
section WSACKS
variable {S S' S0 : CS} {M M' M0 : MS} {n k : Nat} {w : Wd}
/-- the outputs so far -/
def Ow (S0 : CS) (M0 : MS) (n : Nat) (S : CS) (M : MS) : Prop := (S.1 5 1 = nI n ∧ M.1 24 = nI n ∧ ∀ j, j < n → S.1 6 j = M.2 23 j) ∧ (∀ q, q ≠ 5 → q ≠ 6 → S.1 q = S0.1 q) ∧ S.2 = S0.2 ∧ (∀ j, j ≠ 24 → M.1 j = M0.1 j) ∧ ∀ j, j ≠ 23 → M.2 j = M0.2 j
theorem bC_lo : ∀ m : Fin 128, bC m.val = nI m.val := by decide +kernel
theorem nar7 {b : Nat} (h : b < 128) : vp_nar .byte (nI b).toInt8.toInt32 = nI b := by
  rw [nar_b, bC_eq, pk_tn (by omega), Nat.mod_eq_of_lt (by omega)]
  exact bC_lo ⟨b, h⟩
theorem s_put (ow : Ow S0 M0 n S M) (hn : n < 100) {b : Nat} (hb : b < 128) : ∃ S' M', fX3_put S (nI b) = some S' ∧ fX11_write M (nI b) = some M' ∧ Ow S0 M0 (n + 1) S' M' := by
  obtain ⟨⟨a1, a2, a3⟩, b1, b2, b3, b4⟩ := ow
  refine ⟨(va_up (va_up S.1 6 (upd (S.1 6) n (nI b))) 5 (upd (S.1 5) 1 (nI (n + 1))), S.2), (va_up M.1 24 (nI (n + 1)), va_up M.2 23 (upd (M.2 23) n (nI b))), ?_, ?_, ⟨?_, ?_, fun j hj => ?_⟩, fun q h5 h6 => ?_, b2, fun j hj => ?_, fun j hj => ?_⟩
  · unfold fX3_put fX3_put_0
    rw [a1, if_neg (show ¬ (100 : Int32) ≤ nI n from nI_ge (b := 100) hn (by omega)), fX3_put_12, a1, gi_m hn (by omega), nI_c (by omega), nar7 hb, fX3_put_23]
    dsimp only
    rw [vne (show 5 ≠ 6 by omega), a1, nI_1, fX3_put_33]
  · unfold fX11_write fX11_write_0
    rw [a2, gi_m (show n < 200 by omega) (by omega), nI_c (by omega), fX11_write_10]
    dsimp only
    rw [a2, nI_1, fX11_write_20]
  · dsimp only; rw [vat, pk_us]
  · dsimp only; rw [vat]
  · dsimp only
    rw [vne (by omega), vat, vat]
    by_cases z : j = n
    · subst z; rw [pk_us, pk_us]
    · rw [pk_un z, pk_un z]; exact a3 j (by omega)
  · dsimp only; rw [vne h5, vne h6]; exact b1 q h5 h6
  · dsimp only; rw [vne hj]; exact b3 j hj
  · dsimp only; rw [vne hj]; exact b4 j hj
theorem dg {v : Nat} (hv : v < 2 ^ 31) : (48 : Int32) + (nI v - nI v / 10 * 10) = nI (48 + v % 10) := by
  rw [show nI v - nI v / 10 * 10 = nI (v % 10) from pk_rem (d := 10) hv (by omega) (by omega)]
  exact nI_add 48 _
theorem pn_skip {u v f : Nat} (h0 : 0 < u) (h1 : u ≠ 1) (hu : u ≤ 1000) (hv : v < u) : fX3_putNumber_4 (f + 1) S (nI v) (nI u) = fX3_putNumber_4 f S (nI v) (nI (u / 10)) := by
  rw [fX3_putNumber_4]
  dsimp only
  rw [if_neg (show ¬ nI u ≤ (0 : Int32) from nI_ge (a := 0) (by omega) (by omega)), fX3_putNumber_8, if_neg (nI_ge (show v < u by omega) (by omega)), fX3_putNumber_13, if_neg (show ¬ nI u = (1 : Int32) from fun z => h1 ((nI_eq (b := 1) (by omega) (by omega)).mp z)), fX3_putNumber_31, show nI u / 10 = nI (u / 10) from pk_div (d := 10) (by omega) (by omega) (by omega)]
theorem pn_put {u v f : Nat} (h0 : 0 < u) (hu : u ≤ 1000) (hv : v ≤ 9999) (h : u ≤ v ∨ u = 1) : fX3_putNumber_4 (f + 1) S (nI v) (nI u) = (fX3_put S (nI (48 + v / u % 10))).bind fun q => fX3_putNumber_4 f q (nI v) (nI (u / 10)) := by
  have e : fX3_putNumber_18 (fX3_putNumber_4 f) S (nI v) (nI u) = (fX3_put S (nI (48 + v / u % 10))).bind fun q => fX3_putNumber_4 f q (nI v) (nI (u / 10)) := by
    have hd : v / u ≤ v := Nat.div_le_self v u
    rw [fX3_putNumber_18, if_pos (show ¬ nI u = (0 : Int32) from fun z => by have := (nI_eq (b := 0) (by omega) (by omega)).mp z; omega), show nI v / nI u = nI (v / u) from pk_div (by omega) h0 (by omega), dg (by omega)]
    have e2 : (nI u : Int32) / 10 = nI (u / 10) := pk_div (d := 10) (by omega) (by omega) (by omega)
    congr 1
    funext q
    rw [fX3_putNumber_31, e2]
  rw [fX3_putNumber_4]
  dsimp only
  rw [if_neg (show ¬ nI u ≤ (0 : Int32) from nI_ge (a := 0) (by omega) (by omega)), fX3_putNumber_8]
  by_cases z : u ≤ v
  · rw [if_pos (nI_le z (by omega)), e]
  · rw [if_neg (nI_ge (show v < u by omega) (by omega)), fX3_putNumber_13, if_pos (show nI u = (1 : Int32) by rw [show u = 1 by omega]; rfl), e]
theorem pn_end {v f : Nat} : fX3_putNumber_4 (f + 1) S (nI v) (nI 0) = some S := by
  rw [fX3_putNumber_4]
  dsimp only
  rw [if_pos (show nI 0 ≤ (0 : Int32) by decide), fX3_putNumber_39]
theorem wn_lo {v : Nat} (h : v ≤ 9) : fX11_writeNumber4 M (nI v) = fX11_write M (nI (48 + v)) ∧ fX11_writeNumber3 M (nI v) = fX11_write M (nI (48 + v)) ∧ fX11_writeNumber2 M (nI v) = fX11_write M (nI (48 + v)) ∧ fX11_writeNumber1 M (nI v) = fX11_write M (nI (48 + v)) := by
  have hle : nI v ≤ (9 : Int32) := nI_le (b := 9) h (by omega)
  have e : (48 : Int32) + (nI v - nI v / 10 * 10) = nI (48 + v) := by rw [dg (by omega), Nat.mod_eq_of_lt (show v < 10 by omega)]
  have sb : ∀ x : Option MS, (x.bind fun q => some q) = x := fun x => by cases x <;> rfl
  refine ⟨?_, ?_, ?_, ?_⟩
  · unfold fX11_writeNumber4 fX11_writeNumber4_0; rw [if_pos hle, fX11_writeNumber4_14, e]; exact sb _
  · unfold fX11_writeNumber3 fX11_writeNumber3_0; rw [if_pos hle, fX11_writeNumber3_14, e]; exact sb _
  · unfold fX11_writeNumber2 fX11_writeNumber2_0; rw [if_pos hle, fX11_writeNumber2_14, e]; exact sb _
  · unfold fX11_writeNumber1 fX11_writeNumber1_0; rw [if_pos hle, fX11_writeNumber1_14, e]; exact sb _
theorem wn_hi {v : Nat} (h : 9 < v) (hv : v ≤ 9999) : fX11_writeNumber4 M (nI v) = ((fX11_writeNumber3 M (nI (v / 10))).bind fun q => fX11_write q (nI (48 + v % 10))) ∧ fX11_writeNumber3 M (nI v) = ((fX11_writeNumber2 M (nI (v / 10))).bind fun q => fX11_write q (nI (48 + v % 10))) ∧ fX11_writeNumber2 M (nI v) = ((fX11_writeNumber1 M (nI (v / 10))).bind fun q => fX11_write q (nI (48 + v % 10))) := by
  have hle : ¬ nI v ≤ (9 : Int32) := nI_ge (a := 9) h (by omega)
  have e : (48 : Int32) + (nI v - nI v / 10 * 10) = nI (48 + v % 10) := dg (by omega)
  have d : nI v / 10 = nI (v / 10) := pk_div (d := 10) (by omega) (by omega) (by omega)
  have sb : ∀ x : Option MS, (x.bind fun q => some q) = x := fun x => by cases x <;> rfl
  refine ⟨?_, ?_, ?_⟩
  · unfold fX11_writeNumber4 fX11_writeNumber4_0; rw [if_neg hle, fX11_writeNumber4_6, d]
    refine congrArg _ (funext fun q => ?_)
    rw [fX11_writeNumber4_14, e]; exact sb _
  · unfold fX11_writeNumber3 fX11_writeNumber3_0; rw [if_neg hle, fX11_writeNumber3_6, d]
    refine congrArg _ (funext fun q => ?_)
    rw [fX11_writeNumber3_14, e]; exact sb _
  · unfold fX11_writeNumber2 fX11_writeNumber2_0; rw [if_neg hle, fX11_writeNumber2_6, d]
    refine congrArg _ (funext fun q => ?_)
    rw [fX11_writeNumber2_14, e]; exact sb _
theorem s_number {v : Nat} (ow : Ow S0 M0 n S M) (hn : n + 4 ≤ 100 ∨ (v ≤ 99 ∧ n + 2 ≤ 100)) (hv : v ≤ 9999) : ∃ S' M' n', n' ≤ n + 4 ∧ (v ≤ 99 → n' ≤ n + 2) ∧ fX3_putNumber S (nI v) = some S' ∧ fX11_writeNumber4 M (nI v) = some M' ∧ Ow S0 M0 n' S' M' := by
  unfold fX3_putNumber fX3_putNumber_0
  rw [show (1000 : Int32) = nI 1000 from rfl, show FU = 2994 + 1 + 1 + 1 + 1 + 1 + 1 from rfl]
  have md : ∀ x : Nat, x % 10 < 10 := fun x => Nat.mod_lt _ (by omega)
  by_cases h3 : 1000 ≤ v
  · obtain ⟨S1, M1, c1, r1, o1⟩ := s_put ow (by omega) (b := 48 + v / 1000 % 10) (by have := md (v / 1000); omega)
    obtain ⟨S2, M2, c2, r2, o2⟩ := s_put o1 (by omega) (b := 48 + v / 100 % 10) (by have := md (v / 100); omega)
    obtain ⟨S3, M3, c3, r3, o3⟩ := s_put o2 (by omega) (b := 48 + v / 10 % 10) (by have := md (v / 10); omega)
    obtain ⟨S4, M4, c4, r4, o4⟩ := s_put o3 (by omega) (b := 48 + v / 1 % 10) (by have := md (v / 1); omega)
    refine ⟨S4, M4, n + 1 + 1 + 1 + 1, by omega, fun h => absurd h (by omega), ?_, ?_, o4⟩
    · rw [pn_put (by omega) (by omega) hv (Or.inl h3), c1, Option.bind_some, show 1000 / 10 = 100 from rfl, pn_put (by omega) (by omega) hv (Or.inl (by omega)), c2, Option.bind_some, show 100 / 10 = 10 from rfl, pn_put (by omega) (by omega) hv (Or.inl (by omega)), c3, Option.bind_some, show 10 / 10 = 1 from rfl, pn_put (by omega) (by omega) hv (Or.inr rfl), c4, Option.bind_some, show 1 / 10 = 0 from rfl, pn_end]
    · rw [(wn_hi (show 9 < v by omega) hv).1, (wn_hi (show 9 < v / 10 by omega) (by omega)).2.1, (wn_hi (show 9 < v / 10 / 10 by omega) (by omega)).2.2, (wn_lo (show v / 10 / 10 / 10 ≤ 9 by omega)).2.2.2, show 48 + v / 10 / 10 / 10 = 48 + v / 1000 % 10 by omega, r1, Option.bind_some, show v / 10 / 10 % 10 = v / 100 % 10 by omega, r2, Option.bind_some, r3, Option.bind_some, show v % 10 = v / 1 % 10 by omega, r4]
  by_cases h2 : 100 ≤ v
  · obtain ⟨S2, M2, c2, r2, o2⟩ := s_put ow (by omega) (b := 48 + v / 100 % 10) (by have := md (v / 100); omega)
    obtain ⟨S3, M3, c3, r3, o3⟩ := s_put o2 (by omega) (b := 48 + v / 10 % 10) (by have := md (v / 10); omega)
    obtain ⟨S4, M4, c4, r4, o4⟩ := s_put o3 (by omega) (b := 48 + v / 1 % 10) (by have := md (v / 1); omega)
    refine ⟨S4, M4, n + 1 + 1 + 1, by omega, fun h => absurd h (by omega), ?_, ?_, o4⟩
    · rw [pn_skip (by omega) (by omega) (by omega) (by omega), show 1000 / 10 = 100 from rfl, pn_put (by omega) (by omega) hv (Or.inl (by omega)), c2, Option.bind_some, show 100 / 10 = 10 from rfl, pn_put (by omega) (by omega) hv (Or.inl (by omega)), c3, Option.bind_some, show 10 / 10 = 1 from rfl, pn_put (by omega) (by omega) hv (Or.inr rfl), c4, Option.bind_some, show 1 / 10 = 0 from rfl, pn_end]
    · rw [(wn_hi (show 9 < v by omega) hv).1, (wn_hi (show 9 < v / 10 by omega) (by omega)).2.1, (wn_lo (show v / 10 / 10 ≤ 9 by omega)).2.2.1, show 48 + v / 10 / 10 = 48 + v / 100 % 10 by omega, r2, Option.bind_some, r3, Option.bind_some, show v % 10 = v / 1 % 10 by omega, r4]
  by_cases h1 : 10 ≤ v
  · obtain ⟨S3, M3, c3, r3, o3⟩ := s_put ow (by omega) (b := 48 + v / 10 % 10) (by have := md (v / 10); omega)
    obtain ⟨S4, M4, c4, r4, o4⟩ := s_put o3 (by omega) (b := 48 + v / 1 % 10) (by have := md (v / 1); omega)
    refine ⟨S4, M4, n + 1 + 1, by omega, fun h => by omega, ?_, ?_, o4⟩
    · rw [pn_skip (by omega) (by omega) (by omega) (by omega), show 1000 / 10 = 100 from rfl, pn_skip (by omega) (by omega) (by omega) (by omega), show 100 / 10 = 10 from rfl, pn_put (by omega) (by omega) hv (Or.inl (by omega)), c3, Option.bind_some, show 10 / 10 = 1 from rfl, pn_put (by omega) (by omega) hv (Or.inr rfl), c4, Option.bind_some, show 1 / 10 = 0 from rfl, pn_end]
    · rw [(wn_hi (show 9 < v by omega) hv).1, (wn_lo (show v / 10 ≤ 9 by omega)).2.1, show 48 + v / 10 = 48 + v / 10 % 10 by omega, r3, Option.bind_some, show v % 10 = v / 1 % 10 by omega, r4]
  · obtain ⟨S4, M4, c4, r4, o4⟩ := s_put ow (by omega) (b := 48 + v / 1 % 10) (by have := md (v / 1); omega)
    refine ⟨S4, M4, n + 1, by omega, fun h => by omega, ?_, ?_, o4⟩
    · rw [pn_skip (by omega) (by omega) (by omega) (by omega), show 1000 / 10 = 100 from rfl, pn_skip (by omega) (by omega) (by omega) (by omega), show 100 / 10 = 10 from rfl, pn_skip (by omega) (by omega) (by omega) (by omega), show 10 / 10 = 1 from rfl, pn_put (by omega) (by omega) hv (Or.inr rfl), c4, Option.bind_some, show 1 / 10 = 0 from rfl, pn_end]
    · rw [(wn_lo (show v ≤ 9 by omega)).1, show 48 + v = 48 + v / 1 % 10 by omega, r4]
variable {K : MS → Int32 → Option (Int32 × MS)}
theorem s_letters {b1 : Nat} {bs : List Int32} (hk : k < 6) (hb1 : b1 ≠ 5) (hb2 : b1 ≠ 6) (ebs : S0.2 b1 = bs) (nm : NmOk bs (M0.2 0) (161 + 12 * k + 0)) : ∀ r j f f' n (S : CS) (M : MS), bs.length = j + r → r < f → r < f' → n + r ≤ 100 → Ow S0 M0 n S M → ∃ S' M', fX3_putSack_2 b1 f S (nI j) = fX3_putSack_31 b1 S' ∧ fX11_writeSacks_34 K f' M (nI k) (nI j) = fX11_writeSacks_62 K M' (nI k) ∧ Ow S0 M0 (n + r) S' M' := by
  intro r
  induction r with
  | zero =>
    intro j f f' n S M hj hf hf' hn ow
    obtain ⟨f, rfl⟩ : ∃ g, f = g + 1 := ⟨f - 1, by omega⟩
    obtain ⟨f', rfl⟩ : ∃ g, f' = g + 1 := ⟨f' - 1, by omega⟩
    have h6 := nm.2.1
    have e0 : M.2 0 = M0.2 0 := ow.2.2.2.2 0 (by omega)
    refine ⟨S, M, ?_, ?_, ow⟩
    · rw [fX3_putSack_2]
      dsimp only
      rw [ow.2.2.1, ebs, if_pos (show Int32.ofNat bs.length ≤ nI j from nI_le (by omega) (by omega))]
    · rw [fX11_writeSacks_34]
      dsimp only
      rw [rS (f := 0) (ff := 0) rfl hk (by omega), Option.bind_some, fX11_writeSacks_41, e0, nm.2.2.1, if_pos (nI_le (by omega) (by omega))]
  | succ r ih =>
    intro j f f' n S M hj hf hf' hn ow
    obtain ⟨f, rfl⟩ : ∃ g, f = g + 1 := ⟨f - 1, by omega⟩
    obtain ⟨f', rfl⟩ : ∃ g, f' = g + 1 := ⟨f' - 1, by omega⟩
    have h6 := nm.2.1
    have e0 : M.2 0 = M0.2 0 := ow.2.2.2.2 0 (by omega)
    obtain ⟨l1, b, b1', b2, l2⟩ := nm.2.2.2 j (by omega)
    obtain ⟨S1, M1, c1, r1, o1⟩ := s_put ow (by omega) (b := b) (by omega)
    obtain ⟨S2, M2, c2, r2, o2⟩ := ih (j + 1) f f' (n + 1) S1 M1 (by omega) (by omega) (by omega) (by omega) o1
    refine ⟨S2, M2, ?_, ?_, by rw [show n + (r + 1) = n + 1 + r by omega]; exact o2⟩
    · rw [fX3_putSack_2]
      dsimp only
      rw [ow.2.2.1, ebs, if_neg (show ¬ Int32.ofNat bs.length ≤ nI j from nI_ge (by omega) (by omega)), fX3_putSack_13, ow.2.2.1, ebs, if_pos (nI_in (by omega) (by omega)), nI_c (by omega), l1, l2, c1, Option.bind_some, fX3_putSack_25, nI_1, c2]
    · have e1 : (1 : Int32) + nI j = nI (1 + j) := nI_add 1 j
      rw [fX11_writeSacks_34]
      dsimp only
      rw [rS (f := 0) (ff := 0) rfl hk (by omega), Option.bind_some, fX11_writeSacks_41, e0, nm.2.2.1, if_neg (nI_ge (by omega) (by omega)), fX11_writeSacks_44, e1, rS (f := 1 + j) rfl hk (by omega), Option.bind_some, fX11_writeSacks_53, e0, show 161 + 12 * k + (1 + j) = 161 + 12 * k + 0 + 1 + j by omega, l2, r1, Option.bind_some, fX11_writeSacks_56, nI_1, r2]
theorem s_sackOut (g : GR S0 13 (M0.2 0)) (iw : In (M0.2 0)) (hk : k < nS (M0.2 0)) (ow : Ow S0 M0 n S M) (hn : n + 15 ≤ 100) : ∃ S' M' n', n' ≤ n + 15 ∧ fX3_putSack S (13 + 2 + 15 + k) = some S' ∧ fX11_writeSacks_32 K M (nI k) = fX11_writeSacks_110 K M' (nI k) ∧ Ow S0 M0 n' S' M' := by
  have h6 : k < 6 := by have := iw.sz.2.1; omega
  have nm := g.2.2 k hk
  rw [show 13 + (17 + k) = 13 + 2 + 15 + k by omega] at nm
  obtain ⟨b1, eb⟩ : ∃ b1, b1 = 13 + 2 + 15 + k := ⟨_, rfl⟩
  rw [← eb] at nm ⊢
  have l6 := nm.2.1
  have cl : ∀ f, 1 ≤ f → f ≤ 4 → S0.1 b1 f = M0.2 0 (161 + 12 * k + (f + 6)) := fun f h1 h2 => by rw [eb]; exact g.sack hk h6 h1 h2
  have f01 : M0.2 0 (161 + 12 * k + 9) = 0 ∨ M0.2 0 (161 + 12 * k + 9) = 1 := iw.1.2.2.1 k hk
  obtain ⟨⟨mi, mi1, mi2⟩, ⟨gr, gr1, gr2⟩⟩ : (∃ m, m ≤ 99 ∧ M0.2 0 (161 + 12 * k + 8) = nI m) ∧ ∃ g, g ≤ 9999 ∧ M0.2 0 (161 + 12 * k + 7) = nI g := iw.1.2.2.2 k hk
  obtain ⟨S1, M1, c1, r1, o1⟩ := s_letters (K := K) (b1 := b1) (bs := S0.2 b1) h6 (by omega) (by omega) rfl nm (S0.2 b1).length 0 FU FU n S M (by omega) (by rw [FU_eq]; omega) (by rw [FU_eq]; omega) (by omega) ow
  obtain ⟨S2, M2, c2, r2, o2⟩ := s_put o1 (by omega) (b := 58) (by omega)
  obtain ⟨S3, M3, n3, h3, -, c3, r3, o3⟩ := s_number o2 (by omega) gr1
  obtain ⟨S4, M4, c4, r4, o4⟩ := s_put o3 (by omega) (b := 47) (by omega)
  obtain ⟨S5, M5, n5, h5, h5', c5, r5, o5⟩ := s_number (v := mi) o4 (by omega) (by omega)
  have h5'' := h5' (by omega)
  have cc : ∀ {n' S M}, Ow S0 M0 n' S M → ∀ f, 1 ≤ f → f ≤ 4 → S.1 b1 f = M0.2 0 (161 + 12 * k + (f + 6)) := fun o f h1 h2 => by rw [o.2.1 b1 (by omega) (by omega)]; exact cl f h1 h2
  have rr : ∀ {n' S M}, Ow S0 M0 n' S M → ∀ (f : Nat) (ff : Int32), ff = nI f → f < 12 → fX11_ofSack M (nI k) ff = some (M0.2 0 (161 + 12 * k + f)) := fun o f ff e hf => by rw [rS e h6 hf, o.2.2.2.2 0 (by omega)]
  rw [nI_0] at c1 r1
  have eC : fX3_putSack S b1 = fX3_putSack_59 b1 S5 := by
    unfold fX3_putSack fX3_putSack_0
    rw [c1, fX3_putSack_31, show (58 : Int32) = nI 58 from rfl, c2, Option.bind_some, fX3_putSack_37, cc o2 1 (by omega) (by omega), gr2, c3, Option.bind_some, fX3_putSack_45, show (47 : Int32) = nI 47 from rfl, c4, Option.bind_some, fX3_putSack_51, cc o4 2 (by omega) (by omega), mi2, c5, Option.bind_some]
  have eR : fX11_writeSacks_32 K M (nI k) = fX11_writeSacks_96 K M5 (nI k) := by
    rw [fX11_writeSacks_32, r1, fX11_writeSacks_62, show (58 : Int32) = nI 58 from rfl, r2, Option.bind_some, fX11_writeSacks_68, rr o2 7 7 rfl (by omega), Option.bind_some, fX11_writeSacks_76, gr2, r3, Option.bind_some, fX11_writeSacks_79, show (47 : Int32) = nI 47 from rfl, r4, Option.bind_some, fX11_writeSacks_85, rr o4 8 8 rfl (by omega), Option.bind_some, fX11_writeSacks_93, mi2, r5, Option.bind_some]
  have e05 : M5.2 0 = M0.2 0 := o5.2.2.2.2 0 (by omega)
  rw [eC, eR, fX3_putSack_59, cc o5 3 (by omega) (by omega), fX11_writeSacks_96, rOpen (M := M5) h6 (by rw [e05]; exact f01), Option.bind_some, fX11_writeSacks_101, e05]
  rcases f01 with z | z
  · rw [z, if_pos rfl, if_pos rfl, fX3_putSack_72]
    exact ⟨S5, M5, n5, by omega, rfl, rfl, o5⟩
  · rw [z, if_neg one0, if_neg one0, fX3_putSack_66, fX11_writeSacks_104]
    obtain ⟨S6, M6, c6, r6, o6⟩ := s_put o5 (by omega) (b := 39) (by omega)
    rw [show (39 : Int32) = nI 39 from rfl, c6, r6, Option.bind_some, Option.bind_some, fX3_putSack_72]
    exact ⟨S6, M6, n5 + 1, by omega, rfl, rfl, o6⟩
theorem s_sacksOut (g : GR S0 13 (M0.2 0)) (iw : In (M0.2 0)) : ∀ r i f n (S : CS) (M : MS), nS (M0.2 0) = i + r → r < f → n ≤ 16 * i → Ow S0 M0 n S M → ∃ S' M' n', n' ≤ 100 ∧ fX10_writeSacks_10 f S (nI i) = some (nI n', S') ∧ fX11_writeSacks_12 f M (nI i) = some (nI n', M') ∧ Ow S0 M0 n' S' M' := by
  intro r
  have h6 := iw.sz.2.1
  have e6 : S0.1 13 6 = nI (nS (M0.2 0)) := by
    rw [g.at0 (f := 6) (q := 1) (by unfold cm; simp) (by omega)]
    obtain ⟨k, h1, h2, h3⟩ := iw.1.1.2.1
    rw [nS_of h3 h2]; exact h3
  have e1 : (M0.2 0) 1 = nI (nS (M0.2 0)) := by
    obtain ⟨k, h1, h2, h3⟩ := iw.1.1.2.1
    rw [nS_of h3 h2]; exact h3
  induction r with
  | zero =>
    intro i f n S M hi hf hn ow
    obtain ⟨f, rfl⟩ : ∃ g, f = g + 1 := ⟨f - 1, by omega⟩
    refine ⟨S, M, n, by omega, ?_, ?_, ow⟩
    · rw [fX10_writeSacks_10]
      dsimp only
      rw [ow.2.1 13 (by omega) (by omega), e6, if_pos (nI_le (by omega) (by omega)), fX10_writeSacks_56, ow.1.1]
    · rw [fX11_writeSacks_12]
      dsimp only
      rw [gi1, tn1, ow.2.2.2.2 0 (by omega), e1, if_pos (nI_le (by omega) (by omega)), fX11_writeSacks_116, ow.1.2.1]
  | succ r ih =>
    intro i f n S M hi hf hn ow
    obtain ⟨f, rfl⟩ : ∃ g, f = g + 1 := ⟨f - 1, by omega⟩
    have st : ∃ S1 M1 n1, n1 ≤ n + 1 ∧ fX10_writeSacks_21 (fX10_writeSacks_10 f) S (nI i) = fX10_writeSacks_34 (fX10_writeSacks_10 f) S1 (nI i) ∧ fX11_writeSacks_22 (fX11_writeSacks_12 f) M (nI i) = fX11_writeSacks_32 (fX11_writeSacks_12 f) M1 (nI i) ∧ Ow S0 M0 n1 S1 M1 := by
      rw [fX10_writeSacks_21, fX11_writeSacks_22]
      by_cases z : i = 0
      · subst z
        rw [if_pos (show nI 0 ≤ (0 : Int32) by decide), if_pos (show nI 0 ≤ (0 : Int32) by decide)]
        exact ⟨S, M, n, by omega, rfl, rfl, ow⟩
      · rw [if_neg (show ¬ nI i ≤ (0 : Int32) from nI_ge (a := 0) (by omega) (by omega)), if_neg (show ¬ nI i ≤ (0 : Int32) from nI_ge (a := 0) (by omega) (by omega)), fX10_writeSacks_25, fX11_writeSacks_26, show (32 : Int32) = nI 32 from rfl]
        obtain ⟨S1, M1, c1, r1, o1⟩ := s_put ow (by omega) (b := 32) (by omega)
        rw [c1, r1, Option.bind_some, Option.bind_some]
        exact ⟨S1, M1, n + 1, by omega, rfl, rfl, o1⟩
    obtain ⟨S1, M1, n1, hn1, c1, r1, o1⟩ := st
    obtain ⟨S2, M2, n2, hn2, c2, r2, o2⟩ := s_sackOut (K := fX11_writeSacks_12 f) g iw (k := i) (by omega) o1 (by omega)
    obtain ⟨S3, M3, n3, hn3, c3, r3, o3⟩ := ih (i + 1) f n2 S2 M2 (by omega) (by omega) (by omega) o2
    refine ⟨S3, M3, n3, hn3, ?_, ?_, o3⟩
    · rw [fX10_writeSacks_10]
      dsimp only
      rw [ow.2.1 13 (by omega) (by omega), e6, if_neg (nI_ge (show i < nS (M0.2 0) by omega) (by omega)), c1, fX10_writeSacks_34, gi_m (show i < 6 by omega) (by omega), nI_c (by omega), c2, Option.bind_some, fX10_writeSacks_50, nI_1, c3]
    · rw [fX11_writeSacks_12]
      dsimp only
      rw [gi1, tn1, ow.2.2.2.2 0 (by omega), e1, if_neg (nI_ge (show i < nS (M0.2 0) by omega) (by omega)), r1, r2, fX11_writeSacks_110, nI_1, r3]
theorem q_writeSacks (r : Rel S M) : Bo (fX10_writeSacks S) (fX11_writeSacks M) := by
  have g := r.1.1
  have iw := r.1.2
  obtain ⟨S1, e1⟩ : ∃ S1 : CS, S1 = (va_up S.1 5 (upd (S.1 5) 1 0), S.2) := ⟨_, rfl⟩
  obtain ⟨M1, e2⟩ : ∃ M1 : MS, M1 = (va_up (va_up M.1 7 0) 24 0, M.2) := ⟨_, rfl⟩
  have so : ∀ q, q ≠ 5 → S1.1 q = S.1 q := fun q h => by rw [e1]; dsimp only; rw [vne h]
  have sn : S1.2 = S.2 := by rw [e1]
  have mo : ∀ j, j ≠ 7 → j ≠ 24 → M1.1 j = M.1 j := fun j h h' => by rw [e2]; dsimp only; rw [vne h', vne h]
  have m2 : M1.2 = M.2 := by rw [e2]
  have ow0 : Ow S1 M1 0 S1 M1 := ⟨⟨by rw [e1]; dsimp only; rw [vat, pk_us, nI_0], by rw [e2]; dsimp only; rw [vat, nI_0], fun j hj => absurd hj (by omega)⟩, fun _ _ _ => rfl, rfl, fun _ _ => rfl, fun _ _ => rfl⟩
  have g1 : GR S1 13 (M1.2 0) := by rw [m2]; exact g.fr iw (fun q h1 h2 => ⟨so q (by omega), by rw [sn]⟩)
  obtain ⟨S2, M2, n, hn, c, d, ow⟩ := s_sacksOut g1 (by rw [m2]; exact iw) (nS (M1.2 0)) 0 FU 0 S1 M1 (by omega) (by rw [FU_eq, m2]; have := iw.sz.2.1; omega) (by omega) ow0
  rw [nI_0] at c d
  obtain ⟨o1, o2, o3, o4, o5⟩ := ow
  have so2 : ∀ q, q ≠ 5 → q ≠ 6 → S2.1 q = S.1 q := fun q h h' => (o2 q h h').trans (so q h)
  have sn2 : S2.2 = S.2 := o3.trans sn
  have mo2 : ∀ j, j ≠ 7 → j ≠ 24 → M2.1 j = M.1 j := fun j h h' => (o4 j h').trans (mo j h h')
  have m22 : ∀ j, j ≠ 23 → M2.2 j = M.2 j := fun j h => (o5 j h).trans (by rw [m2])
  obtain ⟨⟨a, b⟩, ⟨m, rt⟩, p, s, o⟩ := r
  refine ⟨nI n, S2, M2, ?_, ?_, ⟨⟨?_, ?_⟩, ⟨m, rt.fr ?_ ?_ ?_ ?_ ?_ ?_⟩, p.fr ?_ ?_ ?_ ?_, s.fr ?_ ?_ ?_ ?_, ⟨n, hn, o1.1, o1.2.1, o1.2.2⟩⟩, ?_⟩
  · unfold fX10_writeSacks fX10_writeSacks_0
    rw [← e1, fX10_writeSacks_8, c]
  · unfold fX11_writeSacks fX11_writeSacks_0 fX11_writeSacks_5
    rw [← e2, fX11_writeSacks_10, d]
  · rw [m22 0 (by omega)]; exact a.fr b (fun q h1 h2 => ⟨so2 q (by omega) (by omega), by rw [sn2]⟩)
  · rw [m22 0 (by omega)]; exact b
  · exact so2 1 (by omega) (by omega)
  · exact so2 2 (by omega) (by omega)
  · exact mo2 9 (by omega) (by omega)
  · exact mo2 10 (by omega) (by omega)
  · exact mo2 11 (by omega) (by omega)
  · exact m22 8 (by omega)
  · exact so2 0 (by omega) (by omega)
  · exact fun q h => ⟨so2 q (by omega) (by omega), by rw [sn2]⟩
  · exact mo2 5 (by omega) (by omega)
  · exact m22 4 (by omega)
  · rw [so2 0 (by omega) (by omega)]
  · exact fun q h h' => ⟨so2 q (by omega) (by omega), by rw [sn2]⟩
  · exact mo2 6 (by omega) (by omega)
  · exact m22 3 (by omega)
  · rw [o4 7 (by omega), e2]; dsimp only; rw [vne (by omega), vat]
end WSACKS
