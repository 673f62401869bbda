/-! the first setup, both sides -/
section INI
def iT : List Int32 := [99, 97, 116, 32, 116, 111, 109, 32, 53, 32, 108, 101, 102, 116, 59, 99, 97, 116, 32, 112, 117, 115, 115, 32, 51, 32, 114, 105, 103, 104, 116, 59, 99, 97, 116, 32, 109, 111, 115, 115, 32, 55, 32, 114, 105, 103, 104, 116, 59, 115, 97, 99, 107, 32, 114, 121, 101, 32, 54, 48, 32, 52, 32, 111, 112, 101, 110, 59, 115, 97, 99, 107, 32, 111, 97, 116, 115, 32, 51, 48, 32, 57, 32, 115, 104, 117, 116, 59, 115, 97, 99, 107, 32, 112, 101, 97, 115, 32, 56, 32, 50, 32, 111, 112, 101, 110, 59, 115, 104, 105, 102, 116, 32, 116, 111, 109, 32, 52, 59, 115, 104, 105, 102, 116, 32, 112, 117, 115, 115, 32, 51, 59, 115, 104, 105, 102, 116, 32, 109, 111, 115, 115, 32, 53, 59]
/-- the reference's constructor -/
def fX11_ini (M : MS) : Option MS := (fX11_begins M).bind fun M => (fX11_spells M 65 116 111 109 0).bind fun M => (fX11_addsCat M 3 5 1).bind fun M => (fX11_spells M 77 112 117 115 115).bind fun M => (fX11_addsCat M 4 3 0).bind fun M => (fX11_spells M 89 109 111 115 115).bind fun M => (fX11_addsCat M 4 7 0).bind fun M => (fX11_spells M 161 114 121 101 0).bind fun M => (fX11_addsSack M 3 60 4 1).bind fun M => (fX11_spells M 173 111 97 116 115).bind fun M => (fX11_addsSack M 4 30 9 0).bind fun M => (fX11_spells M 185 112 101 97 115).bind fun M => (fX11_addsSack M 4 8 2 1).bind fun M => (fX11_addsShift M 0 4).bind fun M => (fX11_addsShift M 1 3).bind fun M => (fX11_addsShift M 2 5).bind fun M => fX11_starts M
/-- a reference that is given the first setup as its text -/
def iM : MS := (fun j => if j = 9 then 145 else 0, fun j => if j = 8 then fun k => iT.getD k 0 else fun _ => 0)
def iZ : MS := (fun j => if j = 11 then -1 else 0, fun _ _ => 0)
def iL (M : MS) : List Int32 := (List.range 257).map (M.2 0)
set_option maxRecDepth 20000 in
theorem ini_b : ((fX11_startsText iM).bind fun M => fX11_readText M).map (fun q => (q.1, q.2.1 12, q.2.1 13, (List.range 257).map (startW 3 (q.2.2 0)))) = (fX11_ini iZ).map (fun M => ((1 : Int32), (0 : Int32), (-1 : Int32), iL M)) := by decide +kernel
set_option maxRecDepth 20000 in
theorem ini_c : (fX11_ini iZ).map (fun M => [M.1 5, M.1 6, M.1 7, M.1 9, M.1 10, M.1 11, M.1 24, M.2 0 1]) = some [0, 0, 0, 0, 0, -1, 0, 3] := by decide +kernel
variable {S S' : CS} {n : Nat}
theorem iT_len : iT.length = 145 := by decide +kernel
theorem iT_lo : ∀ j : Fin 145, ∃ k : Fin 128, iT.getD j.val 0 = nI k.val := by decide +kernel
theorem c_app1 {x : Int32} (h : S.1 1 2 = nI n) (hn : n < 600) {k : Nat} (hk : k < 128) (ex : x = nI k) : fX8_append S x = some (va_up (va_up S.1 2 (upd (S.1 2) n x)) 1 (upd (S.1 1) 2 (nI (n + 1))), S.2) := by
  subst ex
  unfold fX8_append fX8_append_0
  rw [h, if_neg (show ¬ (600 : Int32) ≤ nI n from nI_ge (b := 600) hn (by omega)), fX8_append_12, h, gi_m hn (by omega), nI_c (by omega), nar7 hk, fX8_append_23]
  dsimp only
  rw [vne (show 1 ≠ 2 by omega), h, nI_1, fX8_append_33]
theorem c_words : ∀ r j f (S : CS), 145 = j + r → r < f → S.1 1 2 = nI j → ∃ S', fX8_appendWords_2 iT f S (nI j) = some S' ∧ S'.1 1 = upd (S.1 1) 2 (nI 145) ∧ (∀ i, j ≤ i → i < 145 → S'.1 2 i = iT.getD i 0) ∧ (∀ i, i < j → S'.1 2 i = S.1 2 i) ∧ (∀ q, q ≠ 1 → q ≠ 2 → S'.1 q = S.1 q) ∧ S'.2 = S.2 := by
  intro r
  induction r with
  | zero =>
    intro j f S hj hf h
    obtain ⟨f, rfl⟩ : ∃ g, f = g + 1 := ⟨f - 1, by omega⟩
    rw [fX8_appendWords_2]
    dsimp only
    rw [iT_len, if_pos (show Int32.ofNat 145 ≤ nI j from nI_le (by omega) (by omega)), fX8_appendWords_25]
    refine ⟨S, rfl, ?_, fun i h1 h2 => absurd h1 (by omega), fun i _ => rfl, fun q _ _ => rfl, rfl⟩
    rw [upd_at (k := 2) (by rw [h, show j = 145 by omega])]
  | succ r ih =>
    intro j f S hj hf h
    obtain ⟨f, rfl⟩ : ∃ g, f = g + 1 := ⟨f - 1, by omega⟩
    obtain ⟨k, ek⟩ := iT_lo ⟨j, by omega⟩
    rw [fX8_appendWords_2]
    dsimp only
    rw [iT_len, if_neg (show ¬ Int32.ofNat 145 ≤ nI j from nI_ge (by omega) (by omega)), fX8_appendWords_10, iT_len, gi_m (show j < 145 by omega) (by omega), nI_c (by omega), c_app1 h (by omega) k.isLt ek, Option.bind_some, fX8_appendWords_19, nI_1]
    obtain ⟨S', h1, h2, h3, h4, h5, h6⟩ := ih (j + 1) f (va_up (va_up S.1 2 (upd (S.1 2) j (iT.getD j 0))) 1 (upd (S.1 1) 2 (nI (j + 1))), S.2) (by omega) (by omega) (by dsimp only; rw [vat, pk_us])
    refine ⟨S', h1, ?_, fun i hi hi2 => ?_, fun i hi => ?_, fun q q1 q2 => ?_, h6⟩
    · rw [h2]; dsimp only; rw [vat, upd_upd]
    · by_cases z : i = j
      · subst z
        rw [h4 i (by omega)]; dsimp only; rw [vne (by omega), vat, pk_us]
      · exact h3 i (by omega) hi2
    · rw [h4 i (by omega)]; dsimp only; rw [vne (by omega), vat, pk_un (by omega)]
    · rw [h5 q q1 q2]; dsimp only; rw [vne q1, vne q2]
/-- the class's constructor, its cells once made -/
noncomputable def fX10_ini (S : CS) : Option CS := (fX8_appendWords S iT).bind fun S => (fX6_parse S).bind fun q => fX2_copyFrom (va_up q.2.1 1 (upd (q.2.1 1) 2 0), q.2.2) 13 48
theorem lst_at {f g : Nat → Int32} (h : (List.range 257).map f = (List.range 257).map g) : ∀ q, q < 257 → f q = g q := fun q hq => by
  have : ((List.range 257).map f)[q]? = ((List.range 257).map g)[q]? := by rw [h]
  rw [List.getElem?_map, List.getElem?_map, List.getElem?_range hq] at this
  exact Option.some.inj this
theorem s_ini (h2 : S.1 1 2 = 0) (h09 : S.1 0 9 = 0) (h10 : S.1 0 10 = 0) (h11 : S.1 0 11 = 0) (h51 : S.1 5 1 = 0) : ∃ S' M, fX10_ini S = some S' ∧ fX11_ini iZ = some M ∧ Rel S' M ∧ M.1 7 = 0 := by
  obtain ⟨M0, eM⟩ : ∃ M, fX11_ini iZ = some M := by
    cases h : fX11_ini iZ with
    | none => have := ini_c; rw [h] at this; cases this
    | some M => exact ⟨M, rfl⟩
  have ec := ini_c
  rw [eM] at ec
  have ec := Option.some.inj ec
  simp only [List.cons.injEq, and_true] at ec
  obtain ⟨m5, m6, m7, m9, m10, m11, m24, w1⟩ := ec
  obtain ⟨S1, a1, a2, a3, a4, a5, a6⟩ := c_words 145 0 FU S (by omega) (by rw [FU_eq]; omega) (by rw [h2, nI_0])
  rw [nI_0] at a1
  have a1 : fX8_appendWords S iT = some S1 := a1
  have tb : TBy 145 (S1.1 2) (iM.2 8) := ⟨by omega, fun j hj => by
    have e1 : S1.1 2 j = iT.getD j 0 := a3 j (by omega) hj
    have e2 : iM.2 8 j = iT.getD j 0 := rfl
    rw [e1, e2]
    obtain ⟨k, ek⟩ := iT_lo ⟨j, hj⟩
    exact ⟨rfl, fun _ => rfl, by rw [show iT.getD j 0 = nI k.val from ek]; exact nI_nem (by omega)⟩⟩
  obtain ⟨S2, e2⟩ : ∃ S2, S2 = tx S1 (upd (upd (upd (S1.1 1) 3 0) 7 0) 8 (-1)) := ⟨_, rfl⟩
  have b1 : fX8_begin S1 = some S2 := by rw [e2]; exact c_tbegin
  obtain ⟨y, r1, ps, y22, yo⟩ := r_startsText (M := iM) (x := S1.1 1) (c := S1.1 2) (n := 145) tb rfl (by rw [a2, pk_us])
  obtain ⟨S3, b3, g3, f3⟩ := c_clear (S := S2) (t := 48) (w := (rx iM y).2 0)
  obtain ⟨M3, e3⟩ : ∃ M3, M3 = mw (rx iM y) (bgW ((rx iM y).2 0)) := ⟨_, rfl⟩
  have bb : fX11_begins (rx iM y) = some M3 := by rw [e3]; exact r_begins
  have i30 : M3.2 0 = bgW ((rx iM y).2 0) := by rw [e3]; exact mw_w
  have i31 : M3.1 = y := by rw [e3]; rfl
  have i3j : ∀ j, j ≠ 0 → M3.2 j = iM.2 j := fun j h => by rw [e3]; exact mw_n h
  have s31 : S3.1 1 = upd (upd (upd (S1.1 1) 3 0) 7 0) 8 (-1) := by rw [(f3 1 (by omega)).1, e2, tx_1]
  have s32 : S3.1 2 = S1.1 2 := by rw [(f3 2 (by omega)).1, e2, tx_b]
  have fc3 : FC S1 S3 := fun q q1 q3 q4 q5 => ⟨by rw [(f3 q (by omega)).1, e2, tx_o q1], by rw [(f3 q (by omega)).2, e2, tx_2]⟩
  obtain ⟨S4, M4, q, c3, c4, pe1, pe2, pe3, pe4⟩ := p_loop (n := 145) 145 0 0 FU FU S3 M3 0 0 0 (by omega) (by rw [FU_eq]; omega) (by rw [FU_eq]; omega) (by omega) (by rw [s31, s32, i31, i3j 8 (by omega)]; exact ps) (by rw [i30]; exact g3) (by rw [i30]; exact SU.begin)
  rw [nI_0] at c3
  have q01 : q = 0 ∨ q = 1 := by
    rcases pe4 with ⟨h, -⟩ | h
    · exact Or.inr h
    · exact Or.inl h
  have rr : fX11_readText (rx iM y) = some (q, M4) := by
    unfold fX11_readText fX11_readText_0
    rw [bb, Option.bind_some, c4, bz_some q01]
  have eb := ini_b
  rw [r1, Option.bind_some, rr, eM] at eb
  have eb := Option.some.inj eb
  simp only [Prod.mk.injEq] at eb
  obtain ⟨q1, z12, z13, zl⟩ := eb
  have zl : ∀ i, i < 257 → startW 3 (M4.2 0) i = M0.2 0 i := lst_at zl
  rcases pe4 with ⟨-, nc, ns, nh, n1, n2, n3, su, g4⟩ | hq0
  case inr => rw [hq0] at q1; exact absurd q1 (by decide)
  obtain ⟨c, hc, ecc⟩ := su.2.2.2.2.2.2.2.2.1 0 (by omega)
  have e3s : ns = 3 := by
    have h1 := zl 1 (by omega)
    rw [startW_k (ns := 3) (c := c) (by have := su.1.2; omega) ecc (q := 1) (Or.inl (by omega)), su.2.1.1, w1] at h1
    exact (nI_eq (b := 3) (by have := su.2.1.2; omega) (by omega)).mp h1
  subst e3s
  have iw := SU_start su n1 n2 n3
  obtain ⟨S5, e5⟩ : ∃ S5 : CS, S5 = (va_up S4.1 1 (upd (S4.1 1) 2 0), S4.2) := ⟨_, rfl⟩
  have s5o : ∀ p, p ≠ 1 → S5.1 p = S4.1 p := fun p hp => by rw [e5]; dsimp only; rw [vne hp]
  have g5 : GR S5 48 (startW 3 (M4.2 0)) := g4.fr iw (fun p h1 h2 => ⟨s5o p (by omega), by rw [e5]⟩)
  obtain ⟨S6, k1, k2, k3⟩ := c_copyFrom (S := S5) (t := 13) (b := 48) (by omega) iw g5
  have op : fX10_ini S = some S6 := by
    unfold fX10_ini
    rw [a1, Option.bind_some]
    unfold fX6_parse fX6_parse_0
    rw [b1, Option.bind_some, fX6_parse_7, b3, Option.bind_some, fX6_parse_14, c3, bz_some q01, Option.bind_some]
    dsimp only
    rw [← e5]
    exact k1
  have fo : ∀ p, p ≠ 1 → p ≠ 2 → p ≠ 3 → p ≠ 4 → ¬ (13 ≤ p ∧ p < 83) → S6.1 p = S.1 p := fun p h1 h2 h3 h4 h5 => by
    rw [(k3 p (by omega)).1, s5o p h1, (pe1 p h1 h3 h4 (by omega)).1, (fc3 p h1 h3 h4 (by omega)).1, a5 p h1 h2]
  have s61 : S6.1 1 = upd (S4.1 1) 2 0 := by rw [(k3 1 (by omega)).1, e5]; dsimp only; rw [vat]
  refine ⟨S6, M0, op, eM, ⟨⟨?_, ?_⟩, ⟨0, ?_, ?_, ⟨by omega, fun j hj => absurd hj (by omega)⟩, ?_, ?_⟩, ⟨0, 0, by omega, by omega, ?_, ?_, ?_, fun k hk => absurd hk (by omega)⟩, Or.inl ⟨?_, m6⟩, ⟨0, by omega, ?_, ?_, fun j hj => absurd hj (by omega)⟩⟩, m7⟩
  · exact k2.cg iw (fun i hi => (zl i hi).symm)
  · exact iw.cong (fun i hi => (zl i hi).symm)
  · rw [s61, pk_us, nI_0]
  · rw [m9, nI_0]
  · rw [s61, pk_un (by omega), m10, pe3.1]; exact z12
  · rw [s61, pk_un (by omega), m11, pe3.2]; exact z13
  · rw [fo 0 (by omega) (by omega) (by omega) (by omega) (by omega), h11, nI_0]
  · rw [m5, nI_0]
  · rw [fo 0 (by omega) (by omega) (by omega) (by omega) (by omega), h10, nI_0]
  · rw [fo 0 (by omega) (by omega) (by omega) (by omega) (by omega)]; exact h09
  · rw [fo 5 (by omega) (by omega) (by omega) (by omega) (by omega), h51, nI_0]
  · rw [m24, nI_0]
end INI
