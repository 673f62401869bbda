/-! class state and reference state, told apart by nothing that a call shows -/
section REL
variable {S S' : CS} {M M' : MS} {n t : Nat} {w w' : Wd}
def RT (S : CS) (M : MS) (n : Nat) : Prop := S.1 1 2 = nI n ∧ M.1 9 = nI n ∧ TBy n (S.1 2) (M.2 8) ∧ S.1 1 7 = M.1 10 ∧ S.1 1 8 = M.1 11
def pW (M : MS) (k : Nat) : Wd := fun q => M.2 4 (257 * k + q)
def RP (S : CS) (M : MS) : Prop := ∃ u nx, u ≤ 8 ∧ nx < 8 ∧ S.1 0 11 = nI u ∧ M.1 5 = nI u ∧ S.1 0 10 = nI nx ∧ ∀ k, k < u → GR S (153 + 35 * ((nx + 7 - k) % 8)) (pW M (u - 1 - k)) ∧ In (pW M (u - 1 - k))
def RS (S : CS) (M : MS) : Prop := (S.1 0 9 = 0 ∧ M.1 6 = 0) ∨ (S.1 0 9 = 1 ∧ M.1 6 = 1 ∧ GR S 118 (M.2 3) ∧ In (M.2 3))
def RO (S : CS) (M : MS) : Prop := ∃ n, n ≤ 100 ∧ S.1 5 1 = nI n ∧ M.1 24 = nI n ∧ ∀ j, j < n → S.1 6 j = M.2 23 j
def RN (S : CS) (M : MS) : Prop := GR S 13 (M.2 0) ∧ In (M.2 0)
def Rel (S : CS) (M : MS) : Prop := RN S M ∧ (∃ n, RT S M n) ∧ RP S M ∧ RS S M ∧ RO S M
theorem In.sz (i : In w) : nC w ≤ 8 ∧ nS w ≤ 6 ∧ nH w ≤ 12 := ⟨i.1.1.sz.1.2.1, i.1.1.sz.2.1.2.1, i.1.1.sz.2.2.2.1⟩
theorem In.cong (h : ∀ q, q < 257 → w' q = w q) (i : In w) : In w' := by
  have sz := i.sz
  have e0 : nC w' = nC w := by unfold nC; rw [h 0 (by omega)]
  have e1 : nS w' = nS w := by unfold nS; rw [h 1 (by omega)]
  have e2 : nH w' = nH w := by unfold nH; rw [h 2 (by omega)]
  obtain ⟨⟨⟨a, b, c, d⟩, ⟨e, f, g⟩, k, l⟩, m, o⟩ := i
  refine ⟨⟨⟨?_, ?_, ?_, fun j hj => ?_⟩, ⟨?_, ?_, ?_⟩, fun j hj => ?_, fun j hj => ?_⟩, fun j hj => ?_, ?_⟩
  · rw [h 0 (by omega)]; exact a
  · rw [h 1 (by omega)]; exact b
  · rw [h 2 (by omega)]; exact c
  · rw [e2] at hj; rw [e0, h _ (by omega)]; exact d j hj
  · rw [e0, h 5 (by omega)]; exact e
  · rw [e2, h 6 (by omega)]; exact f
  · rw [h 16 (by omega)]; exact g
  · rw [e1] at hj; rw [h _ (by omega)]; exact k j hj
  · rw [e1] at hj; rw [h _ (by omega), h _ (by omega)]; exact l j hj
  · rw [e0] at hj; rw [h _ (by omega)]; exact m j hj
  · rw [h 4 (by omega)]; exact o
theorem GR.fr (g : GR S t w) (i : In w) (h : ∀ q, t ≤ q → q < t + 35 → S'.1 q = S.1 q ∧ S'.2 q = S.2 q) : GR S' t w := g.frame (fun o ho => h _ (by omega) (by omega)) i.sz.1 i.sz.2.1
theorem GR.cg (g : GR S t w) (i : In w) (h : ∀ q, q < 257 → w' q = w q) : GR S t w' := g.cong i.sz.1 i.sz.2.1 h
theorem RP.fr (r : RP S M) (h0 : S'.1 0 = S.1 0) (hp : ∀ q, 153 ≤ q → S'.1 q = S.1 q ∧ S'.2 q = S.2 q) (h5 : M'.1 5 = M.1 5) (h4 : M'.2 4 = M.2 4) : RP S' M' := by
  obtain ⟨u, nx, u8, n8, a, b, c, d⟩ := r
  have e : ∀ k, pW M' k = pW M k := fun k => by unfold pW; rw [h4]
  refine ⟨u, nx, u8, n8, by rw [h0]; exact a, by rw [h5]; exact b, by rw [h0]; exact c, fun k hk => ?_⟩
  rw [e]
  exact ⟨(d k hk).1.fr (d k hk).2 (fun q h1 h2 => hp q (by omega)), (d k hk).2⟩
theorem RS.fr (r : RS S M) (h0 : S'.1 0 9 = S.1 0 9) (hp : ∀ q, 118 ≤ q → q < 153 → S'.1 q = S.1 q ∧ S'.2 q = S.2 q) (h6 : M'.1 6 = M.1 6) (h3 : M'.2 3 = M.2 3) : RS S' M' := by
  unfold RS
  rw [h0, h6, h3]
  rcases r with h | ⟨a, b, c, d⟩
  · exact Or.inl h
  · exact Or.inr ⟨a, b, c.fr d (fun q h1 h2 => hp q h1 (by omega)), d⟩
theorem RO.fr (r : RO S M) (h5 : S'.1 5 = S.1 5) (h6 : S'.1 6 = S.1 6) (h24 : M'.1 24 = M.1 24) (h23 : M'.2 23 = M.2 23) : RO S' M' := by
  unfold RO
  rw [h5, h6, h24, h23]
  exact r
theorem bz_some {α : Type} {r : Int32} {s : α} (h : r = 0 ∨ r = 1) : bz (some (r, s)) = some (r, s) := bz_s h
theorem mIs_k {a : Nat} (h : a = 0 ∨ a = 1 ∨ a = 2 ∨ a = 3 ∨ a = 4) : mIs a := by
  rcases h with h | h | h | h | h <;> (subst h; decide)
theorem mL_k {a : Nat} (h : a = 0 ∨ a = 1 ∨ a = 2 ∨ a = 3) : mL a = 257 := by
  rcases h with h | h | h | h <;> (subst h; decide)
theorem mL_4 : mL 4 = 2056 := by decide
theorem r_copy {a b : Nat} (ha : a = 0 ∨ a = 1 ∨ a = 2 ∨ a = 3) (hb : b = 0 ∨ b = 1 ∨ b = 2 ∨ b = 3) (hab : a ≠ b) : fX11_copies M a 0 b 0 = some (M.1, va_up M.2 b (cpW (M.2 a) 0 (M.2 b) 0 257)) :=
  r_copies (p := 0) (q := 0) hab (mIs_k (by omega)) (mIs_k (by omega)) (by rw [mL_k ha]; omega) (by rw [mL_k hb]; omega) (by rw [mL_k ha]; omega) (by rw [mL_k hb]; omega)
theorem cpW_in {f d : Wd} {q : Nat} (h : q < 257) : cpW f 0 d 0 257 q = f q := by
  unfold cpW
  rw [if_pos (by omega), Nat.zero_add, Nat.sub_zero]
theorem s_load (r : Rel S M) : ∃ S' M' a, fX10_loadGranary S = some (a, S') ∧ fX11_loadGranary M = some (a, M') ∧ Rel S' M' ∧ M'.1 7 = 0 := by
  obtain ⟨⟨gN, iN⟩, ⟨n, t1, t2, t3, t4, t5⟩, rp, rs, ro⟩ := r
  -- class up to the loop
  obtain ⟨S1, e1⟩ : ∃ S1, S1 = tx S (upd (upd (upd (S.1 1) 3 0) 7 0) 8 (-1)) := ⟨_, rfl⟩
  have b1 : fX8_begin S = some S1 := by rw [e1]; exact c_tbegin
  obtain ⟨M2, e2⟩ : ∃ M2 : MS, M2 = (va_up M.1 7 0, va_up M.2 1 (cpW (M.2 0) 0 (M.2 1) 0 257)) := ⟨_, rfl⟩
  have m8 : M2.2 8 = M.2 8 := by rw [e2]; dsimp only; rw [vne (by decide)]
  have m9 : M2.1 9 = M.1 9 := by rw [e2]; dsimp only; rw [vne (by decide)]
  obtain ⟨y, r1, ps, y22, yo⟩ := r_startsText (M := M2) (x := S.1 1) (c := S.1 2) (n := n) (by rw [m8]; exact t3) (by rw [m9]; exact t2) t1
  obtain ⟨S2, b2, g2, f2⟩ := c_clear (S := S1) (t := 48) (w := (rx M2 y).2 0)
  obtain ⟨M3, e3⟩ : ∃ M3, M3 = mw (rx M2 y) (bgW ((rx M2 y).2 0)) := ⟨_, rfl⟩
  have b3 : fX11_begins (rx M2 y) = some M3 := by rw [e3]; exact r_begins
  have i30 : M3.2 0 = bgW ((rx M2 y).2 0) := by rw [e3]; exact mw_w
  have i31 : M3.1 = y := by rw [e3]; rfl
  have i3j : ∀ j, j ≠ 0 → M3.2 j = M2.2 j := fun j h => by rw [e3]; exact mw_n h
  have s21 : S2.1 1 = upd (upd (upd (S.1 1) 3 0) 7 0) 8 (-1) := by rw [(f2 1 (by omega)).1, e1, tx_1]
  have s22 : S2.1 2 = S.1 2 := by rw [(f2 2 (by omega)).1, e1, tx_b]
  have fc2 : FC S S2 := fun q q1 q3 q4 q5 => ⟨by rw [(f2 q (by omega)).1, e1, tx_o q1], by rw [(f2 q (by omega)).2, e1, tx_2]⟩
  obtain ⟨S3, M4, q, c3, c4, pe1, pe2, pe3, pe4⟩ := p_loop (n := n) n 0 0 FU FU S2 M3 0 0 0 (by omega) (by rw [FU_eq]; have := t3.1; omega) (by rw [FU_eq]; have := t3.1; omega) (by omega) (by rw [s21, s22, i31, i3j 8 (by omega)]; exact ps) (by rw [i30]; exact g2) (by rw [i30]; exact SU.begin)
  rw [nI_0] at c3
  have q01 : q = 0 ∨ q = 1 := by
    rcases pe4 with ⟨h, -⟩ | h
    · exact Or.inr h
    · exact Or.inl h
  have fc3 : FC S S3 := fc2.trans pe1
  obtain ⟨S4, e4⟩ : ∃ S4 : CS, S4 = (va_up S3.1 1 (upd (S3.1 1) 2 0), S3.2) := ⟨_, rfl⟩
  have opC : fX10_loadGranary S = fX10_loadGranary_16 S4 q := by
    unfold fX10_loadGranary fX10_loadGranary_0 fX6_parse fX6_parse_0
    rw [b1, Option.bind_some, fX6_parse_7, b2, Option.bind_some, fX6_parse_14, c3, bz_some q01, Option.bind_some]
    dsimp only
    rw [fX10_loadGranary_7, ← e4]
  obtain ⟨M5, e5⟩ : ∃ M5 : MS, M5 = (va_up (va_up (va_up M4.1 9 0) 10 (M4.1 12)) 11 (M4.1 13), M4.2) := ⟨_, rfl⟩
  have opR : fX11_loadGranary M = fX11_loadGranary_31 M5 q := by
    have en : fX11_endsText M4 = some M5 := by
      unfold fX11_endsText fX11_endsText_0 fX11_endsText_5 fX11_endsText_13 fX11_endsText_21
      dsimp only
      rw [vne (show 12 ≠ 9 by omega), vne (show 13 ≠ 10 by omega), vne (show 13 ≠ 9 by omega), ← e5]
    unfold fX11_loadGranary fX11_loadGranary_0 fX11_loadGranary_5
    rw [r_copy (a := 0) (b := 1) (by omega) (by omega) (by omega), Option.bind_some]
    dsimp only
    rw [← e2, fX11_loadGranary_18, r1, Option.bind_some, fX11_loadGranary_22]
    unfold fX11_readText fX11_readText_0
    rw [b3, Option.bind_some, c4, bz_some q01, Option.bind_some]
    dsimp only
    rw [fX11_loadGranary_26, en, Option.bind_some]
  have fi : ∀ j, ¬ (9 ≤ j ∧ j ≤ 18) → j ≠ 22 → j ≠ 7 → M5.1 j = M.1 j := fun j h1 h2 h3 => by
    rw [e5]; dsimp only
    rw [vne (by omega), vne (by omega), vne (by omega), pe2.1 j (by omega), i31, yo j (by omega) h2, e2]
    dsimp only; rw [vne h3]
  have fi7 : M5.1 7 = 0 := by
    rw [e5]; dsimp only
    rw [vne (by omega), vne (by omega), vne (by omega), pe2.1 7 (by omega), i31, yo 7 (by omega) (by omega), e2]
    dsimp only; rw [vat]
  have fa : ∀ j, j ≠ 0 → j ≠ 1 → j ≠ 19 → M5.2 j = M.2 j := fun j h0 h1 h2 => by
    rw [e5]; dsimp only
    rw [pe2.2 j h0 h2, i3j j h0, e2]
    dsimp only; rw [vne h1]
  have fa1 : M5.2 1 = cpW (M.2 0) 0 (M.2 1) 0 257 := by
    rw [e5]; dsimp only
    rw [pe2.2 1 (by omega) (by omega), i3j 1 (by omega), e2]
    dsimp only; rw [vat]
  have fs : ∀ p, p ≠ 1 → p ≠ 3 → p ≠ 4 → ¬ (48 ≤ p ∧ p < 83) → S4.1 p = S.1 p ∧ S4.2 p = S.2 p := fun p h1 h3 h4 h5 => by
    rw [e4]; dsimp only
    rw [vne h1]
    exact fc3 p h1 h3 h4 h5
  have s42 : S4.1 1 2 = nI 0 := by rw [e4]; dsimp only; rw [vat, pk_us, nI_0]
  have s4o : ∀ f, f ≠ 2 → S4.1 1 f = S3.1 1 f := fun f hf => by rw [e4]; dsimp only; rw [vat, pk_un hf]
  have rt : ∀ (S' : CS) (M' : MS), S'.1 1 = S4.1 1 → M'.1 9 = M5.1 9 → M'.1 10 = M5.1 10 → M'.1 11 = M5.1 11 → RT S' M' 0 := fun S' M' h1 h9 h10 h11 => by
    refine ⟨by rw [h1]; exact s42, ?_, ⟨by omega, fun j hj => absurd hj (by omega)⟩, ?_, ?_⟩
    · rw [h9, e5]; dsimp only; rw [vne (by omega), vne (by omega), vat, nI_0]
    · rw [h1, s4o 7 (by omega), h10, e5]; dsimp only; rw [vne (by omega), vat]; exact pe3.1
    · rw [h1, s4o 8 (by omega), h11, e5]; dsimp only; rw [vat]; exact pe3.2
  rw [opC, opR, fX10_loadGranary_16, fX11_loadGranary_31]
  rcases pe4 with ⟨hq, nc, ns, nh, n1, n2, n3, su, g3⟩ | hq
  · rw [if_neg (by rw [hq]; decide), if_neg (by rw [hq]; decide), fX10_loadGranary_22, fX11_loadGranary_50]
    have iw := SU_start su n1 n2 n3
    have e50 : M5.2 0 = M4.2 0 := by rw [e5]
    obtain ⟨c, hc, ec⟩ := su.2.2.2.2.2.2.2.2.1 0 (by omega)
    have st := r_starts (M := M5) (w := M4.2 0) su.2.1.1 su.2.1.2 (c := c) ec (by have := su.1.2; omega)
    rw [← e50, mw_self, e50] at st
    have g4 : GR S4 48 (startW ns (M4.2 0)) := g3.fr iw (fun p h1 h2 => by rw [e4]; dsimp only; rw [vne (by omega)]; exact ⟨rfl, rfl⟩)
    obtain ⟨S5, k1, k2, k3⟩ := c_copyFrom (S := S4) (t := 13) (b := 48) (by omega) iw g4
    rw [k1, st, Option.bind_some, Option.bind_some, fX10_loadGranary_33, fX10_loadGranary_38, fX10_loadGranary_43, fX11_loadGranary_54, fX11_loadGranary_59, fX11_loadGranary_64, gi0, tn0]
    dsimp only
    have ea : va_up (va_up S5.1 0 (upd (S5.1 0) 11 0)) 0 (upd (va_up S5.1 0 (upd (S5.1 0) 11 0) 0) 9 0) 13 5 = (mw M5 (startW ns (M4.2 0))).2 0 0 := by
      rw [vne (by omega), vne (by omega), mw_w]
      exact k2.at0 (f := 5) (q := 0) (by unfold cm; simp) (by omega)
    refine ⟨_, _, _, rfl, by rw [ea], ?_, ?_⟩
    · refine ⟨⟨?_, ?_⟩, ⟨0, rt _ _ ?_ ?_ ?_ ?_⟩, ?_, Or.inl ⟨?_, ?_⟩, ro.fr ?_ ?_ ?_ ?_⟩
      · rw [mw_w]
        exact k2.fr iw (fun p h1 h2 => ⟨by dsimp only; rw [vne (by omega), vne (by omega)], rfl⟩)
      · rw [mw_w]; exact iw
      · dsimp only; rw [vne (by omega), vne (by omega), (k3 1 (by omega)).1]
      · dsimp only; rw [vne (by omega), vne (by omega)]; rfl
      · dsimp only; rw [vne (by omega), vne (by omega)]; rfl
      · dsimp only; rw [vne (by omega), vne (by omega)]; rfl
      · obtain ⟨u, nx, u8, n8, a, b, c, d⟩ := rp
        refine ⟨0, nx, by omega, n8, ?_, ?_, ?_, fun k hk => absurd hk (by omega)⟩
        · dsimp only; rw [vat, pk_un (by omega), vat, pk_us, nI_0]
        · dsimp only; rw [vne (by omega), vat, nI_0]
        · dsimp only; rw [vat, pk_un (by omega), vat, pk_un (by omega), (k3 0 (by omega)).1, (fs 0 (by omega) (by omega) (by omega) (by omega)).1]; exact c
      · dsimp only; rw [vat, pk_us]
      · dsimp only; rw [vat]
      · dsimp only; rw [vne (by omega), vne (by omega), (k3 5 (by omega)).1, (fs 5 (by omega) (by omega) (by omega) (by omega)).1]
      · dsimp only; rw [vne (by omega), vne (by omega), (k3 6 (by omega)).1, (fs 6 (by omega) (by omega) (by omega) (by omega)).1]
      · dsimp only; rw [vne (by omega), vne (by omega)]; exact fi 24 (by omega) (by omega) (by omega)
      · dsimp only; rw [mw_n (by omega)]; exact fa 23 (by omega) (by omega) (by omega)
    · dsimp only; rw [vne (by omega), vne (by omega)]; exact fi7
  · rw [if_pos hq, if_pos hq, fX10_loadGranary_20, fX11_loadGranary_35, r_copy (a := 1) (b := 0) (by omega) (by omega) (by omega), Option.bind_some, fX11_loadGranary_48]
    have ew : ∀ q, q < 257 → cpW (M5.2 1) 0 (M5.2 0) 0 257 q = M.2 0 q := fun q hq => by
      rw [cpW_in hq, fa1, cpW_in hq]
    refine ⟨_, _, _, rfl, rfl, ⟨⟨?_, ?_⟩, ⟨0, rt _ _ rfl rfl rfl rfl⟩, rp.fr ?_ ?_ ?_ ?_, rs.fr ?_ ?_ ?_ ?_, ro.fr ?_ ?_ ?_ ?_⟩, fi7⟩
    · dsimp only
      rw [vat]
      exact (gN.fr iN (fun p h1 h2 => fs p (by omega) (by omega) (by omega) (by omega))).cg iN ew
    · dsimp only
      rw [vat]
      exact iN.cong ew
    · exact (fs 0 (by omega) (by omega) (by omega) (by omega)).1
    · exact fun p h1 => fs p (by omega) (by omega) (by omega) (by omega)
    · exact fi 5 (by omega) (by omega) (by omega)
    · dsimp only; rw [vne (by omega)]; exact fa 4 (by omega) (by omega) (by omega)
    · rw [(fs 0 (by omega) (by omega) (by omega) (by omega)).1]
    · exact fun p h1 h2 => fs p (by omega) (by omega) (by omega) (by omega)
    · exact fi 6 (by omega) (by omega) (by omega)
    · dsimp only; rw [vne (by omega)]; exact fa 3 (by omega) (by omega) (by omega)
    · exact (fs 5 (by omega) (by omega) (by omega) (by omega)).1
    · exact (fs 6 (by omega) (by omega) (by omega) (by omega)).1
    · exact fi 24 (by omega) (by omega) (by omega)
    · dsimp only; rw [vne (by omega)]; exact fa 23 (by omega) (by omega) (by omega)
end REL
