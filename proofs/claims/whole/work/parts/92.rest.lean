/-! a script's statement, both sides -/
section SREST
variable {S S' : CS} {M M' : MS} {n p s c d : Nat} {w : Wd}
/-- the reference's state once the order is written down -/
def ordM (M : MS) (c : Nat) (kd : Int32) : MS := (M.1, va_up (va_up M.2 20 (upd (M.2 20) c kd)) 21 (upd (upd (M.2 21) (2 * c) (M.2 19 0)) (2 * c + 1) (M.2 19 1)))
theorem ordM_20 {kd : Int32} : (ordM M c kd).2 20 c = kd := by unfold ordM; dsimp only; rw [vne (by omega), vat, pk_us]
theorem ordM_a {kd : Int32} : (ordM M c kd).2 21 (2 * c) = M.2 19 0 := by unfold ordM; dsimp only; rw [vat, pk_un (by omega), pk_us]
theorem ordM_b {kd : Int32} : (ordM M c kd).2 21 (2 * c + 1) = M.2 19 1 := by unfold ordM; dsimp only; rw [vat, pk_us]
theorem ordM_n {kd : Int32} {j : Nat} (h : j ≠ 20) (h' : j ≠ 21) : (ordM M c kd).2 j = M.2 j := by unfold ordM; dsimp only; rw [vne h', vne h]
/-- the orders before the c-th stay -/
def Kp (c : Nat) (S : CS) (M : MS) (S' : CS) (M' : MS) : Prop := ∀ j, j < c → S'.1 9 j = S.1 9 j ∧ S'.1 10 j = S.1 10 j ∧ S'.1 11 j = S.1 11 j ∧ M'.2 20 j = M.2 20 j ∧ M'.2 21 (2 * j) = M.2 21 (2 * j) ∧ M'.2 21 (2 * j + 1) = M.2 21 (2 * j + 1)
theorem Od.kp {j : Nat} (o : Od S M j) (h9 : S'.1 9 j = S.1 9 j) (h10 : S'.1 10 j = S.1 10 j) (h11 : S'.1 11 j = S.1 11 j) (h20 : M'.2 20 j = M.2 20 j) (h21 : M'.2 21 (2 * j) = M.2 21 (2 * j)) (h22 : M'.2 21 (2 * j + 1) = M.2 21 (2 * j + 1)) (hn : nS (M'.2 0) = nS (M.2 0)) : Od S' M' j := by
  unfold Od
  rw [h9, h10, h11, h20, h21, h22, hn]
  exact o
def Wo (S : CS) (M : MS) (n p c : Nat) (kd : Int32) (S' : CS) (M' : MS) (r : Int32) : Prop := FS S S' ∧ FQ M M' ∧ ((r = 1 ∧ ∃ p', p ≤ p' ∧ PS n p' (S'.1 1) (S'.1 2) M'.1 (M'.2 8) ∧ Od S' (ordM M' c kd) c ∧ (∀ j, j ≠ c → S'.1 9 j = S.1 9 j ∧ S'.1 10 j = S.1 10 j ∧ S'.1 11 j = S.1 11 j) ∧ S'.1 8 = S.1 8 ∧ M'.1 22 = M.1 22 ∧ M'.2 20 = M.2 20 ∧ M'.2 21 = M.2 21) ∨ (r = 0 ∧ Er (S'.1 1) M'.1))
theorem Bad.wo {kd : Int32} (h : Bad S M S' M') : Wo S M n p c kd S' M' 0 := ⟨h.1, h.2.1, Or.inr ⟨rfl, h.2.2⟩⟩
theorem Bad.of {S1 : CS} {M1 : MS} (a : FS S S1) (b : FQ M M1) (h : Bad S1 M1 S' M') : Bad S M S' M' := ⟨a.trans h.1, b.trans h.2.1, h.2.2⟩
theorem Wo.r01 {kd r : Int32} (h : Wo S M n p c kd S' M' r) : r = 0 ∨ r = 1 := by
  obtain ⟨-, -, ⟨h, -⟩ | ⟨h, -⟩⟩ := h
  · exact Or.inr h
  · exact Or.inl h
/-- the class's words behind the keyword -/
def cW (S : CS) (x : Int32) : Option (Int32 × CS) := (fX5_readSackName S x).bind fun q => if q.1 = 0 then some (0, q.2) else fX5_readNumber q.2 x
theorem cW_48 {x : Int32} : fX5_readRest_48 S x = (cW S x).bind fun q => fX5_readRest_61 q.2 q.1 := by
  unfold cW
  rw [fX5_readRest_48]
  cases hh : fX5_readSackName S x with
  | none => rfl
  | some q =>
    rw [Option.bind_some, Option.bind_some, fX5_readRest_53]
    by_cases h : q.1 = 0
    · rw [if_pos h, if_pos h, fX5_readRest_64, Option.bind_some, fX5_readRest_61, if_pos rfl, fX5_readRest_64]
    · rw [if_neg h, if_neg h, fX5_readRest_56]
theorem s_wait (h : PS n p (S.1 1) (S.1 2) M.1 (M.2 8)) (h8 : S.1 8 5 = nI c) (hc : c < 30) (h9 : S.1 9 c = 0) : ∃ S' M' r, cW S 0 = some (r, S') ∧ bz (fX11_takesRest_4 M 1) = some (r, M') ∧ Wo S M n p c 1 S' M' r := by
  obtain ⟨S1, M1, ⟨c1, r1, b⟩ | ⟨c1, r1, v, p', rg, hp, ps, no, om⟩⟩ := s_numOp (lo := 1) (hi := 99) (k := 0) (by omega) h h8 hc
  · refine ⟨S1, M1, 0, ?_, ?_, b.wo⟩
    · unfold cW fX5_readSackName fX5_readSackName_0
      rw [if_pos rfl, fX5_readSackName_15, bz_s (Or.inr rfl), Option.bind_some, if_neg one0]
      show bz (fX5_readNumber_38 S 99 1) = _
      rw [c1]; rfl
    · show bz ((fX11_takes M (nI 0) 1 99).bind fun q => fX11_takesRest_52 q.2 q.1) = _
      rw [r1, Option.bind_some]; rfl
  · obtain ⟨m, m1, m2, em⟩ := rg_nat (a := 1) (b := 99) (by omega) (by omega) rg
    refine ⟨S1, M1, 1, ?_, ?_, no.fs, om.fq, Or.inl ⟨rfl, p', hp, ps, Or.inl ⟨?_, ordM_20, m, m2, ?_, ?_⟩, fun j hj => ⟨?_, ?_, ?_⟩, no.1 8 (by omega) (by omega), om.1 22 (by omega), om.as (by omega), om.as (by omega)⟩⟩
    · unfold cW fX5_readSackName fX5_readSackName_0
      rw [if_pos rfl, fX5_readSackName_15, bz_s (Or.inr rfl), Option.bind_some, if_neg one0]
      show bz (fX5_readNumber_38 S 99 1) = _
      rw [c1]; rfl
    · show bz ((fX11_takes M (nI 0) 1 99).bind fun q => fX11_takesRest_52 q.2 q.1) = _
      rw [r1, Option.bind_some]; rfl
    · rw [no.1 9 (by omega) (by omega)]; exact h9
    · rw [no.2.1, pk_us]; exact em
    · rw [ordM_a, om.2, vat, pk_us]; exact em
    · rw [no.1 9 (by omega) (by omega)]
    · rw [no.1 10 (by omega) (by omega)]
    · rw [no.2.1, pk_un hj]
theorem s_setMilk (h : PS n p (S.1 1) (S.1 2) M.1 (M.2 8)) (h8 : S.1 8 5 = nI c) (hc : c < 30) (h9 : S.1 9 c = 6) : ∃ S' M' r, cW S 6 = some (r, S') ∧ bz (fX11_takesRest_4 M 7) = some (r, M') ∧ Wo S M n p c 7 S' M' r := by
  obtain ⟨S1, M1, ⟨c1, r1, b⟩ | ⟨c1, r1, v, p', rg, hp, ps, no, om⟩⟩ := s_numOp (lo := 0) (hi := 9) (k := 0) (by omega) h h8 hc
  · refine ⟨S1, M1, 0, ?_, ?_, b.wo⟩
    · unfold cW
      show (bz (some (1, S))).bind _ = _
      rw [bz_s (Or.inr rfl), Option.bind_some, if_neg one0]
      show bz (fX5_readNumber_38 S 9 0) = _
      rw [c1]; rfl
    · show bz ((fX11_takes M (nI 0) 0 9).bind fun q => fX11_takesRest_129 q.2 q.1) = _
      rw [r1, Option.bind_some]; rfl
  · obtain ⟨m, m1, m2, em⟩ := rg_nat (a := 0) (b := 9) (by omega) (by omega) rg
    refine ⟨S1, M1, 1, ?_, ?_, no.fs, om.fq, Or.inl ⟨rfl, p', hp, ps, Or.inr (Or.inr (Or.inr (Or.inr (Or.inr (Or.inr ⟨?_, ordM_20, m, m2, ?_, ?_⟩))))), fun j hj => ⟨?_, ?_, ?_⟩, no.1 8 (by omega) (by omega), om.1 22 (by omega), om.as (by omega), om.as (by omega)⟩⟩
    · unfold cW
      show (bz (some (1, S))).bind _ = _
      rw [bz_s (Or.inr rfl), Option.bind_some, if_neg one0]
      show bz (fX5_readNumber_38 S 9 0) = _
      rw [c1]; rfl
    · show bz ((fX11_takes M (nI 0) 0 9).bind fun q => fX11_takesRest_129 q.2 q.1) = _
      rw [r1, Option.bind_some]; rfl
    · rw [no.1 9 (by omega) (by omega)]; exact h9
    · rw [no.2.1, pk_us]; exact em
    · rw [ordM_a, om.2, vat, pk_us]; exact em
    · rw [no.1 9 (by omega) (by omega)]
    · rw [no.1 10 (by omega) (by omega)]
    · rw [no.2.1, pk_un hj]
theorem s_dismissed (h : PS n p (S.1 1) (S.1 2) M.1 (M.2 8)) (h9 : S.1 9 c = 5) : ∃ S' M' r, cW S 5 = some (r, S') ∧ bz (fX11_takesRest_4 M 6) = some (r, M') ∧ Wo S M n p c 6 S' M' r := by
  refine ⟨S, M, 1, ?_, rfl, FS.refl, FQ.refl, Or.inl ⟨rfl, p, Nat.le_refl _, h, Or.inr (Or.inr (Or.inr (Or.inr (Or.inr (Or.inl ⟨h9, ordM_20⟩))))), fun j hj => ⟨rfl, rfl, rfl⟩, rfl, rfl, rfl, rfl⟩⟩
  unfold cW
  show (bz (some (1, S))).bind _ = _
  rw [bz_s (Or.inr rfl), Option.bind_some, if_neg one0]
  rfl
theorem s_flap {x : Int32} (hx : x = 1 ∨ x = 2) (h : PS n p (S.1 1) (S.1 2) M.1 (M.2 8)) (g : GR S 13 (M.2 0)) (iw : In (M.2 0)) (h8 : S.1 8 5 = nI c) (hc : c < 30) (h9 : S.1 9 c = x) : ∃ S' M' r, cW S x = some (r, S') ∧ bz (fX11_takesRest_4 M (x + 1)) = some (r, M') ∧ Wo S M n p c (x + 1) S' M' r := by
  have opC : cW S x = (bz (fX5_readSackName_17 S)).bind fun q => if q.1 = 0 then some (0, q.2) else some (1, q.2) := by
    rcases hx with z | z <;> (subst z; rfl)
  have opR : fX11_takesRest_4 M (x + 1) = (fX11_takesKnown M 161 1).bind fun q => fX11_takesRest_61 q.2 q.1 := by
    rcases hx with z | z <;> (subst z; rfl)
  rw [opC, opR]
  obtain ⟨S1, M1, ⟨c1, r1, b⟩ | ⟨c1, r1, k, p', hk, hp, ps, nm, om⟩⟩ := s_sackOp h g iw h8 hc
  · refine ⟨S1, M1, 0, ?_, ?_, b.wo⟩
    · rw [c1]; rfl
    · rw [r1]; rfl
  · have od : Od S1 (ordM M1 c (x + 1)) c := by
      have a9 : S1.1 9 c = x := by rw [nm.1 9 (by omega) (by omega)]; exact h9
      have a10 : S1.1 10 c = nI k := by rw [nm.2.1, pk_us]
      have b21 : (ordM M1 c (x + 1)).2 21 (2 * c) = nI k := by rw [ordM_a, om.2, vat, pk_us]
      have bn : nS ((ordM M1 c (x + 1)).2 0) = nS (M.2 0) := by rw [ordM_n (by omega) (by omega), om.as (by omega)]
      rcases hx with z | z
      · subst z
        exact Or.inr (Or.inl ⟨a9, ordM_20, k, by rw [bn]; exact hk, a10, b21⟩)
      · subst z
        exact Or.inr (Or.inr (Or.inl ⟨a9, ordM_20, k, by rw [bn]; exact hk, a10, b21⟩))
    refine ⟨S1, M1, 1, ?_, ?_, nm.fs, om.fq, Or.inl ⟨rfl, p', hp, ps, od, fun j hj => ⟨?_, ?_, ?_⟩, nm.1 8 (by omega) (by omega), om.1 22 (by omega), om.as (by omega), om.as (by omega)⟩⟩
    · rw [c1]; rfl
    · rw [r1]; rfl
    · rw [nm.1 9 (by omega) (by omega)]
    · rw [nm.2.1, pk_un hj]
    · rw [nm.1 11 (by omega) (by omega)]
theorem s_adds {x hi : Int32} {H : Nat} (eH : hi = nI H) (h999 : H ≤ 999) (hx : (x = 3 ∧ hi = 99) ∨ (x = 4 ∧ hi = 999)) (h : PS n p (S.1 1) (S.1 2) M.1 (M.2 8)) (g : GR S 13 (M.2 0)) (iw : In (M.2 0)) (h8 : S.1 8 5 = nI c) (hc : c < 30) (h9 : S.1 9 c = x) : ∃ S' M' r, cW S x = some (r, S') ∧ bz (fX11_takesRest_4 M (x + 1)) = some (r, M') ∧ Wo S M n p c (x + 1) S' M' r := by
  have opC : cW S x = (bz (fX5_readSackName_17 S)).bind fun q => if q.1 = 0 then some (0, q.2) else bz (fX5_readNumber_38 q.2 hi 1) := by
    rcases hx with ⟨z, z'⟩ | ⟨z, z'⟩ <;> (subst z; subst z'; rfl)
  have opR : fX11_takesRest_4 M (x + 1) = (fX11_takesKnown M 161 1).bind fun q => if q.1 = 0 then some (0, q.2) else (fX11_takes q.2 (nI 1) 1 hi).bind fun q => if q.1 = 0 then some (0, q.2) else some (1, q.2) := by
    rcases hx with ⟨z, z'⟩ | ⟨z, z'⟩ <;> (subst z; subst z'; rfl)
  rw [opC, opR]
  obtain ⟨S1, M1, ⟨c1, r1, b⟩ | ⟨c1, r1, k, p1, hk, hp1, ps1, nm, om⟩⟩ := s_sackOp h g iw h8 hc
  · refine ⟨S1, M1, 0, ?_, ?_, b.wo⟩
    · rw [c1]; rfl
    · rw [r1]; rfl
  rw [c1, r1, bz_s (Or.inr rfl), Option.bind_some, Option.bind_some]
  dsimp only
  rw [if_neg one0, if_neg one0]
  obtain ⟨S2, M2, ⟨c2, r2, b⟩ | ⟨c2, r2, v, p2, rg, hp2, ps2, no, om2⟩⟩ := s_numOp (lo := 1) (hi := hi) (k := 1) (by omega) ps1 (by rw [nm.1 8 (by omega) (by omega)]; exact h8) hc
  · refine ⟨S2, M2, 0, ?_, ?_, (Bad.of nm.fs om.fq b).wo⟩
    · rw [c2]; rfl
    · rw [r2]; rfl
  · rw [eH] at rg
    obtain ⟨m, m1, m2, em⟩ := rg_nat (a := 1) (b := H) (by omega) (by omega) rg
    have od : Od S2 (ordM M2 c (x + 1)) c := by
      have a9 : S2.1 9 c = x := by rw [no.1 9 (by omega) (by omega), nm.1 9 (by omega) (by omega)]; exact h9
      have a10 : S2.1 10 c = nI k := by rw [no.1 10 (by omega) (by omega), nm.2.1, pk_us]
      have a11 : S2.1 11 c = nI m := by rw [no.2.1, pk_us]; exact em
      have b21 : (ordM M2 c (x + 1)).2 21 (2 * c) = nI k := by rw [ordM_a, om2.2, vat, pk_un (by omega), om.2, vat, pk_us]
      have b22 : (ordM M2 c (x + 1)).2 21 (2 * c + 1) = nI m := by rw [ordM_b, om2.2, vat, pk_us]; exact em
      have bn : nS ((ordM M2 c (x + 1)).2 0) = nS (M.2 0) := by rw [ordM_n (by omega) (by omega), om2.as (by omega), om.as (by omega)]
      rcases hx with ⟨z, -⟩ | ⟨z, -⟩
      · subst z
        exact Or.inr (Or.inr (Or.inr (Or.inl ⟨a9, ordM_20, k, m, by rw [bn]; exact hk, by omega, a10, b21, a11, b22⟩)))
      · subst z
        exact Or.inr (Or.inr (Or.inr (Or.inr (Or.inl ⟨a9, ordM_20, k, m, by rw [bn]; exact hk, by omega, a10, b21, a11, b22⟩))))
    refine ⟨S2, M2, 1, ?_, ?_, nm.fs.trans no.fs, om.fq.trans om2.fq, Or.inl ⟨rfl, p2, by omega, ps2, od, fun j hj => ⟨?_, ?_, ?_⟩, ?_, ?_, ?_, ?_⟩⟩
    · rw [c2]; rfl
    · rw [r2]; rfl
    · rw [no.1 9 (by omega) (by omega), nm.1 9 (by omega) (by omega)]
    · rw [no.1 10 (by omega) (by omega), nm.2.1, pk_un hj]
    · rw [no.2.1, pk_un hj, nm.1 11 (by omega) (by omega)]
    · rw [no.1 8 (by omega) (by omega), nm.1 8 (by omega) (by omega)]
    · rw [om2.1 22 (by omega), om.1 22 (by omega)]
    · rw [om2.as (by omega), om.as (by omega)]
    · rw [om2.as (by omega), om.as (by omega)]
theorem s_words (hd : d < 7) (h : PS n p (S.1 1) (S.1 2) M.1 (M.2 8)) (g : GR S 13 (M.2 0)) (iw : In (M.2 0)) (h8 : S.1 8 5 = nI c) (hc : c < 30) (h9 : S.1 9 c = nI d) : ∃ S' M' r, cW S (nI d) = some (r, S') ∧ bz (fX11_takesRest_4 M (nI (d + 1))) = some (r, M') ∧ Wo S M n p c (nI (d + 1)) S' M' r := by
  rcases (show d = 0 ∨ d = 1 ∨ d = 2 ∨ d = 3 ∨ d = 4 ∨ d = 5 ∨ d = 6 by omega) with e | e | e | e | e | e | e <;> subst e
  · exact s_wait h h8 hc h9
  · exact s_flap (x := 1) (Or.inl rfl) h g iw h8 hc h9
  · exact s_flap (x := 2) (Or.inr rfl) h g iw h8 hc h9
  · exact s_adds (x := 3) (hi := 99) (H := 99) rfl (by omega) (Or.inl ⟨rfl, rfl⟩) h g iw h8 hc h9
  · exact s_adds (x := 4) (hi := 999) (H := 999) rfl (by omega) (Or.inr ⟨rfl, rfl⟩) h g iw h8 hc h9
  · exact s_dismissed h h9
  · exact s_setMilk h h8 hc h9
end SREST
