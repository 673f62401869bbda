/-! a script's statement, both sides: the count, the words, the semicolon -/
section SSTMT
variable {S S' : CS} {M M' : MS} {n p s c d : Nat} {w : Wd}
theorem gi_e {α : Type} {a b : α} {x : Int32} {k N : Nat} (e : x = nI k) (h : k < N) (hN : N < 2147483648) : (if gIn x N then a else b) = a := by
  subst e
  exact gi_m h hN
def SD (S : CS) (M : MS) (n s : Nat) (S' : CS) (M' : MS) (r : Int32) : Prop := FS S S' ∧ FQ M M' ∧ ((r = 1 ∧ ∃ p c, s + 3 ≤ p ∧ c ≤ 30 ∧ PS n p (S'.1 1) (S'.1 2) M'.1 (M'.2 8) ∧ S'.1 8 5 = nI c ∧ M'.1 22 = nI c ∧ ∀ j, j < c → Od S' M' j) ∨ (r = 0 ∧ Er (S'.1 1) M'.1))
/-- the class's statement -/
def cSt (S : CS) : Option (Int32 × CS) := (fX5_kindOfStatement S).bind fun q => if q = -1 then fX8_fail S 1 else fX5_readRest S q
theorem cSt_35 {K : CS → Int32 → Option (Int32 × CS)} {x : Int32} : fX5_parse_35 K S x = (cSt S).bind fun q => fX5_parse_59 K q.2 x q.1 := by
  unfold cSt
  rw [fX5_parse_35]
  cases hh : fX5_kindOfStatement S with
  | none => rfl
  | some q =>
    rw [Option.bind_some, Option.bind_some, fX5_parse_39]
    by_cases h : q = -1
    · have f := c_fail (S := S) (x := S.1 1) (k := 1)
      rw [tx_self] at f
      rw [if_pos h, if_pos h, fX5_parse_45, f, Option.bind_some, Option.bind_some, fX5_parse_53, fX5_parse_59, if_pos rfl, fX5_parse_62]
    · rw [if_neg h, if_neg h, fX5_parse_54]
theorem s_order (hd : d < 7) (sy : SY n s (S.1 1) (S.1 2) M.1 (M.2 8)) (h3 : s + 3 ≤ tkD (KM (M.2 8)) n s) (g : GR S 13 (M.2 0)) (iw : In (M.2 0)) (h8 : S.1 8 5 = nI c) (h22 : M.1 22 = nI c) (hc : c ≤ 30) (od : ∀ j, j < c → Od S M j) : ∃ S' M' r, fX5_readRest S (nI d) = some (r, S') ∧ fX11_readScriptStatement_15 M (nI (d + 1)) = some (r, M') ∧ SD S M n s S' M' r := by
  by_cases full : c = 30
  · obtain ⟨x2, y2, f1, f2, er, fr⟩ := s_fail (S := S) (k := 5) sy
    rw [tx_self] at f1
    refine ⟨tx S x2, rx M y2, 0, ?_, ?_, FS.tx, FQ.rx fr, Or.inr ⟨rfl, by rw [tx_1, rx_11]; exact er⟩⟩
    · unfold fX5_readRest fX5_readRest_0
      rw [h8, if_neg (show ¬ nI c < (30 : Int32) from nI_nlt (b := 30) (by omega) (by omega)), fX5_readRest_9, f1, Option.bind_some]
      rfl
    · rw [fX11_readScriptStatement_15, h22, if_pos (show nI c = (30 : Int32) by rw [full]; rfl), fX11_readScriptStatement_24, f2, Option.bind_some]
      rfl
  have hlt : c < 30 := by omega
  obtain ⟨y1, n1, ps1, fr1, -⟩ := s_nxt sy
  obtain ⟨S0, e0⟩ : ∃ S0 : CS, S0 = (va_up (va_up (va_up S.1 9 (upd (S.1 9) c (nI d))) 10 (upd (S.1 10) c (-1))) 11 (upd (S.1 11) c 0), S.2) := ⟨_, rfl⟩
  have a9 : S0.1 9 = upd (S.1 9) c (nI d) := by rw [e0]; dsimp only; rw [vne (by omega), vne (by omega), vat]
  have a10 : S0.1 10 = upd (S.1 10) c (-1) := by rw [e0]; dsimp only; rw [vne (by omega), vat]
  have a11 : S0.1 11 = upd (S.1 11) c 0 := by rw [e0]; dsimp only; rw [vat]
  have ao : ∀ q, q ≠ 9 → q ≠ 10 → q ≠ 11 → S0.1 q = S.1 q := fun q q1 q2 q3 => by rw [e0]; dsimp only; rw [vne q3, vne q2, vne q1]
  have fs0 : FS S S0 := ⟨fun q _ _ q1 q2 q3 => ao q q1 q2 q3, by rw [e0]⟩
  have opC : fX5_readRest S (nI d) = bz ((cW S0 (nI d)).bind fun q => fX5_readRest_61 q.2 q.1) := by
    unfold fX5_readRest fX5_readRest_0
    rw [h8, if_pos (show nI c < (30 : Int32) from nI_lt (b := 30) hlt (by omega)), fX5_readRest_18, h8, gi_m (show c < 30 by omega) (by omega), nI_c (by omega), fX5_readRest_28]
    dsimp only
    have v1 : va_up S.1 9 (upd (S.1 9) c (nI d)) 8 5 = nI c := by rw [vne (show 8 ≠ 9 by omega)]; exact h8
    rw [gi_e v1 hlt (by omega), v1, nI_c (by omega), vne (show 10 ≠ 9 by omega), fX5_readRest_38]
    dsimp only
    have v2 : va_up (va_up S.1 9 (upd (S.1 9) c (nI d))) 10 (upd (S.1 10) c (-1)) 8 5 = nI c := by rw [vne (show 8 ≠ 10 by omega)]; exact v1
    rw [gi_e v2 hlt (by omega), v2, nI_c (by omega), vne (show 11 ≠ 10 by omega), vne (show 11 ≠ 9 by omega), ← e0, cW_48]
  have opR : fX11_readScriptStatement_15 M (nI (d + 1)) = (bz (fX11_takesRest_4 (rx M y1) (nI (d + 1)))).bind fun q => fX11_readScriptStatement_35 q.2 (nI (d + 1)) q.1 := by
    rw [fX11_readScriptStatement_15, h22, if_neg (show ¬ nI c = (30 : Int32) from fun z => full ((nI_eq (b := 30) (by omega) (by omega)).mp z)), fX11_readScriptStatement_30]
    unfold fX11_takesRest fX11_takesRest_0
    rw [n1, Option.bind_some]
  have g0 : GR S0 13 (M.2 0) := g.frame (fun o ho => ⟨ao _ (by omega) (by omega) (by omega), by rw [e0]⟩) iw.sz.1 iw.sz.2.1
  obtain ⟨S2, M2, r2, c2, r2', wo1, wo2, wo3⟩ := s_words (S := S0) (M := rx M y1) hd (n := n) (p := tkD (KM (M.2 8)) n s) (c := c) (by rw [ao 1 (by omega) (by omega) (by omega), ao 2 (by omega) (by omega) (by omega)]; exact ps1) g0 iw (by rw [ao 8 (by omega) (by omega) (by omega)]; exact h8) hlt (by rw [a9, pk_us])
  rw [opC, opR, c2, r2', Option.bind_some, Option.bind_some]
  dsimp only
  rcases wo3 with ⟨e, p2, hp2, ps2, od2, kp, s28, m22, m20, m21⟩ | ⟨e, er⟩
  case inr =>
    rw [e, fX5_readRest_61, if_pos rfl, fX5_readRest_64, fX11_readScriptStatement_35, if_pos rfl, fX11_readScriptStatement_38]
    exact ⟨S2, M2, 0, rfl, rfl, fs0.trans wo1, (FQ.rx fr1).trans wo2, Or.inr ⟨rfl, er⟩⟩
  rw [e, fX5_readRest_61, if_neg one0, fX5_readRest_66, fX11_readScriptStatement_35, if_neg one0]
  have b8 : S2.1 8 5 = nI c := by rw [s28, ao 8 (by omega) (by omega) (by omega)]; exact h8
  have b22 : M2.1 22 = nI c := by rw [m22, rx_11, fr1 22 (by omega)]; exact h22
  rw [b8, nI_1, fX5_readRest_76]
  obtain ⟨S3, e3⟩ : ∃ S3 : CS, S3 = (va_up S2.1 8 (upd (S2.1 8) 5 (nI (c + 1))), S2.2) := ⟨_, rfl⟩
  obtain ⟨M3, e3'⟩ : ∃ M3 : MS, M3 = (va_up (ordM M2 c (nI (d + 1))).1 22 (nI (c + 1)), (ordM M2 c (nI (d + 1))).2) := ⟨_, rfl⟩
  have opR2 : fX11_readScriptStatement_40 M2 (nI (d + 1)) = (fX11_takesSemicolon M3).bind fun q => fX11_readScriptStatement_100 q.2 q.1 := by
    have h2 : (2 : Int32) * nI c = nI (2 * c) := pk_mul 2 c
    rw [fX11_readScriptStatement_40, b22, gi_m (show c < 31 by omega) (by omega), nI_c (by omega), fX11_readScriptStatement_50]
    dsimp only
    rw [gj0, b22, h2, gi_m (show 2 * c < 62 by omega) (by omega), nI_c (by omega), tn0, fX11_readScriptStatement_67]
    dsimp only
    rw [gj1, b22, h2, nI_1, gi_m (show 2 * c + 1 < 62 by omega) (by omega), nI_c (by omega), tn1, fX11_readScriptStatement_86]
    dsimp only
    rw [b22, nI_1, vne (show 21 ≠ 20 by omega), vne (show 19 ≠ 20 by omega), vat, up_up, vne (show 19 ≠ 21 by omega), vne (show 19 ≠ 20 by omega), fX11_readScriptStatement_96, e3']
    rfl
  rw [opR2, ← e3]
  have s3 : ∀ q, q ≠ 8 → S3.1 q = S2.1 q := fun q hq => by rw [e3]; dsimp only; rw [vne hq]
  have m3j : ∀ j, j ≠ 20 → j ≠ 21 → M3.2 j = M2.2 j := fun j h1 h2 => by rw [e3']; exact ordM_n h1 h2
  have m3i : ∀ j, j ≠ 22 → M3.1 j = M2.1 j := fun j hj => by rw [e3']; dsimp only; rw [vne hj]; rfl
  have m31 : M3.1 22 = nI (c + 1) := by rw [e3']; dsimp only; rw [vat]
  have ps3 : PS n p2 (S3.1 1) (S3.1 2) M3.1 (M3.2 8) := by
    rw [s3 1 (by omega), s3 2 (by omega), m3j 8 (by omega) (by omega)]
    obtain ⟨t, a, ⟨r9, r14, r15, r16, r17⟩, q1, q2, q3, q4⟩ := ps2
    exact ⟨t, a, ⟨by rw [m3i 9 (by omega)]; exact r9, by rw [m3i 14 (by omega)]; exact r14, by rw [m3i 15 (by omega)]; exact r15, by rw [m3i 16 (by omega)]; exact r16, by rw [m3i 17 (by omega)]; exact r17⟩, q1, q2, by rw [m3i 12 (by omega)]; exact q3, by rw [m3i 13 (by omega)]; exact q4⟩
  have fs3 : FS S S3 := (fs0.trans wo1).trans ⟨fun q _ q1 _ _ _ => s3 q q1, by rw [e3]⟩
  have fq3 : FQ M M3 := ((FQ.rx fr1).trans wo2).trans ⟨fun j _ h => m3i j h, fun j _ h1 h2 => m3j j h1 h2⟩
  obtain ⟨x4, y4, p4, fr4, hp4, h⟩ := s_semi' (S := S3) (M := M3) (n := n) (p := p2) ps3
  have ods : ∀ x y, FrR M3.1 y → ∀ j, j < c + 1 → Od (tx S3 x) (rx M3 y) j := fun x y fy j hj => by
    have en : nS ((rx M3 y).2 0) = nS (M.2 0) := by rw [rx_2, m3j 0 (by omega) (by omega), wo2.2 0 (by omega) (by omega) (by omega), rx_2]
    have e2 : M3.2 20 = upd (M2.2 20) c (nI (d + 1)) := by rw [e3']; show (ordM M2 c (nI (d + 1))).2 20 = upd (M2.2 20) c (nI (d + 1)); unfold ordM; dsimp only; rw [vne (by omega), vat]
    have e21 : M3.2 21 = upd (upd (M2.2 21) (2 * c) (M2.2 19 0)) (2 * c + 1) (M2.2 19 1) := by rw [e3']; show (ordM M2 c (nI (d + 1))).2 21 = upd (upd (M2.2 21) (2 * c) (M2.2 19 0)) (2 * c + 1) (M2.2 19 1); unfold ordM; dsimp only; rw [vat]
    by_cases z : j = c
    · subst z
      refine od2.kp ?_ ?_ ?_ ?_ ?_ ?_ ?_
      · rw [tx_o (by omega), s3 9 (by omega)]
      · rw [tx_o (by omega), s3 10 (by omega)]
      · rw [tx_o (by omega), s3 11 (by omega)]
      · rw [rx_2, e3']
      · rw [rx_2, e3']
      · rw [rx_2, e3']
      · rw [rx_2, e3']
    · have kj := kp j z
      refine (od j (by omega)).kp ?_ ?_ ?_ ?_ ?_ ?_ en
      · rw [tx_o (by omega), s3 9 (by omega), kj.1, a9, pk_un z]
      · rw [tx_o (by omega), s3 10 (by omega), kj.2.1, a10, pk_un z]
      · rw [tx_o (by omega), s3 11 (by omega), kj.2.2, a11, pk_un z]
      · rw [rx_2, e2, pk_un z, m20, rx_2]
      · rw [rx_2, e21, pk_un (by omega), pk_un (by omega), m21, rx_2]
      · rw [rx_2, e21, pk_un (by omega), pk_un (by omega), m21, rx_2]
  rcases h with ⟨c4, r4, ps4⟩ | ⟨c4, r4, er⟩
  · rw [c4, r4, Option.bind_some, Option.bind_some]
    refine ⟨tx S3 x4, rx M3 y4, 1, bz_s (Or.inr rfl), rfl, fs3.trans FS.tx, fq3.trans (FQ.rx fr4), Or.inl ⟨rfl, p4, c + 1, by omega, by omega, ?_, ?_, ?_, ods x4 y4 fr4⟩⟩
    · rw [tx_1, tx_b, rx_11, rx_2]; exact ps4
    · rw [tx_o (by omega), e3]; dsimp only; rw [vat, pk_us]
    · rw [rx_11, fr4 22 (by omega), m31]
  · rw [c4, r4, Option.bind_some, Option.bind_some]
    exact ⟨tx S3 x4, rx M3 y4, 0, bz_s (Or.inl rfl), rfl, fs3.trans FS.tx, fq3.trans (FQ.rx fr4), Or.inr ⟨rfl, by rw [tx_1, rx_11]; exact er⟩⟩
theorem s_sstmt (sy : SY n s (S.1 1) (S.1 2) M.1 (M.2 8)) (g : GR S 13 (M.2 0)) (iw : In (M.2 0)) (h8 : S.1 8 5 = nI c) (h22 : M.1 22 = nI c) (hc : c ≤ 30) (od : ∀ j, j < c → Od S M j) : ∃ S' M' r, cSt S = some (r, S') ∧ fX11_readScriptStatement M = some (r, M') ∧ SD S M n s S' M' r := by
  unfold fX11_readScriptStatement fX11_readScriptStatement_0 cSt
  rcases s_kind sy with ⟨k1, k2⟩ | ⟨d, hd, h3, k1, k2⟩
  · obtain ⟨x2, y2, f1, f2, er, fr⟩ := s_fail (S := S) (k := 1) sy
    rw [tx_self] at f1
    rw [k1, k2, Option.bind_some, Option.bind_some, if_pos rfl, fX11_readScriptStatement_4, if_pos rfl, fX11_readScriptStatement_9, f1, f2, Option.bind_some]
    exact ⟨tx S x2, rx M y2, 0, rfl, bz_s (Or.inl rfl), FS.tx, FQ.rx fr, Or.inr ⟨rfl, by rw [tx_1, rx_11]; exact er⟩⟩
  · rw [k1, k2, Option.bind_some, Option.bind_some, if_neg (nI_nem (by omega)), fX11_readScriptStatement_4, if_neg (show ¬ nI (d + 1) = (0 : Int32) from fun z => by have := (nI_eq (b := 0) (by omega) (by omega)).mp z; omega)]
    obtain ⟨S', M', r, h1, h2, sd⟩ := s_order hd sy h3 g iw h8 h22 hc od
    rw [h2]
    refine ⟨S', M', r, h1, bz_s ?_, sd⟩
    obtain ⟨-, -, ⟨h, -⟩ | ⟨h, -⟩⟩ := sd
    · exact Or.inr h
    · exact Or.inl h
end SSTMT
