/-! numbers and choices, both sides -/
section TAKES2
variable {S : CS} {M : MS} {n p s : Nat} {x c y b : Nat → Int32}
theorem numV_cong {L : Nat} (h : ∀ j, s ≤ j → j < s + L → c j = b j) : numV c s L = numV b s L := by
  induction L with
  | zero => rfl
  | succ L ih => rw [numV, numV, ih (fun j h1 h2 => h j h1 (by omega)), h (s + L) (by omega) (by omega)]
theorem c_num_l {lo hi : Int32} {L : Nat} (hs : s + L ≤ 600) : ∀ r i f (x : Nat → Int32), L = i + r → r < f → x 3 = nI (s + L) → x 6 = numV (S.1 2) s i → fX8_takeNumber_29 f (tx S x) lo hi (nI (s + i)) = fX8_takeNumber_64 (tx S (upd x 6 (numV (S.1 2) s L))) lo hi := by
  intro r
  induction r with
  | zero =>
    intro i f x hi' hf h3 h6
    obtain ⟨f, rfl⟩ : ∃ g, f = g + 1 := ⟨f - 1, by omega⟩
    rw [fX8_takeNumber_29]
    dsimp only
    rw [tx_1, h3, if_pos (nI_le (by omega) (by omega)), show L = i by omega, upd_at h6]
  | succ r ih =>
    intro i f x hi' hf h3 h6
    obtain ⟨f, rfl⟩ : ∃ g, f = g + 1 := ⟨f - 1, by omega⟩
    rw [fX8_takeNumber_29]
    dsimp only
    rw [tx_1, h3, if_neg (nI_ge (show s + i < s + L by omega) (by omega)), fX8_takeNumber_37, gi_m (show s + i < 600 by omega) (by omega), nI_c (by omega), tx_1, tx_b, tx_w, tx_2, tx_p, fX8_takeNumber_58, nI_1, show s + i + 1 = s + (i + 1) by omega, ih (i + 1) f _ (by omega) (by omega) (by rw [pk_un (by omega)]; exact h3) (by rw [pk_us, numV, h6, Int32.mul_comm]), upd_upd]
def rgQ (v lo hi : Int32) : Prop := ¬ v < lo ∧ v ≤ hi
theorem lt_le {a b : Int32} : ¬ (b < a) ↔ a ≤ b := by
  rw [i32, Int32.le_iff_toInt_le]; omega
theorem s_num {lo hi : Int32} (h : PS n p (S.1 1) (S.1 2) M.1 (M.2 8)) : ∃ x' y', FrR M.1 y' ∧ ((fX8_takeNumber S lo hi = some (1, tx S x') ∧ fX11_takesNumber M lo hi = some (1, rx M y') ∧ PS n (tkD (KM (M.2 8)) n (skp (KM (M.2 8)) n p)) x' (S.1 2) y' (M.2 8) ∧ x' 6 = y' 18 ∧ rgQ (y' 18) lo hi) ∨ (fX8_takeNumber S lo hi = some (0, tx S x') ∧ fX11_takesNumber M lo hi = some (0, rx M y') ∧ Er x' y')) := by
  obtain ⟨x', ha, sy⟩ := s_adv h
  generalize skp (KM (M.2 8)) n p = s at *
  have k1 := sy.kd (a := 2) (by omega)
  have hD := tkD_ge (K := KM (M.2 8)) (n := n) (s := s)
  have hL := tkD_le (K := KM (M.2 8)) sy.2.1
  have h600 := sy.1.1
  unfold fX8_takeNumber fX8_takeNumber_0 fX11_takesNumber fX11_takesNumber_0 fX11_seesNumber fX11_seesNumber_0
  rw [ha, Option.bind_some, fX8_takeNumber_4, tx_1]
  by_cases q : tkK (KM (M.2 8)) n s = 2
  · obtain ⟨g1, g2, g3, g4, g5, g6, g7⟩ := tk_run q (Or.inr rfl)
    have ev : M.1 16 = numV (M.2 8) s (tkD (KM (M.2 8)) n s - s) := by
      rw [sy.2.2.2.1.2.2.2.1, tkV, if_pos ⟨g1, g2⟩]
      have : tkE (KM (M.2 8)) n s = tkD (KM (M.2 8)) n s := by unfold tkD; rw [if_pos g1]
      rw [this, show min (tkD (KM (M.2 8)) n s - s) 4 = tkD (KM (M.2 8)) n s - s by have := g4 rfl; omega]
    have ec : numV (S.1 2) s (tkD (KM (M.2 8)) n s - s) = M.1 16 := by
      rw [ev]
      exact numV_cong (fun j h1 h2 => tok_eq sy.1 (k1 := Or.inr q) j h1 (by omega))
    have sy6 : SY n s (upd x' 6 (M.1 16)) (S.1 2) M.1 (M.2 8) := by
      obtain ⟨t, u, ⟨a2, a3, a4, a5⟩, r, e1, e2, e3, e4⟩ := sy
      exact ⟨t, u, ⟨by rw [pk_un (by omega)]; exact a2, by rw [pk_un (by omega)]; exact a3, by rw [pk_un (by omega)]; exact a4, by rw [pk_un (by omega)]; exact a5⟩, r, by rw [pk_un (by omega)]; exact e1, by rw [pk_un (by omega)]; exact e2, e3, e4⟩
    have sy0 : fX8_takeNumber_19 (tx S x') lo hi = fX8_takeNumber_64 (tx S (upd x' 6 (M.1 16))) lo hi := by
      rw [fX8_takeNumber_19, tx_1, tx_w, tx_2, tx_p, fX8_takeNumber_24, tx_1, pk_un (by omega), sy.2.2.1.2.2.2]
      have := c_num_l (S := S) (lo := lo) (hi := hi) (s := s) (L := tkD (KM (M.2 8)) n s - s) (by omega) (tkD (KM (M.2 8)) n s - s) 0 FU (upd x' 6 0) (by omega) (by rw [FU_eq]; omega) (by rw [pk_un (by omega), sy.2.2.1.2.1, show s + (tkD (KM (M.2 8)) n s - s) = tkD (KM (M.2 8)) n s by omega]) pk_us
      rw [Nat.add_zero] at this
      rw [this, upd_upd, ec]
    obtain ⟨x2, y2, f1, f2, er, fr⟩ := s_fail (S := S) (k := 2) sy6
    have bad : (bz (fX8_takeNumber_80 (tx S (upd x' 6 (M.1 16)))) = some (0, tx S x2)) ∧ (bz (bz (fX11_seesNumber_26 M) |>.bind fun q => fX11_takesNumber_6 q.2 q.1) = some (0, rx M y2)) := by
      constructor
      · rw [fX8_takeNumber_80, f1, Option.bind_some, fX8_takeNumber_85, if_pos rfl, fX8_takeNumber_92, fX8_takeNumber_93]; rfl
      · rw [fX11_seesNumber_26, f2, Option.bind_some, fX11_seesNumber_31]; rfl
    rw [if_pos (show x' 4 = (2 : Int32) from k1.1.mpr q), if_pos (show M.1 17 = (2 : Int32) from k1.2.mpr q), sy0, fX8_takeNumber_64, tx_1, pk_us, fX11_seesNumber_14, r_inRange, Option.bind_some, fX11_seesNumber_23]
    by_cases lo1 : M.1 16 < lo
    · rw [if_pos lo1, if_pos lo1, if_pos rfl]
      exact ⟨x2, y2, fr, Or.inr ⟨bad.1, bad.2, er⟩⟩
    · rw [if_neg lo1, if_neg lo1, fX8_takeNumber_72, tx_1, pk_us]
      by_cases hi1 : hi < M.1 16
      · rw [if_pos hi1, if_neg (fun z => (lt_le.mpr z) hi1), if_pos rfl]
        exact ⟨x2, y2, fr, Or.inr ⟨bad.1, bad.2, er⟩⟩
      · have hy : SY n s (upd x' 6 (M.1 16)) (S.1 2) (rx M (upd M.1 18 (M.1 16))).1 ((rx M (upd M.1 18 (M.1 16))).2 8) := by
          obtain ⟨t, u, a, ⟨r9, r14, r15, r16, r17⟩, e1, e2, e3, e4⟩ := sy6
          exact ⟨t, u, a, ⟨by rw [rx_1, pk_un (by omega)]; exact r9, by rw [rx_1, pk_un (by omega)]; exact r14, by rw [rx_1, pk_un (by omega)]; exact r15, by rw [rx_1, pk_un (by omega)]; exact r16, by rw [rx_1, pk_un (by omega)]; exact r17⟩, e1, e2, by rw [rx_1, pk_un (by omega)]; exact e3, by rw [rx_1, pk_un (by omega)]; exact e4⟩
        obtain ⟨y3, n1, n2, n3, n4⟩ := s_nxt hy
        rw [if_neg hi1, if_pos (lt_le.mp hi1), if_neg (by decide), fX11_seesNumber_32, vu, rx_p, fX11_seesNumber_40, bz_s (Or.inr rfl), Option.bind_some, fX11_takesNumber_6, if_neg (show ¬ (1 : Int32) = 0 by decide), fX11_takesNumber_11, n1, Option.bind_some, fX11_takesNumber_15, rx_rx, fX8_takeNumber_88, fX8_takeNumber_93]
        have e18 : y3 18 = M.1 16 := n4.trans (by rw [rx_1, pk_us])
        refine ⟨upd x' 6 (M.1 16), y3, fun q hq => (n3 q hq).trans (by rw [rx_1, pk_un (by omega)]), Or.inl ⟨rfl, rfl, n2, by rw [pk_us, e18], by rw [e18]; exact ⟨lo1, lt_le.mp hi1⟩⟩⟩
  · obtain ⟨x2, y2, f1, f2, er, fr⟩ := s_fail (S := S) (k := 1) sy
    rw [if_neg (show ¬ x' 4 = (2 : Int32) from fun z => q (k1.1.mp z)), if_neg (show ¬ M.1 17 = (2 : Int32) from fun z => q (k1.2.mp z)), fX8_takeNumber_13, f1, Option.bind_some, fX8_takeNumber_18, fX11_seesNumber_8, f2, Option.bind_some, fX11_seesNumber_13]
    exact ⟨x2, y2, fr, Or.inr ⟨rfl, rfl, er⟩⟩
/-- a word at the token, both sides -/
theorem SY.cw (h : SY n s (S.1 1) (S.1 2) y b) {l : List Int32} (hl : l.length ≤ 8) : fX8_isWord S l = some (wq b (KM b) n s l) := by
  rw [c_isWord h.2.2.1 h.1.1 KM_lt hl]
  exact congrArg some (wq_cong (fun k j h1 h2 => tok_eq h.1 (k1 := Or.inl k) j h1 h2))
theorem s_either {l1 l2 : List Int32} (h1 : l1.length ≤ 8) (h2 : l2.length ≤ 8) (h : PS n p (S.1 1) (S.1 2) M.1 (M.2 8)) {s : Nat} (es : s = skp (KM (M.2 8)) n p) : ∃ x', (fX8_takeEither S l1 l2 = some (1, tx S x') ∧ ¬ (wq (M.2 8) (KM (M.2 8)) n s l1 = 0 ∧ wq (M.2 8) (KM (M.2 8)) n s l2 = 0) ∧ SY n s x' (S.1 2) M.1 (M.2 8)) ∨ (fX8_takeEither S l1 l2 = some (0, tx S x') ∧ (wq (M.2 8) (KM (M.2 8)) n s l1 = 0 ∧ wq (M.2 8) (KM (M.2 8)) n s l2 = 0) ∧ ∃ y', fX11_failsAt M 1 = some (0, rx M y') ∧ Er x' y' ∧ FrR M.1 y') := by
  obtain ⟨x', ha, sy⟩ := s_adv h
  rw [← es] at ha sy
  have w : ∀ {l : List Int32}, l.length ≤ 8 → fX8_isWord (tx S x') l = some (wq (M.2 8) (KM (M.2 8)) n s l) := fun hl => SY.cw (S := tx S x') (by rw [tx_1, tx_b]; exact sy) hl
  obtain ⟨x2, y2, f1, f2, er, fr⟩ := s_fail (S := S) (k := 1) sy
  unfold fX8_takeEither fX8_takeEither_0
  rw [ha, Option.bind_some, fX8_takeEither_4, w h1, Option.bind_some, fX8_takeEither_10]
  by_cases q1 : wq (M.2 8) (KM (M.2 8)) n s l1 = 0
  · rw [if_pos q1, fX8_takeEither_13, w h2, Option.bind_some, fX8_takeEither_18]
    by_cases q2 : wq (M.2 8) (KM (M.2 8)) n s l2 = 0
    · rw [if_pos q2, fX8_takeEither_21, f1, Option.bind_some, fX8_takeEither_26, if_pos rfl]
      exact ⟨x2, Or.inr ⟨rfl, ⟨q1, q2⟩, y2, f2, er, fr⟩⟩
    · rw [if_neg q2]
      exact ⟨x', Or.inl ⟨rfl, fun z => q2 z.2, sy⟩⟩
  · rw [if_neg q1]
    exact ⟨x', Or.inl ⟨rfl, fun z => q1 z.1, sy⟩⟩
/-- the beginnings -/
theorem c_tbegin : fX8_begin S = some (tx S (upd (upd (upd (S.1 1) 3 0) 7 0) 8 (-1))) := by
  unfold fX8_begin fX8_begin_0 fX8_begin_5 fX8_begin_10 fX8_begin_15
  rw [tx, up_up, up_up]
  simp [va_up]
theorem r_startsText (t : TBy n c (M.2 8)) (h9 : M.1 9 = nI n) (h2 : x 2 = nI n) : ∃ y', fX11_startsText M = some (rx M y') ∧ PS n 0 (upd (upd (upd x 3 0) 7 0) 8 (-1)) c y' (M.2 8) ∧ y' 22 = 0 ∧ ∀ q, ¬ (12 ≤ q ∧ q ≤ 18) → q ≠ 22 → y' q = M.1 q := by
  unfold fX11_startsText fX11_startsText_0 fX11_startsText_5 fX11_startsText_10 fX11_startsText_15 fX11_startsText_20
  dsimp only
  rw [vu, vu, vu, vu, rx_p]
  have ha := r_advance (M := M) (y := upd (upd (upd (upd M.1 12 0) 13 (-1)) 22 0) 14 0) (n := n) (p := 0) (by simp (disch := omega) only [pk_un]; exact h9) t.1 (by rw [pk_us, nI_0]) (by omega) (fun j hj => (t.2 j hj).2.2) rfl
  rw [ha, Option.bind_some, fX11_startsText_24]
  refine ⟨_, rfl, ⟨t, ⟨?_, ?_, by omega⟩, ⟨?_, ?_, ?_, ?_, ?_⟩, ?_, ?_, ?_, ?_⟩, ?_, fun q hq h22 => ?_⟩
  · simp (disch := omega) only [pk_un]; exact h2
  · simp (disch := omega) only [pk_un, pk_us, nI_0]
  · unfold tkr; simp (disch := omega) only [pk_un]; exact h9
  · unfold tkr; simp (disch := omega) only [pk_un, pk_us]; rfl
  · unfold tkr; simp (disch := omega) only [pk_un, pk_us]; rfl
  · unfold tkr; simp (disch := omega) only [pk_un, pk_us]; rfl
  · unfold tkr; rw [pk_us]; rfl
  · simp (disch := omega) only [pk_un, pk_us]
  · rw [pk_us]
  · unfold tkr; simp (disch := omega) only [pk_un, pk_us]
  · unfold tkr; simp (disch := omega) only [pk_un, pk_us]
  · unfold tkr; simp (disch := omega) only [pk_un, pk_us]
  · unfold tkr; simp (disch := omega) only [pk_un]
end TAKES2
