/-! the parsers' takes, both sides -/
section TAKES
def KM (b : Nat → Int32) : Nat → Nat := fun j => kdB (b j)
theorem KM_lt {b : Nat → Int32} (j : Nat) : KM b j < 6 := kdB_lt
def TBy (n : Nat) (c b : Nat → Int32) : Prop := n ≤ 600 ∧ ∀ j, j < n → kdB (c j) = kdB (b j) ∧ (kdB (b j) ≠ 5 → c j = b j) ∧ ¬ b j = -1
def Pc (x : Nat → Int32) (n p : Nat) : Prop := x 2 = nI n ∧ x 3 = nI p ∧ p ≤ n
def E0 (x y : Nat → Int32) : Prop := x 7 = 0 ∧ x 8 = -1 ∧ y 12 = 0 ∧ y 13 = -1
/-- class before a token, reference at it -/
def PS (n p : Nat) (x c y b : Nat → Int32) : Prop := TBy n c b ∧ Pc x n p ∧ AtR y b (KM b) n (skp (KM b) n p) ∧ E0 x y
/-- both at the token -/
def SY (n s : Nat) (x c y b : Nat → Int32) : Prop := TBy n c b ∧ s ≤ n ∧ AtC x (KM b) n s ∧ AtR y b (KM b) n s ∧ E0 x y
def Er (x y : Nat → Int32) : Prop := x 7 = y 12 ∧ x 8 = y 13
def FrR (y z : Nat → Int32) : Prop := ∀ q, ¬ (12 ≤ q ∧ q ≤ 18) → z q = y q
theorem FrR.refl {y : Nat → Int32} : FrR y y := fun _ _ => rfl
theorem FrR.trans {x y z : Nat → Int32} (a : FrR x y) (b : FrR y z) : FrR x z := fun q h => (b q h).trans (a q h)
variable {S : CS} {M : MS} {n p s : Nat} {x c y b : Nat → Int32}
theorem tok_eq (t : TBy n c b) {k1 : tkK (KM b) n s = 1 ∨ tkK (KM b) n s = 2} : ∀ j, s ≤ j → j < tkD (KM b) n s → c j = b j := fun j h1 h2 => by
  rcases k1 with k | k
  · obtain ⟨f1, f2, f3, f4, f5, f6, f7⟩ := tk_run k (Or.inl rfl)
    exact (t.2 j (by omega)).2.1 (by have := f7 j h1 h2; unfold KM at this; omega)
  · obtain ⟨f1, f2, f3, f4, f5, f6, f7⟩ := tk_run k (Or.inr rfl)
    exact (t.2 j (by omega)).2.1 (by have := f7 j h1 h2; unfold KM at this; omega)
theorem c_adv (t : TBy n (S.1 2) b) (h : Pc (S.1 1) n p) : ∃ x', fX8_advance S = some (if skp (KM b) n p < n then 1 else 0, tx S x') ∧ AtC x' (KM b) n (skp (KM b) n p) ∧ ∀ q, ¬ (3 ≤ q ∧ q ≤ 5) → x' q = S.1 1 q := by
  have hc := c_advance h.1 t.1 h.2.1 h.2.2 rfl
  have hk : ∀ j, j < n → (fun j => kdB (S.1 2 j)) j = KM b j := fun j hj => (t.2 j hj).1
  rw [skp_cong hk h.2.2, tkD_cong hk, tkK_cong hk] at hc
  refine ⟨_, hc, ⟨?_, ?_, ?_, ?_⟩, fun q hq => ?_⟩
  · unfold tkx; simp (disch := omega) only [pk_un]; exact h.1
  · unfold tkx; exact pk_us
  · unfold tkx; rw [pk_un (by omega), pk_us]
  · unfold tkx; rw [pk_un (by omega), pk_un (by omega), pk_us]
  · unfold tkx; rw [pk_un (by omega), pk_un (by omega), pk_un (by omega)]
/-- the class goes on: both at the token -/
theorem s_adv (h : PS n p (S.1 1) (S.1 2) y b) : ∃ x', fX8_advance S = some (if skp (KM b) n p < n then 1 else 0, tx S x') ∧ SY n (skp (KM b) n p) x' (S.1 2) y b := by
  obtain ⟨t, hp, hr, e1, e2, e3, e4⟩ := h
  obtain ⟨x', a, b', f⟩ := c_adv t hp
  exact ⟨x', a, t, skp_le hp.2.2, b', hr, (f 7 (by omega)).trans e1, (f 8 (by omega)).trans e2, e3, e4⟩
/-- the reference goes on: the class is behind -/
theorem s_nxt (h : SY n s x c M.1 (M.2 8)) : ∃ y', fX11_advanceToken M = some (rx M y') ∧ PS n (tkD (KM (M.2 8)) n s) x c y' (M.2 8) ∧ FrR M.1 y' ∧ y' 18 = M.1 18 := by
  obtain ⟨t, hs, hc, hr, e1, e2, e3, e4⟩ := h
  have hd := tkD_le (K := KM (M.2 8)) hs
  have ha := r_advance (M := M) (y := M.1) hr.1 t.1 hr.2.1 hd (fun j hj => (t.2 j hj).2.2) rfl
  rw [rx_self] at ha
  refine ⟨_, ha, ⟨t, ⟨hc.1, hc.2.1, hd⟩, ⟨?_, ?_, ?_, ?_, ?_⟩, e1, e2, ?_, ?_⟩, fun q hq => ?_, ?_⟩
  · unfold tkr; simp (disch := omega) only [pk_un]; exact hr.1
  · unfold tkr; simp (disch := omega) only [pk_un, pk_us]; rfl
  · unfold tkr; simp (disch := omega) only [pk_un, pk_us]; rfl
  · unfold tkr; simp (disch := omega) only [pk_un, pk_us]; rfl
  · unfold tkr; rw [pk_us]; rfl
  · unfold tkr; simp (disch := omega) only [pk_un]; exact e3
  · unfold tkr; simp (disch := omega) only [pk_un]; exact e4
  · unfold tkr; simp (disch := omega) only [pk_un]
  · unfold tkr; simp (disch := omega) only [pk_un]
theorem c_fail {k : Int32} : fX8_fail (tx S x) k = some (0, tx S (upd (upd x 7 k) 8 (x 5))) := by
  unfold fX8_fail fX8_fail_0
  rw [tx_1, tx_w, tx_2, tx_p, fX8_fail_5, tx_1, tx_w, tx_2, tx_p, pk_un (by omega)]
  exact bz_s (Or.inl rfl)
theorem r_fails {k : Int32} (h : M.1 12 = 0) : fX11_failsAt M k = some (0, rx M (upd (upd M.1 12 k) 13 (M.1 15))) := by
  unfold fX11_failsAt fX11_failsAt_0
  rw [if_pos h, fX11_failsAt_7, vu, rx_p, fX11_failsAt_12, rx_1, rx_11, rx_2, vu, rx_p, pk_un (by omega)]
  exact bz_s (Or.inl rfl)
/-- both fail with one code at one place -/
theorem s_fail {k : Int32} (h : SY n s x c M.1 (M.2 8)) : ∃ x' y', fX8_fail (tx S x) k = some (0, tx S x') ∧ fX11_failsAt M k = some (0, rx M y') ∧ Er x' y' ∧ FrR M.1 y' := by
  obtain ⟨t, hs, hc, hr, e1, e2, e3, e4⟩ := h
  refine ⟨_, _, c_fail, r_fails e3, ⟨?_, ?_⟩, fun q hq => ?_⟩
  · rw [pk_un (by omega), pk_us, pk_un (by omega), pk_us]
  · rw [pk_us, pk_us, hc.2.2.2, hr.2.2.1]
  · rw [pk_un (by omega), pk_un (by omega)]
theorem SY.kd (h : SY n s x c y b) {a : Nat} (ha : a = 1 ∨ a = 2 ∨ a = 3) : (x 4 = nI a ↔ tkK (KM b) n s = a) ∧ (y 17 = nI a ↔ tkK (KM b) n s = a) := by
  obtain ⟨t, hs, hc, hr, _⟩ := h
  have kl := tkK_lt (n := n) (s := s) (K := KM b) KM_lt
  exact ⟨by rw [hc.2.2.1]; exact nI_eq (by omega) (by omega), by rw [hr.2.2.2.2]; exact kk5 kl ha⟩
theorem s_name (h : PS n p (S.1 1) (S.1 2) M.1 (M.2 8)) : ∃ x', (fX8_takeName S = some (1, tx S x') ∧ fX11_seesName M = some (1, M) ∧ SY n (skp (KM (M.2 8)) n p) x' (S.1 2) M.1 (M.2 8) ∧ tkK (KM (M.2 8)) n (skp (KM (M.2 8)) n p) = 1 ∧ tkD (KM (M.2 8)) n (skp (KM (M.2 8)) n p) - skp (KM (M.2 8)) n p ≤ 6) ∨ (fX8_takeName S = some (0, tx S x') ∧ ∃ y', fX11_seesName M = some (0, rx M y') ∧ Er x' y' ∧ FrR M.1 y') := by
  obtain ⟨x', ha, sy⟩ := s_adv h
  generalize skp (KM (M.2 8)) n p = s at *
  obtain ⟨x2, y2, f1, f2, er, fr⟩ := s_fail (S := S) (k := 1) sy
  have k1 := sy.kd (a := 1) (by omega)
  have hD := tkD_ge (K := KM (M.2 8)) (n := n) (s := s)
  have hL := tkD_le (K := KM (M.2 8)) sy.2.1
  have h600 := sy.1.1
  have bad : (bz (fX8_takeName_22 (tx S x')) = some (0, tx S x2)) ∧ bz (fX11_seesName_22 M) = some (0, rx M y2) := by
    constructor
    · rw [fX8_takeName_22, f1, Option.bind_some, fX8_takeName_27, if_pos rfl, fX8_takeName_34, fX8_takeName_35]; rfl
    · rw [fX11_seesName_22, f2, Option.bind_some, fX11_seesName_27, if_pos rfl, fX11_seesName_34, fX11_seesName_35]; rfl
  unfold fX8_takeName fX8_takeName_0 fX11_seesName fX11_seesName_0
  rw [ha, Option.bind_some, fX8_takeName_4, tx_1]
  by_cases q : tkK (KM (M.2 8)) n s = 1
  · rw [if_pos (show x' 4 = (1 : Int32) from k1.1.mpr q), if_pos (show M.1 17 = (1 : Int32) from k1.2.mpr q), fX8_takeName_13, fX8_tokenLength, fX8_tokenLength_0, tx_1, sy.2.2.1.2.1, sy.2.2.1.2.2.2, fX11_seesName_8, sy.2.2.2.1.2.1, sy.2.2.2.1.2.2.1, pk_sub hD, Option.bind_some, fX8_takeName_17]
    by_cases g : tkD (KM (M.2 8)) n s - s ≤ 6
    · rw [if_pos (show nI _ ≤ (6 : Int32) from nI_le (b := 6) g (by omega)), if_pos (show nI _ ≤ (6 : Int32) from nI_le (b := 6) g (by omega))]
      exact ⟨x', Or.inl ⟨rfl, rfl, sy, q, g⟩⟩
    · rw [if_neg (show ¬ nI _ ≤ (6 : Int32) from nI_ge (a := 6) (by omega) (by omega)), if_neg (show ¬ nI _ ≤ (6 : Int32) from nI_ge (a := 6) (by omega) (by omega))]
      exact ⟨x2, Or.inr ⟨bad.1, y2, bad.2, er, fr⟩⟩
  · rw [if_neg (show ¬ x' 4 = (1 : Int32) from fun z => q (k1.1.mp z)), if_neg (show ¬ M.1 17 = (1 : Int32) from fun z => q (k1.2.mp z))]
    exact ⟨x2, Or.inr ⟨bad.1, y2, bad.2, er, fr⟩⟩
theorem s_semi (h : PS n p (S.1 1) (S.1 2) M.1 (M.2 8)) : ∃ x' y', FrR M.1 y' ∧ ((fX8_takeSemicolon S = some (1, tx S x') ∧ fX11_takesSemicolon M = some (1, rx M y') ∧ PS n (tkD (KM (M.2 8)) n (skp (KM (M.2 8)) n p)) x' (S.1 2) y' (M.2 8)) ∨ (fX8_takeSemicolon S = some (0, tx S x') ∧ fX11_takesSemicolon M = some (0, rx M y') ∧ Er x' y')) := by
  obtain ⟨x', ha, sy⟩ := s_adv h
  generalize skp (KM (M.2 8)) n p = s at *
  obtain ⟨x2, y2, f1, f2, er, fr⟩ := s_fail (S := S) (k := 1) sy
  obtain ⟨y3, n1, n2, n3, n4⟩ := s_nxt sy
  have k1 := sy.kd (a := 3) (by omega)
  unfold fX8_takeSemicolon fX8_takeSemicolon_0 fX11_takesSemicolon fX11_takesSemicolon_0
  rw [ha, Option.bind_some, fX8_takeSemicolon_4, tx_1]
  by_cases q : tkK (KM (M.2 8)) n s = 3
  · rw [if_pos (show x' 4 = (3 : Int32) from k1.1.mpr q), if_pos (show M.1 17 = (3 : Int32) from k1.2.mpr q), fX11_takesSemicolon_14, n1, Option.bind_some]
    exact ⟨x', y3, n3, Or.inl ⟨rfl, rfl, n2⟩⟩
  · rw [if_neg (show ¬ x' 4 = (3 : Int32) from fun z => q (k1.1.mp z)), if_neg (show ¬ M.1 17 = (3 : Int32) from fun z => q (k1.2.mp z)), fX8_takeSemicolon_13, f1, Option.bind_some, fX8_takeSemicolon_18, if_pos rfl, fX11_takesSemicolon_8, f2, Option.bind_some]
    exact ⟨x2, y2, fr, Or.inr ⟨rfl, rfl, er⟩⟩
end TAKES
