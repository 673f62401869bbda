/-! the reference's tokens over bytes that are known -/
section FTOK
variable {b : Nat → Int32} {n p s k : Nat} {l : List Int32} {M : MS}
/-- the bytes from p on are those of l -/
def Sg (b : Nat → Int32) (p : Nat) (l : List Int32) : Prop := ∀ i, i < l.length → b (p + i) = l.getD i 0
theorem Sg.app {l' : List Int32} : Sg b p (l ++ l') ↔ Sg b p l ∧ Sg b (p + l.length) l' := by
  constructor
  · intro h
    refine ⟨fun i hi => ?_, fun i hi => ?_⟩
    · rw [h i (by rw [List.length_append]; omega), List.getD_eq_getElem?_getD, List.getD_eq_getElem?_getD, List.getElem?_append_left hi]
    · rw [Nat.add_assoc, h (l.length + i) (by rw [List.length_append]; omega), List.getD_eq_getElem?_getD, List.getD_eq_getElem?_getD, List.getElem?_append_right (by omega), Nat.add_sub_cancel_left]
  · intro ⟨h, g⟩ i hi
    rw [List.length_append] at hi
    by_cases c : i < l.length
    · rw [h i c, List.getD_eq_getElem?_getD, List.getD_eq_getElem?_getD, List.getElem?_append_left c]
    · have := g (i - l.length) (by omega)
      rw [show p + l.length + (i - l.length) = p + i by omega] at this
      rw [this, List.getD_eq_getElem?_getD, List.getD_eq_getElem?_getD, List.getElem?_append_right (by omega)]
theorem runF_eq {P : Nat → Bool} : ∀ f p q, p ≤ q → q ≤ p + f → (∀ j, p ≤ j → j < q → P j = true) → (q < p + f → P q = false) → runF P f p = q
  | 0, p, q, h1, h2, _, _ => by
    show p = q
    omega
  | f + 1, p, q, h1, h2, h3, h4 => by
    show (if P p = true then runF P f (p + 1) else p) = q
    by_cases c : p = q
    · subst c
      rw [if_neg (by rw [h4 (by omega)]; decide)]
    · rw [if_pos (h3 p (Nat.le_refl _) (by omega))]
      exact runF_eq f (p + 1) q (by omega) (by omega) (fun j a b => h3 j (by omega) b) (fun z => h4 (by omega))
theorem skp_0 (h : p < n → ¬ kdB (b p) = 4) (hp : p ≤ n) : skp (KM b) n p = p := by
  unfold skp
  refine runF_eq _ _ _ (Nat.le_refl _) (by omega) (fun j a b => by omega) (fun z => ?_)
  have := h (by omega)
  show (kdB (b p) == 4) = false
  exact beq_false_of_ne this
theorem skp_1 (h1 : b p = 32) (hp : p < n) (h : p + 1 < n → ¬ kdB (b (p + 1)) = 4) : skp (KM b) n p = p + 1 := by
  unfold skp
  refine runF_eq _ _ _ (by omega) (by omega) (fun j a c => ?_) (fun z => ?_)
  · obtain rfl : j = p := by omega
    show (kdB (b j) == 4) = true
    rw [h1]; rfl
  · have := h (by omega)
    show (kdB (b (p + 1)) == 4) = false
    exact beq_false_of_ne this
theorem tk_run2 {L : Nat} (hk : k = 1 ∨ k = 2) (hL : 1 ≤ L) (hn : p + L ≤ n) (hs : ∀ i, i < L → kdB (b (p + i)) = k) (he : p + L < n → ¬ kdB (b (p + L)) = k) (h8 : k = 1 → L ≤ 8) (h4 : k = 2 → L ≤ 4) : tkD (KM b) n p = p + L ∧ tkK (KM b) n p = k := by
  have h0 : KM b p = k := hs 0 (by omega)
  have e : tkE (KM b) n p = p + L := by
    unfold tkE
    rw [h0, if_pos hk]
    refine runF_eq _ _ _ (by omega) (by omega) (fun j a c => ?_) (fun z => ?_)
    · have := hs (j - p) (by omega)
      rw [show p + (j - p) = j by omega] at this
      show (kdB (b j) == k) = true
      rw [this]; exact beq_self_eq_true k
    · exact beq_false_of_ne (he (by omega))
  refine ⟨?_, ?_⟩
  · unfold tkD; rw [if_pos (by omega), e]
  · unfold tkK
    rw [if_pos (by omega), e, h0, Nat.add_sub_cancel_left, if_neg]
    rintro (⟨a, c⟩ | ⟨a, c⟩)
    · have := h8 a; omega
    · have := h4 a; omega
theorem tk_semi (h : b p = 59) (hp : p < n) : tkD (KM b) n p = p + 1 ∧ tkK (KM b) n p = 3 := by
  have h0 : KM b p = 3 := by show kdB (b p) = 3; rw [h]; rfl
  have e : tkE (KM b) n p = p + 1 := by
    unfold tkE
    rw [h0, if_neg (by decide)]
  refine ⟨by unfold tkD; rw [if_pos hp, e], ?_⟩
  unfold tkK
  rw [if_pos hp, e, h0, if_neg]
  rintro (⟨a, c⟩ | ⟨a, c⟩)
  · exact absurd a (by decide)
  · exact absurd a (by decide)
theorem tk_end : tkD (KM b) n n = n ∧ tkK (KM b) n n = 0 := ⟨by unfold tkD; rw [if_neg (Nat.lt_irrefl _)], by unfold tkK; rw [if_neg (Nat.lt_irrefl _)]⟩
/-- what the text is, where the reference's token stands -/
def TX (b : Nat → Int32) (n : Nat) : Prop := n ≤ 600 ∧ ∀ j, j < n → ¬ b j = -1
def TK (M : MS) (b : Nat → Int32) (n s : Nat) : Prop := M.2 8 = b ∧ AtR M.1 b (KM b) n s ∧ M.1 12 = 0 ∧ M.1 13 = -1 ∧ s ≤ n
def nxt (b : Nat → Int32) (n s : Nat) : Nat := skp (KM b) n (tkD (KM b) n s)
/-- only the scanner's own numbers change -/
def FrA (M M' : MS) : Prop := ∀ q, ¬ (14 ≤ q ∧ q ≤ 18) → M'.1 q = M.1 q
theorem FrA.rf : FrA M M := fun _ _ => rfl
theorem FrA.tr {M1 M2 M3 : MS} (a : FrA M1 M2) (c : FrA M2 M3) : FrA M1 M3 := fun q hq => (c q hq).trans (a q hq)
theorem tkr_o {y : Nat → Int32} {s e k q : Nat} {v : Int32} (h : q ≠ 14 ∧ q ≠ 15 ∧ q ≠ 16 ∧ q ≠ 17) : tkr y s e k v q = y q := by unfold tkr; rw [pk_un h.2.2.2, pk_un h.2.2.1, pk_un h.1, pk_un h.2.1]
theorem tkr_14 {y : Nat → Int32} {s e k : Nat} {v : Int32} : tkr y s e k v 14 = nI e := by unfold tkr; rw [pk_un (by omega), pk_un (by omega), pk_us]
theorem tkr_15 {y : Nat → Int32} {s e k : Nat} {v : Int32} : tkr y s e k v 15 = nI s := by unfold tkr; rw [pk_un (by omega), pk_un (by omega), pk_un (by omega), pk_us]
theorem tkr_16 {y : Nat → Int32} {s e k : Nat} {v : Int32} : tkr y s e k v 16 = v := by unfold tkr; rw [pk_un (by omega), pk_us]
theorem tkr_17 {y : Nat → Int32} {s e k : Nat} {v : Int32} : tkr y s e k v 17 = nI (if k = 5 then 4 else k) := by unfold tkr; rw [pk_us]
theorem f_adv (t : TX b n) (h : TK M b n s) : ∃ M', fX11_advanceToken M = some M' ∧ TK M' b n (nxt b n s) ∧ M'.2 = M.2 ∧ FrA M M' ∧ M'.1 18 = M.1 18 := by
  obtain ⟨hb, ⟨h9, h14, h15, h16, h17⟩, h12, h13, hs⟩ := h
  have hd : tkD (KM b) n s ≤ n := tkD_le hs
  have r := r_advance (M := M) (y := M.1) (k := KM b) h9 t.1 h14 hd (by rw [hb]; exact t.2) (by rw [hb]; rfl)
  rw [rx_self, hb] at r
  obtain ⟨Y, eY⟩ : ∃ Y, Y = tkr M.1 (nxt b n s) (tkD (KM b) n (nxt b n s)) (tkK (KM b) n (nxt b n s)) (tkV b (KM b) n (nxt b n s)) := ⟨_, rfl⟩
  have r : fX11_advanceToken M = some (rx M Y) := by rw [eY]; exact r
  have yo : ∀ q, (q ≠ 14 ∧ q ≠ 15 ∧ q ≠ 16 ∧ q ≠ 17) → Y q = M.1 q := fun q hq => by rw [eY]; exact tkr_o hq
  have y14 : Y 14 = nI (tkD (KM b) n (nxt b n s)) := by rw [eY]; exact tkr_14
  have y15 : Y 15 = nI (nxt b n s) := by rw [eY]; exact tkr_15
  have y16 : Y 16 = tkV b (KM b) n (nxt b n s) := by rw [eY]; exact tkr_16
  have y17 : Y 17 = nI (if tkK (KM b) n (nxt b n s) = 5 then 4 else tkK (KM b) n (nxt b n s)) := by rw [eY]; exact tkr_17
  have y9 : Y 9 = nI n := (yo 9 (by omega)).trans h9
  have y12 : Y 12 = 0 := (yo 12 (by omega)).trans h12
  have y13 : Y 13 = -1 := (yo 13 (by omega)).trans h13
  exact ⟨rx M Y, r, ⟨hb, ⟨y9, y14, y15, y16, y17⟩, y12, y13, skp_le hd⟩, rfl, fun q hq => yo q (by omega), yo 18 (by omega)⟩
theorem TK.kd (h : TK M b n s) {a : Nat} (ha : a = 1 ∨ a = 2 ∨ a = 3) (hk : tkK (KM b) n s = a) : M.1 17 = nI a := by
  rw [h.2.1.2.2.2.2, hk, if_neg (by omega)]
theorem TK.len (h : TK M b n s) (t : TX b n) : M.1 14 - M.1 15 = nI (tkD (KM b) n s - s) := by
  have := tkD_ge (K := KM b) (n := n) (s := s)
  rw [h.2.1.2.1, h.2.1.2.2.1, pk_sub this]
theorem f_semi (t : TX b n) (h : TK M b n s) (hk : tkK (KM b) n s = 3) : ∃ M', fX11_takesSemicolon M = some (1, M') ∧ TK M' b n (nxt b n s) ∧ M'.2 = M.2 ∧ FrA M M' := by
  obtain ⟨M', e, h1, h2, h3, -⟩ := f_adv t h
  refine ⟨M', ?_, h1, h2, h3⟩
  have e17 : M.1 17 = 3 := h.kd (a := 3) (by omega) hk
  unfold fX11_takesSemicolon fX11_takesSemicolon_0
  rw [if_pos e17, fX11_takesSemicolon_14, e, Option.bind_some, fX11_takesSemicolon_18]
  exact bz_s (Or.inr rfl)
theorem f_takes {kk v lo hi : Nat} (hkk : kk < 4) (t : TX b n) (h : TK M b n s) (hk : tkK (KM b) n s = 2) (hv : tkV b (KM b) n s = nI v) (h1 : lo ≤ v) (h2 : v ≤ hi) (h3 : hi < 2 ^ 31) : ∃ M', fX11_takes M (nI kk) (nI lo) (nI hi) = some (1, M') ∧ TK M' b n (nxt b n s) ∧ M'.2 0 = M.2 0 ∧ M'.2 19 = upd (M.2 19) kk (nI v) ∧ (∀ j, j ≠ 19 → M'.2 j = M.2 j) ∧ FrA M M' := by
  have e17 : M.1 17 = 2 := h.kd (a := 2) (by omega) hk
  have e16 : M.1 16 = nI v := h.2.1.2.2.2.1.trans hv
  have hG : TK ((va_up M.1 18 (M.1 16), M.2) : MS) b n s := by
    obtain ⟨hb, ⟨h9, h14, h15, h16, h17⟩, h12, h13, hs⟩ := h
    have e18 : ∀ q, q ≠ 18 → va_up M.1 18 (M.1 16) q = M.1 q := fun q hq => vne hq
    exact ⟨hb, ⟨(e18 9 (by omega)).trans h9, (e18 14 (by omega)).trans h14, (e18 15 (by omega)).trans h15, (e18 16 (by omega)).trans h16, (e18 17 (by omega)).trans h17⟩, (e18 12 (by omega)).trans h12, (e18 13 (by omega)).trans h13, hs⟩
  obtain ⟨M', e, g1, g2, g3, g4⟩ := f_adv t hG
  have g4 : M'.1 18 = nI v := g4.trans ((show va_up M.1 18 (M.1 16) 18 = M.1 16 from vat).trans e16)
  have g2 : M'.2 = M.2 := g2
  have sn : fX11_seesNumber M (nI lo) (nI hi) = some (1, (va_up M.1 18 (M.1 16), M.2)) := by
    unfold fX11_seesNumber fX11_seesNumber_0
    rw [if_pos e17, fX11_seesNumber_14, r_inRange, Option.bind_some, fX11_seesNumber_23, e16, if_neg (nI_nlt h1 (by omega)), if_neg (nI_nlt h2 h3), if_neg one0, fX11_seesNumber_32, fX11_seesNumber_40, e16]
    exact bz_s (Or.inr rfl)
  have tn : fX11_takesNumber M (nI lo) (nI hi) = some (1, M') := by
    unfold fX11_takesNumber fX11_takesNumber_0
    rw [sn, Option.bind_some, fX11_takesNumber_6, if_neg one0, fX11_takesNumber_11, e, Option.bind_some, fX11_takesNumber_15]
    exact bz_s (Or.inr rfl)
  refine ⟨(M'.1, va_up M'.2 19 (upd (M'.2 19) kk (nI v))), ?_, ⟨(show va_up M'.2 19 (upd (M'.2 19) kk (nI v)) 8 = M'.2 8 from vne (by omega)).trans g1.1, g1.2⟩, ?_, ?_, fun j hj => ?_, fun q hq => ?_⟩
  · unfold fX11_takes fX11_takes_0
    rw [tn, Option.bind_some, fX11_takes_6, if_neg one0, fX11_takes_11, if_pos (nI_in hkk (by omega)), nI_clamp (by omega), fX11_takes_21, g4]
    first | rfl | exact bz_s (Or.inr rfl)
  · exact (show va_up M'.2 19 (upd (M'.2 19) kk (nI v)) 0 = M'.2 0 from vne (by omega)).trans (by rw [g2])
  · exact (show va_up M'.2 19 (upd (M'.2 19) kk (nI v)) 19 = upd (M'.2 19) kk (nI v) from vat).trans (by rw [g2])
  · exact (show va_up M'.2 19 (upd (M'.2 19) kk (nI v)) j = M'.2 j from vne hj).trans (by rw [g2])
  · exact (g3 q hq).trans (show va_up M.1 18 (M.1 16) q = M.1 q from vne (by omega))
theorem f_name (t : TX b n) (h : TK M b n s) (hk : tkK (KM b) n s = 1) (h6 : tkD (KM b) n s - s ≤ 6) : fX11_seesName M = some (1, M) := by
  have e17 : M.1 17 = 1 := h.kd (a := 1) (by omega) hk
  unfold fX11_seesName fX11_seesName_0
  rw [if_pos e17, fX11_seesName_8, h.len t, if_pos (show nI (tkD (KM b) n s - s) ≤ (6 : Int32) from nI_le (b := 6) h6 (by omega)), fX11_seesName_30, fX11_seesName_35]
  exact bz_s (Or.inr rfl)
end FTOK
