/-! the reference's statements over bytes that are known -/
section FSTM
variable {b : Nat → Int32} {n p s k : Nat} {l : List Int32} {M : MS}
theorem TK.u19 {x : Nat → Int32} (h : TK M b n s) : TK ((M.1, va_up M.2 19 x) : MS) b n s := ⟨(show va_up M.2 19 x 8 = M.2 8 from vne (by omega)).trans h.1, h.2⟩
theorem TK.u0 {x : Nat → Int32} (h : TK M b n s) : TK (mw M x) b n s := ⟨(show va_up M.2 0 x 8 = M.2 8 from vne (by omega)).trans h.1, h.2⟩
theorem wq_yes (hk : tkK (KM b) n p = 1) (hd : tkD (KM b) n p = p + l.length) (hs : Sg b p l) : wq b (KM b) n p l = 1 := if_pos ⟨hk, by rw [hd, Nat.add_sub_cancel_left], hs⟩
theorem wq_ln {L : Nat} (hd : tkD (KM b) n p = p + L) (h : L ≠ l.length) : wq b (KM b) n p l = 0 := if_neg (fun z => h (by have := z.2.1; rw [hd, Nat.add_sub_cancel_left] at this; exact this))
theorem wq_at {i : Nat} (hi : i < l.length) (h : ¬ b (p + i) = l.getD i 0) : wq b (KM b) n p l = 0 := if_neg (fun z => h (z.2.2 i hi))
theorem f_is (t : TX b n) (h : TK M b n s) (hl : l.length ≤ 8) : fX11_isWord M l = some (wq b (KM b) n s l) := by
  have := r_isWord (M := M) (l := l) (K := KM b) (n := n) (s := s) (by rw [h.1]; exact h.2.1) t.1 (fun j => KM_lt j) hl
  rw [h.1] at this
  exact this
theorem f_choice {kk : Nat} {x y : Int32} (hkk : kk < 4) (t : TX b n) (h : TK M b n s) (h01 : x = 0 ∨ x = 1) (hq : ¬ (x = 0 ∧ y = 0)) : ∃ M', fX11_takesChoice M (nI kk) x y = some (1, M') ∧ TK M' b n (nxt b n s) ∧ M'.2 0 = M.2 0 ∧ M'.2 19 = upd (M.2 19) kk x ∧ (∀ j, j ≠ 19 → M'.2 j = M.2 j) ∧ FrA M M' := by
  obtain ⟨M', e, g1, g2, g3, -⟩ := f_adv t (h.u19 (x := upd (M.2 19) kk x))
  have g2 : M'.2 = va_up M.2 19 (upd (M.2 19) kk x) := g2
  have e14 : fX11_takesChoice_14 M (nI kk) x = some (1, M') := by
    rw [fX11_takesChoice_14, r_one h01, Option.bind_some, fX11_takesChoice_23, if_pos (nI_in hkk (by omega)), nI_clamp (by omega), fX11_takesChoice_24, e, Option.bind_some, fX11_takesChoice_28]
  refine ⟨M', ?_, g1, by rw [g2]; exact vne (by omega), by rw [g2]; exact vat, fun j hj => by rw [g2]; exact vne hj, g3⟩
  unfold fX11_takesChoice fX11_takesChoice_0
  by_cases c : x = 0
  · rw [if_pos c, fX11_takesChoice_4, if_neg (fun z => hq ⟨c, z⟩), e14]
    exact bz_s (Or.inr rfl)
  · rw [if_neg c, e14]
    exact bz_s (Or.inr rfl)
theorem f_new {a m cnt : Nat} (t : TX b n) (h : TK M b n s) (hk : tkK (KM b) n s = 1) (hd : tkD (KM b) n s = s + 1) (hm : m < 257) (hc : M.2 0 m = nI cnt) (h8 : cnt ≤ 8) (ha : a + 12 * cnt + 7 ≤ 257) (hv : fX11_nameHere M (nI a) (nI m) = some (-1)) : ∃ M', fX11_takesNewName M (nI a) (nI m) = some (1, M') ∧ TK M' b n (nxt b n s) ∧ M'.2 0 = spW (M.2 0) (a + 12 * cnt) s 1 b 6 ∧ M'.2 19 = upd (M.2 19) 3 1 ∧ (∀ j, j ≠ 0 → j ≠ 19 → M'.2 j = M.2 j) ∧ FrA M M' := by
  have hs := h.2.2.2.2
  have hd2 := tkD_le (K := KM b) (n := n) hs
  have h6 := t.1
  obtain ⟨W, eW⟩ : ∃ W, W = spW (M.2 0) (a + 12 * cnt) s 1 b 6 := ⟨_, rfl⟩
  have l0 := r_newName_l (M := M) (w := M.2 0) (a := a + 12 * cnt) (s := s) (L := 1) (by rw [h.2.1.2.1, hd]) h.2.1.2.2.1 (by omega) ha 6 0 FU (by omega) (by rw [FU_eq]; omega)
  rw [spW_0, mw_self, h.1, ← eW, nI_0] at l0
  have hT : TK ((M.1, va_up (mw M W).2 19 (upd (M.2 19) 3 1)) : MS) b n s := (h.u0 (x := W)).u19
  obtain ⟨M', e, g1, g2, g3, -⟩ := f_adv t hT
  have g2 : M'.2 = va_up (va_up M.2 0 W) 19 (upd (M.2 19) 3 1) := g2
  have el : M.1 14 - M.1 15 = (1 : Int32) := by rw [h.len t, hd, Nat.add_sub_cancel_left]; rfl
  have e94 : fX11_takesNewName_94 (mw M W) = some (1, M') := by
    have e19 : (mw M W).2 19 = M.2 19 := mw_n (by decide)
    rw [fX11_takesNewName_94, gj3, tn3, e19, show (mw M W).1 14 - (mw M W).1 15 = 1 from el, fX11_takesNewName_109]
    rw [show ((mw M W).1, va_up (mw M W).2 19 (upd (M.2 19) 3 1)) = ((M.1, va_up (mw M W).2 19 (upd (M.2 19) 3 1)) : MS) from rfl, e, Option.bind_some, fX11_takesNewName_113]
  refine ⟨M', ?_, g1, by rw [g2, ← eW]; exact (vne (by omega)).trans vat, by rw [g2]; exact vat, fun j h0 h19 => by rw [g2]; exact (vne h19).trans (vne h0), g3⟩
  unfold fX11_takesNewName fX11_takesNewName_0
  rw [f_name t h hk (by omega), Option.bind_some, fX11_takesNewName_4, if_neg one0, fX11_takesNewName_9, hv, Option.bind_some, fX11_takesNewName_15, if_pos rfl, fX11_takesNewName_25, if_pos (nI_in hm (by omega)), nI_clamp (by omega), hc, show (nI a + 12 * nI cnt : Int32) = nI (a + 12 * cnt) from nI_b a 12 cnt, l0, e94]
  exact bz_s (Or.inr rfl)
theorem f_known {a m v : Nat} (t : TX b n) (h : TK M b n s) (hk : tkK (KM b) n s = 1) (h6 : tkD (KM b) n s - s ≤ 6) (hv : fX11_nameHere M (nI a) (nI m) = some (nI v)) (hv8 : v < 100) : ∃ M', fX11_takesKnown M (nI a) (nI m) = some (1, M') ∧ TK M' b n (nxt b n s) ∧ M'.2 0 = M.2 0 ∧ M'.2 19 = upd (M.2 19) 0 (nI v) ∧ (∀ j, j ≠ 19 → M'.2 j = M.2 j) ∧ FrA M M' := by
  obtain ⟨M', e, g1, g2, g3, -⟩ := f_adv t (h.u19 (x := upd (M.2 19) 0 (nI v)))
  have g2 : M'.2 = va_up M.2 19 (upd (M.2 19) 0 (nI v)) := g2
  refine ⟨M', ?_, g1, by rw [g2]; exact vne (by omega), by rw [g2]; exact vat, fun j hj => by rw [g2]; exact vne hj, g3⟩
  have e20 : fX11_takesKnown_20 M (nI v) 0 = some (1, M') := by
    rw [fX11_takesKnown_20, gj0, tn0, fX11_takesKnown_21, gj0, tn0]
    rw [if_neg (show ¬ va_up M.2 19 (upd (M.2 19) 0 (nI v)) 19 0 = -1 from fun z => nI_nem (show v < 2 ^ 31 by omega) (((congrFun vat 0).trans pk_us).symm.trans z)), fX11_takesKnown_37, e, Option.bind_some, fX11_takesKnown_41]
  unfold fX11_takesKnown fX11_takesKnown_0
  rw [f_name t h hk h6, Option.bind_some, fX11_takesKnown_4, if_neg one0, fX11_takesKnown_9, hv, Option.bind_some]
  exact (congrArg bz e20).trans (bz_s (Or.inr rfl))
end FSTM
