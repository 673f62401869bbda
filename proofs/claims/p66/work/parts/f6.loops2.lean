/-! the sacks and the shifts of a setup -/
section FLOOP2
variable {b : Nat → Int32} {n p B : Nat} {M M' M0 : MS} {nc ns nh : Nat} {sp gr mi cc hr : Nat → Nat} {lf op : Nat → Int32} {F : Nat → List Int32}
theorem p_sacks (t : TX b n) (hT : Sg b B (accT (sackT gr mi op) ns)) (hc : ns ≤ 6) (hg : ∀ k, k < ns → gr k ≤ 999) (hm : ∀ k, k < ns → mi k ≤ 99) (ho : ∀ k, k < ns → op k = 0 ∨ op k = 1) (hn : B + (accT (sackT gr mi op) ns).length < n) (he : kdB (b (B + (accT (sackT gr mi op) ns).length)) = 1) (h0 : TK M0 b n B) (hw : M0.2 0 1 = 0) : ∀ k, k ≤ ns → ∃ M, (∀ f, fX11_readText_4 (f + k) M0 = fX11_readText_4 f M) ∧ TK M b n (B + (accT (sackT gr mi op) k).length) ∧ M.2 0 1 = nI k ∧ NM 161 k (M.2 0) ∧ (∀ i, i < k → M.2 0 (161 + 12 * i + 7) = nI (gr i) ∧ M.2 0 (161 + 12 * i + 8) = nI (mi i) ∧ M.2 0 (161 + 12 * i + 9) = op i) ∧ (∀ q, q ≠ 1 → (q < 161 ∨ 161 + 12 * k ≤ q ∨ 10 ≤ (q - 161) % 12) → M.2 0 q = M0.2 0 q) ∧ (∀ j, j ≠ 0 → j ≠ 19 → M.2 j = M0.2 j) ∧ FrA M0 M
  | 0, _ => ⟨M0, fun _ => rfl, h0, hw, fun i hi => absurd hi (by omega), fun i hi => absurd hi (by omega), fun _ _ _ => rfl, fun _ _ _ => rfl, FrA.rf⟩
  | k + 1, hk => by
    obtain ⟨M, a1, a2, a3, a4, a5, a6, a7, a8⟩ := p_sacks t hT hc hg hm ho hn he h0 hw k (by omega)
    have hS := accT_at (show k < ns by omega) hT
    have hle := accT_le (F := sackT gr mi op) (show k + 1 ≤ ns from hk)
    have hlen : (accT (sackT gr mi op) (k + 1)).length = (accT (sackT gr mi op) k).length + (sackT gr mi op k).length := accT_len
    have hnx : B + (accT (sackT gr mi op) (k + 1)).length < n → kdB (b (B + (accT (sackT gr mi op) (k + 1)).length)) = 1 := fun _ => by
      by_cases c : k + 1 = ns
      · rw [c]; exact he
      · have hS2 := accT_at (show k + 1 < ns by omega) hT
        have := hS2 0 (by unfold sackT; rw [List.length_append]; exact Nat.lt_of_lt_of_le (show 0 < 7 by omega) (Nat.le_add_right _ _))
        rw [Nat.add_zero] at this
        rw [this]; rfl
    rw [hlen] at hnx hle ⊢
    rw [← Nat.add_assoc] at hnx ⊢
    generalize hP : B + (accT (sackT gr mi op) k).length = P at hS a2 hnx ⊢
    obtain ⟨s1, s2⟩ := Sg.app.mp hS
    obtain ⟨s2, s3⟩ := Sg.app.mp s2
    obtain ⟨s3, s5⟩ := Sg.app.mp s3
    obtain ⟨s5, s6⟩ := Sg.app.mp s5
    have s2 : Sg b (P + 7) (dgL (gr k)) := s2
    have s3 : b (P + 7 + (dgL (gr k)).length) = 32 := s3 0 (by show 0 < 1; omega)
    have s5 : Sg b (P + 8 + (dgL (gr k)).length) (dgL (mi k)) := by
      rw [show P + 8 + (dgL (gr k)).length = P + 7 + (dgL (gr k)).length + 1 by omega]; exact s5
    have s6 : Sg b (P + 8 + (dgL (gr k)).length + (dgL (mi k)).length) (if op k = 1 then [32, 111, 112, 101, 110, 59] else [32, 115, 104, 117, 116, 59]) := by
      rw [show P + 8 + (dgL (gr k)).length + (dgL (mi k)).length = P + 7 + (dgL (gr k)).length + 1 + (dgL (mi k)).length by omega]; exact s6
    have b7 : b (P + 8 + (dgL (gr k)).length + (dgL (mi k)).length) = 32 := by
      have := s6 0 (by split <;> exact Nat.lt_of_sub_ne_zero (by decide))
      rw [Nat.add_zero] at this
      rw [this]; split <;> rfl
    have eL : (sackT gr mi op k).length = 14 + (dgL (gr k)).length + (dgL (mi k)).length := by
      unfold sackT
      rw [List.length_append, List.length_append, List.length_append, List.length_append, show (if op k = 1 then ([32, 111, 112, 101, 110, 59] : List Int32) else [32, 115, 104, 117, 116, 59]).length = 6 by split <;> rfl, show ([115, 97, 99, 107, 32, nI (97 + k), 32] : List Int32).length = 7 from rfl, show ([32] : List Int32).length = 1 from rfl]
      omega
    have s4 : (op k = 1 ∧ Sg b (P + 9 + (dgL (gr k)).length + (dgL (mi k)).length) [111, 112, 101, 110, 59]) ∨ (op k = 0 ∧ Sg b (P + 9 + (dgL (gr k)).length + (dgL (mi k)).length) [115, 104, 117, 116, 59]) := by
      rw [show P + 9 + (dgL (gr k)).length + (dgL (mi k)).length = P + 8 + (dgL (gr k)).length + (dgL (mi k)).length + 1 by omega]
      rcases ho k (by omega) with c | c
      · right
        rw [if_neg (by rw [c]; decide)] at s6
        exact ⟨c, (Sg.app (l := [32]) (l' := [115, 104, 117, 116, 59]).mp s6).2⟩
      · left
        rw [if_pos c] at s6
        exact ⟨c, (Sg.app (l := [32]) (l' := [111, 112, 101, 110, 59]).mp s6).2⟩
    rw [eL] at hnx hle ⊢
    obtain ⟨M', c1, c2, c3, c4, c5, c6, c7, c8⟩ := f_sack (ns := k) (g := gr k) (m := mi k) (c := op k) t a2 a3 (by omega) a4 s1 (hg k (by omega)) s2 s3 (hm k (by omega)) s5 b7 s4 rfl (by omega) hnx
    have hPn : P < n := by omega
    refine ⟨M', fun f => ?_, c2, c3, c4, fun i hi => ?_, fun q q0 hq => ?_, fun j j0 j19 => (c7 j j0 j19).trans (a7 j j0 j19), a8.tr c8⟩
    · rw [show f + (k + 1) = (f + 1) + k by omega, a1 (f + 1)]
      exact rd_step a2 hPn c1 f
    · by_cases ci : i = k
      · subst ci; exact c5
      · rw [c6 _ (by omega) (by omega), c6 _ (by omega) (by omega), c6 _ (by omega) (by omega)]
        exact a5 i (by omega)
    · rw [c6 q q0 (by omega)]
      exact a6 q q0 (by omega)
theorem p_shifts (t : TX b n) (hT : Sg b B (accT (shiftT cc hr) nh)) (hc : nh ≤ 12) (hn8 : nc ≤ 8) (hcc : ∀ k, k < nh → cc k < nc) (hh : ∀ k, k < nh → 1 ≤ hr k ∧ hr k ≤ 24) (hn : B + (accT (shiftT cc hr) nh).length < n) (he : kdB (b (B + (accT (shiftT cc hr) nh).length)) = 1) (h0 : TK M0 b n B) (hw0 : M0.2 0 0 = nI nc) (nm : NM 65 nc (M0.2 0)) (hw : M0.2 0 2 = 0) : ∀ k, k ≤ nh → ∃ M, (∀ f, fX11_readText_4 (f + k) M0 = fX11_readText_4 f M) ∧ TK M b n (B + (accT (shiftT cc hr) k).length) ∧ M.2 0 2 = nI k ∧ (∀ i, i < k → M.2 0 (233 + 2 * i) = nI (cc i) ∧ M.2 0 (233 + 2 * i + 1) = nI (hr i)) ∧ (∀ q, q ≠ 2 → (q < 233 ∨ 233 + 2 * k ≤ q) → M.2 0 q = M0.2 0 q) ∧ (∀ j, j ≠ 0 → j ≠ 19 → M.2 j = M0.2 j) ∧ FrA M0 M
  | 0, _ => ⟨M0, fun _ => rfl, h0, hw, fun i hi => absurd hi (by omega), fun _ _ _ => rfl, fun _ _ _ => rfl, FrA.rf⟩
  | k + 1, hk => by
    obtain ⟨M, a1, a2, a3, a5, a6, a7, a8⟩ := p_shifts t hT hc hn8 hcc hh hn he h0 hw0 nm hw k (by omega)
    have hS := accT_at (show k < nh by omega) hT
    have hle := accT_le (F := shiftT cc hr) (show k + 1 ≤ nh from hk)
    have hlen : (accT (shiftT cc hr) (k + 1)).length = (accT (shiftT cc hr) k).length + (shiftT cc hr k).length := accT_len
    have hnx : B + (accT (shiftT cc hr) (k + 1)).length < n → kdB (b (B + (accT (shiftT cc hr) (k + 1)).length)) = 1 := fun _ => by
      by_cases c : k + 1 = nh
      · rw [c]; exact he
      · have hS2 := accT_at (show k + 1 < nh by omega) hT
        have := hS2 0 (by unfold shiftT; rw [List.length_append]; exact Nat.lt_of_lt_of_le (show 0 < 8 by omega) (Nat.le_add_right _ _))
        rw [Nat.add_zero] at this
        rw [this]; rfl
    rw [hlen] at hnx hle ⊢
    rw [← Nat.add_assoc] at hnx ⊢
    generalize hP : B + (accT (shiftT cc hr) k).length = P at hS a2 hnx ⊢
    obtain ⟨s1, s2⟩ := Sg.app.mp hS
    obtain ⟨s2, s3⟩ := Sg.app.mp s2
    have s2 : Sg b (P + 8) (dgL (hr k)) := s2
    have s3 : b (P + 8 + (dgL (hr k)).length) = 59 := s3 0 (by show 0 < 1; omega)
    have eL : (shiftT cc hr k).length = 9 + (dgL (hr k)).length := by
      unfold shiftT
      rw [List.length_append, List.length_append, show ([115, 104, 105, 102, 116, 32, nI (97 + cc k), 32] : List Int32).length = 8 from rfl, show ([59] : List Int32).length = 1 from rfl]
      omega
    rw [eL] at hnx hle ⊢
    have m0 : M.2 0 0 = nI nc := (a6 0 (by omega) (by omega)).trans hw0
    have nmM : NM 65 nc (M.2 0) := fun i hi => (nm i hi).cong (fun j hj => a6 _ (by omega) (by omega))
    obtain ⟨M', c1, c2, c3, c7, c8⟩ := f_shift (nc := nc) (nh := k) (cc := cc k) (d := hr k) t a2 m0 hn8 (hcc k (by omega)) a3 (by omega) nmM s1 (hh k (by omega)) s2 s3 rfl (by omega) hnx
    have hPn : P < n := by omega
    refine ⟨M', fun f => ?_, c2, by rw [c3, pk_us], fun i hi => ?_, fun q q0 hq => ?_, fun j j0 j19 => (c7 j j0 j19).trans (a7 j j0 j19), a8.tr c8⟩
    · rw [show f + (k + 1) = (f + 1) + k by omega, a1 (f + 1)]
      exact rd_step a2 hPn c1 f
    · rw [c3]
      by_cases ci : i = k
      · subst ci
        exact ⟨by rw [pk_un (by omega), pk_un (by omega), pk_us], by rw [pk_un (by omega), pk_us]⟩
      · rw [pk_un (by omega), pk_un (by omega), pk_un (by omega), pk_un (by omega), pk_un (by omega), pk_un (by omega)]
        exact a5 i (by omega)
    · rw [c3, pk_un (by omega), pk_un (by omega), pk_un (by omega)]
      exact a6 q q0 (by omega)
end FLOOP2
