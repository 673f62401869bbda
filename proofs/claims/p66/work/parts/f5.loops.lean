/-! the whole setup, statement after statement -/
section FLOOP
variable {b : Nat → Int32} {n p : Nat} {M M' M0 : MS} {nc ns nh : Nat} {sp gr mi cc hr : Nat → Nat} {lf op : Nat → Int32} {F : Nat → List Int32}
def accT (F : Nat → List Int32) : Nat → List Int32
  | 0 => []
  | k + 1 => accT F k ++ F k
theorem accT_s {k : Nat} : accT F (k + 1) = accT F k ++ F k := rfl
theorem accT_len {k : Nat} : (accT F (k + 1)).length = (accT F k).length + (F k).length := List.length_append
theorem accT_sg {k : Nat} : ∀ d, Sg b p (accT F (k + d)) → Sg b p (accT F k)
  | 0, h => h
  | d + 1, h => accT_sg d (Sg.app.mp (show Sg b p (accT F (k + d) ++ F (k + d)) from h)).1
theorem accT_at {k m : Nat} (hk : k < m) (h : Sg b p (accT F m)) : Sg b (p + (accT F k).length) (F k) := by
  obtain ⟨d, rfl⟩ : ∃ d, m = k + 1 + d := ⟨m - (k + 1), by omega⟩
  exact (Sg.app.mp (show Sg b p (accT F k ++ F k) from accT_sg d h)).2
theorem accT_le {k m : Nat} (hk : k ≤ m) : (accT F k).length ≤ (accT F m).length := by
  obtain ⟨d, rfl⟩ : ∃ d, m = k + d := ⟨m - k, by omega⟩
  induction d with
  | zero => exact Nat.le_refl _
  | succ d ih => exact Nat.le_trans (ih (by omega)) (by rw [show k + (d + 1) = k + d + 1 from rfl, accT_len]; omega)
def catT (sp : Nat → Nat) (lf : Nat → Int32) (k : Nat) : List Int32 := [99, 97, 116, 32, nI (97 + k), 32] ++ (dgL (sp k) ++ (if lf k = 1 then [32, 108, 101, 102, 116, 59] else [32, 114, 105, 103, 104, 116, 59]))
def sackT (gr mi : Nat → Nat) (op : Nat → Int32) (k : Nat) : List Int32 := [115, 97, 99, 107, 32, nI (97 + k), 32] ++ (dgL (gr k) ++ ([32] ++ (dgL (mi k) ++ (if op k = 1 then [32, 111, 112, 101, 110, 59] else [32, 115, 104, 117, 116, 59]))))
def shiftT (cc hr : Nat → Nat) (k : Nat) : List Int32 := [115, 104, 105, 102, 116, 32, nI (97 + cc k), 32] ++ (dgL (hr k) ++ [59])
theorem tk_ne0 (hp : p < n) : ¬ tkK (KM b) n p = 0 := by
  unfold tkK
  rw [if_pos hp]
  split
  · decide
  · exact kd_ne
theorem rd_step (h : TK M b n p) (hp : p < n) (e : fX11_readSetupStatement M = some (1, M')) (f : Nat) : fX11_readText_4 (f + 1) M = fX11_readText_4 f M' := by
  have h17 : ¬ M.1 17 = 0 := by
    rw [h.2.1.2.2.2.2]
    have h6 := tkK_lt (K := KM b) (n := n) (s := p) (fun j => KM_lt j)
    have h0 := tk_ne0 (b := b) hp
    intro z
    have := (nI_eq (a := if tkK (KM b) n p = 5 then 4 else tkK (KM b) n p) (b := 0) (by split <;> omega) (by omega)).mp z
    split at this <;> omega
  show (if M.1 17 = 0 then fX11_readText_20 M else fX11_readText_11 (fX11_readText_4 f) M) = _
  rw [if_neg h17, fX11_readText_11, e, Option.bind_some, fX11_readText_15, if_neg one0]
theorem p_cats (t : TX b n) (hT : Sg b 0 (accT (catT sp lf) nc)) (hc : nc ≤ 8) (hsp : ∀ k, k < nc → 1 ≤ sp k ∧ sp k ≤ 9) (hlf : ∀ k, k < nc → lf k = 0 ∨ lf k = 1) (hn : (accT (catT sp lf) nc).length < n) (he : kdB (b (accT (catT sp lf) nc).length) = 1) (h0 : TK M0 b n 0) (hw : M0.2 0 0 = 0) : ∀ k, k ≤ nc → ∃ M, (∀ f, fX11_readText_4 (f + k) M0 = fX11_readText_4 f M) ∧ TK M b n (accT (catT sp lf) k).length ∧ M.2 0 0 = nI k ∧ NM 65 k (M.2 0) ∧ (∀ i, i < k → M.2 0 (65 + 12 * i + 7) = nI (sp i) ∧ M.2 0 (65 + 12 * i + 8) = lf i) ∧ (∀ q, q ≠ 0 → (q < 65 ∨ 65 + 12 * k ≤ q ∨ 9 ≤ (q - 65) % 12) → M.2 0 q = M0.2 0 q) ∧ (∀ j, j ≠ 0 → j ≠ 19 → M.2 j = M0.2 j) ∧ FrA M0 M
  | 0, _ => ⟨M0, fun _ => rfl, h0, hw, fun i hi => absurd hi (by omega), fun i hi => absurd hi (by omega), fun _ _ _ => rfl, fun _ _ _ => rfl, FrA.rf⟩
  | k + 1, hk => by
    obtain ⟨M, a1, a2, a3, a4, a5, a6, a7, a8⟩ := p_cats t hT hc hsp hlf hn he h0 hw k (by omega)
    have hS := accT_at (show k < nc by omega) hT
    rw [Nat.zero_add] at hS
    have hle := accT_le (F := catT sp lf) (show k + 1 ≤ nc from hk)
    have hlen : (accT (catT sp lf) (k + 1)).length = (accT (catT sp lf) k).length + (catT sp lf k).length := accT_len
    have hnx : (accT (catT sp lf) (k + 1)).length < n → kdB (b (accT (catT sp lf) (k + 1)).length) = 1 := fun _ => by
      by_cases c : k + 1 = nc
      · rw [c]; exact he
      · have hS2 := accT_at (show k + 1 < nc by omega) hT
        rw [Nat.zero_add] at hS2
        have := hS2 0 (by unfold catT; rw [List.length_append]; exact Nat.lt_of_lt_of_le (show 0 < 6 by omega) (Nat.le_add_right _ _))
        rw [Nat.add_zero] at this
        rw [this]; rfl
    generalize hP : (accT (catT sp lf) k).length = P at hS a2 hlen
    rw [hlen] at hnx hle ⊢
    obtain ⟨s1, s2⟩ := Sg.app.mp hS
    obtain ⟨s2, s3⟩ := Sg.app.mp s2
    have l1 : (dgL (sp k)).length = 1 := dgL_1 (by have := hsp k (by omega); omega)
    rw [l1] at s3
    have s3 : Sg b (P + 7) (if lf k = 1 then [32, 108, 101, 102, 116, 59] else [32, 114, 105, 103, 104, 116, 59]) := s3
    have s2 : Sg b (P + 6) (dgL (sp k)) := s2
    have b7 : b (P + 7) = 32 := by
      have := s3 0 (by split <;> exact Nat.lt_of_sub_ne_zero (by decide))
      rw [Nat.add_zero] at this
      rw [this]; split <;> rfl
    obtain ⟨L, eL, s4⟩ : ∃ L, (catT sp lf k).length = L ∧ ((lf k = 1 ∧ L = 13 ∧ Sg b (P + 8) [108, 101, 102, 116, 59]) ∨ (lf k = 0 ∧ L = 14 ∧ Sg b (P + 8) [114, 105, 103, 104, 116, 59])) := by
      refine ⟨_, rfl, ?_⟩
      rcases hlf k (by omega) with c | c
      · right
        rw [if_neg (by rw [c]; decide)] at s3
        exact ⟨c, by unfold catT; rw [List.length_append, List.length_append, l1, if_neg (by rw [c]; decide)]; rfl, (Sg.app (l := [32]) (l' := [114, 105, 103, 104, 116, 59]).mp s3).2⟩
      · left
        rw [if_pos c] at s3
        exact ⟨c, by unfold catT; rw [List.length_append, List.length_append, l1, if_pos c]; rfl, (Sg.app (l := [32]) (l' := [108, 101, 102, 116, 59]).mp s3).2⟩
    rw [eL] at hnx hle ⊢
    obtain ⟨M', c1, c2, c3, c4, c5, c6, c7, c8, c9⟩ := f_cat (nc := k) (v := sp k) (c := lf k) t a2 a3 (by omega) a4 s1 (hsp k (by omega)) s2 b7 s4 (by omega) hnx
    have hPn : P < n := by rcases s4 with ⟨-, r, -⟩ | ⟨-, r, -⟩ <;> omega
    refine ⟨M', fun f => ?_, c2, c3, c4, fun i hi => ?_, fun q q0 hq => ?_, fun j j0 j19 => (c8 j j0 j19).trans (a7 j j0 j19), a8.tr c9⟩
    · rw [show f + (k + 1) = (f + 1) + k by omega, a1 (f + 1)]
      exact rd_step a2 hPn c1 f
    · by_cases ci : i = k
      · subst ci; exact ⟨c5, c6⟩
      · rw [c7 _ (by omega) (by omega), c7 _ (by omega) (by omega)]
        exact a5 i (by omega)
    · rw [c7 q q0 (by omega)]
      exact a6 q q0 (by omega)
end FLOOP
