/-! one order of the script, both sides -/
section ORDER
variable {S S' : CS} {M M' : MS} {n t i : Nat} {w w' : Wd}
def Od (S : CS) (M : MS) (i : Nat) : Prop :=
  (S.1 9 i = 0 ∧ M.2 20 i = 1 ∧ ∃ H, H ≤ 99 ∧ S.1 11 i = nI H ∧ M.2 21 (2 * i) = nI H) ∨
  (S.1 9 i = 1 ∧ M.2 20 i = 2 ∧ ∃ k, k < nS (M.2 0) ∧ S.1 10 i = nI k ∧ M.2 21 (2 * i) = nI k) ∨
  (S.1 9 i = 2 ∧ M.2 20 i = 3 ∧ ∃ k, k < nS (M.2 0) ∧ S.1 10 i = nI k ∧ M.2 21 (2 * i) = nI k) ∨
  (S.1 9 i = 3 ∧ M.2 20 i = 4 ∧ ∃ k y, k < nS (M.2 0) ∧ y ≤ 999 ∧ S.1 10 i = nI k ∧ M.2 21 (2 * i) = nI k ∧ S.1 11 i = nI y ∧ M.2 21 (2 * i + 1) = nI y) ∨
  (S.1 9 i = 4 ∧ M.2 20 i = 5 ∧ ∃ k y, k < nS (M.2 0) ∧ y ≤ 999 ∧ S.1 10 i = nI k ∧ M.2 21 (2 * i) = nI k ∧ S.1 11 i = nI y ∧ M.2 21 (2 * i + 1) = nI y) ∨
  (S.1 9 i = 5 ∧ M.2 20 i = 6) ∨
  (S.1 9 i = 6 ∧ M.2 20 i = 7 ∧ ∃ m, m ≤ 9 ∧ S.1 11 i = nI m ∧ M.2 21 (2 * i) = nI m)
theorem Do.bz {kd sk nm : Int32} {d : Option (Int32 × MS)} (h : Do S M kd sk nm d) : Do S M kd sk nm (bz d) := by
  rcases h with ⟨a, b⟩ | ⟨a, v, S', w', b, c, e⟩
  · exact Or.inl ⟨a, by rw [b]; rfl⟩
  · exact Or.inr ⟨a, v, S', w', b, by rw [c]; rfl, e⟩
theorem s_does (od : Od S M i) (hi : i < 30) (g : GR S 13 (M.2 0)) (iw : In (M.2 0)) : Do S M (S.1 9 i) (S.1 10 i) (S.1 11 i) (fX11_does M (nI i)) := by
  have e2 : (2 : Int32) * nI i = nI (2 * i) := pk_mul 2 i
  have e3 : (nI (2 * i) + 1 : Int32) = nI (2 * i + 1) := nI_1 _
  unfold fX11_does fX11_does_0
  rw [e2, e3, gi_m (show 2 * i < 62 by omega) (by omega), gi_m (show 2 * i + 1 < 62 by omega) (by omega), gi_m (show i < 31 by omega) (by omega), nI_c (by omega), nI_c (by omega), nI_c (by omega)]
  refine Do.bz ?_
  rcases od with ⟨h1, h2, H, hH, h3, h4⟩ | ⟨h1, h2, k, hk, h3, h4⟩ | ⟨h1, h2, k, hk, h3, h4⟩ | ⟨h1, h2, k, y, hk, hy, h3, h4, h5, h6⟩ | ⟨h1, h2, k, y, hk, hy, h3, h4, h5, h6⟩ | ⟨h1, h2⟩ | ⟨h1, h2, m, hm, h3, h4⟩
  · rw [h1, h2, h3, h4, if_pos rfl]
    exact d_wait g iw rfl hH
  · rw [h1, h2, h3, h4, if_neg (show ¬ (2 : Int32) = 1 by decide), if_pos rfl]
    exact d_open (y := 0) g iw hk
  · rw [h1, h2, h3, h4, if_neg (show ¬ (3 : Int32) = 1 by decide), if_neg (show ¬ (3 : Int32) = 2 by decide), if_pos rfl]
    exact d_shut (y := 0) g iw hk
  · rw [h1, h2, h3, h4, h5, h6, if_neg (show ¬ (4 : Int32) = 1 by decide), if_neg (show ¬ (4 : Int32) = 2 by decide), if_neg (show ¬ (4 : Int32) = 3 by decide), if_pos rfl]
    exact d_addMice g iw hk rfl hy
  · rw [h1, h2, h3, h4, h5, h6, if_neg (show ¬ (5 : Int32) = 1 by decide), if_neg (show ¬ (5 : Int32) = 2 by decide), if_neg (show ¬ (5 : Int32) = 3 by decide), if_neg (show ¬ (5 : Int32) = 4 by decide), if_pos rfl]
    exact d_addGrain g iw hk rfl hy
  · rw [h1, h2, if_neg (show ¬ (6 : Int32) = 1 by decide), if_neg (show ¬ (6 : Int32) = 2 by decide), if_neg (show ¬ (6 : Int32) = 3 by decide), if_neg (show ¬ (6 : Int32) = 4 by decide), if_neg (show ¬ (6 : Int32) = 5 by decide), if_pos rfl]
    exact d_dismiss g iw
  · rw [h1, h2, h3, h4, if_neg (show ¬ (7 : Int32) = 1 by decide), if_neg (show ¬ (7 : Int32) = 2 by decide), if_neg (show ¬ (7 : Int32) = 3 by decide), if_neg (show ¬ (7 : Int32) = 4 by decide), if_neg (show ¬ (7 : Int32) = 5 by decide), if_neg (show ¬ (7 : Int32) = 6 by decide)]
    exact d_milk g iw rfl hm
end ORDER
