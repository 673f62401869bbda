/-! the script's execution, both sides -/
section EXEC
variable {S S' : CS} {M M' : MS} {n t i c : Nat} {w w' : Wd}
theorem Od.cong {j : Nat} (o : Od S M j) (h9 : S'.1 9 = S.1 9) (h10 : S'.1 10 = S.1 10) (h11 : S'.1 11 = S.1 11) (h20 : M'.2 20 = M.2 20) (h21 : M'.2 21 = M.2 21) (hn : nS (M'.2 0) = nS (M.2 0)) : Od S' M' j := by
  unfold Od
  rw [h9, h10, h11, h20, h21, hn]
  exact o
theorem s_exec (hc : c ≤ 30) : ∀ r i f (S : CS) (M : MS), c = i + r → r < f → S.1 8 5 = nI c → M.1 22 = nI c → (∀ j, i ≤ j → j < c → Od S M j) → Rel S M → ∃ S' M' v, fX5_execute_2 f S (nI i) = some (v, S') ∧ fX11_runScript_46 f M (nI i) = some (v, M') ∧ Rel S' M' ∧ M'.1 7 = M.1 7 := by
  intro r
  induction r with
  | zero =>
    intro i f S M hi hf h5 h22 od rl
    obtain ⟨f, rfl⟩ : ∃ g, f = g + 1 := ⟨f - 1, by omega⟩
    rw [fX5_execute_2, fX11_runScript_46]
    dsimp only
    rw [h5, h22, if_pos (nI_le (by omega) (by omega)), if_pos (nI_le (by omega) (by omega)), fX5_execute_72, fX11_runScript_68, h5]
    exact ⟨S, M, nI c, rfl, by rw [show i = c by omega], rl, rfl⟩
  | succ r ih =>
    intro i f S M hi hf h5 h22 od rl
    obtain ⟨f, rfl⟩ : ∃ g, f = g + 1 := ⟨f - 1, by omega⟩
    have d := s_does (od i (Nat.le_refl _) (by omega)) (by omega) rl.1.1 rl.1.2
    rw [fX5_execute_2, fX11_runScript_46]
    dsimp only
    rw [h5, h22, if_neg (nI_ge (show i < c by omega) (by omega)), if_neg (nI_ge (show i < c by omega) (by omega)), fX5_execute_10, gi_m (show i < 30 by omega) (by omega), gi_m (show i < 30 by omega) (by omega), gi_m (show i < 30 by omega) (by omega), nI_c (by omega), fX11_runScript_54]
    rcases d with ⟨a, b⟩ | ⟨a, v, S2, w2, b, e, i2, g2, fr, hn⟩
    · rw [a, b, Option.bind_some, Option.bind_some, fX5_execute_35, if_pos rfl, fX5_execute_38, fX11_runScript_59]
      dsimp only
      rw [if_pos rfl, fX11_runScript_68]
      exact ⟨S, M, nI i, rfl, rfl, rl, rfl⟩
    · rw [a, e, Option.bind_some, Option.bind_some, fX5_execute_35, if_neg one0, fX5_execute_40, gi_m (show i < 30 by omega) (by omega), gi_m (show i < 30 by omega) (by omega), gi_m (show i < 30 by omega) (by omega), nI_c (by omega), b, Option.bind_some, fX5_execute_65, fX11_runScript_59]
      dsimp only
      rw [if_neg one0, fX11_runScript_62, nI_1]
      obtain ⟨S3, M3, v3, k1, k2, k3, k4⟩ := ih (i + 1) f S2 (mw M w2) (by omega) (by omega) (by rw [(fr 8 (by omega)).1]; exact h5) h22 (fun j h1 h2 => (od j (by omega) h2).cong (fr 9 (by omega)).1 (fr 10 (by omega)).1 (fr 11 (by omega)).1 (mw_n (by decide)) (mw_n (by decide)) (by rw [mw_w]; exact hn)) (rl.now fr g2 i2)
      exact ⟨S3, M3, v3, k1, k2, k3, k4⟩
end EXEC
