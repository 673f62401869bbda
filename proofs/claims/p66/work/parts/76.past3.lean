/-! remember, both sides -/
section PAST
variable {S S' : CS} {M M' : MS} {n t k : Nat} {w w' : Wd}
/-- both remember -/
theorem s_remember' (r : Rel S M) : ∃ S' M', fX10_remember S = some S' ∧ fX11_remembers M = some M' ∧ Rel S' M' ∧ M'.1 7 = M.1 7 ∧ (∀ q, q ≠ 0 → q < 153 → S'.1 q = S.1 q) ∧ ((∀ j, j ≠ 5 → M'.1 j = M.1 j) ∧ ∀ j, j ≠ 4 → M'.2 j = M.2 j) := by
  obtain ⟨⟨a, b⟩, ⟨n, rt⟩, c, d, e⟩ := r
  obtain ⟨u, nx, u8, n8, c1, c2, c3, c4⟩ := c
  obtain ⟨P, r1, r2, r3⟩ := r_remembers (M := M) u8 c2
  obtain ⟨S1, h1, h2, h3⟩ := c_copyFrom (S := S) (t := 153 + 35 * nx) (b := 13) (by omega) b a
  obtain ⟨u', eu⟩ : ∃ u', u' = (if u = 8 then 8 else u + 1) := ⟨_, rfl⟩
  rw [← eu] at r1 r2 r3
  obtain ⟨S2, e2⟩ : ∃ S2 : CS, S2 = (va_up S1.1 0 (upd (upd (S.1 0) 10 (nI ((nx + 1) % 8))) 11 (nI u')), S1.2) := ⟨_, rfl⟩
  have p1 : ∀ q, q ≠ 0 → (q < 153 + 35 * nx ∨ 153 + 35 * nx + 35 ≤ q) → S2.1 q = S.1 q ∧ S2.2 q = S.2 q := fun q h0 hq => by
    rw [e2]; dsimp only; rw [vne h0]; exact h3 q (by omega)
  have p0 : ∀ f, f ≠ 10 → f ≠ 11 → S2.1 0 f = S.1 0 f := fun f hf hg => by
    rw [e2]; dsimp only; rw [vat, pk_un hg, pk_un hf]
  have cl : fX10_remember S = some S2 := by
    have m8 : nI nx + 1 - (nI nx + 1) / 8 * 8 = nI ((nx + 1) % 8) := by
      rw [nI_1]; exact pk_rem (d := 8) (by omega) (by omega) (by omega)
    have mn : (if (8 : Int32) < nI u + 1 then (8 : Int32) else nI u + 1) = nI u' := by
      rw [nI_1, eu]
      by_cases z : u = 8
      · rw [if_pos z, if_pos (show (8 : Int32) < nI (u + 1) from nI_lt (a := 8) (by omega) (by omega))]; rfl
      · rw [if_neg z, if_neg (show ¬ (8 : Int32) < nI (u + 1) from nI_nlt (a := 8) (by omega) (by omega))]
    unfold fX10_remember fX10_remember_0
    rw [c3, gi_m n8 (by omega), nI_c (by omega), h1, Option.bind_some, fX10_remember_16, (h3 0 (by omega)).1, c3, m8, fX10_remember_29]
    have z11 : va_up S1.1 0 (upd (S.1 0) 10 (nI ((nx + 1) % 8))) 0 11 = nI u := by rw [vat, pk_un (by omega)]; exact c1
    simp only [z11, mn]
    rw [vat, up_up, fX10_remember_44, ← e2]
  refine ⟨S2, _, cl, r1, ⟨⟨?_, ?_⟩, ⟨n, rt.fr ?_ ?_ ?_ ?_ ?_ ?_⟩, ⟨u', (nx + 1) % 8, ?_, ?_, ?_, ?_, ?_, fun k hk => ?_⟩, d.fr ?_ ?_ ?_ ?_, e.fr ?_ ?_ ?_ ?_⟩, ?_, ?_, ?_, ?_⟩
  · dsimp only; rw [vne (by omega)]; exact a.fr b (fun q h1 h2 => p1 q (by omega) (by omega))
  · dsimp only; rw [vne (by omega)]; exact b
  · exact (p1 1 (by omega) (by omega)).1
  · exact (p1 2 (by omega) (by omega)).1
  · dsimp only; rw [vne (by omega)]
  · dsimp only; rw [vne (by omega)]
  · dsimp only; rw [vne (by omega)]
  · dsimp only; rw [vne (by omega)]
  · rw [eu]; split <;> omega
  · omega
  · rw [e2]; dsimp only; rw [vat, pk_us]
  · dsimp only; rw [vat]
  · rw [e2]; dsimp only; rw [vat, pk_un (by omega), pk_us]
  · have hu : u' ≤ 8 := by rw [eu]; split <;> omega
    by_cases k0 : k = 0
    · subst k0
      have ex : ∀ q, q < 257 → pW (va_up M.1 5 (nI u'), va_up M.2 4 P) (u' - 1 - 0) q = M.2 0 q := fun q hq => by
        unfold pW; dsimp only; rw [vat]; exact r2 q hq
      rw [show ((nx + 1) % 8 + 7 - 0) % 8 = nx by omega]
      exact ⟨(h2.fr b (fun q h1 h2 => by rw [e2]; dsimp only; rw [vne (by omega)]; exact ⟨rfl, rfl⟩)).cg b ex, b.cong ex⟩
    · have hk1 : k - 1 < u := by
        rw [eu] at hk; split at hk <;> omega
      obtain ⟨g1, g2⟩ := c4 (k - 1) hk1
      have ex : ∀ q, q < 257 → pW (va_up M.1 5 (nI u'), va_up M.2 4 P) (u' - 1 - k) q = pW M (u - 1 - (k - 1)) q := fun q hq => by
        unfold pW; dsimp only
        rw [vat, r3 _ q (by omega) hq]
        have ei : (u' - 1 - k + if u = 8 then 1 else 0) = u - 1 - (k - 1) := by
          by_cases z : u = 8
          · rw [if_pos z]; rw [if_pos z] at eu; omega
          · rw [if_neg z]; rw [if_neg z] at eu; omega
        rw [ei]
      rw [show ((nx + 1) % 8 + 7 - k) % 8 = (nx + 7 - (k - 1)) % 8 by omega]
      have hd : (nx + 7 - (k - 1)) % 8 ≠ nx := by omega
      have hl : (nx + 7 - (k - 1)) % 8 < 8 := by omega
      generalize (nx + 7 - (k - 1)) % 8 = z at *
      exact ⟨(g1.fr g2 (fun q h1 h2 => p1 q (by omega) (by omega))).cg g2 ex, g2.cong ex⟩
  · exact p0 9 (by omega) (by omega)
  · exact fun q h1 h2 => p1 q (by omega) (by omega)
  · dsimp only; rw [vne (by omega)]
  · dsimp only; rw [vne (by omega)]
  · exact (p1 5 (by omega) (by omega)).1
  · exact (p1 6 (by omega) (by omega)).1
  · dsimp only; rw [vne (by omega)]
  · dsimp only; rw [vne (by omega)]
  · dsimp only; rw [vne (by omega)]
  · exact fun q h0 hq => (p1 q h0 (by omega)).1
  · exact fun j hj => by dsimp only; rw [vne hj]
  · exact fun j hj => by dsimp only; rw [vne hj]
theorem s_remember (r : Rel S M) : ∃ S' M', fX10_remember S = some S' ∧ fX11_remembers M = some M' ∧ Rel S' M' ∧ M'.1 7 = M.1 7 ∧ M'.2 0 = M.2 0 := by
  obtain ⟨S', M', a, b, c, d, e, f⟩ := s_remember' r
  exact ⟨S', M', a, b, c, d, f.2 0 (by omega)⟩
end PAST
