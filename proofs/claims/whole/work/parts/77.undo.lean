/-! undo, both sides -/
section PAST
variable {S S' : CS} {M M' : MS} {n t k : Nat} {w w' : Wd}
theorem q_undo (r : Rel S M) : (S.1 0 11 ≠ 0 ∧ Bo (fX10_undo S) (fX11_undo M)) ∨ (S.1 0 11 = 0 ∧ ∃ M', fX11_undo M = some (0, M') ∧ Rel S M' ∧ M'.1 7 = 1) := by
  have rr := r
  obtain ⟨⟨a, b⟩, ⟨n, rt⟩, c, d, e⟩ := r
  obtain ⟨u, nx, u8, n8, c1, c2, c3, c4⟩ := c
  by_cases u0 : u = 0
  · right
    subst u0
    refine ⟨by rw [c1, nI_0], th M 1, ?_, rr.thr, th_7⟩
    unfold fX11_undo fX11_undo_0 fX11_undo_5
    rw [th_e, th_o (by omega), c2, if_pos nI_0, fX11_undo_13, fX11_undo_18, r_fails1, Option.bind_some, th_th]
    dsimp only
    rw [fX11_undo_22, if_neg one0, fX11_undo_25]
  · left
    have nz : ∀ v, v = nI u → v ≠ 0 := fun v hv => by rw [hv]; exact fun z => u0 ((nI_eq (b := 0) (by omega) (by omega)).mp z)
    refine ⟨nz _ c1, ?_⟩
    obtain ⟨g1, g2⟩ := c4 0 (by omega)
    rw [show (nx + 7 - 0) % 8 = (nx + 7) % 8 by omega, show u - 1 - 0 = u - 1 by omega] at g1
    rw [show u - 1 - 0 = u - 1 by omega] at g2
    obtain ⟨m, em⟩ : ∃ m, m = (nx + 7) % 8 := ⟨_, rfl⟩
    rw [← em] at g1
    have hm : m < 8 := by omega
    obtain ⟨T, eT⟩ : ∃ T : CS, T = (va_up S.1 0 (upd (S.1 0) 10 (nI m)), S.2) := ⟨_, rfl⟩
    have gT : GR T (153 + 35 * m) (pW M (u - 1)) := g1.fr g2 (fun q h1 h2 => by rw [eT]; dsimp only; rw [vne (by omega)]; exact ⟨rfl, rfl⟩)
    obtain ⟨S1, h1, h2, h3⟩ := c_copyFrom (S := T) (t := 13) (b := 153 + 35 * m) (by omega) g2 gT
    obtain ⟨S2, e2⟩ : ∃ S2 : CS, S2 = (va_up S1.1 0 (upd (T.1 0) 11 (nI (u - 1))), S1.2) := ⟨_, rfl⟩
    obtain ⟨M2, m2⟩ : ∃ M2 : MS, M2 = (va_up (th M 0).1 5 (nI (u - 1)), va_up M.2 0 (cpW (M.2 4) (257 * (u - 1)) (M.2 0) 0 257)) := ⟨_, rfl⟩
    have tq : ∀ q, q ≠ 0 → T.1 q = S.1 q ∧ T.2 q = S.2 q := fun q h0 => by rw [eT]; dsimp only; rw [vne h0]; exact ⟨rfl, rfl⟩
    have p1 : ∀ q, q ≠ 0 → (q < 13 ∨ 48 ≤ q) → S2.1 q = S.1 q ∧ S2.2 q = S.2 q := fun q h0 hq => by
      rw [e2]; dsimp only; rw [vne h0]; exact ⟨(h3 q (by omega)).1.trans (tq q h0).1, (h3 q (by omega)).2.trans (tq q h0).2⟩
    have p0 : ∀ f, f ≠ 10 → f ≠ 11 → S2.1 0 f = S.1 0 f := fun f hf hg => by
      rw [e2]; dsimp only; rw [vat, pk_un hg, eT]; dsimp only; rw [vat, pk_un hf]
    have i1 : ∀ j, j ≠ 5 → j ≠ 7 → M2.1 j = M.1 j := fun j h6 h7 => by rw [m2]; dsimp only; rw [vne h6, th_o h7]
    have i2 : ∀ j, j ≠ 0 → M2.2 j = M.2 j := fun j h => by rw [m2]; dsimp only; rw [vne h]
    have i3 : ∀ q, q < 257 → M2.2 0 q = pW M (u - 1) q := fun q hq => by
      rw [m2]; dsimp only; rw [vat]; unfold cpW pW; rw [if_pos (by omega), Nat.sub_zero]
    have g13 : GR S2 13 (pW M (u - 1)) := h2.fr g2 (fun q h1 h2 => by rw [e2]; dsimp only; rw [vne (by omega)]; exact ⟨rfl, rfl⟩)
    have ep : ∀ k, pW M2 k = pW M k := fun k => by unfold pW; rw [i2 4 (by omega)]
    have sb : nI u - 1 = nI (u - 1) := pk_sub (b := 1) (by omega)
    refine ⟨nI (u - 1), S2, M2, ?_, ?_, ⟨⟨?_, ?_⟩, ⟨n, rt.fr ?_ ?_ ?_ ?_ ?_ ?_⟩, ⟨u - 1, m, by omega, hm, ?_, ?_, ?_, fun k hk => ?_⟩, d.fr ?_ ?_ ?_ ?_, e.fr ?_ ?_ ?_ ?_⟩, ?_⟩
    · have f8 : fmo (nI nx - 1) 8 = some (nI m) := by rw [em]; exact fmo8 ⟨nx, n8⟩
      unfold fX10_undo fX10_undo_0
      rw [if_neg (nz _ c1), fX10_undo_18, c3, c_floorMod, f8, Option.bind_some, fX10_undo_30, ← eT, fX10_undo_33]
      have t10 : T.1 0 10 = nI m := by rw [eT]; dsimp only; rw [vat, pk_us]
      have t11 : S1.1 0 11 = nI u := by rw [(h3 0 (by omega)).1, eT]; dsimp only; rw [vat, pk_un (by omega)]; exact c1
      rw [t10, gi_m hm (by omega), nI_c (by omega), h1, Option.bind_some, fX10_undo_49, t11, sb, (h3 0 (by omega)).1, ← e2, fX10_undo_59]
      rw [e2]
      dsimp only
      rw [vat, pk_us]
    · unfold fX11_undo fX11_undo_0 fX11_undo_5
      rw [th_e, th_o (by omega), if_neg (nz _ c2), fX11_undo_17, fX11_undo_18, r_fails0, Option.bind_some]
      dsimp only
      rw [fX11_undo_22, if_pos rfl, fX11_undo_27, th_o (by omega), c2, sb, fX11_undo_37]
      dsimp only
      rw [vat, show (257 : Int32) * nI (u - 1) = nI (257 * (u - 1)) from pk_mul 257 (u - 1)]
      rw [show ∀ N : MS, fX11_copies N 4 (nI (257 * (u - 1))) 0 0 = some (N.1, va_up N.2 0 (cpW (N.2 4) (257 * (u - 1)) (N.2 0) 0 257)) from fun N => r_copies (a := 4) (b := 0) (p := 257 * (u - 1)) (q := 0) (by omega) (mIs_k (by omega)) (mIs_k (by omega)) (by rw [mL_4]; omega) (by rw [mL_k (by omega)]; omega) (by rw [mL_4]; omega) (by rw [mL_k (by omega)]; omega), Option.bind_some]
      dsimp only
      rw [th_2, ← m2, fX11_undo_57, m2]
      dsimp only
      rw [vat]
    · exact g13.cg g2 i3
    · exact g2.cong i3
    · exact (p1 1 (by omega) (by omega)).1
    · exact (p1 2 (by omega) (by omega)).1
    · exact i1 9 (by omega) (by omega)
    · exact i1 10 (by omega) (by omega)
    · exact i1 11 (by omega) (by omega)
    · exact i2 8 (by omega)
    · rw [e2]; dsimp only; rw [vat, pk_us]
    · rw [m2]; dsimp only; rw [vat]
    · rw [e2]; dsimp only; rw [vat, pk_un (by omega), eT]; dsimp only; rw [vat, pk_us]
    · obtain ⟨k1, k2⟩ := c4 (k + 1) (by omega)
      rw [ep, show u - 1 - 1 - k = u - 1 - (k + 1) by omega, show (m + 7 - k) % 8 = (nx + 7 - (k + 1)) % 8 by omega]
      exact ⟨k1.fr k2 (fun q h1 h2 => p1 q (by omega) (by omega)), k2⟩
    · exact p0 9 (by omega) (by omega)
    · exact fun q h1 h2 => p1 q (by omega) (by omega)
    · exact i1 6 (by omega) (by omega)
    · exact i2 3 (by omega)
    · exact (p1 5 (by omega) (by omega)).1
    · exact (p1 6 (by omega) (by omega)).1
    · exact i1 24 (by omega) (by omega)
    · exact i2 23 (by omega)
    · rw [m2]; dsimp only; rw [vne (by omega), th_7]
end PAST
