/-! the script's single orders on sacks, both sides -/
section DOES2
variable {S S' : CS} {M M' : MS} {n t k : Nat} {w w' : Wd}
theorem sum01 {g : Nat → Int32} {N : Nat} (h : ∀ j, j < N → g j = 0 ∨ g j = 1) : ∀ r j a, N = j + r → ∃ b, b ≤ a + r ∧ sumA g r j (nI a) = nI b := by
  intro r
  induction r with
  | zero => intro j a hj; exact ⟨a, by omega, rfl⟩
  | succ r ih =>
    intro j a hj
    rw [sumA]
    rcases h j (by omega) with z | z
    · rw [z, Int32.add_zero]
      obtain ⟨b, hb, e⟩ := ih (j + 1) a (by omega)
      exact ⟨b, by omega, e⟩
    · rw [z, nI_1]
      obtain ⟨b, hb, e⟩ := ih (j + 1) (a + 1) (by omega)
      exact ⟨b, by omega, e⟩
theorem sum9_nn (i : In w) : ¬ sumK 9 w < 0 := by
  have h6 := i.sz.2.1
  obtain ⟨b, hb, e⟩ := sum01 (g := fun j => w (161 + 12 * j + 9)) (N := nS w) (fun j hj => i.1.2.2.1 j hj) (nS w) 0 0 (by omega)
  rw [nI_0] at e
  unfold sumK
  rw [e]
  exact nI_nn (by omega)
theorem d_open {x y : Int32} (g : GR S 13 (M.2 0)) (i : In (M.2 0)) (hk : k < nS (M.2 0)) : Do S M 1 (nI k) x (fX11_does_92 M (nI k)) := by
  have k8 : k < 6 := Nat.lt_of_lt_of_le hk i.sz.2.1
  have pw := i.1.2.2.1 k hk
  have fl : S.1 (13 + 2 + 15 + k) 3 = M.2 0 (161 + 12 * k + 9) := g.sack (f := 3) hk k8 (by omega) (by omega)
  rw [fX11_does_92, rOpen k8 pw, Option.bind_some]
  rcases Or.symm pw.symm with z | z
  · right
    obtain ⟨S', w', o1, o2, o3, o4, o5, o6⟩ := o_flap (S := S) (M := M) (v := 1) g i hk k8 (by decide)
    have en : nS w' = nS (M.2 0) := by
      have p := ps9 (M := M) (w := M.2 0) (k := k) (v := 1) k8
      rw [mw_self] at p
      unfold fX11_setsFlap fX11_setsFlap_0 at o6
      rw [p, Option.bind_some, fX11_setsFlap_8] at o6
      cases hq : fX11_openMany (mw M (upd (M.2 0) (161 + 12 * k + 9) 1)) with
      | none => rw [hq] at o6; cases o6
      | some v =>
        rw [hq, Option.bind_some, fX11_setsFlap_12] at o6
        have e2 : mw M (upd (M.2 0) (161 + 12 * k + 9) 1) = mw M w' := (Prod.mk.inj (Option.some.inj o6)).2
        have e3 : upd (M.2 0) (161 + 12 * k + 9) 1 = w' := by
          have := congrArg (fun q : MS => q.2 0) e2
          rw [mw_w, mw_w] at this
          exact this
        rw [← e3]
        unfold nS
        rw [pk_un (by omega)]
    refine ⟨?_, sumK 9 w', S', w', ?_, ?_, o1, o2, o3, en⟩
    · rw [al1, fX2_allows_58, gi_m (show k < 6 by omega) (by omega), nI_c (by omega), fl, if_pos z, fX2_allows_70, fX2_allows_75]; rfl
    · rw [ap1, fX2_apply_46, gi_m (show k < 6 by omega) (by omega), nI_c (by omega), ← o4, fX2_apply_56, o5, Option.bind_some, fX2_apply_60]
    · rw [fX11_does_97, if_pos z, fX11_does_100, o6, Option.bind_some]
      dsimp only
      rw [fX11_does_106, if_neg (sum9_nn o1), fX11_does_109, fX11_does_114]
  · left
    refine ⟨?_, ?_⟩
    · rw [al1, fX2_allows_58, gi_m (show k < 6 by omega) (by omega), nI_c (by omega), fl, if_neg (by rw [z]; decide), fX2_allows_74, fX2_allows_75]; rfl
    · rw [fX11_does_97, if_neg (by rw [z]; decide), fX11_does_113, fX11_does_114]
theorem d_shut {x y : Int32} (g : GR S 13 (M.2 0)) (i : In (M.2 0)) (hk : k < nS (M.2 0)) : Do S M 2 (nI k) x (fX11_does_115 M (nI k)) := by
  have k8 : k < 6 := Nat.lt_of_lt_of_le hk i.sz.2.1
  have pw := i.1.2.2.1 k hk
  have fl : S.1 (13 + 2 + 15 + k) 3 = M.2 0 (161 + 12 * k + 9) := g.sack (f := 3) hk k8 (by omega) (by omega)
  rw [fX11_does_115, rOpen k8 pw, Option.bind_some]
  rcases pw.symm with z | z
  · right
    obtain ⟨S', w', o1, o2, o3, o4, o5, o6⟩ := o_flap (S := S) (M := M) (v := 0) g i hk k8 (by decide)
    have en : nS w' = nS (M.2 0) := by
      have p := ps9 (M := M) (w := M.2 0) (k := k) (v := 0) k8
      rw [mw_self] at p
      unfold fX11_setsFlap fX11_setsFlap_0 at o6
      rw [p, Option.bind_some, fX11_setsFlap_8] at o6
      cases hq : fX11_openMany (mw M (upd (M.2 0) (161 + 12 * k + 9) 0)) with
      | none => rw [hq] at o6; cases o6
      | some v =>
        rw [hq, Option.bind_some, fX11_setsFlap_12] at o6
        have e2 : mw M (upd (M.2 0) (161 + 12 * k + 9) 0) = mw M w' := (Prod.mk.inj (Option.some.inj o6)).2
        have e3 : upd (M.2 0) (161 + 12 * k + 9) 0 = w' := by
          have := congrArg (fun q : MS => q.2 0) e2
          rw [mw_w, mw_w] at this
          exact this
        rw [← e3]
        unfold nS
        rw [pk_un (by omega)]
    refine ⟨?_, sumK 9 w', S', w', ?_, ?_, o1, o2, o3, en⟩
    · rw [al2, fX2_allows_76, gi_m (show k < 6 by omega) (by omega), nI_c (by omega), fl, z]; rfl
    · rw [ap2, fX2_apply_61, gi_m (show k < 6 by omega) (by omega), nI_c (by omega), ← o4, fX2_apply_71, o5, Option.bind_some, fX2_apply_75]
    · rw [fX11_does_120, if_neg (by rw [z]; decide), fX11_does_123, o6, Option.bind_some]
      dsimp only
      rw [fX11_does_129, if_neg (sum9_nn o1), fX11_does_132, fX11_does_137]
  · left
    refine ⟨?_, ?_⟩
    · rw [al2, fX2_allows_76, gi_m (show k < 6 by omega) (by omega), nI_c (by omega), fl, z]; rfl
    · rw [fX11_does_120, if_pos z, fX11_does_136, fX11_does_137]
end DOES2
