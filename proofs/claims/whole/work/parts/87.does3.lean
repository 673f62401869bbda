/-! the script's orders that add, both sides -/
section DOES3
variable {S S' : CS} {M M' : MS} {n t k : Nat} {w w' : Wd}
theorem d_addMice {y : Nat} {x : Int32} (g : GR S 13 (M.2 0)) (i : In (M.2 0)) (hk : k < nS (M.2 0)) (ex : x = nI y) (hy : y ≤ 999) : Do S M 3 (nI k) x (fX11_does_138 M (nI k) x) := by
  have k8 : k < 6 := Nat.lt_of_lt_of_le hk i.sz.2.1
  have eS : S.1 (13 + 2 + 15 + k) 2 = M.2 0 (161 + 12 * k + 8) := g.sack (f := 2) hk k8 (by omega) (by omega)
  obtain ⟨z, hz, ez⟩ := (i.1.2.2.2 k hk).1
  have es : M.2 0 (161 + 12 * k + 8) + x = nI (z + y) := by rw [ez, ex, nI_add]
  have my : fX11_mayAddMice M (nI k) x = some (if z + y ≤ 99 then 1 else 0) := by
    unfold fX11_mayAddMice fX11_mayAddMice_0
    rw [rS (f := 8) (ff := 8) rfl k8 (by omega), Option.bind_some, fX11_mayAddMice_7, es]
    by_cases q : z + y ≤ 99
    · rw [if_neg (show ¬ (99 : Int32) < nI (z + y) from nI_nlt (a := 99) q (by omega)), if_pos q, fX11_mayAddMice_14, fX11_mayAddMice_19]; rfl
    · rw [if_pos (show (99 : Int32) < nI (z + y) from nI_lt (a := 99) (by omega) (by omega)), if_neg q, fX11_mayAddMice_18, fX11_mayAddMice_19]; rfl
  rw [fX11_does_138, my, Option.bind_some, fX11_does_144]
  by_cases q : z + y ≤ 99
  · right
    obtain ⟨S', w', o1, o2, o3, o4, o5, o6⟩ := o_addMice (S := S) (M := M) (x := x) g i hk k8 q es
    refine ⟨?_, nI (z + y), S', w', o4, ?_, o1, o2, o3, o6⟩
    · rw [al3, fX2_allows_86, gi_m (show k < 6 by omega) (by omega), nI_c (by omega), eS, es, if_neg (show ¬ (99 : Int32) < nI (z + y) from nI_nlt (a := 99) q (by omega)), fX2_allows_102, fX2_allows_107]
      rfl
    · rw [if_pos q, if_neg one0, fX11_does_147, o5, Option.bind_some]
      dsimp only
      rw [fX11_does_153, if_neg (nI_nn (by omega)), fX11_does_156, fX11_does_161]
  · left
    refine ⟨?_, ?_⟩
    · rw [al3, fX2_allows_86, gi_m (show k < 6 by omega) (by omega), nI_c (by omega), eS, es, if_pos (show (99 : Int32) < nI (z + y) from nI_lt (a := 99) (by omega) (by omega)), fX2_allows_106, fX2_allows_107]
      rfl
    · rw [if_neg q, if_pos rfl, fX11_does_160, fX11_does_161]
theorem d_addGrain {y : Nat} {x : Int32} (g : GR S 13 (M.2 0)) (i : In (M.2 0)) (hk : k < nS (M.2 0)) (ex : x = nI y) (hy : y ≤ 999) : Do S M 4 (nI k) x (fX11_does_162 M (nI k) x) := by
  have k8 : k < 6 := Nat.lt_of_lt_of_le hk i.sz.2.1
  have eS : S.1 (13 + 2 + 15 + k) 1 = M.2 0 (161 + 12 * k + 7) := g.sack (f := 1) hk k8 (by omega) (by omega)
  obtain ⟨z, hz, ez⟩ := (i.1.2.2.2 k hk).2
  have es : M.2 0 (161 + 12 * k + 7) + x = nI (z + y) := by rw [ez, ex, nI_add]
  have my : fX11_mayAddGrain M (nI k) x = some (if z + y ≤ 9999 then 1 else 0) := by
    unfold fX11_mayAddGrain fX11_mayAddGrain_0
    rw [rS (f := 7) (ff := 7) rfl k8 (by omega), Option.bind_some, fX11_mayAddGrain_7, es]
    by_cases q : z + y ≤ 9999
    · rw [if_neg (show ¬ (9999 : Int32) < nI (z + y) from nI_nlt (a := 9999) q (by omega)), if_pos q, fX11_mayAddGrain_15, fX11_mayAddGrain_20]; rfl
    · rw [if_pos (show (9999 : Int32) < nI (z + y) from nI_lt (a := 9999) (by omega) (by omega)), if_neg q, fX11_mayAddGrain_19, fX11_mayAddGrain_20]; rfl
  rw [fX11_does_162, my, Option.bind_some, fX11_does_168]
  by_cases q : z + y ≤ 9999
  · right
    obtain ⟨S', w', o1, o2, o3, o4, o5, o6⟩ := o_addGrain (S := S) (M := M) (x := x) g i hk k8 q es
    refine ⟨?_, nI (z + y), S', w', o4, ?_, o1, o2, o3, o6⟩
    · rw [al4, fX2_allows_108, gi_m (show k < 6 by omega) (by omega), nI_c (by omega), eS, es, if_neg (show ¬ (9999 : Int32) < nI (z + y) from nI_nlt (a := 9999) q (by omega)), fX2_allows_125, fX2_allows_130]
      rfl
    · rw [if_pos q, if_neg one0, fX11_does_171, o5, Option.bind_some]
      dsimp only
      rw [fX11_does_177, if_neg (nI_nn (by omega)), fX11_does_180, fX11_does_185]
  · left
    refine ⟨?_, ?_⟩
    · rw [al4, fX2_allows_108, gi_m (show k < 6 by omega) (by omega), nI_c (by omega), eS, es, if_pos (show (9999 : Int32) < nI (z + y) from nI_lt (a := 9999) (by omega) (by omega)), fX2_allows_129, fX2_allows_130]
      rfl
    · rw [if_neg q, if_pos rfl, fX11_does_184, fX11_does_185]
end DOES3
