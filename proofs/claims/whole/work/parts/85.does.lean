/-! the script's single orders, both sides -/
section DOES
variable {S S' : CS} {M M' : MS} {n t k : Nat} {w w' : Wd}
/-- both refuse, or both do -/
def Do (S : CS) (M : MS) (kd sk nm : Int32) (d : Option (Int32 × MS)) : Prop := (fX2_allows S 13 kd sk nm = some 0 ∧ d = some (0, M)) ∨ (fX2_allows S 13 kd sk nm = some 1 ∧ ∃ v S' w', fX2_apply S 13 kd sk nm = some (v, S') ∧ d = some (1, mw M w') ∧ In w' ∧ GR S' 13 w' ∧ (∀ q, q < 13 ∨ 48 ≤ q → S'.1 q = S.1 q ∧ S'.2 q = S.2 q) ∧ nS w' = nS (M.2 0))
theorem d_wait {H : Nat} {x sk : Int32} (g : GR S 13 (M.2 0)) (i : In (M.2 0)) (ex : x = nI H) (hH : H ≤ 99) : Do S M 0 sk x (fX11_does_64 M x) := by
  have cl : S.1 13 12 = M.2 0 3 := g.hd (f := 12) (q := 3) (by unfold cm; simp) (by omega)
  rw [fX11_does_64, gi3, tn3]
  by_cases z : 9999 < M.2 0 3 + x
  · left
    rw [if_pos z, fX11_does_90, fX11_does_91]
    refine ⟨?_, rfl⟩
    rw [al0, fX2_allows_40, cl, if_pos z, fX2_allows_56, fX2_allows_57]
    rfl
  · right
    rw [if_neg z, fX11_does_78, ex]
    obtain ⟨S', o1, o2, o3⟩ := c_passH (S := S) (t := 13) (H := H) (by omega) g i
    obtain ⟨y, hy, ey⟩ := hoursW_8 H (M.2 0) i.1
    have pos : ¬ hoursW H (M.2 0) 8 - M.2 0 8 < 0 := by
      rw [ey, Int32.add_comm, Int32.add_sub_cancel]
      exact nI_nn (by omega)
    refine ⟨?_, hoursW H (M.2 0) 8 - M.2 0 8, S', hoursW H (M.2 0), ?_, ?_, i.hours, o2, fun q hq => o3 q (by omega), ?_⟩
    · rw [al0, fX2_allows_40, cl, ← ex, if_neg z, fX2_allows_52, fX2_allows_57]
      rfl
    · rw [ap0, fX2_apply_40, o1, Option.bind_some, fX2_apply_45]
    · rw [r_pass (by omega) i, Option.bind_some]
      dsimp only
      rw [fX11_does_83, if_neg pos, fX11_does_86, fX11_does_91]
    · unfold nS; rw [hoursW_only H _ i.1 1 (by unfold WN; omega)]
theorem d_dismiss {sk x : Int32} (g : GR S 13 (M.2 0)) (i : In (M.2 0)) : Do S M 5 sk x (fX11_does_186 M) := by
  have e8 : S.1 13 8 = M.2 0 5 := g.hd (f := 8) (q := 5) (by unfold cm; simp) (by omega)
  rw [fX11_does_186, gi5, tn5]
  by_cases z : M.2 0 5 = -1
  · left
    rw [if_pos z, fX11_does_209, fX11_does_210]
    refine ⟨?_, rfl⟩
    rw [al5, fX2_allows_131, e8, if_pos z, fX2_allows_143, fX2_allows_144]
    rfl
  · right
    rw [if_neg z, fX11_does_196]
    rcases i.1.2.1.1 with h5 | ⟨c, hc, h5⟩
    · exact absurd h5 z
    have w1 : In (upd (M.2 0) 5 (-1)) := i.up (by omega) (by omega) (by omega) (by omega) (fun _ => rfl) (fun y => by omega) (fun j hj => by omega) (fun j hj hq => by omega) (fun j hj hq => by omega) (fun j hj hq => by omega)
    have hcm : cm (nC (M.2 0)) (nS (M.2 0)) (nH (M.2 0)) 0 8 = 5 := by unfold cm; simp
    refine ⟨?_, M.2 0 5, (va_up S.1 13 (upd (S.1 13) 8 (-1)), S.2), upd (M.2 0) 5 (-1), ?_, ?_, w1, g.setH i hcm (by omega) (by omega), va_out (q := 13) (p := 13) (by omega), ?_⟩
    · rw [al5, fX2_allows_131, e8, if_neg z, fX2_allows_139, fX2_allows_144]
      rfl
    · rw [ap5, fX2_apply_152, e8, fX2_apply_163]
    · unfold fX11_sets fX11_sets_0
      rw [gi5, gi5, tn5, fX11_sets_14, Option.bind_some]
      dsimp only
      rw [fX11_does_202, if_neg (by rw [h5]; exact nI_nn (by have := i.sz.1; omega)), fX11_does_205, fX11_does_210]
      rfl
    · unfold nS; rw [pk_un (by omega)]
theorem d_milk {m : Nat} {sk x : Int32} (g : GR S 13 (M.2 0)) (i : In (M.2 0)) (ex : x = nI m) (hm : m ≤ 9) : Do S M 6 sk x (fX11_does_211 M x) := by
  have e11 : S.1 13 11 = M.2 0 4 := g.hd (f := 11) (q := 4) (by unfold cm; simp) (by omega)
  right
  rw [fX11_does_211]
  obtain ⟨o, ho, eo⟩ := i.2.2
  have w1 : In (upd (M.2 0) 4 x) := i.up (by omega) (by omega) (by omega) (by omega) (fun y => by omega) (fun _ => ⟨m, hm, ex⟩) (fun j hj => by omega) (fun j hj hq => by omega) (fun j hj hq => by omega) (fun j hj hq => by omega)
  have hcm : cm (nC (M.2 0)) (nS (M.2 0)) (nH (M.2 0)) 0 11 = 4 := by unfold cm; simp
  refine ⟨?_, M.2 0 4, (va_up S.1 13 (upd (S.1 13) 11 x), S.2), upd (M.2 0) 4 x, ?_, ?_, w1, g.setH i hcm (by omega) (by omega), va_out (q := 13) (p := 13) (by omega), ?_⟩
  · rw [al6, fX2_allows_145]
    rfl
  · rw [ap6, fX2_apply_166, e11, fX2_apply_177]
  · unfold fX11_sets fX11_sets_0
    rw [gi4, gi4, tn4, fX11_sets_14, Option.bind_some]
    dsimp only
    rw [fX11_does_217, if_neg (by rw [eo]; exact nI_nn (by omega)), fX11_does_220, fX11_does_225]
    rfl
  · unfold nS; rw [pk_un (by omega)]
end DOES
