/-! looking ahead, both sides -/
section PRED
variable {S S' : CS} {M M' : MS} {n t k : Nat} {w w' : Wd}
theorem In.only (i : In w) (ok : Ok w') (o : Only WN w w') : In w' := by
  refine ⟨ok, fun j hj => ?_, ?_⟩
  · have e0 : nC w' = nC w := by unfold nC; rw [o 0 (by unfold WN; omega)]
    rw [e0] at hj
    have := i.sz.1
    rw [o _ (by unfold WN; omega)]
    exact i.2.1 j hj
  · rw [o 4 (by unfold WN; omega)]; exact i.2.2
theorem In.hour (i : In w) : In (hourW w) := i.only (hourW_ok i.1) (hourW_only i.1.1 i.1.2.1)
theorem In.hours (i : In w) {H : Nat} : In (hoursW H w) := i.only (hoursW_ok H w i.1) (hoursW_only H w i.1)
theorem WN_K {q : Nat} (h : WK q) : ¬ WN q := by unfold WK at h; unfold WN; omega
theorem c_passH {H : Nat} (hH : H < 3000) (g : GR S t w) (i : In w) : ∃ S', fX2_passHours S t (nI H) = some (hoursW H w 8 - w 8, S') ∧ GR S' t (hoursW H w) ∧ ∀ q, q < t ∨ t + 35 ≤ q → S'.1 q = S.1 q ∧ S'.2 q = S.2 q := by
  obtain ⟨E, e, ev⟩ := g.cwE
  obtain ⟨E', h1, h2⟩ := c_hours (S := S) (t := t) hH i.1.1.sz i.1 ev
  rw [e] at h1
  exact ⟨_, h1, g.of i.sz.1 i.sz.2.1 (fun q hq => hoursW_only H w i.1 q (WN_K hq)) h2, fun q hq => ⟨cw_out hq, rfl⟩⟩
theorem c_passO (g : GR S t w) (i : In w) : ∃ S', fX2_passHour S t = some S' ∧ GR S' t (hourW w) ∧ ∀ q, q < t ∨ t + 35 ≤ q → S'.1 q = S.1 q ∧ S'.2 q = S.2 q := by
  obtain ⟨E, e, ev⟩ := g.cwE
  obtain ⟨E', h1, h2⟩ := c_hour (S := S) (t := t) i.1.1.sz i.1 ev
  rw [e] at h1
  exact ⟨_, h1, g.of i.sz.1 i.sz.2.1 (fun q hq => hourW_only i.1.1 i.1.2.1 q (WN_K hq)) h2, fun q hq => ⟨cw_out hq, rfl⟩⟩
theorem r_pass {H : Nat} (hH : H < 3000) (i : In (M.2 0)) : fX11_passes M (nI H) = some (hoursW H (M.2 0) 8 - M.2 0 8, mw M (hoursW H (M.2 0))) := by
  have := r_hours (M := M) hH i.1
  rw [mw_self] at this
  exact this
theorem r_hourP (i : In (M.2 0)) : fX11_hourPasses M = some (mw M (hourW (M.2 0))) := by
  have := r_hour (M := M) i.1.1 i.1.2.1
  rw [mw_self] at this
  exact this
/-- aside and back -/
def asd (M : MS) : MS := (M.1, va_up M.2 2 (cpW (M.2 0) 0 (M.2 2) 0 257))
def bck (M : MS) : MS := (M.1, va_up M.2 0 (cpW (M.2 2) 0 (M.2 0) 0 257))
theorem r_aside : fX11_goesAside M = some (asd M) := by
  unfold fX11_goesAside fX11_goesAside_0
  rw [r_copy (a := 0) (b := 2) (by omega) (by omega) (by omega), Option.bind_some, fX11_goesAside_13]
  rfl
theorem r_back {a : Int32} : fX11_goesBack M a = some (a, bck M) := by
  unfold fX11_goesBack fX11_goesBack_0
  rw [r_copy (a := 2) (b := 0) (by omega) (by omega) (by omega), Option.bind_some, fX11_goesBack_13]
  rfl
theorem asd_0 : (asd M).2 0 = M.2 0 := by unfold asd; dsimp only; rw [vne (by omega)]
theorem Rel.same (r : Rel S M) (hS : ∀ q, q < 83 ∨ 118 ≤ q → S'.1 q = S.1 q ∧ S'.2 q = S.2 q) (h1 : ∀ j, j ≠ 7 → M'.1 j = M.1 j) (h0 : ∀ q, q < 257 → M'.2 0 q = M.2 0 q) (h2 : ∀ j, j ≠ 0 → j ≠ 2 → M'.2 j = M.2 j) : Rel S' M' := by
  obtain ⟨⟨a, b⟩, ⟨n, b1, b2, b3, b4, b5⟩, c, d, e⟩ := r
  refine ⟨⟨(a.fr b (fun q h1 h2 => hS q (by omega))).cg b h0, b.cong h0⟩, ⟨n, ?_, ?_, ?_, ?_, ?_⟩, c.fr ?_ ?_ ?_ ?_, d.fr ?_ ?_ ?_ ?_, e.fr ?_ ?_ ?_ ?_⟩
  · rw [(hS 1 (by omega)).1]; exact b1
  · rw [h1 9 (by omega)]; exact b2
  · rw [(hS 2 (by omega)).1, h2 8 (by omega) (by omega)]; exact b3
  · rw [(hS 1 (by omega)).1, h1 10 (by omega)]; exact b4
  · rw [(hS 1 (by omega)).1, h1 11 (by omega)]; exact b5
  · exact (hS 0 (by omega)).1
  · exact fun q h => hS q (by omega)
  · exact h1 5 (by omega)
  · exact h2 4 (by omega) (by omega)
  · rw [(hS 0 (by omega)).1]
  · exact fun q h h2 => hS q (by omega)
  · exact h1 6 (by omega)
  · exact h2 3 (by omega) (by omega)
  · exact (hS 5 (by omega)).1
  · exact (hS 6 (by omega)).1
  · exact h1 24 (by omega)
  · exact h2 23 (by omega) (by omega)
/-- what was aside is back: nothing shows -/
theorem Rel.ahead {v : Wd} (r : Rel S M) (hS : ∀ q, q < 83 ∨ 118 ≤ q → S'.1 q = S.1 q ∧ S'.2 q = S.2 q) : Rel S' (bck (mw (asd (th M 0)) v)) ∧ (bck (mw (asd (th M 0)) v)).1 7 = 0 := by
  have e2 : (mw (asd (th M 0)) v).2 2 = cpW (M.2 0) 0 (M.2 2) 0 257 := by
    rw [mw_n (by decide)]
    unfold asd
    dsimp only
    rw [vat, th_2]
  refine ⟨r.same hS (fun j hj => ?_) (fun q hq => ?_) (fun j j0 j2 => ?_), show (th M 0).1 7 = 0 from th_7⟩
  · exact show (th M 0).1 j = M.1 j from th_o hj
  · unfold bck
    dsimp only
    rw [vat, cpW_in hq, e2, cpW_in hq]
  · unfold bck
    dsimp only
    rw [vne j0, mw_n j0]
    unfold asd
    dsimp only
    rw [vne j2, th_2]
theorem s_rng {lo hi a : Int32} : (rgQ a lo hi ∧ fX11_inRange M a lo hi = some 1 ∧ fX10_requireRange S a lo hi = some S ∧ tX10_requireRange S a lo hi = none) ∨ (¬ rgQ a lo hi ∧ fX11_inRange M a lo hi = some 0 ∧ tX10_requireRange S a lo hi = some ("java/lang/IllegalArgumentException", S)) := by
  unfold fX10_requireRange fX10_requireRange_0 tX10_requireRange tX10_requireRange_0 fX10_requireRange_5 tX10_requireRange_5
  rw [r_inRange]
  by_cases h : a < lo
  · right
    rw [if_pos h, if_pos h]
    exact ⟨fun z => z.1 h, rfl, rfl⟩
  · by_cases q : hi < a
    · right
      rw [if_neg h, if_pos q, if_neg h, if_neg (fun z => (lt_le.mpr z) q)]
      exact ⟨fun z => (lt_le.mpr z.2) q, rfl, rfl⟩
    · left
      rw [if_neg h, if_neg q, if_neg h, if_pos (lt_le.mp q), if_neg h, if_pos (lt_le.mp q)]
      exact ⟨⟨h, lt_le.mp q⟩, rfl, rfl, rfl⟩
theorem s_hoursOk {c a : Int32} : (∃ H, H ≤ 200 ∧ a = nI H ∧ fX11_noHours (th M 0) a c = some (0, th M 0) ∧ fX10_requireRange S a 0 200 = some S ∧ tX10_requireRange S a 0 200 = none) ∨ (fX11_noHours (th M 0) a c = some (1, th M c) ∧ tX10_requireRange S a 0 200 = some ("java/lang/IllegalArgumentException", S)) := by
  unfold fX11_noHours fX11_noHours_0
  rcases s_rng (S := S) (M := th M 0) (lo := 0) (hi := 200) (a := a) with ⟨h1, h2, h3, h4⟩ | ⟨h1, h2, h3⟩
  · left
    obtain ⟨H, -, hH, e⟩ := rg_nat (a := 0) (b := 200) (by omega) (by omega) h1
    refine ⟨H, hH, e, ?_, h3, h4⟩
    rw [h2, Option.bind_some, fX11_noHours_9, if_neg one0, fX11_noHours_16, fX11_noHours_17, r_fails0, Option.bind_some, fX11_noHours_21]
    exact bz_s (Or.inl rfl)
  · right
    refine ⟨?_, h3⟩
    rw [h2, Option.bind_some, fX11_noHours_9, if_pos rfl, fX11_noHours_12, fX11_noHours_17, r_fails1, Option.bind_some, fX11_noHours_21, th_th]
    exact bz_s (Or.inr rfl)
end PRED
