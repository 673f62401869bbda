/-! the setup's parsing, both sides -/
section PARSE
variable {S : CS} {M : MS} {n p s t nc ns nh : Nat} {w w' : Wd}
theorem GR.cong (hc : nC w ≤ 8) (hs : nS w ≤ 6) (h : ∀ q, q < 257 → w' q = w q) (g : GR S t w) : GR S t w' := by
  have e0 : nC w' = nC w := by unfold nC; rw [h 0 (by omega)]
  have e1 : nS w' = nS w := by unfold nS; rw [h 1 (by omega)]
  have e2 : nH w' = nH w := by unfold nH; rw [h 2 (by omega)]
  refine GR.mk (fun o f q ho h4 hq hn => ?_) (g.ev.congw fun q h1 h2 => h q (by omega)) (fun i hi => ?_) (fun i hi => ?_)
  · rw [e0, e1, e2] at hq
    have : q < 257 := by
      unfold cm at hq
      repeat' split at hq
      all_goals omega
    rw [h q this]
    exact g.cls o f q ho h4 hq hn
  · rw [e0] at hi
    exact (g.2.1 i hi).cong (fun j hj => h _ (by omega))
  · rw [e1] at hi
    exact (g.2.2 i hi).cong (fun j hj => h _ (by omega))
def bgW (w : Wd) : Wd := upd (upd (upd (fun q => if q < 257 then 0 else w q) 3 6) 4 3) 5 (-1)
theorem r_begins : fX11_begins M = some (mw M (bgW (M.2 0))) := by
  have lp : ∀ r i k, 257 = i + r → r < k → fX11_begins_2 k (mw M (fun q => if q < i then 0 else M.2 0 q)) (nI i) = some (mw M (bgW (M.2 0))) := by
    intro r
    induction r with
    | zero =>
      intro i k hi hk
      obtain ⟨k, rfl⟩ : ∃ g, k = g + 1 := ⟨k - 1, by omega⟩
      rw [fX11_begins_2]
      dsimp only
      rw [if_pos (show (257 : Int32) ≤ nI i from nI_le (a := 257) (by omega) (by omega)), show i = 257 by omega, fX11_begins_22, gi3, tn3, mw_w, mw_up, fX11_begins_30, gi4, tn4, mw_w, mw_up, fX11_begins_37, gi5, tn5, mw_w, mw_up, fX11_begins_44]
      rfl
    | succ r ih =>
      intro i k hi hk
      obtain ⟨k, rfl⟩ : ∃ g, k = g + 1 := ⟨k - 1, by omega⟩
      have e : upd (fun q => if q < i then (0 : Int32) else M.2 0 q) i 0 = fun q => if q < i + 1 then 0 else M.2 0 q := funext fun q => by
        unfold upd
        dsimp only
        by_cases h : q = i
        · rw [if_pos h, if_pos (show q < i + 1 by omega)]
        · rw [if_neg h]
          by_cases h2 : q < i
          · rw [if_pos h2, if_pos (show q < i + 1 by omega)]
          · rw [if_neg h2, if_neg (show ¬ q < i + 1 by omega)]
      rw [fX11_begins_2]
      dsimp only
      rw [if_neg (show ¬ (257 : Int32) ≤ nI i from nI_ge (b := 257) (by omega) (by omega)), fX11_begins_9, gi_m (show i < 257 by omega) (by omega), nI_c (by omega), mw_w, mw_up, e, fX11_begins_16, nI_1, ih (i + 1) k (by omega) (by omega)]
  unfold fX11_begins fX11_begins_0
  have := lp 257 0 FU (by omega) (by rw [FU_eq]; omega)
  rw [nI_0, show (fun q => if q < 0 then (0 : Int32) else M.2 0 q) = M.2 0 from funext fun q => if_neg (by omega), mw_self] at this
  exact this
theorem bgW_0 {q : Nat} (h : q < 257) (h3 : q ≠ 3) (h4 : q ≠ 4) (h5 : q ≠ 5) : bgW w q = 0 := by
  unfold bgW
  rw [pk_un h5, pk_un h4, pk_un h3, if_pos h]
theorem SU.begin : SU 0 0 0 (bgW w) := by
  refine ⟨⟨bgW_0 (by omega) (by omega) (by omega) (by omega), by omega⟩, ⟨bgW_0 (by omega) (by omega) (by omega) (by omega), by omega⟩, ⟨bgW_0 (by omega) (by omega) (by omega) (by omega), by omega⟩, ⟨?_, bgW_0 (by omega) (by omega) (by omega) (by omega), fun q h1 h2 => bgW_0 (by omega) (by omega) (by omega) (by omega)⟩, fun k hk j h1 h2 => bgW_0 (by omega) (by omega) (by omega) (by omega), fun k hk => bgW_0 (by omega) (by omega) (by omega) (by omega), ⟨3, by omega, ?_⟩, ⟨6, by omega, ?_⟩, fun j hj => absurd hj (by omega), fun i hi => absurd hi (by omega), fun k hk => absurd hk (by omega), fun k hk => absurd hk (by omega)⟩
  · unfold bgW; rw [pk_us]
  · unfold bgW; rw [pk_un (by omega), pk_us]; rfl
  · unfold bgW; rw [pk_un (by omega), pk_un (by omega), pk_us]; rfl
theorem c_clear : ∃ S', fX2_clear S t = some S' ∧ GR S' t (bgW w) ∧ ∀ q, q < t ∨ t + 35 ≤ q → S'.1 q = S.1 q ∧ S'.2 q = S.2 q := by
  obtain ⟨F, hF⟩ : ∃ F : Nat → Int32, F = upd (upd (upd (upd (upd (upd (upd (upd (S.1 t) 5 0) 6 0) 7 0) 8 (-1)) 9 0) 10 0) 11 3) 12 6 := ⟨_, rfl⟩
  obtain ⟨G, hG⟩ : ∃ G : Nat → Int32, G = upd (upd (S.1 (t + 4)) 3 0) 4 0 := ⟨_, rfl⟩
  obtain ⟨H, hH⟩ : ∃ H : Nat → Int32, H = upd (upd (upd (upd (upd (upd (upd (upd (S.1 (t + 8)) 0 0) 1 0) 2 0) 3 0) 4 0) 5 0) 6 0) 7 0 := ⟨_, rfl⟩
  have e : fX2_clear S t = some (va_up (va_up (va_up S.1 t F) (t + 4) G) (t + 8) H, S.2) := by
    unfold fX2_clear fX2_clear_0 fX2_clear_5 fX2_clear_10 fX2_clear_15 fX2_clear_20 fX2_clear_25 fX2_clear_30 fX2_clear_35 fX2_clear_41 fX1_clear fX1_clear_0 fX1_clear_5 fX1_clear_10
    dsimp only
    simp only [vat, up_up]
    rw [vne (show t + 4 ≠ t by omega), ← hF, ← hG, Option.bind_some]
    unfold fX2_clear_48 fX9_clear fX9_clear_0 fX9_clear_5 fX9_clear_10 fX9_clear_15 fX9_clear_20 fX9_clear_25 fX9_clear_30 fX9_clear_35 fX9_clear_40
    dsimp only
    simp only [vat, up_up]
    rw [vne (show t + 8 ≠ t + 4 by omega), vne (show t + 8 ≠ t by omega), ← hH]
    rfl
  have z0 : nC (bgW w) = 0 := SU.begin.nC
  have z1 : nS (bgW w) = 0 := SU.begin.nS
  have z2 : nH (bgW w) = 0 := SU.begin.nH
  refine ⟨_, e, GR.mk (fun o f q ho h4 hq hn => ?_) ⟨0, 0, by omega, by omega, ?_, ?_, bgW_0 (by omega) (by omega) (by omega) (by omega), fun k hk => absurd hk (by omega)⟩ (fun i hi => absurd hi (by omega)) (fun i hi => absurd hi (by omega)), fun q hq => ⟨?_, rfl⟩⟩
  · rw [z0, z1, z2] at hq
    dsimp only
    by_cases o0 : o = 0
    · subst o0
      rw [Nat.add_zero t, vne (by omega), vne (by omega), vat, hF]
      have hf : f = 5 ∨ f = 6 ∨ f = 7 ∨ f = 8 ∨ f = 9 ∨ f = 10 ∨ f = 11 ∨ f = 12 := by
        unfold cm at hq
        rw [if_pos rfl] at hq
        repeat' split at hq
        all_goals omega
      rcases hf with h | h | h | h | h | h | h | h <;> (subst h; simp [cm] at hq; subst hq; unfold bgW; simp (disch := omega) only [pk_un, pk_us]; try (first | rfl | (rw [if_pos (by omega)])))
    · by_cases o8 : o = 8
      · subst o8
        rw [vat, hH]
        unfold cm at hq
        rw [if_neg (by omega), if_pos rfl] at hq
        by_cases h8 : f < 8
        · rw [if_pos h8] at hq
          rw [← hq, bgW_0 (by omega) (by omega) (by omega) (by omega)]
          rcases (show f = 0 ∨ f = 1 ∨ f = 2 ∨ f = 3 ∨ f = 4 ∨ f = 5 ∨ f = 6 ∨ f = 7 by omega) with h | h | h | h | h | h | h | h <;> (subst h; simp (disch := omega) only [pk_un, pk_us])
        · rw [if_neg h8] at hq; omega
      · unfold cm at hq
        rw [if_neg o0, if_neg o8] at hq
        repeat' split at hq
        all_goals omega
  · dsimp only
    rw [Nat.add_zero 4, vne (by omega), vat, hG, pk_us, nI_0]
  · dsimp only
    rw [Nat.add_zero 4, vne (by omega), vat, hG, pk_un (by omega), pk_us, nI_0]
  · dsimp only
    rw [vne (by omega), vne (by omega), vne (by omega)]
end PARSE
