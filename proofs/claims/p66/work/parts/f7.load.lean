/-! the setup that the law writes, loaded -/
section FLOAD
variable {b : Nat → Int32} {n p : Nat} {S : CS} {M M' M0 : MS} {nc ns nh ml hk : Nat} {sp gr mi cc hr : Nat → Nat} {lf op : Nat → Int32}
def milkT (d : Nat) : List Int32 := [109, 105, 108, 107, 32] ++ (dgL d ++ [59])
def hourT (d : Nat) : List Int32 := [104, 111, 117, 114, 32] ++ (dgL d ++ [59])
def setT (nc ns nh ml hk : Nat) (sp gr mi cc hr : Nat → Nat) (lf op : Nat → Int32) : List Int32 := accT (catT sp lf) nc ++ (accT (sackT gr mi op) ns ++ (accT (shiftT cc hr) nh ++ (milkT ml ++ hourT hk)))
/-- what the law draws -/
def DR (nc ns nh ml hk : Nat) (sp gr mi cc hr : Nat → Nat) (lf op : Nat → Int32) : Prop := (1 ≤ nc ∧ nc ≤ 4) ∧ (1 ≤ ns ∧ ns ≤ 4) ∧ (1 ≤ nh ∧ nh ≤ 8) ∧ ml ≤ 7 ∧ hk ≤ 15 ∧ (∀ k, k < nc → 1 ≤ sp k ∧ sp k ≤ 8) ∧ (∀ k, k < nc → lf k = 0 ∨ lf k = 1) ∧ (∀ k, k < ns → gr k ≤ 127 ∧ mi k ≤ 63 ∧ (op k = 0 ∨ op k = 1)) ∧ ∀ k, k < nh → cc k < nc ∧ 1 ≤ hr k ∧ hr k ≤ 4
/-- the granary behind the text -/
def WF (nc ns nh ml hk : Nat) (sp gr mi cc hr : Nat → Nat) (lf op : Nat → Int32) (w : Wd) : Prop := (w 0 = nI nc ∧ w 1 = nI ns ∧ w 2 = nI nh ∧ w 3 = nI hk ∧ w 4 = nI ml ∧ w 5 = -1) ∧ (∀ q, 6 ≤ q → q < 65 → w q = 0) ∧ (∀ i, i < nc → w (65 + 12 * i + 7) = nI (sp i) ∧ w (65 + 12 * i + 8) = lf i ∧ w (65 + 12 * i + 9) = 0 ∧ w (65 + 12 * i + 10) = 0 ∧ w (65 + 12 * i + 11) = 0) ∧ (∀ i, i < ns → w (161 + 12 * i + 7) = nI (gr i) ∧ w (161 + 12 * i + 8) = nI (mi i) ∧ w (161 + 12 * i + 9) = op i ∧ w (161 + 12 * i + 10) = 0) ∧ ∀ i, i < nh → w (233 + 2 * i) = nI (cc i) ∧ w (233 + 2 * i + 1) = nI (hr i)
theorem f_text {w0 : Wd} (d : DR nc ns nh ml hk sp gr mi cc hr lf op) (t : TX b n) (hn : n = (setT nc ns nh ml hk sp gr mi cc hr lf op).length) (hS : Sg b 0 (setT nc ns nh ml hk sp gr mi cc hr lf op)) (h0 : TK M0 b n 0) (hw : M0.2 0 = bgW w0) : ∃ M, fX11_readText_4 FU M0 = some (1, M) ∧ WF nc ns nh ml hk sp gr mi cc hr lf op (M.2 0) := by
  obtain ⟨hc, hs, hh, hml, hhk, dsp, dlf, dsk, dsh⟩ := d
  obtain ⟨t1, hS⟩ := Sg.app.mp hS
  obtain ⟨t2, hS⟩ := Sg.app.mp hS
  obtain ⟨t3, hS⟩ := Sg.app.mp hS
  obtain ⟨t4, t5⟩ := Sg.app.mp hS
  have hn : n = (accT (catT sp lf) nc).length + ((accT (sackT gr mi op) ns).length + ((accT (shiftT cc hr) nh).length + ((milkT ml).length + (hourT hk).length))) := by
    rw [hn]; unfold setT
    rw [List.length_append, List.length_append, List.length_append, List.length_append]
  have lm := dgL_len (v := ml)
  have lh := dgL_len (v := hk)
  have em : (milkT ml).length = 6 + (dgL ml).length := by
    unfold milkT; rw [List.length_append, List.length_append, show ([109, 105, 108, 107, 32] : List Int32).length = 5 from rfl, show ([59] : List Int32).length = 1 from rfl]; omega
  have eh : (hourT hk).length = 6 + (dgL hk).length := by
    unfold hourT; rw [List.length_append, List.length_append, show ([104, 111, 117, 114, 32] : List Int32).length = 5 from rfl, show ([59] : List Int32).length = 1 from rfl]; omega
  rw [em, eh] at hn
  have f2 := accT_at (show 0 < ns by omega) t2
  have f3 := accT_at (show 0 < nh by omega) t3
  rw [show (accT (sackT gr mi op) 0).length = 0 from rfl, Nat.add_zero] at f2
  rw [show (accT (shiftT cc hr) 0).length = 0 from rfl, Nat.add_zero] at f3
  rw [em] at t5
  rw [Nat.zero_add] at t2 t3 t4 t5 f2 f3
  have l2 := accT_le (F := sackT gr mi op) (show 1 ≤ ns by omega)
  have l3 := accT_le (F := shiftT cc hr) (show 1 ≤ nh by omega)
  generalize eA : (accT (catT sp lf) nc).length = A at t2 t3 t4 t5 f2 f3 hn
  generalize eB : (accT (sackT gr mi op) ns).length = B at t3 t4 t5 f3 hn
  generalize eC : (accT (shiftT cc hr) nh).length = C at t4 t5 hn
  obtain ⟨m1, m2⟩ := Sg.app.mp t4
  obtain ⟨m2, m3⟩ := Sg.app.mp m2
  obtain ⟨h1, h2⟩ := Sg.app.mp t5
  obtain ⟨h2, h3⟩ := Sg.app.mp h2
  have k2 : kdB (b A) = 1 := by
    have := f2 0 (by unfold sackT; rw [List.length_append]; exact Nat.lt_of_lt_of_le (show 0 < 7 by omega) (Nat.le_add_right _ _))
    rw [Nat.add_zero] at this
    rw [this]; rfl
  have k3 : kdB (b (A + B)) = 1 := by
    have := f3 0 (by unfold shiftT; rw [List.length_append]; exact Nat.lt_of_lt_of_le (show 0 < 8 by omega) (Nat.le_add_right _ _))
    rw [Nat.add_zero] at this
    rw [this]; rfl
  have k4 : kdB (b (A + B + C)) = 1 := by
    have := m1 0 (by show 0 < 5; omega)
    rw [Nat.add_zero] at this
    rw [this]; rfl
  have k5 : kdB (b (A + B + C + (6 + (dgL ml).length))) = 1 := by
    have := h1 0 (by show 0 < 5; omega)
    rw [Nat.add_zero] at this
    rw [this]; rfl
  have w00 : ∀ q, q < 257 → q ≠ 3 → q ≠ 4 → q ≠ 5 → M0.2 0 q = 0 := fun q a1 a2 a3 a4 => by rw [hw]; exact bgW_0 a1 a2 a3 a4
  have w05 : M0.2 0 5 = -1 := by rw [hw]; unfold bgW; exact pk_us
  obtain ⟨M1, a1, a2, a3, a4, a5, a6, -, -⟩ := p_cats (M0 := M0) t t1 (by omega) (fun k hk => ⟨(dsp k hk).1, by have := (dsp k hk).2; omega⟩) dlf (by rw [eA]; omega) (by rw [eA]; exact k2) h0 (w00 0 (by omega) (by omega) (by omega) (by omega)) nc (Nat.le_refl _)
  rw [eA] at a2
  obtain ⟨M2, b1, b2, b3, b4, b5, b6, -, -⟩ := p_sacks (B := A) (M0 := M1) t t2 (by omega) (fun k hk => by have := (dsk k hk).1; omega) (fun k hk => by have := (dsk k hk).2.1; omega) (fun k hk => (dsk k hk).2.2) (by rw [eB]; omega) (by rw [eB]; exact k3) a2 ((a6 1 (by omega) (by omega)).trans (w00 1 (by omega) (by omega) (by omega) (by omega))) ns (Nat.le_refl _)
  rw [eB] at b2
  have z0 : M2.2 0 0 = nI nc := (b6 0 (by omega) (by omega)).trans a3
  have znm : NM 65 nc (M2.2 0) := fun i hi => (a4 i hi).cong (fun j hj => b6 _ (by omega) (by omega))
  obtain ⟨M3, c1, c2, c3, c5, c6, -, -⟩ := p_shifts (B := A + B) (M0 := M2) t t3 (by omega) (show nc ≤ 8 by omega) (fun k hk => (dsh k hk).1) (fun k hk => ⟨(dsh k hk).2.1, by have := (dsh k hk).2.2; omega⟩) (by rw [eC]; omega) (by rw [eC]; exact k4) b2 z0 znm (((b6 2 (by omega) (by omega)).trans (a6 2 (by omega) (by omega))).trans (w00 2 (by omega) (by omega) (by omega) (by omega))) nh (Nat.le_refl _)
  rw [eC] at c2
  have m3' : b (A + B + C + 5 + (dgL ml).length) = 59 := m3 0 (by show 0 < 1; omega)
  have h3' : b (A + B + C + (6 + (dgL ml).length) + 5 + (dgL hk).length) = 59 := h3 0 (by show 0 < 1; omega)
  obtain ⟨M4, d1, d2, d3, -, -⟩ := f_milk (p := A + B + C) (d := ml) t c2 m1 (by omega) m2 m3' rfl (by omega) (fun _ => k5)
  obtain ⟨M5, e1, e2, e3, -, -⟩ := f_hour (p := A + B + C + (6 + (dgL ml).length)) (d := hk) t d2 h1 (by omega) h2 h3' rfl (by omega) (fun z => absurd z (by omega))
  have ew : ∀ q, q ≠ 3 → q ≠ 4 → M5.2 0 q = M3.2 0 q := fun q q3 q4 => by rw [e3, pk_un q3, d3, pk_un q4]
  have y0 : M5.2 0 0 = nI nc := ((ew 0 (by omega) (by omega)).trans (c6 0 (by omega) (by omega))).trans z0
  have y1 : M5.2 0 1 = nI ns := ((ew 1 (by omega) (by omega)).trans (c6 1 (by omega) (by omega))).trans b3
  have y2 : M5.2 0 2 = nI nh := (ew 2 (by omega) (by omega)).trans c3
  have eN : A + B + C + (6 + (dgL ml).length) + (6 + (dgL hk).length) = n := by omega
  rw [eN] at e2
  have y17 : M5.1 17 = 0 := by
    rw [e2.2.1.2.2.2.2, tk_end.2, if_neg (by decide)]
    rfl
  refine ⟨M5, ?_, ⟨y0, y1, y2, by rw [e3, pk_us], by rw [e3, pk_un (by omega), d3, pk_us], (((ew 5 (by omega) (by omega)).trans (c6 5 (by omega) (by omega))).trans ((b6 5 (by omega) (by omega)).trans (a6 5 (by omega) (by omega)))).trans w05⟩, fun q q6 q65 => (((ew q (by omega) (by omega)).trans (c6 q (by omega) (by omega))).trans ((b6 q (by omega) (by omega)).trans (a6 q (by omega) (by omega)))).trans (w00 q (by omega) (by omega) (by omega) (by omega)), fun i hi => ?_, fun i hi => ?_, fun i hi => ?_⟩
  · obtain ⟨f, ef⟩ : ∃ f, FU = f + 1 + 1 + 1 + nh + ns + nc := ⟨FU - (3 + nh + ns + nc), by rw [FU_eq]; omega⟩
    rw [ef, a1, b1, c1, rd_step c2 (by omega) d1, rd_step d2 (by omega) e1]
    show (if M5.1 17 = 0 then fX11_readText_20 M5 else fX11_readText_11 (fX11_readText_4 f) M5) = _
    rw [if_pos y17, fX11_readText_20, gi0, tn0, y0, if_neg (nI_nle (by omega) (by omega)), fX11_readText_29, gi1, tn1, y1, if_neg (nI_nle (by omega) (by omega)), fX11_readText_38, gi2, tn2, y2, if_pos (show (0 : Int32) < nI nh from nI_lt (a := 0) (by omega) (by omega)), fX11_readText_56, fX11_readText_61]
  · have hk9 : ∀ f, 9 ≤ f → f < 12 → M5.2 0 (65 + 12 * i + f) = 0 := fun f f9 f12 => (((ew _ (by omega) (by omega)).trans (c6 _ (by omega) (by omega))).trans ((b6 _ (by omega) (by omega)).trans (a6 _ (by omega) (by omega)))).trans (w00 _ (by omega) (by omega) (by omega) (by omega))
    refine ⟨?_, ?_, hk9 9 (by omega) (by omega), hk9 10 (by omega) (by omega), hk9 11 (by omega) (by omega)⟩
    · exact ((ew _ (by omega) (by omega)).trans (c6 _ (by omega) (by omega))).trans ((b6 _ (by omega) (by omega)).trans (a5 i hi).1)
    · exact ((ew _ (by omega) (by omega)).trans (c6 _ (by omega) (by omega))).trans ((b6 _ (by omega) (by omega)).trans (a5 i hi).2)
  · refine ⟨?_, ?_, ?_, (((ew _ (by omega) (by omega)).trans (c6 _ (by omega) (by omega))).trans ((b6 _ (by omega) (by omega)).trans (a6 _ (by omega) (by omega)))).trans (w00 _ (by omega) (by omega) (by omega) (by omega))⟩
    · exact ((ew _ (by omega) (by omega)).trans (c6 _ (by omega) (by omega))).trans (b5 i hi).1
    · exact ((ew _ (by omega) (by omega)).trans (c6 _ (by omega) (by omega))).trans (b5 i hi).2.1
    · exact ((ew _ (by omega) (by omega)).trans (c6 _ (by omega) (by omega))).trans (b5 i hi).2.2
  · exact ⟨(ew _ (by omega) (by omega)).trans (c5 i hi).1, (ew _ (by omega) (by omega)).trans (c5 i hi).2⟩
/-- both sides load it -/
theorem f_load (d : DR nc ns nh ml hk sp gr mi cc hr lf op) (r : Rel S M) (h9 : M.1 9 = nI (setT nc ns nh ml hk sp gr mi cc hr lf op).length) (hl : (setT nc ns nh ml hk sp gr mi cc hr lf op).length ≤ 600) (hS : Sg (M.2 8) 0 (setT nc ns nh ml hk sp gr mi cc hr lf op)) : ∃ S' M' w, fX10_loadGranary S = some (nI nc, S') ∧ Rel S' M' ∧ M'.2 0 = startW ns w ∧ WF nc ns nh ml hk sp gr mi cc hr lf op w := by
  obtain ⟨S', M', a, s1, s2, s3, -⟩ := s_load r
  obtain ⟨-, ⟨n, t1, t2, t3, -, -⟩, -⟩ := r
  obtain ⟨N, eN⟩ : ∃ N, N = (setT nc ns nh ml hk sp gr mi cc hr lf op).length := ⟨_, rfl⟩
  rw [← eN] at h9 hl
  have en : n = N := (nI_eq (by have := t3.1; omega) (by omega)).mp (t2.symm.trans h9)
  subst en
  obtain ⟨M2, e2⟩ : ∃ M2 : MS, M2 = (va_up M.1 7 0, va_up M.2 1 (cpW (M.2 0) 0 (M.2 1) 0 257)) := ⟨_, rfl⟩
  have m8 : M2.2 8 = M.2 8 := by rw [e2]; dsimp only; rw [vne (by decide)]
  have m9 : M2.1 9 = M.1 9 := by rw [e2]; dsimp only; rw [vne (by decide)]
  obtain ⟨y, r1, ps, -, -⟩ := r_startsText (M := M2) (x := S.1 1) (c := S.1 2) (n := n) (by rw [m8]; exact t3) (by rw [m9]; exact t2) t1
  obtain ⟨M3, e3⟩ : ∃ M3, M3 = mw (rx M2 y) (bgW ((rx M2 y).2 0)) := ⟨_, rfl⟩
  have b3 : fX11_begins (rx M2 y) = some M3 := by rw [e3]; exact r_begins
  obtain ⟨-, -, ar, ez⟩ := ps
  have tx : TX (M.2 8) n := ⟨t3.1, fun j hj => (t3.2 j hj).2.2⟩
  have f0 : (M.2 8) 0 = 99 := by
    have h1 : Sg (M.2 8) 0 (accT (catT sp lf) nc) := (Sg.app.mp hS).1
    have h2 := accT_at (show 0 < nc by have := d.1.1; omega) h1
    have := h2 0 (by unfold catT; rw [List.length_append]; exact Nat.lt_of_lt_of_le (show 0 < 6 by omega) (Nat.le_add_right _ _))
    exact this
  have hs0 : skp (KM (M.2 8)) n 0 = 0 := skp_0 (fun _ => by rw [f0]; decide) (Nat.zero_le _)
  rw [m8, hs0] at ar
  have k3 : TK M3 (M.2 8) n 0 := by
    have k2 : TK (rx M2 y) (M.2 8) n 0 := ⟨m8, ar, ez.2.2.1, ez.2.2.2, Nat.zero_le _⟩
    rw [e3]; exact k2.u0
  obtain ⟨M4, c4, wf⟩ := f_text d tx eN hS k3 (by rw [e3]; exact mw_w)
  obtain ⟨M5, e5⟩ : ∃ M5 : MS, M5 = (va_up (va_up (va_up M4.1 9 0) 10 (M4.1 12)) 11 (M4.1 13), M4.2) := ⟨_, rfl⟩
  have opR : fX11_loadGranary M = fX11_loadGranary_31 M5 1 := by
    have en : fX11_endsText M4 = some M5 := by
      unfold fX11_endsText fX11_endsText_0 fX11_endsText_5 fX11_endsText_13 fX11_endsText_21
      dsimp only
      rw [vne (show 12 ≠ 9 by omega), vne (show 13 ≠ 10 by omega), vne (show 13 ≠ 9 by omega), ← e5]
    unfold fX11_loadGranary fX11_loadGranary_0 fX11_loadGranary_5
    rw [r_copy (a := 0) (b := 1) (by omega) (by omega) (by omega), Option.bind_some]
    dsimp only
    rw [← e2, fX11_loadGranary_18, r1, Option.bind_some, fX11_loadGranary_22]
    unfold fX11_readText fX11_readText_0
    rw [b3, Option.bind_some, c4, bz_s (Or.inr rfl), Option.bind_some]
    dsimp only
    rw [fX11_loadGranary_26, en, Option.bind_some]
  have e50 : M5.2 0 = M4.2 0 := by rw [e5]
  have h1 := d.1
  have h2 := d.2.1
  have h3 := d.2.2.1
  have c0 := (wf.2.2.2.2 0 (by omega)).1
  have c0 : M4.2 0 233 = nI (cc 0) := c0
  have cl : cc 0 < 8 := by have := (d.2.2.2.2.2.2.2.2 0 (by omega)).1; omega
  have st := r_starts (M := M5) (w := M4.2 0) wf.1.2.1 (by omega) c0 cl
  rw [← e50, mw_self, e50] at st
  have w0 : startW ns (M4.2 0) 0 = nI nc := (startW_k cl c0 (by unfold WK; omega)).trans wf.1.1
  rw [opR, fX11_loadGranary_31, if_neg one0, fX11_loadGranary_50, st, Option.bind_some, fX11_loadGranary_54, fX11_loadGranary_59, fX11_loadGranary_64, gi0, tn0] at s2
  have e := Option.some.inj s2
  have ea : a = nI nc := (congrArg Prod.fst e).symm.trans (show (mw M5 (startW ns (M4.2 0))).2 0 0 = nI nc by rw [mw_w]; exact w0)
  have eM : M'.2 0 = startW ns (M4.2 0) := (congrArg (fun z : Int32 × MS => z.2.2 0) e).symm.trans (show (mw M5 (startW ns (M4.2 0))).2 0 = startW ns (M4.2 0) from mw_w)
  rw [ea] at s1
  exact ⟨S', M', M4.2 0, s1, s3, eM, wf⟩
end FLOAD
