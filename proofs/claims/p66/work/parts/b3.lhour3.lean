/-! the law's hour whole; hours; the plain hour keeps what the law keeps -/
section LHOUR3
variable {C : LC} {w v : Wd} {h : Nat → Int32} {n k m g : Nat}
def hourU (w : Wd) : Wd := hourR (huntsV (hourB (hourE w))) (huntsW (hourB (hourE w))).1
def hourV (w : Wd) : Wd := hourDV (shiftV (hourU w))
theorem l_hp47 (hn : lNum C 3 = n) (hn4 : n ≤ 4) (h1 : v 1 = nI n) : fZ12_hour_47 C (v, h) = fZ12_hour_142 C (hourB v, h) := by
  rw [eZ12_hour_47]
  unfold hourB
  by_cases c : v 3 - v 3 / 24 * 24 = 0
  · rw [if_pos c, if_pos c, eZ12_hour_57, eZ12_hour_66, nS_of h1 (by omega)]
    exact l_hp67 (w0 := v) hn hn4 n 0 FU v (by omega) (by rw [FU_eq]; omega) rfl
  · rw [if_neg c, if_neg c]
theorem Ti.only {A : Nat → Prop} (hT : Ti n w) (o : Only A w v) (hA : ∀ q, A q → ∀ c, c < n → q ≠ 65 + 12 * c + 9) : Ti n v := fun c hc => by
  obtain ⟨t, h1, h2⟩ := hT c hc
  exact ⟨t, h1, by rw [o _ (fun z => hA _ z c hc rfl), h2]⟩
theorem Ti.up9 {c t : Nat} (hT : Ti n w) (ht : t ≤ 20) : Ti n (upd w (65 + 12 * c + 9) (nI t)) := fun j hj => by
  by_cases e : j = c
  · subst e
    exact ⟨t, ht, by rw [pk_us]⟩
  · obtain ⟨u, u1, u2⟩ := hT j hj
    exact ⟨u, u1, by rw [pk_un (by omega), u2]⟩
theorem huntU_ti {s i : Nat} {x : Int32} (hT : Ti n w) (hs : s < n) (hn : n ≤ 8) (hi : i < 6) : Ti n (huntU w s i x) := by
  obtain ⟨t, t9, ht⟩ := hT s hs
  unfold huntU
  have e : ∃ u, u ≤ 20 ∧ (if w (65 + 12 * s + 9) + 1 < 20 then w (65 + 12 * s + 9) + 1 else 20) = nI u := by
    rw [ht, ← nI_succ]
    by_cases c : t + 1 < 20
    · exact ⟨t + 1, by omega, if_pos (nI_lt (b := 20) c (by omega))⟩
    · exact ⟨20, Nat.le_refl _, if_neg (nI_nlt (b := 20) (by omega) (by omega))⟩
  obtain ⟨u, u1, u2⟩ := e
  rw [u2]
  refine Ti.up9 (Ti.only (A := fun q => q = 161 + 12 * i + 8 ∨ q = 65 + 12 * s + 10 ∨ q = 8) hT (((Only.rf.up (Or.inl rfl)).up (Or.inr (Or.inl rfl))).up (Or.inr (Or.inr rfl))) (fun q hq c hc => by omega)) u1
theorem huntsV_ti (hT : Ti n w) (hn : n ≤ 8) (h1 : w 1 = nI k) (hk : k ≤ 6) (h5 : w 5 = -1 ∨ ∃ s, s < n ∧ w 5 = nI s) : Ti n (huntsV w) := by
  unfold huntsV
  rcases h5 with h5 | ⟨s, hs, h5⟩
  · rw [if_pos h5]; exact hT
  · rw [if_neg (by rw [h5]; exact nI_nem (by omega))]
    rcases huntedW_in (w := w) h1 hk with e | ⟨i, hi, e, -, -⟩
    · rw [if_pos e]; exact hT
    · rw [if_neg (by rw [e]; exact nI_nem (by omega)), h5, e, nI_clamp (by omega), nI_clamp (by omega)]
      exact huntU_ti hT hs hn (by omega)
theorem itr_ti {f : Nat → Wd → Wd} (hf : ∀ k v, k < m → Ti n v → Ti n (f k v)) (hT : Ti n w) : ∀ i, i ≤ m → Ti n (itr f i w)
  | 0, _ => hT
  | i + 1, hi => hf i _ (by omega) (itr_ti hf hT i (by omega))
theorem hourR_ti {hc : Int32} (hT : Ti n w) : Ti n (hourR w hc) := by
  unfold hourR
  refine itr_ti (m := nC w) (fun k v _ hv => ?_) hT _ (Nat.le_refl _)
  split
  · exact hv
  · exact rest_ti hv ⟨1, by omega, rfl⟩
/-- hunting, where the log is left out -/
theorem ol_hunts (hl : ∃ e, e ≤ 16 ∧ w 16 = nI e) (h1 : w 1 = nI k) (hk : k ≤ 6) (h5 : w 5 = -1 ∨ ∃ s, s < 8 ∧ w 5 = nI s) : OL (huntsW w).2 (huntsV w) ∧ ((huntsW w).1 = -1 ∨ ∃ s, s < 8 ∧ w 5 = nI s ∧ (huntsW w).1 = nI s ∧ ¬ huntedW w = -1) := by
  unfold huntsW huntsV
  rcases h5 with h5 | ⟨s, hs, h5⟩
  · rw [if_pos h5, if_pos h5]; exact ⟨Only.rf, Or.inl rfl⟩
  · have n5 : ¬ w 5 = -1 := by rw [h5]; exact nI_nem (by omega)
    rw [if_neg n5, if_neg n5]
    rcases huntedW_in (w := w) h1 hk with e | ⟨i, hi, e, -, -⟩
    · rw [if_pos e, if_pos e]; exact ⟨Only.rf, Or.inl rfl⟩
    · have ne : ¬ huntedW w = -1 := by rw [e]; exact nI_nem (by omega)
      rw [if_neg ne, if_neg ne]
      refine ⟨OL.sy (logsW_only ?_), Or.inr ⟨s, hs, h5, h5, ne⟩⟩
      rw [h5, e, nI_clamp (by omega), nI_clamp (by omega)]
      have o := huntU_only (w := w) (c := s) (k := i) (x := huntX w s i) hs (show i < 6 by omega)
      unfold huntU
      exact e16_up (by omega) (e16_up (by omega) (e16_up (by omega) (e16_up (by omega) hl)))
theorem hfl_ok (hn : C.1.1 ≤ 4) (hl : ∃ e, e ≤ 16 ∧ w 16 = nI e) (h1 : w 1 = nI k) (hk : k ≤ 6) (h5 : w 5 = -1 ∨ ∃ s, s < C.1.1 ∧ w 5 = nI s) : ∀ i, i < C.1.1 → (hfl w (clr h C.1.1) i = 0 ↔ ¬ nI i = (huntsW w).1) := by
  intro i hi
  have hc : clr h C.1.1 i = 0 := if_pos hi
  unfold hfl huntsW
  rcases h5 with h5 | ⟨s, hs, h5⟩
  · rw [if_pos h5, if_pos h5]
    exact ⟨fun _ => nI_nem (by omega), fun _ => hc⟩
  · have n5 : ¬ w 5 = -1 := by rw [h5]; exact nI_nem (by omega)
    rw [if_neg n5, if_neg n5]
    rcases huntedW_in (w := w) h1 hk with e | ⟨j, hj, e, -, -⟩
    · rw [if_pos e, if_pos e]
      exact ⟨fun _ => nI_nem (by omega), fun _ => hc⟩
    · have ne : ¬ huntedW w = -1 := by rw [e]; exact nI_nem (by omega)
      rw [if_neg ne, if_neg ne, h5, nI_clamp (by omega)]
      show upd (clr h C.1.1) s 1 i = 0 ↔ ¬ nI i = nI s
      by_cases es : i = s
      · subst es
        rw [pk_us]
        exact ⟨fun z => absurd z (by decide), fun z => absurd rfl z⟩
      · rw [pk_un es]
        exact ⟨fun _ z => es ((nI_eq (by omega) (by omega)).mp z), fun _ => hc⟩
theorem hfl_hi {q : Nat} (h5 : w 5 = -1 ∨ ∃ s, s < C.1.1 ∧ w 5 = nI s) (hn : C.1.1 ≤ 4) : hfl w (clr h C.1.1) (4 + q) = h (4 + q) := by
  have hc : clr h C.1.1 (4 + q) = h (4 + q) := if_neg (by omega)
  unfold hfl
  rcases h5 with h5 | ⟨s, hs, h5⟩
  · rw [if_pos h5, hc]
  · rw [if_neg (by rw [h5]; exact nI_nem (by omega))]
    split
    · exact hc
    · rw [h5, nI_clamp (by omega), pk_un (by omega), hc]
theorem LI.sz (hC : lC C) (i : LI C w) : Sz C.1.1 C.1.2.1 C.1.2.2 w := ⟨⟨hC.1.1, by have := hC.1.2; omega, i.1.1⟩, ⟨hC.2.1.1, by have := hC.2.1.2; omega, i.1.2.1⟩, ⟨hC.2.2.1.1, by have := hC.2.2.1.2; omega, i.1.2.2⟩⟩
/-- the cells that a change of shift and a morning write, the log left out -/
def WV (q : Nat) : Prop := q = 5 ∨ q = 6 ∨ q = 7 ∨ q = 12 ∨ q = 13 ∨ (65 ≤ q ∧ q < 161 ∧ (q - 65) % 12 = 11)
theorem swV_only {c : Nat} (hc : c < 8) : Only WV w (swearsInW w c) := by
  unfold swearsInW
  exact ((Only.rf.up (by unfold WV; omega)).up (by unfold WV; omega)).up (by unfold WV; omega)
theorem swearsV_only {c : Nat} (hc : c < 8) : Only WV w (swearsV w c) := by
  unfold swearsV
  have r : Only WV w (upd (upd w 5 (-1)) 13 (w 13 + 1)) := (Only.rf.up (by unfold WV; omega)).up (by unfold WV; omega)
  repeat' split
  · exact Only.rf
  · exact r
  · exact swV_only hc
  · exact r
  · exact swV_only hc
theorem shiftV_only (hc : (w (233 + 2 * nextSh w)).toNatClampNeg < 8) : Only WV w (shiftV w) := by
  unfold shiftV
  split
  · exact (((Only.rf.up (by unfold WV; omega)).up (by unfold WV; omega)).up (by unfold WV; omega)).tr (swearsV_only hc)
  · exact Only.rf.up (by unfold WV; omega)
theorem dawnEV_only {c : Nat} (hc : c < 8) : Only WV w (dawnEV w c) := by
  unfold dawnEV
  repeat' split
  · exact Only.rf
  · exact swV_only hc
  · exact Only.rf
theorem Ti.wv {u : Wd} (hT : Ti n w) (o : Only WV w u) (hn : n ≤ 8) : Ti n u := hT.only o (fun q hq c hc => by unfold WV at hq; omega)
/-- the law's hour is the plain one, the log left out -/
theorem l_hour (hC : lC C) (i : LI C w) (hi : In w) (hh : LH C w h) : ∃ h', fZ12_hour C (w, h) = some (hourV w, h') ∧ (∀ q, h' (4 + q) = h (4 + q)) ∧ LI C (hourV w) ∧ OL (hourW w) (hourV w) := by
  obtain ⟨⟨i0, i1, i2⟩, iL, iT, ⟨e7, e71, e74, i7⟩⟩ := i
  obtain ⟨hd, lv, fl, bd⟩ := hi.1
  have hc4 := hC.1.2
  have hs4 := hC.2.1.2
  have hh8 := hC.2.2.1.2
  have eS : nS w = C.1.2.1 := nS_of i1 (by omega)
  have eC : nC w = C.1.1 := nC_of i0 (by omega)
  have eH : nH w = C.1.2.2 := nH_of i2 (by omega)
  -- eating, breeding
  have okE := hourE_ok hi.1
  have okB := hourB_ok okE
  have oE := hourE_only hd
  have oB := hourB_only okE.1
  have oEB : Only (fun q => q = 3 ∨ WE q) w (hourB (hourE w)) := oE.tr (oB.mono (fun q hq => Or.inr hq))
  generalize hb : hourB (hourE w) = b at oEB okB
  have kb : ∀ q, q ≠ 3 → ¬ WE q → b q = w q := fun q h3 hw => oEB q (fun z => z.elim h3 hw)
  have b0 : b 0 = nI C.1.1 := (kb 0 (by omega) (by unfold WE; omega)).trans i0
  have b1 : b 1 = nI C.1.2.1 := (kb 1 (by omega) (by unfold WE; omega)).trans i1
  have b5 : b 5 = -1 ∨ ∃ s, s < C.1.1 ∧ b 5 = nI s := by
    rw [kb 5 (by omega) (by unfold WE; omega), ← eC]
    exact lv.1
  have bT : Ti C.1.1 b := Ti.only (w := w) iT oEB (fun q hq c hc => by unfold WE at hq; omega)
  have bS : nS b = C.1.2.1 := nS_of b1 (by omega)
  have bfl := okB.2.2.1
  have bbd := okB.2.2.2
  rw [bS] at bfl bbd
  have b16 : ∃ e, e ≤ 16 ∧ b 16 = nI e := okB.2.1.2.2
  have b58 : b 5 = -1 ∨ ∃ s, s < 8 ∧ b 5 = nI s := b5.imp id (fun ⟨s, hs, e⟩ => ⟨s, by omega, e⟩)
  -- the walk to the hunt
  have w1 : fZ12_hour C (w, h) = fZ12_hour_179 C (b, clr h C.1.1) := by
    have o3 : Only (fun q => q = 3) w (upd w 3 (w 3 + 1)) := Only.rf.up rfl
    rw [show fZ12_hour C (w, h) = fZ12_hour_0 C (w, h) from rfl, eZ12_hour_0, eZ12_hour_10, eZ12_hour_19, l_hp20 (C := C) (h := h) (n := C.1.2.1) (w0 := upd w 3 (w 3 + 1)) rfl hs4 C.1.2.1 0 FU _ (by omega) (by rw [FU_eq]; omega) ((o3 1 (by omega)).trans i1) ((eS ▸ fl : Fl C.1.2.1 w).only o3 (fun q hq => by omega)) ((eS ▸ bd : Bd C.1.2.1 w).only o3 (fun q hq => by omega)) rfl]
    have eE : itr (fun k v => eatsW v k) C.1.2.1 (upd w 3 (w 3 + 1)) = hourE w := by unfold hourE; rw [eS]
    have e1 : hourE w 1 = nI C.1.2.1 := (oE 1 (by unfold WE; omega)).trans i1
    rw [eE, l_hp47 (n := C.1.2.1) rfl hs4 e1, hb, eZ12_hour_142, eZ12_hour_151]
    have := l_hp152 (C := C) (h := h) (v := b) (n := C.1.1) rfl C.1.1 0 FU (by omega) (by rw [FU_eq]; omega)
    rw [clr_0] at this
    exact this
  -- the hunt, the rest
  have vT : Ti C.1.1 (huntsV b) := huntsV_ti bT (by omega) b1 (by omega) b5
  obtain ⟨oH, -⟩ := ol_hunts b16 b1 (by omega) b58
  have v0 : huntsV b 0 = nI C.1.1 := by
    rw [oH 0 (by unfold WG; omega), huntsW_only okB.1 okB.2.1 0 (by unfold WH WG; omega), b0]
  have w2 : fZ12_hour_179 C (b, clr h C.1.1) = fZ12_hour_239 C (hourR (huntsV b) (huntsW b).1, hfl b (clr h C.1.1)) := by
    rw [eZ12_hour_179, l_hunts hC b1 bfl bbd b5 bT, Option.bind_some, eZ12_hour_183, eZ12_hour_192]
    unfold hourR
    rw [nC_of v0 (by omega)]
    exact l_hp193 (n := C.1.1) (w0 := huntsV b) rfl hc4 (hfl_ok hc4 b16 b1 (by omega) b5) C.1.1 0 FU _ (by omega) (by rw [FU_eq]; omega) vT rfl
  have okH := (hourH_ok okB).1
  have oU : OL (hourH b) (hourR (huntsV b) (huntsW b).1) := by
    unfold hourH
    refine OL.hrR oH ?_
    rw [← oH.eC, nC_of v0 (by omega)]
    omega
  have hU : hourU w = hourR (huntsV b) (huntsW b).1 := by unfold hourU; rw [hb]
  have uT : Ti C.1.1 (hourU w) := by rw [hU]; exact hourR_ti vT
  rw [← hU] at oU w2
  generalize hu : hourU w = u at oU uT w2
  have oHH := hourH_only okB.1 okB.2.1
  have ku : ∀ q, ¬ WG q → ¬ WH q → ¬ WR q → q ≠ 3 → ¬ WE q → u q = w q := fun q g1 g2 g3 g4 g5 => by
    rw [oU q g1, oHH q (fun z => z.elim g2 (fun z => z.elim g1 g3)), kb q g4 g5]
  have uk : ∀ q, q < 16 → q ≠ 3 → q ≠ 8 → q ≠ 9 → q ≠ 10 → q ≠ 11 → u q = w q := fun q a1 a2 a3 a4 a5 a6 => ku q (by unfold WG; omega) (by unfold WH; omega) (by unfold WR; omega) a2 (by unfold WE; omega)
  have uL : ∀ q, 233 ≤ q → u q = w q := fun q hq => ku q (by unfold WG; omega) (by unfold WH; omega) (by unfold WR; omega) (by omega) (by unfold WE; omega)
  have u8 : ∀ c, c < 4 → u (65 + 12 * c + 8) = w (65 + 12 * c + 8) := fun c hc => ku _ (by unfold WG; omega) (by unfold WH; omega) (by unfold WR; omega) (by omega) (by unfold WE; omega)
  have u0 := (uk 0 (by omega) (by omega) (by omega) (by omega) (by omega) (by omega)).trans i0
  have u2 := (uk 2 (by omega) (by omega) (by omega) (by omega) (by omega) (by omega)).trans i2
  have u1 := (uk 1 (by omega) (by omega) (by omega) (by omega) (by omega) (by omega)).trans i1
  have u4 := uk 4 (by omega) (by omega) (by omega) (by omega) (by omega) (by omega)
  have u7 := (uk 7 (by omega) (by omega) (by omega) (by omega) (by omega) (by omega)).trans i7
  have u5 : u 5 = -1 ∨ ∃ s, s < C.1.1 ∧ u 5 = nI s := by
    rw [uk 5 (by omega) (by omega) (by omega) (by omega) (by omega) (by omega), ← eC]
    exact lv.1
  have u6 : ∃ j, j < C.1.2.2 ∧ u 6 = nI j := by
    rw [uk 6 (by omega) (by omega) (by omega) (by omega) (by omega) (by omega), ← eH]
    exact lv.2.1
  have uLL : ∀ j, j < C.1.2.2 → u (233 + 2 * j) = nI (C.2.1 j) ∧ u (233 + 2 * j + 1) = nI (C.2.2 j) := fun j hj => ⟨(uL _ (by omega)).trans (iL j hj).1, (uL _ (by omega)).trans (iL j hj).2.1⟩
  obtain ⟨m, hm9, hm⟩ := hi.2.2
  generalize hg : hfl b (clr h C.1.1) = g at w2
  have gq : ∀ q, g (4 + q) = h (4 + q) := fun q => by rw [← hg]; exact hfl_hi b5 hc4
  have gu : LH C u g := fun a c ha hc => by
    rw [gq, gq, u8 a (by omega), u8 c (by omega)]
    exact hh a c ha hc
  -- the shift
  have hx : nextSh u < C.1.2.2 := by unfold nextSh; rw [nH_of u2 (by omega)]; exact Nat.mod_lt _ (by omega)
  have ecx : (u (233 + 2 * nextSh u)).toNatClampNeg < C.1.1 := by
    rw [(uLL _ hx).1, nI_clamp (by have := (hC.2.2.2 _ hx).1; omega)]
    exact (hC.2.2.2 _ hx).1
  have oS := shiftV_only (w := u) (by omega)
  have w3 : fZ12_hour_239 C (u, g) = fZ12_hour_260 C (shiftV u, g) := by
    rw [eZ12_hour_239, eZ12_hour_249, pk_us, u7, nI_d1 e71]
    unfold shiftV
    rw [u7, nI_d1 e71]
    by_cases c1 : e7 = 1
    · subst c1
      rw [if_pos (by decide), if_pos (by decide), eZ12_hour_256]
      have en : nextSh (upd u 7 (nI (1 - 1))) = nextSh u := by
        unfold nextSh nH
        rw [pk_un (by omega), pk_un (by omega)]
      have lc := l_changes (C := C) (v := upd u 7 (nI (1 - 1))) (h := g) hC (by rw [pk_un (by omega)]; exact u6) (fun j hj => by rw [pk_un (by omega), pk_un (by omega)]; exact uLL j hj) (by rw [pk_un (by omega)]; exact u2) (by rw [pk_un (by omega)]; exact u5) (fun a c ha hc => by rw [pk_un (by omega), pk_un (by omega)]; exact gu a c ha hc) rfl
      rw [lc, Option.bind_some, en, pk_un (j := 233 + 2 * nextSh u + 1) (by omega), pk_un (j := 233 + 2 * nextSh u) (by omega)]
    · rw [if_neg (nI_ne0 (by omega) (by omega)), if_neg (nI_nle (by omega) (by omega))]
  have sT : Ti C.1.1 (shiftV u) := uT.wv oS (by omega)
  have sk : ∀ q, ¬ WV q → shiftV u q = u q := oS
  have s0 : shiftV u 0 = nI C.1.1 := (sk 0 (by unfold WV; omega)).trans u0
  have s4 : shiftV u 4 = nI m := (sk 4 (by unfold WV; omega)).trans (u4.trans hm)
  have oSh : OL (shiftW (hourH b)) (shiftV u) := OL.shift oU okH.1 okH.2.1
  have okS := shiftW_ok okH
  have s6 : ∃ j, j < C.1.2.2 ∧ shiftV u 6 = nI j := by
    obtain ⟨j, hj, ej⟩ := okS.2.1.2.1
    have e2 : shiftW (hourH b) 2 = nI C.1.2.2 := by rw [← oSh 2 (by unfold WG; omega), sk 2 (by unfold WV; omega), u2]
    rw [nH_of e2 (by omega)] at hj
    exact ⟨j, hj, by rw [oSh 6 (by unfold WG; omega), ej]⟩
  have sL : ∀ j, j < C.1.2.2 → shiftV u (233 + 2 * j) = nI (C.2.1 j) := fun j hj => (sk _ (by unfold WV; omega)).trans (uLL j hj).1
  have w4 : fZ12_hour_260 C (shiftV u, g) = some (hourDV (shiftV u), g) := l_hp260 hC s0 sT s4 hm9 s6 sL
  -- the morning keeps the rest
  have oD : Only (fun q => WV q ∨ WR q) (shiftV u) (hourDV (shiftV u)) ∧ Ti C.1.1 (hourDV (shiftV u)) := by
    unfold hourDV
    split
    · unfold dawnV
      obtain ⟨j, hj, ej⟩ := s6
      have ec : (shiftV u (233 + 2 * (shiftV u 6).toNatClampNeg)).toNatClampNeg < C.1.1 := by
        rw [ej, nI_clamp (by omega), sL j hj, nI_clamp (by have := (hC.2.2.2 j hj).1; omega)]
        exact (hC.2.2.2 j hj).1
      have oi : Only WR (shiftV u) (itr (fun k v => restW v k (shiftV u 4)) (nC (shiftV u)) (shiftV u)) := itr_only (N := nC (shiftV u)) (fun k v hk _ => restW_only (k := k) (by rw [nC_of s0 (by omega)] at hk; omega)) _ (Nat.le_refl _)
      have ti : Ti C.1.1 (itr (fun k v => restW v k (shiftV u 4)) (nC (shiftV u)) (shiftV u)) := itr_ti (m := nC (shiftV u)) (fun k v _ hv => rest_ti hv ⟨m, hm9, s4⟩) sT _ (Nat.le_refl _)
      have od := dawnEV_only (w := itr (fun k v => restW v k (shiftV u 4)) (nC (shiftV u)) (shiftV u)) (c := (shiftV u (233 + 2 * (shiftV u 6).toNatClampNeg)).toNatClampNeg) (by omega)
      exact ⟨(oi.mono (fun q hq => Or.inr hq)).tr (od.mono (fun q hq => Or.inl hq)), ti.wv od (by omega)⟩
    · exact ⟨Only.rf, sT⟩
  have hV : hourV w = hourDV (shiftV u) := by unfold hourV; rw [hu]
  have dk : ∀ q, ¬ WV q → ¬ WR q → hourDV (shiftV u) q = u q := fun q q1 q2 => (oD.1 q (fun z => z.elim q1 q2)).trans (sk q q1)
  refine ⟨g, ?_, gq, ?_, ?_⟩
  · rw [w1, w2, w3, w4, hV]
  · rw [hV]
    refine ⟨⟨(dk 0 (by unfold WV; omega) (by unfold WR; omega)).trans u0, (dk 1 (by unfold WV; omega) (by unfold WR; omega)).trans u1, (dk 2 (by unfold WV; omega) (by unfold WR; omega)).trans u2⟩, fun j hj => ⟨(dk _ (by unfold WV; omega) (by unfold WR; omega)).trans (uLL j hj).1, (dk _ (by unfold WV; omega) (by unfold WR; omega)).trans (uLL j hj).2, (iL j hj).2.2⟩, oD.2, ?_⟩
    have d7 : hourDV (shiftV u) 7 = shiftV u 7 := by
      unfold hourDV
      split
      · unfold dawnV
        have kk : ∀ q, (∀ k, k < nC (shiftV u) → q ≠ 65 + 12 * k + 9) → itr (fun k v => restW v k (shiftV u 4)) (nC (shiftV u)) (shiftV u) q = shiftV u q := fun q hq => itr_rest (P := fun _ => True) (fun k v => Or.inr rfl) _ _ hq
        unfold dawnEV swearsInW
        repeat' split
        · exact kk 7 (fun k _ => by omega)
        · rw [pk_un (by omega), pk_un (by omega), pk_un (by omega)]
          exact kk 7 (fun k _ => by omega)
        · exact kk 7 (fun k _ => by omega)
      · rfl
    have sw7 : ∀ (x : Wd) (c : Nat), swearsV x c 7 = x 7 := fun x c => by
      unfold swearsV swearsInW
      repeat' split
      · rfl
      · rw [pk_un (by omega), pk_un (by omega)]
      · rw [pk_un (by omega), pk_un (by omega), pk_un (by omega)]
      · rw [pk_un (by omega), pk_un (by omega)]
      · rw [pk_un (by omega), pk_un (by omega), pk_un (by omega)]
    rw [d7]
    unfold shiftV
    split
    · rw [sw7, pk_us, (uLL _ hx).2]
      exact ⟨_, (iL _ hx).2.2, (hC.2.2.2 _ hx).2, rfl⟩
    · rename_i c1
      rw [pk_us, u7, nI_d1 e71]
      rw [u7, nI_d1 e71] at c1
      exact ⟨e7 - 1, by
        by_cases c2 : e7 = 1
        · subst c2; exact absurd (by decide) c1
        · omega, by omega, rfl⟩
  · rw [hV, show hourW w = hourD (shiftW (hourH b)) by unfold hourW; rw [hb]]
    exact OL.dawn oSh okS.1 okS.2.1
end LHOUR3
