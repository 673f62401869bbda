/-! runScript, both sides -/
section SCRIPT
variable {S S' : CS} {M M' : MS} {n p s c d : Nat} {w : Wd}
def LD (S : CS) (M : MS) (S' : CS) (M' : MS) (r : Int32) : Prop := FS S S' ∧ FQ M M' ∧ Er (S'.1 1) M'.1 ∧ ((r = 1 ∧ ∃ c, c ≤ 30 ∧ S'.1 8 5 = nI c ∧ M'.1 22 = nI c ∧ ∀ j, j < c → Od S' M' j) ∨ r = 0)
theorem l_loop : ∀ r i p c f f' (S : CS) (M : MS), n ≤ p + r → r < f → r + 1 < f' → 3 * i ≤ p → PS n p (S.1 1) (S.1 2) M.1 (M.2 8) → GR S 13 (M.2 0) → In (M.2 0) → S.1 8 5 = nI c → M.1 22 = nI c → c ≤ 30 → (∀ j, j < c → Od S M j) → ∃ S1 M1 q, fX5_parse_14 f S (nI i) = some (q, S1) ∧ fX11_runScript_11 f' M 1 = fX11_runScript_30 M1 q ∧ LD S M S1 M1 q := by
  intro r
  induction r using Nat.strongRecOn with
  | ind r ih =>
    intro i p c f f' S M hr hf hf' hi ps g iw h8 h22 hc od
    obtain ⟨f, rfl⟩ : ∃ g, f = g + 1 := ⟨f - 1, by omega⟩
    obtain ⟨f', rfl⟩ : ∃ g, f' = g + 1 := ⟨f' - 1, by omega⟩
    have hp := ps.2.1
    have h600 := ps.1.1
    have hpn := hp.2.2
    obtain ⟨x1, a1, sy⟩ := s_adv (S := S) ps
    rw [fX5_parse_14, fX11_runScript_11]
    dsimp only
    rw [hp.1, if_neg (nI_nlt (show i ≤ n by omega) (by omega)), fX5_parse_25, a1, Option.bind_some, if_neg one0, fX11_runScript_15]
    obtain ⟨s, es⟩ : ∃ s, s = skp (KM (M.2 8)) n p := ⟨_, rfl⟩
    rw [← es] at sy a1 ⊢
    have hps : p ≤ s := by rw [es]; exact skp_ge
    have eq := sy.endq
    have g2 : GR (tx S x1) 13 (M.2 0) := g.frame (fun o ho => ⟨tx_o (by omega), rfl⟩) iw.sz.1 iw.sz.2.1
    have od2 : ∀ j, j < c → Od (tx S x1) M j := fun j hj => (od j hj).cong (tx_o (by omega)) (tx_o (by omega)) (tx_o (by omega)) rfl rfl rfl
    by_cases q : s < n
    · rw [if_pos q, if_neg (fun z => eq.mp z q), fX11_runScript_22]
      dsimp only
      rw [fX5_parse_32, if_neg one0, cSt_35]
      obtain ⟨S2, M2, r2, h1, h2, d1, d2, d3⟩ := s_sstmt (S := tx S x1) (by rw [tx_1, tx_b]; exact sy) g2 iw (by rw [tx_o (by omega)]; exact h8) h22 hc od2
      rw [h1, h2, Option.bind_some, Option.bind_some]
      dsimp only
      rw [fX5_parse_59, fX11_runScript_26]
      rcases d3 with ⟨e, p2, c2, hp2, hc2, ps2, k8, k22, od3⟩ | ⟨e, er⟩
      · rw [if_neg (by rw [e]; decide), fX5_parse_64, nI_1, e]
        have hp3 := ps2.2.1.2.2
        have e0 : M2.2 0 = M.2 0 := d2.2 0 (by omega) (by omega) (by omega)
        have g3 : GR S2 13 (M2.2 0) := by
          rw [e0]
          exact g2.frame (fun o ho => ⟨d1.1 _ (by omega) (by omega) (by omega) (by omega) (by omega), by rw [d1.2]⟩) iw.sz.1 iw.sz.2.1
        obtain ⟨S3, M3, r3, k1, k2, k3, k4, k5, k6⟩ := ih (n - p2) (by omega) (i + 1) p2 c2 f f' S2 M2 (by omega) (by omega) (by omega) (by omega) ps2 g3 (by rw [e0]; exact iw) k8 k22 hc2 od3
        exact ⟨S3, M3, r3, k1, k2, (FS.tx.trans d1).trans k3, d2.trans k4, k5, k6⟩
      · obtain ⟨f', rfl⟩ : ∃ g, f' = g + 1 := ⟨f' - 1, by omega⟩
        rw [e, if_pos rfl, fX5_parse_62, fX11_runScript_11]
        dsimp only
        rw [if_pos rfl]
        exact ⟨S2, M2, 0, rfl, rfl, FS.tx.trans d1, d2, er, Or.inr rfl⟩
    · rw [if_neg q, if_pos (eq.mpr q)]
      dsimp only
      rw [fX5_parse_32, if_pos rfl, fX5_parse_70]
      obtain ⟨-, -, -, -, z1, z2, z3, z4⟩ := sy
      exact ⟨tx S x1, M, 1, rfl, rfl, FS.tx, FQ.refl, ⟨by rw [tx_1]; exact z1.trans z3.symm, by rw [tx_1]; exact z2.trans z4.symm⟩, Or.inl ⟨rfl, c, hc, by rw [tx_o (by omega)]; exact h8, h22, od2⟩⟩
theorem q_runScript (r : Rel S M) : Bo (fX10_runScript S) (fX11_runScript M) := by
  obtain ⟨⟨gN, iN⟩, ⟨n, t1, t2, t3, t4, t5⟩, rp, rs, ro⟩ := r
  obtain ⟨S1, e1⟩ : ∃ S1, S1 = tx S (upd (upd (upd (S.1 1) 3 0) 7 0) 8 (-1)) := ⟨_, rfl⟩
  have b1 : fX8_begin S = some S1 := by rw [e1]; exact c_tbegin
  obtain ⟨S2, e2⟩ : ∃ S2 : CS, S2 = (va_up S1.1 8 (upd (S1.1 8) 5 0), S1.2) := ⟨_, rfl⟩
  obtain ⟨y, r1, ps, y22, yo⟩ := r_startsText (M := th M 0) (x := S.1 1) (c := S.1 2) (n := n) (by rw [th_2]; exact t3) (by rw [th_o (by omega)]; exact t2) t1
  have s21 : S2.1 1 = upd (upd (upd (S.1 1) 3 0) 7 0) 8 (-1) := by rw [e2]; dsimp only; rw [vne (by omega), e1, tx_1]
  have s2o : ∀ q, q ≠ 1 → q ≠ 8 → S2.1 q = S.1 q := fun q q1 q8 => by rw [e2]; dsimp only; rw [vne q8, e1, tx_o q1]
  have s22 : S2.2 = S.2 := by rw [e2, e1]; rfl
  have fs2 : FS S S2 := ⟨fun q q1 q8 _ _ _ => s2o q q1 q8, s22⟩
  obtain ⟨S3, M4, q, c3, c4, pe1, pe2, pe3, pe4⟩ := l_loop (n := n) n 0 0 0 FU FU S2 (rx (th M 0) y) (by omega) (by rw [FU_eq]; have := t3.1; omega) (by rw [FU_eq]; have := t3.1; omega) (by omega) (by rw [s21, s2o 2 (by omega) (by omega), rx_11, rx_2]; exact ps) (by rw [rx_2, th_2]; exact gN.fr iN (fun p h1 h2 => ⟨s2o p (by omega) (by omega), by rw [s22]⟩)) (by rw [rx_2, th_2]; exact iN) (by rw [e2]; dsimp only; rw [vat, pk_us, nI_0]) (by rw [rx_11, y22, nI_0]) (by omega) (fun j hj => absurd hj (by omega))
  rw [nI_0] at c3
  have q01 : q = 0 ∨ q = 1 := by
    rcases pe4 with ⟨h, -⟩ | h
    · exact Or.inr h
    · exact Or.inl h
  have fc3 : FS S S3 := fs2.trans pe1
  obtain ⟨S4, e4⟩ : ∃ S4 : CS, S4 = (va_up S3.1 1 (upd (S3.1 1) 2 0), S3.2) := ⟨_, rfl⟩
  have opC : fX10_runScript S = fX10_runScript_16 S4 q := by
    unfold fX10_runScript fX10_runScript_0 fX5_parse fX5_parse_0
    rw [b1, Option.bind_some, fX5_parse_7, ← e2, fX5_parse_12, c3, bz_some q01, Option.bind_some]
    dsimp only
    rw [fX10_runScript_7, ← e4]
  obtain ⟨M5, e5⟩ : ∃ M5 : MS, M5 = (va_up (va_up (va_up M4.1 9 0) 10 (M4.1 12)) 11 (M4.1 13), M4.2) := ⟨_, rfl⟩
  have opR : fX11_runScript M = fX11_runScript_34 M5 q := by
    have en : fX11_endsText M4 = some M5 := by
      unfold fX11_endsText fX11_endsText_0 fX11_endsText_5 fX11_endsText_13 fX11_endsText_21
      dsimp only
      rw [vne (show 12 ≠ 9 by omega), vne (show 13 ≠ 10 by omega), vne (show 13 ≠ 9 by omega), ← e5]
    unfold fX11_runScript fX11_runScript_0
    rw [th_e, fX11_runScript_5, r1, Option.bind_some, fX11_runScript_9, c4, fX11_runScript_30, en, Option.bind_some]
  have fi : ∀ j, ¬ (9 ≤ j ∧ j ≤ 18) → j ≠ 22 → M5.1 j = (th M 0).1 j := fun j h1 h2 => by
    rw [e5]; dsimp only
    rw [vne (by omega), vne (by omega), vne (by omega), pe2.1 j (by omega) h2, rx_11, yo j (by omega) h2]
  have fa : ∀ j, j ≠ 19 → j ≠ 20 → j ≠ 21 → M5.2 j = M.2 j := fun j h0 h1 h2 => by
    rw [e5]; dsimp only
    rw [pe2.2 j h0 h1 h2, rx_2, th_2]
  have fs : ∀ p, p ≠ 1 → ¬ (8 ≤ p ∧ p ≤ 11) → S4.1 p = S.1 p := fun p h1 h3 => by
    rw [e4]; dsimp only
    rw [vne h1]
    exact fc3.1 p h1 (by omega) (by omega) (by omega) (by omega)
  have fn : S4.2 = S.2 := by rw [e4]; exact fc3.2
  have rel : Rel S4 M5 := by
    refine ⟨⟨?_, ?_⟩, ⟨0, ?_, ?_, ⟨by omega, fun j hj => absurd hj (by omega)⟩, ?_, ?_⟩, rp.fr ?_ ?_ ?_ ?_, rs.fr ?_ ?_ ?_ ?_, ro.fr ?_ ?_ ?_ ?_⟩
    · rw [fa 0 (by omega) (by omega) (by omega)]
      exact gN.fr iN (fun p h1 h2 => ⟨fs p (by omega) (by omega), by rw [fn]⟩)
    · rw [fa 0 (by omega) (by omega) (by omega)]; exact iN
    · rw [e4]; dsimp only; rw [vat, pk_us, nI_0]
    · rw [e5]; dsimp only; rw [vne (by omega), vne (by omega), vat, nI_0]
    · rw [e4, e5]; dsimp only; rw [vat, pk_un (by omega), vne (by omega), vat]; exact pe3.1
    · rw [e4, e5]; dsimp only; rw [vat, pk_un (by omega), vat]; exact pe3.2
    · exact fs 0 (by omega) (by omega)
    · exact fun p h1 => ⟨fs p (by omega) (by omega), by rw [fn]⟩
    · rw [fi 5 (by omega) (by omega), th_o (by omega)]
    · exact fa 4 (by omega) (by omega) (by omega)
    · rw [fs 0 (by omega) (by omega)]
    · exact fun p h1 h2 => ⟨fs p (by omega) (by omega), by rw [fn]⟩
    · rw [fi 6 (by omega) (by omega), th_o (by omega)]
    · exact fa 3 (by omega) (by omega) (by omega)
    · exact fs 5 (by omega) (by omega)
    · exact fs 6 (by omega) (by omega)
    · rw [fi 24 (by omega) (by omega), th_o (by omega)]
    · exact fa 23 (by omega) (by omega) (by omega)
  have f7 : M5.1 7 = 0 := by rw [fi 7 (by omega) (by omega)]; exact th_7
  rw [opC, opR, fX10_runScript_16, fX11_runScript_34]
  rcases pe4 with ⟨hq, c, hc, k8, k22, od⟩ | hq
  · rw [if_neg (by rw [hq]; decide), if_neg (by rw [hq]; decide), fX10_runScript_22, fX11_runScript_40]
    obtain ⟨S6, M6, m1, m2, m3, m4, m5, m6⟩ := s_remember' rel
    rw [m1, m2, Option.bind_some, Option.bind_some, fX10_runScript_26, fX11_runScript_44]
    unfold fX5_execute fX5_execute_0
    have u8 : ∀ p, 8 ≤ p → p ≤ 11 → S4.1 p = S3.1 p := fun p h1 h2 => by rw [e4]; dsimp only; rw [vne (by omega)]
    have v22 : M5.1 22 = M4.1 22 := by rw [e5]; dsimp only; rw [vne (by omega), vne (by omega), vne (by omega)]
    have v2 : ∀ j, M5.2 j = M4.2 j := fun j => by rw [e5]
    obtain ⟨S7, M7, v, x1, x2, x3, x4⟩ := s_exec hc c 0 FU S6 M6 (by omega) (by rw [FU_eq]; omega) (by rw [m5 8 (by omega) (by omega), u8 8 (by omega) (by omega)]; exact k8) (by rw [m6.1 22 (by omega), v22]; exact k22) (fun j _ hj => (od j hj).cong (by rw [m5 9 (by omega) (by omega), u8 9 (by omega) (by omega)]) (by rw [m5 10 (by omega) (by omega), u8 10 (by omega) (by omega)]) (by rw [m5 11 (by omega) (by omega), u8 11 (by omega) (by omega)]) (by rw [m6.2 20 (by omega), v2]) (by rw [m6.2 21 (by omega), v2]) (by rw [m6.2 0 (by omega), v2])) m3
    rw [nI_0] at x1 x2
    rw [x1, x2, Option.bind_some]
    exact ⟨v, S7, M7, rfl, rfl, x3, by rw [x4, m4, f7]⟩
  · rw [if_pos hq, if_pos hq, fX10_runScript_20, fX11_runScript_38]
    exact ⟨-1, S4, M5, rfl, rfl, rel, f7⟩
end SCRIPT
