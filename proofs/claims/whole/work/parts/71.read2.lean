/-! more calls that only read, both sides -/
section READ2
variable {S S' : CS} {M M' : MS} {n t k : Nat} {w w' : Wd}
theorem thw : mw (th M 0) (M.2 0) = th M 0 := by
  have := mw_self (M := th M 0)
  exact this
theorem GR.cwE (g : GR S t w) : ∃ E, cw S t (nC w) (nS w) (nH w) w E = S ∧ EvRel E w := g.1
theorem q_strengthOf (r : Rel S M) (a : Int32) : Br S (fX10_strengthOf S a) (fX11_strengthOf M a) ∨ Bt (tX10_strengthOf S a) (fX11_strengthOf M a) "java/lang/IndexOutOfBoundsException" 1 := by
  rcases s_noCat r.1 a with ⟨k, hk, k8, ea, h1, h2, h3⟩ | ⟨h1, h2⟩
  · left
    refine ⟨strengthW (M.2 0) k, th M 0, ?_, ?_, r.thr, th_7⟩
    · obtain ⟨E, e, -⟩ := r.1.1.cwE
      have c := c_strength (S := S) (t := 13) (nc := nC (M.2 0)) (ns := nS (M.2 0)) (nh := nH (M.2 0)) (w := M.2 0) (E := E) hk k8
      rw [e] at c
      unfold fX10_strengthOf fX10_strengthOf_0 fX10_strengthOf_5
      rw [h2, Option.bind_some, c, Option.bind_some, fX10_strengthOf_8]
    · have c := r_strength (M := th M 0) (w := M.2 0) k8
      rw [thw] at c
      unfold fX11_strengthOf fX11_strengthOf_0
      rw [th_e, fX11_strengthOf_5, h1, Option.bind_some]
      dsimp only
      rw [fX11_strengthOf_10, if_pos rfl, fX11_strengthOf_17, ea, c, Option.bind_some, fX11_strengthOf_22]
  · right
    refine ⟨0, S, th M 1, ?_, ?_, r.thr, th_7⟩
    · unfold tX10_strengthOf tX10_strengthOf_0
      rw [h2]
    · unfold fX11_strengthOf fX11_strengthOf_0
      rw [th_e, fX11_strengthOf_5, h1, Option.bind_some]
      dsimp only
      rw [fX11_strengthOf_10, if_neg one0, fX11_strengthOf_13, fX11_strengthOf_22]
theorem q_oathReason (r : Rel S M) (a : Int32) : Br S (fX10_oathReason S a) (fX11_oathReason M a) ∨ Bt (tX10_oathReason S a) (fX11_oathReason M a) "java/lang/IndexOutOfBoundsException" 1 := by
  rcases s_noCat r.1 a with ⟨k, hk, k8, ea, h1, h2, h3⟩ | ⟨h1, h2⟩
  · left
    have e8 : S.1 13 8 = M.2 0 5 := r.1.1.hd (f := 8) (q := 5) (by unfold cm; simp) (by omega)
    have hn : nC (M.2 0) ≤ 8 := r.1.2.sz.1
    subst ea
    have cl : ∀ v, fX2_reasonAgainst S 13 (nI k) = some v → fX10_oathReason S (nI k) = some v := fun v h => by
      unfold fX10_oathReason fX10_oathReason_0 fX10_oathReason_5
      rw [h2, Option.bind_some, h, Option.bind_some, fX10_oathReason_14]
    have rl : ∀ v, fX11_reasonOf (th M 0) (nI k) = some v → fX11_oathReason M (nI k) = some (v, th M 0) := fun v h => by
      unfold fX11_oathReason fX11_oathReason_0
      rw [th_e, fX11_oathReason_5, h1, Option.bind_some]
      dsimp only
      rw [fX11_oathReason_10, if_pos rfl, fX11_oathReason_17, h, Option.bind_some, fX11_oathReason_22]
    rcases r.1.2.1.2.1.1 with h5 | ⟨c, hc, h5⟩
    · refine ⟨1, th M 0, cl 1 ?_, rl 1 ?_, r.thr, th_7⟩
      · unfold fX2_reasonAgainst fX2_reasonAgainst_0
        rw [e8, if_pos h5, fX2_reasonAgainst_8]
      · unfold fX11_reasonOf fX11_reasonOf_0
        rw [gi5, tn5, th_2, if_pos h5, fX11_reasonOf_10]
    · obtain ⟨E, e, -⟩ := r.1.1.cwE
      have cr := c_reason (S := S) (t := 13) (nc := nC (M.2 0)) (ns := nS (M.2 0)) (nh := nH (M.2 0)) (w := M.2 0) (E := E) hk hn h5 hc
      rw [e] at cr
      have ra := r_isAble (M := th M 0) (w := M.2 0) k8
      have rp := r_isPawRight (M := th M 0) (w := M.2 0) k8 h5 (by omega)
      rw [thw] at ra rp
      refine ⟨_, th M 0, cl _ cr, rl _ ?_, r.thr, th_7⟩
      unfold fX11_reasonOf fX11_reasonOf_0
      rw [gi5, tn5, th_2, h5, if_neg (nI_nem (by omega)), fX11_reasonOf_12, ra, Option.bind_some, fX11_reasonOf_17]
      by_cases q : M.2 0 (65 + 12 * k + 9) < 12
      · rw [if_pos q, if_neg (show ¬ (12 : Int32) ≤ M.2 0 (65 + 12 * k + 9) from fun z => (lt_le.mpr z) q), if_neg one0, fX11_reasonOf_22, rp, Option.bind_some, fX11_reasonOf_27]
        by_cases q2 : nI k = nI c
        · rw [if_pos q2, if_pos q2, if_neg one0, fX11_reasonOf_30, fX11_reasonOf_35]
        · rw [if_neg q2, if_neg q2]
          by_cases q3 : M.2 0 (65 + 12 * k + 8) = M.2 0 (65 + 12 * c + 8)
          · rw [if_pos q3, if_pos q3, if_pos rfl, fX11_reasonOf_34, fX11_reasonOf_35]
          · rw [if_neg q3, if_neg q3, if_neg one0, fX11_reasonOf_30, fX11_reasonOf_35]
      · rw [if_neg q, if_pos (show (12 : Int32) ≤ M.2 0 (65 + 12 * k + 9) from lt_le.mp q), if_pos rfl, fX11_reasonOf_20]
  · right
    refine ⟨0, S, th M 1, ?_, ?_, r.thr, th_7⟩
    · unfold tX10_oathReason tX10_oathReason_0
      rw [h2]
    · unfold fX11_oathReason fX11_oathReason_0
      rw [th_e, fX11_oathReason_5, h1, Option.bind_some]
      dsimp only
      rw [fX11_oathReason_10, if_neg one0, fX11_oathReason_13, fX11_oathReason_22]
theorem q_isLeftPawed (r : Rel S M) (a : Int32) : Br S (fX10_isLeftPawed S a) (fX11_isLeftPawed M a) ∨ Bt (tX10_isLeftPawed S a) (fX11_isLeftPawed M a) "java/lang/IndexOutOfBoundsException" 1 := by
  rcases s_noCat r.1 a with ⟨k, hk, k8, ea, h1, h2, h3⟩ | ⟨h1, h2⟩
  · left
    have pw := r.1.2.2.1 k hk
    refine ⟨M.2 0 (65 + 12 * k + 8), th M 0, ?_, ?_, r.thr, th_7⟩
    · unfold fX10_isLeftPawed fX10_isLeftPawed_0 fX10_isLeftPawed_5
      rw [h2, Option.bind_some, show S.1 (13 + 1 + 8 + k) 2 = M.2 0 (65 + 12 * k + 8) from r.1.1.cat (f := 2) hk k8 (by omega) (by omega)]
      exact bq_s pw
    · unfold fX11_isLeftPawed fX11_isLeftPawed_0
      rw [th_e, fX11_isLeftPawed_5, h1, Option.bind_some]
      dsimp only
      rw [fX11_isLeftPawed_10, if_pos rfl, fX11_isLeftPawed_13, ea, rC (f := 8) (ff := 8) rfl k8 (by omega), Option.bind_some, fX11_isLeftPawed_20, th_2]
      rcases pw with z | z
      · rw [z, if_neg (by decide), fX11_isLeftPawed_28, fX11_isLeftPawed_29]; rfl
      · rw [z, if_pos rfl, fX11_isLeftPawed_24, fX11_isLeftPawed_29]; rfl
  · right
    refine ⟨0, S, th M 1, ?_, ?_, r.thr, th_7⟩
    · unfold tX10_isLeftPawed tX10_isLeftPawed_0
      rw [h2]
    · unfold fX11_isLeftPawed fX11_isLeftPawed_0
      rw [th_e, fX11_isLeftPawed_5, h1, Option.bind_some]
      dsimp only
      rw [fX11_isLeftPawed_10, if_neg one0, fX11_isLeftPawed_28, fX11_isLeftPawed_29]; rfl
theorem rOpen (hk : k < 6) (f : M.2 0 (161 + 12 * k + 9) = 0 ∨ M.2 0 (161 + 12 * k + 9) = 1) : fX11_isOpenSack M (nI k) = some (M.2 0 (161 + 12 * k + 9)) := by
  unfold fX11_isOpenSack fX11_isOpenSack_0
  rw [rS (f := 9) (ff := 9) rfl hk (by omega), Option.bind_some, fX11_isOpenSack_7]
  rcases f with z | z
  · rw [z, if_neg (by decide), fX11_isOpenSack_15, fX11_isOpenSack_16]; rfl
  · rw [z, if_pos rfl, fX11_isOpenSack_11, fX11_isOpenSack_16]; rfl
theorem q_isOpen (r : Rel S M) (a : Int32) : Br S (fX10_isOpen S a) (fX11_isOpen M a) ∨ Bt (tX10_isOpen S a) (fX11_isOpen M a) "java/lang/IndexOutOfBoundsException" 1 := by
  rcases s_noSack r.1 a with ⟨k, hk, k8, ea, h1, h2, h3⟩ | ⟨h1, h2⟩
  · left
    have pw := r.1.2.1.2.2.1 k hk
    refine ⟨M.2 0 (161 + 12 * k + 9), th M 0, ?_, ?_, r.thr, th_7⟩
    · unfold fX10_isOpen fX10_isOpen_0 fX10_isOpen_5
      rw [h2, Option.bind_some, show S.1 (13 + 2 + 15 + k) 3 = M.2 0 (161 + 12 * k + 9) from r.1.1.sack (f := 3) hk k8 (by omega) (by omega)]
      exact bq_s pw
    · unfold fX11_isOpen fX11_isOpen_0
      rw [th_e, fX11_isOpen_5, h1, Option.bind_some]
      dsimp only
      rw [fX11_isOpen_10, if_pos rfl, fX11_isOpen_13, ea, rOpen (M := th M 0) k8 pw, Option.bind_some, fX11_isOpen_18, th_2]
      rcases pw with z | z
      · rw [z, if_pos rfl, fX11_isOpen_25, fX11_isOpen_26]; rfl
      · rw [z, if_neg one0, fX11_isOpen_21, fX11_isOpen_26]; rfl
  · right
    refine ⟨0, S, th M 1, ?_, ?_, r.thr, th_7⟩
    · unfold tX10_isOpen tX10_isOpen_0
      rw [h2]
    · unfold fX11_isOpen fX11_isOpen_0
      rw [th_e, fX11_isOpen_5, h1, Option.bind_some]
      dsimp only
      rw [fX11_isOpen_10, if_neg one0, fX11_isOpen_25, fX11_isOpen_26]; rfl
theorem c_letterOf {bs : List Int32} (hb : bs.length ≤ 6) (a : Int32) : fX10_letterOf S bs a = some (if a < 0 then -1 else if nI bs.length ≤ a then -1 else bs.getD a.toNatClampNeg 0) := by
  unfold fX10_letterOf fX10_letterOf_0
  by_cases h : a < 0
  · rw [if_pos h, if_pos h, fX10_letterOf_20, fX10_letterOf_21]
  · rw [if_neg h, if_neg h, fX10_letterOf_4, nI_ol]
    by_cases q : nI bs.length ≤ a
    · rw [if_pos q, if_pos q, fX10_letterOf_20, fX10_letterOf_21]
    · rw [if_neg q, if_neg q]
      obtain ⟨k, hk, e⟩ := nI_of h
      subst e
      have : k < bs.length := Classical.byContradiction fun z => q (nI_le (by omega) (by omega))
      rw [fX10_letterOf_12, gi_m this (by omega), fX10_letterOf_21]
theorem q_catNameByte (r : Rel S M) (a i : Int32) : Br S (fX10_catNameByte S a i) (fX11_catNameByte M a i) ∨ Bt (tX10_catNameByte S a i) (fX11_catNameByte M a i) "java/lang/IndexOutOfBoundsException" 1 := by
  rcases s_noCat r.1 a with ⟨k, hk, k8, ea, h1, h2, h3⟩ | ⟨h1, h2⟩
  · left
    obtain ⟨b1, b6, bl, bj⟩ := r.1.1.2.1 k hk
    rw [show 13 + (9 + k) = 13 + 1 + 8 + k by omega] at b1 b6 bl bj
    obtain ⟨v, cl, ev⟩ : ∃ v : Int32, fX10_letterOf S (S.2 (13 + 1 + 8 + k)) i = some v ∧ v = (if i < 0 then -1 else if nI (S.2 (13 + 1 + 8 + k)).length ≤ i then -1 else (S.2 (13 + 1 + 8 + k)).getD i.toNatClampNeg 0) := ⟨_, c_letterOf (S := S) b6 i, rfl⟩
    refine ⟨v, th M 0, ?_, ?_, r.thr, th_7⟩
    · unfold fX10_catNameByte fX10_catNameByte_0 fX10_catNameByte_5
      rw [h2, Option.bind_some, cl, Option.bind_some, fX10_catNameByte_12]
    · unfold fX11_catNameByte fX11_catNameByte_0
      rw [th_e, fX11_catNameByte_5, h1, Option.bind_some]
      dsimp only
      rw [fX11_catNameByte_10, if_pos rfl, fX11_catNameByte_15, ea, rC (f := 0) (ff := 0) rfl k8 (by omega), Option.bind_some, fX11_catNameByte_23, th_2, bl, inR b1 (by omega), Option.bind_some, fX11_catNameByte_28]
      rw [ev]
      by_cases h : i < 0
      · rw [if_pos h, if_pos h, if_pos rfl, fX11_catNameByte_42, fX11_catNameByte_43]
      · rw [if_neg h, if_neg h]
        by_cases q : nI (S.2 (13 + 1 + 8 + k)).length ≤ i
        · rw [if_pos q, if_pos q, if_pos rfl, fX11_catNameByte_42, fX11_catNameByte_43]
        · rw [if_neg q, if_neg q, if_neg one0]
          obtain ⟨j, hj, e⟩ := nI_of h
          subst e
          have lt : j < (S.2 (13 + 1 + 8 + k)).length := Classical.byContradiction fun z => q (nI_le (by omega) (by omega))
          rw [fX11_catNameByte_31, show (1 : Int32) + nI j = nI (1 + j) from nI_add 1 j, rC (f := 1 + j) rfl k8 (by omega), Option.bind_some, fX11_catNameByte_39, fX11_catNameByte_43, nI_c (by omega), (bj j lt).1, th_2, show (65 + 12 * k + 0) + 1 + j = (65 + 12 * k + (1 + j)) by omega]
  · right
    refine ⟨0, S, th M 1, ?_, ?_, r.thr, th_7⟩
    · unfold tX10_catNameByte tX10_catNameByte_0
      rw [h2]
    · unfold fX11_catNameByte fX11_catNameByte_0
      rw [th_e, fX11_catNameByte_5, h1, Option.bind_some]
      dsimp only
      rw [fX11_catNameByte_10, if_neg one0, fX11_catNameByte_13]
theorem q_sackNameByte (r : Rel S M) (a i : Int32) : Br S (fX10_sackNameByte S a i) (fX11_sackNameByte M a i) ∨ Bt (tX10_sackNameByte S a i) (fX11_sackNameByte M a i) "java/lang/IndexOutOfBoundsException" 1 := by
  rcases s_noSack r.1 a with ⟨k, hk, k8, ea, h1, h2, h3⟩ | ⟨h1, h2⟩
  · left
    obtain ⟨b1, b6, bl, bj⟩ := r.1.1.2.2 k hk
    rw [show 13 + (17 + k) = 13 + 2 + 15 + k by omega] at b1 b6 bl bj
    obtain ⟨v, cl, ev⟩ : ∃ v : Int32, fX10_letterOf S (S.2 (13 + 2 + 15 + k)) i = some v ∧ v = (if i < 0 then -1 else if nI (S.2 (13 + 2 + 15 + k)).length ≤ i then -1 else (S.2 (13 + 2 + 15 + k)).getD i.toNatClampNeg 0) := ⟨_, c_letterOf (S := S) b6 i, rfl⟩
    refine ⟨v, th M 0, ?_, ?_, r.thr, th_7⟩
    · unfold fX10_sackNameByte fX10_sackNameByte_0 fX10_sackNameByte_5
      rw [h2, Option.bind_some, cl, Option.bind_some, fX10_sackNameByte_12]
    · unfold fX11_sackNameByte fX11_sackNameByte_0
      rw [th_e, fX11_sackNameByte_5, h1, Option.bind_some]
      dsimp only
      rw [fX11_sackNameByte_10, if_pos rfl, fX11_sackNameByte_15, ea, rS (f := 0) (ff := 0) rfl k8 (by omega), Option.bind_some, fX11_sackNameByte_23, th_2, bl, inR b1 (by omega), Option.bind_some, fX11_sackNameByte_28]
      rw [ev]
      by_cases h : i < 0
      · rw [if_pos h, if_pos h, if_pos rfl, fX11_sackNameByte_42, fX11_sackNameByte_43]
      · rw [if_neg h, if_neg h]
        by_cases q : nI (S.2 (13 + 2 + 15 + k)).length ≤ i
        · rw [if_pos q, if_pos q, if_pos rfl, fX11_sackNameByte_42, fX11_sackNameByte_43]
        · rw [if_neg q, if_neg q, if_neg one0]
          obtain ⟨j, hj, e⟩ := nI_of h
          subst e
          have lt : j < (S.2 (13 + 2 + 15 + k)).length := Classical.byContradiction fun z => q (nI_le (by omega) (by omega))
          rw [fX11_sackNameByte_31, show (1 : Int32) + nI j = nI (1 + j) from nI_add 1 j, rS (f := 1 + j) rfl k8 (by omega), Option.bind_some, fX11_sackNameByte_39, fX11_sackNameByte_43, nI_c (by omega), (bj j lt).1, th_2, show (161 + 12 * k + 0) + 1 + j = (161 + 12 * k + (1 + j)) by omega]
  · right
    refine ⟨0, S, th M 1, ?_, ?_, r.thr, th_7⟩
    · unfold tX10_sackNameByte tX10_sackNameByte_0
      rw [h2]
    · unfold fX11_sackNameByte fX11_sackNameByte_0
      rw [th_e, fX11_sackNameByte_5, h1, Option.bind_some]
      dsimp only
      rw [fX11_sackNameByte_10, if_neg one0, fX11_sackNameByte_13]
theorem q_truncateInput (r : Rel S M) (a : Int32) : Bo (fX10_truncateInput S a) (fX11_truncateInput M a) := by
  obtain ⟨r1, ⟨n, t1, t2, t3, t4, t5⟩, rp, rs, ro⟩ := r
  unfold fX10_truncateInput fX10_truncateInput_0 fX11_truncateInput fX11_truncateInput_0 fX11_truncateInput_5
  rw [th_e, r_inRange, Option.bind_some, fX11_truncateInput_14, th_o (by omega), t2]
  have rel0 : Rel S (th M 0) := Rel.thr ⟨r1, ⟨n, t1, t2, t3, t4, t5⟩, rp, rs, ro⟩
  by_cases h : a < 0
  · rw [if_pos h, if_pos h, if_pos rfl, fX10_truncateInput_15, fX11_truncateInput_17]
    exact ⟨0, S, th M 0, rfl, rfl, rel0, th_7⟩
  · obtain ⟨k, hk, e⟩ := nI_of h
    subst e
    have n600 := t3.1
    rw [if_neg h, if_neg h, fX10_truncateInput_4, t1]
    by_cases q : k ≤ n
    · rw [if_pos (nI_le q (by omega)), if_neg (nI_nlt (by omega) (by omega)), if_neg one0, fX10_truncateInput_17, fX10_truncateInput_25, fX11_truncateInput_19, fX11_truncateInput_24]
      refine ⟨1, _, _, rfl, rfl, ⟨⟨?_, r1.2⟩, ⟨k, ?_, ?_, ⟨by omega, fun j hj => ?_⟩, ?_, ?_⟩, rp.fr ?_ ?_ ?_ ?_, rs.fr ?_ ?_ ?_ ?_, ro.fr ?_ ?_ ?_ ?_⟩, ?_⟩
      · exact r1.1.fr r1.2 (fun p h1 h2 => ⟨by dsimp only; rw [vne (by omega)], rfl⟩)
      · dsimp only; rw [vat, pk_us]
      · dsimp only; rw [vat]
      · dsimp only; rw [vne (by omega)]; exact t3.2 j (by omega)
      · dsimp only; rw [vat, pk_un (by omega), vne (by omega), th_o (by omega)]; exact t4
      · dsimp only; rw [vat, pk_un (by omega), vne (by omega), th_o (by omega)]; exact t5
      · dsimp only; rw [vne (by omega)]
      · exact fun p h1 => ⟨by dsimp only; rw [vne (by omega)], rfl⟩
      · dsimp only; rw [vne (by omega), th_o (by omega)]
      · rfl
      · dsimp only; rw [vne (by omega)]
      · exact fun p h1 h2 => ⟨by dsimp only; rw [vne (by omega)], rfl⟩
      · dsimp only; rw [vne (by omega), th_o (by omega)]
      · rfl
      · dsimp only; rw [vne (by omega)]
      · dsimp only; rw [vne (by omega)]
      · dsimp only; rw [vne (by omega), th_o (by omega)]
      · rfl
      · dsimp only; rw [vne (by omega), th_7]
    · rw [if_neg (nI_ge (by omega) (by omega)), if_pos (nI_lt (by omega) (by omega)), if_pos rfl, fX10_truncateInput_15, fX11_truncateInput_17]
      exact ⟨0, S, th M 0, rfl, rfl, rel0, th_7⟩
theorem q_outputByte (r : Rel S M) (a : Int32) : Br S (fX10_outputByte S a) (fX11_outputByte M a) := by
  obtain ⟨n, n100, o1, o2, o3⟩ := r.2.2.2.2
  have rel0 : Rel S (th M 0) := r.thr
  unfold fX10_outputByte fX10_outputByte_0 fX11_outputByte fX11_outputByte_0 fX11_outputByte_5
  rw [th_e, r_inRange, Option.bind_some, fX11_outputByte_16, th_o (by omega), o2]
  by_cases h : a < 0
  · rw [if_pos h, if_pos h, if_pos rfl, fX10_outputByte_27, fX10_outputByte_28, fX11_outputByte_28, fX11_outputByte_29]
    exact ⟨-1, th M 0, rfl, rfl, rel0, th_7⟩
  · obtain ⟨k, hk, e⟩ := nI_of h
    subst e
    rw [if_neg h, if_neg h, fX10_outputByte_4, o1]
    by_cases q : k < n
    · rw [if_neg (nI_ge q (by omega)), show nI n - 1 = nI (n - 1) from pk_sub (b := 1) (by omega), if_neg (nI_nlt (by omega) (by omega)), if_neg one0, fX10_outputByte_15, gi_m (show k < 100 by omega) (by omega), fX10_outputByte_28, fX11_outputByte_19, gi_m (show k < 200 by omega) (by omega), fX11_outputByte_29, nI_c (by omega), o3 k q]
      exact ⟨_, th M 0, rfl, rfl, rel0, th_7⟩
    · have q2 : nI n - 1 < nI k := by
        by_cases z : n = 0
        · subst z
          rw [i32]
          have e1 : (nI 0 - 1 : Int32).toInt = -1 := by decide
          have : ¬ (nI k).toInt < (0 : Int32).toInt := fun y => h (i32.mpr y)
          have e0 : (0 : Int32).toInt = 0 := by decide
          omega
        · rw [show nI n - 1 = nI (n - 1) from pk_sub (b := 1) (by omega)]
          exact nI_lt (by omega) (by omega)
      rw [if_pos (nI_le (by omega) (by omega)), if_pos q2, if_pos rfl, fX10_outputByte_27, fX10_outputByte_28, fX11_outputByte_28, fX11_outputByte_29]
      exact ⟨-1, th M 0, rfl, rfl, rel0, th_7⟩
end READ2
