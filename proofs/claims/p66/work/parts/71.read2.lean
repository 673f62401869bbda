/-! more calls that only read, both sides -/
section READ2
variable {S S' : CS} {M M' : MS} {n t k : Nat} {w w' : Wd}
theorem thw : mw (th M 0) (M.2 0) = th M 0 := by
  have := mw_self (M := th M 0)
  exact this
theorem GR.cwE (g : GR S t w) : ∃ E, cw S t (nC w) (nS w) (nH w) w E = S ∧ EvRel E w := g.1
theorem q_strengthOf (r : Rel S M) (a : Int32) : Br S (fX10_strengthOf S a) (fX11_strengthOf M a) ∨ Bt (tX10_strengthOf S a) (fX11_strengthOf M a) "java/lang/IndexOutOfBoundsException" 1 := by
  rcases s_noCat r.1 a with ⟨k, hk, k8, ea, h1, h2, h3⟩ | ⟨h1, h2⟩
  · left
    refine ⟨strengthW (M.2 0) k, th M 0, ?_, ?_, r.thr, th_7⟩
    · obtain ⟨E, e, -⟩ := r.1.1.cwE
      have c := c_strength (S := S) (t := 13) (nc := nC (M.2 0)) (ns := nS (M.2 0)) (nh := nH (M.2 0)) (w := M.2 0) (E := E) hk k8
      rw [e] at c
      unfold fX10_strengthOf fX10_strengthOf_0 fX10_strengthOf_5
      rw [h2, Option.bind_some, c, Option.bind_some, fX10_strengthOf_8]
    · have c := r_strength (M := th M 0) (w := M.2 0) k8
      rw [thw] at c
      unfold fX11_strengthOf fX11_strengthOf_0
      rw [th_e, fX11_strengthOf_5, h1, Option.bind_some]
      dsimp only
      rw [fX11_strengthOf_10, if_pos rfl, fX11_strengthOf_17, ea, c, Option.bind_some, fX11_strengthOf_22]
  · right
    refine ⟨0, S, th M 1, ?_, ?_, r.thr, th_7⟩
    · unfold tX10_strengthOf tX10_strengthOf_0
      rw [h2]
    · unfold fX11_strengthOf fX11_strengthOf_0
      rw [th_e, fX11_strengthOf_5, h1, Option.bind_some]
      dsimp only
      rw [fX11_strengthOf_10, if_neg one0, fX11_strengthOf_13, fX11_strengthOf_22]
theorem rOpen (hk : k < 6) (f : M.2 0 (161 + 12 * k + 9) = 0 ∨ M.2 0 (161 + 12 * k + 9) = 1) : fX11_isOpenSack M (nI k) = some (M.2 0 (161 + 12 * k + 9)) := by
  unfold fX11_isOpenSack fX11_isOpenSack_0
  rw [rS (f := 9) (ff := 9) rfl hk (by omega), Option.bind_some, fX11_isOpenSack_7]
  rcases f with z | z
  · rw [z, if_neg (by decide), fX11_isOpenSack_15, fX11_isOpenSack_16]; rfl
  · rw [z, if_pos rfl, fX11_isOpenSack_11, fX11_isOpenSack_16]; rfl
theorem q_isOpen (r : Rel S M) (a : Int32) : Br S (fX10_isOpen S a) (fX11_isOpen M a) ∨ Bt (tX10_isOpen S a) (fX11_isOpen M a) "java/lang/IndexOutOfBoundsException" 1 := by
  rcases s_noSack r.1 a with ⟨k, hk, k8, ea, h1, h2, h3⟩ | ⟨h1, h2⟩
  · left
    have pw := r.1.2.1.2.2.1 k hk
    refine ⟨M.2 0 (161 + 12 * k + 9), th M 0, ?_, ?_, r.thr, th_7⟩
    · unfold fX10_isOpen fX10_isOpen_0 fX10_isOpen_5
      rw [h2, Option.bind_some, show S.1 (13 + 2 + 15 + k) 3 = M.2 0 (161 + 12 * k + 9) from r.1.1.sack (f := 3) hk k8 (by omega) (by omega)]
      exact bq_s pw
    · unfold fX11_isOpen fX11_isOpen_0
      rw [th_e, fX11_isOpen_5, h1, Option.bind_some]
      dsimp only
      rw [fX11_isOpen_10, if_pos rfl, fX11_isOpen_13, ea, rOpen (M := th M 0) k8 pw, Option.bind_some, fX11_isOpen_18, th_2]
      rcases pw with z | z
      · rw [z, if_pos rfl, fX11_isOpen_25, fX11_isOpen_26]; rfl
      · rw [z, if_neg one0, fX11_isOpen_21, fX11_isOpen_26]; rfl
  · right
    refine ⟨0, S, th M 1, ?_, ?_, r.thr, th_7⟩
    · unfold tX10_isOpen tX10_isOpen_0
      rw [h2]
    · unfold fX11_isOpen fX11_isOpen_0
      rw [th_e, fX11_isOpen_5, h1, Option.bind_some]
      dsimp only
      rw [fX11_isOpen_10, if_neg one0, fX11_isOpen_25, fX11_isOpen_26]; rfl
theorem q_truncateInput (r : Rel S M) (a : Int32) : Bo (fX10_truncateInput S a) (fX11_truncateInput M a) := by
  obtain ⟨r1, ⟨n, t1, t2, t3, t4, t5⟩, rp, rs, ro⟩ := r
  unfold fX10_truncateInput fX10_truncateInput_0 fX11_truncateInput fX11_truncateInput_0 fX11_truncateInput_5
  rw [th_e, r_inRange, Option.bind_some, fX11_truncateInput_14, th_o (by omega), t2]
  have rel0 : Rel S (th M 0) := Rel.thr ⟨r1, ⟨n, t1, t2, t3, t4, t5⟩, rp, rs, ro⟩
  by_cases h : a < 0
  · rw [if_pos h, if_pos h, if_pos rfl, fX10_truncateInput_15, fX11_truncateInput_17]
    exact ⟨0, S, th M 0, rfl, rfl, rel0, th_7⟩
  · obtain ⟨k, hk, e⟩ := nI_of h
    subst e
    have n600 := t3.1
    rw [if_neg h, if_neg h, fX10_truncateInput_4, t1]
    by_cases q : k ≤ n
    · rw [if_pos (nI_le q (by omega)), if_neg (nI_nlt (by omega) (by omega)), if_neg one0, fX10_truncateInput_17, fX10_truncateInput_25, fX11_truncateInput_19, fX11_truncateInput_24]
      refine ⟨1, _, _, rfl, rfl, ⟨⟨?_, r1.2⟩, ⟨k, ?_, ?_, ⟨by omega, fun j hj => ?_⟩, ?_, ?_⟩, rp.fr ?_ ?_ ?_ ?_, rs.fr ?_ ?_ ?_ ?_, ro.fr ?_ ?_ ?_ ?_⟩, ?_⟩
      · exact r1.1.fr r1.2 (fun p h1 h2 => ⟨by dsimp only; rw [vne (by omega)], rfl⟩)
      · dsimp only; rw [vat, pk_us]
      · dsimp only; rw [vat]
      · dsimp only; rw [vne (by omega)]; exact t3.2 j (by omega)
      · dsimp only; rw [vat, pk_un (by omega), vne (by omega), th_o (by omega)]; exact t4
      · dsimp only; rw [vat, pk_un (by omega), vne (by omega), th_o (by omega)]; exact t5
      · dsimp only; rw [vne (by omega)]
      · exact fun p h1 => ⟨by dsimp only; rw [vne (by omega)], rfl⟩
      · dsimp only; rw [vne (by omega), th_o (by omega)]
      · rfl
      · dsimp only; rw [vne (by omega)]
      · exact fun p h1 h2 => ⟨by dsimp only; rw [vne (by omega)], rfl⟩
      · dsimp only; rw [vne (by omega), th_o (by omega)]
      · rfl
      · dsimp only; rw [vne (by omega)]
      · dsimp only; rw [vne (by omega)]
      · dsimp only; rw [vne (by omega), th_o (by omega)]
      · rfl
      · dsimp only; rw [vne (by omega), th_7]
    · rw [if_neg (nI_ge (by omega) (by omega)), if_pos (nI_lt (by omega) (by omega)), if_pos rfl, fX10_truncateInput_15, fX11_truncateInput_17]
      exact ⟨0, S, th M 0, rfl, rfl, rel0, th_7⟩
end READ2
