/-! averageTiredness and shareOf, both sides -/
section FLTS
variable {S : CS} {M : MS} {n t k : Nat} {w : Wd}
theorem c_avg_l {nc : Nat} (h5 : S.1 13 5 = nI nc) (h8 : nc ≤ 8) {g : Nat → Int32} (hg : ∀ i, i < nc → S.1 (13 + 1 + 8 + i) 3 = g i) : ∀ r i k (x : Int32), nc = i + r → r < k → fX10_averageTiredness_16 k S x (nI i) = fX10_averageTiredness_48 S (sumA g r i x) := by
  intro r
  induction r with
  | zero =>
    intro i k x hi hk
    obtain ⟨k, rfl⟩ : ∃ g, k = g + 1 := ⟨k - 1, by omega⟩
    rw [fX10_averageTiredness_16]
    dsimp only
    rw [h5, if_pos (nI_le (by omega) (by omega))]
    rfl
  | succ r ih =>
    intro i k x hi hk
    obtain ⟨k, rfl⟩ : ∃ g, k = g + 1 := ⟨k - 1, by omega⟩
    rw [fX10_averageTiredness_16]
    dsimp only
    rw [h5, if_neg (nI_ge (show i < nc by omega) (by omega)), fX10_averageTiredness_27, gi_m (show i < 8 by omega) (by omega), nI_c (by omega), hg i (by omega), nI_1, ih (i + 1) k _ (by omega) (by omega)]
    rfl
theorem q_averageTiredness (hnn : NNAN) (r : Rel S M) : ∃ v M', fX10_averageTiredness S = some (v, S) ∧ fX11_averageTiredness M = some (v, M') ∧ Rel S M' ∧ M'.1 7 = 0 ∧ vf_n64 v := by
  obtain ⟨n1, n8, h0⟩ : 1 ≤ nC (M.2 0) ∧ nC (M.2 0) ≤ 8 ∧ M.2 0 0 = nI (nC (M.2 0)) := ⟨r.1.2.1.1.sz.1.1, r.1.2.1.1.sz.1.2.1, r.1.2.1.1.sz.1.2.2⟩
  have e5 : S.1 13 5 = nI (nC (M.2 0)) := (r.1.1.hd (f := 5) (q := 0) (by unfold cm; simp) (by omega)).trans h0
  have ne : ¬ nI (nC (M.2 0)) = (0 : Int32) := fun z => by have := (nI_eq (b := 0) (by omega) (by omega)).mp z; omega
  refine ⟨FP.ddiv (FP.i2d (sumA (fun j => M.2 0 (65 + 12 * j + 9)) (nC (M.2 0)) 0 0)) (FP.i2d (nI (nC (M.2 0)))), th M 0, ?_, ?_, r.thr, th_7, hnn.1 ne⟩
  · unfold fX10_averageTiredness fX10_averageTiredness_0
    have := c_avg_l e5 n8 (g := fun j => M.2 0 (65 + 12 * j + 9)) (fun i hi => r.1.1.cat (f := 3) hi (by omega) (by omega) (by omega)) (nC (M.2 0)) 0 FU 0 (by omega) (by rw [FU_eq]; omega)
    rw [nI_0] at this
    rw [e5, if_neg ne, fX10_averageTiredness_12, this, fX10_averageTiredness_48, e5, if_pos ne]
  · have c := r_sumOf (M := th M 0) (w := M.2 0) (a := 65) (m := 0) (f := 9) (cnt := nC (M.2 0)) (by omega) h0 n8 (by omega) (by omega)
    rw [thw] at c
    unfold fX11_averageTiredness fX11_averageTiredness_0
    rw [th_e, fX11_averageTiredness_5, show fX11_sumOf (th M 0) 65 0 9 = _ from c, Option.bind_some, fX11_averageTiredness_14, gi0, tn0, th_2, h0, if_pos ne]
theorem q_shareOf (hnn : NNAN) (r : Rel S M) (a : Int32) : (∃ v M', fX10_shareOf S a = some (v, S) ∧ fX11_shareOf M a = some (v, M') ∧ Rel S M' ∧ M'.1 7 = 0 ∧ vf_n32 v) ∨ ∃ v M', tX10_shareOf S a = some ("java/lang/IndexOutOfBoundsException", S) ∧ fX11_shareOf M a = some (v, M') ∧ Rel S M' ∧ M'.1 7 = 1 := by
  have e0 : S.1 (13 + 8) 0 = M.2 0 8 := r.1.1.tot (f := 0) (by omega)
  rcases s_noCat r.1 a with ⟨k, hk, k8, ea, h1, h2, h3⟩ | ⟨h1, h2⟩
  · left
    have e4 : S.1 (13 + 1 + 8 + k) 4 = M.2 0 (65 + 12 * k + 10) := r.1.1.cat (f := 4) hk k8 (by omega) (by omega)
    by_cases z : M.2 0 8 = 0
    · refine ⟨FP.fconst0, th M 0, ?_, ?_, r.thr, th_7, by unfold vf_n32; decide +kernel⟩
      · unfold fX10_shareOf fX10_shareOf_0
        rw [h2, Option.bind_some, fX10_shareOf_5, e0, if_pos z, fX10_shareOf_22]
      · unfold fX11_shareOf fX11_shareOf_0
        rw [th_e, fX11_shareOf_5, h1, Option.bind_some]
        dsimp only
        rw [fX11_shareOf_10, if_pos rfl, fX11_shareOf_13, gi8, tn8, th_2, if_pos z, fX11_shareOf_23]
    · refine ⟨FP.fdiv (FP.i2f (M.2 0 (65 + 12 * k + 10))) (FP.i2f (M.2 0 8)), th M 0, ?_, ?_, r.thr, th_7, hnn.2 z⟩
      · unfold fX10_shareOf fX10_shareOf_0
        rw [h2, Option.bind_some, fX10_shareOf_5, e0, if_neg z, fX10_shareOf_24, e0, if_pos z, e4]
      · have c := rC (M := th M 0) (f := 10) (ff := 10) rfl k8 (by omega)
        unfold fX11_shareOf fX11_shareOf_0
        rw [th_e, fX11_shareOf_5, h1, Option.bind_some]
        dsimp only
        rw [fX11_shareOf_10, if_pos rfl, fX11_shareOf_13, gi8, tn8, th_2, if_neg z, fX11_shareOf_25, ea, c, Option.bind_some, fX11_shareOf_32, gi8, tn8, th_2, if_pos z]
  · right
    refine ⟨FP.fconst0, th M 1, ?_, ?_, r.thr, th_7⟩
    · unfold tX10_shareOf tX10_shareOf_0
      rw [h2]
    · unfold fX11_shareOf fX11_shareOf_0
      rw [th_e, fX11_shareOf_5, h1, Option.bind_some]
      dsimp only
      rw [fX11_shareOf_10, if_neg one0, fX11_shareOf_23]
end FLTS
