/-! appended bytes, both sides -/
section APP
def bC (m : Nat) : Int32 := Int32.ofBitVec ((BitVec.ofNat 8 m).signExtend 32)
def BR (c r : Int32) : Prop := kdB c = kdB r ∧ (kdB r ≠ 5 → c = r) ∧ ¬ r = -1
theorem BR_all : ∀ m : Fin 256, kdB (bC m.val) = kdB (nI m.val) ∧ (kdB (nI m.val) ≠ 5 → bC m.val = nI m.val) ∧ ¬ nI m.val = -1 := by decide +kernel
theorem bC_eq (x : Int32) : x.toInt8.toInt32 = bC (x.toBitVec.toNat % 256) := by
  unfold bC
  apply Int32.toBitVec_inj.mp
  rw [Int8.toBitVec_toInt32, Int32.toBitVec_toInt8]
  show _ = BitVec.signExtend 32 (BitVec.ofNat 8 (x.toBitVec.toNat % 256))
  congr 1
  apply BitVec.eq_of_toNat_eq
  rw [BitVec.signExtend_eq_setWidth_of_le _ (by omega), BitVec.toNat_setWidth, BitVec.toNat_ofNat]
  omega
theorem bR_eq (x : Int32) : x &&& 255 = nI (x.toBitVec.toNat % 256) := by
  apply Int32.toBitVec_inj.mp
  apply BitVec.eq_of_toNat_eq
  rw [Int32.toBitVec_and, BitVec.toNat_and]
  show x.toBitVec.toNat &&& 255 = (BitVec.ofNat 32 (x.toBitVec.toNat % 256)).toNat
  rw [BitVec.toNat_ofNat, show (255 : Nat) = 2 ^ 8 - 1 from rfl, Nat.and_two_pow_sub_one_eq_mod]
  omega
theorem BR_of (x : Int32) : BR (x.toInt8.toInt32) (x &&& 255) := by
  rw [bC_eq, bR_eq]
  exact BR_all ⟨x.toBitVec.toNat % 256, Nat.mod_lt _ (by omega)⟩
theorem nar_b (x : Int32) : vp_nar .byte x.toInt8.toInt32 = x.toInt8.toInt32 := by
  show (x.toInt8.toInt32).toInt8.toInt32 = x.toInt8.toInt32
  rw [Int8.toInt8_toInt32]
variable {S S' : CS} {M M' : MS} {n : Nat}
/-- the bytes so far -/
def AP (S : CS) (M : MS) (S' : CS) (M' : MS) (n : Nat) : Prop := S'.1 1 2 = nI n ∧ M'.1 9 = nI n ∧ TBy n (S'.1 2) (M'.2 8) ∧ (∀ f, f ≠ 2 → S'.1 1 f = S.1 1 f) ∧ (∀ q, q ≠ 1 → q ≠ 2 → S'.1 q = S.1 q) ∧ S'.2 = S.2 ∧ (∀ j, j ≠ 9 → M'.1 j = M.1 j) ∧ (∀ j, j ≠ 8 → M'.2 j = M.2 j)
theorem a_one {S0 : CS} {M0 : MS} (a : AP S0 M0 S M n) (hn : n < 600) (x : Int32) : ∃ S', fX8_append S x = some S' ∧ AP S0 M0 S' (va_up M.1 9 (nI (n + 1)), va_up M.2 8 (upd (M.2 8) n (x &&& 255))) (n + 1) := by
  obtain ⟨a1, a2, a3, a4, a5, a6, a7, a8⟩ := a
  refine ⟨(va_up (va_up S.1 2 (upd (S.1 2) n (x.toInt8.toInt32))) 1 (upd (S.1 1) 2 (nI (n + 1))), S.2), ?_, ?_, ?_, ⟨by omega, fun j hj => ?_⟩, fun f hf => ?_, fun q q1 q2 => ?_, a6, fun j hj => ?_, fun j hj => ?_⟩
  · unfold fX8_append fX8_append_0
    rw [a1, if_neg (show ¬ (600 : Int32) ≤ nI n from nI_ge (b := 600) hn (by omega)), fX8_append_12, a1, gi_m hn (by omega), nI_c (by omega), nar_b, fX8_append_23]
    dsimp only
    rw [vne (by omega), a1, nI_1, fX8_append_33]
  · dsimp only; rw [vat, pk_us]
  · dsimp only; rw [vat]
  · dsimp only
    rw [vne (by omega), vat, vat]
    by_cases z : j = n
    · subst z; rw [pk_us, pk_us]; exact BR_of x
    · rw [pk_un z, pk_un z]; exact a3.2 j (by omega)
  · dsimp only; rw [vat, pk_un hf]; exact a4 f hf
  · dsimp only; rw [vne q1, vne q2]; exact a5 q q1 q2
  · dsimp only; rw [vne hj]; exact a7 j hj
  · dsimp only; rw [vne hj]; exact a8 j hj
theorem r_app1 {f : Nat} {x b b' v : Int32} (h9 : M.1 9 = nI n) (hn : n < 600) (hb : ¬ b < 0) (hb' : b + (-8) = b') (hv : x >>> (b &&& 31) = v) : fX11_appendWord_3 (f + 1) M x b = fX11_appendWord_3 f (va_up M.1 9 (nI (n + 1)), va_up M.2 8 (upd (M.2 8) n (v &&& 255))) x b' := by
  rw [fX11_appendWord_3]
  dsimp only
  rw [if_neg hb, fX11_appendWord_7, h9, gi_m hn (by omega), nI_c (by omega), fX11_appendWord_23]
  dsimp only
  rw [h9, nI_1, fX11_appendWord_33, hb', hv]
theorem a_one' {S0 : CS} {M0 : MS} (a : AP S0 M0 S M n) (hn : n < 600) (x : Int32) : ∃ S' M', fX8_append S x = some S' ∧ (∀ (f : Nat) (y b b' : Int32), ¬ b < 0 → b + (-8) = b' → y >>> (b &&& 31) = x → fX11_appendWord_3 (f + 1) M y b = fX11_appendWord_3 f M' y b') ∧ AP S0 M0 S' M' (n + 1) := by
  obtain ⟨S', c, d⟩ := a_one a hn x
  exact ⟨S', _, c, fun f y b b' hb h1 h2 => r_app1 a.2.1 hn hb h1 h2, d⟩
theorem shr0 (x : Int32) : x >>> ((0 : Int32) &&& 31) = x := by
  apply Int32.toBitVec_inj.mp
  rw [Int32.toBitVec_shiftRight]
  simp
theorem a_four {S0 : CS} {M0 : MS} (a : AP S0 M0 S M n) (hn : n + 4 ≤ 600) (x : Int32) : ∃ S' M', fX8_appendFour S x = some S' ∧ fX11_appendWord M x = some M' ∧ AP S0 M0 S' M' (n + 4) := by
  obtain ⟨S1, M1, c1, d1, a1⟩ := a_one' a (by omega) (x >>> (24 &&& 31))
  obtain ⟨S2, M2, c2, d2, a2⟩ := a_one' a1 (by omega) (x >>> (16 &&& 31))
  obtain ⟨S3, M3, c3, d3, a3⟩ := a_one' a2 (by omega) (x >>> (8 &&& 31))
  obtain ⟨S4, M4, c4, d4, a4⟩ := a_one' a3 (by omega) x
  refine ⟨S4, M4, ?_, ?_, a4⟩
  · unfold fX8_appendFour fX8_appendFour_0
    rw [c1, Option.bind_some, fX8_appendFour_8, c2, Option.bind_some, fX8_appendFour_16, c3, Option.bind_some, fX8_appendFour_24, c4, Option.bind_some, fX8_appendFour_29]
  · unfold fX11_appendWord fX11_appendWord_0
    rw [show FU = 2995 + 1 + 1 + 1 + 1 + 1 from rfl, d1 _ x 24 16 (by decide) (by decide) rfl, d2 _ x 16 8 (by decide) (by decide) rfl, d3 _ x 8 0 (by decide) (by decide) rfl, d4 _ x 0 (-8) (by decide) (by decide) (shr0 x), fX11_appendWord_3]
    dsimp only
    rw [if_pos (by decide), fX11_appendWord_39]
theorem q_appendInput (r : Rel S M) (a b c d e : Int32) : Bo (fX10_appendInput S a b c d e) (fX11_appendInput M a b c d e) := by
  have rr := r.thr (v := 0)
  obtain ⟨⟨g, i⟩, ⟨n, t1, t2, t3, t4, t5⟩, rp, rs, ro⟩ := rr
  have n600 := t3.1
  unfold fX10_appendInput fX10_appendInput_0 fX11_appendInput fX11_appendInput_0 fX11_appendInput_5
  rw [th_e, t1, t2, show nI n + 20 = nI (n + 20) from nI_add n 20]
  by_cases q : n + 20 ≤ 600
  · rw [if_pos (show nI (n + 20) ≤ (600 : Int32) from nI_le (b := 600) q (by omega)), if_pos (show nI (n + 20) ≤ (600 : Int32) from nI_le (b := 600) q (by omega))]
    have a0 : AP S (th M 0) S (th M 0) n := ⟨t1, t2, t3, fun f _ => rfl, fun q _ _ => rfl, rfl, fun j _ => rfl, fun j _ => rfl⟩
    obtain ⟨S1, M1, c1, d1, a1⟩ := a_four a0 (by omega) a
    obtain ⟨S2, M2, c2, d2, a2⟩ := a_four a1 (by omega) b
    obtain ⟨S3, M3, c3, d3, a3⟩ := a_four a2 (by omega) c
    obtain ⟨S4, M4, c4, d4, a4⟩ := a_four a3 (by omega) d
    obtain ⟨S5, M5, c5, d5, a5⟩ := a_four a4 (by omega) e
    rw [fX10_appendInput_18, c1, Option.bind_some, fX10_appendInput_26, c2, Option.bind_some, fX10_appendInput_34, c3, Option.bind_some, fX10_appendInput_42, c4, Option.bind_some, fX10_appendInput_51, c5, Option.bind_some, fX10_appendInput_60, fX11_appendInput_20, d1, Option.bind_some, fX11_appendInput_25, d2, Option.bind_some, fX11_appendInput_30, d3, Option.bind_some, fX11_appendInput_35, d4, Option.bind_some, fX11_appendInput_41, d5, Option.bind_some, fX11_appendInput_47]
    obtain ⟨b1, b2, b3, b4, b5, b6, b7, b8⟩ := a5
    have bq : ∀ q, q ≠ 1 → q ≠ 2 → S5.1 q = S.1 q ∧ S5.2 q = S.2 q := fun q q1 q2 => ⟨b5 q q1 q2, by rw [b6]⟩
    refine ⟨nI (n + 4 + 4 + 4 + 4 + 4), S5, M5, by rw [b1], by rw [b2], ⟨⟨?_, ?_⟩, ⟨_, b1, b2, b3, ?_, ?_⟩, rp.fr ?_ ?_ ?_ ?_, rs.fr ?_ ?_ ?_ ?_, ro.fr ?_ ?_ ?_ ?_⟩, ?_⟩
    · rw [b8 0 (by omega)]; exact g.fr i (fun q h1 h2 => bq q (by omega) (by omega))
    · rw [b8 0 (by omega)]; exact i
    · rw [b4 7 (by omega), b7 10 (by omega)]; exact t4
    · rw [b4 8 (by omega), b7 11 (by omega)]; exact t5
    · exact b5 0 (by omega) (by omega)
    · exact fun q h => bq q (by omega) (by omega)
    · exact b7 5 (by omega)
    · exact b8 4 (by omega)
    · rw [b5 0 (by omega) (by omega)]
    · exact fun q h h2 => bq q (by omega) (by omega)
    · exact b7 6 (by omega)
    · exact b8 3 (by omega)
    · exact b5 5 (by omega) (by omega)
    · exact b5 6 (by omega) (by omega)
    · exact b7 24 (by omega)
    · exact b8 23 (by omega)
    · rw [b7 7 (by omega), th_7]
  · rw [if_neg (show ¬ nI (n + 20) ≤ (600 : Int32) from nI_ge (a := 600) (by omega) (by omega)), if_neg (show ¬ nI (n + 20) ≤ (600 : Int32) from nI_ge (a := 600) (by omega) (by omega)), fX10_appendInput_16, fX11_appendInput_18]
    exact ⟨-1, S, th M 0, rfl, rfl, r.thr, th_7⟩
end APP
