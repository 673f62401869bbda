/-! the law's words of four letters: what the reference reads out of them -/
section GBYT
variable {S : CS} {M : MS} {n : Nat}
def wd4 (a b c d : Nat) : Nat := ((a * 256 + b) * 256 + c) * 256 + d
theorem or_step {a y : Nat} (ha : a < 2 ^ 23) (hy : y < 256) : (nI a <<< ((8 : Int32) &&& 31)) ||| nI y = nI (a * 256 + y) := by
  have e : nI a <<< ((8 : Int32) &&& 31) = nI (a * 2 ^ 8) := pk_shlN _ 8 (by decide +kernel) (by omega)
  rw [e]
  apply Int32.toBitVec_inj.mp
  apply BitVec.eq_of_toNat_eq
  rw [Int32.toBitVec_or, BitVec.toNat_or]
  show (BitVec.ofNat 32 (a * 2 ^ 8)).toNat ||| (BitVec.ofNat 32 y).toNat = (BitVec.ofNat 32 (a * 256 + y)).toNat
  rw [BitVec.toNat_ofNat, BitVec.toNat_ofNat, BitVec.toNat_ofNat, Nat.mod_eq_of_lt (by omega), Nat.mod_eq_of_lt (by omega), Nat.mod_eq_of_lt (by omega)]
  have := Nat.two_pow_add_eq_or_of_lt (i := 8) (show y < 2 ^ 8 by omega) a
  rw [Nat.mul_comm] at this
  rw [← this]
theorem r_word {x0 x1 x2 x3 : Nat} (h0 : x0 < 128) (h1 : x1 < 128) (h2 : x2 < 128) (h3 : x3 < 128) (h9 : M.1 9 = nI n) (hn : n + 4 ≤ 600) : fX11_appendWord M (nI (wd4 x0 x1 x2 x3)) = some (va_up M.1 9 (nI (n + 4)), va_up M.2 8 (upd (upd (upd (upd (M.2 8) n (nI x0)) (n + 1) (nI x1)) (n + 2) (nI x2)) (n + 3) (nI x3))) := by
  have hb : wd4 x0 x1 x2 x3 < 2 ^ 31 := by unfold wd4; omega
  have s24 : nI (wd4 x0 x1 x2 x3) >>> ((24 : Int32) &&& 31) = nI (wd4 x0 x1 x2 x3 / 2 ^ 24) := pk_shrN hb _ 24 (by decide +kernel)
  have s16 : nI (wd4 x0 x1 x2 x3) >>> ((16 : Int32) &&& 31) = nI (wd4 x0 x1 x2 x3 / 2 ^ 16) := pk_shrN hb _ 16 (by decide +kernel)
  have s8 : nI (wd4 x0 x1 x2 x3) >>> ((8 : Int32) &&& 31) = nI (wd4 x0 x1 x2 x3 / 2 ^ 8) := pk_shrN hb _ 8 (by decide +kernel)
  have m : ∀ N, N < 2 ^ 31 → nI N &&& 255 = nI (N % 2 ^ 8) := fun N hN => pk_andN (by omega) 8 (by decide +kernel)
  unfold fX11_appendWord fX11_appendWord_0
  rw [show FU = 2995 + 1 + 1 + 1 + 1 + 1 from rfl]
  rw [r_app1 (n := n) h9 (by omega) (by decide) (show (24 : Int32) + (-8) = 16 by decide) s24]
  rw [r_app1 (n := n + 1) (show va_up M.1 9 (nI (n + 1)) 9 = nI (n + 1) from vat) (by omega) (by decide) (show (16 : Int32) + (-8) = 8 by decide) s16]
  rw [r_app1 (n := n + 1 + 1) (show va_up (va_up M.1 9 (nI (n + 1))) 9 (nI (n + 1 + 1)) 9 = nI (n + 1 + 1) from vat) (by omega) (by decide) (show (8 : Int32) + (-8) = 0 by decide) s8]
  rw [r_app1 (n := n + 1 + 1 + 1) (show va_up (va_up (va_up M.1 9 (nI (n + 1))) 9 (nI (n + 1 + 1))) 9 (nI (n + 1 + 1 + 1)) 9 = nI (n + 1 + 1 + 1) from vat) (by omega) (by decide) (show (0 : Int32) + (-8) = -8 by decide) (shr0 _)]
  rw [fX11_appendWord_3]
  dsimp only
  rw [if_pos (by decide), fX11_appendWord_39, m _ (by omega), m _ (by omega), m _ (by omega), m _ hb]
  rw [show wd4 x0 x1 x2 x3 / 2 ^ 24 % 2 ^ 8 = x0 by unfold wd4; omega, show wd4 x0 x1 x2 x3 / 2 ^ 16 % 2 ^ 8 = x1 by unfold wd4; omega, show wd4 x0 x1 x2 x3 / 2 ^ 8 % 2 ^ 8 = x2 by unfold wd4; omega, show wd4 x0 x1 x2 x3 % 2 ^ 8 = x3 by unfold wd4; omega]
  simp only [up_up, va_s]
/-- twenty letters more -/
theorem f_append (r : Rel S M) (h9 : M.1 9 = nI n) (hn : n + 20 ≤ 600) (x : Nat → Nat) (hx : ∀ i, x i < 128) : ∃ a S' M', fX10_appendInput S (nI (wd4 (x 0) (x 1) (x 2) (x 3))) (nI (wd4 (x 4) (x 5) (x 6) (x 7))) (nI (wd4 (x 8) (x 9) (x 10) (x 11))) (nI (wd4 (x 12) (x 13) (x 14) (x 15))) (nI (wd4 (x 16) (x 17) (x 18) (x 19))) = some (a, S') ∧ Rel S' M' ∧ M'.1 9 = nI (n + 20) ∧ (∀ j, j < 20 → M'.2 8 (n + j) = nI (x j)) ∧ ∀ j, j < n → M'.2 8 j = M.2 8 j := by
  obtain ⟨a, S', M', c1, c2, c3, -⟩ := q_appendInput r (nI (wd4 (x 0) (x 1) (x 2) (x 3))) (nI (wd4 (x 4) (x 5) (x 6) (x 7))) (nI (wd4 (x 8) (x 9) (x 10) (x 11))) (nI (wd4 (x 12) (x 13) (x 14) (x 15))) (nI (wd4 (x 16) (x 17) (x 18) (x 19)))
  refine ⟨a, S', M', c1, c3, ?_⟩
  obtain ⟨M0, e0⟩ : ∃ M0 : MS, M0 = (va_up M.1 7 0, M.2) := ⟨_, rfl⟩
  have z0 : M0.1 9 = nI n := by rw [e0]; exact (show va_up M.1 7 0 9 = M.1 9 from vne (by omega)).trans h9
  have z8 : M0.2 8 = M.2 8 := by rw [e0]
  have w : ∀ (N : MS) (k i : Nat), N.1 9 = nI k → k + 4 ≤ 600 → ∃ N', fX11_appendWord N (nI (wd4 (x i) (x (i + 1)) (x (i + 2)) (x (i + 3)))) = some N' ∧ N'.1 9 = nI (k + 4) ∧ (∀ j, j < 4 → N'.2 8 (k + j) = nI (x (i + j))) ∧ ∀ j, j < k → N'.2 8 j = N.2 8 j := fun N k i h hk => by
    refine ⟨_, r_word (hx i) (hx (i + 1)) (hx (i + 2)) (hx (i + 3)) h hk, show va_up N.1 9 (nI (k + 4)) 9 = nI (k + 4) from vat, fun j hj => ?_, fun j hj => ?_⟩
    · show va_up N.2 8 (upd (upd (upd (upd (N.2 8) k (nI (x i))) (k + 1) (nI (x (i + 1)))) (k + 2) (nI (x (i + 2)))) (k + 3) (nI (x (i + 3)))) 8 (k + j) = _
      rw [vat]
      rcases (show j = 0 ∨ j = 1 ∨ j = 2 ∨ j = 3 by omega) with rfl | rfl | rfl | rfl
      · rw [pk_un (by omega), pk_un (by omega), pk_un (by omega)]; exact pk_us
      · rw [pk_un (by omega), pk_un (by omega), pk_us]
      · rw [pk_un (by omega), pk_us]
      · rw [pk_us]
    · show va_up N.2 8 (upd (upd (upd (upd (N.2 8) k (nI (x i))) (k + 1) (nI (x (i + 1)))) (k + 2) (nI (x (i + 2)))) (k + 3) (nI (x (i + 3)))) 8 j = _
      rw [vat, pk_un (by omega), pk_un (by omega), pk_un (by omega), pk_un (by omega)]
  obtain ⟨M1, a1, b1, d1, f1⟩ := w M0 n 0 z0 (by omega)
  obtain ⟨M2, a2, b2, d2, f2⟩ := w M1 (n + 4) 4 b1 (by omega)
  obtain ⟨M3, a3, b3, d3, f3⟩ := w M2 (n + 4 + 4) 8 b2 (by omega)
  obtain ⟨M4, a4, b4, d4, f4⟩ := w M3 (n + 4 + 4 + 4) 12 b3 (by omega)
  obtain ⟨M5, a5, b5, d5, f5⟩ := w M4 (n + 4 + 4 + 4 + 4) 16 b4 (by omega)
  unfold fX11_appendInput fX11_appendInput_0 at c2
  rw [← e0, fX11_appendInput_5, z0, show nI n + 20 = nI (n + 20) from nI_add n 20, if_pos (show nI (n + 20) ≤ (600 : Int32) from nI_le (b := 600) hn (by omega)), fX11_appendInput_20, a1, Option.bind_some, fX11_appendInput_25, a2, Option.bind_some, fX11_appendInput_30, a3, Option.bind_some, fX11_appendInput_35, a4, Option.bind_some, fX11_appendInput_41, a5, Option.bind_some, fX11_appendInput_47] at c2
  have eM : M5 = M' := congrArg Prod.snd (Option.some.inj c2)
  subst eM
  refine ⟨b5.trans (congrArg nI (by omega)), fun j hj => ?_, fun j hj => by rw [f5 j (by omega), f4 j (by omega), f3 j (by omega), f2 j (by omega), f1 j hj, z8]⟩
  rcases (show j < 4 ∨ (4 ≤ j ∧ j < 8) ∨ (8 ≤ j ∧ j < 12) ∨ (12 ≤ j ∧ j < 16) ∨ (16 ≤ j ∧ j < 20) by omega) with q | q | q | q | q
  · rw [f5 _ (by omega), f4 _ (by omega), f3 _ (by omega), f2 _ (by omega), d1 j q, Nat.zero_add]
  · rw [f5 _ (by omega), f4 _ (by omega), f3 _ (by omega), show n + j = n + 4 + (j - 4) by omega, d2 (j - 4) (by omega), show 4 + (j - 4) = j by omega]
  · rw [f5 _ (by omega), f4 _ (by omega), show n + j = n + 4 + 4 + (j - 8) by omega, d3 (j - 8) (by omega), show 8 + (j - 8) = j by omega]
  · rw [f5 _ (by omega), show n + j = n + 4 + 4 + 4 + (j - 12) by omega, d4 (j - 12) (by omega), show 12 + (j - 12) = j by omega]
  · rw [show n + j = n + 4 + 4 + 4 + 4 + (j - 16) by omega, d5 (j - 16) (by omega), show 16 + (j - 16) = j by omega]
theorem f_trunc {k : Nat} (r : Rel S M) (h9 : M.1 9 = nI n) (hn : n ≤ 600) (hk : k ≤ n) : ∃ a S' M', fX10_truncateInput S (nI k) = some (a, S') ∧ Rel S' M' ∧ M'.1 9 = nI k ∧ M'.2 8 = M.2 8 := by
  obtain ⟨a, S', M', c1, c2, c3, -⟩ := q_truncateInput r (nI k)
  have z9 : va_up M.1 7 0 9 = nI n := (show va_up M.1 7 0 9 = M.1 9 from vne (by omega)).trans h9
  have e : fX11_truncateInput M (nI k) = some (1, (va_up (va_up M.1 7 0) 9 (nI k), M.2)) := by
    unfold fX11_truncateInput fX11_truncateInput_0
    rw [fX11_truncateInput_5, r_inRange, Option.bind_some, fX11_truncateInput_14, if_neg (show ¬ nI k < 0 from nI_pos (by omega)), show (va_up M.1 7 0, M.2).1 9 = nI n from z9, if_neg (nI_nlt hk (by omega)), if_neg one0, fX11_truncateInput_19, fX11_truncateInput_24]
    exact bz_s (Or.inr rfl)
  rw [e] at c2
  have eM : (va_up (va_up M.1 7 0) 9 (nI k), M.2) = M' := congrArg Prod.snd (Option.some.inj c2)
  subst eM
  exact ⟨a, S', _, c1, c3, show va_up (va_up M.1 7 0) 9 (nI k) 9 = nI k from vat, rfl⟩
end GBYT
