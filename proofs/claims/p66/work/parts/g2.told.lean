/-! telling a text: pure -/
section GTOLD
variable {S : CS} {M : MS} {n : Nat} {T : List Int32} {t : Nat → Nat}
/-- letter j of the text, a blank behind its end -/
def ltr (t : Nat → Nat) (N j : Nat) : Nat := if j < N then t j else 32
/-- the word q after i letters of twenty -/
def pw (x : Nat → Nat) : Nat → Nat → Nat
  | 0, _ => 0
  | i + 1, q => if q = i / 4 then pw x i q * 256 + x i else pw x i q
theorem pw_lt {x : Nat → Nat} (hx : ∀ j, x j < 128) : ∀ i q, pw x i q < 2 ^ (8 * (i - 4 * q)) ∨ 4 * q + 4 < i
  | 0, q => Or.inl (by show 0 < _; exact Nat.two_pow_pos _)
  | i + 1, q => by
    by_cases h : 4 * q + 4 < i + 1
    · exact Or.inr h
    left
    show (if q = i / 4 then pw x i q * 256 + x i else pw x i q) < _
    have ih := (pw_lt hx i q).resolve_right (by omega)
    by_cases c : q = i / 4
    · rw [if_pos c, show 8 * (i + 1 - 4 * q) = 8 * (i - 4 * q) + 8 by omega, Nat.pow_add]
      have := hx i
      omega
    · rw [if_neg c]
      have z : i - 4 * q = 0 := by omega
      rw [z] at ih
      exact Nat.lt_of_lt_of_le ih (Nat.pow_le_pow_right (by omega) (by omega))
theorem pw_23 {x : Nat → Nat} (hx : ∀ j, x j < 128) {i : Nat} : pw x i (i / 4) < 2 ^ 24 := by
  have h := (pw_lt hx i (i / 4)).resolve_right (by omega)
  exact Nat.lt_of_lt_of_le h (Nat.pow_le_pow_right (by omega) (by omega))
theorem pw_20 {x : Nat → Nat} : pw x 20 0 = wd4 (x 0) (x 1) (x 2) (x 3) ∧ pw x 20 1 = wd4 (x 4) (x 5) (x 6) (x 7) ∧ pw x 20 2 = wd4 (x 8) (x 9) (x 10) (x 11) ∧ pw x 20 3 = wd4 (x 12) (x 13) (x 14) (x 15) ∧ pw x 20 4 = wd4 (x 16) (x 17) (x 18) (x 19) := by
  refine ⟨?_, ?_, ?_, ?_, ?_⟩ <;> simp [pw, wd4]
/-- so many times twenty letters, from the k-th on -/
def TDs (x : Nat → Nat) : Nat → Nat → CS → CS → Prop
  | 0, _, S, S' => S' = S
  | r + 1, k, S, S' => ∃ a S1, fX10_appendInput S (nI (pw (fun i => x (20 * k + i)) 20 0)) (nI (pw (fun i => x (20 * k + i)) 20 1)) (nI (pw (fun i => x (20 * k + i)) 20 2)) (nI (pw (fun i => x (20 * k + i)) 20 3)) (nI (pw (fun i => x (20 * k + i)) 20 4)) = some (a, S1) ∧ TDs x r (k + 1) S1 S'
theorem f_tds {x : Nat → Nat} (hx : ∀ j, x j < 128) : ∀ (r k : Nat) (S : CS) (M : MS), Rel S M → M.1 9 = nI (20 * k) → 20 * (k + r) ≤ 600 → (∀ j, j < 20 * k → M.2 8 j = nI (x j)) → ∃ S' M', TDs x r k S S' ∧ Rel S' M' ∧ M'.1 9 = nI (20 * (k + r)) ∧ ∀ j, j < 20 * (k + r) → M'.2 8 j = nI (x j)
  | 0, k, S, M, rel, h9, _, hb => ⟨S, M, rfl, rel, h9, hb⟩
  | r + 1, k, S, M, rel, h9, hk, hb => by
    obtain ⟨a, S1, M1, c1, c2, c3, c4, c5⟩ := f_append rel h9 (by omega) (fun i => x (20 * k + i)) (fun i => hx _)
    obtain ⟨p0, p1, p2, p3, p4⟩ := pw_20 (x := fun i => x (20 * k + i))
    obtain ⟨S', M', d1, d2, d3, d4⟩ := f_tds hx r (k + 1) S1 M1 c2 (c3.trans (congrArg nI (by omega))) (by omega) (fun j hj => by
      by_cases q : j < 20 * k
      · rw [c5 j q]; exact hb j q
      · have := c4 (j - 20 * k) (by omega)
        rw [show 20 * k + (j - 20 * k) = j by omega] at this
        exact this)
    exact ⟨S', M', ⟨a, S1, by rw [p0, p1, p2, p3, p4]; exact c1, d1⟩, d2, d3.trans (congrArg nI (by omega)), fun j hj => d4 j (by omega)⟩
/-- a text of N letters told to the class -/
theorem f_told {N : Nat} (ht : ∀ j, t j < 128) (hN : N ≤ 560) (rel : Rel S M) (h9 : M.1 9 = nI 0) : ∃ S1 a S' M', TDs (ltr t N) ((N + 19) / 20) 0 S S1 ∧ fX10_truncateInput S1 (nI N) = some (a, S') ∧ Rel S' M' ∧ M'.1 9 = nI N ∧ ∀ j, j < N → M'.2 8 j = nI (t j) := by
  have hx : ∀ j, ltr t N j < 128 := fun j => by
    unfold ltr
    split
    · exact ht j
    · omega
  obtain ⟨S1, M1, a1, a2, a3, a4⟩ := f_tds hx ((N + 19) / 20) 0 S M rel h9 (by omega) (fun j hj => absurd hj (by omega))
  obtain ⟨a, S', M', b1, b2, b3, b4⟩ := f_trunc (k := N) a2 a3 (by omega) (by omega)
  refine ⟨S1, a, S', M', a1, b1, b2, b3, fun j hj => ?_⟩
  rw [b4, a4 j (by omega)]
  unfold ltr
  rw [if_pos hj]
end GTOLD
