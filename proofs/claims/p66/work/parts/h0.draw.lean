/-! what the law draws out of its script -/
section DRAW
variable {L : Nat} {xs : Nat → Int32}
def bN (x a m : Int32) : Nat := (bitV x a m).toNatClampNeg
theorem bN_of {x a m : Int32} (k : Nat) (hk : k ≤ 30) (h : ((1 : Int32) <<< (m &&& 31) - 1).toBitVec.toNat = 2 ^ k - 1) : bN x a m < 2 ^ k ∧ bitV x a m = nI (bN x a m) := by
  obtain ⟨j, hj, e⟩ := pk_andE ((x.toUInt32 >>> (a.toUInt32 &&& Int32.toUInt32 31)).toInt32) (m := (1 : Int32) <<< (m &&& 31) - 1) k h
  have e : bitV x a m = nI j := e
  have h31 : 2 ^ k < 2 ^ 31 := Nat.pow_lt_pow_right (by omega) (by omega)
  unfold bN
  rw [e, nI_clamp (by omega)]
  exact ⟨hj, rfl⟩
theorem bN_1 {x a : Int32} : bN x a 1 < 2 ∧ bitV x a 1 = nI (bN x a 1) := bN_of 1 (by omega) (by decide +kernel)
theorem bN_2 {x a : Int32} : bN x a 2 < 4 ∧ bitV x a 2 = nI (bN x a 2) := bN_of 2 (by omega) (by decide +kernel)
theorem bN_3 {x a : Int32} : bN x a 3 < 8 ∧ bitV x a 3 = nI (bN x a 3) := bN_of 3 (by omega) (by decide +kernel)
theorem bN_4 {x a : Int32} : bN x a 4 < 16 ∧ bitV x a 4 = nI (bN x a 4) := bN_of 4 (by omega) (by decide +kernel)
theorem bN_6 {x a : Int32} : bN x a 6 < 64 ∧ bitV x a 6 = nI (bN x a 6) := bN_of 6 (by omega) (by decide +kernel)
theorem bN_7 {x a : Int32} : bN x a 7 < 128 ∧ bitV x a 7 = nI (bN x a 7) := bN_of 7 (by omega) (by decide +kernel)
def dNc (L : Nat) (xs : Nat → Int32) : Nat := 1 + bN (cellV L xs 0) 0 2
def dNs (L : Nat) (xs : Nat → Int32) : Nat := 1 + bN (cellV L xs 0) 2 2
def dNh (L : Nat) (xs : Nat → Int32) : Nat := 1 + bN (cellV L xs 0) 4 3
def dMl (L : Nat) (xs : Nat → Int32) : Nat := bN (cellV L xs 0) 7 3
def dHk (L : Nat) (xs : Nat → Int32) : Nat := bN (cellV L xs 0) 10 4
def dSp (L : Nat) (xs : Nat → Int32) (k : Nat) : Nat := 1 + bN (cellV L xs (1 + k)) 0 3
def dLf (L : Nat) (xs : Nat → Int32) (k : Nat) : Int32 := if bN (cellV L xs (1 + k)) 3 1 = 0 then 1 else 0
def dGr (L : Nat) (xs : Nat → Int32) (k : Nat) : Nat := bN (cellV L xs (5 + k)) 0 7
def dMi (L : Nat) (xs : Nat → Int32) (k : Nat) : Nat := bN (cellV L xs (5 + k)) 7 6
def dOp (L : Nat) (xs : Nat → Int32) (k : Nat) : Int32 := if 0 < bN (cellV L xs (5 + k)) 13 2 then 1 else 0
def dCc (L : Nat) (xs : Nat → Int32) (k : Nat) : Nat := bN (cellV L xs (9 + k)) 0 4 % dNc L xs
def dHr (L : Nat) (xs : Nat → Int32) (k : Nat) : Nat := 1 + bN (cellV L xs (9 + k)) 4 2
theorem dDR : DR (dNc L xs) (dNs L xs) (dNh L xs) (dMl L xs) (dHk L xs) (dSp L xs) (dGr L xs) (dMi L xs) (dCc L xs) (dHr L xs) (dLf L xs) (dOp L xs) := by
  have h1 := (bN_2 (x := cellV L xs 0) (a := 0)).1
  have h2 := (bN_2 (x := cellV L xs 0) (a := 2)).1
  have h3 := (bN_3 (x := cellV L xs 0) (a := 4)).1
  have h4 := (bN_3 (x := cellV L xs 0) (a := 7)).1
  have h5 := (bN_4 (x := cellV L xs 0) (a := 10)).1
  refine ⟨⟨?_, ?_⟩, ⟨?_, ?_⟩, ⟨?_, ?_⟩, ?_, ?_, fun k _ => ⟨?_, ?_⟩, fun k _ => ?_, fun k _ => ⟨?_, ?_, ?_⟩, fun k _ => ⟨?_, ?_, ?_⟩⟩
  · unfold dNc; omega
  · unfold dNc; omega
  · unfold dNs; omega
  · unfold dNs; omega
  · unfold dNh; omega
  · unfold dNh; omega
  · unfold dMl; omega
  · unfold dHk; omega
  · unfold dSp; omega
  · have := (bN_3 (x := cellV L xs (1 + k)) (a := 0)).1
    unfold dSp; omega
  · unfold dLf
    split
    · exact Or.inr rfl
    · exact Or.inl rfl
  · have := (bN_7 (x := cellV L xs (5 + k)) (a := 0)).1
    unfold dGr; omega
  · have := (bN_6 (x := cellV L xs (5 + k)) (a := 7)).1
    unfold dMi; omega
  · unfold dOp
    split
    · exact Or.inr rfl
    · exact Or.inl rfl
  · unfold dCc
    exact Nat.mod_lt _ (by unfold dNc; omega)
  · unfold dHr; omega
  · have := (bN_2 (x := cellV L xs (9 + k)) (a := 4)).1
    unfold dHr; omega
end DRAW
