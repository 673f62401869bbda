theorem bC_lo : ∀ m : Fin 128, bC m.val = nI m.val := by decide +kernel
theorem nar7 {b : Nat} (h : b < 128) : vp_nar .byte (nI b).toInt8.toInt32 = nI b := by
  rw [nar_b, bC_eq, pk_tn (by omega), Nat.mod_eq_of_lt (by omega)]
  exact bC_lo ⟨b, h⟩
