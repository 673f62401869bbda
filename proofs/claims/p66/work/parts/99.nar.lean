theorem bC_lo : ∀ m : Fin 128, bC m.val = nI m.val := by decide +kernel
theorem nar7 {b : Nat} (h : b < 128) : vp_nar .byte (nI b).toInt8.toInt32 = nI b := by
  rw [nar_b, bC_eq, pk_tn (by omega), Nat.mod_eq_of_lt (by omega)]
  exact bC_lo ⟨b, h⟩
theorem hdX2_sackNamed : yX2_sackNamed.cls = RX2 ∧ yX2_sackNamed.cls ≠ "java/lang/invoke/MethodHandle" ∧ yX2_sackNamed.cls ≠ "java/lang/invoke/VarHandle" ∧ (parseMethodDescriptor yX2_sackNamed.desc).map (fun d => d.parameters.length) = some 1 := ⟨rfl, by decide +kernel, by decide +kernel, by decide +kernel⟩
theorem hdX8_begin : yX8_begin.cls = RX8 ∧ yX8_begin.cls ≠ "java/lang/invoke/MethodHandle" ∧ yX8_begin.cls ≠ "java/lang/invoke/VarHandle" ∧ (parseMethodDescriptor yX8_begin.desc).map (fun d => d.parameters.length) = some 0 := ⟨rfl, by decide +kernel, by decide +kernel, by decide +kernel⟩
section
variable {X : Type}
def gExt (P : X → State → Heap → Prop) : Prop := ∀ (S : X) (U : State) (H H1 : Heap), H.size ≤ H1.size → (∀ a : Nat, a < H.size → H1[a]? = H[a]?) → P S U H → P S U H1
end
theorem cExt {dC : Nat → ClassId} {dI : Nat → Nat → Nat} {cg : Nat → ClassId} {kA : String → Nat → Nat} {ca : Nat → Nat} : gExt (cP dC dI cg kA ca) := fun S U H H1 hz hq h => by
  obtain ⟨nA, h1, h2, h3, h4, h5⟩ := h
  refine ⟨nA, fun p hp => (h1 p hp).kept (hq _ (h1 p hp).lt), h2, h3, h4.kept (fun a ha _ => hq a ha), fun p => (h5 p).kept (fun a ha _ => hq a ha)⟩

