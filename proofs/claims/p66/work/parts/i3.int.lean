theorem tw1500 : (Jvm.Cond.fieldLink "java/lang/Integer" (83 : Nat) "java/lang/Integer" "DigitOnes" "[B") ∈ TBG := tb_t 1500 (by decide +kernel) (by decide +kernel)
theorem tw1502 : (Jvm.Cond.fieldLink "java/lang/Integer" (87 : Nat) "java/lang/Integer" "DigitTens" "[B") ∈ TBG := tb_t 1502 (by decide +kernel) (by decide +kernel)
/-! numbers below 128 appended -/
section NSB3
variable {l : Launch} {dC : Nat → ClassId} {dI : Nat → Nat → Nat} {cg : Nat → ClassId} {kA : String → Nat → Nat} {bs n p0 k0 N v dO dT : Nat} {w : Nat → va_E} {mb cn : Int32} {f : Nat → Int32} {F : State → Heap → Prop}
theorem ng_f : ∀ v : Fin 128, ((v.val < 100 → (-100 : Int32) < -nI v.val) ∧ (100 ≤ v.val → ¬ ((-100 : Int32) < -nI v.val) ∧ -nI v.val / 100 = -1 ∧ (-100 : Int32) - (-nI v.val) = nI (v.val - 100))) ∧ ((v.val < 10 → (-9 : Int32) ≤ -nI v.val) ∧ (10 ≤ v.val → ¬ (-9 : Int32) ≤ -nI v.val)) ∧ ((v.val < 10 → ¬ -nI v.val ≤ (-10 : Int32)) ∧ (10 ≤ v.val → -nI v.val ≤ (-10 : Int32)) ∧ (v.val < 100 → ¬ -nI v.val ≤ (-100 : Int32)) ∧ (100 ≤ v.val → -nI v.val ≤ (-100 : Int32)) ∧ ¬ -nI v.val ≤ (-1000 : Int32)) := by decide +kernel
theorem ng (hv : v < 128) : ((v < 100 → (-100 : Int32) < -nI v) ∧ (100 ≤ v → ¬ ((-100 : Int32) < -nI v) ∧ -nI v / 100 = -1 ∧ (-100 : Int32) - (-nI v) = nI (v - 100))) ∧ ((v < 10 → (-9 : Int32) ≤ -nI v) ∧ (10 ≤ v → ¬ (-9 : Int32) ≤ -nI v)) ∧ ((v < 10 → ¬ -nI v ≤ (-10 : Int32)) ∧ (10 ≤ v → -nI v ≤ (-10 : Int32)) ∧ (v < 100 → ¬ -nI v ≤ (-100 : Int32)) ∧ (100 ≤ v → -nI v ≤ (-100 : Int32)) ∧ ¬ -nI v ≤ (-1000 : Int32)) := ng_f ⟨v, hv⟩
/-- the tables of digits -/
def dgP (dO dT bs : Nat) : State → Heap → Prop := fun U H => va_Z "java/lang/Integer" "DigitOnes" "[B" (.ref dO) (nΩ bs) U H ∧ va_Z "java/lang/Integer" "DigitTens" "[B" (.ref dT) (nΩ bs) U H ∧ va_T .byte dO 100 (fun j => .int (nI (48 + j % 10))) (nΩ bs) U H ∧ va_T .byte dT 100 (fun j => .int (nI (48 + j / 10))) (nΩ bs) U H
theorem gFs.no {Ω : Nat → Prop} {F : State → Heap → Prop} (h : gFs Ω F) : gFs (fun _ => False) F := h.mono (fun q (z : False) => z.elim)
theorem dgP_fs : gFs (nΩ bs) (dgP dO dT bs) := ⟨fun u U H hvm h => ⟨va_Z.moved hvm h.1, va_Z.moved hvm h.2.1, h.2.2.1.moved hvm, h.2.2.2.moved hvm⟩, fun U H H1 hz hk h => ⟨va_Z.kept h.1 hk, va_Z.kept h.2.1 hk, h.2.2.1.kept hk, h.2.2.2.kept hk⟩⟩
theorem vJ6_ss1 (hv : v < 128) (h2 : v < 10) : gMetR l yJ6_stringSize_0f7a4 cJ6_stringSize_0f7a4 4 (some .int) 0 (fun _ => True) [.int (nI v)] 1 := gEntryR (KS := fun _ => True) (ty := .int) (by decide) rfl rfl (Nat.le_of_ble_eq_true rfl) (fun _ _ => trivial) (fun p e s m args below meth c Q ls X hB hret hl => by
  have hx := X.hx
  have hb := X.hb
  have g := (ng hv).2.2
  refine lv_iconst (v := 1) hx hb dJ6_stringSize_0f7a4_0 (by decide) ?_
  refine lv_istore_n (lv' := [(1, .int 1), (0, .int (nI v))]) hx hb dJ6_stringSize_0f7a4_1 rfl hl (by decide) rfl (fun ls hl => ?_)
  refine lv_iload_n hx hb dJ6_stringSize_0f7a4_2 rfl (lv_at hl 1 rfl) ?_
  refine lv_if_lt (tgt := 11) hx hb dJ6_stringSize_0f7a4_3 (by decide) (fun c1 => absurd c1 (show ¬ nI v < (0 : Int32) from nI_nlt (b := 0) (Nat.zero_le _) (by omega))) (fun _ => ?_)
  refine lv_iconst (v := 0) hx hb dJ6_stringSize_0f7a4_6 (by decide) ?_
  refine lv_istore_n (lv' := [(1, .int 0), (0, .int (nI v))]) hx hb dJ6_stringSize_0f7a4_7 rfl hl (by decide) rfl (fun ls hl => ?_)
  refine lv_iload_n hx hb dJ6_stringSize_0f7a4_8 rfl (lv_at hl 1 rfl) ?_
  refine lv_ineg hx hb dJ6_stringSize_0f7a4_9 ?_
  refine lv_istore_n (lv' := [(0, .int (-nI v)), (1, .int 0)]) hx hb dJ6_stringSize_0f7a4_10 rfl hl (by decide) rfl (fun ls hl => ?_)
  refine lv_bipush (v := (-10)) hx hb dJ6_stringSize_0f7a4_11 (by decide) ?_
  refine lv_istore_n (lv' := [(2, .int (-10)), (0, .int (-nI v)), (1, .int 0)]) hx hb dJ6_stringSize_0f7a4_13 rfl hl (by decide) rfl (fun ls hl => ?_)
  refine lv_iconst (v := 1) hx hb dJ6_stringSize_0f7a4_14 (by decide) ?_
  refine lv_istore_n (lv' := [(3, .int 1), (2, .int (-10)), (0, .int (-nI v)), (1, .int 0)]) hx hb dJ6_stringSize_0f7a4_15 rfl hl (by decide) rfl (fun ls hl => ?_)
  refine lv_iload_n hx hb dJ6_stringSize_0f7a4_16 rfl (lv_at hl 0 rfl) ?_
  refine lv_bipush (v := 10) hx hb dJ6_stringSize_0f7a4_17 (by decide) ?_
  refine lv_icmp_ge (tgt := 42) hx hb dJ6_stringSize_0f7a4_19 (by decide) (fun c1 => absurd c1 (by decide)) (fun _ => ?_)
  refine lv_iload_n hx hb dJ6_stringSize_0f7a4_22 rfl (lv_at hl 2 rfl) ?_
  refine lv_iload_n hx hb dJ6_stringSize_0f7a4_23 rfl (lv_at hl 1 rfl) ?_
  refine lv_icmp_le (tgt := 31) hx hb dJ6_stringSize_0f7a4_24 (by decide) (fun c1 => absurd c1 (g.1 h2)) (fun _ => ?_)
  refine lv_iload_n hx hb dJ6_stringSize_0f7a4_27 rfl (lv_at hl 0 rfl) ?_
  refine lv_iload_n hx hb dJ6_stringSize_0f7a4_28 rfl (lv_at hl 3 rfl) ?_
  refine lv_iadd hx hb dJ6_stringSize_0f7a4_29 ?_
  rw [show (1 + 0 : Int32) = 1 from by decide]
  exact hret _ _ dJ6_stringSize_0f7a4_30)
theorem vJ6_ss2 (hv : v < 128) (h1 : 10 ≤ v) (h2 : v < 100) : gMetR l yJ6_stringSize_0f7a4 cJ6_stringSize_0f7a4 4 (some .int) 0 (fun _ => True) [.int (nI v)] 2 := gEntryR (KS := fun _ => True) (ty := .int) (by decide) rfl rfl (Nat.le_of_ble_eq_true rfl) (fun _ _ => trivial) (fun p e s m args below meth c Q ls X hB hret hl => by
  have hx := X.hx
  have hb := X.hb
  have g := (ng hv).2.2
  refine lv_iconst (v := 1) hx hb dJ6_stringSize_0f7a4_0 (by decide) ?_
  refine lv_istore_n (lv' := [(1, .int 1), (0, .int (nI v))]) hx hb dJ6_stringSize_0f7a4_1 rfl hl (by decide) rfl (fun ls hl => ?_)
  refine lv_iload_n hx hb dJ6_stringSize_0f7a4_2 rfl (lv_at hl 1 rfl) ?_
  refine lv_if_lt (tgt := 11) hx hb dJ6_stringSize_0f7a4_3 (by decide) (fun c1 => absurd c1 (show ¬ nI v < (0 : Int32) from nI_nlt (b := 0) (Nat.zero_le _) (by omega))) (fun _ => ?_)
  refine lv_iconst (v := 0) hx hb dJ6_stringSize_0f7a4_6 (by decide) ?_
  refine lv_istore_n (lv' := [(1, .int 0), (0, .int (nI v))]) hx hb dJ6_stringSize_0f7a4_7 rfl hl (by decide) rfl (fun ls hl => ?_)
  refine lv_iload_n hx hb dJ6_stringSize_0f7a4_8 rfl (lv_at hl 1 rfl) ?_
  refine lv_ineg hx hb dJ6_stringSize_0f7a4_9 ?_
  refine lv_istore_n (lv' := [(0, .int (-nI v)), (1, .int 0)]) hx hb dJ6_stringSize_0f7a4_10 rfl hl (by decide) rfl (fun ls hl => ?_)
  refine lv_bipush (v := (-10)) hx hb dJ6_stringSize_0f7a4_11 (by decide) ?_
  refine lv_istore_n (lv' := [(2, .int (-10)), (0, .int (-nI v)), (1, .int 0)]) hx hb dJ6_stringSize_0f7a4_13 rfl hl (by decide) rfl (fun ls hl => ?_)
  refine lv_iconst (v := 1) hx hb dJ6_stringSize_0f7a4_14 (by decide) ?_
  refine lv_istore_n (lv' := [(3, .int 1), (2, .int (-10)), (0, .int (-nI v)), (1, .int 0)]) hx hb dJ6_stringSize_0f7a4_15 rfl hl (by decide) rfl (fun ls hl => ?_)
  refine lv_iload_n hx hb dJ6_stringSize_0f7a4_16 rfl (lv_at hl 0 rfl) ?_
  refine lv_bipush (v := 10) hx hb dJ6_stringSize_0f7a4_17 (by decide) ?_
  refine lv_icmp_ge (tgt := 42) hx hb dJ6_stringSize_0f7a4_19 (by decide) (fun c1 => absurd c1 (by decide)) (fun _ => ?_)
  refine lv_iload_n hx hb dJ6_stringSize_0f7a4_22 rfl (lv_at hl 2 rfl) ?_
  refine lv_iload_n hx hb dJ6_stringSize_0f7a4_23 rfl (lv_at hl 1 rfl) ?_
  refine lv_icmp_le (tgt := 31) hx hb dJ6_stringSize_0f7a4_24 (by decide) (fun _ => ?_) (fun c1 => absurd (g.2.1 h1) c1)
  refine lv_bipush (v := 10) hx hb dJ6_stringSize_0f7a4_31 (by decide) ?_
  refine lv_iload_n hx hb dJ6_stringSize_0f7a4_33 rfl (lv_at hl 1 rfl) ?_
  refine lv_imul hx hb dJ6_stringSize_0f7a4_34 ?_
  rw [show (10 * (-10) : Int32) = (-100) from by decide]
  refine lv_istore_n (lv' := [(2, .int (-100)), (3, .int 1), (0, .int (-nI v)), (1, .int 0)]) hx hb dJ6_stringSize_0f7a4_35 rfl hl (by decide) rfl (fun ls hl => ?_)
  refine lv_iinc (v := 1 + 1) (lv' := [(3, .int (1 + 1)), (2, .int (-100)), (0, .int (-nI v)), (1, .int 0)]) hx hb dJ6_stringSize_0f7a4_36 hl (k := 1) rfl (by rfl) (by decide) rfl (fun ls hl => ?_)
  rw [show (1 + 1 : Int32) = 2 from by decide] at hl
  refine lv_goto (tgt := 16) hx hb dJ6_stringSize_0f7a4_39 (by decide) ?_
  refine lv_iload_n hx hb dJ6_stringSize_0f7a4_16 rfl (lv_at hl 0 rfl) ?_
  refine lv_bipush (v := 10) hx hb dJ6_stringSize_0f7a4_17 (by decide) ?_
  refine lv_icmp_ge (tgt := 42) hx hb dJ6_stringSize_0f7a4_19 (by decide) (fun c1 => absurd c1 (by decide)) (fun _ => ?_)
  refine lv_iload_n hx hb dJ6_stringSize_0f7a4_22 rfl (lv_at hl 2 rfl) ?_
  refine lv_iload_n hx hb dJ6_stringSize_0f7a4_23 rfl (lv_at hl 1 rfl) ?_
  refine lv_icmp_le (tgt := 31) hx hb dJ6_stringSize_0f7a4_24 (by decide) (fun c1 => absurd c1 (g.2.2.1 h2)) (fun _ => ?_)
  refine lv_iload_n hx hb dJ6_stringSize_0f7a4_27 rfl (lv_at hl 0 rfl) ?_
  refine lv_iload_n hx hb dJ6_stringSize_0f7a4_28 rfl (lv_at hl 3 rfl) ?_
  refine lv_iadd hx hb dJ6_stringSize_0f7a4_29 ?_
  rw [show (2 + 0 : Int32) = 2 from by decide]
  exact hret _ _ dJ6_stringSize_0f7a4_30)
theorem vJ6_ss3 (hv : v < 128) (h1 : 100 ≤ v) : gMetR l yJ6_stringSize_0f7a4 cJ6_stringSize_0f7a4 4 (some .int) 0 (fun _ => True) [.int (nI v)] 3 := gEntryR (KS := fun _ => True) (ty := .int) (by decide) rfl rfl (Nat.le_of_ble_eq_true rfl) (fun _ _ => trivial) (fun p e s m args below meth c Q ls X hB hret hl => by
  have hx := X.hx
  have hb := X.hb
  have g := (ng hv).2.2
  refine lv_iconst (v := 1) hx hb dJ6_stringSize_0f7a4_0 (by decide) ?_
  refine lv_istore_n (lv' := [(1, .int 1), (0, .int (nI v))]) hx hb dJ6_stringSize_0f7a4_1 rfl hl (by decide) rfl (fun ls hl => ?_)
  refine lv_iload_n hx hb dJ6_stringSize_0f7a4_2 rfl (lv_at hl 1 rfl) ?_
  refine lv_if_lt (tgt := 11) hx hb dJ6_stringSize_0f7a4_3 (by decide) (fun c1 => absurd c1 (show ¬ nI v < (0 : Int32) from nI_nlt (b := 0) (Nat.zero_le _) (by omega))) (fun _ => ?_)
  refine lv_iconst (v := 0) hx hb dJ6_stringSize_0f7a4_6 (by decide) ?_
  refine lv_istore_n (lv' := [(1, .int 0), (0, .int (nI v))]) hx hb dJ6_stringSize_0f7a4_7 rfl hl (by decide) rfl (fun ls hl => ?_)
  refine lv_iload_n hx hb dJ6_stringSize_0f7a4_8 rfl (lv_at hl 1 rfl) ?_
  refine lv_ineg hx hb dJ6_stringSize_0f7a4_9 ?_
  refine lv_istore_n (lv' := [(0, .int (-nI v)), (1, .int 0)]) hx hb dJ6_stringSize_0f7a4_10 rfl hl (by decide) rfl (fun ls hl => ?_)
  refine lv_bipush (v := (-10)) hx hb dJ6_stringSize_0f7a4_11 (by decide) ?_
  refine lv_istore_n (lv' := [(2, .int (-10)), (0, .int (-nI v)), (1, .int 0)]) hx hb dJ6_stringSize_0f7a4_13 rfl hl (by decide) rfl (fun ls hl => ?_)
  refine lv_iconst (v := 1) hx hb dJ6_stringSize_0f7a4_14 (by decide) ?_
  refine lv_istore_n (lv' := [(3, .int 1), (2, .int (-10)), (0, .int (-nI v)), (1, .int 0)]) hx hb dJ6_stringSize_0f7a4_15 rfl hl (by decide) rfl (fun ls hl => ?_)
  refine lv_iload_n hx hb dJ6_stringSize_0f7a4_16 rfl (lv_at hl 0 rfl) ?_
  refine lv_bipush (v := 10) hx hb dJ6_stringSize_0f7a4_17 (by decide) ?_
  refine lv_icmp_ge (tgt := 42) hx hb dJ6_stringSize_0f7a4_19 (by decide) (fun c1 => absurd c1 (by decide)) (fun _ => ?_)
  refine lv_iload_n hx hb dJ6_stringSize_0f7a4_22 rfl (lv_at hl 2 rfl) ?_
  refine lv_iload_n hx hb dJ6_stringSize_0f7a4_23 rfl (lv_at hl 1 rfl) ?_
  refine lv_icmp_le (tgt := 31) hx hb dJ6_stringSize_0f7a4_24 (by decide) (fun _ => ?_) (fun c1 => absurd (g.2.1 (by omega)) c1)
  refine lv_bipush (v := 10) hx hb dJ6_stringSize_0f7a4_31 (by decide) ?_
  refine lv_iload_n hx hb dJ6_stringSize_0f7a4_33 rfl (lv_at hl 1 rfl) ?_
  refine lv_imul hx hb dJ6_stringSize_0f7a4_34 ?_
  rw [show (10 * (-10) : Int32) = (-100) from by decide]
  refine lv_istore_n (lv' := [(2, .int (-100)), (3, .int 1), (0, .int (-nI v)), (1, .int 0)]) hx hb dJ6_stringSize_0f7a4_35 rfl hl (by decide) rfl (fun ls hl => ?_)
  refine lv_iinc (v := 1 + 1) (lv' := [(3, .int (1 + 1)), (2, .int (-100)), (0, .int (-nI v)), (1, .int 0)]) hx hb dJ6_stringSize_0f7a4_36 hl (k := 1) rfl (by rfl) (by decide) rfl (fun ls hl => ?_)
  rw [show (1 + 1 : Int32) = 2 from by decide] at hl
  refine lv_goto (tgt := 16) hx hb dJ6_stringSize_0f7a4_39 (by decide) ?_
  refine lv_iload_n hx hb dJ6_stringSize_0f7a4_16 rfl (lv_at hl 0 rfl) ?_
  refine lv_bipush (v := 10) hx hb dJ6_stringSize_0f7a4_17 (by decide) ?_
  refine lv_icmp_ge (tgt := 42) hx hb dJ6_stringSize_0f7a4_19 (by decide) (fun c1 => absurd c1 (by decide)) (fun _ => ?_)
  refine lv_iload_n hx hb dJ6_stringSize_0f7a4_22 rfl (lv_at hl 2 rfl) ?_
  refine lv_iload_n hx hb dJ6_stringSize_0f7a4_23 rfl (lv_at hl 1 rfl) ?_
  refine lv_icmp_le (tgt := 31) hx hb dJ6_stringSize_0f7a4_24 (by decide) (fun _ => ?_) (fun c1 => absurd (g.2.2.2.1 h1) c1)
  refine lv_bipush (v := 10) hx hb dJ6_stringSize_0f7a4_31 (by decide) ?_
  refine lv_iload_n hx hb dJ6_stringSize_0f7a4_33 rfl (lv_at hl 1 rfl) ?_
  refine lv_imul hx hb dJ6_stringSize_0f7a4_34 ?_
  rw [show (10 * (-100) : Int32) = (-1000) from by decide]
  refine lv_istore_n (lv' := [(2, .int (-1000)), (3, .int 2), (0, .int (-nI v)), (1, .int 0)]) hx hb dJ6_stringSize_0f7a4_35 rfl hl (by decide) rfl (fun ls hl => ?_)
  refine lv_iinc (v := 2 + 1) (lv' := [(3, .int (2 + 1)), (2, .int (-1000)), (0, .int (-nI v)), (1, .int 0)]) hx hb dJ6_stringSize_0f7a4_36 hl (k := 1) rfl (by rfl) (by decide) rfl (fun ls hl => ?_)
  rw [show (2 + 1 : Int32) = 3 from by decide] at hl
  refine lv_goto (tgt := 16) hx hb dJ6_stringSize_0f7a4_39 (by decide) ?_
  refine lv_iload_n hx hb dJ6_stringSize_0f7a4_16 rfl (lv_at hl 0 rfl) ?_
  refine lv_bipush (v := 10) hx hb dJ6_stringSize_0f7a4_17 (by decide) ?_
  refine lv_icmp_ge (tgt := 42) hx hb dJ6_stringSize_0f7a4_19 (by decide) (fun c1 => absurd c1 (by decide)) (fun _ => ?_)
  refine lv_iload_n hx hb dJ6_stringSize_0f7a4_22 rfl (lv_at hl 2 rfl) ?_
  refine lv_iload_n hx hb dJ6_stringSize_0f7a4_23 rfl (lv_at hl 1 rfl) ?_
  refine lv_icmp_le (tgt := 31) hx hb dJ6_stringSize_0f7a4_24 (by decide) (fun c1 => absurd c1 (g.2.2.2.2)) (fun _ => ?_)
  refine lv_iload_n hx hb dJ6_stringSize_0f7a4_27 rfl (lv_at hl 0 rfl) ?_
  refine lv_iload_n hx hb dJ6_stringSize_0f7a4_28 rfl (lv_at hl 3 rfl) ?_
  refine lv_iadd hx hb dJ6_stringSize_0f7a4_29 ?_
  rw [show (3 + 0 : Int32) = 3 from by decide]
  exact hret _ _ dJ6_stringSize_0f7a4_30)
theorem vJ6_stringSize (hv : v < 128) : gMetR l yJ6_stringSize_0f7a4 cJ6_stringSize_0f7a4 4 (some .int) 0 (fun _ => True) [.int (nI v)] (nI (dgL v).length) := by
  by_cases h1 : v < 10
  · rw [show (dgL v).length = 1 from by unfold dgL; rw [if_pos h1]; rfl]
    exact vJ6_ss1 hv h1
  · by_cases h2 : v < 100
    · rw [show (dgL v).length = 2 from by unfold dgL; rw [if_neg h1, if_pos h2]; rfl]
      exact vJ6_ss2 hv (by omega) h2
    · rw [show (dgL v).length = 3 from by unfold dgL; rw [if_neg h1, if_neg h2]; rfl]
      exact vJ6_ss3 hv (by omega)
theorem dig_a {d : Nat} (h : d < 10) : ∃ q : Fin 128, nI (48 + d) = Int32.ofNat q.val := ⟨⟨48 + d, by omega⟩, rfl⟩
theorem neg_neg {x : Int32} : -(-x) = x := Int32.neg_neg
theorem vJ6_gc1 (hv : v < 128) (h2 : v < 10) {k1 N1 j : Nat} {f1 : Nat → Int32} (hF : gFs (nΩ bs) F) (hd : ∀ U H, F U H → dgP dO dT bs U H) (hk1 : k1 < n ∧ w k1 = byV cg N1 f1) (hj : j + 1 ≤ N1) (hN : N1 ≤ 500) : gMetIA l yJ6_getChars_ba4f3 cJ6_getChars_ba4f3 7 (some .int) 0 0 0 (nΩ bs) (gF (nP dC dI cg kA bs) F) (kR kTab kA) [.int (nI v), .int (nI (j + 1)), .ref (bs + k1)] (n, w) (nI j) (n, va_up w k1 (byV cg N1 (upd f1 j (nI (48 + v % 10))))) := gEntryIA (ty := .int) (by decide) rfl rfl (gF_ok nOK hF) (Nat.le_of_ble_eq_true rfl) (fun p e s m args below meth c Q ls X hP hS hret hl => by
  have hx := X.hx
  have hb := X.hb
  have hP : gF (nP dC dI cg kA bs) F (n, w) s s.heap := hP
  have hz0 : bs ≤ s.heap.size := by
    have h1 : s.heap.size = bs + n := hP.1.1
    omega
  have hd0 := hd _ _ hP.2
  have g := ng hv
  refine lv_iload_n hx hb dJ6_getChars_ba4f3_0 rfl (lv_at hl 1 rfl) ?_
  refine lv_istore (lv' := [(5, .int (nI (j + 1))), (0, .int (nI v)), (1, .int (nI (j + 1))), (2, .ref (bs + k1))]) hx hb dJ6_getChars_ba4f3_1 hl (by decide) rfl (fun ls hl => ?_)
  refine lv_iload_n hx hb dJ6_getChars_ba4f3_3 rfl (lv_at hl 1 rfl) ?_
  refine lv_if_ge (tgt := 11) hx hb dJ6_getChars_ba4f3_4 (by decide) (fun _ => ?_) (fun c1 => absurd (show (0 : Int32) ≤ nI v from nI_le (a := 0) (Nat.zero_le _) (by omega)) c1)
  refine lv_iconst (v := 0) hx hb dJ6_getChars_ba4f3_11 (by decide) ?_
  refine lv_istore (lv' := [(6, .int 0), (5, .int (nI (j + 1))), (0, .int (nI v)), (1, .int (nI (j + 1))), (2, .ref (bs + k1))]) hx hb dJ6_getChars_ba4f3_12 hl (by decide) rfl (fun ls hl => ?_)
  refine lv_iload hx hb dJ6_getChars_ba4f3_14 (lv_at hl 0 rfl) ?_
  refine lv_if_ne (tgt := 22) hx hb dJ6_getChars_ba4f3_16 (by decide) (fun c1 => absurd (rfl) c1) (fun _ => ?_)
  refine lv_iload_n hx hb dJ6_getChars_ba4f3_19 rfl (lv_at hl 2 rfl) ?_
  refine lv_ineg hx hb dJ6_getChars_ba4f3_20 ?_
  refine lv_istore_n (lv' := [(0, .int (-nI v)), (6, .int 0), (5, .int (nI (j + 1))), (1, .int (nI (j + 1))), (2, .ref (bs + k1))]) hx hb dJ6_getChars_ba4f3_21 rfl hl (by decide) rfl (fun ls hl => ?_)
  refine lv_iload_n hx hb dJ6_getChars_ba4f3_22 rfl (lv_at hl 0 rfl) ?_
  refine lv_bipush (v := (-100)) hx hb dJ6_getChars_ba4f3_23 (by decide) ?_
  refine lv_icmp_gt (tgt := 72) hx hb dJ6_getChars_ba4f3_25 (by decide) (fun _ => ?_) (fun c1 => absurd (g.1.1 (by omega)) c1)
  refine lv_aload_n hx hb dJ6_getChars_ba4f3_72 rfl (lv_at hl 4 rfl) ?_
  refine lv_iinc (v := (nI (j + 1)) + (-1)) (lv' := [(5, .int ((nI (j + 1)) + (-1))), (0, .int (-nI v)), (6, .int 0), (1, .int (nI (j + 1))), (2, .ref (bs + k1))]) hx hb dJ6_getChars_ba4f3_73 hl (k := 2) rfl (by rfl) (by decide) rfl (fun ls hl => ?_)
  rw [show (nI (j + 1)) + (-1) = nI j from pk_m1 (j + 0)] at hl
  refine lv_iload hx hb dJ6_getChars_ba4f3_76 (lv_at hl 0 rfl) ?_
  refine va_gets hx hb hd0.1 (nS_n hz0 hS) X.hown (X.hts _ tw1500) (fun _ h => h) dJ6_getChars_ba4f3_78 ?_
  refine lv_iload_n hx hb dJ6_getChars_ba4f3_81 rfl (lv_at hl 1 rfl) ?_
  refine lv_ineg hx hb dJ6_getChars_ba4f3_82 ?_
  rw [show (-(-nI v) : Int32) = nI v from neg_neg]
  refine va_tb hx hb hd0.2.2.1 (nS_n hz0 hS) (show vp_in (nI v) 100 from nI_in (by omega) (by omega)) (v := .int (nI (48 + v % 10))) (by rw [show (nI v : Int32).toNatClampNeg = v from nI_c (by omega)]) dJ6_getChars_ba4f3_83 ?_
  refine nF_bast X hF hP hS (Or.inl (Nat.le_add_right _ _)) hk1 (nI_in (c := j) (by omega) (by omega)) dJ6_getChars_ba4f3_84 (fun H locs hP hS => ?_)
  rw [nI_c (by omega), (asc_b (dig_a (d := v % 10) (by omega))).2.1] at hP
  refine lv_iload_n hx hb dJ6_getChars_ba4f3_85 rfl (lv_at hl 1 rfl) ?_
  refine lv_bipush (v := (-9)) hx hb dJ6_getChars_ba4f3_86 (by decide) ?_
  refine lv_icmp_ge (tgt := 104) hx hb dJ6_getChars_ba4f3_88 (by decide) (fun _ => ?_) (fun c1 => absurd (g.2.1.1 (by omega)) c1)
  refine lv_iload hx hb dJ6_getChars_ba4f3_104 (lv_at hl 2 rfl) ?_
  refine lv_if_eq (tgt := 118) hx hb dJ6_getChars_ba4f3_106 (by decide) (fun _ => ?_) (fun c1 => absurd (rfl) c1)
  refine lv_iload hx hb dJ6_getChars_ba4f3_118 (lv_at hl 0 rfl) ?_
  exact hret _ _ _ _ _ _ dJ6_getChars_ba4f3_120 hP hS (Nat.le_refl _) (Nat.le_refl _))
theorem vJ6_gc2 (hv : v < 128) (h1 : 10 ≤ v) (h2 : v < 100) {k1 N1 j : Nat} {f1 : Nat → Int32} (hF : gFs (nΩ bs) F) (hd : ∀ U H, F U H → dgP dO dT bs U H) (hk1 : k1 < n ∧ w k1 = byV cg N1 f1) (hj : j + 2 ≤ N1) (hN : N1 ≤ 500) : gMetIA l yJ6_getChars_ba4f3 cJ6_getChars_ba4f3 7 (some .int) 0 0 0 (nΩ bs) (gF (nP dC dI cg kA bs) F) (kR kTab kA) [.int (nI v), .int (nI (j + 2)), .ref (bs + k1)] (n, w) (nI j) (n, va_up w k1 (byV cg N1 (upd (upd f1 (j + 1) (nI (48 + v % 10))) j (nI (48 + v / 10))))) := gEntryIA (ty := .int) (by decide) rfl rfl (gF_ok nOK hF) (Nat.le_of_ble_eq_true rfl) (fun p e s m args below meth c Q ls X hP hS hret hl => by
  have hx := X.hx
  have hb := X.hb
  have hP : gF (nP dC dI cg kA bs) F (n, w) s s.heap := hP
  have hz0 : bs ≤ s.heap.size := by
    have h1 : s.heap.size = bs + n := hP.1.1
    omega
  have hd0 := hd _ _ hP.2
  have g := ng hv
  refine lv_iload_n hx hb dJ6_getChars_ba4f3_0 rfl (lv_at hl 1 rfl) ?_
  refine lv_istore (lv' := [(5, .int (nI (j + 2))), (0, .int (nI v)), (1, .int (nI (j + 2))), (2, .ref (bs + k1))]) hx hb dJ6_getChars_ba4f3_1 hl (by decide) rfl (fun ls hl => ?_)
  refine lv_iload_n hx hb dJ6_getChars_ba4f3_3 rfl (lv_at hl 1 rfl) ?_
  refine lv_if_ge (tgt := 11) hx hb dJ6_getChars_ba4f3_4 (by decide) (fun _ => ?_) (fun c1 => absurd (show (0 : Int32) ≤ nI v from nI_le (a := 0) (Nat.zero_le _) (by omega)) c1)
  refine lv_iconst (v := 0) hx hb dJ6_getChars_ba4f3_11 (by decide) ?_
  refine lv_istore (lv' := [(6, .int 0), (5, .int (nI (j + 2))), (0, .int (nI v)), (1, .int (nI (j + 2))), (2, .ref (bs + k1))]) hx hb dJ6_getChars_ba4f3_12 hl (by decide) rfl (fun ls hl => ?_)
  refine lv_iload hx hb dJ6_getChars_ba4f3_14 (lv_at hl 0 rfl) ?_
  refine lv_if_ne (tgt := 22) hx hb dJ6_getChars_ba4f3_16 (by decide) (fun c1 => absurd (rfl) c1) (fun _ => ?_)
  refine lv_iload_n hx hb dJ6_getChars_ba4f3_19 rfl (lv_at hl 2 rfl) ?_
  refine lv_ineg hx hb dJ6_getChars_ba4f3_20 ?_
  refine lv_istore_n (lv' := [(0, .int (-nI v)), (6, .int 0), (5, .int (nI (j + 2))), (1, .int (nI (j + 2))), (2, .ref (bs + k1))]) hx hb dJ6_getChars_ba4f3_21 rfl hl (by decide) rfl (fun ls hl => ?_)
  refine lv_iload_n hx hb dJ6_getChars_ba4f3_22 rfl (lv_at hl 0 rfl) ?_
  refine lv_bipush (v := (-100)) hx hb dJ6_getChars_ba4f3_23 (by decide) ?_
  refine lv_icmp_gt (tgt := 72) hx hb dJ6_getChars_ba4f3_25 (by decide) (fun _ => ?_) (fun c1 => absurd (g.1.1 (by omega)) c1)
  refine lv_aload_n hx hb dJ6_getChars_ba4f3_72 rfl (lv_at hl 4 rfl) ?_
  refine lv_iinc (v := (nI (j + 2)) + (-1)) (lv' := [(5, .int ((nI (j + 2)) + (-1))), (0, .int (-nI v)), (6, .int 0), (1, .int (nI (j + 2))), (2, .ref (bs + k1))]) hx hb dJ6_getChars_ba4f3_73 hl (k := 2) rfl (by rfl) (by decide) rfl (fun ls hl => ?_)
  rw [show (nI (j + 2)) + (-1) = nI (j + 1) from pk_m1 (j + 1)] at hl
  refine lv_iload hx hb dJ6_getChars_ba4f3_76 (lv_at hl 0 rfl) ?_
  refine va_gets hx hb hd0.1 (nS_n hz0 hS) X.hown (X.hts _ tw1500) (fun _ h => h) dJ6_getChars_ba4f3_78 ?_
  refine lv_iload_n hx hb dJ6_getChars_ba4f3_81 rfl (lv_at hl 1 rfl) ?_
  refine lv_ineg hx hb dJ6_getChars_ba4f3_82 ?_
  rw [show (-(-nI v) : Int32) = nI v from neg_neg]
  refine va_tb hx hb hd0.2.2.1 (nS_n hz0 hS) (show vp_in (nI v) 100 from nI_in (by omega) (by omega)) (v := .int (nI (48 + v % 10))) (by rw [show (nI v : Int32).toNatClampNeg = v from nI_c (by omega)]) dJ6_getChars_ba4f3_83 ?_
  refine nF_bast X hF hP hS (Or.inl (Nat.le_add_right _ _)) hk1 (nI_in (c := j + 1) (by omega) (by omega)) dJ6_getChars_ba4f3_84 (fun H locs hP hS => ?_)
  rw [nI_c (by omega), (asc_b (dig_a (d := v % 10) (by omega))).2.1] at hP
  refine lv_iload_n hx hb dJ6_getChars_ba4f3_85 rfl (lv_at hl 1 rfl) ?_
  refine lv_bipush (v := (-9)) hx hb dJ6_getChars_ba4f3_86 (by decide) ?_
  refine lv_icmp_ge (tgt := 104) hx hb dJ6_getChars_ba4f3_88 (by decide) (fun c1 => absurd c1 (g.2.1.2 (by omega))) (fun _ => ?_)
  refine lv_aload_n hx hb dJ6_getChars_ba4f3_91 rfl (lv_at hl 4 rfl) ?_
  refine lv_iinc (v := (nI (j + 1)) + (-1)) (lv' := [(5, .int ((nI (j + 1)) + (-1))), (0, .int (-nI v)), (6, .int 0), (1, .int (nI (j + 2))), (2, .ref (bs + k1))]) hx hb dJ6_getChars_ba4f3_92 hl (k := 0) rfl (by rfl) (by decide) rfl (fun ls hl => ?_)
  rw [show (nI (j + 1)) + (-1) = nI j from pk_m1 (j + 0)] at hl
  refine lv_iload hx hb dJ6_getChars_ba4f3_95 (lv_at hl 0 rfl) ?_
  refine va_gets hx hb hd0.2.1 (nS_n hz0 hS) X.hown (X.hts _ tw1502) (fun _ h => h) dJ6_getChars_ba4f3_97 ?_
  refine lv_iload_n hx hb dJ6_getChars_ba4f3_100 rfl (lv_at hl 1 rfl) ?_
  refine lv_ineg hx hb dJ6_getChars_ba4f3_101 ?_
  rw [show (-(-nI v) : Int32) = nI v from neg_neg]
  refine va_tb hx hb hd0.2.2.2 (nS_n hz0 hS) (show vp_in (nI v) 100 from nI_in (by omega) (by omega)) (v := .int (nI (48 + v / 10))) (by rw [show (nI v : Int32).toNatClampNeg = v from nI_c (by omega)]) dJ6_getChars_ba4f3_102 ?_
  refine nF_bast X hF hP hS (Or.inl (Nat.le_add_right _ _)) ⟨hk1.1, vat⟩ (nI_in (c := j) (by omega) (by omega)) dJ6_getChars_ba4f3_103 (fun H locs hP hS => ?_)
  rw [nI_c (by omega), (asc_b (dig_a (d := v / 10) (by omega))).2.1, up_up] at hP
  refine lv_iload hx hb dJ6_getChars_ba4f3_104 (lv_at hl 2 rfl) ?_
  refine lv_if_eq (tgt := 118) hx hb dJ6_getChars_ba4f3_106 (by decide) (fun _ => ?_) (fun c1 => absurd (rfl) c1)
  refine lv_iload hx hb dJ6_getChars_ba4f3_118 (lv_at hl 0 rfl) ?_
  exact hret _ _ _ _ _ _ dJ6_getChars_ba4f3_120 hP hS (Nat.le_refl _) (Nat.le_refl _))
theorem vJ6_gc3 (hv : v < 128) (h1 : 100 ≤ v) {k1 N1 j : Nat} {f1 : Nat → Int32} (hF : gFs (nΩ bs) F) (hd : ∀ U H, F U H → dgP dO dT bs U H) (hk1 : k1 < n ∧ w k1 = byV cg N1 f1) (hj : j + 3 ≤ N1) (hN : N1 ≤ 500) : gMetIA l yJ6_getChars_ba4f3 cJ6_getChars_ba4f3 7 (some .int) 0 0 0 (nΩ bs) (gF (nP dC dI cg kA bs) F) (kR kTab kA) [.int (nI v), .int (nI (j + 3)), .ref (bs + k1)] (n, w) (nI j) (n, va_up w k1 (byV cg N1 (upd (upd (upd f1 (j + 2) (nI (48 + (v - 100) % 10))) (j + 1) (nI (48 + (v - 100) / 10))) j (nI (48 + 1 % 10))))) := gEntryIA (ty := .int) (by decide) rfl rfl (gF_ok nOK hF) (Nat.le_of_ble_eq_true rfl) (fun p e s m args below meth c Q ls X hP hS hret hl => by
  have hx := X.hx
  have hb := X.hb
  have hP : gF (nP dC dI cg kA bs) F (n, w) s s.heap := hP
  have hz0 : bs ≤ s.heap.size := by
    have h1 : s.heap.size = bs + n := hP.1.1
    omega
  have hd0 := hd _ _ hP.2
  have g := ng hv
  refine lv_iload_n hx hb dJ6_getChars_ba4f3_0 rfl (lv_at hl 1 rfl) ?_
  refine lv_istore (lv' := [(5, .int (nI (j + 3))), (0, .int (nI v)), (1, .int (nI (j + 3))), (2, .ref (bs + k1))]) hx hb dJ6_getChars_ba4f3_1 hl (by decide) rfl (fun ls hl => ?_)
  refine lv_iload_n hx hb dJ6_getChars_ba4f3_3 rfl (lv_at hl 1 rfl) ?_
  refine lv_if_ge (tgt := 11) hx hb dJ6_getChars_ba4f3_4 (by decide) (fun _ => ?_) (fun c1 => absurd (show (0 : Int32) ≤ nI v from nI_le (a := 0) (Nat.zero_le _) (by omega)) c1)
  refine lv_iconst (v := 0) hx hb dJ6_getChars_ba4f3_11 (by decide) ?_
  refine lv_istore (lv' := [(6, .int 0), (5, .int (nI (j + 3))), (0, .int (nI v)), (1, .int (nI (j + 3))), (2, .ref (bs + k1))]) hx hb dJ6_getChars_ba4f3_12 hl (by decide) rfl (fun ls hl => ?_)
  refine lv_iload hx hb dJ6_getChars_ba4f3_14 (lv_at hl 0 rfl) ?_
  refine lv_if_ne (tgt := 22) hx hb dJ6_getChars_ba4f3_16 (by decide) (fun c1 => absurd (rfl) c1) (fun _ => ?_)
  refine lv_iload_n hx hb dJ6_getChars_ba4f3_19 rfl (lv_at hl 2 rfl) ?_
  refine lv_ineg hx hb dJ6_getChars_ba4f3_20 ?_
  refine lv_istore_n (lv' := [(0, .int (-nI v)), (6, .int 0), (5, .int (nI (j + 3))), (1, .int (nI (j + 3))), (2, .ref (bs + k1))]) hx hb dJ6_getChars_ba4f3_21 rfl hl (by decide) rfl (fun ls hl => ?_)
  refine lv_iload_n hx hb dJ6_getChars_ba4f3_22 rfl (lv_at hl 0 rfl) ?_
  refine lv_bipush (v := (-100)) hx hb dJ6_getChars_ba4f3_23 (by decide) ?_
  refine lv_icmp_gt (tgt := 72) hx hb dJ6_getChars_ba4f3_25 (by decide) (fun c1 => absurd c1 ((g.1.2 (by omega)).1)) (fun _ => ?_)
  refine lv_iload_n hx hb dJ6_getChars_ba4f3_28 rfl (lv_at hl 0 rfl) ?_
  refine lv_bipush (v := 100) hx hb dJ6_getChars_ba4f3_29 (by decide) ?_
  refine lv_idiv hx hb dJ6_getChars_ba4f3_31 (by decide) ?_
  rw [show (-nI v / 100 : Int32) = -1 from (g.1.2 (by omega)).2.1]
  refine lv_istore_n (lv' := [(3, .int (-1)), (0, .int (-nI v)), (6, .int 0), (5, .int (nI (j + 3))), (1, .int (nI (j + 3))), (2, .ref (bs + k1))]) hx hb dJ6_getChars_ba4f3_32 rfl hl (by decide) rfl (fun ls hl => ?_)
  refine lv_iload_n hx hb dJ6_getChars_ba4f3_33 rfl (lv_at hl 0 rfl) ?_
  refine lv_bipush (v := 100) hx hb dJ6_getChars_ba4f3_34 (by decide) ?_
  refine lv_imul hx hb dJ6_getChars_ba4f3_36 ?_
  rw [show ((-1) * 100 : Int32) = -100 from by decide]
  refine lv_iload_n hx hb dJ6_getChars_ba4f3_37 rfl (lv_at hl 1 rfl) ?_
  refine lv_isub hx hb dJ6_getChars_ba4f3_38 ?_
  rw [show ((-100) - (-nI v) : Int32) = nI (v - 100) from (g.1.2 (by omega)).2.2]
  refine lv_istore (lv' := [(4, .int (nI (v - 100))), (3, .int (-1)), (0, .int (-nI v)), (6, .int 0), (5, .int (nI (j + 3))), (1, .int (nI (j + 3))), (2, .ref (bs + k1))]) hx hb dJ6_getChars_ba4f3_39 hl (by decide) rfl (fun ls hl => ?_)
  refine lv_iload_n hx hb dJ6_getChars_ba4f3_41 rfl (lv_at hl 1 rfl) ?_
  refine lv_istore_n (lv' := [(0, .int (-1)), (4, .int (nI (v - 100))), (3, .int (-1)), (6, .int 0), (5, .int (nI (j + 3))), (1, .int (nI (j + 3))), (2, .ref (bs + k1))]) hx hb dJ6_getChars_ba4f3_42 rfl hl (by decide) rfl (fun ls hl => ?_)
  refine lv_aload_n hx hb dJ6_getChars_ba4f3_43 rfl (lv_at hl 6 rfl) ?_
  refine lv_iinc (v := (nI (j + 3)) + (-1)) (lv' := [(5, .int ((nI (j + 3)) + (-1))), (0, .int (-1)), (4, .int (nI (v - 100))), (3, .int (-1)), (6, .int 0), (1, .int (nI (j + 3))), (2, .ref (bs + k1))]) hx hb dJ6_getChars_ba4f3_44 hl (k := 4) rfl (by rfl) (by decide) rfl (fun ls hl => ?_)
  rw [show (nI (j + 3)) + (-1) = nI (j + 2) from pk_m1 (j + 2)] at hl
  refine lv_iload hx hb dJ6_getChars_ba4f3_47 (lv_at hl 0 rfl) ?_
  refine va_gets hx hb hd0.1 (nS_n hz0 hS) X.hown (X.hts _ tw1500) (fun _ h => h) dJ6_getChars_ba4f3_49 ?_
  refine lv_iload hx hb dJ6_getChars_ba4f3_52 (lv_at hl 2 rfl) ?_
  refine va_tb hx hb hd0.2.2.1 (nS_n hz0 hS) (show vp_in (nI (v - 100)) 100 from nI_in (by omega) (by omega)) (v := .int (nI (48 + (v - 100) % 10))) (by rw [show (nI (v - 100) : Int32).toNatClampNeg = (v - 100) from nI_c (by omega)]) dJ6_getChars_ba4f3_54 ?_
  refine nF_bast X hF hP hS (Or.inl (Nat.le_add_right _ _)) hk1 (nI_in (c := j + 2) (by omega) (by omega)) dJ6_getChars_ba4f3_55 (fun H locs hP hS => ?_)
  rw [nI_c (by omega), (asc_b (dig_a (d := (v - 100) % 10) (by omega))).2.1] at hP
  refine lv_aload_n hx hb dJ6_getChars_ba4f3_56 rfl (lv_at hl 6 rfl) ?_
  refine lv_iinc (v := (nI (j + 2)) + (-1)) (lv' := [(5, .int ((nI (j + 2)) + (-1))), (0, .int (-1)), (4, .int (nI (v - 100))), (3, .int (-1)), (6, .int 0), (1, .int (nI (j + 3))), (2, .ref (bs + k1))]) hx hb dJ6_getChars_ba4f3_57 hl (k := 0) rfl (by rfl) (by decide) rfl (fun ls hl => ?_)
  rw [show (nI (j + 2)) + (-1) = nI (j + 1) from pk_m1 (j + 1)] at hl
  refine lv_iload hx hb dJ6_getChars_ba4f3_60 (lv_at hl 0 rfl) ?_
  refine va_gets hx hb hd0.2.1 (nS_n hz0 hS) X.hown (X.hts _ tw1502) (fun _ h => h) dJ6_getChars_ba4f3_62 ?_
  refine lv_iload hx hb dJ6_getChars_ba4f3_65 (lv_at hl 2 rfl) ?_
  refine va_tb hx hb hd0.2.2.2 (nS_n hz0 hS) (show vp_in (nI (v - 100)) 100 from nI_in (by omega) (by omega)) (v := .int (nI (48 + (v - 100) / 10))) (by rw [show (nI (v - 100) : Int32).toNatClampNeg = (v - 100) from nI_c (by omega)]) dJ6_getChars_ba4f3_67 ?_
  refine nF_bast X hF hP hS (Or.inl (Nat.le_add_right _ _)) ⟨hk1.1, vat⟩ (nI_in (c := j + 1) (by omega) (by omega)) dJ6_getChars_ba4f3_68 (fun H locs hP hS => ?_)
  rw [nI_c (by omega), (asc_b (dig_a (d := (v - 100) / 10) (by omega))).2.1, up_up] at hP
  refine lv_goto (tgt := 22) hx hb dJ6_getChars_ba4f3_69 (by decide) ?_
  refine lv_iload_n hx hb dJ6_getChars_ba4f3_22 rfl (lv_at hl 1 rfl) ?_
  refine lv_bipush (v := (-100)) hx hb dJ6_getChars_ba4f3_23 (by decide) ?_
  refine lv_icmp_gt (tgt := 72) hx hb dJ6_getChars_ba4f3_25 (by decide) (fun _ => ?_) (fun c1 => absurd (by decide) c1)
  refine lv_aload_n hx hb dJ6_getChars_ba4f3_72 rfl (lv_at hl 6 rfl) ?_
  refine lv_iinc (v := (nI (j + 1)) + (-1)) (lv' := [(5, .int ((nI (j + 1)) + (-1))), (0, .int (-1)), (4, .int (nI (v - 100))), (3, .int (-1)), (6, .int 0), (1, .int (nI (j + 3))), (2, .ref (bs + k1))]) hx hb dJ6_getChars_ba4f3_73 hl (k := 0) rfl (by rfl) (by decide) rfl (fun ls hl => ?_)
  rw [show (nI (j + 1)) + (-1) = nI j from pk_m1 (j + 0)] at hl
  refine lv_iload hx hb dJ6_getChars_ba4f3_76 (lv_at hl 0 rfl) ?_
  refine va_gets hx hb hd0.1 (nS_n hz0 hS) X.hown (X.hts _ tw1500) (fun _ h => h) dJ6_getChars_ba4f3_78 ?_
  refine lv_iload_n hx hb dJ6_getChars_ba4f3_81 rfl (lv_at hl 1 rfl) ?_
  refine lv_ineg hx hb dJ6_getChars_ba4f3_82 ?_
  rw [show (-(-1) : Int32) = nI 1 from by decide]
  refine va_tb hx hb hd0.2.2.1 (nS_n hz0 hS) (show vp_in (nI 1) 100 from nI_in (by omega) (by omega)) (v := .int (nI (48 + 1 % 10))) (by rw [show (nI 1 : Int32).toNatClampNeg = 1 from nI_c (by omega)]) dJ6_getChars_ba4f3_83 ?_
  refine nF_bast X hF hP hS (Or.inl (Nat.le_add_right _ _)) ⟨hk1.1, vat⟩ (nI_in (c := j) (by omega) (by omega)) dJ6_getChars_ba4f3_84 (fun H locs hP hS => ?_)
  rw [nI_c (by omega), (asc_b (dig_a (d := 1 % 10) (by omega))).2.1, up_up] at hP
  refine lv_iload_n hx hb dJ6_getChars_ba4f3_85 rfl (lv_at hl 1 rfl) ?_
  refine lv_bipush (v := (-9)) hx hb dJ6_getChars_ba4f3_86 (by decide) ?_
  refine lv_icmp_ge (tgt := 104) hx hb dJ6_getChars_ba4f3_88 (by decide) (fun _ => ?_) (fun c1 => absurd (by decide) c1)
  refine lv_iload hx hb dJ6_getChars_ba4f3_104 (lv_at hl 4 rfl) ?_
  refine lv_if_eq (tgt := 118) hx hb dJ6_getChars_ba4f3_106 (by decide) (fun _ => ?_) (fun c1 => absurd (rfl) c1)
  refine lv_iload hx hb dJ6_getChars_ba4f3_118 (lv_at hl 0 rfl) ?_
  exact hret _ _ _ _ _ _ dJ6_getChars_ba4f3_120 hP hS (Nat.le_refl _) (Nat.le_refl _))
theorem vJ6_getChars (hv : v < 128) {k1 N1 j : Nat} {f1 : Nat → Int32} (hF : gFs (nΩ bs) F) (hd : ∀ U H, F U H → dgP dO dT bs U H) (hk1 : k1 < n ∧ w k1 = byV cg N1 f1) (hj : j + (dgL v).length ≤ N1) (hN : N1 ≤ 500) : gMetIA l yJ6_getChars_ba4f3 cJ6_getChars_ba4f3 7 (some .int) 0 0 0 (nΩ bs) (gF (nP dC dI cg kA bs) F) (kR kTab kA) [.int (nI v), .int (nI (j + (dgL v).length)), .ref (bs + k1)] (n, w) (nI j) (n, va_up w k1 (byV cg N1 (va_cpy (fun i => (dgL v).getD i 0) f1 0 j (dgL v).length))) := by
  by_cases h1 : v < 10
  · have e : dgL v = [nI (48 + v)] := by unfold dgL; rw [if_pos h1]
    have h := vJ6_gc1 (l := l) (dC := dC) (dI := dI) (kA := kA) (dO := dO) (dT := dT) hv h1 hF hd hk1 (j := j) (by rw [e] at hj; exact hj) hN
    rw [e, show va_cpy (fun i => ([nI (48 + v)] : List Int32).getD i 0) f1 0 j ([nI (48 + v)] : List Int32).length = upd f1 j (nI (48 + v % 10)) from funext fun q => by
      by_cases c : q = j
      · subst c
        rw [pk_us, pk_cpy_in (Nat.le_refl _) (by show q < q + 1; omega), Nat.sub_self, Nat.mod_eq_of_lt h1]
        rfl
      · rw [pk_un c, pk_cpy_out (by show q < j ∨ j + 1 ≤ q; omega)]]
    exact h
  · by_cases h2 : v < 100
    · have e : dgL v = [nI (48 + v / 10), nI (48 + v % 10)] := by unfold dgL; rw [if_neg h1, if_pos h2]
      have h := vJ6_gc2 (l := l) (dC := dC) (dI := dI) (kA := kA) (dO := dO) (dT := dT) hv (by omega) h2 hF hd hk1 (j := j) (by rw [e] at hj; exact hj) hN
      rw [e, show va_cpy (fun i => ([nI (48 + v / 10), nI (48 + v % 10)] : List Int32).getD i 0) f1 0 j ([nI (48 + v / 10), nI (48 + v % 10)] : List Int32).length = upd (upd f1 (j + 1) (nI (48 + v % 10))) j (nI (48 + v / 10)) from funext fun q => by
        by_cases c : q = j
        · subst c
          rw [pk_us, pk_cpy_in (Nat.le_refl _) (by show q < q + 2; omega), Nat.sub_self]
          rfl
        · rw [pk_un c]
          by_cases c2 : q = j + 1
          · subst c2
            rw [pk_us, pk_cpy_in (by omega) (by show j + 1 < j + 2; omega), show j + 1 - j = 1 from by omega]
            rfl
          · rw [pk_un c2, pk_cpy_out (by show q < j ∨ j + 2 ≤ q; omega)]]
      exact h
    · have e : dgL v = [nI (48 + v / 100), nI (48 + v / 10 % 10), nI (48 + v % 10)] := by unfold dgL; rw [if_neg h1, if_neg h2]
      have h := vJ6_gc3 (l := l) (dC := dC) (dI := dI) (kA := kA) (dO := dO) (dT := dT) hv (by omega) hF hd hk1 (j := j) (by rw [e] at hj; exact hj) hN
      rw [show (v - 100) % 10 = v % 10 from by omega, show (v - 100) / 10 = v / 10 % 10 from by omega, show (1 % 10 : Nat) = v / 100 from by omega] at h
      rw [e, show va_cpy (fun i => ([nI (48 + v / 100), nI (48 + v / 10 % 10), nI (48 + v % 10)] : List Int32).getD i 0) f1 0 j ([nI (48 + v / 100), nI (48 + v / 10 % 10), nI (48 + v % 10)] : List Int32).length = upd (upd (upd f1 (j + 2) (nI (48 + v % 10))) (j + 1) (nI (48 + v / 10 % 10))) j (nI (48 + v / 100)) from funext fun q => by
        by_cases c : q = j
        · subst c
          rw [pk_us, pk_cpy_in (Nat.le_refl _) (by show q < q + 3; omega), Nat.sub_self]
          rfl
        · rw [pk_un c]
          by_cases c2 : q = j + 1
          · subst c2
            rw [pk_us, pk_cpy_in (by omega) (by show j + 1 < j + 3; omega), show j + 1 - j = 1 from by omega]
            rfl
          · rw [pk_un c2]
            by_cases c3 : q = j + 2
            · subst c3
              rw [pk_us, pk_cpy_in (by omega) (by show j + 2 < j + 3; omega), show j + 2 - j = 2 from by omega]
              rfl
            · rw [pk_un c3, pk_cpy_out (by show q < j ∨ j + 3 ≤ q; omega)]]
      exact h
theorem dgL_asc (hv : v < 128) : ∀ b ∈ dgL v, ∃ q : Fin 128, b = Int32.ofNat q.val := by
  unfold dgL
  repeat' split
  all_goals (intro b hb; simp only [List.mem_cons, List.not_mem_nil, or_false] at hb)
  · subst hb; exact dig_a (by omega)
  · rcases hb with rfl | rfl
    · exact dig_a (by omega)
    · exact dig_a (by omega)
  · rcases hb with rfl | rfl | rfl
    · exact dig_a (by omega)
    · exact dig_a (by omega)
    · exact dig_a (by omega)
end NSB3
