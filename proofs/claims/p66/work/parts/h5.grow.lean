theorem tw1570 : (Jvm.Cond.methodLink "java/util/ArrayList" (79 : Nat) ({ cls := "java/lang/Math", name := "max", desc := "(II)I" } : Jvm.MethodName)) ∈ TBG := tb_t 1570 (by decide +kernel) (by decide +kernel)
theorem tw1571 : (Jvm.Cond.classLink "java/util/ArrayList" (7 : Nat) "java/lang/Object") ∈ TBG := tb_t 1571 (by decide +kernel) (by decide +kernel)
/-! an empty list's first array -/
section HGRO
variable {l : Launch} {dC : Nat → ClassId} {dI : Nat → Nat → Nat} {cg : Nat → ClassId} {kA : String → Nat → Nat} {bs i n eA : Nat} {w : Nat → va_E} {mo : Int32} {F : State → Heap → Prop}
theorem vJL_growI (hF : gFs (nΩ bs) F) (hj0 : ∀ U H, F U H → jE dC dI cg eA bs U H) (hi : i < n) (he : w i = .inr (4, [.int mo, .ref eA, .int 0])) : gMetO l yJx4a65c_grow_92f84 cJx4a65c_grow_92f84 4 (some (.array (.object "java/lang/Object"))) 2 1 10 (nΩ bs) (gF (nP dC dI cg kA bs) F) (kR kTab kA) [.ref (bs + i), .int 1] (n, w) (n + 1, va_up (va_up w n (.inl (cg 6, 10, .inr (.inr (.inr (.inr fun _ => none)))))) i (.inr (4, [.int mo, .ref (bs + n), .int 0]))) (fun a _ _ => a = bs + n) := gEntryO (by decide) rfl (Or.inr ⟨_, rfl⟩) (gF_ok nOK hF) (fun _ _ _ _ _ h => h) (Nat.le_of_ble_eq_true rfl) (fun p e s m args below meth c Q ls X hP hS hret hl => by
  have hx := X.hx
  have hb := X.hb
  have hP : gF (nP dC dI cg kA bs) F (n, w) s s.heap := hP
  have hz0 : bs ≤ s.heap.size := by
    have h1 : s.heap.size = bs + n := hP.1.1
    omega
  have hj := hj0 _ _ hP.2
  have hi0 : va_at (dC, dI) vwCl (bs + i, .inr (4, [.int mo, .ref eA, .int 0])) s.heap := he ▸ hP.1.2.1 i hi
  refine lv_aload_n hx hb dJx4a65c_grow_92f84_0 rfl (lv_at hl 0 rfl) ?_
  refine va_get X.hx X.hb X.hts cinJx4a65c X.hown hP.1.2.2.1 (cwo hi0) 0 rfl (rfl : vwCl[4]? = some (RJx4a65c, TJx4a65c, 3)) 1 (by decide) (X.hts _ tw865) (fun x h => h) rfl dJx4a65c_grow_92f84_1 ?_
  refine va_tlen (v := 0) hx hb hj.2.1 (nS_n hz0 hS) rfl dJx4a65c_grow_92f84_4 ?_
  refine lv_istore_n (lv' := [(2, .int 0), (0, .ref (bs + i)), (1, .int 1)]) hx hb dJx4a65c_grow_92f84_5 rfl hl (by decide) rfl (fun ls hl => ?_)
  refine lv_iload_n hx hb dJx4a65c_grow_92f84_6 rfl (lv_at hl 0 rfl) ?_
  refine lv_if_gt (tgt := 20) hx hb dJx4a65c_grow_92f84_7 (by decide) (fun c1 => absurd c1 (by decide)) (fun _ => ?_)
  refine lv_aload_n hx hb dJx4a65c_grow_92f84_10 rfl (lv_at hl 1 rfl) ?_
  refine va_get X.hx X.hb X.hts cinJx4a65c X.hown hP.1.2.2.1 (cwo hi0) 0 rfl (rfl : vwCl[4]? = some (RJx4a65c, TJx4a65c, 3)) 1 (by decide) (X.hts _ tw865) (fun x h => h) rfl dJx4a65c_grow_92f84_11 ?_
  refine va_gets hx hb hj.1 (nS_n hz0 hS) X.hown (X.hts _ tw863) (fun x h => h) dJx4a65c_grow_92f84_14 ?_
  refine lv_acmp_eq (rx := some eA) (ry := some eA) (tgt := 45) hx hb dJx4a65c_grow_92f84_17 (by decide) (fun _ => ?_) (fun c1 => absurd rfl c1)
  refine lv_aload_n hx hb dJx4a65c_grow_92f84_45 rfl (lv_at hl 1 rfl) ?_
  refine lv_bipush (v := 10) hx hb dJx4a65c_grow_92f84_46 (by decide) ?_
  refine lv_iload_n hx hb dJx4a65c_grow_92f84_48 rfl (lv_at hl 2 rfl) ?_
  refine gMax X rfl tw1570 tw535 tw19 tw536 (Nat.le_of_ble_eq_true rfl) hl.1 (Nat.le_of_ble_eq_true rfl) ⟨by omega, by omega⟩ dJx4a65c_grow_92f84_49 ?_
  rw [if_neg (show ¬ (10 : Int32) < 1 by decide)]
  refine nw_newq (t0 := 6) (N := 10) X hP.1 hS tw1571 (fun _ => hj.2.2) rfl (by decide) (by decide) (Nat.le_of_ble_eq_true rfl) ⟨by show _ + 1 ≤ 1; omega, by show _ + 10 ≤ 10; omega⟩ dJx4a65c_grow_92f84_52 (fun H1 hP1 hS1 => ?_)
  refine lv_dup_x1 hx hb dJx4a65c_grow_92f84_55 rfl rfl ?_
  have hi1 : va_at (dC, dI) vwCl (bs + i, .inr (4, [.int mo, .ref eA, .int 0])) H1 := by
    have h1 := hP1.2.1 i (by show i < n + 1; omega)
    have h1 : va_at (dC, dI) vwCl (bs + i, va_up w n (.inl (cg 6, 10, .inr (.inr (.inr (.inr fun _ => none))))) i) H1 := h1
    rw [vne (by omega), he] at h1
    exact h1
  refine va_putO X.hx X.hb X.hts cinJx4a65c tyJx4a65c tyJx4a65c_ok nmJx4a65c X.hown hP1.2.2.1 hi1 (rfl : vwCl[4]? = some (RJx4a65c, TJx4a65c, 3)) 1 (by decide) (X.hts _ tw865) (fun x h => h) rfl (tyJx4a65c_ok 1 (by decide)) rfl rfl (Nat.le_of_ble_eq_true rfl) dJx4a65c_grow_92f84_56 (fun H2 j h4 hz oq => ?_)
  have hS2 := hS1.put (k := j) hz oq (Or.inl (Nat.le_add_right _ _))
  have hF2 := hF.2 s s.heap H2 hS2.1 (fun q hq nq => (nS_n hz0 hS2).2.1 q hq nq) hP.2
  exact hret _ _ _ _ _ _ _ dJx4a65c_grow_92f84_59 ⟨hP1.up (i := i) h4 hz oq, hF2⟩ rfl hS2 (by omega) (by omega))
end HGRO
