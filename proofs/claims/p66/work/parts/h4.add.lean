
/-! an element stored in a list's array; ArrayList.add where there is room -/
/-- an object of a class -/
def eP (dC : Nat → ClassId) (v ci : Nat) (H : Heap) : Prop := ∃ cell : Cell, H[v]? = some cell ∧ cell.cls = dC ci ∧ cell.vm.isStatics = false
theorem eP_of {dC : Nat → ClassId} {dI : Nat → Nat → Nat} {v ci : Nat} {vs : List Value} {H : Heap} (h : va_at (dC, dI) vwCl (v, .inr (ci, vs)) H) : eP dC v ci H := by
  obtain ⟨r, h1, cell, q1, q2, q3, q4⟩ := h
  exact ⟨cell, q1, q2, by rw [q3]; rfl⟩
theorem ixA.toE {dC : Nat → ClassId} {dI : Nat → Nat → Nat} {a n : Nat} {H : Heap} (h : ixA dC dI a n H) : eP dC a 2 H := by
  obtain ⟨cell, h1, h2, h3, h4⟩ := h
  exact ⟨cell, h1, h2, h3⟩
section HADD
variable {p : Program} {l : Launch} {e : Env} {R : Room} {s : State} {m : MethodId} {args : Array Value} {below : List Frame} {meth : Method} {c : Code} {H : Heap} {locs : List Loc} {cells slots : Nat} {Q : State → Prop}
variable {cc : ByteArray} {pc nL : Nat} {ls : Array Slot} {rest : List Value} {dC : Nat → ClassId} {dI : Nat → Nat → Nat} {cg : Nat → ClassId} {kA : String → Nat → Nat} {bs i k n v cnt : Nat} {own : String} {w : Nat → va_E} {A0 : Nat → Prop} {F : State → Heap → Prop}
theorem nw_aastO {ci N : Nat} {r : vw_C} {f : Nat → Option Nat} {x : Int32} (X : gX p s m args c cc nL own (kR kTab kA)) (hP : nP dC dI cg kA bs (n, w) s H) (hS : va_S A0 s.heap H locs) (hA : A0 (bs + k)) (hk : k < n) (hek : w k = .inl (cg 6, N, .inr (.inr (.inr (.inr f))))) (hv : eP dC v ci H) (hc : vwCl[ci]? = some r) (hca : va_Nw (.castable r.1 "java/lang/Object") s) (hin : vp_in x N) (hdg : decode cc pc = .ok (.aastore, 1))
    (kk : ∀ (H1 : Heap) (locs1 : List Loc), nP dC dI cg kA bs (n, va_up w k (.inl (cg 6, N, .inr (.inr (.inr (.inr (va_up f x.toNatClampNeg (some v)))))))) s H1 → H1.size = H.size → (∀ q : Nat, q ≠ bs + k → H1[q]? = H[q]?) → va_S A0 s.heap H1 locs1 → W p l e R s m args below meth c H1 locs1 cells slots Q (F0 m (pc + 1) ls rest)) : W p l e R s m args below meth c H locs cells slots Q (F0 m pc ls (.ref v :: .int x :: .ref (bs + k) :: rest)) := by
  have row : va_at (dC, dI) vwCl (bs + k, .inl (cg 6, N, .inr (.inr (.inr (.inr f))))) H := hek ▸ hP.2.1 k hk
  have hlt : x.toNatClampNeg < N := Nat.not_le.mp fun q => hin (Or.inr q)
  have h0 : ¬ x < 0 := fun q => hin (Or.inl q)
  obtain ⟨cellV, g1, g2, g3⟩ := hv
  have hcls := (hP.2.2.1.1 ci r hc).2
  obtain ⟨kA', comp, k1, k2, k3, -⟩ := (hP.2.2.1.2 6 _ rfl).2
  obtain ⟨kE, hkE, -⟩ := Vm.findClass_spec k3
  obtain ⟨c0, t1, f1, f2, f3⟩ := Cond.castable_spec (va_Nw.use (A := args) rfl hca)
  cases hcls.1.symm.trans f1
  cases k3.symm.trans f2
  obtain ⟨kC, hkC, -⟩ := hcls.2
  refine W.aast X.hx X.hb row (fun q h => by cases h) (fun h => by cases h) k1 k2 rfl hkE ⟨h0, by show _ < (arrV _ _ _).slots.size; rw [arrV_size]; exact hlt⟩ g1 (fun q h => by rw [h] at g3; cases g3) (by rw [g2]; exact hkC) (by rw [g2]; exact f3) rfl rfl hdg fun H1 e z oq => ?_
  have h1 : va_at (dC, dI) vwCl (bs + k, .inl (cg 6, N, .inr (.inr (.inr (.inr (va_up f x.toNatClampNeg (some v))))))) H1 := by
    show H1[bs + k]? = some (vp_cell _ _)
    rw [e]
    rw [vp_cell_q, vp_cell_q, arrV_store]
    congr 2
    funext q
    by_cases hq : q = x.toNatClampNeg
    · subst hq
      simp [updV, va_up, va_rf]
    · simp [updV, va_up, hq]
  exact kk H1 _ (hP.up (i := k) h1 z oq) z oq (hS.put z oq hA)
/-- add(Object, Object[], int) where there is room -/
theorem vJL_add3 {ci N : Nat} {r : vw_C} {f : Nat → Option Nat} {mo : Int32} (hF : gFs (nΩ bs) F) (hi : i < n) (hk : k < n) (hik : i ≠ k) (he : w i = .inr (4, [.int mo, .ref (bs + k), .int (nI cnt)])) (hek : w k = .inl (cg 6, N, .inr (.inr (.inr (.inr f))))) (hcn : cnt < N) (hN : N ≤ 10) (hc : vwCl[ci]? = some r) (hca : Cond.castable r.1 "java/lang/Object" ∈ xws) (hel : ∀ U H, gF (nP dC dI cg kA bs) F (n, w) U H → eP dC v ci H) : gMetVA l yJx4a65c_add_72be8 cJx4a65c_add_72be8 4 1 0 0 (nΩ bs) (gF (nP dC dI cg kA bs) F) (kR kTab kA) [.ref (bs + i), .ref v, .ref (bs + k), .int (nI cnt)] (n, w) (n, va_up (va_up w k (.inl (cg 6, N, .inr (.inr (.inr (.inr (va_up f cnt (some v)))))))) i (.inr (4, [.int mo, .ref (bs + k), .int (nI (cnt + 1))]))) := gEntryVN (by decide) (gF_ok nOK hF) (Nat.le_of_ble_eq_true rfl) (fun p e s m args below meth c Q ls X hmn hP hS hret hl => by
  have hx := X.hx
  have hb := X.hb
  have hP : gF (nP dC dI cg kA bs) F (n, w) s s.heap := hP
  have hv := hel _ _ hP
  have row : va_at (dC, dI) vwCl (bs + k, .inl (cg 6, N, .inr (.inr (.inr (.inr f))))) s.heap := hek ▸ hP.1.2.1 k hk
  refine lv_iload_n hx hb dJx4a65c_add_72be8_0 rfl (lv_at hl 3 rfl) ?_
  refine lv_aload_n hx hb dJx4a65c_add_72be8_1 rfl (lv_at hl 2 rfl) ?_
  refine va_alen (v := nI N) X.hx X.hb hP.1.2.2.1 (cwo row) 0 6 rfl rfl rfl dJx4a65c_add_72be8_2 ?_
  refine lv_icmp_ne (tgt := 11) hx hb dJx4a65c_add_72be8_3 (by decide) (fun _ => ?_) (fun c1 => absurd ((nI_eq (by omega) (by omega)).mp c1) (by omega))
  refine lv_aload_n hx hb dJx4a65c_add_72be8_11 rfl (lv_at hl 2 rfl) ?_
  refine lv_iload_n hx hb dJx4a65c_add_72be8_12 rfl (lv_at hl 3 rfl) ?_
  refine lv_aload_n hx hb dJx4a65c_add_72be8_13 rfl (lv_at hl 1 rfl) ?_
  refine nw_aastO X hP.1 hS (Or.inl (Nat.le_add_right _ _)) hk hek hv hc (X.ks.2.1 _ hca) (show vp_in (nI cnt) N from nI_in hcn (by omega)) dJx4a65c_add_72be8_14 (fun H1 locs1 hP1 hz1 oq1 hS1 => ?_)
  rw [nI_clamp (by omega)] at hP1
  have hF1 := hF.2 s s.heap H1 (by omega) (fun q hq nq => oq1 q (fun z => nq (by show bs ≤ q; omega))) hP.2
  refine lv_aload_n hx hb dJx4a65c_add_72be8_15 rfl (lv_at hl 0 rfl) ?_
  refine lv_iload_n hx hb dJx4a65c_add_72be8_16 rfl (lv_at hl 3 rfl) ?_
  refine lv_iconst (v := 1) hx hb dJx4a65c_add_72be8_17 (by decide) ?_
  refine lv_iadd hx hb dJx4a65c_add_72be8_18 ?_
  rw [show nI cnt + 1 = nI (cnt + 1) from (nI_succ cnt).symm]
  have hi0 : va_at (dC, dI) vwCl (bs + i, .inr (4, [.int mo, .ref (bs + k), .int (nI cnt)])) H1 := by
    have h1 := hP1.2.1 i hi
    have h1 : va_at (dC, dI) vwCl (bs + i, va_up w k (.inl (cg 6, N, .inr (.inr (.inr (.inr (va_up f cnt (some v))))))) i) H1 := h1
    rw [vne hik, he] at h1
    exact h1
  refine va_putO X.hx X.hb X.hts cinJx4a65c tyJx4a65c tyJx4a65c_ok nmJx4a65c X.hown hP1.2.2.1 hi0 (rfl : vwCl[4]? = some (RJx4a65c, TJx4a65c, 3)) 2 (by decide) (X.hts _ tw868) (fun x h => h) rfl (tyJx4a65c_ok 2 (by decide)) rfl rfl (Nat.le_of_ble_eq_true rfl) dJx4a65c_add_72be8_19 (fun H2 j h4 hz oq => ?_)
  have hF2 := hF.2 s H1 H2 (by omega) (fun q hq nq => oq q (fun z => nq (by show bs ≤ q; omega))) hF1
  exact hret _ _ _ _ _ _ dJx4a65c_add_72be8_22 ⟨hP1.up (i := i) h4 hz oq, hF2⟩ (hS1.put (k := j) hz oq (Or.inl (Nat.le_add_right _ _))) (Nat.le_refl _) (Nat.le_refl _))
end HADD
