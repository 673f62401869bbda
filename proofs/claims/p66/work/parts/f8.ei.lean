/-! the loaded granary keeps what every step keeps; what of it the law's own world reads -/
section FEI
variable {nc ns nh ml hk : Nat} {sp gr mi cc hr : Nat → Nat} {lf op : Nat → Int32} {w v : Wd} {h : Nat → Int32} {C : LC}
theorem sumA_z {g : Nat → Int32} : ∀ (r i : Nat) (x : Int32), (∀ j, i ≤ j → j < i + r → g j = 0) → sumA g r i x = x
  | 0, _, _, _ => rfl
  | r + 1, i, x, h => by
    show sumA g r (i + 1) (x + g i) = x
    rw [h i (Nat.le_refl _) (by omega), Int32.add_zero]
    exact sumA_z r (i + 1) x (fun j a b => h j (by omega) (by omega))
def drC (nc ns nh : Nat) (cc hr : Nat → Nat) : LC := ((nc, ns, nh), cc, hr)
theorem DR.lC (d : DR nc ns nh ml hk sp gr mi cc hr lf op) : lC (drC nc ns nh cc hr) := ⟨d.1, d.2.1, d.2.2.1, fun j hj => ⟨(d.2.2.2.2.2.2.2.2 j hj).1, (d.2.2.2.2.2.2.2.2 j hj).2.2⟩⟩
theorem EI.start (d : DR nc ns nh ml hk sp gr mi cc hr lf op) (wf : WF nc ns nh ml hk sp gr mi cc hr lf op w) (hh : ∀ c, c < nc → h (4 + c) = lf c) : EI (drC nc ns nh cc hr) 15 127 (startW ns w) h := by
  obtain ⟨⟨w0, w1, w2, w3, w4, w5⟩, wz, wc, ws, wh⟩ := wf
  obtain ⟨hc, hs, hnh, hml, hhk, dsp, dlf, dsk, dsh⟩ := d
  have c0 : w 233 = nI (cc 0) := (wh 0 (by omega)).1
  have cl0 := (dsh 0 (by omega)).1
  have cl : cc 0 < 8 := by omega
  have ko : ∀ q, ¬ WO q → q ≠ 7 → q ≠ 14 → q ≠ 15 → startW ns w q = w q := fun q a b c d => startW_o cl c0 a b c d
  have hu : stC (stB ns (stA ns w)) (233 + 2 * 0) = nI (cc 0) := by
    unfold stC stB stA; rw [pk_un (by omega), pk_un (by omega), pk_un (by omega)]; exact c0
  have e7 : startW ns w 7 = nI (hr 0) := by
    unfold startW swearsInW
    rw [hu, nI_c (by omega), pk_un (by omega), pk_un (by omega), pk_un (by omega)]
    unfold stC
    rw [pk_us]
    unfold stB stA
    rw [pk_un (by omega), pk_un (by omega)]
    exact (wh 0 (by omega)).2
  refine ⟨⟨⟨(ko 0 (by unfold WO; omega) (by omega) (by omega) (by omega)).trans w0, (ko 1 (by unfold WO; omega) (by omega) (by omega) (by omega)).trans w1, (ko 2 (by unfold WO; omega) (by omega) (by omega) (by omega)).trans w2⟩, fun j hj => ?_, fun c hcc => ?_, ⟨hr 0, (dsh 0 (by omega)).2.1, (dsh 0 (by omega)).2.2, e7⟩⟩, fun c s hcc hss => ?_, ?_, ⟨hk, hhk, (ko 3 (by unfold WO; omega) (by omega) (by omega) (by omega)).trans w3⟩, fun k hkk => ?_⟩
  · have hj : j < nh := hj
    exact ⟨(ko _ (by unfold WO; omega) (by omega) (by omega) (by omega)).trans (wh j hj).1, (ko _ (by unfold WO; omega) (by omega) (by omega) (by omega)).trans (wh j hj).2, (dsh j hj).2.1⟩
  · have hcc : c < nc := hcc
    exact ⟨0, by omega, (ko _ (by unfold WO; omega) (by omega) (by omega) (by omega)).trans (wc c hcc).2.2.1⟩
  · have hcc : c < nc := hcc
    have hss : s < nc := hss
    rw [hh c hcc, hh s hss, ko (65 + 12 * c + 8) (by unfold WO; omega) (by omega) (by omega) (by omega), ko (65 + 12 * s + 8) (by unfold WO; omega) (by omega) (by omega) (by omega), (wc c hcc).2.1, (wc s hss).2.1]
  · show KB ns nc (startW ns w)
    have ku : KB ns nc (stC (stB ns (stA ns w))) := by
      have kq : ∀ q, q ≠ 7 → q ≠ 14 → q ≠ 15 → stC (stB ns (stA ns w)) q = w q := fun q a b c => by
        unfold stC stB stA; rw [pk_un a, pk_un c, pk_un b]
      have e14 : stC (stB ns (stA ns w)) 14 = Q 8 ns w := by unfold stC stB stA; rw [pk_un (by omega), pk_un (by omega), pk_us]; rfl
      have e15 : stC (stB ns (stA ns w)) 15 = Q 7 ns w := by
        unfold stC; rw [pk_un (by omega)]; unfold stB; rw [pk_us]
        exact sumA_c _ _ _ (fun j _ hj => by unfold stA; rw [pk_un (by omega)])
      refine ⟨?_, ?_, ?_, ?_, ?_⟩
      · rw [Q_c (fun j hj => kq _ (by omega) (by omega) (by omega)), e14, kq 10 (by omega) (by omega) (by omega), kq 8 (by omega) (by omega) (by omega), kq 11 (by omega) (by omega) (by omega), wz 10 (by omega) (by omega), wz 8 (by omega) (by omega), wz 11 (by omega) (by omega), Int32.add_zero, Int32.sub_zero, Int32.sub_zero]
      · rw [Q_c (fun j hj => kq _ (by omega) (by omega) (by omega)), kq 9 (by omega) (by omega) (by omega), wz 9 (by omega) (by omega)]
        exact sumA_z _ _ _ (fun j _ hj => (ws j (by omega)).2.2.2)
      · rw [Q_c (fun j hj => kq _ (by omega) (by omega) (by omega)), e15, kq 9 (by omega) (by omega) (by omega), wz 9 (by omega) (by omega), Int32.sub_zero]
      · rw [P_c (fun j hj => kq _ (by omega) (by omega) (by omega)), kq 8 (by omega) (by omega) (by omega), wz 8 (by omega) (by omega)]
        exact sumA_z _ _ _ (fun j _ hj => (wc j (by omega)).2.2.2.1)
      · rw [P_c (fun j hj => kq _ (by omega) (by omega) (by omega)), kq 12 (by omega) (by omega) (by omega), wz 12 (by omega) (by omega)]
        exact sumA_z _ _ _ (fun j _ hj => (wc j (by omega)).2.2.2.2)
    unfold startW
    rw [hu, nI_c (by omega)]
    exact ku.swear cl0 (by omega) (by omega)
  · have hkk : k < ns := hkk
    exact ⟨gr k, (dsk k hkk).1, (ko _ (by unfold WO; omega) (by omega) (by omega) (by omega)).trans (ws k hkk).1⟩
/-- two granaries are one to the law's own world -/
def LW (C : LC) (w v : Wd) : Prop := (∀ q, 3 ≤ q → q < 14 → v q = w q) ∧ (∀ c, c < C.1.1 → v (65 + 12 * c + 7) = w (65 + 12 * c + 7) ∧ v (65 + 12 * c + 9) = w (65 + 12 * c + 9) ∧ v (65 + 12 * c + 10) = w (65 + 12 * c + 10) ∧ v (65 + 12 * c + 11) = w (65 + 12 * c + 11)) ∧ ∀ k, k < C.1.2.1 → v (161 + 12 * k + 7) = w (161 + 12 * k + 7) ∧ v (161 + 12 * k + 8) = w (161 + 12 * k + 8) ∧ v (161 + 12 * k + 9) = w (161 + 12 * k + 9) ∧ v (161 + 12 * k + 10) = w (161 + 12 * k + 10)
variable {dC : Nat → ClassId} {dI : Nat → Nat → Nat} {cg : Nat → ClassId} {kA : String → Nat → Nat} {la iA : Nat → Nat} {b1 : Nat} {U : State} {H : Heap}
theorem lRow_congL {p : Nat} (hp : lEx C p) (o : LW C w v) : lRow cg la iA C p (v, h) = lRow cg la iA C p (w, h) := by
  obtain ⟨o1, o2, o3⟩ := o
  unfold lRow
  split
  · simp only [lF0]; rw [o1 5 (by omega) (by omega), o1 3 (by omega) (by omega), o1 4 (by omega) (by omega), o1 6 (by omega) (by omega), o1 7 (by omega) (by omega), o1 8 (by omega) (by omega), o1 9 (by omega) (by omega), o1 10 (by omega) (by omega), o1 11 (by omega) (by omega), o1 12 (by omega) (by omega), o1 13 (by omega) (by omega)]
  · split
    · rfl
    · split
      · rfl
      · split
        · rename_i c1 c2 c3 c4
          obtain ⟨a, b, c, d⟩ := o2 (p - 9) (by unfold lEx at hp; omega)
          simp only [lFc]; rw [a, b, c, d]
        · rename_i c1 c2 c3 c4
          obtain ⟨a, b, c, d⟩ := o3 (p - 13) (by unfold lEx at hp; omega)
          simp only [lFs]; rw [a, b, c, d]
theorem lP_congL (o : LW C w v) (hl : lP dC dI cg kA la iA C b1 (w, h) U H) : lP dC dI cg kA la iA C b1 (v, h) U H := ⟨fun p hp => by rw [lRow_congL hp o]; exact hl.1 p hp, hl.2⟩
/-- the law's own granary against the loaded one -/
theorem LW.start (d : DR nc ns nh ml hk sp gr mi cc hr lf op) (wf : WF nc ns nh ml hk sp gr mi cc hr lf op w) (h3 : v 3 = nI hk) (h4 : v 4 = nI ml) (h5 : v 5 = nI (cc 0)) (h7 : v 7 = nI (hr 0)) (h12 : v 12 = 1) (hz : v 6 = 0 ∧ v 8 = 0 ∧ v 9 = 0 ∧ v 10 = 0 ∧ v 11 = 0 ∧ v 13 = 0) (hc : ∀ c, c < nc → v (65 + 12 * c + 7) = nI (sp c) ∧ v (65 + 12 * c + 9) = 0 ∧ v (65 + 12 * c + 10) = 0 ∧ v (65 + 12 * c + 11) = if c = cc 0 then 1 else 0) (hs : ∀ k, k < ns → v (161 + 12 * k + 7) = nI (gr k) ∧ v (161 + 12 * k + 8) = nI (mi k) ∧ v (161 + 12 * k + 9) = op k ∧ v (161 + 12 * k + 10) = 0) : LW (drC nc ns nh cc hr) v (startW ns w) := by
  obtain ⟨⟨w0, w1, w2, w3, w4, w5⟩, wz, wc, ws, wh⟩ := wf
  obtain ⟨hc', hs', hnh, hml, hhk, dsp, dlf, dsk, dsh⟩ := d
  have c0 : w 233 = nI (cc 0) := (wh 0 (by omega)).1
  have cl0 := (dsh 0 (by omega)).1
  have cl : cc 0 < 8 := by omega
  have ko : ∀ q, ¬ WO q → q ≠ 7 → q ≠ 14 → q ≠ 15 → startW ns w q = w q := fun q a b c d => startW_o cl c0 a b c d
  have hu : stC (stB ns (stA ns w)) (233 + 2 * 0) = nI (cc 0) := by
    unfold stC stB stA; rw [pk_un (by omega), pk_un (by omega), pk_un (by omega)]; exact c0
  have kq : ∀ q, q ≠ 7 → q ≠ 14 → q ≠ 15 → stC (stB ns (stA ns w)) q = w q := fun q a b c => by
    unfold stC stB stA; rw [pk_un a, pk_un c, pk_un b]
  have e7 : startW ns w 7 = nI (hr 0) := by
    unfold startW swearsInW
    rw [hu, nI_c (by omega), pk_un (by omega), pk_un (by omega), pk_un (by omega)]
    unfold stC
    rw [pk_us]
    unfold stB stA
    rw [pk_un (by omega), pk_un (by omega)]
    exact (wh 0 (by omega)).2
  have e12 : startW ns w 12 = 1 := by
    unfold startW swearsInW
    rw [hu, nI_c (by omega), pk_un (by omega), pk_us, kq 12 (by omega) (by omega) (by omega), wz 12 (by omega) (by omega)]
    rfl
  have e13 : startW ns w 13 = 0 := by
    unfold startW swearsInW
    rw [hu, nI_c (by omega), pk_un (by omega), pk_un (by omega), pk_un (by omega), kq 13 (by omega) (by omega) (by omega)]
    exact wz 13 (by omega) (by omega)
  have e11 : ∀ c, c < nc → startW ns w (65 + 12 * c + 11) = if c = cc 0 then 1 else 0 := fun c hcc => by
    unfold startW swearsInW
    rw [hu, nI_c (by omega)]
    by_cases q : c = cc 0
    · subst q
      rw [if_pos rfl, pk_us, kq _ (by omega) (by omega) (by omega), (wc _ cl0).2.2.2.2]
      rfl
    · rw [if_neg q, pk_un (by omega), pk_un (by omega), pk_un (by omega), kq _ (by omega) (by omega) (by omega)]
      exact (wc c hcc).2.2.2.2
  refine ⟨fun q q3 q14 => ?_, fun c hcc => ?_, fun k hkk => ?_⟩
  · rcases (show q = 3 ∨ q = 4 ∨ q = 5 ∨ q = 6 ∨ q = 7 ∨ q = 8 ∨ q = 9 ∨ q = 10 ∨ q = 11 ∨ q = 12 ∨ q = 13 by omega) with rfl | rfl | rfl | rfl | rfl | rfl | rfl | rfl | rfl | rfl | rfl
    · rw [ko 3 (by unfold WO; omega) (by omega) (by omega) (by omega), w3, h3]
    · rw [ko 4 (by unfold WO; omega) (by omega) (by omega) (by omega), w4, h4]
    · rw [startW_5 cl c0, h5]
    · rw [ko 6 (by unfold WO; omega) (by omega) (by omega) (by omega), wz 6 (by omega) (by omega), hz.1]
    · rw [e7, h7]
    · rw [ko 8 (by unfold WO; omega) (by omega) (by omega) (by omega), wz 8 (by omega) (by omega), hz.2.1]
    · rw [ko 9 (by unfold WO; omega) (by omega) (by omega) (by omega), wz 9 (by omega) (by omega), hz.2.2.1]
    · rw [ko 10 (by unfold WO; omega) (by omega) (by omega) (by omega), wz 10 (by omega) (by omega), hz.2.2.2.1]
    · rw [ko 11 (by unfold WO; omega) (by omega) (by omega) (by omega), wz 11 (by omega) (by omega), hz.2.2.2.2.1]
    · rw [e12, h12]
    · rw [e13, hz.2.2.2.2.2]
  · have hcc : c < nc := hcc
    obtain ⟨a1, a2, a3, a4⟩ := hc c hcc
    obtain ⟨x1, x2, x3, x4, x5⟩ := wc c hcc
    refine ⟨?_, ?_, ?_, ?_⟩
    · rw [ko _ (by unfold WO; omega) (by omega) (by omega) (by omega), x1, a1]
    · rw [ko _ (by unfold WO; omega) (by omega) (by omega) (by omega), x3, a2]
    · rw [ko _ (by unfold WO; omega) (by omega) (by omega) (by omega), x4, a3]
    · rw [e11 c hcc, a4]
  · have hkk : k < ns := hkk
    obtain ⟨a1, a2, a3, a4⟩ := hs k hkk
    obtain ⟨x1, x2, x3, x4⟩ := ws k hkk
    refine ⟨?_, ?_, ?_, ?_⟩
    · rw [ko _ (by unfold WO; omega) (by omega) (by omega) (by omega), x1, a1]
    · rw [ko _ (by unfold WO; omega) (by omega) (by omega) (by omega), x2, a2]
    · rw [ko _ (by unfold WO; omega) (by omega) (by omega) (by omega), x3, a3]
    · rw [ko _ (by unfold WO; omega) (by omega) (by omega) (by omega), x4, a4]
end FEI
