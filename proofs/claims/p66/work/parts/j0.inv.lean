/-! what the law's growing world holds while it writes its setup -/
section INV
variable {cg : Nat → ClassId} {bs eA : Nat} {t t' : List Int32} {gfs : List Value} {kk ar : Nat → Nat} {el : Nat → Nat → Nat} {kc ks : Nat} {pc ps : Nat → Nat} {cR sR : Nat → List Value} {X X' : NW}
def At (X : NW) (p : Nat) (r : va_E) : Prop := p < X.1 ∧ X.2 p = r
theorem LL.mv {i a k : Nat} {e : Nat → Nat} (h : LL cg bs eA i a k e X) (h1 : ∀ fs, At X i (.inr (4, fs)) → At X' i (.inr (4, fs))) (h2 : 0 < k → ∀ f, At X a (.inl (cg 6, 10, .inr (.inr (.inr (.inr f))))) → At X' a (.inl (cg 6, 10, .inr (.inr (.inr (.inr f)))))) : LL cg bs eA i a k e X' := by
  obtain ⟨hi, h | h⟩ := h
  · have z := h1 _ ⟨hi, h.2⟩
    exact ⟨z.1, Or.inl ⟨h.1, z.2⟩⟩
  · obtain ⟨hk, ha, hne, e1, e2⟩ := h
    have z := h1 _ ⟨hi, e1⟩
    have y := h2 hk _ ⟨ha, e2⟩
    exact ⟨z.1, Or.inr ⟨hk, y.1, hne, z.2, y.2⟩⟩
theorem LL.row {i a k : Nat} {e : Nat → Nat} (h : LL cg bs eA i a k e X) : ∃ fs, At X i (.inr (4, fs)) := by
  obtain ⟨hi, h | h⟩ := h
  · exact ⟨_, hi, h.2⟩
  · exact ⟨_, hi, h.2.2.2.1⟩
theorem LL.arr {i a k : Nat} {e : Nat → Nat} (h : LL cg bs eA i a k e X) (hk : 0 < k) : At X a (.inl (cg 6, 10, .inr (.inr (.inr (.inr (elF k e)))))) := by
  obtain ⟨hi, h | h⟩ := h
  · omega
  · exact ⟨h.2.1, h.2.2.2.2⟩
theorem SBI.mv {p0 : Nat} (h : SBI cg bs p0 t X) (h1 : ∀ a m c, At X p0 (sbV a m c) → At X' p0 (sbV a m c)) (h2 : ∀ p N f, At X p (byV cg N f) → At X' p (byV cg N f)) : SBI cg bs p0 t X' := by
  obtain ⟨k0, N, f, mb, he, hk, hr⟩ := h
  exact ⟨k0, N, f, mb, h1 _ _ _ he, h2 _ _ _ hk, hr⟩
theorem SBI.row {p0 : Nat} (h : SBI cg bs p0 t X) : ∃ a m c, At X p0 (sbV a m c) := by
  obtain ⟨k0, N, f, mb, he, hk, hr⟩ := h
  exact ⟨_, _, _, he⟩
/-- two rows that differ stand at two places -/
theorem At.ne {p q : Nat} {r r' : va_E} (h : At X p r) (h' : At X q r') (hr : r ≠ r') : p ≠ q := fun z => by
  subst z
  exact hr (h.2.symm.trans h'.2)
def Inv (cg : Nat → ClassId) (bs eA : Nat) (t : List Int32) (gfs : List Value) (kk ar : Nat → Nat) (el : Nat → Nat → Nat) (kc : Nat) (pc : Nat → Nat) (cR : Nat → List Value) (ks : Nat) (ps : Nat → Nat) (sR : Nat → List Value) (X : NW) : Prop :=
  At X 0 (.inr (17, gfs)) ∧ SBI cg bs 5 t X ∧ (∀ b, 1 ≤ b → b ≤ 4 → LL cg bs eA b (ar b) (kk b) (el b) X) ∧ (∀ b b', 1 ≤ b → b ≤ 4 → 1 ≤ b' → b' ≤ 4 → 0 < kk b → 0 < kk b' → ar b = ar b' → b = b') ∧ (∀ j, j < kc → At X (pc j) (.inr (16, cR j))) ∧ ∀ j, j < ks → At X (ps j) (.inr (18, sR j))
theorem Inv.new {r : va_E} (h : Inv cg bs eA t gfs kk ar el kc pc cR ks ps sR X) : Inv cg bs eA t gfs kk ar el kc pc cR ks ps sR (X.1 + 1, va_up X.2 X.1 r) := by
  have m : ∀ {p r'}, At X p r' → At (X.1 + 1, va_up X.2 X.1 r) p r' := fun {p r'} z => ⟨by have := z.1; show p < X.1 + 1; omega, (vne (by have := z.1; omega)).trans z.2⟩
  obtain ⟨h0, h1, h2, h3, h4, h5⟩ := h
  exact ⟨m h0, h1.mv (fun _ _ _ => m) (fun _ _ _ => m), fun b b1 b2 => (h2 b b1 b2).mv (fun _ => m) (fun _ _ => m), h3, fun j hj => m (h4 j hj), fun j hj => m (h5 j hj)⟩
theorem Inv.cat {r : List Value} (h : Inv cg bs eA t gfs kk ar el kc pc cR ks ps sR X) (hr : cR kc = r) : Inv cg bs eA t gfs kk ar el (kc + 1) (va_up pc kc X.1) cR ks ps sR (X.1 + 1, va_up X.2 X.1 (.inr (16, r))) := by
  obtain ⟨h0, h1, h2, h3, h4, h5⟩ := h.new (r := .inr (16, r))
  refine ⟨h0, h1, h2, h3, fun j hj => ?_, h5⟩
  by_cases e : j = kc
  · subst e
    rw [vat]
    exact ⟨Nat.lt_succ_self _, vat.trans (by rw [hr])⟩
  · rw [vne e]
    exact h4 j (by omega)
theorem Inv.sack {r : List Value} (h : Inv cg bs eA t gfs kk ar el kc pc cR ks ps sR X) (hr : sR ks = r) : Inv cg bs eA t gfs kk ar el kc pc cR (ks + 1) (va_up ps ks X.1) sR (X.1 + 1, va_up X.2 X.1 (.inr (18, r))) := by
  obtain ⟨h0, h1, h2, h3, h4, h5⟩ := h.new (r := .inr (18, r))
  refine ⟨h0, h1, h2, h3, h4, fun j hj => ?_⟩
  by_cases e : j = ks
  · subst e
    rw [vat]
    exact ⟨Nat.lt_succ_self _, vat.trans (by rw [hr])⟩
  · rw [vne e]
    exact h5 j (by omega)
theorem ob_by {ci : Nat} {fs : List Value} : ∀ N f, (Sum.inr (ci, fs) : va_E) ≠ byV cg N f := fun N f z => by cases z
theorem aq_by {f' : Nat → Option Nat} : ∀ N f, (Sum.inl (cg 6, 10, .inr (.inr (.inr (.inr f')))) : va_E) ≠ byV cg N f := fun N f z => by
  have z := congrArg Prod.snd (Sum.inl.inj z)
  cases z
theorem ob_ob {ci cj : Nat} {fs fs' : List Value} (h : ci ≠ cj) : (Sum.inr (ci, fs) : va_E) ≠ .inr (cj, fs') := fun z => h (congrArg Prod.fst (Sum.inr.inj z))
theorem ob_aq {ci : Nat} {fs : List Value} {x : ClassId × vp_A} : (Sum.inr (ci, fs) : va_E) ≠ .inl x := fun z => by cases z
theorem Inv.app (h : Inv cg bs eA t gfs kk ar el kc pc cR ks ps sR X) (hk : KP cg 5 X X') (hs : SBI cg bs 5 t' X') : Inv cg bs eA t' gfs kk ar el kc pc cR ks ps sR X' := by
  obtain ⟨h0, h1, h2, h3, h4, h5⟩ := h
  obtain ⟨a, m, c, hsb⟩ := h1.row
  have o : ∀ {p ci fs}, ci ≠ 1 → At X p (.inr (ci, fs)) → At X' p (.inr (ci, fs)) := fun {p ci fs} hci z => hk.at z (z.ne hsb (ob_ob hci)) ob_by
  exact ⟨o (by decide) h0, hs, fun b b1 b2 => (h2 b b1 b2).mv (fun _ => o (by decide)) (fun _ f z => hk.at z (z.ne hsb (Ne.symm ob_aq)) aq_by), h3, fun j hj => o (by decide) (h4 j hj), fun j hj => o (by decide) (h5 j hj)⟩
theorem Inv.add {b a' v : Nat} (h : Inv cg bs eA t gfs kk ar el kc pc cR ks ps sR X) (hb : 1 ≤ b ∧ b ≤ 4) (hL : LL cg bs eA b a' (kk b + 1) (va_up (el b) (kk b) v) X') (hkp : X.1 ≤ X'.1 ∧ ∀ q, q < X.1 → q ≠ b → (0 < kk b → q ≠ ar b) → X'.2 q = X.2 q) (ha : a' = ar b ∧ 0 < kk b ∨ a' = X.1 ∧ kk b = 0) : Inv cg bs eA t gfs (va_up kk b (kk b + 1)) (va_up ar b a') (va_up el b (va_up (el b) (kk b) v)) kc pc cR ks ps sR X' := by
  obtain ⟨h0, h1, h2, h3, h4, h5⟩ := h
  have hLb := h2 b hb.1 hb.2
  obtain ⟨fs, hrow⟩ := hLb.row
  have k : ∀ {q r}, At X q r → q ≠ b → (0 < kk b → q ≠ ar b) → At X' q r := fun {q r} z n1 n2 => ⟨Nat.lt_of_lt_of_le z.1 hkp.1, (hkp.2 q z.1 n1 n2).trans z.2⟩
  have o : ∀ {p ci fs}, ci ≠ 4 → At X p (.inr (ci, fs)) → At X' p (.inr (ci, fs)) := fun {p ci fs} hci z => k z (z.ne hrow (ob_ob hci)) (fun hk => z.ne (hLb.arr hk) ob_aq)
  refine ⟨o (by decide) h0, h1.mv (fun _ _ _ => o (by decide)) (fun p N f z => k z (z.ne hrow (Ne.symm (ob_by N f))) (fun hk => z.ne (hLb.arr hk) (Ne.symm (aq_by N f)))), fun q q1 q2 => ?_, fun q q' q1 q2 q3 q4 z1 z2 ze => ?_, fun j hj => o (by decide) (h4 j hj), fun j hj => o (by decide) (h5 j hj)⟩
  · by_cases e : q = b
    · subst e
      rw [vat, vat, vat]
      exact hL
    · rw [vne e, vne e, vne e]
      exact (h2 q q1 q2).mv (fun fs z => k z e (fun hk => z.ne (hLb.arr hk) ob_aq)) (fun hkq f z => k z (z.ne hrow (Ne.symm ob_aq)) (fun hk w => e (h3 q b q1 q2 hb.1 hb.2 hkq hk w)))
  · by_cases e : q = b
    · by_cases e' : q' = b
      · exact e.trans e'.symm
      · subst e
        rw [vat, vne e'] at ze
        rw [vne e'] at z2
        rcases ha with ⟨ha, hk⟩ | ⟨ha, hk⟩
        · exact h3 q q' q1 q2 q3 q4 hk z2 (ha.symm.trans ze)
        · have := ((h2 q' q3 q4).arr z2).1
          omega
    · by_cases e' : q' = b
      · subst e'
        rw [vne e, vat] at ze
        rw [vne e] at z1
        rcases ha with ⟨ha, hk⟩ | ⟨ha, hk⟩
        · exact h3 q q' q1 q2 q3 q4 z1 hk (ze.trans ha)
        · have := ((h2 q q1 q2).arr z1).1
          omega
      · rw [vne e, vne e'] at ze
        rw [vne e] at z1
        rw [vne e'] at z2
        exact h3 q q' q1 q2 q3 q4 z1 z2 ze
theorem Inv.up0 {fs' : List Value} (h : Inv cg bs eA t gfs kk ar el kc pc cR ks ps sR X) : Inv cg bs eA t fs' kk ar el kc pc cR ks ps sR (X.1, va_up X.2 0 (.inr (17, fs'))) := by
  obtain ⟨h0, h1, h2, h3, h4, h5⟩ := h
  have k : ∀ {q r}, At X q r → q ≠ 0 → At (X.1, va_up X.2 0 (.inr (17, fs'))) q r := fun {q r} z n1 => ⟨z.1, (vne n1).trans z.2⟩
  have o : ∀ {p ci fs}, ci ≠ 17 → At X p (.inr (ci, fs)) → At (X.1, va_up X.2 0 (.inr (17, fs'))) p (.inr (ci, fs)) := fun {p ci fs} hci z => k z (z.ne h0 (ob_ob hci))
  exact ⟨⟨h0.1, (vat : va_up X.2 0 (Sum.inr (17, fs') : va_E) 0 = _)⟩, h1.mv (fun _ _ _ => o (by decide)) (fun p N f z => k z (z.ne h0 (Ne.symm (ob_by N f)))), fun b b1 b2 => (h2 b b1 b2).mv (fun _ => o (by decide)) (fun _ f z => k z (z.ne h0 (Ne.symm ob_aq))), h3, fun j hj => o (by decide) (h4 j hj), fun j hj => o (by decide) (h5 j hj)⟩
theorem Inv.upc {c : Nat} {fs' : List Value} (h : Inv cg bs eA t gfs kk ar el kc pc cR ks ps sR X) (hc : c < kc) (hd : ∀ j, j < kc → j ≠ c → cR j ≠ cR c) : Inv cg bs eA t gfs kk ar el kc pc (va_up cR c fs') ks ps sR (X.1, va_up X.2 (pc c) (.inr (16, fs'))) := by
  obtain ⟨h0, h1, h2, h3, h4, h5⟩ := h
  have hcr := h4 c hc
  have k : ∀ {q r}, At X q r → q ≠ pc c → At (X.1, va_up X.2 (pc c) (.inr (16, fs'))) q r := fun {q r} z n1 => ⟨z.1, (vne n1).trans z.2⟩
  have o : ∀ {p ci fs}, ci ≠ 16 → At X p (.inr (ci, fs)) → At (X.1, va_up X.2 (pc c) (.inr (16, fs'))) p (.inr (ci, fs)) := fun {p ci fs} hci z => k z (z.ne hcr (ob_ob hci))
  refine ⟨o (by decide) h0, h1.mv (fun _ _ _ => o (by decide)) (fun p N f z => k z (z.ne hcr (Ne.symm (ob_by N f)))), fun b b1 b2 => (h2 b b1 b2).mv (fun _ => o (by decide)) (fun _ f z => k z (z.ne hcr (Ne.symm ob_aq))), h3, fun j hj => ?_, fun j hj => o (by decide) (h5 j hj)⟩
  by_cases e : j = c
  · subst e
    rw [vat]
    exact ⟨hcr.1, vat⟩
  · rw [vne e]
    exact k (h4 j hj) ((h4 j hj).ne hcr (fun z => hd j hj e (congrArg Prod.snd (Sum.inr.inj z))))
end INV
