
/-! an event of the law, whatever it is -/
section EVC
variable {p : Program} {l : Launch} {e : Env} {R : Room} {s : State} {m : MethodId} {args : Array Value} {below : List Frame} {meth : Method} {c : Code} {H : Heap} {locs : List Loc} {cells slots : Nat} {Q : State → Prop}
variable {pc nL : Nat} {ls : Array Slot} {rest : List Value} {dC : Nat → ClassId} {dI : Nat → Nat → Nat} {cg : Nat → ClassId} {kA : String → Nat → Nat} {la iA : Nat → Nat} {C : LC} {b1 z : Nat} {S S' : CS} {M M' : MS} {h : Nat → Int32}
variable {t b : Nat} {x : Int32} {h' : Nat → Int32}
def evC (l : Launch) (dC : Nat → ClassId) (dI : Nat → Nat → Nat) (cg : Nat → ClassId) (kA : String → Nat → Nat) (la iA : Nat → Nat) (C : LC) (b1 : Nat) (x : Int32) (S : CS) (X : XL) (S' : CS) (X' : XL) : Prop := gMetIA l yL_event cL_event 8 (some .boolean) 9 48 192 (qΩ b1 la C) (qP dC dI cg kA la iA C b1) (kR kTab kA) [.ref (caOf b1 0), .ref (la 0), .int x] (S, X) 1 (S', X')
/-- an event's contract out of the walk behind its switch -/
theorem evE {k0 v0 tg k y : Nat} (hC : lC C) (hs : lS b1 la C) (ek : bitV x 4 4 = nI k0) (ev : bitV x 8 4 = nI v0) (et : bitV x 0 4 = nI tg) (hk0 : k0 < 16) (hv0 : v0 < 16) (hkk : k = k0 % C.1.2.1) (hyy : y = v0 + 1)
    (K : ∀ (p : Program) (e : Env) (s : State) (m : MethodId) (args : Array Value) (below : List Frame) (meth : Method) (c : Code) (Q : State → Prop) (ls : Array Slot), gX p s m args c cL_event 8 RL (kR kTab kA) → b1 + 433 ≤ s.heap.size → gRetIA p l e (rmL 9 48 192) s m args below meth c cL_event 48 192 (qΩ b1 la C) (qP dC dI cg kA la iA C b1) Q 1 (S', (M'.2 0, h')) → gF (lP dC dI cg kA la iA C b1) (cZ dC dI cg kA b1 la C s.heap.size S) (M.2 0, h) s s.heap → va_S (Fr (qΩ b1 la C) s.heap.size) s.heap s.heap [] → lv_has ls 8 [(4, .int (nI y)), (3, .ref (la (13 + k))), (0, .ref (caOf b1 0)), (1, .ref (la 0))] → W p l e (rmL 9 48 192) s m args below meth c s.heap [] 0 0 Q (F0 m 46 ls [.int (nI tg)])) :
    evC l dC dI cg kA la iA C b1 x S (M.2 0, h) S' (M'.2 0, h') := gEntryIA (ty := .boolean) (by decide) rfl rfl qOK (Nat.le_of_ble_eq_true rfl) (fun p e s m args below meth c Q ls X hP hS hret hl => by
  have hP : qP dC dI cg kA la iA C b1 (S, (M.2 0, h)) s s.heap := hP
  have hz : cZ dC dI cg kA b1 la C s.heap.size S s s.heap := z_of hs hP.1 hP.2
  have h0 := (hP.2.1 0 (lEx_l (by omega))).lt
  have h1 := hs 0 (lEx_l (by omega))
  have hbz : b1 + 433 ≤ s.heap.size := by have h0 : la 0 < s.heap.size := h0; omega
  exact kLev_0 X hC hs hbz ek ev et hk0 hv0 hkk hyy (fun ls hl => K p e s m args below meth c Q ls X hbz hret ⟨hP.2, hz⟩ hS hl) ⟨hP.2, hz⟩ hS (lv_sub hl [0, 1, 2] rfl))
theorem vL_event (hC : lC C) (hs : lS b1 la C) (r : Rel S M) (e : EI C t b (M.2 0) h) (ht : t + 8 ≤ 9999) (hb : b + 80 ≤ 9999) : ∃ S' M' h', Rel S' M' ∧ EI C (t + 8) (b + 80) (M'.2 0) h' ∧ ∀ l : Launch, evC l dC dI cg kA la iA C b1 x S (M.2 0, h) S' (M'.2 0, h') := by
  obtain ⟨k0, hk0, ek⟩ := bitV_4 x 4
  obtain ⟨v0, hv0, ev⟩ := bitV_4 x 8
  obtain ⟨tg, htg, et⟩ := bitV_4 x 0
  have hn1 := hC.2.1.1
  have hn4 := hC.2.1.2
  obtain ⟨k, hkk⟩ : ∃ k, k = k0 % C.1.2.1 := ⟨_, rfl⟩
  obtain ⟨y, hyy⟩ : ∃ y, y = v0 + 1 := ⟨_, rfl⟩
  have hk : k < C.1.2.1 := by rw [hkk]; exact Nat.mod_lt _ (by omega)
  have hns := e.ns hC
  have hnc := e.nc hC
  have i := r.1.2
  have ki : k < nS (M.2 0) := by rw [hns]; exact hk
  have hfl : ∀ j, j < C.1.2.1 → M.2 0 (161 + 12 * j + 9) = 0 ∨ M.2 0 (161 + 12 * j + 9) = 1 := fun j hj => i.1.2.2.1 j (by rw [hns]; exact hj)
  obtain ⟨z, hz9, hz⟩ := (i.1.2.2.2 k ki).1
  obtain ⟨g, hg, eg⟩ := e.2.2.2.2 k hk
  have h5 : M.2 0 5 = -1 ∨ ∃ d, d < C.1.1 ∧ M.2 0 5 = nI d := by rw [← hnc]; exact i.1.2.1.1
  by_cases c01 : tg = 0 ∨ tg = 1
  · -- a flap
    rcases hfl k hk with h9 | h9
    · obtain ⟨S', M', f1, f2, f3⟩ := x_flap (v := 1) r ki (Or.inr rfl) (by rw [h9]; decide)
      rw [if_pos rfl] at f1
      refine ⟨S', M', h, f2, by rw [f3]; exact (e.up (p := 161 + 12 * k + 9) hC (by omega) (by omega) (by omega) (by unfold KW; omega)).le (by omega) (by omega), fun l => evE hC hs ek ev et hk0 hv0 hkk hyy (fun p e s m args below meth c Q ls X hbz hret hP hS hl => ?_)⟩
      have kk := kLev_open (l := l) (cells := 0) (slots := 0) X hC hs hbz hk h9 hns hfl f1 f3 rfl hret hP hS hl ⟨by omega, by omega⟩
      have hx := X.hx
      have hb := X.hb
      rcases c01 with rfl | rfl
      · exact lv_tableIn (off := 42) (tgt := 88) hx hb dL_event_46 (by decide) (by decide) rfl (by decide) kk
      · exact lv_tableIn (off := 42) (tgt := 88) hx hb dL_event_46 (by decide) (by decide) rfl (by decide) kk
    · obtain ⟨S', M', f1, f2, f3⟩ := x_flap (v := 0) r ki (Or.inl rfl) (by rw [h9]; decide)
      rw [if_neg (by decide)] at f1
      refine ⟨S', M', h, f2, by rw [f3]; exact (e.up (p := 161 + 12 * k + 9) hC (by omega) (by omega) (by omega) (by unfold KW; omega)).le (by omega) (by omega), fun l => evE hC hs ek ev et hk0 hv0 hkk hyy (fun p e s m args below meth c Q ls X hbz hret hP hS hl => ?_)⟩
      have kk := kLev_shut (l := l) (cells := 0) (slots := 0) X hC hs hbz hk h9 hns hfl f1 f3 rfl hret hP hS hl ⟨by omega, by omega⟩
      have hx := X.hx
      have hb := X.hb
      rcases c01 with rfl | rfl
      · exact lv_tableIn (off := 42) (tgt := 88) hx hb dL_event_46 (by decide) (by decide) rfl (by decide) kk
      · exact lv_tableIn (off := 42) (tgt := 88) hx hb dL_event_46 (by decide) (by decide) rfl (by decide) kk
  by_cases c23 : tg = 2 ∨ tg = 3
  · -- mice
    by_cases c9 : z + y ≤ 99
    · obtain ⟨S', M', f1, f2, f3⟩ := x_addMice (y := y) (z := z) r ki (by omega) (by omega) hz c9
      refine ⟨S', M', h, f2, ?_, fun l => evE hC hs ek ev et hk0 hv0 hkk hyy (fun p e s m args below meth c Q ls X hbz hret hP hS hl => ?_)⟩
      · have e2 := e.mice (y := y) hC hk
        rw [hz, nI_add] at e2
        rw [f3]
        exact e2.le (by omega) (by omega)
      · have kk := kLev_mice (l := l) (cells := 0) (slots := 0) X hC hs hbz hk hz c9 f1 f3 rfl hret hP hS hl ⟨by omega, by omega⟩
        have hx := X.hx
        have hb := X.hb
        rcases c23 with rfl | rfl
        · exact lv_tableIn (off := 145) (tgt := 191) hx hb dL_event_46 (by decide) (by decide) rfl (by decide) kk
        · exact lv_tableIn (off := 145) (tgt := 191) hx hb dL_event_46 (by decide) (by decide) rfl (by decide) kk
    · refine ⟨S, M, h, r, e.le (by omega) (by omega), fun l => evE hC hs ek ev et hk0 hv0 hkk hyy (fun p e s m args below meth c Q ls X hbz hret hP hS hl => ?_)⟩
      have kk := kLev_many (l := l) (cells := 0) (slots := 0) X hC hs hbz hk r.1 hns hz hz9 (by omega) c9 ⟨rfl, rfl, rfl⟩ hret hP hS hl ⟨by omega, by omega⟩
      have hx := X.hx
      have hb := X.hb
      rcases c23 with rfl | rfl
      · exact lv_tableIn (off := 145) (tgt := 191) hx hb dL_event_46 (by decide) (by decide) rfl (by decide) kk
      · exact lv_tableIn (off := 145) (tgt := 191) hx hb dL_event_46 (by decide) (by decide) rfl (by decide) kk
  by_cases c4 : tg = 4
  · -- grain
    subst c4
    obtain ⟨S', M', f1, f2, f3⟩ := x_addGrain (y := 5 * y) (z := g) r ki (by omega) (by omega) eg (by omega)
    refine ⟨S', M', h, f2, ?_, fun l => evE hC hs ek ev et hk0 hv0 hkk hyy (fun p e s m args below meth c Q ls X hbz hret hP hS hl => ?_)⟩
    · have e2 := e.grain (y := 5 * y) hC hk
      rw [eg, nI_add] at e2
      rw [f3]
      exact e2.le (by omega) (by omega)
    · exact lv_tableIn (off := 212) (tgt := 258) X.hx X.hb dL_event_46 (by decide) (by decide) rfl (by decide) (kLev_grain (l := l) (cells := 0) (slots := 0) X hC hs hbz hk eg f1 f3 rfl hret hP hS hl ⟨by omega, by omega⟩)
  by_cases c5 : tg = 5
  · -- dismissal
    subst c5
    rcases h5 with h5 | ⟨d, hd, h5⟩
    · exact ⟨S, M, h, r, e.le (by omega) (by omega), fun l => evE hC hs ek ev et hk0 hv0 hkk hyy (fun p e s m args below meth c Q ls X hbz hret hP hS hl => lv_tableIn (off := 250) (tgt := 296) X.hx X.hb dL_event_46 (by decide) (by decide) rfl (by decide) (kLev_none (l := l) (cells := 0) (slots := 0) X hC hs hbz hk r.1 h5 ⟨rfl, rfl, rfl⟩ hret hP hS hl ⟨by omega, by omega⟩))⟩
    · obtain ⟨S', M', f1, f2, f3⟩ := x_dismiss r (by rw [h5]; exact nI_nem (by have := hC.1.2; omega))
      exact ⟨S', M', h, f2, by rw [f3]; exact (e.up (p := 5) hC (by omega) (by omega) (by omega) (by unfold KW; omega)).le (by omega) (by omega), fun l => evE hC hs ek ev et hk0 hv0 hkk hyy (fun p e s m args below meth c Q ls X hbz hret hP hS hl => lv_tableIn (off := 250) (tgt := 296) X.hx X.hb dL_event_46 (by decide) (by decide) rfl (by decide) (kLev_dis (l := l) (cells := 0) (slots := 0) X hC hs hbz hk hd h5 f1 f3 rfl hret hP hS hl ⟨by omega, by omega⟩))⟩
  by_cases c6 : tg = 6
  · -- milk
    subst c6
    obtain ⟨S', M', f1, f2, f3⟩ := x_setMilk (m := y % 10) r (by omega)
    exact ⟨S', M', h, f2, by rw [f3]; exact (e.up (p := 4) hC (by omega) (by omega) (by omega) (by unfold KW; omega)).le (by omega) (by omega), fun l => evE hC hs ek ev et hk0 hv0 hkk hyy (fun p e s m args below meth c Q ls X hbz hret hP hS hl => lv_tableIn (off := 300) (tgt := 346) X.hx X.hb dL_event_46 (by decide) (by decide) rfl (by decide) (kLev_milk (l := l) (cells := 0) (slots := 0) X hC hs hbz hk (by omega) f1 f3 rfl hret hP hS hl ⟨by omega, by omega⟩))⟩
  -- hours
  obtain ⟨n, hn⟩ : ∃ n, n = if y < 11 then 1 else y - 8 := ⟨_, rfl⟩
  have n8 : 1 ≤ n ∧ n ≤ 8 := by rw [hn]; split <;> omega
  obtain ⟨h', g1, e2⟩ := EI.hours hC n t (M.2 0) h i e
  obtain ⟨u, hu, eu⟩ := e.2.2.2.1
  obtain ⟨S', M', f1, f2, f3⟩ := x_letPass (H := n) r (by omega) (by omega) (by rw [eu, nI_add]; exact nI_le (b := 9999) (by omega) (by omega))
  refine ⟨S', M', h', f2, by rw [f3]; exact e2.le (by omega) (by omega), fun l => evE hC hs ek ev et hk0 hv0 hkk hyy (fun p e s m args below meth c Q ls X hbz hret hP hS hl => ?_)⟩
  have kk := kLev_hours (l := l) (cells := 0) (slots := 0) X hC hs hbz hn (by omega) (by omega) g1 f1 f3 hret hP hS hl ⟨rfl, rfl⟩
  have hx := X.hx
  have hb := X.hb
  have ho : tg = 7 ∨ tg = 8 ∨ tg = 9 ∨ tg = 10 ∨ tg = 11 ∨ tg = 12 ∨ tg = 13 ∨ tg = 14 ∨ tg = 15 := by omega
  rcases ho with rfl | rfl | rfl | rfl | rfl | rfl | rfl | rfl | rfl <;> exact lv_tableOut (tgt := 380) hx hb dL_event_46 (by decide) (by decide) kk
end EVC
