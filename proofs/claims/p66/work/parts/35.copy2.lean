/-! a granary copied -/
section COPY2
variable {S : CS} {t b nc ns nh k : Nat} {w : Wd} {E : Nat → Nat → Int32} {A : Nat → Nat → Bool} {N : Nat → Bool}
theorem cps_at {o f : Nat} (ho : o < 35) (hA : A o f = true) : (cps S t b A N).1 (t + o) f = S.1 (b + o) f := by
  unfold cps
  dsimp only
  rw [show t + o - t = o by omega, if_pos ⟨by omega, by omega, hA⟩]
theorem cps_atN {o : Nat} (ho : o < 35) (hA : N o = true) : (cps S t b A N).2 (t + o) = S.2 (b + o) := by
  unfold cps
  dsimp only
  rw [show t + o - t = o by omega, if_pos ⟨by omega, by omega, hA⟩]
def Al (A : Nat → Nat → Bool) (a f0 f1 i : Nat) : Nat → Nat → Bool := fun o f => A o f || (decide (a ≤ o ∧ o < a + i) && decide (f0 ≤ f ∧ f ≤ f1))
def Nl (N : Nat → Bool) (a i : Nat) : Nat → Bool := fun o => N o || decide (a ≤ o ∧ o < a + i)
theorem Al_0 {a f0 f1 : Nat} : Al A a f0 f1 0 = A := funext fun o => funext fun f => by
  unfold Al
  rw [decide_eq_false (show ¬ (a ≤ o ∧ o < a + 0) by omega)]
  simp
theorem Nl_0 {a : Nat} : Nl N a 0 = N := funext fun o => by
  unfold Nl
  rw [decide_eq_false (show ¬ (a ≤ o ∧ o < a + 0) by omega)]
  simp
theorem Al_5 {a i : Nat} : Au (Au (Au (Au (Au (Al A a 1 5 i) (a + i) 1) (a + i) 2) (a + i) 3) (a + i) 4) (a + i) 5 = Al A a 1 5 (i + 1) := funext fun o => funext fun f => by
  refine Bool.eq_iff_iff.mpr ?_
  simp only [Au, Al, Bool.or_eq_true, Bool.and_eq_true, decide_eq_true_eq, beq_iff_eq]
  by_cases h : A o f = true
  · simp only [h, true_or]
  · simp only [h, Bool.false_eq_true, false_or]; omega
theorem Al_4 {a i : Nat} : Au (Au (Au (Au (Al A a 1 4 i) (a + i) 1) (a + i) 2) (a + i) 3) (a + i) 4 = Al A a 1 4 (i + 1) := funext fun o => funext fun f => by
  refine Bool.eq_iff_iff.mpr ?_
  simp only [Au, Al, Bool.or_eq_true, Bool.and_eq_true, decide_eq_true_eq, beq_iff_eq]
  by_cases h : A o f = true
  · simp only [h, true_or]
  · simp only [h, Bool.false_eq_true, false_or]; omega
theorem Al_2 {a i : Nat} : Au (Au (Al A a 0 1 i) (a + i) 0) (a + i) 1 = Al A a 0 1 (i + 1) := funext fun o => funext fun f => by
  refine Bool.eq_iff_iff.mpr ?_
  simp only [Au, Al, Bool.or_eq_true, Bool.and_eq_true, decide_eq_true_eq, beq_iff_eq]
  by_cases h : A o f = true
  · simp only [h, true_or]
  · simp only [h, Bool.false_eq_true, false_or]; omega
theorem Nl_1 {a i : Nat} : Nu (Nl N a i) (a + i) = Nl N a (i + 1) := funext fun o => by
  refine Bool.eq_iff_iff.mpr ?_
  simp only [Nu, Nl, Bool.or_eq_true, decide_eq_true_eq, beq_iff_eq]
  by_cases h : N o = true
  · simp only [h, true_or]
  · simp only [h, Bool.false_eq_true, false_or]; omega
theorem Al_t {a f0 f1 i o f : Nat} (h : A o f = true) : Al A a f0 f1 i o f = true := by unfold Al; rw [h]; rfl
theorem c_copy_88 (hd : t + 35 ≤ b ∨ b + 35 ≤ t) (h5 : A 0 5 = true) (hc : S.1 b 5 = nI nc) (h8 : nc ≤ 8) (hp : ∀ i, i < nc → S.1 (b + 1 + 8 + i) 2 = 0 ∨ S.1 (b + 1 + 8 + i) 2 = 1) : ∀ r i f, nc = i + r → r < f → fX2_copyFrom_88 t b f (cps S t b (Al A 9 1 5 i) (Nl N 9 i)) (nI i) = fX2_copyFrom_117 t b (cps S t b (Al A 9 1 5 nc) (Nl N 9 nc)) := by
  intro r
  induction r with
  | zero =>
    intro i f hi hf
    obtain ⟨f, rfl⟩ : ∃ g, f = g + 1 := ⟨f - 1, by omega⟩
    obtain rfl : nc = i := by omega
    rw [fX2_copyFrom_88]
    dsimp only
    rw [show (cps S t b (Al A 9 1 5 nc) (Nl N 9 nc)).1 t 5 = nI nc from (cps_at (o := 0) (by omega) (Al_t h5)).trans hc, if_pos (nI_le (Nat.le_refl _) (by omega))]
  | succ r ih =>
    intro i f hi hf
    obtain ⟨f, rfl⟩ : ∃ g, f = g + 1 := ⟨f - 1, by omega⟩
    rw [fX2_copyFrom_88]
    dsimp only
    rw [show (cps S t b (Al A 9 1 5 i) (Nl N 9 i)).1 t 5 = nI nc from (cps_at (o := 0) (by omega) (Al_t h5)).trans hc, if_neg (nI_ge (show i < nc by omega) (by omega)), fX2_copyFrom_96, gi_m (by omega) (by omega), gi_m (by omega) (by omega), nI_c (by omega), c_copyCat hd (by omega) (hp i (by omega)), Option.bind_some, fX2_copyFrom_111, nI_1, Al_5, Nl_1]
    exact ih (i + 1) f (by omega) (by omega)
theorem c_copy_119 (hd : t + 35 ≤ b ∨ b + 35 ≤ t) (h5 : A 0 6 = true) (hc : S.1 b 6 = nI ns) (h8 : ns ≤ 6) (hp : ∀ i, i < ns → S.1 (b + 2 + 15 + i) 3 = 0 ∨ S.1 (b + 2 + 15 + i) 3 = 1) : ∀ r i f, ns = i + r → r < f → fX2_copyFrom_119 t b f (cps S t b (Al A 17 1 4 i) (Nl N 17 i)) (nI i) = fX2_copyFrom_148 t b (cps S t b (Al A 17 1 4 ns) (Nl N 17 ns)) := by
  intro r
  induction r with
  | zero =>
    intro i f hi hf
    obtain ⟨f, rfl⟩ : ∃ g, f = g + 1 := ⟨f - 1, by omega⟩
    obtain rfl : ns = i := by omega
    rw [fX2_copyFrom_119]
    dsimp only
    rw [show (cps S t b (Al A 17 1 4 ns) (Nl N 17 ns)).1 t 6 = nI ns from (cps_at (o := 0) (by omega) (Al_t h5)).trans hc, if_pos (nI_le (Nat.le_refl _) (by omega))]
  | succ r ih =>
    intro i f hi hf
    obtain ⟨f, rfl⟩ : ∃ g, f = g + 1 := ⟨f - 1, by omega⟩
    rw [fX2_copyFrom_119]
    dsimp only
    rw [show (cps S t b (Al A 17 1 4 i) (Nl N 17 i)).1 t 6 = nI ns from (cps_at (o := 0) (by omega) (Al_t h5)).trans hc, if_neg (nI_ge (show i < ns by omega) (by omega)), fX2_copyFrom_127, gi_m (by omega) (by omega), gi_m (by omega) (by omega), nI_c (by omega), c_copySack hd (by omega) (hp i (by omega)), Option.bind_some, fX2_copyFrom_142, nI_1, Al_4, Nl_1]
    exact ih (i + 1) f (by omega) (by omega)
theorem c_copy_150 (hd : t + 35 ≤ b ∨ b + 35 ≤ t) (h5 : A 0 7 = true) (hc : S.1 b 7 = nI nh) (h8 : nh ≤ 12) : ∀ r i f, nh = i + r → r < f → fX2_copyFrom_150 t b f (cps S t b (Al A 23 0 1 i) N) (nI i) = some (cps S t b (Al A 23 0 1 nh) N) := by
  intro r
  induction r with
  | zero =>
    intro i f hi hf
    obtain ⟨f, rfl⟩ : ∃ g, f = g + 1 := ⟨f - 1, by omega⟩
    obtain rfl : nh = i := by omega
    rw [fX2_copyFrom_150]
    dsimp only
    rw [show (cps S t b (Al A 23 0 1 nh) N).1 t 7 = nI nh from (cps_at (o := 0) (by omega) (Al_t h5)).trans hc, if_pos (nI_le (Nat.le_refl _) (by omega)), fX2_copyFrom_179]
  | succ r ih =>
    intro i f hi hf
    obtain ⟨f, rfl⟩ : ∃ g, f = g + 1 := ⟨f - 1, by omega⟩
    rw [fX2_copyFrom_150]
    dsimp only
    rw [show (cps S t b (Al A 23 0 1 i) N).1 t 7 = nI nh from (cps_at (o := 0) (by omega) (Al_t h5)).trans hc, if_neg (nI_ge (show i < nh by omega) (by omega)), fX2_copyFrom_158, gi_m (by omega) (by omega), gi_m (by omega) (by omega), nI_c (by omega), c_copyShift hd (by omega), Option.bind_some, fX2_copyFrom_173, nI_1, Al_2]
    exact ih (i + 1) f (by omega) (by omega)
def A0 : Nat → Nat → Bool := fun _ _ => false
def N0 : Nat → Bool := fun _ => false
theorem cps_0 : cps S t b A0 N0 = S := by
  unfold cps A0 N0
  refine Prod.ext (funext fun p => funext fun f => if_neg (fun z => by simp at z)) (funext fun p => if_neg (fun z => by simp at z))
def A1 : Nat → Nat → Bool := Au (Au (Au (Au (Au (Au (Au (Au (Au (Au (Ac (Ac (Ac (Au (Au (Au (Au (Au (Au (Au (Au A0 0 5) 0 6) 0 7) 0 8) 0 9) 0 10) 0 11) 0 12) (4 + 1)) (4 + 2)) (4 + 3)) 4 3) 4 4) 8 0) 8 1) 8 2) 8 3) 8 4) 8 5) 8 6) 8 7
def AF (nc ns nh : Nat) : Nat → Nat → Bool := Al (Al (Al A1 9 1 5 nc) 17 1 4 ns) 23 0 1 nh
def NF (nc ns : Nat) : Nat → Bool := Nl (Nl N0 9 nc) 17 ns
theorem c_cpA5 (hd : t + 35 ≤ b ∨ b + 35 ≤ t) : fX2_copyFrom_0 t b (cps S t b A N) = fX2_copyFrom_8 t b (cps S t b (Au A 0 5) N) := by
  rw [fX2_copyFrom_0, qs0 hd, qw0, cps_p2]
theorem c_cpA6 (hd : t + 35 ≤ b ∨ b + 35 ≤ t) : fX2_copyFrom_8 t b (cps S t b A N) = fX2_copyFrom_16 t b (cps S t b (Au A 0 6) N) := by
  rw [fX2_copyFrom_8, qs0 hd, qw0, cps_p2]
theorem c_cpA7 (hd : t + 35 ≤ b ∨ b + 35 ≤ t) : fX2_copyFrom_16 t b (cps S t b A N) = fX2_copyFrom_24 t b (cps S t b (Au A 0 7) N) := by
  rw [fX2_copyFrom_16, qs0 hd, qw0, cps_p2]
theorem c_cpA8 (hd : t + 35 ≤ b ∨ b + 35 ≤ t) : fX2_copyFrom_24 t b (cps S t b A N) = fX2_copyFrom_32 t b (cps S t b (Au A 0 8) N) := by
  rw [fX2_copyFrom_24, qs0 hd, qw0, cps_p2]
theorem c_cpA9 (hd : t + 35 ≤ b ∨ b + 35 ≤ t) : fX2_copyFrom_32 t b (cps S t b A N) = fX2_copyFrom_40 t b (cps S t b (Au A 0 9) N) := by
  rw [fX2_copyFrom_32, qs0 hd, qw0, cps_p2]
theorem c_cpA10 (hd : t + 35 ≤ b ∨ b + 35 ≤ t) : fX2_copyFrom_40 t b (cps S t b A N) = fX2_copyFrom_48 t b (cps S t b (Au A 0 10) N) := by
  rw [fX2_copyFrom_40, qs0 hd, qw0, cps_p2]
theorem c_cpA11 (hd : t + 35 ≤ b ∨ b + 35 ≤ t) : fX2_copyFrom_48 t b (cps S t b A N) = fX2_copyFrom_56 t b (cps S t b (Au A 0 11) N) := by
  rw [fX2_copyFrom_48, qs0 hd, qw0, cps_p2]
theorem c_cpA12 (hd : t + 35 ≤ b ∨ b + 35 ≤ t) : fX2_copyFrom_56 t b (cps S t b A N) = fX2_copyFrom_64 t b (cps S t b (Au A 0 12) N) := by
  rw [fX2_copyFrom_56, qs0 hd, qw0, cps_p2]
theorem c_cpA13 (hd : t + 35 ≤ b ∨ b + 35 ≤ t) : fX2_copyFrom_64 t b (cps S t b A N) = fX2_copyFrom_75 t b (cps S t b (Au (Au (Ac (Ac (Ac A (4 + 1)) (4 + 2)) (4 + 3)) 4 3) 4 4) N) := by
  rw [fX2_copyFrom_64, c_copyEv hd, Option.bind_some]
theorem c_cpA14 (hd : t + 35 ≤ b ∨ b + 35 ≤ t) : fX2_copyFrom_75 t b (cps S t b A N) = fX2_copyFrom_86 t b (cps S t b (Au (Au (Au (Au (Au (Au (Au (Au A 8 0) 8 1) 8 2) 8 3) 8 4) 8 5) 8 6) 8 7) N) := by
  rw [fX2_copyFrom_75, c_copyTo hd, Option.bind_some]
theorem c_copyA (hd : t + 35 ≤ b ∨ b + 35 ≤ t) : fX2_copyFrom_0 t b (cps S t b A0 N0) = fX2_copyFrom_86 t b (cps S t b A1 N0) := by
  rw [c_cpA5 hd, c_cpA6 hd, c_cpA7 hd, c_cpA8 hd, c_cpA9 hd, c_cpA10 hd, c_cpA11 hd, c_cpA12 hd, c_cpA13 hd, c_cpA14 hd]
  unfold A1
  rfl
theorem c_copyB (hd : t + 35 ≤ b ∨ b + 35 ≤ t) (hc : S.1 b 5 = nI nc) (h8 : nc ≤ 8) (hp : ∀ i, i < nc → S.1 (b + 1 + 8 + i) 2 = 0 ∨ S.1 (b + 1 + 8 + i) 2 = 1) : fX2_copyFrom_86 t b (cps S t b A1 N0) = fX2_copyFrom_117 t b (cps S t b (Al A1 9 1 5 nc) (Nl N0 9 nc)) := by
  have := c_copy_88 (S := S) (t := t) (b := b) (A := A1) (N := N0) hd (by decide) hc h8 hp nc 0 FU (by omega) (by rw [FU_eq]; omega)
  rw [Al_0, Nl_0, nI_0] at this
  rw [fX2_copyFrom_86]
  exact this
theorem c_copyC (hd : t + 35 ≤ b ∨ b + 35 ≤ t) (hs : S.1 b 6 = nI ns) (h6 : ns ≤ 6) (hf : ∀ i, i < ns → S.1 (b + 2 + 15 + i) 3 = 0 ∨ S.1 (b + 2 + 15 + i) 3 = 1) : fX2_copyFrom_117 t b (cps S t b (Al A1 9 1 5 nc) (Nl N0 9 nc)) = fX2_copyFrom_148 t b (cps S t b (Al (Al A1 9 1 5 nc) 17 1 4 ns) (Nl (Nl N0 9 nc) 17 ns)) := by
  have := c_copy_119 (S := S) (t := t) (b := b) (A := Al A1 9 1 5 nc) (N := Nl N0 9 nc) hd (Al_t (by decide)) hs h6 hf ns 0 FU (by omega) (by rw [FU_eq]; omega)
  rw [Al_0, Nl_0, nI_0] at this
  rw [fX2_copyFrom_117]
  exact this
theorem c_copyD (hd : t + 35 ≤ b ∨ b + 35 ≤ t) (hh : S.1 b 7 = nI nh) (h12 : nh ≤ 12) : fX2_copyFrom_148 t b (cps S t b (Al (Al A1 9 1 5 nc) 17 1 4 ns) (Nl (Nl N0 9 nc) 17 ns)) = some (cps S t b (AF nc ns nh) (NF nc ns)) := by
  have := c_copy_150 (S := S) (t := t) (b := b) (A := Al (Al A1 9 1 5 nc) 17 1 4 ns) (N := Nl (Nl N0 9 nc) 17 ns) hd (Al_t (Al_t (by decide))) hh h12 nh 0 FU (by omega) (by rw [FU_eq]; omega)
  rw [Al_0, nI_0] at this
  rw [fX2_copyFrom_148]
  exact this
theorem c_copyFrom0 (hd : t + 35 ≤ b ∨ b + 35 ≤ t) (hc : S.1 b 5 = nI nc) (h8 : nc ≤ 8) (hp : ∀ i, i < nc → S.1 (b + 1 + 8 + i) 2 = 0 ∨ S.1 (b + 1 + 8 + i) 2 = 1) (hs : S.1 b 6 = nI ns) (h6 : ns ≤ 6) (hf : ∀ i, i < ns → S.1 (b + 2 + 15 + i) 3 = 0 ∨ S.1 (b + 2 + 15 + i) 3 = 1) (hh : S.1 b 7 = nI nh) (h12 : nh ≤ 12) : fX2_copyFrom S t b = some (cps S t b (AF nc ns nh) (NF nc ns)) := by
  have e0 : fX2_copyFrom S t b = fX2_copyFrom_0 t b (cps S t b A0 N0) := by rw [cps_0]; rfl
  rw [e0, c_copyA hd, c_copyB hd hc h8 hp, c_copyC hd hs h6 hf, c_copyD hd hh h12]
theorem A1_h {f : Nat} (h : 5 ≤ f ∧ f ≤ 12) : A1 0 f = true := by
  obtain ⟨f, rfl⟩ : ∃ g, f = g + 5 := ⟨f - 5, by omega⟩
  exact (by decide : ∀ g : Fin 8, A1 0 (g.val + 5) = true) ⟨f, by omega⟩
theorem A1_t {f : Nat} (h : f < 8) : A1 8 f = true := (by decide : ∀ g : Fin 8, A1 8 g.val = true) ⟨f, h⟩
theorem A1_e {o f : Nat} (h : o < 3) (hf : f < 16) : A1 (5 + o) f = true := (by decide : ∀ g : Fin 3, ∀ q : Fin 16, A1 (5 + g.val) q.val = true) ⟨o, h⟩ ⟨f, hf⟩
theorem AF_cm {o f : Nat} (hn : cm nc ns nh o f ≠ 999) : AF nc ns nh o f = true := by
  unfold cm at hn
  by_cases h0 : o = 0
  · subst h0
    rw [if_pos rfl] at hn
    refine Al_t (Al_t (Al_t (A1_h ?_)))
    apply Classical.byContradiction
    intro q
    exact hn (by rw [if_neg (by omega), if_neg (by omega), if_neg (by omega), if_neg (by omega), if_neg (by omega), if_neg (by omega), if_neg (by omega), if_neg (by omega)])
  rw [if_neg h0] at hn
  by_cases h8 : o = 8
  · subst h8
    rw [if_pos rfl] at hn
    refine Al_t (Al_t (Al_t (A1_t ?_)))
    apply Classical.byContradiction
    intro q
    exact hn (if_neg q)
  rw [if_neg h8] at hn
  by_cases h9 : 9 ≤ o ∧ o < 17
  · rw [if_pos h9] at hn
    have q : o - 9 < nc ∧ 1 ≤ f ∧ f ≤ 5 := Classical.byContradiction fun q => hn (if_neg q)
    refine Al_t (Al_t ?_)
    unfold Al
    have q1 : 9 ≤ o ∧ o < 9 + nc := by omega
    simp [q1, q.2]
  rw [if_neg h9] at hn
  by_cases h17 : 17 ≤ o ∧ o < 23
  · rw [if_pos h17] at hn
    have q : o - 17 < ns ∧ 1 ≤ f ∧ f ≤ 4 := Classical.byContradiction fun q => hn (if_neg q)
    refine Al_t ?_
    show Al (Al A1 9 1 5 nc) 17 1 4 ns o f = true
    unfold Al
    have q1 : 17 ≤ o ∧ o < 17 + ns := by omega
    simp [q1, q.2]
  rw [if_neg h17] at hn
  by_cases h23 : 23 ≤ o ∧ o < 35
  · rw [if_pos h23] at hn
    have q : o - 23 < nh ∧ f < 2 := Classical.byContradiction fun q => hn (if_neg q)
    unfold AF
    show Al (Al (Al A1 9 1 5 nc) 17 1 4 ns) 23 0 1 nh o f = true
    unfold Al
    have q1 : 23 ≤ o ∧ o < 23 + nh := by omega
    have q2 : f ≤ 1 := by omega
    simp [q1, q2]
  rw [if_neg h23] at hn
  exact absurd rfl hn
theorem cw_self_iff : (cw S t nc ns nh w E = S) ↔ ∀ o f, o < 35 → gv nc ns nh w E o f (S.1 (t + o) f) = S.1 (t + o) f := by
  constructor
  · intro h o f ho
    have h1 : (cw S t nc ns nh w E).1 (t + o) f = S.1 (t + o) f := by rw [h]
    have h2 : (cw S t nc ns nh w E).1 (t + o) f = gv nc ns nh w E (t + o - t) f (S.1 (t + o) f) := if_pos (by omega)
    rw [h2, show t + o - t = o by omega] at h1
    exact h1
  · intro h
    refine Prod.ext (funext fun p => funext fun f => ?_) rfl
    show (if t ≤ p ∧ p < t + 35 then gv nc ns nh w E (p - t) f (S.1 p f) else S.1 p f) = S.1 p f
    by_cases hr : t ≤ p ∧ p < t + 35
    · rw [if_pos hr]
      have := h (p - t) f (by omega)
      rw [show t + (p - t) = p by omega] at this
      exact this
    · rw [if_neg hr]
/-- what lies outside a granary's places doesn't matter to it -/
theorem GR.frame {S' : CS} (g : GR S t w) (h : ∀ o, o < 35 → S'.1 (t + o) = S.1 (t + o) ∧ S'.2 (t + o) = S.2 (t + o)) (hc : nC w ≤ 8) (hs : nS w ≤ 6) : GR S' t w := by
  obtain ⟨⟨E, e, r⟩, n1, n2⟩ := g
  refine ⟨⟨E, cw_self_iff.mpr fun o f ho => ?_, r⟩, fun i hi => ?_, fun i hi => ?_⟩
  · rw [(h o ho).1]
    exact cw_self_iff.mp e o f ho
  · rw [(h (9 + i) (by omega)).2]; exact n1 i hi
  · rw [(h (17 + i) (by omega)).2]; exact n2 i hi
theorem GR.at0 (g : GR S t w) {f q : Nat} (hq : cm (nC w) (nS w) (nH w) 0 f = q) (hn : q ≠ 999) : S.1 t f = w q := g.rd (o := 0) (by omega) (by omega) hq hn
/-- a copy holds what was copied -/
theorem c_copyFrom (hd : t + 35 ≤ b ∨ b + 35 ≤ t) (hi : In w) (g : GR S b w) : ∃ S', fX2_copyFrom S t b = some S' ∧ GR S' t w ∧ ∀ p, p < t ∨ t + 35 ≤ p → S'.1 p = S.1 p ∧ S'.2 p = S.2 p := by
  have z := hi.1.1.sz
  have zc := z.1
  have zs := z.2.1
  have zh := z.2.2
  have hf := hi.1.2.2.1
  have hpw := hi.2.1
  refine ⟨_, c_copyFrom0 (nc := nC w) (ns := nS w) (nh := nH w) hd ((g.at0 (q := 0) rfl (by omega)).trans zc.2.2) zc.2.1 (fun i hi => ?_) ((g.at0 (q := 1) rfl (by omega)).trans zs.2.2) zs.2.1 (fun i hi => ?_) ((g.at0 (q := 2) rfl (by omega)).trans zh.2.2) zh.2.1, ?_, fun p hp => ?_⟩
  · rw [show b + 1 + 8 + i = b + (9 + i) by omega, g.rd (by omega) (by omega) (cm_c2 hi (by omega)) (by omega)]
    exact hpw i hi
  · rw [show b + 2 + 15 + i = b + (17 + i) by omega, g.rd (by omega) (by omega) (cm_s3 hi (by omega)) (by omega)]
    exact hf i hi
  · obtain ⟨⟨E, e, nx, c, r1, r2, r3, r4, r5, r6⟩, n1, n2⟩ := id g
    refine ⟨⟨fun i => (cps S t b (AF (nC w) (nS w) (nH w)) (NF (nC w) (nS w))).1 (t + (4 + i)), cw_self_iff.mpr fun o f ho => ?_, ?_⟩, fun i hi => ?_, fun i hi => ?_⟩
    · unfold gv
      by_cases h4 : 4 ≤ o ∧ o < 8
      · rw [if_pos h4]
        dsimp only
        rw [show 4 + (o - 4) = o by omega]
      · rw [if_neg h4]
        by_cases hc : cm (nC w) (nS w) (nH w) o f = 999
        · rw [if_pos hc]
        · rw [if_neg hc, cps_at ho (AF_cm hc)]
          exact (g.rd ho h4 rfl hc).symm
    · have ee : ∀ i f, i < 4 → E i f = S.1 (b + (4 + i)) f := fun i f hi => by rw [← e]; exact (cw_re hi).symm
      have cp : ∀ i f, i < 4 → AF (nC w) (nS w) (nH w) (4 + i) f = true → (cps S t b (AF (nC w) (nS w) (nH w)) (NF (nC w) (nS w))).1 (t + (4 + i)) f = E i f := fun i f hi ha => by rw [cps_at (by omega) ha, ee i f hi]
      refine ⟨nx, c, r1, r2, ?_, ?_, r5, fun k hk => ?_⟩
      · show (cps S t b _ _).1 (t + (4 + 0)) 4 = nI nx
        rw [cp 0 4 (by omega) (Al_t (Al_t (Al_t (by decide))))]; exact r3
      · show (cps S t b _ _).1 (t + (4 + 0)) 3 = nI c
        rw [cp 0 3 (by omega) (Al_t (Al_t (Al_t (by decide))))]; exact r4
      · show (cps S t b _ _).1 (t + (4 + 1)) _ = _ ∧ (cps S t b _ _).1 (t + (4 + 2)) _ = _ ∧ (cps S t b _ _).1 (t + (4 + 3)) _ = _
        have hm : (nx + 15 - k) % 16 < 16 := Nat.mod_lt _ (by omega)
        rw [cp 1 _ (by omega) (Al_t (Al_t (Al_t (A1_e (o := 0) (by omega) hm)))), cp 2 _ (by omega) (Al_t (Al_t (Al_t (A1_e (o := 1) (by omega) hm)))), cp 3 _ (by omega) (Al_t (Al_t (Al_t (A1_e (o := 2) (by omega) hm))))]
        exact r6 k hk
    · rw [cps_atN (by omega) (by unfold NF Nl; have : 9 ≤ 9 + i ∧ 9 + i < 9 + nC w := by omega
                                 simp [this])]
      exact n1 i hi
    · rw [cps_atN (by omega) (by unfold NF; show Nl (Nl N0 9 (nC w)) 17 (nS w) (17 + i) = true; unfold Nl; have : 17 ≤ 17 + i ∧ 17 + i < 17 + nS w := by omega
                                 simp [this])]
      exact n2 i hi
  · exact ⟨funext fun f => if_neg (by omega), if_neg (by omega)⟩
end COPY2
