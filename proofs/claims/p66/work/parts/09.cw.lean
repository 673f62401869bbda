/-! the class's world: 433 places, their kinds, their cells -/
abbrev CS : Type := (Nat → Nat → Int32) × (Nat → List Int32)
def kc (p : Nat) : Nat := if p < 13 then ([0, 1, 2, 3, 4, 5, 6, 7, 8, 9, 9, 9, 10] : List Nat).getD p 99 else if 433 ≤ p then 99 else let k := (p - 13) % 35; if k < 6 then 11 + k else if k < 8 then 16 else if k < 9 then 17 else if k < 17 then 18 else if k < 23 then 19 else 20
def cRow (kd : Nat) (cg : Nat → ClassId) (ca : Nat → Nat) (n p : Nat) (r : Nat → Int32) : va_E := match kd with
  | 0 => .inr (15, [.ref (ca 1), .ref (ca 5), .ref (ca 13), .ref (ca 48), .ref (ca 83), .ref (ca 118), .ref (ca 12), .ref (ca 7), .ref (ca 8), .int (r 9), .int (r 10), .int (r 11)])
  | 1 => .inr (13, [.ref (ca 2), .ref (ca 3), .int (r 2), .int (r 3), .int (r 4), .int (r 5), .int (r 6), .int (r 7), .int (r 8)])
  | 2 => .inl (cg 1, 600, .inl r)
  | 3 => .inr (1, [.ref (ca 4), .int 0, .int (r 2), .int (if r 3 < 0 then 0 else r 3)])
  | 4 => .inl (cg 1, 16, .inl r)
  | 5 => .inr (8, [.ref (ca 6), .int (r 1)])
  | 6 => .inl (cg 1, 100, .inl r)
  | 7 => .inr (11, [.ref (ca 1), .ref (ca 48)])
  | 8 => .inr (10, [.ref (ca 1), .ref (ca 13), .ref (ca 9), .ref (ca 10), .ref (ca 11), .int (r 5)])
  | 9 => .inl (cg 0, 30, .inl r)
  | 10 => .inl (cg 2, 8, .inr (.inr (.inr (.inr fun i => some (ca (153 + 35 * i))))))
  | 11 => .inr (7, [.ref (ca (p + 1)), .ref (ca (p + 2)), .ref (ca (p + 3)), .ref (ca (p + 4)), .ref (ca (p + 8)), .int (r 5), .int (r 6), .int (r 7), .int (r 8), .int (r 9), .int (r 10), .int (r 11), .int (r 12)])
  | 12 => .inl (cg 3, 8, .inr (.inr (.inr (.inr fun i => some (ca (p + 8 + i))))))
  | 13 => .inl (cg 4, 6, .inr (.inr (.inr (.inr fun i => some (ca (p + 15 + i))))))
  | 14 => .inl (cg 5, 12, .inr (.inr (.inr (.inr fun i => some (ca (p + 20 + i))))))
  | 15 => .inr (6, [.ref (ca (p + 1)), .ref (ca (p + 2)), .ref (ca (p + 3)), .int (r 3), .int (r 4)])
  | 16 => .inl (cg 0, 16, .inl r)
  | 17 => .inr (14, [.int (r 0), .int (r 1), .int (r 2), .int (r 3), .int (r 4), .int (r 5), .int (r 6), .int (r 7)])
  | 18 => .inr (5, [.ref n, .int (r 1), .int (r 2), .int (r 3), .int (r 4), .int (r 5)])
  | 19 => .inr (9, [.ref n, .int (r 1), .int (r 2), .int (r 3), .int (r 4)])
  | 20 => .inr (12, [.int (r 0), .int (r 1)])
  | _ => .inr (0, [])
def cΩ (ca : Nat → Nat) : Nat → Prop := fun q => ∃ p, p < 433 ∧ q = ca p
/-- what the addresses, the classes and the places of names are: the parameters of the class's world -/
def cTy (cg : Nat → ClassId) : List (ClassId × FieldType) := [(cg 0, .int), (cg 1, .byte), (cg 2, .object RX2), (cg 3, .object RX0), (cg 4, .object RX4), (cg 5, .object RX7), (cg 6, .object "java/lang/Object")]
def cN (dC : Nat → ClassId) (dI : Nat → Nat → Nat) (cg : Nat → ClassId) (kA : String → Nat → Nat) (ca nA : Nat → Nat) (S : CS) (U : State) (H : Heap) : Prop :=
  (∀ p, p < 433 → va_at (dC, dI) vwCl (ca p, cRow (kc p) cg ca (nA p) p (S.1 p)) H) ∧ va_K (dC, dI) vwCl (cTy cg) U ∧ (∀ p q, p < 433 → q < 433 → ca p = ca q → p = q) ∧ kE kTab kA (cΩ ca) U H ∧ ∀ p, strAt (nA p) (S.2 p) (cΩ ca) U H
def cP (dC : Nat → ClassId) (dI : Nat → Nat → Nat) (cg : Nat → ClassId) (kA : String → Nat → Nat) (ca : Nat → Nat) : CS → State → Heap → Prop := fun S U H => ∃ nA : Nat → Nat, cN dC dI cg kA ca nA S U H
theorem cOK {dC : Nat → ClassId} {dI : Nat → Nat → Nat} {cg : Nat → ClassId} {kA : String → Nat → Nat} {ca : Nat → Nat} : gOK (cP dC dI cg kA ca) (kR kTab kA) := ⟨fun S u U H hvm h => by
  obtain ⟨nA, h1, h2, h3, h4, h5⟩ := h
  exact ⟨nA, h1, va_K.moved hvm h2, h3, h4.moved hvm, fun p => (h5 p).moved hvm⟩, kR_ok⟩
theorem kc_lt {p k : Nat} (h : kc p = k) (hk : Nat.blt k 99 = true) : p < 433 := by
  apply Classical.byContradiction
  intro hp
  have hp : 433 ≤ p := Nat.not_lt.mp hp
  unfold kc at h
  rw [if_neg (by omega), if_pos hp] at h
  subst h
  cases hk
theorem kc_to {p k k' d : Nat} (hk : Nat.blt k 99 = true) (hall : ∀ i : Fin 433, kc i.val = k → kc (i.val + d) = k') (h : kc p = k) : kc (p + d) = k' := hall ⟨p, kc_lt h hk⟩ h
theorem kc_el {p k k' d n i : Nat} (hk : Nat.blt k 99 = true) (hall : ∀ i : Fin 433, ∀ j : Fin n, kc i.val = k → kc (i.val + d + j.val) = k') (h : kc p = k) (hi : i < n) : kc (p + d + i) = k' := hall ⟨p, kc_lt h hk⟩ ⟨i, hi⟩ h
theorem gIn_lt {i : Int32} {n : Nat} (h : gIn i n) : i.toNatClampNeg < n := Nat.not_le.mp fun q => h (Or.inr q)
theorem kc_cats {p : Nat} (h : kc p = 11) : kc (p + 1) = 12 := kc_to rfl (by decide +kernel) h
theorem kc_sacks {p : Nat} (h : kc p = 11) : kc (p + 2) = 13 := kc_to rfl (by decide +kernel) h
theorem kc_shifts {p : Nat} (h : kc p = 11) : kc (p + 3) = 14 := kc_to rfl (by decide +kernel) h
theorem kc_events {p : Nat} (h : kc p = 11) : kc (p + 4) = 15 := kc_to rfl (by decide +kernel) h
theorem kc_totals {p : Nat} (h : kc p = 11) : kc (p + 8) = 17 := kc_to rfl (by decide +kernel) h
theorem kc_ev0 {p : Nat} (h : kc p = 15) : kc (p + 1) = 16 := kc_to rfl (by decide +kernel) h
theorem kc_ev1 {p : Nat} (h : kc p = 15) : kc (p + 2) = 16 := kc_to rfl (by decide +kernel) h
theorem kc_ev2 {p : Nat} (h : kc p = 15) : kc (p + 3) = 16 := kc_to rfl (by decide +kernel) h
theorem kc_cat {p : Nat} {i : Int32} (h : kc p = 12) (hi : gIn i 8) : kc (p + 8 + i.toNatClampNeg) = 18 := kc_el rfl (by decide +kernel) h (gIn_lt hi)
theorem kc_sack {p : Nat} {i : Int32} (h : kc p = 13) (hi : gIn i 6) : kc (p + 15 + i.toNatClampNeg) = 19 := kc_el rfl (by decide +kernel) h (gIn_lt hi)
theorem kc_shift {p : Nat} {i : Int32} (h : kc p = 14) (hi : gIn i 12) : kc (p + 20 + i.toNatClampNeg) = 20 := kc_el rfl (by decide +kernel) h (gIn_lt hi)
theorem kc_past {i : Int32} (hi : gIn i 8) : kc (153 + 35 * i.toNatClampNeg) = 11 := (by decide +kernel : ∀ j : Fin 8, kc (153 + 35 * j.val) = 11) ⟨_, gIn_lt hi⟩
theorem cinX0 : ∀ w ∈ u_ws RX0 TX0 6, w ∈ TBG := by decide +kernel
theorem cinX1 : ∀ w ∈ u_ws RX1 TX1 5, w ∈ TBG := by decide +kernel
theorem cinX2 : ∀ w ∈ u_ws RX2 TX2 13, w ∈ TBG := by decide +kernel
theorem cinX3 : ∀ w ∈ u_ws RX3 TX3 2, w ∈ TBG := by decide +kernel
theorem cinX4 : ∀ w ∈ u_ws RX4 TX4 5, w ∈ TBG := by decide +kernel
theorem cinX5 : ∀ w ∈ u_ws RX5 TX5 6, w ∈ TBG := by decide +kernel
theorem cinX6 : ∀ w ∈ u_ws RX6 TX6 2, w ∈ TBG := by decide +kernel
theorem cinX7 : ∀ w ∈ u_ws RX7 TX7 2, w ∈ TBG := by decide +kernel
theorem cinX8 : ∀ w ∈ u_ws RX8 TX8 9, w ∈ TBG := by decide +kernel
theorem cinX9 : ∀ w ∈ u_ws RX9 TX9 8, w ∈ TBG := by decide +kernel
theorem cinX10 : ∀ w ∈ u_ws RX10 TX10 12, w ∈ TBG := by decide +kernel
theorem cinJ4 : ∀ w ∈ u_ws RJ4 TJ4 4, w ∈ TBG := by decide +kernel
theorem cwo {D : va_G} {cl : List vw_C} {q : Nat × va_E} {H : Heap} (h : va_at D cl q H) : va_P D cl [q] H := fun k z hz => by
  cases k with
  | zero => cases hz; exact h
  | succ k => cases hz
section CROWS
variable {p : Program} {l : Launch} {e : Env} {R : Room} {s : State} {m : MethodId} {args : Array Value} {below : List Frame} {meth : Method} {c : Code} {H : Heap} {locs : List Loc} {cells slots : Nat} {Q : State → Prop}
variable {cc : ByteArray} {pc nL : Nat} {ls : Array Slot} {rest : List Value} {dC : Nat → ClassId} {dI : Nat → Nat → Nat} {cg : Nat → ClassId} {kA : String → Nat → Nat} {ca nA : Nat → Nat} {S : CS} {own : String}
theorem cN_up {q : Nat} {r : Nat → Int32} {H1 : Heap} (h : cN dC dI cg kA ca nA S s H) (hq : q < 433) (h1 : va_at (dC, dI) vwCl (ca q, cRow (kc q) cg ca (nA q) q r) H1) (oq : ∀ x : Nat, x ≠ ca q → H1[x]? = H[x]?) : cN dC dI cg kA ca nA (va_up S.1 q r, S.2) s H1 := by
  obtain ⟨a1, a2, a3, a4, a5⟩ := h
  have hk : ∀ a : Nat, a < H.size → ¬ cΩ ca a → H1[a]? = H[a]? := fun a _ z => oq a (fun w => z ⟨q, hq, w⟩)
  refine ⟨fun p hp => ?_, a2, a3, a4.kept hk, fun p => (a5 p).kept hk⟩
  by_cases hpq : p = q
  · subst hpq
    show va_at (dC, dI) vwCl (ca p, cRow (kc p) cg ca (nA p) p (va_up S.1 p r p)) H1
    have : va_up S.1 p r p = r := if_pos rfl
    rw [this]
    exact h1
  · show va_at (dC, dI) vwCl (ca p, cRow (kc p) cg ca (nA p) p (va_up S.1 q r p)) H1
    have : va_up S.1 q r p = S.1 p := if_neg hpq
    rw [this]
    exact (a1 p hp).kept (oq _ (fun w => hpq (a3 p q hp hq w)))
theorem cN_nm {q a : Nat} {bs : List Int32} {H1 : Heap} (h : cN dC dI cg kA ca nA S s H) (hq : q < 433) (h1 : va_at (dC, dI) vwCl (ca q, cRow (kc q) cg ca a q (S.1 q)) H1) (hs : strAt a bs (cΩ ca) s H) (oq : ∀ x : Nat, x ≠ ca q → H1[x]? = H[x]?) : cN dC dI cg kA ca (va_up nA q a) (S.1, va_up S.2 q bs) s H1 := by
  obtain ⟨a1, a2, a3, a4, a5⟩ := h
  have hk : ∀ a : Nat, a < H.size → ¬ cΩ ca a → H1[a]? = H[a]? := fun a _ z => oq a (fun w => z ⟨q, hq, w⟩)
  refine ⟨fun p hp => ?_, a2, a3, a4.kept hk, fun p => ?_⟩
  · by_cases hpq : p = q
    · subst hpq
      show va_at (dC, dI) vwCl (ca p, cRow (kc p) cg ca (va_up nA p a p) p (S.1 p)) H1
      have : va_up nA p a p = a := if_pos rfl
      rw [this]
      exact h1
    · show va_at (dC, dI) vwCl (ca p, cRow (kc p) cg ca (va_up nA q a p) p (S.1 p)) H1
      have : va_up nA q a p = nA p := if_neg hpq
      rw [this]
      exact (a1 p hp).kept (oq _ (fun w => hpq (a3 p q hp hq w)))
  · show strAt (va_up nA q a p) (va_up S.2 q bs p) (cΩ ca) s H1
    by_cases hpq : p = q
    · have e1 : va_up nA q a p = a := if_pos hpq
      have e2 : va_up S.2 q bs p = bs := if_pos hpq
      rw [e1, e2]
      exact hs.kept hk
    · have e1 : va_up nA q a p = nA p := if_neg hpq
      have e2 : va_up S.2 q bs p = S.2 p := if_neg hpq
      rw [e1, e2]
      exact (a5 p).kept hk
theorem cr_rec {q kd ci N : Nat} {C : String} {T : u_T} (hP : cP dC dI cg kA ca S s H) (hkd : kc q = kd) (h9 : Nat.blt kd 99 = true) (hv : ∀ nm, ∃ fs, cRow kd cg ca nm q (S.1 q) = .inr (ci, fs)) (hc : vwCl[ci]? = some (C, T, N)) : gRec C (ca q) s H := by
  obtain ⟨nA, a1, a2, a3, a4, a5⟩ := hP
  obtain ⟨fs, h1⟩ := hv (nA q)
  have h0 := a1 q (kc_lt hkd h9)
  rw [hkd, h1] at h0
  exact va_recv a2 (cwo h0) (q0 := 0) hc rfl
theorem cr_get {q kd ci N k index : Nat} {C : String} {T : u_T} {v : Value} (X : gX p s m args c cc nL own (kR kTab kA)) (hP : cP dC dI cg kA ca S s H) (hkd : kc q = kd) (h9 : Nat.blt kd 99 = true) (hv : ∀ nm, ∃ fs, cRow kd cg ca nm q (S.1 q) = .inr (ci, fs) ∧ fs[k]? = some v) (hc : vwCl[ci]? = some (C, T, N)) (hin : ∀ w ∈ u_ws C T N, w ∈ TBG) (hk : k < N) (ho : (T k).1 = C) (hlink : Cond.fieldLink own index C (T k).2.1 (T k).2.2.1 ∈ TBG) (hdg : decode cc pc = .ok (.getfield index, 3))
    (kk : W p l e R s m args below meth c H locs cells slots Q (F0 m (pc + 3) ls (v :: rest))) : W p l e R s m args below meth c H locs cells slots Q (F0 m pc ls (.ref (ca q) :: rest)) := by
  obtain ⟨nA, a1, a2, a3, a4, a5⟩ := hP
  obtain ⟨fs, h1, h2⟩ := hv (nA q)
  have h0 := a1 q (kc_lt hkd h9)
  rw [hkd, h1] at h0
  exact va_get X.hx X.hb X.hts hin X.hown a2 (cwo h0) 0 rfl hc k hk (X.hts _ hlink) (fun x h => by rw [ho] at h; exact h) h2 hdg kk
theorem cr_name {q kd ci N index : Nat} {C : String} {T : u_T} (X : gX p s m args c cc nL own (kR kTab kA)) (hP : cP dC dI cg kA ca S s H) (hkd : kc q = kd) (h9 : Nat.blt kd 99 = true) (hv : ∀ nm, ∃ fs, cRow kd cg ca nm q (S.1 q) = .inr (ci, fs) ∧ fs[0]? = some (.ref nm)) (hc : vwCl[ci]? = some (C, T, N)) (hin : ∀ w ∈ u_ws C T N, w ∈ TBG) (hk : 0 < N) (ho : (T 0).1 = C) (hlink : Cond.fieldLink own index C (T 0).2.1 (T 0).2.2.1 ∈ TBG) (hdg : decode cc pc = .ok (.getfield index, 3))
    (kk : ∀ a, strAt a (S.2 q) (cΩ ca) s H → W p l e R s m args below meth c H locs cells slots Q (F0 m (pc + 3) ls (.ref a :: rest))) : W p l e R s m args below meth c H locs cells slots Q (F0 m pc ls (.ref (ca q) :: rest)) := by
  obtain ⟨nA, a1, a2, a3, a4, a5⟩ := hP
  obtain ⟨fs, h1, h2⟩ := hv (nA q)
  have h0 := a1 q (kc_lt hkd h9)
  rw [hkd, h1] at h0
  exact va_get X.hx X.hb X.hts hin X.hown a2 (cwo h0) 0 rfl hc 0 hk (X.hts _ hlink) (fun x h => by rw [ho] at h; exact h) h2 hdg (kk _ (a5 q))
theorem cr_put {q kd ci N k index : Nat} {C : String} {T : u_T} {v : Int32} {tyT : Nat → FieldType} (X : gX p s m args c cc nL own (kR kTab kA)) (hP : cP dC dI cg kA ca S s H) (hS : va_S (Fr (cΩ ca) s.heap.size) s.heap H locs) (hkd : kc q = kd) (h9 : Nat.blt kd 99 = true) (hv : ∀ nm, ∃ fs, cRow kd cg ca nm q (S.1 q) = .inr (ci, fs) ∧ k < fs.length ∧ cRow kd cg ca nm q (upd (S.1 q) k v) = .inr (ci, fs.set k (.int v))) (hc : vwCl[ci]? = some (C, T, N)) (hin : ∀ w ∈ u_ws C T N, w ∈ TBG) (hty : ∀ k, k < N → parseFieldDescriptor (T k).2.2.1 = some (tyT k)) (hnm : ∀ a, a < N → ∀ b, b < N → a ≠ b → (T a).2.1 ≠ (T b).2.1) (hk : k < N) (ho : (T k).1 = C) (hfin : (T k).2.2.2 = false) (hn : narrow (tyT k) (.int v) = .int v) (hfit : fits (tyT k) (.int v) = true) (hlink : Cond.fieldLink own index C (T k).2.1 (T k).2.2.1 ∈ TBG) (hdg : decode cc pc = .ok (.putfield index, 3))
    (kk : ∀ (H1 : Heap) (locs1 : List Loc), cP dC dI cg kA ca (va_up S.1 q (upd (S.1 q) k v), S.2) s H1 → va_S (Fr (cΩ ca) s.heap.size) s.heap H1 locs1 → W p l e R s m args below meth c H1 locs1 cells slots Q (F0 m (pc + 3) ls rest)) : W p l e R s m args below meth c H locs cells slots Q (F0 m pc ls (.int v :: .ref (ca q) :: rest)) := by
  obtain ⟨nA, hN⟩ := hP
  obtain ⟨fs, h1, h2, h3⟩ := hv (nA q)
  have hq := kc_lt hkd h9
  have h0 := hN.1 q hq
  rw [hkd, h1] at h0
  refine va_putO X.hx X.hb X.hts hin tyT hty hnm X.hown hN.2.1 h0 hc k hk (X.hts _ hlink) (fun x h => by rw [ho] at h; exact h) hfin (hty k hk) hn hfit h2 hdg (fun H1 j h4 hz oq => ?_)
  rw [← h3, ← hkd] at h4
  exact kk H1 _ ⟨nA, cN_up hN hq h4 oq⟩ (hS.put hz oq (Or.inl ⟨q, hq, rfl⟩))
theorem cr_putN {q kd ci N index a : Nat} {C : String} {T : u_T} {bs : List Int32} {tyT : Nat → FieldType} (X : gX p s m args c cc nL own (kR kTab kA)) (hP : cP dC dI cg kA ca S s H) (hS : va_S (Fr (cΩ ca) s.heap.size) s.heap H locs) (hkd : kc q = kd) (h9 : Nat.blt kd 99 = true) (hv : ∀ nm, ∃ fs, cRow kd cg ca nm q (S.1 q) = .inr (ci, fs) ∧ 0 < fs.length ∧ cRow kd cg ca a q (S.1 q) = .inr (ci, fs.set 0 (.ref a))) (hc : vwCl[ci]? = some (C, T, N)) (hin : ∀ w ∈ u_ws C T N, w ∈ TBG) (hty : ∀ k, k < N → parseFieldDescriptor (T k).2.2.1 = some (tyT k)) (hnm : ∀ a, a < N → ∀ b, b < N → a ≠ b → (T a).2.1 ≠ (T b).2.1) (hk : 0 < N) (ho : (T 0).1 = C) (hfin : (T 0).2.2.2 = false) (hn : narrow (tyT 0) (.ref a) = .ref a) (hfit : fits (tyT 0) (.ref a) = true) (hs : strAt a bs (cΩ ca) s H) (hlink : Cond.fieldLink own index C (T 0).2.1 (T 0).2.2.1 ∈ TBG) (hdg : decode cc pc = .ok (.putfield index, 3))
    (kk : ∀ (H1 : Heap) (locs1 : List Loc), cP dC dI cg kA ca (S.1, va_up S.2 q bs) s H1 → va_S (Fr (cΩ ca) s.heap.size) s.heap H1 locs1 → W p l e R s m args below meth c H1 locs1 cells slots Q (F0 m (pc + 3) ls rest)) : W p l e R s m args below meth c H locs cells slots Q (F0 m pc ls (.ref a :: .ref (ca q) :: rest)) := by
  obtain ⟨nA, hN⟩ := hP
  obtain ⟨fs, h1, h2, h3⟩ := hv (nA q)
  have hq := kc_lt hkd h9
  have h0 := hN.1 q hq
  rw [hkd, h1] at h0
  refine va_putO X.hx X.hb X.hts hin tyT hty hnm X.hown hN.2.1 h0 hc 0 hk (X.hts _ hlink) (fun x h => by rw [ho] at h; exact h) hfin (hty 0 hk) hn hfit h2 hdg (fun H1 j h4 hz oq => ?_)
  rw [← h3, ← hkd] at h4
  exact kk H1 _ ⟨_, cN_nm hN hq h4 hs oq⟩ (hS.put hz oq (Or.inl ⟨q, hq, rfl⟩))
theorem cr_iald {q kd n : Nat} {i : Int32} (X : gX p s m args c cc nL own (kR kTab kA)) (hP : cP dC dI cg kA ca S s H) (hkd : kc q = kd) (h9 : Nat.blt kd 99 = true) (hr : ∀ nm, cRow kd cg ca nm q (S.1 q) = .inl (cg 0, n, .inl (S.1 q))) (hi : gIn i n) (hdg : decode cc pc = .ok (.iaload, 1))
    (kk : W p l e R s m args below meth c H locs cells slots Q (F0 m (pc + 1) ls (.int (S.1 q i.toNatClampNeg) :: rest))) : W p l e R s m args below meth c H locs cells slots Q (F0 m pc ls (.int i :: .ref (ca q) :: rest)) := by
  obtain ⟨nA, a1, a2, a3, a4, a5⟩ := hP
  have h0 := a1 q (kc_lt hkd h9)
  rw [hkd, hr] at h0
  exact va_iald X.hx X.hb a2 (cwo h0) 0 0 rfl rfl hi hdg kk
theorem cr_bald {q kd n : Nat} {i : Int32} (X : gX p s m args c cc nL own (kR kTab kA)) (hP : cP dC dI cg kA ca S s H) (hkd : kc q = kd) (h9 : Nat.blt kd 99 = true) (hr : ∀ nm, cRow kd cg ca nm q (S.1 q) = .inl (cg 1, n, .inl (S.1 q))) (hi : gIn i n) (hdg : decode cc pc = .ok (.baload, 1))
    (kk : W p l e R s m args below meth c H locs cells slots Q (F0 m (pc + 1) ls (.int (S.1 q i.toNatClampNeg) :: rest))) : W p l e R s m args below meth c H locs cells slots Q (F0 m pc ls (.int i :: .ref (ca q) :: rest)) := by
  obtain ⟨nA, a1, a2, a3, a4, a5⟩ := hP
  have h0 := a1 q (kc_lt hkd h9)
  rw [hkd, hr] at h0
  exact va_bald X.hx X.hb a2 (cwo h0) 0 1 rfl rfl hi hdg kk
theorem cr_aald {q kd n t0 : Nat} {C : String} {i : Int32} {f : Nat → Nat} (X : gX p s m args c cc nL own (kR kTab kA)) (hP : cP dC dI cg kA ca S s H) (hkd : kc q = kd) (h9 : Nat.blt kd 99 = true) (hr : ∀ nm, cRow kd cg ca nm q (S.1 q) = .inl (cg t0, n, .inr (.inr (.inr (.inr fun i => some (ca (f i))))))) (ht : (cTy cg)[t0]? = some (cg t0, .object C)) (hi : gIn i n) (hdg : decode cc pc = .ok (.aaload, 1))
    (kk : W p l e R s m args below meth c H locs cells slots Q (F0 m (pc + 1) ls (.ref (ca (f i.toNatClampNeg)) :: rest))) : W p l e R s m args below meth c H locs cells slots Q (F0 m pc ls (.int i :: .ref (ca q) :: rest)) := by
  obtain ⟨nA, a1, a2, a3, a4, a5⟩ := hP
  have h0 := a1 q (kc_lt hkd h9)
  rw [hkd, hr] at h0
  exact va_aldq X.hx X.hb a2 (cwo h0) 0 t0 rfl ht hi hdg kk
theorem cr_alen {q kd t0 : Nat} {x : vp_A} {ty : FieldType} {v : Int32} (X : gX p s m args c cc nL own (kR kTab kA)) (hP : cP dC dI cg kA ca S s H) (hkd : kc q = kd) (h9 : Nat.blt kd 99 = true) (hr : ∀ nm, cRow kd cg ca nm q (S.1 q) = .inl (cg t0, x)) (ht : (cTy cg)[t0]? = some (cg t0, ty)) (hv : Int32.ofNat x.1 = v) (hdg : decode cc pc = .ok (.arraylength, 1))
    (kk : W p l e R s m args below meth c H locs cells slots Q (F0 m (pc + 1) ls (.int v :: rest))) : W p l e R s m args below meth c H locs cells slots Q (F0 m pc ls (.ref (ca q) :: rest)) := by
  obtain ⟨nA, a1, a2, a3, a4, a5⟩ := hP
  have h0 := a1 q (kc_lt hkd h9)
  rw [hkd, hr] at h0
  exact va_alen X.hx X.hb a2 (cwo h0) 0 t0 rfl ht hv hdg kk
theorem cr_iast {q kd n : Nat} {i x : Int32} (X : gX p s m args c cc nL own (kR kTab kA)) (hP : cP dC dI cg kA ca S s H) (hS : va_S (Fr (cΩ ca) s.heap.size) s.heap H locs) (hkd : kc q = kd) (h9 : Nat.blt kd 99 = true) (hr : ∀ (nm : Nat) (r : Nat → Int32), cRow kd cg ca nm q r = .inl (cg 0, n, .inl r)) (hi : gIn i n) (hdg : decode cc pc = .ok (.iastore, 1))
    (kk : ∀ (H1 : Heap) (locs1 : List Loc), cP dC dI cg kA ca (va_up S.1 q (upd (S.1 q) i.toNatClampNeg x), S.2) s H1 → va_S (Fr (cΩ ca) s.heap.size) s.heap H1 locs1 → W p l e R s m args below meth c H1 locs1 cells slots Q (F0 m (pc + 1) ls rest)) : W p l e R s m args below meth c H locs cells slots Q (F0 m pc ls (.int x :: .int i :: .ref (ca q) :: rest)) := by
  obtain ⟨nA, hN⟩ := hP
  have hq := kc_lt hkd h9
  have h0 := hN.1 q hq
  rw [hkd, hr] at h0
  refine va_iastO X.hx X.hb hN.2.1 h0 0 rfl hi hdg (fun H1 j h4 hz oq => ?_)
  rw [← hr (nA q), ← hkd] at h4
  exact kk H1 _ ⟨nA, cN_up hN hq h4 oq⟩ (hS.put hz oq (Or.inl ⟨q, hq, rfl⟩))
theorem cr_bastO {a n : Nat} {f : Nat → Int32} {cA : ClassId} {D : va_G} {cl : List vw_C} {tys : List (ClassId × FieldType)} (hexec : p.tables.exec = Jvm.exec) (hb : c.code = cc) (hK : va_K D cl tys s) (he : va_at D cl (a, .inl (cA, n, .inl f)) H) (t0 : Nat) (ht : tys[t0]? = some (cA, .byte)) {i : Int32} {x : Int32} (hin : gIn i n) (hdg : decode cc pc = .ok (.bastore, 1))
    (kk : ∀ (H1 : Heap) (j : Nat), va_at D cl (a, .inl (cA, n, .inl (upd f i.toNatClampNeg (vp_nar .byte x)))) H1 → H1.size = H.size → (∀ q : Nat, q ≠ a → H1[q]? = H[q]?) → W p l e R s m args below meth c H1 (locs ++ [⟨a, j⟩]) cells slots Q (F0 m (pc + 1) ls rest)) : W p l e R s m args below meth c H locs cells slots Q (F0 m pc ls (.int x :: .int i :: .ref a :: rest)) := by
  have he : H[a]? = some (vp_cell cA (n, .inl f)) := he
  refine W.bast hexec hb he ((hK.2 t0 _ ht).1 n (fun j => .int (f j))) (fun q => by cases q) (by show ¬ (i < 0 ∨ (arrV _ _ _).slots.size ≤ _); rw [arrV_size]; exact hin) rfl rfl hdg fun H1 e z oq => ?_
  refine kk H1 _ ?_ z oq
  show H1[a]? = some (vp_cell _ _)
  rw [e]
  rw [vp_cell_i, vp_cell_i, arrV_store]
  congr 2
  funext q
  by_cases hq : q = i.toNatClampNeg
  · subst hq
    simp [updV, upd, vp_nar]
    try rfl
  · simp [updV, upd, hq]
theorem cr_bast {q kd n : Nat} {i x : Int32} (X : gX p s m args c cc nL own (kR kTab kA)) (hP : cP dC dI cg kA ca S s H) (hS : va_S (Fr (cΩ ca) s.heap.size) s.heap H locs) (hkd : kc q = kd) (h9 : Nat.blt kd 99 = true) (hr : ∀ (nm : Nat) (r : Nat → Int32), cRow kd cg ca nm q r = .inl (cg 1, n, .inl r)) (hi : gIn i n) (hdg : decode cc pc = .ok (.bastore, 1))
    (kk : ∀ (H1 : Heap) (locs1 : List Loc), cP dC dI cg kA ca (va_up S.1 q (upd (S.1 q) i.toNatClampNeg (vp_nar .byte x)), S.2) s H1 → va_S (Fr (cΩ ca) s.heap.size) s.heap H1 locs1 → W p l e R s m args below meth c H1 locs1 cells slots Q (F0 m (pc + 1) ls rest)) : W p l e R s m args below meth c H locs cells slots Q (F0 m pc ls (.int x :: .int i :: .ref (ca q) :: rest)) := by
  obtain ⟨nA, hN⟩ := hP
  have hq := kc_lt hkd h9
  have h0 := hN.1 q hq
  rw [hkd, hr] at h0
  refine cr_bastO X.hx X.hb hN.2.1 h0 1 rfl hi hdg (fun H1 j h4 hz oq => ?_)
  rw [← hr (nA q), ← hkd] at h4
  exact kk H1 _ ⟨nA, cN_up hN hq h4 oq⟩ (hS.put hz oq (Or.inl ⟨q, hq, rfl⟩))
end CROWS
def va_E_row3 (cg : Nat → ClassId) (ca : Nat → Nat) (v w : Int32) : va_E := .inr (1, [.ref (ca 4), .int 0, .int w, .int v])
theorem cv0_0 {cg : Nat → ClassId} {ca : Nat → Nat} {q : Nat} {r : Nat → Int32} : ∀ nm, ∃ fs, cRow 0 cg ca nm q r = .inr (15, fs) ∧ fs[0]? = some (.ref (ca 1)) := fun _ => ⟨_, rfl, rfl⟩
theorem cv0_1 {cg : Nat → ClassId} {ca : Nat → Nat} {q : Nat} {r : Nat → Int32} : ∀ nm, ∃ fs, cRow 0 cg ca nm q r = .inr (15, fs) ∧ fs[1]? = some (.ref (ca 5)) := fun _ => ⟨_, rfl, rfl⟩
theorem cv0_2 {cg : Nat → ClassId} {ca : Nat → Nat} {q : Nat} {r : Nat → Int32} : ∀ nm, ∃ fs, cRow 0 cg ca nm q r = .inr (15, fs) ∧ fs[2]? = some (.ref (ca 13)) := fun _ => ⟨_, rfl, rfl⟩
theorem cv0_3 {cg : Nat → ClassId} {ca : Nat → Nat} {q : Nat} {r : Nat → Int32} : ∀ nm, ∃ fs, cRow 0 cg ca nm q r = .inr (15, fs) ∧ fs[3]? = some (.ref (ca 48)) := fun _ => ⟨_, rfl, rfl⟩
theorem cv0_4 {cg : Nat → ClassId} {ca : Nat → Nat} {q : Nat} {r : Nat → Int32} : ∀ nm, ∃ fs, cRow 0 cg ca nm q r = .inr (15, fs) ∧ fs[4]? = some (.ref (ca 83)) := fun _ => ⟨_, rfl, rfl⟩
theorem cv0_5 {cg : Nat → ClassId} {ca : Nat → Nat} {q : Nat} {r : Nat → Int32} : ∀ nm, ∃ fs, cRow 0 cg ca nm q r = .inr (15, fs) ∧ fs[5]? = some (.ref (ca 118)) := fun _ => ⟨_, rfl, rfl⟩
theorem cv0_6 {cg : Nat → ClassId} {ca : Nat → Nat} {q : Nat} {r : Nat → Int32} : ∀ nm, ∃ fs, cRow 0 cg ca nm q r = .inr (15, fs) ∧ fs[6]? = some (.ref (ca 12)) := fun _ => ⟨_, rfl, rfl⟩
theorem cv0_7 {cg : Nat → ClassId} {ca : Nat → Nat} {q : Nat} {r : Nat → Int32} : ∀ nm, ∃ fs, cRow 0 cg ca nm q r = .inr (15, fs) ∧ fs[7]? = some (.ref (ca 7)) := fun _ => ⟨_, rfl, rfl⟩
theorem cv0_8 {cg : Nat → ClassId} {ca : Nat → Nat} {q : Nat} {r : Nat → Int32} : ∀ nm, ∃ fs, cRow 0 cg ca nm q r = .inr (15, fs) ∧ fs[8]? = some (.ref (ca 8)) := fun _ => ⟨_, rfl, rfl⟩
theorem cv0_9 {cg : Nat → ClassId} {ca : Nat → Nat} {q : Nat} {r : Nat → Int32} : ∀ nm, ∃ fs, cRow 0 cg ca nm q r = .inr (15, fs) ∧ fs[9]? = some (.int (r 9)) := fun _ => ⟨_, rfl, rfl⟩
theorem cs0_9 {cg : Nat → ClassId} {ca : Nat → Nat} {q : Nat} {r : Nat → Int32} {v : Int32} : ∀ nm, ∃ fs, cRow 0 cg ca nm q r = .inr (15, fs) ∧ 9 < fs.length ∧ cRow 0 cg ca nm q (upd r 9 v) = .inr (15, fs.set 9 (.int v)) := fun _ => ⟨_, rfl, Nat.le_of_ble_eq_true rfl, rfl⟩
theorem cv0_10 {cg : Nat → ClassId} {ca : Nat → Nat} {q : Nat} {r : Nat → Int32} : ∀ nm, ∃ fs, cRow 0 cg ca nm q r = .inr (15, fs) ∧ fs[10]? = some (.int (r 10)) := fun _ => ⟨_, rfl, rfl⟩
theorem cs0_10 {cg : Nat → ClassId} {ca : Nat → Nat} {q : Nat} {r : Nat → Int32} {v : Int32} : ∀ nm, ∃ fs, cRow 0 cg ca nm q r = .inr (15, fs) ∧ 10 < fs.length ∧ cRow 0 cg ca nm q (upd r 10 v) = .inr (15, fs.set 10 (.int v)) := fun _ => ⟨_, rfl, Nat.le_of_ble_eq_true rfl, rfl⟩
theorem cv0_11 {cg : Nat → ClassId} {ca : Nat → Nat} {q : Nat} {r : Nat → Int32} : ∀ nm, ∃ fs, cRow 0 cg ca nm q r = .inr (15, fs) ∧ fs[11]? = some (.int (r 11)) := fun _ => ⟨_, rfl, rfl⟩
theorem cs0_11 {cg : Nat → ClassId} {ca : Nat → Nat} {q : Nat} {r : Nat → Int32} {v : Int32} : ∀ nm, ∃ fs, cRow 0 cg ca nm q r = .inr (15, fs) ∧ 11 < fs.length ∧ cRow 0 cg ca nm q (upd r 11 v) = .inr (15, fs.set 11 (.int v)) := fun _ => ⟨_, rfl, Nat.le_of_ble_eq_true rfl, rfl⟩
theorem cw0 {cg : Nat → ClassId} {ca : Nat → Nat} {q : Nat} {r : Nat → Int32} : ∀ nm, ∃ fs, cRow 0 cg ca nm q r = .inr (15, fs) := fun _ => ⟨_, rfl⟩
theorem cv1_0 {cg : Nat → ClassId} {ca : Nat → Nat} {q : Nat} {r : Nat → Int32} : ∀ nm, ∃ fs, cRow 1 cg ca nm q r = .inr (13, fs) ∧ fs[0]? = some (.ref (ca 2)) := fun _ => ⟨_, rfl, rfl⟩
theorem cv1_1 {cg : Nat → ClassId} {ca : Nat → Nat} {q : Nat} {r : Nat → Int32} : ∀ nm, ∃ fs, cRow 1 cg ca nm q r = .inr (13, fs) ∧ fs[1]? = some (.ref (ca 3)) := fun _ => ⟨_, rfl, rfl⟩
theorem cv1_2 {cg : Nat → ClassId} {ca : Nat → Nat} {q : Nat} {r : Nat → Int32} : ∀ nm, ∃ fs, cRow 1 cg ca nm q r = .inr (13, fs) ∧ fs[2]? = some (.int (r 2)) := fun _ => ⟨_, rfl, rfl⟩
theorem cs1_2 {cg : Nat → ClassId} {ca : Nat → Nat} {q : Nat} {r : Nat → Int32} {v : Int32} : ∀ nm, ∃ fs, cRow 1 cg ca nm q r = .inr (13, fs) ∧ 2 < fs.length ∧ cRow 1 cg ca nm q (upd r 2 v) = .inr (13, fs.set 2 (.int v)) := fun _ => ⟨_, rfl, Nat.le_of_ble_eq_true rfl, rfl⟩
theorem cv1_3 {cg : Nat → ClassId} {ca : Nat → Nat} {q : Nat} {r : Nat → Int32} : ∀ nm, ∃ fs, cRow 1 cg ca nm q r = .inr (13, fs) ∧ fs[3]? = some (.int (r 3)) := fun _ => ⟨_, rfl, rfl⟩
theorem cs1_3 {cg : Nat → ClassId} {ca : Nat → Nat} {q : Nat} {r : Nat → Int32} {v : Int32} : ∀ nm, ∃ fs, cRow 1 cg ca nm q r = .inr (13, fs) ∧ 3 < fs.length ∧ cRow 1 cg ca nm q (upd r 3 v) = .inr (13, fs.set 3 (.int v)) := fun _ => ⟨_, rfl, Nat.le_of_ble_eq_true rfl, rfl⟩
theorem cv1_4 {cg : Nat → ClassId} {ca : Nat → Nat} {q : Nat} {r : Nat → Int32} : ∀ nm, ∃ fs, cRow 1 cg ca nm q r = .inr (13, fs) ∧ fs[4]? = some (.int (r 4)) := fun _ => ⟨_, rfl, rfl⟩
theorem cs1_4 {cg : Nat → ClassId} {ca : Nat → Nat} {q : Nat} {r : Nat → Int32} {v : Int32} : ∀ nm, ∃ fs, cRow 1 cg ca nm q r = .inr (13, fs) ∧ 4 < fs.length ∧ cRow 1 cg ca nm q (upd r 4 v) = .inr (13, fs.set 4 (.int v)) := fun _ => ⟨_, rfl, Nat.le_of_ble_eq_true rfl, rfl⟩
theorem cv1_5 {cg : Nat → ClassId} {ca : Nat → Nat} {q : Nat} {r : Nat → Int32} : ∀ nm, ∃ fs, cRow 1 cg ca nm q r = .inr (13, fs) ∧ fs[5]? = some (.int (r 5)) := fun _ => ⟨_, rfl, rfl⟩
theorem cs1_5 {cg : Nat → ClassId} {ca : Nat → Nat} {q : Nat} {r : Nat → Int32} {v : Int32} : ∀ nm, ∃ fs, cRow 1 cg ca nm q r = .inr (13, fs) ∧ 5 < fs.length ∧ cRow 1 cg ca nm q (upd r 5 v) = .inr (13, fs.set 5 (.int v)) := fun _ => ⟨_, rfl, Nat.le_of_ble_eq_true rfl, rfl⟩
theorem cv1_6 {cg : Nat → ClassId} {ca : Nat → Nat} {q : Nat} {r : Nat → Int32} : ∀ nm, ∃ fs, cRow 1 cg ca nm q r = .inr (13, fs) ∧ fs[6]? = some (.int (r 6)) := fun _ => ⟨_, rfl, rfl⟩
theorem cs1_6 {cg : Nat → ClassId} {ca : Nat → Nat} {q : Nat} {r : Nat → Int32} {v : Int32} : ∀ nm, ∃ fs, cRow 1 cg ca nm q r = .inr (13, fs) ∧ 6 < fs.length ∧ cRow 1 cg ca nm q (upd r 6 v) = .inr (13, fs.set 6 (.int v)) := fun _ => ⟨_, rfl, Nat.le_of_ble_eq_true rfl, rfl⟩
theorem cv1_7 {cg : Nat → ClassId} {ca : Nat → Nat} {q : Nat} {r : Nat → Int32} : ∀ nm, ∃ fs, cRow 1 cg ca nm q r = .inr (13, fs) ∧ fs[7]? = some (.int (r 7)) := fun _ => ⟨_, rfl, rfl⟩
theorem cs1_7 {cg : Nat → ClassId} {ca : Nat → Nat} {q : Nat} {r : Nat → Int32} {v : Int32} : ∀ nm, ∃ fs, cRow 1 cg ca nm q r = .inr (13, fs) ∧ 7 < fs.length ∧ cRow 1 cg ca nm q (upd r 7 v) = .inr (13, fs.set 7 (.int v)) := fun _ => ⟨_, rfl, Nat.le_of_ble_eq_true rfl, rfl⟩
theorem cv1_8 {cg : Nat → ClassId} {ca : Nat → Nat} {q : Nat} {r : Nat → Int32} : ∀ nm, ∃ fs, cRow 1 cg ca nm q r = .inr (13, fs) ∧ fs[8]? = some (.int (r 8)) := fun _ => ⟨_, rfl, rfl⟩
theorem cs1_8 {cg : Nat → ClassId} {ca : Nat → Nat} {q : Nat} {r : Nat → Int32} {v : Int32} : ∀ nm, ∃ fs, cRow 1 cg ca nm q r = .inr (13, fs) ∧ 8 < fs.length ∧ cRow 1 cg ca nm q (upd r 8 v) = .inr (13, fs.set 8 (.int v)) := fun _ => ⟨_, rfl, Nat.le_of_ble_eq_true rfl, rfl⟩
theorem cw1 {cg : Nat → ClassId} {ca : Nat → Nat} {q : Nat} {r : Nat → Int32} : ∀ nm, ∃ fs, cRow 1 cg ca nm q r = .inr (13, fs) := fun _ => ⟨_, rfl⟩
theorem cv3_0 {cg : Nat → ClassId} {ca : Nat → Nat} {q : Nat} {r : Nat → Int32} : ∀ nm, ∃ fs, cRow 3 cg ca nm q r = .inr (1, fs) ∧ fs[0]? = some (.ref (ca 4)) := fun _ => ⟨_, rfl, rfl⟩
theorem cv3_2 {cg : Nat → ClassId} {ca : Nat → Nat} {q : Nat} {r : Nat → Int32} : ∀ nm, ∃ fs, cRow 3 cg ca nm q r = .inr (1, fs) ∧ fs[2]? = some (.int (r 2)) := fun _ => ⟨_, rfl, rfl⟩
theorem cs3_2 {cg : Nat → ClassId} {ca : Nat → Nat} {q : Nat} {r : Nat → Int32} {v : Int32} : ∀ nm, ∃ fs, cRow 3 cg ca nm q r = .inr (1, fs) ∧ 2 < fs.length ∧ cRow 3 cg ca nm q (upd r 2 v) = .inr (1, fs.set 2 (.int v)) := fun _ => ⟨_, rfl, Nat.le_of_ble_eq_true rfl, rfl⟩
theorem cv3_3 {cg : Nat → ClassId} {ca : Nat → Nat} {q : Nat} {r : Nat → Int32} : ∀ nm, ∃ fs, cRow 3 cg ca nm q r = .inr (1, fs) ∧ fs[3]? = some (.int (if r 3 < 0 then 0 else r 3)) := fun _ => ⟨_, rfl, rfl⟩
theorem cv3_1 {cg : Nat → ClassId} {ca : Nat → Nat} {q : Nat} {r : Nat → Int32} : ∀ nm, ∃ fs, cRow 3 cg ca nm q r = .inr (1, fs) ∧ fs[1]? = some (.int 0) := fun _ => ⟨_, rfl, rfl⟩
theorem cs3_3 {cg : Nat → ClassId} {ca : Nat → Nat} {q : Nat} {r : Nat → Int32} {v : Int32} (hv : ¬ v < 0) : ∀ nm, ∃ fs, cRow 3 cg ca nm q r = .inr (1, fs) ∧ 3 < fs.length ∧ cRow 3 cg ca nm q (upd r 3 v) = .inr (1, fs.set 3 (.int v)) := fun _ => ⟨_, rfl, Nat.le_of_ble_eq_true rfl, by show va_E_row3 cg ca (if v < 0 then 0 else v) (r 2) = _; rw [if_neg hv]; rfl⟩
theorem cw3 {cg : Nat → ClassId} {ca : Nat → Nat} {q : Nat} {r : Nat → Int32} : ∀ nm, ∃ fs, cRow 3 cg ca nm q r = .inr (1, fs) := fun _ => ⟨_, rfl⟩
theorem cv5_0 {cg : Nat → ClassId} {ca : Nat → Nat} {q : Nat} {r : Nat → Int32} : ∀ nm, ∃ fs, cRow 5 cg ca nm q r = .inr (8, fs) ∧ fs[0]? = some (.ref (ca 6)) := fun _ => ⟨_, rfl, rfl⟩
theorem cv5_1 {cg : Nat → ClassId} {ca : Nat → Nat} {q : Nat} {r : Nat → Int32} : ∀ nm, ∃ fs, cRow 5 cg ca nm q r = .inr (8, fs) ∧ fs[1]? = some (.int (r 1)) := fun _ => ⟨_, rfl, rfl⟩
theorem cs5_1 {cg : Nat → ClassId} {ca : Nat → Nat} {q : Nat} {r : Nat → Int32} {v : Int32} : ∀ nm, ∃ fs, cRow 5 cg ca nm q r = .inr (8, fs) ∧ 1 < fs.length ∧ cRow 5 cg ca nm q (upd r 1 v) = .inr (8, fs.set 1 (.int v)) := fun _ => ⟨_, rfl, Nat.le_of_ble_eq_true rfl, rfl⟩
theorem cw5 {cg : Nat → ClassId} {ca : Nat → Nat} {q : Nat} {r : Nat → Int32} : ∀ nm, ∃ fs, cRow 5 cg ca nm q r = .inr (8, fs) := fun _ => ⟨_, rfl⟩
theorem cv7_0 {cg : Nat → ClassId} {ca : Nat → Nat} {q : Nat} {r : Nat → Int32} : ∀ nm, ∃ fs, cRow 7 cg ca nm q r = .inr (11, fs) ∧ fs[0]? = some (.ref (ca 1)) := fun _ => ⟨_, rfl, rfl⟩
theorem cv7_1 {cg : Nat → ClassId} {ca : Nat → Nat} {q : Nat} {r : Nat → Int32} : ∀ nm, ∃ fs, cRow 7 cg ca nm q r = .inr (11, fs) ∧ fs[1]? = some (.ref (ca 48)) := fun _ => ⟨_, rfl, rfl⟩
theorem cw7 {cg : Nat → ClassId} {ca : Nat → Nat} {q : Nat} {r : Nat → Int32} : ∀ nm, ∃ fs, cRow 7 cg ca nm q r = .inr (11, fs) := fun _ => ⟨_, rfl⟩
theorem cv8_0 {cg : Nat → ClassId} {ca : Nat → Nat} {q : Nat} {r : Nat → Int32} : ∀ nm, ∃ fs, cRow 8 cg ca nm q r = .inr (10, fs) ∧ fs[0]? = some (.ref (ca 1)) := fun _ => ⟨_, rfl, rfl⟩
theorem cv8_1 {cg : Nat → ClassId} {ca : Nat → Nat} {q : Nat} {r : Nat → Int32} : ∀ nm, ∃ fs, cRow 8 cg ca nm q r = .inr (10, fs) ∧ fs[1]? = some (.ref (ca 13)) := fun _ => ⟨_, rfl, rfl⟩
theorem cv8_2 {cg : Nat → ClassId} {ca : Nat → Nat} {q : Nat} {r : Nat → Int32} : ∀ nm, ∃ fs, cRow 8 cg ca nm q r = .inr (10, fs) ∧ fs[2]? = some (.ref (ca 9)) := fun _ => ⟨_, rfl, rfl⟩
theorem cv8_3 {cg : Nat → ClassId} {ca : Nat → Nat} {q : Nat} {r : Nat → Int32} : ∀ nm, ∃ fs, cRow 8 cg ca nm q r = .inr (10, fs) ∧ fs[3]? = some (.ref (ca 10)) := fun _ => ⟨_, rfl, rfl⟩
theorem cv8_4 {cg : Nat → ClassId} {ca : Nat → Nat} {q : Nat} {r : Nat → Int32} : ∀ nm, ∃ fs, cRow 8 cg ca nm q r = .inr (10, fs) ∧ fs[4]? = some (.ref (ca 11)) := fun _ => ⟨_, rfl, rfl⟩
theorem cv8_5 {cg : Nat → ClassId} {ca : Nat → Nat} {q : Nat} {r : Nat → Int32} : ∀ nm, ∃ fs, cRow 8 cg ca nm q r = .inr (10, fs) ∧ fs[5]? = some (.int (r 5)) := fun _ => ⟨_, rfl, rfl⟩
theorem cs8_5 {cg : Nat → ClassId} {ca : Nat → Nat} {q : Nat} {r : Nat → Int32} {v : Int32} : ∀ nm, ∃ fs, cRow 8 cg ca nm q r = .inr (10, fs) ∧ 5 < fs.length ∧ cRow 8 cg ca nm q (upd r 5 v) = .inr (10, fs.set 5 (.int v)) := fun _ => ⟨_, rfl, Nat.le_of_ble_eq_true rfl, rfl⟩
theorem cw8 {cg : Nat → ClassId} {ca : Nat → Nat} {q : Nat} {r : Nat → Int32} : ∀ nm, ∃ fs, cRow 8 cg ca nm q r = .inr (10, fs) := fun _ => ⟨_, rfl⟩
theorem cv11_0 {cg : Nat → ClassId} {ca : Nat → Nat} {q : Nat} {r : Nat → Int32} : ∀ nm, ∃ fs, cRow 11 cg ca nm q r = .inr (7, fs) ∧ fs[0]? = some (.ref (ca (q + 1))) := fun _ => ⟨_, rfl, rfl⟩
theorem cv11_1 {cg : Nat → ClassId} {ca : Nat → Nat} {q : Nat} {r : Nat → Int32} : ∀ nm, ∃ fs, cRow 11 cg ca nm q r = .inr (7, fs) ∧ fs[1]? = some (.ref (ca (q + 2))) := fun _ => ⟨_, rfl, rfl⟩
theorem cv11_2 {cg : Nat → ClassId} {ca : Nat → Nat} {q : Nat} {r : Nat → Int32} : ∀ nm, ∃ fs, cRow 11 cg ca nm q r = .inr (7, fs) ∧ fs[2]? = some (.ref (ca (q + 3))) := fun _ => ⟨_, rfl, rfl⟩
theorem cv11_3 {cg : Nat → ClassId} {ca : Nat → Nat} {q : Nat} {r : Nat → Int32} : ∀ nm, ∃ fs, cRow 11 cg ca nm q r = .inr (7, fs) ∧ fs[3]? = some (.ref (ca (q + 4))) := fun _ => ⟨_, rfl, rfl⟩
theorem cv11_4 {cg : Nat → ClassId} {ca : Nat → Nat} {q : Nat} {r : Nat → Int32} : ∀ nm, ∃ fs, cRow 11 cg ca nm q r = .inr (7, fs) ∧ fs[4]? = some (.ref (ca (q + 8))) := fun _ => ⟨_, rfl, rfl⟩
theorem cv11_5 {cg : Nat → ClassId} {ca : Nat → Nat} {q : Nat} {r : Nat → Int32} : ∀ nm, ∃ fs, cRow 11 cg ca nm q r = .inr (7, fs) ∧ fs[5]? = some (.int (r 5)) := fun _ => ⟨_, rfl, rfl⟩
theorem cs11_5 {cg : Nat → ClassId} {ca : Nat → Nat} {q : Nat} {r : Nat → Int32} {v : Int32} : ∀ nm, ∃ fs, cRow 11 cg ca nm q r = .inr (7, fs) ∧ 5 < fs.length ∧ cRow 11 cg ca nm q (upd r 5 v) = .inr (7, fs.set 5 (.int v)) := fun _ => ⟨_, rfl, Nat.le_of_ble_eq_true rfl, rfl⟩
theorem cv11_6 {cg : Nat → ClassId} {ca : Nat → Nat} {q : Nat} {r : Nat → Int32} : ∀ nm, ∃ fs, cRow 11 cg ca nm q r = .inr (7, fs) ∧ fs[6]? = some (.int (r 6)) := fun _ => ⟨_, rfl, rfl⟩
theorem cs11_6 {cg : Nat → ClassId} {ca : Nat → Nat} {q : Nat} {r : Nat → Int32} {v : Int32} : ∀ nm, ∃ fs, cRow 11 cg ca nm q r = .inr (7, fs) ∧ 6 < fs.length ∧ cRow 11 cg ca nm q (upd r 6 v) = .inr (7, fs.set 6 (.int v)) := fun _ => ⟨_, rfl, Nat.le_of_ble_eq_true rfl, rfl⟩
theorem cv11_7 {cg : Nat → ClassId} {ca : Nat → Nat} {q : Nat} {r : Nat → Int32} : ∀ nm, ∃ fs, cRow 11 cg ca nm q r = .inr (7, fs) ∧ fs[7]? = some (.int (r 7)) := fun _ => ⟨_, rfl, rfl⟩
theorem cs11_7 {cg : Nat → ClassId} {ca : Nat → Nat} {q : Nat} {r : Nat → Int32} {v : Int32} : ∀ nm, ∃ fs, cRow 11 cg ca nm q r = .inr (7, fs) ∧ 7 < fs.length ∧ cRow 11 cg ca nm q (upd r 7 v) = .inr (7, fs.set 7 (.int v)) := fun _ => ⟨_, rfl, Nat.le_of_ble_eq_true rfl, rfl⟩
theorem cv11_8 {cg : Nat → ClassId} {ca : Nat → Nat} {q : Nat} {r : Nat → Int32} : ∀ nm, ∃ fs, cRow 11 cg ca nm q r = .inr (7, fs) ∧ fs[8]? = some (.int (r 8)) := fun _ => ⟨_, rfl, rfl⟩
theorem cs11_8 {cg : Nat → ClassId} {ca : Nat → Nat} {q : Nat} {r : Nat → Int32} {v : Int32} : ∀ nm, ∃ fs, cRow 11 cg ca nm q r = .inr (7, fs) ∧ 8 < fs.length ∧ cRow 11 cg ca nm q (upd r 8 v) = .inr (7, fs.set 8 (.int v)) := fun _ => ⟨_, rfl, Nat.le_of_ble_eq_true rfl, rfl⟩
theorem cv11_9 {cg : Nat → ClassId} {ca : Nat → Nat} {q : Nat} {r : Nat → Int32} : ∀ nm, ∃ fs, cRow 11 cg ca nm q r = .inr (7, fs) ∧ fs[9]? = some (.int (r 9)) := fun _ => ⟨_, rfl, rfl⟩
theorem cs11_9 {cg : Nat → ClassId} {ca : Nat → Nat} {q : Nat} {r : Nat → Int32} {v : Int32} : ∀ nm, ∃ fs, cRow 11 cg ca nm q r = .inr (7, fs) ∧ 9 < fs.length ∧ cRow 11 cg ca nm q (upd r 9 v) = .inr (7, fs.set 9 (.int v)) := fun _ => ⟨_, rfl, Nat.le_of_ble_eq_true rfl, rfl⟩
theorem cv11_10 {cg : Nat → ClassId} {ca : Nat → Nat} {q : Nat} {r : Nat → Int32} : ∀ nm, ∃ fs, cRow 11 cg ca nm q r = .inr (7, fs) ∧ fs[10]? = some (.int (r 10)) := fun _ => ⟨_, rfl, rfl⟩
theorem cs11_10 {cg : Nat → ClassId} {ca : Nat → Nat} {q : Nat} {r : Nat → Int32} {v : Int32} : ∀ nm, ∃ fs, cRow 11 cg ca nm q r = .inr (7, fs) ∧ 10 < fs.length ∧ cRow 11 cg ca nm q (upd r 10 v) = .inr (7, fs.set 10 (.int v)) := fun _ => ⟨_, rfl, Nat.le_of_ble_eq_true rfl, rfl⟩
theorem cv11_11 {cg : Nat → ClassId} {ca : Nat → Nat} {q : Nat} {r : Nat → Int32} : ∀ nm, ∃ fs, cRow 11 cg ca nm q r = .inr (7, fs) ∧ fs[11]? = some (.int (r 11)) := fun _ => ⟨_, rfl, rfl⟩
theorem cs11_11 {cg : Nat → ClassId} {ca : Nat → Nat} {q : Nat} {r : Nat → Int32} {v : Int32} : ∀ nm, ∃ fs, cRow 11 cg ca nm q r = .inr (7, fs) ∧ 11 < fs.length ∧ cRow 11 cg ca nm q (upd r 11 v) = .inr (7, fs.set 11 (.int v)) := fun _ => ⟨_, rfl, Nat.le_of_ble_eq_true rfl, rfl⟩
theorem cv11_12 {cg : Nat → ClassId} {ca : Nat → Nat} {q : Nat} {r : Nat → Int32} : ∀ nm, ∃ fs, cRow 11 cg ca nm q r = .inr (7, fs) ∧ fs[12]? = some (.int (r 12)) := fun _ => ⟨_, rfl, rfl⟩
theorem cs11_12 {cg : Nat → ClassId} {ca : Nat → Nat} {q : Nat} {r : Nat → Int32} {v : Int32} : ∀ nm, ∃ fs, cRow 11 cg ca nm q r = .inr (7, fs) ∧ 12 < fs.length ∧ cRow 11 cg ca nm q (upd r 12 v) = .inr (7, fs.set 12 (.int v)) := fun _ => ⟨_, rfl, Nat.le_of_ble_eq_true rfl, rfl⟩
theorem cw11 {cg : Nat → ClassId} {ca : Nat → Nat} {q : Nat} {r : Nat → Int32} : ∀ nm, ∃ fs, cRow 11 cg ca nm q r = .inr (7, fs) := fun _ => ⟨_, rfl⟩
theorem cv15_0 {cg : Nat → ClassId} {ca : Nat → Nat} {q : Nat} {r : Nat → Int32} : ∀ nm, ∃ fs, cRow 15 cg ca nm q r = .inr (6, fs) ∧ fs[0]? = some (.ref (ca (q + 1))) := fun _ => ⟨_, rfl, rfl⟩
theorem cv15_1 {cg : Nat → ClassId} {ca : Nat → Nat} {q : Nat} {r : Nat → Int32} : ∀ nm, ∃ fs, cRow 15 cg ca nm q r = .inr (6, fs) ∧ fs[1]? = some (.ref (ca (q + 2))) := fun _ => ⟨_, rfl, rfl⟩
theorem cv15_2 {cg : Nat → ClassId} {ca : Nat → Nat} {q : Nat} {r : Nat → Int32} : ∀ nm, ∃ fs, cRow 15 cg ca nm q r = .inr (6, fs) ∧ fs[2]? = some (.ref (ca (q + 3))) := fun _ => ⟨_, rfl, rfl⟩
theorem cv15_3 {cg : Nat → ClassId} {ca : Nat → Nat} {q : Nat} {r : Nat → Int32} : ∀ nm, ∃ fs, cRow 15 cg ca nm q r = .inr (6, fs) ∧ fs[3]? = some (.int (r 3)) := fun _ => ⟨_, rfl, rfl⟩
theorem cs15_3 {cg : Nat → ClassId} {ca : Nat → Nat} {q : Nat} {r : Nat → Int32} {v : Int32} : ∀ nm, ∃ fs, cRow 15 cg ca nm q r = .inr (6, fs) ∧ 3 < fs.length ∧ cRow 15 cg ca nm q (upd r 3 v) = .inr (6, fs.set 3 (.int v)) := fun _ => ⟨_, rfl, Nat.le_of_ble_eq_true rfl, rfl⟩
theorem cv15_4 {cg : Nat → ClassId} {ca : Nat → Nat} {q : Nat} {r : Nat → Int32} : ∀ nm, ∃ fs, cRow 15 cg ca nm q r = .inr (6, fs) ∧ fs[4]? = some (.int (r 4)) := fun _ => ⟨_, rfl, rfl⟩
theorem cs15_4 {cg : Nat → ClassId} {ca : Nat → Nat} {q : Nat} {r : Nat → Int32} {v : Int32} : ∀ nm, ∃ fs, cRow 15 cg ca nm q r = .inr (6, fs) ∧ 4 < fs.length ∧ cRow 15 cg ca nm q (upd r 4 v) = .inr (6, fs.set 4 (.int v)) := fun _ => ⟨_, rfl, Nat.le_of_ble_eq_true rfl, rfl⟩
theorem cw15 {cg : Nat → ClassId} {ca : Nat → Nat} {q : Nat} {r : Nat → Int32} : ∀ nm, ∃ fs, cRow 15 cg ca nm q r = .inr (6, fs) := fun _ => ⟨_, rfl⟩
theorem cv17_0 {cg : Nat → ClassId} {ca : Nat → Nat} {q : Nat} {r : Nat → Int32} : ∀ nm, ∃ fs, cRow 17 cg ca nm q r = .inr (14, fs) ∧ fs[0]? = some (.int (r 0)) := fun _ => ⟨_, rfl, rfl⟩
theorem cs17_0 {cg : Nat → ClassId} {ca : Nat → Nat} {q : Nat} {r : Nat → Int32} {v : Int32} : ∀ nm, ∃ fs, cRow 17 cg ca nm q r = .inr (14, fs) ∧ 0 < fs.length ∧ cRow 17 cg ca nm q (upd r 0 v) = .inr (14, fs.set 0 (.int v)) := fun _ => ⟨_, rfl, Nat.le_of_ble_eq_true rfl, rfl⟩
theorem cv17_1 {cg : Nat → ClassId} {ca : Nat → Nat} {q : Nat} {r : Nat → Int32} : ∀ nm, ∃ fs, cRow 17 cg ca nm q r = .inr (14, fs) ∧ fs[1]? = some (.int (r 1)) := fun _ => ⟨_, rfl, rfl⟩
theorem cs17_1 {cg : Nat → ClassId} {ca : Nat → Nat} {q : Nat} {r : Nat → Int32} {v : Int32} : ∀ nm, ∃ fs, cRow 17 cg ca nm q r = .inr (14, fs) ∧ 1 < fs.length ∧ cRow 17 cg ca nm q (upd r 1 v) = .inr (14, fs.set 1 (.int v)) := fun _ => ⟨_, rfl, Nat.le_of_ble_eq_true rfl, rfl⟩
theorem cv17_2 {cg : Nat → ClassId} {ca : Nat → Nat} {q : Nat} {r : Nat → Int32} : ∀ nm, ∃ fs, cRow 17 cg ca nm q r = .inr (14, fs) ∧ fs[2]? = some (.int (r 2)) := fun _ => ⟨_, rfl, rfl⟩
theorem cs17_2 {cg : Nat → ClassId} {ca : Nat → Nat} {q : Nat} {r : Nat → Int32} {v : Int32} : ∀ nm, ∃ fs, cRow 17 cg ca nm q r = .inr (14, fs) ∧ 2 < fs.length ∧ cRow 17 cg ca nm q (upd r 2 v) = .inr (14, fs.set 2 (.int v)) := fun _ => ⟨_, rfl, Nat.le_of_ble_eq_true rfl, rfl⟩
theorem cv17_3 {cg : Nat → ClassId} {ca : Nat → Nat} {q : Nat} {r : Nat → Int32} : ∀ nm, ∃ fs, cRow 17 cg ca nm q r = .inr (14, fs) ∧ fs[3]? = some (.int (r 3)) := fun _ => ⟨_, rfl, rfl⟩
theorem cs17_3 {cg : Nat → ClassId} {ca : Nat → Nat} {q : Nat} {r : Nat → Int32} {v : Int32} : ∀ nm, ∃ fs, cRow 17 cg ca nm q r = .inr (14, fs) ∧ 3 < fs.length ∧ cRow 17 cg ca nm q (upd r 3 v) = .inr (14, fs.set 3 (.int v)) := fun _ => ⟨_, rfl, Nat.le_of_ble_eq_true rfl, rfl⟩
theorem cv17_4 {cg : Nat → ClassId} {ca : Nat → Nat} {q : Nat} {r : Nat → Int32} : ∀ nm, ∃ fs, cRow 17 cg ca nm q r = .inr (14, fs) ∧ fs[4]? = some (.int (r 4)) := fun _ => ⟨_, rfl, rfl⟩
theorem cs17_4 {cg : Nat → ClassId} {ca : Nat → Nat} {q : Nat} {r : Nat → Int32} {v : Int32} : ∀ nm, ∃ fs, cRow 17 cg ca nm q r = .inr (14, fs) ∧ 4 < fs.length ∧ cRow 17 cg ca nm q (upd r 4 v) = .inr (14, fs.set 4 (.int v)) := fun _ => ⟨_, rfl, Nat.le_of_ble_eq_true rfl, rfl⟩
theorem cv17_5 {cg : Nat → ClassId} {ca : Nat → Nat} {q : Nat} {r : Nat → Int32} : ∀ nm, ∃ fs, cRow 17 cg ca nm q r = .inr (14, fs) ∧ fs[5]? = some (.int (r 5)) := fun _ => ⟨_, rfl, rfl⟩
theorem cs17_5 {cg : Nat → ClassId} {ca : Nat → Nat} {q : Nat} {r : Nat → Int32} {v : Int32} : ∀ nm, ∃ fs, cRow 17 cg ca nm q r = .inr (14, fs) ∧ 5 < fs.length ∧ cRow 17 cg ca nm q (upd r 5 v) = .inr (14, fs.set 5 (.int v)) := fun _ => ⟨_, rfl, Nat.le_of_ble_eq_true rfl, rfl⟩
theorem cv17_6 {cg : Nat → ClassId} {ca : Nat → Nat} {q : Nat} {r : Nat → Int32} : ∀ nm, ∃ fs, cRow 17 cg ca nm q r = .inr (14, fs) ∧ fs[6]? = some (.int (r 6)) := fun _ => ⟨_, rfl, rfl⟩
theorem cs17_6 {cg : Nat → ClassId} {ca : Nat → Nat} {q : Nat} {r : Nat → Int32} {v : Int32} : ∀ nm, ∃ fs, cRow 17 cg ca nm q r = .inr (14, fs) ∧ 6 < fs.length ∧ cRow 17 cg ca nm q (upd r 6 v) = .inr (14, fs.set 6 (.int v)) := fun _ => ⟨_, rfl, Nat.le_of_ble_eq_true rfl, rfl⟩
theorem cv17_7 {cg : Nat → ClassId} {ca : Nat → Nat} {q : Nat} {r : Nat → Int32} : ∀ nm, ∃ fs, cRow 17 cg ca nm q r = .inr (14, fs) ∧ fs[7]? = some (.int (r 7)) := fun _ => ⟨_, rfl, rfl⟩
theorem cs17_7 {cg : Nat → ClassId} {ca : Nat → Nat} {q : Nat} {r : Nat → Int32} {v : Int32} : ∀ nm, ∃ fs, cRow 17 cg ca nm q r = .inr (14, fs) ∧ 7 < fs.length ∧ cRow 17 cg ca nm q (upd r 7 v) = .inr (14, fs.set 7 (.int v)) := fun _ => ⟨_, rfl, Nat.le_of_ble_eq_true rfl, rfl⟩
theorem cw17 {cg : Nat → ClassId} {ca : Nat → Nat} {q : Nat} {r : Nat → Int32} : ∀ nm, ∃ fs, cRow 17 cg ca nm q r = .inr (14, fs) := fun _ => ⟨_, rfl⟩
theorem cv18_0 {cg : Nat → ClassId} {ca : Nat → Nat} {q : Nat} {r : Nat → Int32} : ∀ nm, ∃ fs, cRow 18 cg ca nm q r = .inr (5, fs) ∧ fs[0]? = some (.ref nm) := fun _ => ⟨_, rfl, rfl⟩
theorem cs18_0 {cg : Nat → ClassId} {ca : Nat → Nat} {q a : Nat} {r : Nat → Int32} : ∀ nm, ∃ fs, cRow 18 cg ca nm q r = .inr (5, fs) ∧ 0 < fs.length ∧ cRow 18 cg ca a q r = .inr (5, fs.set 0 (.ref a)) := fun _ => ⟨_, rfl, Nat.le_of_ble_eq_true rfl, rfl⟩
theorem cv18_1 {cg : Nat → ClassId} {ca : Nat → Nat} {q : Nat} {r : Nat → Int32} : ∀ nm, ∃ fs, cRow 18 cg ca nm q r = .inr (5, fs) ∧ fs[1]? = some (.int (r 1)) := fun _ => ⟨_, rfl, rfl⟩
theorem cs18_1 {cg : Nat → ClassId} {ca : Nat → Nat} {q : Nat} {r : Nat → Int32} {v : Int32} : ∀ nm, ∃ fs, cRow 18 cg ca nm q r = .inr (5, fs) ∧ 1 < fs.length ∧ cRow 18 cg ca nm q (upd r 1 v) = .inr (5, fs.set 1 (.int v)) := fun _ => ⟨_, rfl, Nat.le_of_ble_eq_true rfl, rfl⟩
theorem cv18_2 {cg : Nat → ClassId} {ca : Nat → Nat} {q : Nat} {r : Nat → Int32} : ∀ nm, ∃ fs, cRow 18 cg ca nm q r = .inr (5, fs) ∧ fs[2]? = some (.int (r 2)) := fun _ => ⟨_, rfl, rfl⟩
theorem cs18_2 {cg : Nat → ClassId} {ca : Nat → Nat} {q : Nat} {r : Nat → Int32} {v : Int32} : ∀ nm, ∃ fs, cRow 18 cg ca nm q r = .inr (5, fs) ∧ 2 < fs.length ∧ cRow 18 cg ca nm q (upd r 2 v) = .inr (5, fs.set 2 (.int v)) := fun _ => ⟨_, rfl, Nat.le_of_ble_eq_true rfl, rfl⟩
theorem cv18_3 {cg : Nat → ClassId} {ca : Nat → Nat} {q : Nat} {r : Nat → Int32} : ∀ nm, ∃ fs, cRow 18 cg ca nm q r = .inr (5, fs) ∧ fs[3]? = some (.int (r 3)) := fun _ => ⟨_, rfl, rfl⟩
theorem cs18_3 {cg : Nat → ClassId} {ca : Nat → Nat} {q : Nat} {r : Nat → Int32} {v : Int32} : ∀ nm, ∃ fs, cRow 18 cg ca nm q r = .inr (5, fs) ∧ 3 < fs.length ∧ cRow 18 cg ca nm q (upd r 3 v) = .inr (5, fs.set 3 (.int v)) := fun _ => ⟨_, rfl, Nat.le_of_ble_eq_true rfl, rfl⟩
theorem cv18_4 {cg : Nat → ClassId} {ca : Nat → Nat} {q : Nat} {r : Nat → Int32} : ∀ nm, ∃ fs, cRow 18 cg ca nm q r = .inr (5, fs) ∧ fs[4]? = some (.int (r 4)) := fun _ => ⟨_, rfl, rfl⟩
theorem cs18_4 {cg : Nat → ClassId} {ca : Nat → Nat} {q : Nat} {r : Nat → Int32} {v : Int32} : ∀ nm, ∃ fs, cRow 18 cg ca nm q r = .inr (5, fs) ∧ 4 < fs.length ∧ cRow 18 cg ca nm q (upd r 4 v) = .inr (5, fs.set 4 (.int v)) := fun _ => ⟨_, rfl, Nat.le_of_ble_eq_true rfl, rfl⟩
theorem cv18_5 {cg : Nat → ClassId} {ca : Nat → Nat} {q : Nat} {r : Nat → Int32} : ∀ nm, ∃ fs, cRow 18 cg ca nm q r = .inr (5, fs) ∧ fs[5]? = some (.int (r 5)) := fun _ => ⟨_, rfl, rfl⟩
theorem cs18_5 {cg : Nat → ClassId} {ca : Nat → Nat} {q : Nat} {r : Nat → Int32} {v : Int32} : ∀ nm, ∃ fs, cRow 18 cg ca nm q r = .inr (5, fs) ∧ 5 < fs.length ∧ cRow 18 cg ca nm q (upd r 5 v) = .inr (5, fs.set 5 (.int v)) := fun _ => ⟨_, rfl, Nat.le_of_ble_eq_true rfl, rfl⟩
theorem cw18 {cg : Nat → ClassId} {ca : Nat → Nat} {q : Nat} {r : Nat → Int32} : ∀ nm, ∃ fs, cRow 18 cg ca nm q r = .inr (5, fs) := fun _ => ⟨_, rfl⟩
theorem cv19_0 {cg : Nat → ClassId} {ca : Nat → Nat} {q : Nat} {r : Nat → Int32} : ∀ nm, ∃ fs, cRow 19 cg ca nm q r = .inr (9, fs) ∧ fs[0]? = some (.ref nm) := fun _ => ⟨_, rfl, rfl⟩
theorem cs19_0 {cg : Nat → ClassId} {ca : Nat → Nat} {q a : Nat} {r : Nat → Int32} : ∀ nm, ∃ fs, cRow 19 cg ca nm q r = .inr (9, fs) ∧ 0 < fs.length ∧ cRow 19 cg ca a q r = .inr (9, fs.set 0 (.ref a)) := fun _ => ⟨_, rfl, Nat.le_of_ble_eq_true rfl, rfl⟩
theorem cv19_1 {cg : Nat → ClassId} {ca : Nat → Nat} {q : Nat} {r : Nat → Int32} : ∀ nm, ∃ fs, cRow 19 cg ca nm q r = .inr (9, fs) ∧ fs[1]? = some (.int (r 1)) := fun _ => ⟨_, rfl, rfl⟩
theorem cs19_1 {cg : Nat → ClassId} {ca : Nat → Nat} {q : Nat} {r : Nat → Int32} {v : Int32} : ∀ nm, ∃ fs, cRow 19 cg ca nm q r = .inr (9, fs) ∧ 1 < fs.length ∧ cRow 19 cg ca nm q (upd r 1 v) = .inr (9, fs.set 1 (.int v)) := fun _ => ⟨_, rfl, Nat.le_of_ble_eq_true rfl, rfl⟩
theorem cv19_2 {cg : Nat → ClassId} {ca : Nat → Nat} {q : Nat} {r : Nat → Int32} : ∀ nm, ∃ fs, cRow 19 cg ca nm q r = .inr (9, fs) ∧ fs[2]? = some (.int (r 2)) := fun _ => ⟨_, rfl, rfl⟩
theorem cs19_2 {cg : Nat → ClassId} {ca : Nat → Nat} {q : Nat} {r : Nat → Int32} {v : Int32} : ∀ nm, ∃ fs, cRow 19 cg ca nm q r = .inr (9, fs) ∧ 2 < fs.length ∧ cRow 19 cg ca nm q (upd r 2 v) = .inr (9, fs.set 2 (.int v)) := fun _ => ⟨_, rfl, Nat.le_of_ble_eq_true rfl, rfl⟩
theorem cv19_3 {cg : Nat → ClassId} {ca : Nat → Nat} {q : Nat} {r : Nat → Int32} : ∀ nm, ∃ fs, cRow 19 cg ca nm q r = .inr (9, fs) ∧ fs[3]? = some (.int (r 3)) := fun _ => ⟨_, rfl, rfl⟩
theorem cs19_3 {cg : Nat → ClassId} {ca : Nat → Nat} {q : Nat} {r : Nat → Int32} {v : Int32} : ∀ nm, ∃ fs, cRow 19 cg ca nm q r = .inr (9, fs) ∧ 3 < fs.length ∧ cRow 19 cg ca nm q (upd r 3 v) = .inr (9, fs.set 3 (.int v)) := fun _ => ⟨_, rfl, Nat.le_of_ble_eq_true rfl, rfl⟩
theorem cv19_4 {cg : Nat → ClassId} {ca : Nat → Nat} {q : Nat} {r : Nat → Int32} : ∀ nm, ∃ fs, cRow 19 cg ca nm q r = .inr (9, fs) ∧ fs[4]? = some (.int (r 4)) := fun _ => ⟨_, rfl, rfl⟩
theorem cs19_4 {cg : Nat → ClassId} {ca : Nat → Nat} {q : Nat} {r : Nat → Int32} {v : Int32} : ∀ nm, ∃ fs, cRow 19 cg ca nm q r = .inr (9, fs) ∧ 4 < fs.length ∧ cRow 19 cg ca nm q (upd r 4 v) = .inr (9, fs.set 4 (.int v)) := fun _ => ⟨_, rfl, Nat.le_of_ble_eq_true rfl, rfl⟩
theorem cw19 {cg : Nat → ClassId} {ca : Nat → Nat} {q : Nat} {r : Nat → Int32} : ∀ nm, ∃ fs, cRow 19 cg ca nm q r = .inr (9, fs) := fun _ => ⟨_, rfl⟩
theorem cv20_0 {cg : Nat → ClassId} {ca : Nat → Nat} {q : Nat} {r : Nat → Int32} : ∀ nm, ∃ fs, cRow 20 cg ca nm q r = .inr (12, fs) ∧ fs[0]? = some (.int (r 0)) := fun _ => ⟨_, rfl, rfl⟩
theorem cs20_0 {cg : Nat → ClassId} {ca : Nat → Nat} {q : Nat} {r : Nat → Int32} {v : Int32} : ∀ nm, ∃ fs, cRow 20 cg ca nm q r = .inr (12, fs) ∧ 0 < fs.length ∧ cRow 20 cg ca nm q (upd r 0 v) = .inr (12, fs.set 0 (.int v)) := fun _ => ⟨_, rfl, Nat.le_of_ble_eq_true rfl, rfl⟩
theorem cv20_1 {cg : Nat → ClassId} {ca : Nat → Nat} {q : Nat} {r : Nat → Int32} : ∀ nm, ∃ fs, cRow 20 cg ca nm q r = .inr (12, fs) ∧ fs[1]? = some (.int (r 1)) := fun _ => ⟨_, rfl, rfl⟩
theorem cs20_1 {cg : Nat → ClassId} {ca : Nat → Nat} {q : Nat} {r : Nat → Int32} {v : Int32} : ∀ nm, ∃ fs, cRow 20 cg ca nm q r = .inr (12, fs) ∧ 1 < fs.length ∧ cRow 20 cg ca nm q (upd r 1 v) = .inr (12, fs.set 1 (.int v)) := fun _ => ⟨_, rfl, Nat.le_of_ble_eq_true rfl, rfl⟩
theorem cw20 {cg : Nat → ClassId} {ca : Nat → Nat} {q : Nat} {r : Nat → Int32} : ∀ nm, ∃ fs, cRow 20 cg ca nm q r = .inr (12, fs) := fun _ => ⟨_, rfl⟩
section CCOPY
variable {p : Program} {l : Launch} {e : Env} {R : Room} {s : State} {m : MethodId} {args : Array Value} {below : List Frame} {meth : Method} {c : Code} {H : Heap} {locs : List Loc} {cells slots : Nat} {Q : State → Prop}
variable {cc : ByteArray} {pc nL : Nat} {ls : Array Slot} {rest : List Value} {dC : Nat → ClassId} {dI : Nat → Nat → Nat} {cg : Nat → ClassId} {kA : String → Nat → Nat} {ca nA : Nat → Nat} {S : CS} {own : String}
/-- System.arraycopy from the first places of an array of ints to the first of another -/
theorem cr_cpyT {ty : FieldType} (hty : refKind ty = false) {a0 a n0 n1 : Nat} {c0 c1 : ClassId} {f g : Nat → Int32} {index : Nat} (X : gX p s m args c cc nL own (kR kTab kA)) (hls : ls.size = nL) (hlink : Cond.methodLink own index arraycopyName ∈ TBG) (hnat : Cond.native arraycopyName ∈ TBG) (hstat : Cond.static arraycopyName ∈ TBG) (hini : Cond.initialized "java/lang/System" ∈ TBG)
    (t0 : ArrOfT s c0 ty) (t1 : ArrOfT s c1 ty) (ha0 : H[a0]? = some (vp_cell c0 (n0, .inl f))) (ha1 : H[a]? = some (vp_cell c1 (n1, .inl g))) {k : Int32} (h4 : k.toNatClampNeg ≤ n0) (h5 : k.toNatClampNeg ≤ n1) (h3 : ¬ k < 0) (hfit : ∀ i : Nat, i < k.toNatClampNeg → fits ty (.int (f i)) = true)
    (hframes : 1 ≤ R.frames) (hlocals : (rest.map fun v => v.category).sum + (nativeFrameWords "java/lang/System" "arraycopy" 5 + 11) ≤ R.locals) (hdg : decode cc pc = .ok (.invokestatic index, 3))
    (kk : ∀ (H1 : Heap) (L : List Loc), H1[a]? = some (vp_cell c1 (n1, .inl (va_cpy f g 0 0 k.toNatClampNeg))) → H1.size = H.size → (∀ q : Nat, q ≠ a → H1[q]? = H[q]?) → (∀ z ∈ L, z.base = a) → W p l e R s m args below meth c H1 (locs ++ L) cells slots Q (F0 m (pc + 3) ls rest)) : W p l e R s m args below meth c H locs cells slots Q (F0 m pc ls (.int k :: .int 0 :: .ref a :: .int 0 :: .ref a0 :: rest)) := by
  intro U hU Y
  subst hU
  have pos : 0 ≤ k.toInt := by
    rw [Int32.lt_iff_toInt_lt, Int32.toInt_zero] at h3
    omega
  have ck : (k.toNatClampNeg : Int) = k.toInt := Int.toNat_of_nonneg pos
  have room : ∀ {d : ClassId} {n : Nat} {r : Nat → Int32}, k.toNatClampNeg ≤ n → ¬ (0 : Int32).toInt + k.toInt > ((vp_cell d (n, .inl r)).slots.size : Int) := fun {d n r} hn => by
    show ¬ _ > ((arrV d n fun j => .int (r j)).slots.size : Int)
    rw [arrV_size, Int32.toInt_zero]
    omega
  have src : ∀ i : Nat, i < k.toNatClampNeg → (vp_cell c0 (n0, .inl f)).slots.getD ((0 : Int32).toNatClampNeg + i) .null = .int (f i) := fun i hi => by
    rw [show (0 : Int32).toNatClampNeg + i = i from Nat.zero_add i, Array.getD_eq_getD_getElem?]
    show ((arrV c0 n0 fun j => .int (f j)).slots[i]?).getD _ = _
    rw [arrV_read _ _ (Nat.lt_of_lt_of_le hi h4)]
    rfl
  obtain ⟨-, K0, b0, m0, b1⟩ := t0 n0 fun j => .int (f j)
  obtain ⟨-, K1, b2, m1, b3⟩ := t1 n1 fun j => .int (g j)
  obtain ⟨vm, S', go⟩ := Y.arraycopy X.hx X.hown (X.hts _ hlink) (X.hts _ hnat) (X.hts _ hstat) (X.hts _ hini) (srcPos := 0) (destPos := 0) (n := k) ha0 ha1 nofun nofun nofun nofun b0 b2 b1 b3 (by simp [hty]) (by decide) (by decide) h3 (room h4) (room h5)
    (fun _ _ i hi => by
      rw [src i hi]
      exact ⟨hfit i hi, trivial⟩) (g := F0 m pc ls (.int k :: .int 0 :: .ref a :: .int 0 :: .ref a0 :: rest)) rfl (hls.trans X.hml.symm) rfl (X.hb ▸ hdg) hframes (by show 2 * 0 + _ + _ ≤ _; rw [Nat.mul_zero, Nat.zero_add]; exact hlocals)
  have done : copied (vp_cell c0 (n0, .inl f)) (vp_cell c1 (n1, .inl g)) 0 0 k = vp_cell c1 (n1, .inl (va_cpy f g 0 0 k.toNatClampNeg)) := va_copied (fun z => Value.int z) c0 c1 f g ((Nat.zero_add _).symm ▸ h4)
  rw [done] at S' go
  have inH := (Array.getElem?_eq_some_iff.mp ha1).1
  obtain ⟨V, p1, p2⟩ := kk _ _ (by show (U.heap.setIfInBounds a _)[a]? = _; rw [Array.getElem?_setIfInBounds_self_of_lt inH]) Array.size_setIfInBounds (fun q hq => Array.getElem?_setIfInBounds_ne (Ne.symm hq)) (fun z hz => (List.mem_map.mp hz).elim fun _ w => w.2 ▸ rfl) _ rfl S'
  exact ⟨V, go _ p1, p2⟩
theorem cr_copyO {a0 a n0 n1 : Nat} {c0 c1 : ClassId} {f g : Nat → Int32} {index : Nat} (X : gX p s m args c cc nL own (kR kTab kA)) (hls : ls.size = nL) (hlink : Cond.methodLink own index arraycopyName ∈ TBG) (hnat : Cond.native arraycopyName ∈ TBG) (hstat : Cond.static arraycopyName ∈ TBG) (hini : Cond.initialized "java/lang/System" ∈ TBG)
    (t0 : ArrOfT s c0 .int) (t1 : ArrOfT s c1 .int) (ha0 : H[a0]? = some (vp_cell c0 (n0, .inl f))) (ha1 : H[a]? = some (vp_cell c1 (n1, .inl g))) {k : Int32} (h4 : k.toNatClampNeg ≤ n0) (h5 : k.toNatClampNeg ≤ n1) (h3 : ¬ k < 0)
    (hframes : 1 ≤ R.frames) (hlocals : (rest.map fun v => v.category).sum + (nativeFrameWords "java/lang/System" "arraycopy" 5 + 11) ≤ R.locals) (hdg : decode cc pc = .ok (.invokestatic index, 3))
    (kk : ∀ (H1 : Heap) (L : List Loc), H1[a]? = some (vp_cell c1 (n1, .inl (va_cpy f g 0 0 k.toNatClampNeg))) → H1.size = H.size → (∀ q : Nat, q ≠ a → H1[q]? = H[q]?) → (∀ z ∈ L, z.base = a) → W p l e R s m args below meth c H1 (locs ++ L) cells slots Q (F0 m (pc + 3) ls rest)) : W p l e R s m args below meth c H locs cells slots Q (F0 m pc ls (.int k :: .int 0 :: .ref a :: .int 0 :: .ref a0 :: rest)) := cr_cpyT rfl X hls hlink hnat hstat hini t0 t1 ha0 ha1 h4 h5 h3 (fun _ _ => rfl) hframes hlocals hdg kk
theorem cr_copy {q0 q1 kd n index : Nat} {k : Int32} (X : gX p s m args c cc nL own (kR kTab kA)) (hls : ls.size = nL) (hP : cP dC dI cg kA ca S s H) (hS : va_S (Fr (cΩ ca) s.heap.size) s.heap H locs) (hk0 : kc q0 = kd) (hk1 : kc q1 = kd) (h9 : Nat.blt kd 99 = true) (hr : ∀ (q nm : Nat) (r : Nat → Int32), cRow kd cg ca nm q r = .inl (cg 0, n, .inl r)) (hlink : Cond.methodLink own index arraycopyName ∈ TBG) (hnat : Cond.native arraycopyName ∈ TBG) (hstat : Cond.static arraycopyName ∈ TBG) (hini : Cond.initialized "java/lang/System" ∈ TBG) (h3 : ¬ k < 0) (h4 : k.toNatClampNeg ≤ n)
    (hframes : 1 ≤ R.frames) (hlocals : (rest.map fun v => v.category).sum + (nativeFrameWords "java/lang/System" "arraycopy" 5 + 11) ≤ R.locals) (hdg : decode cc pc = .ok (.invokestatic index, 3))
    (kk : ∀ (H1 : Heap) (locs1 : List Loc), cP dC dI cg kA ca (va_up S.1 q1 (va_cpy (S.1 q0) (S.1 q1) 0 0 k.toNatClampNeg), S.2) s H1 → va_S (Fr (cΩ ca) s.heap.size) s.heap H1 locs1 → W p l e R s m args below meth c H1 locs1 cells slots Q (F0 m (pc + 3) ls rest)) : W p l e R s m args below meth c H locs cells slots Q (F0 m pc ls (.int k :: .int 0 :: .ref (ca q1) :: .int 0 :: .ref (ca q0) :: rest)) := by
  obtain ⟨nA, hN⟩ := hP
  have hq0 := kc_lt hk0 h9
  have hq1 := kc_lt hk1 h9
  have e0 := hN.1 q0 hq0
  have e1 := hN.1 q1 hq1
  rw [hk0, hr] at e0
  rw [hk1, hr] at e1
  have t0 : ArrOfT s (cg 0) .int := (hN.2.1.2 0 (cg 0, .int) rfl).1
  refine cr_copyO X hls hlink hnat hstat hini t0 t0 e0 e1 h4 h4 h3 hframes hlocals hdg (fun H1 L g1 g2 g3 g4 => ?_)
  have g1 : va_at (dC, dI) vwCl (ca q1, cRow (kc q1) cg ca (nA q1) q1 (va_cpy (S.1 q0) (S.1 q1) 0 0 k.toNatClampNeg)) H1 := by rw [hk1, hr]; exact g1
  refine kk H1 _ ⟨nA, cN_up hN hq1 g1 g3⟩ ⟨by rw [g2]; exact hS.1, fun q h1 h2 => ?_, fun z hz => ?_⟩
  · rw [g3 q (fun w => h2 (Or.inl ⟨q1, hq1, w⟩))]
    exact hS.2.1 q h1 h2
  · rcases List.mem_append.mp hz with h | h
    · exact hS.2.2 z h
    · rw [g4 z h]
      exact Or.inl ⟨q1, hq1, rfl⟩
end CCOPY
/-! more of the engine: a reader that hands back a place; texts of a writer -/
section ENG2
variable {X : Type}
def gMetP (l : Launch) (y : MethodName) (c : ByteArray) (n : Nat) (ret : Option FieldType) (lev : Nat) (B : State → Prop) (av : List Value) (a : Nat) : Prop :=
  Met l y (wT y c n ret) (rmL lev 0 0) (va_Pc av B) (va_Sr (fun k => k = a) (fun k => .ref k)) 0 0 (fun _ => False)
variable {p : Program} {l : Launch} {e : Env} {R : Room} {s : State} {m : MethodId} {args : Array Value} {below : List Frame} {meth : Method} {c : Code} {H : Heap} {locs : List Loc} {cells slots : Nat} {Q : State → Prop}
variable {cc : ByteArray} {pc nL : Nat} {ls : Array Slot} {rest : List Value} {own : String} {Ω : Nat → Prop} {P : X → State → Heap → Prop} {KS : State → Prop}
def gRetP (p : Program) (l : Launch) (e : Env) (R : Room) (s : State) (m : MethodId) (args : Array Value) (below : List Frame) (meth : Method) (c : Code) (cc : ByteArray) (Q : State → Prop) (a : Nat) : Prop :=
  ∀ (pc : Nat) (ls : Array Slot), decode cc pc = .ok (.areturn, 1) → W p l e R s m args below meth c s.heap [] 0 0 Q (F0 m pc ls [.ref a])
theorem gEntryP {y : MethodName} {ret : Option FieldType} {C : String} {lev : Nat} {av : List Value} {a : Nat} {B0 : State → Prop} (hpl : plainName y.cls = true) (hret : ret = some (.object C)) (hav : (lg_sl av).length ≤ nL) (hB : ∀ U, B0 U → KS U)
    (body : ∀ (p : Program) (e : Env) (s : State) (m : MethodId) (args : Array Value) (below : List Frame) (meth : Method) (c : Code) (Q : State → Prop) (ls : Array Slot), gX p s m args c cc nL y.cls KS → B0 s → gRetP p l e (rmL lev 0 0) s m args below meth c cc Q a → lv_has ls nL (lv_args 0 av) → W p l e (rmL lev 0 0) s m args below meth c s.heap [] 0 0 Q (F0 m 0 ls [])) :
    gMetP l y cc nL ret lev B0 av a := by
  refine Met.ofW (cc := cc) (maxL := nL) (ret := ret) hpl rfl ?_
  intro p e s m args below meth c s₁ B hml hv
  obtain ⟨rfl, hP⟩ := hv
  have hlocks := B.notSynchronized
  have hts := atoms_spec (ws := wT y cc nL ret) B.pre
  have hown : s.vm.findClass y.cls = some m.cls := findClass_of_methodNamed B.named
  have hl := lv_entry av (n := nL) hav
  rw [lg_entry_eq]
  refine body p e s m _ below meth c _ _ ⟨B.exec, B.bytes, hml, hown, fun w hw => hts w (List.mem_cons_of_mem _ hw), hB _ hP⟩ hP ?_ hl
  intro pc ls hdg
  exact W.aret (rt := .object C) B.exec B.bytes (by rw [B.returns, hret]) (Or.inl ⟨C, rfl⟩) (Or.inr ⟨a, rfl⟩) (fun t ht hW => ⟨a, rfl, rfl, ht⟩) (fun q hq => absurd hq List.not_mem_nil) hdg
theorem gCallVP {y : MethodName} {c' : ByteArray} {n' idx nA : Nat} {ret : Option FieldType} {lev mc ms : Nat} {C : String} {b a : Nat} {As : List Value} {B0 : State → Prop} (hX : gX p s m args c cc nL own KS) (hR : R = rmL lev mc ms) {lev' : Nat} (hM : gMetP l y c' n' ret lev' B0 (.ref b :: As) a) (hG : GoodIn TBG (wsV own idx C y (wT y c' n' ret)))
    (hd : y.cls = C ∧ y.cls ≠ "java/lang/invoke/MethodHandle" ∧ y.cls ≠ "java/lang/invoke/VarHandle" ∧ (parseMethodDescriptor y.desc).map (fun d => d.parameters.length) = some nA) (hnA : As.length = nA) (hroom : lev' + 1 ≤ lev ∧ 8 + (n' + 11) + 38 * lev' ≤ 38 * lev)
    (hbl : FrameBlind (va_Pc (.ref b :: As) B0)) (hB : ∀ U : State, U.heap = H → s.WarmedH U.vm → B0 U) (hrec : gRec C b s H) (hls : ls.size = nL) (hcat : (rest.map fun v => v.category).sum ≤ 8) (hcells : cells ≤ mc ∧ slots ≤ ms) (hdg : decode cc pc = .ok (.invokevirtual idx, 3)) {st : List Value} (hst : st = As.reverse ++ .ref b :: rest)
    (kk : W p l e R s m args below meth c H locs cells slots Q (F0 m (pc + 3) ls (.ref a :: rest))) : W p l e R s m args below meth c H locs cells slots Q (F0 m pc ls st) := by
  subst hR
  refine va_csr (W.runV (As := As) (rest := rest) ⟨hX.hx, hX.hb, hX.hml, hX.hown, hX.hts⟩ hM (cwV nA hX.hts hG rfl rfl rfl hd ⟨hroom.1, hroom.2⟩) ⟨hbl, hrec, fun U hU hW => ⟨rfl, hB U hU hW⟩⟩ rfl hnA hls hst (lv_room hcat) hdg ⟨hcells.1, hcells.2⟩) (fun r' hr => ?_)
  subst hr
  exact kk
/-- a world with texts that stay -/
def gPS (P : X → State → Heap → Prop) (Ω : Nat → Prop) (L : List (Nat × List Int32)) : X → State → Heap → Prop := fun S U H => P S U H ∧ ∀ q ∈ L, strAt q.1 q.2 Ω U H
theorem gPS_ok {L : List (Nat × List Int32)} (h : gOK P KS) : gOK (gPS P Ω L) KS := ⟨fun S u U H hvm q => ⟨h.1 S u U H hvm q.1, fun z hz => (q.2 z hz).moved hvm⟩, h.2⟩
theorem fr_k {H0 : Heap} (hS : va_S (Fr Ω H0.size) H0 H locs) : ∀ a : Nat, a < H0.size → ¬ Ω a → H[a]? = H0[a]? := fun a h1 h2 => hS.2.1 a h1 (fun z => z.elim h2 (fun z => absurd h1 (Nat.not_lt.mpr z)))
theorem gPS_I {L : List (Nat × List Int32)} {r : Int32} {S1 : X} (ht : ∀ q ∈ L, strAt q.1 q.2 Ω s s.heap) (h : gRetI p l e R s m args below meth c cc Ω (gPS P Ω L) Q r S1) : gRetI p l e R s m args below meth c cc Ω P Q r S1 := fun pc ls H locs hdg hP hS => h pc ls H locs hdg ⟨hP, fun q hq => (ht q hq).kept (fr_k hS)⟩ hS
theorem gPS_V {L : List (Nat × List Int32)} {S1 : X} (ht : ∀ q ∈ L, strAt q.1 q.2 Ω s s.heap) (h : gRetV p l e R s m args below meth c cc Ω (gPS P Ω L) Q S1) : gRetV p l e R s m args below meth c cc Ω P Q S1 := fun pc ls H locs hdg hP hS => h pc ls H locs hdg ⟨hP, fun q hq => (ht q hq).kept (fr_k hS)⟩ hS
end ENG2
theorem nz {v : Int32} (h : v = 0 ∨ v = 1) : narrow .boolean (.int v) = .int v := by rcases h with h | h <;> (subst h; decide +kernel)
theorem fz {v : Int32} (h : v = 0 ∨ v = 1) : fits .boolean (.int v) = true := by rcases h with h | h <;> (subst h; decide +kernel)
theorem l1 {a : Nat} {bs : List Int32} {Ω : Nat → Prop} {s : State} {H : Heap} (h : strAt a bs Ω s H) : ∀ q ∈ [(a, bs)], strAt q.1 q.2 Ω s H := fun q hq => by rw [List.mem_singleton.mp hq]; exact h
theorem l2 {a a' : Nat} {bs bs' : List Int32} {Ω : Nat → Prop} {s : State} {H : Heap} (h : strAt a bs Ω s H) (h' : strAt a' bs' Ω s H) : ∀ q ∈ [(a, bs), (a', bs')], strAt q.1 q.2 Ω s H := fun q hq => by
  rcases List.mem_cons.mp hq with z | z
  · rw [z]; exact h
  · rw [List.mem_singleton.mp z]; exact h'
theorem cstr {dC : Nat → ClassId} {dI : Nat → Nat → Nat} {cg : Nat → ClassId} {kA : String → Nat → Nat} {ca : Nat → Nat} {S : CS} {s : State} {H : Heap} (hP : cP dC dI cg kA ca S s H) (i : Nat) {q : String × Nat × String × List Int32} (hq : kTab[i]? = some q) : strAt (kA q.1 q.2.1) q.2.2.2 (cΩ ca) s H := by
  obtain ⟨nA, h⟩ := hP
  exact h.2.2.2.1.1 q (List.mem_of_getElem? hq)
theorem ccmp {dC : Nat → ClassId} {dI : Nat → Nat → Nat} {cg : Nat → ClassId} {kA : String → Nat → Nat} {ca : Nat → Nat} {S : CS} {s : State} {H : Heap} (hP : cP dC dI cg kA ca S s H) : cmpS (cΩ ca) s H := by
  obtain ⟨nA, h⟩ := hP
  exact h.2.2.2.1.2
