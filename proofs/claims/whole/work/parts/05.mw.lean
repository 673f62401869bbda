/-! small words of the walks; then the reference's world: one object and ten int arrays -/
abbrev gIn (i : Int32) (n : Nat) : Prop := ¬ (i < 0 ∨ n ≤ i.toNatClampNeg)
/-- the fuel of every loop: more than any loop of the system turns -/
def FU : Nat := 3000
theorem gd {c : Prop} [Decidable c] {α : Type} {a : Option α} {r : α} (h : (if c then a else none) = some r) : c ∧ a = some r := by
  by_cases hc : c
  · exact ⟨hc, by rw [if_pos hc] at h; exact h⟩
  · rw [if_neg hc] at h; cases h
theorem ifp {c : Prop} [Decidable c] {α : Type} {a b r : α} (hc : c) (h : (if c then a else b) = r) : a = r := by rw [if_pos hc] at h; exact h
theorem ifn {c : Prop} [Decidable c] {α : Type} {a b r : α} (hc : ¬ c) (h : (if c then a else b) = r) : b = r := by rw [if_neg hc] at h; exact h
theorem bd {α β : Type} {o : Option α} {f : α → Option β} {r : β} (h : o.bind f = some r) : ∃ q, o = some q ∧ f q = some r := by
  cases o with
  | none => cases h
  | some q => exact ⟨q, rfl, h⟩
/-- a boolean's answer: 0 or 1 -/
def bz {α : Type} (o : Option (Int32 × α)) : Option (Int32 × α) := o.bind fun q => if q.1 = 0 ∨ q.1 = 1 then some q else none
theorem bz_f {α : Type} {o : Option (Int32 × α)} {r : Int32 × α} (h : bz o = some r) : o = some r := by
  obtain ⟨q, h1, h2⟩ := bd h
  split at h2
  · cases h2; exact h1
  · cases h2
theorem bz_n {α : Type} {o : Option (Int32 × α)} {r : Int32} {S : α} (h : bz o = some (r, S)) : narrow .boolean (.int r) = .int r := by
  obtain ⟨q, h1, h2⟩ := bd h
  split at h2
  · rename_i h3
    cases h2
    rcases h3 with h3 | h3 <;> (show narrow .boolean (.int _) = .int _; simp only at h3; subst h3; decide +kernel)
  · cases h2
theorem sw_out {x : Int32} (lo hi : Int) (h1 : -2147483648 ≤ lo) (h2 : hi < 2147483648) (h : ∀ k : Int, lo ≤ k → k ≤ hi → x = Int32.ofInt k → False) : x.toInt < lo ∨ hi < x.toInt := by
  rcases Int.lt_or_le x.toInt lo with a | a
  · exact Or.inl a
  · rcases Int.lt_or_le hi x.toInt with b | b
    · exact Or.inr b
    · exact (h x.toInt a b (Int32.ofInt_toInt x).symm).elim
abbrev MS : Type := (Nat → Int32) × (Nat → Nat → Int32)
def mF (ad : Nat → Nat) (M : MS) : List Value := [.ref (ad 0), .ref (ad 1), .ref (ad 2), .ref (ad 3), .ref (ad 4), .int (M.1 5), .int (M.1 6), .int (M.1 7), .ref (ad 8), .int (M.1 9), .int (M.1 10), .int (M.1 11), .int (M.1 12), .int (M.1 13), .int (M.1 14), .int (M.1 15), .int (M.1 16), .int (M.1 17), .int (M.1 18), .ref (ad 19), .ref (ad 20), .ref (ad 21), .int (M.1 22), .ref (ad 23), .int (M.1 24)]
def mW (cI : ClassId) (ad : Nat → Nat) (M : MS) : va_W := [(ad 25, .inr (15, mF ad M)), (ad 0, .inl (cI, 257, .inl (M.2 0))), (ad 1, .inl (cI, 257, .inl (M.2 1))), (ad 2, .inl (cI, 257, .inl (M.2 2))), (ad 3, .inl (cI, 257, .inl (M.2 3))), (ad 4, .inl (cI, 2056, .inl (M.2 4))), (ad 8, .inl (cI, 600, .inl (M.2 8))), (ad 19, .inl (cI, 4, .inl (M.2 19))), (ad 20, .inl (cI, 31, .inl (M.2 20))), (ad 21, .inl (cI, 62, .inl (M.2 21))), (ad 23, .inl (cI, 200, .inl (M.2 23)))]
def mAr : Nat → Option (Nat × Nat)
  | 0 => some (1, 257)
  | 1 => some (2, 257)
  | 2 => some (3, 257)
  | 3 => some (4, 257)
  | 4 => some (5, 2056)
  | 8 => some (6, 600)
  | 19 => some (7, 4)
  | 20 => some (8, 31)
  | 21 => some (9, 62)
  | 23 => some (10, 200)
  | _ => none
def mL (a : Nat) : Nat := ((mAr a).getD (0, 0)).2
def mPos (a : Nat) : Nat := ((mAr a).getD (0, 0)).1
abbrev mIs (a : Nat) : Prop := (mAr a).isSome = true
theorem mIs_at {a : Nat} (h : mIs a) : mAr a = some (mPos a, mL a) := by
  unfold mIs at h
  unfold mPos mL
  cases hq : mAr a with
  | none => rw [hq] at h; cases h
  | some q => rfl
theorem mAr_cases {a pos len : Nat} (h : mAr a = some (pos, len)) : (a = 0 ∧ pos = 1 ∧ len = 257) ∨ (a = 1 ∧ pos = 2 ∧ len = 257) ∨ (a = 2 ∧ pos = 3 ∧ len = 257) ∨ (a = 3 ∧ pos = 4 ∧ len = 257) ∨ (a = 4 ∧ pos = 5 ∧ len = 2056) ∨ (a = 8 ∧ pos = 6 ∧ len = 600) ∨ (a = 19 ∧ pos = 7 ∧ len = 4) ∨ (a = 20 ∧ pos = 8 ∧ len = 31) ∨ (a = 21 ∧ pos = 9 ∧ len = 62) ∨ (a = 23 ∧ pos = 10 ∧ len = 200) := by
  unfold mAr at h
  split at h <;> first | (cases h; simp; done) | cases h
theorem mW_at {cI : ClassId} {ad : Nat → Nat} {M : MS} {a pos len : Nat} (h : mAr a = some (pos, len)) : (mW cI ad M)[pos]? = some (ad a, .inl (cI, len, .inl (M.2 a))) := by
  rcases mAr_cases h with ⟨rfl, rfl, rfl⟩ | ⟨rfl, rfl, rfl⟩ | ⟨rfl, rfl, rfl⟩ | ⟨rfl, rfl, rfl⟩ | ⟨rfl, rfl, rfl⟩ | ⟨rfl, rfl, rfl⟩ | ⟨rfl, rfl, rfl⟩ | ⟨rfl, rfl, rfl⟩ | ⟨rfl, rfl, rfl⟩ | ⟨rfl, rfl, rfl⟩ <;> rfl
theorem mW_set {cI : ClassId} {ad : Nat → Nat} {M : MS} {a pos len : Nat} {f : Nat → Int32} (h : mAr a = some (pos, len)) : (mW cI ad M).set pos (ad a, .inl (cI, len, .inl f)) = mW cI ad (M.1, va_up M.2 a f) := by
  rcases mAr_cases h with ⟨rfl, rfl, rfl⟩ | ⟨rfl, rfl, rfl⟩ | ⟨rfl, rfl, rfl⟩ | ⟨rfl, rfl, rfl⟩ | ⟨rfl, rfl, rfl⟩ | ⟨rfl, rfl, rfl⟩ | ⟨rfl, rfl, rfl⟩ | ⟨rfl, rfl, rfl⟩ | ⟨rfl, rfl, rfl⟩ | ⟨rfl, rfl, rfl⟩ <;> rfl
def mI : Nat → Bool
  | 5 => true
  | 6 => true
  | 7 => true
  | 9 => true
  | 10 => true
  | 11 => true
  | 12 => true
  | 13 => true
  | 14 => true
  | 15 => true
  | 16 => true
  | 17 => true
  | 18 => true
  | 22 => true
  | 24 => true
  | _ => false
theorem mI_cases {k : Nat} (h : mI k = true) : k = 5 ∨ k = 6 ∨ k = 7 ∨ k = 9 ∨ k = 10 ∨ k = 11 ∨ k = 12 ∨ k = 13 ∨ k = 14 ∨ k = 15 ∨ k = 16 ∨ k = 17 ∨ k = 18 ∨ k = 22 ∨ k = 24 := by
  unfold mI at h
  split at h <;> first | (simp; done) | cases h
theorem mF_set {cI : ClassId} {ad : Nat → Nat} {M : MS} {k : Nat} {v : Int32} (h : mI k = true) : (mW cI ad M).set 0 (ad 25, .inr (15, (mF ad M).set k (.int v))) = mW cI ad (va_up M.1 k v, M.2) := by
  rcases mI_cases h with rfl | rfl | rfl | rfl | rfl | rfl | rfl | rfl | rfl | rfl | rfl | rfl | rfl | rfl | rfl <;> rfl
theorem mI_lt {k : Nat} (h : mI k = true) : k < 25 := by
  rcases mI_cases h with rfl | rfl | rfl | rfl | rfl | rfl | rfl | rfl | rfl | rfl | rfl | rfl | rfl | rfl | rfl <;> decide
theorem mW_fix {cI : ClassId} {ad : Nat → Nat} : gFix (mW cI ad) := fun _ _ => rfl
theorem inG11 : ∀ w ∈ u_ws RX11 TX11 25, w ∈ TBG := by decide +kernel
section MROWS
variable {p : Program} {l : Launch} {e : Env} {R : Room} {s : State} {m : MethodId} {args : Array Value} {below : List Frame} {meth : Method} {c : Code} {H : Heap} {locs : List Loc} {cells slots : Nat} {Q : State → Prop}
variable {cc : ByteArray} {pc nL : Nat} {ls : Array Slot} {rest : List Value} {dC : Nat → ClassId} {dI : Nat → Nat → Nat} {cI : ClassId} {ad : Nat → Nat} {A : Nat → Prop} {M : MS} {own : String}
theorem mr_get {k index : Nat} {v : Value} (X : gX p s m args c cc nL RX11 (dC, dI) [(cI, .int)] A) (hP : va_P (dC, dI) vwCl (mW cI ad M) H) (hk : k < 25) (hv : (mF ad M)[k]? = some v) (ho : (TX11 k).1 = RX11) (hlink : Cond.fieldLink RX11 index RX11 (TX11 k).2.1 (TX11 k).2.2.1 ∈ TBG) (hdg : decode cc pc = .ok (.getfield index, 3))
    (kk : W p l e R s m args below meth c H locs cells slots Q (F0 m (pc + 3) ls (v :: rest))) : W p l e R s m args below meth c H locs cells slots Q (F0 m pc ls (.ref (ad 25) :: rest)) :=
  va_get (C := RX11) (T := TX11) (N := 25) (ci := 15) X.hx X.hb X.hts inG11 X.hown X.hK hP 0 rfl rfl k hk (X.hts _ hlink) (fun x h => by rw [ho] at h; exact h) hv hdg kk
theorem mr_put {k index : Nat} {v : Int32} (X : gX p s m args c cc nL RX11 (dC, dI) [(cI, .int)] A) (hDA : ∀ S, va_D A (mW cI ad S)) (hP : va_P (dC, dI) vwCl (mW cI ad M) H) (hS : va_S A s.heap H locs) (hk : mI k = true) (hn : narrow (tyX11 k) (.int v) = .int v) (hfit : fits (tyX11 k) (.int v) = true) (ho : (TX11 k).1 = RX11) (hfin : (TX11 k).2.2.2 = false) (hlink : Cond.fieldLink RX11 index RX11 (TX11 k).2.1 (TX11 k).2.2.1 ∈ TBG) (hdg : decode cc pc = .ok (.putfield index, 3))
    (kk : ∀ (H1 : Heap) (locs1 : List Loc), va_P (dC, dI) vwCl (mW cI ad (va_up M.1 k v, M.2)) H1 → va_S A s.heap H1 locs1 → W p l e R s m args below meth c H1 locs1 cells slots Q (F0 m (pc + 3) ls rest)) : W p l e R s m args below meth c H locs cells slots Q (F0 m pc ls (.int v :: .ref (ad 25) :: rest)) := by
  refine va_put (C := RX11) (T := TX11) (N := 25) (ci := 15) X.hx X.hb X.hts inG11 tyX11 tyX11_ok nmX11 X.hown X.hK hP (hDA M) hS 0 rfl rfl k (mI_lt hk) (X.hts _ hlink) (fun x h => by rw [ho] at h; exact h) hfin (tyX11_ok k (mI_lt hk)) hn hfit (by show k < 25; exact mI_lt hk) hdg (fun H1 locs1 h1 _ h2 => ?_)
  rw [mF_set hk] at h1
  exact kk H1 locs1 h1 h2
theorem mr_ald {a pos len : Nat} {i : Int32} (X : gX p s m args c cc nL own (dC, dI) [(cI, .int)] A) (hP : va_P (dC, dI) vwCl (mW cI ad M) H) (ha : mAr a = some (pos, len)) (hin : gIn i len) (hdg : decode cc pc = .ok (.iaload, 1))
    (kk : W p l e R s m args below meth c H locs cells slots Q (F0 m (pc + 1) ls (.int (M.2 a i.toNatClampNeg) :: rest))) : W p l e R s m args below meth c H locs cells slots Q (F0 m pc ls (.int i :: .ref (ad a) :: rest)) :=
  va_iald X.hx X.hb X.hK hP pos 0 (mW_at ha) rfl hin hdg kk
theorem mr_ast {a pos len : Nat} {i x : Int32} (X : gX p s m args c cc nL own (dC, dI) [(cI, .int)] A) (hDA : ∀ S, va_D A (mW cI ad S)) (hP : va_P (dC, dI) vwCl (mW cI ad M) H) (hS : va_S A s.heap H locs) (ha : mAr a = some (pos, len)) (hin : gIn i len) (hdg : decode cc pc = .ok (.iastore, 1))
    (kk : ∀ (H1 : Heap) (locs1 : List Loc), va_P (dC, dI) vwCl (mW cI ad (M.1, va_up M.2 a (upd (M.2 a) i.toNatClampNeg x))) H1 → va_S A s.heap H1 locs1 → W p l e R s m args below meth c H1 locs1 cells slots Q (F0 m (pc + 1) ls rest)) : W p l e R s m args below meth c H locs cells slots Q (F0 m pc ls (.int x :: .int i :: .ref (ad a) :: rest)) := by
  refine va_iast X.hx X.hb X.hK hP (hDA M) hS pos 0 (mW_at ha) rfl hin hdg (fun H1 locs1 h1 _ h2 => ?_)
  rw [mW_set ha] at h1
  exact kk H1 locs1 h1 h2
end MROWS
