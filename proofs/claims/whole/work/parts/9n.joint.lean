/-! the law's world: the class's cells, the reference's cells, the two places for answers -/
theorem od_lt {p : Nat} (h : p < 433) : od p < 433 := by
  unfold od
  repeat' split
  all_goals omega
theorem mPos_lt {k : Nat} : mPos k < 11 := by
  unfold mPos
  cases h : mAr k with
  | none => exact Nat.zero_lt_succ _
  | some q =>
    obtain ⟨a, b⟩ := q
    show a < 11
    rcases mAr_cases h with h | h | h | h | h | h | h | h | h | h <;> omega
theorem cΩ_in {b q : Nat} (h : cΩ (caOf b) q) : b ≤ q ∧ q < b + 433 := by
  obtain ⟨p, hp, e⟩ := h
  have := od_lt hp
  have e : q = b + od p := e
  omega
theorem mΩ_in {b q : Nat} (h : mΩ (adOf b) q) : b ≤ q ∧ q < b + 11 := by
  obtain ⟨k, hk, e⟩ := h
  have e : q = b + (if k = 25 then 0 else mPos k) := e
  have := mPos_lt (k := k)
  split at e <;> omega
def APJ (b1 b2 o1 o2 : Nat) : Prop := b1 + 433 ≤ b2 ∧ b2 + 11 ≤ o1 ∧ o1 < o2
def jΩ (b1 b2 o1 o2 : Nat) : Nat → Prop := fun q => cΩ (caOf b1) q ∨ mΩ (adOf b2) q ∨ q = o1 ∨ q = o2
def oP (cL cD : ClassId) (o1 o2 : Nat) (x : Int64) (d : UInt64) : State → Heap → Prop := fun U H => H[o1]? = some (vp_cell cL (1, .inr (.inl fun _ => x))) ∧ H[o2]? = some (vp_cell cD (1, .inr (.inr (.inr (.inl fun _ => d))))) ∧ ArrOfT U cL .long ∧ ArrOfT U cD .double
abbrev JS : Type := CS × MS × Int64 × UInt64
def fC (dC : Nat → ClassId) (dI : Nat → Nat → Nat) (cg : Nat → ClassId) (kA : String → Nat → Nat) (b1 b2 o1 o2 : Nat) (cL cD : ClassId) (M : MS) (x : Int64) (d : UInt64) : State → Heap → Prop := fun U H => mP dC dI (cg 0) kA (adOf b2) M U H ∧ kE kTab kA (jΩ b1 b2 o1 o2) U H ∧ oP cL cD o1 o2 x d U H
def fM (dC : Nat → ClassId) (dI : Nat → Nat → Nat) (cg : Nat → ClassId) (kA : String → Nat → Nat) (b1 b2 o1 o2 : Nat) (cL cD : ClassId) (S : CS) (x : Int64) (d : UInt64) : State → Heap → Prop := fun U H => (∃ nA, cN dC dI cg kA (caOf b1) nA S U H ∧ ∀ p, strAt (nA p) (S.2 p) (jΩ b1 b2 o1 o2) U H) ∧ kE kTab kA (jΩ b1 b2 o1 o2) U H ∧ oP cL cD o1 o2 x d U H
def jP (dC : Nat → ClassId) (dI : Nat → Nat → Nat) (cg : Nat → ClassId) (kA : String → Nat → Nat) (b1 b2 o1 o2 : Nat) (cL cD : ClassId) : JS → State → Heap → Prop := fun J U H => cP dC dI cg kA (caOf b1) J.1 U H ∧ fC dC dI cg kA b1 b2 o1 o2 cL cD J.2.1 J.2.2.1 J.2.2.2 U H
theorem K_arr {U : State} {cA : ClassId} {ty : FieldType} (h : ArrOfT U cA ty) : ∃ k comp, U.vm.classes[cA]? = some k ∧ k.kind = .array comp ty := by
  obtain ⟨-, k, hk, comp, hkind⟩ := h 0 (fun _ => .null)
  exact ⟨k, comp, hk, hkind⟩
section JOINT
variable {dC : Nat → ClassId} {dI : Nat → Nat → Nat} {cg : Nat → ClassId} {kA : String → Nat → Nat} {b1 b2 o1 o2 : Nat} {cL cD : ClassId} {S : CS} {M : MS} {x : Int64} {d : UInt64} {U : State} {H : Heap}
theorem oP.moved {u : State} (hvm : u.vm.Alike U.vm) (h : oP cL cD o1 o2 x d u H) : oP cL cD o1 o2 x d U H := ⟨h.1, h.2.1, arrOfT_moved hvm h.2.2.1, arrOfT_moved hvm h.2.2.2⟩
theorem oP.kept {H1 : Heap} (h : oP cL cD o1 o2 x d U H) (k1 : o1 < H.size → H1[o1]? = H[o1]?) (k2 : o2 < H.size → H1[o2]? = H[o2]?) : oP cL cD o1 o2 x d U H1 := ⟨(k1 (Array.getElem?_eq_some_iff.mp h.1).1).trans h.1, (k2 (Array.getElem?_eq_some_iff.mp h.2.1).1).trans h.2.1, h.2.2⟩
theorem fsC (hap : APJ b1 b2 o1 o2) : gFs (cΩ (caOf b1)) (fC dC dI cg kA b1 b2 o1 o2 cL cD M x d) := ⟨fun u U H hvm h => ⟨mOK.1 _ _ _ _ hvm h.1, h.2.1.moved hvm, h.2.2.moved hvm⟩, fun U H H1 hz hk h => by
  obtain ⟨hm, hk1, ho⟩ := h
  have hk2 : kE kTab kA (jΩ b1 b2 o1 o2) U H1 := hk1.kept (fun a ha na => hk a ha (fun z => na (Or.inl z)))
  obtain ⟨p1, p2, p3⟩ := hap
  refine ⟨⟨hm.1.kept (fun k q hq => hk q.1 ((hm.1 k q hq).lt) (fun z => ?_)), hm.2.1, hm.2.2.1, hk2.narrow (fun q z => Or.inr (Or.inl z))⟩, hk2, ho.kept (fun z => hk _ z (fun w => ?_)) (fun z => hk _ z (fun w => ?_))⟩
  · have := mΩ_in (hm.2.2.1.2 k q hq)
    have := cΩ_in z
    omega
  · have := cΩ_in w
    omega
  · have := cΩ_in w
    omega⟩
theorem fsM (hap : APJ b1 b2 o1 o2) : gFs (mΩ (adOf b2)) (fM dC dI cg kA b1 b2 o1 o2 cL cD S x d) := ⟨fun u U H hvm h => by
  obtain ⟨⟨nA, ⟨a1, a2, a3, a4, a5⟩, a6⟩, h2, h3⟩ := h
  exact ⟨⟨nA, ⟨a1, va_K.moved hvm a2, a3, a4.moved hvm, fun p => (a5 p).moved hvm⟩, fun p => (a6 p).moved hvm⟩, h2.moved hvm, h3.moved hvm⟩, fun U H H1 hz hk h => by
  obtain ⟨⟨nA, ⟨a1, a2, a3, a4, a5⟩, a6⟩, h2, h3⟩ := h
  have hkj : ∀ a : Nat, a < H.size → ¬ jΩ b1 b2 o1 o2 a → H1[a]? = H[a]? := fun a ha na => hk a ha (fun z => na (Or.inr (Or.inl z)))
  have hk2 : kE kTab kA (jΩ b1 b2 o1 o2) U H1 := h2.kept hkj
  have hs : ∀ p, strAt (nA p) (S.2 p) (jΩ b1 b2 o1 o2) U H1 := fun p => (a6 p).kept hkj
  obtain ⟨p1, p2, p3⟩ := hap
  refine ⟨⟨nA, ⟨fun p hp => (a1 p hp).kept (hk _ ((a1 p hp).lt) (fun z => ?_)), a2, a3, hk2.narrow (fun q z => Or.inl z), fun p => (hs p).narrow (fun q z => Or.inl z)⟩, hs⟩, hk2, h3.kept (fun z => hk _ z (fun w => ?_)) (fun z => hk _ z (fun w => ?_))⟩
  · have z : mΩ (adOf b2) (caOf b1 p) := z
    have := mΩ_in z
    have := cΩ_in (b := b1) ⟨p, hp, rfl⟩
    omega
  · have := mΩ_in w
    omega
  · have := mΩ_in w
    omega⟩
/-- what a cell of the reference is -/
theorem m_cell (hm : mP dC dI (cg 0) kA (adOf b2) M U H) {q : Nat} (h : mΩ (adOf b2) q) : ∃ cell, H[q]? = some cell ∧ (cell.cls = dC 15 ∨ cell.cls = cg 0) := by
  obtain ⟨k, hk, e⟩ := h
  obtain ⟨i, hi, e⟩ : ∃ i, i < 11 ∧ q = b2 + i := ⟨if k = 25 then 0 else mPos k, by split; omega; exact mPos_lt, e⟩
  have hl : (mW (cg 0) (adOf b2) M).length = 11 := rfl
  have hg : (mW (cg 0) (adOf b2) M)[i]? = some ((mW (cg 0) (adOf b2) M)[i]'(by omega)) := List.getElem?_eq_getElem (by omega)
  have hq := (m_at hg).2.1
  have hat := hm.1 i _ hg
  rw [e, ← hq]
  generalize (mW (cg 0) (adOf b2) M)[i]'(by omega) = z at hg hat hq ⊢
  rcases (show i = 0 ∨ i = 1 ∨ i = 2 ∨ i = 3 ∨ i = 4 ∨ i = 5 ∨ i = 6 ∨ i = 7 ∨ i = 8 ∨ i = 9 ∨ i = 10 by omega) with e | e | e | e | e | e | e | e | e | e | e <;> subst e <;> cases hg
  · obtain ⟨r, h1, cell, q1, q2, q3, q4⟩ := hat
    exact ⟨cell, q1, Or.inl q2⟩
  all_goals exact ⟨_, hat, Or.inr rfl⟩
theorem not_two {c : ClassId} {k k' : Class} (h : U.vm.classes[c]? = some k) (h' : U.vm.classes[c]? = some k') (hk : k.kind ≠ k'.kind) : False := hk (by cases Option.some.inj (h.symm.trans h'); rfl)
/-- the class's texts are no cells of the reference, nor places for answers -/
theorem str_j {a : Nat} {bs : List Int32} (hK : va_K (dC, dI) vwCl (cTy cg) U) (hm : mP dC dI (cg 0) kA (adOf b2) M U H) (ho : oP cL cD o1 o2 x d U H) (h : strAt a bs (cΩ (caOf b1)) U H) : strAt a bs (jΩ b1 b2 o1 o2) U H := by
  obtain ⟨ha, hn, v, ⟨c1, q1, q2, q3, q4⟩, ⟨x1, x2, x3, x4, x5, x6, x7, x8, x9, x10, x11⟩, ⟨y1, y2, y3, y4, y5, y6, y7, y8, y9, y10, y11⟩, ⟨z1, z2, z3, z4, z5, z6, z7, z8⟩⟩ := h
  obtain ⟨fS, kS, hkS, hS⟩ := (hK.1 0 _ rfl).2
  have fS : U.vm.findClass "java/lang/String" = some (dC 0) := fS
  have hcS : c1.cls = dC 0 := Option.some.inj (q3.symm.trans fS)
  obtain ⟨fM, kM, hkM, hM⟩ := (hK.1 15 _ rfl).2
  obtain ⟨kI, cI, hkI, hI⟩ := K_arr (hK.2 0 _ rfl).1
  obtain ⟨kL, cmL, hkL, hL⟩ := K_arr ho.2.2.1
  obtain ⟨kD, cmD, hkD, hD⟩ := K_arr ho.2.2.2
  have z3c := z3
  obtain ⟨-, kB, hkB, cmB, hB⟩ := z3c
  have na : ¬ jΩ b1 b2 o1 o2 a := fun w => by
    rcases w with w | w | w | w
    · exact q4 w
    · obtain ⟨cell, r1, r2⟩ := m_cell hm w
      cases Option.some.inj (q1.symm.trans r1)
      rcases r2 with r2 | r2
      · obtain ⟨k1, e1, e2⟩ := Vm.findClass_spec fM
        obtain ⟨k2, e3, e4⟩ := Vm.findClass_spec fS
        have e1 : U.vm.classes[dC 15]? = some k1 := e1
        rw [← r2, hcS, e3] at e1
        cases Option.some.inj e1
        exact absurd (e2.symm.trans e4) (by decide)
      · rw [← r2, hcS] at hkI
        exact not_two hkS hkI (by rw [hS, hI]; intro z; cases z)
    · subst w
      cases Option.some.inj (q1.symm.trans ho.1)
      have e : cL = dC 0 := hcS
      rw [e] at hkL
      exact not_two hkS hkL (by rw [hS, hL]; intro z; cases z)
    · subst w
      cases Option.some.inj (q1.symm.trans ho.2.1)
      have e : cD = dC 0 := hcS
      rw [e] at hkD
      exact not_two hkS hkD (by rw [hS, hD]; intro z; cases z)
  have nv : ¬ jΩ b1 b2 o1 o2 v := fun w => by
    rcases w with w | w | w | w
    · exact z8 w
    · obtain ⟨cell, r1, r2⟩ := m_cell hm w
      cases Option.some.inj (z2.symm.trans r1)
      rcases r2 with r2 | r2
      · rw [r2] at hkB
        exact not_two hkM hkB (by rw [hM, hB]; intro z; cases z)
      · rw [r2] at hkB
        exact not_two hkI hkB (by rw [hI, hB]; intro z; cases z)
    · subst w
      cases Option.some.inj (z2.symm.trans ho.1)
      exact not_two hkL hkB (by rw [hL, hB]; intro z; cases z)
    · subst w
      cases Option.some.inj (z2.symm.trans ho.2.1)
      exact not_two hkD hkB (by rw [hD, hB]; intro z; cases z)
  exact ⟨ha, hn, v, ⟨c1, q1, q2, q3, na⟩, ⟨x1, x2, x3, x4, x5, x6, x7, x8, x9, x10, na⟩, ⟨y1, y2, y3, y4, y5, y6, y7, y8, y9, y10, na⟩, ⟨z1, z2, z3, z4, z5, z6, z7, nv⟩⟩
theorem j_fm {J : JS} (h : jP dC dI cg kA b1 b2 o1 o2 cL cD J U H) : gF (mP dC dI (cg 0) kA (adOf b2)) (fM dC dI cg kA b1 b2 o1 o2 cL cD J.1 J.2.2.1 J.2.2.2) J.2.1 U H := by
  obtain ⟨⟨nA, hN⟩, hm, hk, ho⟩ := h
  exact ⟨hm, ⟨nA, hN, fun p => str_j hN.2.1 hm ho (hN.2.2.2.2 p)⟩, hk, ho⟩
theorem j_of {M1 : MS} {J : JS} (h : gF (mP dC dI (cg 0) kA (adOf b2)) (fM dC dI cg kA b1 b2 o1 o2 cL cD J.1 J.2.2.1 J.2.2.2) M1 U H) : jP dC dI cg kA b1 b2 o1 o2 cL cD (J.1, M1, J.2.2) U H := by
  obtain ⟨hm, ⟨nA, hN, _⟩, hk, ho⟩ := h
  exact ⟨⟨nA, hN⟩, hm, hk, ho⟩
theorem jOK : gOK (jP dC dI cg kA b1 b2 o1 o2 cL cD) (kR kTab kA) := ⟨fun J u U H hvm h => ⟨cOK.1 _ _ _ _ hvm h.1, mOK.1 _ _ _ _ hvm h.2.1, h.2.2.1.moved hvm, h.2.2.2.moved hvm⟩, kR_ok⟩
end JOINT
