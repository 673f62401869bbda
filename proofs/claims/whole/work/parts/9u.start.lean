/-! what the Statement gives at the start -/
def FLT : List Cond := flatC (Cond.and given_1 narrow_1)
def sbl : List Cond → List Cond → Bool
  | [], _ => true
  | _ :: _, [] => false
  | a :: as, b :: bs => if a = b then sbl as bs else sbl (a :: as) bs
theorem sbl_mem : ∀ (l2 l1 : List Cond), sbl l1 l2 = true → ∀ w ∈ l1, w ∈ l2 := by
  intro l2
  induction l2 with
  | nil =>
    intro l1 h w hw
    cases l1 with
    | nil => cases hw
    | cons a as => simp [sbl] at h
  | cons b bs ih =>
    intro l1 h w hw
    cases l1 with
    | nil => cases hw
    | cons a as =>
      unfold sbl at h
      by_cases e : a = b
      · rw [if_pos e] at h
        rcases List.mem_cons.mp hw with rfl | hw
        · rw [e]; exact List.mem_cons_self
        · exact List.mem_cons_of_mem _ (ih as h w hw)
      · rw [if_neg e] at h
        exact List.mem_cons_of_mem _ (ih _ h w hw)
def sV (q : String × Nat × String × List Int32) : Term := .field (.string q.1 q.2.1) "java/lang/String" "value" "[B"
def sW (q : String × Nat × String × List Int32) : List Cond := [.exactly (.string q.1 q.2.1) "java/lang/String", .eq (.field (.string q.1 q.2.1) "java/lang/String" "coder" "B") (.int 0), .arrayOf (sV q) .byte, .eq (.length (sV q)) (.int (Int32.ofNat q.2.2.2.length))] ++ (List.range q.2.2.2.length).map fun j => .eq (.elem (sV q) (.int (Int32.ofNat j))) (.int (q.2.2.2.getD j 0))
def sPerm : List Nat := [8, 9, 0, 17, 22, 23, 18, 24, 25, 19, 20, 21, 10, 11, 12, 13, 14, 15, 16, 3, 4, 5, 6, 7, 1, 2, 30, 26, 27, 31, 28, 29, 32, 33, 34, 35, 36, 37, 38]
set_option maxRecDepth 100000 in
theorem sW_sub : sbl ((sPerm.filterMap fun i => kTab[i]?).flatMap sW) FLT = true := by decide +kernel
theorem sPerm_all : ∀ q ∈ kTab, q ∈ sPerm.filterMap fun i => kTab[i]? := by decide +kernel
theorem kTab_ok : ∀ q ∈ kTab, (∀ b ∈ q.2.2.2, ∃ k : Fin 128, b = Int32.ofNat k.val) ∧ q.2.2.2.length < 2 ^ 31 := by decide +kernel
theorem kTab_ref : ∀ q ∈ kTab, Cond.stringRef q.1 q.2.1 q.2.2.1 ∈ lw_tbl := by decide +kernel
theorem s_text {s : State} {args : Array Value} {A : Nat → Prop} (hF : ∀ w ∈ FLT, w.before args s = true) (hA : ∀ a : Nat, a < s.heap.size → ¬ A a) {q : String × Nat × String × List Int32} (hq : q ∈ kTab) : ∃ a, (Term.string q.1 q.2.1).eval args s none [] s = some (.ref a) ∧ strAt a q.2.2.2 A s s.heap := by
  have hw : ∀ w ∈ sW q, w.before args s = true := fun w h => hF w (sbl_mem _ _ sW_sub w (List.mem_flatMap.mpr ⟨q, sPerm_all q hq, h⟩))
  obtain ⟨h1, h2⟩ := kTab_ok q hq
  obtain ⟨a, c, cA, kA, q1, q2, q3, q4, q5, q6, -⟩ := Cond.exactly_spec (args := args) (first := s) (o := none) (s := s) (idx := []) (t := .string q.1 q.2.1) (cls := "java/lang/String") (hw _ (List.mem_append_left _ List.mem_cons_self))
  obtain ⟨t, ht, hT⟩ := va_Tof (f := fun j => .int (q.2.2.2.getD j 0)) (A := A) h2 (hw (.arrayOf (sV q) .byte) (List.mem_append_left _ (List.mem_of_getElem? (i := 2) rfl))) (va_eqt (hw (.eq (.length (sV q)) (.int (Int32.ofNat q.2.2.2.length))) (List.mem_append_left _ (List.mem_of_getElem? (i := 3) rfl)))) (fun j hj => va_eqt (hw (.eq (.elem (sV q) (.int (Int32.ofNat j))) (.int (q.2.2.2.getD j 0))) (List.mem_append_right _ (List.mem_map.mpr ⟨j, List.mem_range.mpr hj, rfl⟩)))) hA
  exact ⟨a, q1, h1, h2, t, ⟨cA, q3, q5, by rw [q6]; exact q2, hA a (Array.getElem?_eq_some_iff.mp q3).1⟩, vk_OFof q1 (va_eqt (hw (.eq (.field (.string q.1 q.2.1) "java/lang/String" "coder" "B") (.int 0)) (List.mem_append_left _ (List.mem_of_getElem? (i := 1) rfl)))) hA, vk_OFof q1 ht hA, hT⟩
/-- where the texts lie -/
noncomputable def kAt (args : Array Value) (s : State) : String → Nat → Nat := fun C i => Classical.epsilon fun a => (Term.string C i).eval args s none [] s = some (.ref a)
theorem kAt_eq {s : State} {args : Array Value} {C : String} {i a : Nat} (h : (Term.string C i).eval args s none [] s = some (.ref a)) : kAt args s C i = a := by
  have h2 := Classical.epsilon_spec (p := fun a => (Term.string C i).eval args s none [] s = some (.ref a)) ⟨a, h⟩
  exact (Value.ref.inj (Option.some.inj (h.symm.trans h2))).symm
theorem s_nc {args : Array Value} {s : State} {w : Cond} (hF : ∀ w ∈ FLT, w.before args s = true) (i : Nat) (h : FLT[i]? = some w) : w.before args s = true := hF w (List.mem_of_getElem? h)
theorem f_cs : FLT[4]? = some (.eq (.static "java/lang/String" "COMPACT_STRINGS" "Z") (.int 1)) := by decide +kernel
theorem f_si : FLT[5]? = some (.isRef (.static "jdk/internal/util/Preconditions" "SIOOBE_FORMATTER" "Ljava/util/function/BiFunction;")) := by decide +kernel
theorem f_un : FLT[215]? = some (.isRef (.static Bundle.tN "UNASSIGNED_STACK" Bundle.steD)) := by decide +kernel
theorem f_se : FLT[216]? = some (.isRef (.static Bundle.tN "SUPPRESSED_SENTINEL" Bundle.listD)) := by decide +kernel
theorem f_n0 : FLT[230]? = some (.not (.castable "java/lang/IllegalArgumentException" "java/lang/IndexOutOfBoundsException")) := by decide +kernel
theorem f_n1 : FLT[232]? = some (.not (.castable "java/lang/IllegalStateException" "java/lang/IndexOutOfBoundsException")) := by decide +kernel
theorem f_n2 : FLT[251]? = some (.not (.castable "java/lang/IllegalStateException" "java/lang/IllegalArgumentException")) := by decide +kernel
theorem s_cmp {s : State} {args : Array Value} {A : Nat → Prop} (hF : ∀ w ∈ FLT, w.before args s = true) (hts : ∀ w ∈ lw_tbl, w.before args s = true) (hA : ∀ a : Nat, a < s.heap.size → ¬ A a) : cmpS A s s.heap :=
  ⟨va_Zof (hts (.laysStatic "java/lang/String" "COMPACT_STRINGS" "Z") (by decide +kernel)) (hts (.initialized "java/lang/String") (by decide +kernel)) (va_eqi (s_nc hF _ f_cs)) hA, va_Zqof (hts (.laysStatic "jdk/internal/util/Preconditions" "SIOOBE_FORMATTER" "Ljava/util/function/BiFunction;") (by decide +kernel)) (hts (.initialized "jdk/internal/util/Preconditions") (by decide +kernel)) (s_nc hF _ f_si) hA, vx_Zqof (hts (.laysStatic Bundle.tN "UNASSIGNED_STACK" Bundle.steD) (by decide +kernel)) (hts (.initialized Bundle.tN) (by decide +kernel)) (s_nc hF _ f_un) hA, vx_Zqof (hts (.laysStatic Bundle.tN "SUPPRESSED_SENTINEL" Bundle.listD) (by decide +kernel)) (hts (.initialized Bundle.tN) (by decide +kernel)) (s_nc hF _ f_se) hA⟩
theorem s_kE {s : State} {args : Array Value} {A : Nat → Prop} (hF : ∀ w ∈ FLT, w.before args s = true) (hts : ∀ w ∈ lw_tbl, w.before args s = true) (hA : ∀ a : Nat, a < s.heap.size → ¬ A a) : kE kTab (kAt args s) A s s.heap := ⟨fun q hq => by
  obtain ⟨a, h1, h2⟩ := s_text hF hA hq
  rw [kAt_eq h1]
  exact h2, s_cmp hF hts hA⟩
theorem xK_tab {w : Cond} (h : xKind w = true) : w.onTables = true := by
  cases w <;> first | rfl | (simp [xKind] at h)
theorem s_kR {s : State} {args : Array Value} (hF : ∀ w ∈ FLT, w.before args s = true) (hts : ∀ w ∈ lw_tbl, w.before args s = true) : kR kTab (kAt args s) s := ⟨fun q hq => by
  obtain ⟨a, h1, h2⟩ := s_text (A := fun q => s.heap.size ≤ q) hF (fun a h z => absurd h (Nat.not_lt.mpr z)) hq
  rw [kAt_eq h1]
  exact vk_R.of (hts _ (kTab_ref q hq)) h1, fun w hw => va_Nw.of (xK_tab (List.mem_filter.mp hw).2) (hts w (List.mem_filter.mp hw).1), va_Nc.of (s_nc hF _ f_n0), va_Nc.of (s_nc hF _ f_n1), va_Nc.of (s_nc hF _ f_n2), va_Nw.of (A := args) rfl (sel_priv (n := 4) ⟨by decide, by decide⟩ (hts (.instantiable "java/lang/StringBuilder" 4) (by decide +kernel)) (hts (.privateMethod yJ5_ensureCapacityInternal_d00df) (by decide +kernel)) (hts (.instanceMethod yJ5_ensureCapacityInternal_d00df) (by decide +kernel)) (hts (.sameMethod "java/lang/AbstractStringBuilder" "java/lang/AbstractStringBuilder" "ensureCapacityInternal" "(I)V") (by decide +kernel)))⟩
theorem s_aOK {s : State} {args : Array Value} (hts : ∀ w ∈ lw_tbl, w.before args s = true) : aOK s := ⟨va_AO.of (hts _ (by decide +kernel)), va_AO.of (hts _ (by decide +kernel)), va_AO.of (hts _ (by decide +kernel)), va_AO.of (hts _ (by decide +kernel))⟩
theorem s_arr {s : State} {args : Array Value} {ty : FieldType} (h : (Cond.arrayClass ty).before args s = true) (hra : ∀ cA, va_RA s cA ty = (s.vm.findClass ("[" ++ ty.toString) = some cA)) : ∃ cA, ArrOfT s cA ty ∧ va_RA s cA ty := by
  obtain ⟨c, k, comp, h1, h2, h3⟩ := Cond.arrayClass_spec h
  exact ⟨c, fun n z => ⟨fun k h => (by cases h), k, h2, comp, h3⟩, by rw [hra]; exact h1⟩
theorem s_arq {s : State} {C : String} (h : va_AO C s) : ∃ cA, ArrOfT s cA (.object C) ∧ va_RA s cA (.object C) := by
  obtain ⟨comp, c, k, h1, h2, h3, h4, h5⟩ := Cond.arrayOver_spec (va_AO.use (A := #[]) h)
  exact ⟨c, fun n z => ⟨fun k h => (by cases h), k, h3, comp, h4⟩, k, comp, h3, h4, h1, h5⟩
theorem s_kn {s : State} {args : Array Value} (hts : ∀ w ∈ lw_tbl, w.before args s = true) : ∃ (dC : Nat → ClassId) (dI : Nat → Nat → Nat), ∀ (k : Nat) (q : vw_C), vwCl[k]? = some q → u_Kn s q.1 q.2.1 q.2.2 (dC k) (dI k) := by
  have h : ∀ k : Nat, ∃ z : ClassId × (Nat → Nat), ∀ q : vw_C, vwCl[k]? = some q → u_Kn s q.1 q.2.1 q.2.2 z.1 z.2 := by
    intro k
    by_cases hk : k < 16
    · rcases (show k = 0 ∨ k = 1 ∨ k = 2 ∨ k = 3 ∨ k = 4 ∨ k = 5 ∨ k = 6 ∨ k = 7 ∨ k = 8 ∨ k = 9 ∨ k = 10 ∨ k = 11 ∨ k = 12 ∨ k = 13 ∨ k = 14 ∨ k = 15 by omega) with e | e | e | e | e | e | e | e | e | e | e | e | e | e | e | e <;> subst e
      · obtain ⟨c, iS, h⟩ := u_known (C := RJ0) (T := TJ0) (N := 4) (n := 4) hts (fun w hw => (List.mem_filter.mp (cinJ0 w hw)).1) (hts (.instantiable RJ0 4) (by decide +kernel))
        exact ⟨(c, iS), fun q hq => by cases hq; exact h⟩
      · obtain ⟨c, iS, h⟩ := u_known (C := RJ4) (T := TJ4) (N := 4) (n := 4) hts (fun w hw => (List.mem_filter.mp (cinJ4 w hw)).1) (hts (.instantiable RJ4 4) (by decide +kernel))
        exact ⟨(c, iS), fun q hq => by cases hq; exact h⟩
      · obtain ⟨c, iS, h⟩ := u_known (C := RJx00060) (T := TJx00060) (N := 6) (n := 6) hts (by decide +kernel) (hts (.instantiable RJx00060 6) (by decide +kernel))
        exact ⟨(c, iS), fun q hq => by cases hq; exact h⟩
      · obtain ⟨c, iS, h⟩ := u_known (C := RJx7c733) (T := TJx7c733) (N := 6) (n := 6) hts (by decide +kernel) (hts (.instantiable RJx7c733 6) (by decide +kernel))
        exact ⟨(c, iS), fun q hq => by cases hq; exact h⟩
      · obtain ⟨c, iS, h⟩ := u_known (C := RX0) (T := TX0) (N := 6) (n := 6) hts (fun w hw => (List.mem_filter.mp (cinX0 w hw)).1) (hts (.instantiable RX0 6) (by decide +kernel))
        exact ⟨(c, iS), fun q hq => by cases hq; exact h⟩
      · obtain ⟨c, iS, h⟩ := u_known (C := RX1) (T := TX1) (N := 5) (n := 5) hts (fun w hw => (List.mem_filter.mp (cinX1 w hw)).1) (hts (.instantiable RX1 5) (by decide +kernel))
        exact ⟨(c, iS), fun q hq => by cases hq; exact h⟩
      · obtain ⟨c, iS, h⟩ := u_known (C := RX2) (T := TX2) (N := 13) (n := 13) hts (fun w hw => (List.mem_filter.mp (cinX2 w hw)).1) (hts (.instantiable RX2 13) (by decide +kernel))
        exact ⟨(c, iS), fun q hq => by cases hq; exact h⟩
      · obtain ⟨c, iS, h⟩ := u_known (C := RX3) (T := TX3) (N := 2) (n := 2) hts (fun w hw => (List.mem_filter.mp (cinX3 w hw)).1) (hts (.instantiable RX3 2) (by decide +kernel))
        exact ⟨(c, iS), fun q hq => by cases hq; exact h⟩
      · obtain ⟨c, iS, h⟩ := u_known (C := RX4) (T := TX4) (N := 5) (n := 5) hts (fun w hw => (List.mem_filter.mp (cinX4 w hw)).1) (hts (.instantiable RX4 5) (by decide +kernel))
        exact ⟨(c, iS), fun q hq => by cases hq; exact h⟩
      · obtain ⟨c, iS, h⟩ := u_known (C := RX5) (T := TX5) (N := 6) (n := 6) hts (fun w hw => (List.mem_filter.mp (cinX5 w hw)).1) (hts (.instantiable RX5 6) (by decide +kernel))
        exact ⟨(c, iS), fun q hq => by cases hq; exact h⟩
      · obtain ⟨c, iS, h⟩ := u_known (C := RX6) (T := TX6) (N := 2) (n := 2) hts (fun w hw => (List.mem_filter.mp (cinX6 w hw)).1) (hts (.instantiable RX6 2) (by decide +kernel))
        exact ⟨(c, iS), fun q hq => by cases hq; exact h⟩
      · obtain ⟨c, iS, h⟩ := u_known (C := RX7) (T := TX7) (N := 2) (n := 2) hts (fun w hw => (List.mem_filter.mp (cinX7 w hw)).1) (hts (.instantiable RX7 2) (by decide +kernel))
        exact ⟨(c, iS), fun q hq => by cases hq; exact h⟩
      · obtain ⟨c, iS, h⟩ := u_known (C := RX8) (T := TX8) (N := 9) (n := 9) hts (fun w hw => (List.mem_filter.mp (cinX8 w hw)).1) (hts (.instantiable RX8 9) (by decide +kernel))
        exact ⟨(c, iS), fun q hq => by cases hq; exact h⟩
      · obtain ⟨c, iS, h⟩ := u_known (C := RX9) (T := TX9) (N := 8) (n := 8) hts (fun w hw => (List.mem_filter.mp (cinX9 w hw)).1) (hts (.instantiable RX9 8) (by decide +kernel))
        exact ⟨(c, iS), fun q hq => by cases hq; exact h⟩
      · obtain ⟨c, iS, h⟩ := u_known (C := RX10) (T := TX10) (N := 12) (n := 12) hts (fun w hw => (List.mem_filter.mp (cinX10 w hw)).1) (hts (.instantiable RX10 12) (by decide +kernel))
        exact ⟨(c, iS), fun q hq => by cases hq; exact h⟩
      · obtain ⟨c, iS, h⟩ := u_known (C := RX11) (T := TX11) (N := 25) (n := 25) hts (fun w hw => (List.mem_filter.mp (inG11 w hw)).1) (hts (.instantiable RX11 25) (by decide +kernel))
        exact ⟨(c, iS), fun q hq => by cases hq; exact h⟩
    · exact ⟨(0, fun _ => 0), fun q hq => absurd (List.getElem?_eq_some_iff.mp hq).1 hk⟩
  obtain ⟨f, hf⟩ := Classical.axiomOfChoice h
  exact ⟨fun k => (f k).1, fun k => (f k).2, fun k q hq => hf k q hq⟩
theorem s_K {s : State} {args : Array Value} (hts : ∀ w ∈ lw_tbl, w.before args s = true) : ∃ (dC : Nat → ClassId) (dI : Nat → Nat → Nat) (cg : Nat → ClassId), va_K (dC, dI) vwCl (cTy cg) s := by
  obtain ⟨dC, dI, h⟩ := s_kn hts
  obtain ⟨a1, a2, a3, a4⟩ := s_aOK hts
  obtain ⟨c0, x0⟩ := s_arr (hts (.arrayClass .int) (by decide +kernel)) (fun _ => rfl)
  obtain ⟨c1, x1⟩ := s_arr (hts (.arrayClass .byte) (by decide +kernel)) (fun _ => rfl)
  obtain ⟨c2, x2⟩ := s_arq a1
  obtain ⟨c3, x3⟩ := s_arq a2
  obtain ⟨c4, x4⟩ := s_arq a3
  obtain ⟨c5, x5⟩ := s_arq a4
  refine ⟨dC, dI, fun k => [c0, c1, c2, c3, c4, c5].getD k 0, h, fun k q hq => ?_⟩
  have hk : k < 6 := (List.getElem?_eq_some_iff.mp hq).1
  rcases (show k = 0 ∨ k = 1 ∨ k = 2 ∨ k = 3 ∨ k = 4 ∨ k = 5 by omega) with e | e | e | e | e | e <;> subst e <;> cases hq
  · exact x0
  · exact x1
  · exact x2
  · exact x3
  · exact x4
  · exact x5
