
/-! what the Statement gives at the start -/
def FLT : List Cond := flatC (Cond.and given_1 narrow_1)
def sbl : List Cond → List Cond → Bool
  | [], _ => true
  | _ :: _, [] => false
  | a :: as, b :: bs => if a = b then sbl as bs else sbl (a :: as) bs
theorem sbl_mem : ∀ (l2 l1 : List Cond), sbl l1 l2 = true → ∀ w ∈ l1, w ∈ l2 := by
  intro l2
  induction l2 with
  | nil =>
    intro l1 h w hw
    cases l1 with
    | nil => cases hw
    | cons a as => simp [sbl] at h
  | cons b bs ih =>
    intro l1 h w hw
    cases l1 with
    | nil => cases hw
    | cons a as =>
      unfold sbl at h
      by_cases e : a = b
      · rw [if_pos e] at h
        rcases List.mem_cons.mp hw with rfl | hw
        · rw [e]; exact List.mem_cons_self
        · exact List.mem_cons_of_mem _ (ih as h w hw)
      · rw [if_neg e] at h
        exact List.mem_cons_of_mem _ (ih _ h w hw)
def sV (q : String × Nat × String × List Int32) : Term := .field (.string q.1 q.2.1) "java/lang/String" "value" "[B"
def sW (q : String × Nat × String × List Int32) : List Cond := [.exactly (.string q.1 q.2.1) "java/lang/String", .eq (.field (.string q.1 q.2.1) "java/lang/String" "coder" "B") (.int 0), .arrayOf (sV q) .byte, .eq (.length (sV q)) (.int (Int32.ofNat q.2.2.2.length))] ++ (List.range q.2.2.2.length).map fun j => .eq (.elem (sV q) (.int (Int32.ofNat j))) (.int (q.2.2.2.getD j 0))
def sPerm : List Nat := [5, 6, 0, 7, 12, 13, 8, 14, 15, 9, 10, 11, 1, 2, 4, 3, 16, 17, 18, 19, 20, 21, 22, 23, 24]
set_option maxRecDepth 100000 in
theorem sW_sub : sbl ((sPerm.filterMap fun i => kTab[i]?).flatMap sW) FLT = true := by decide +kernel
theorem sPerm_all : ∀ q ∈ kTab, q ∈ sPerm.filterMap fun i => kTab[i]? := by decide +kernel
theorem kTab_ok : ∀ q ∈ kTab, (∀ b ∈ q.2.2.2, ∃ k : Fin 128, b = Int32.ofNat k.val) ∧ q.2.2.2.length < 2 ^ 31 := by decide +kernel
theorem kTab_ref : ∀ q ∈ kTab, Cond.stringRef q.1 q.2.1 q.2.2.1 ∈ lw_tbl := by decide +kernel
theorem s_text {s : State} {args : Array Value} {A : Nat → Prop} (hF : ∀ w ∈ FLT, w.before args s = true) (hA : ∀ a : Nat, a < s.heap.size → ¬ A a) {q : String × Nat × String × List Int32} (hq : q ∈ kTab) : ∃ a, (Term.string q.1 q.2.1).eval args s none [] s = some (.ref a) ∧ strAt a q.2.2.2 A s s.heap := by
  have hw : ∀ w ∈ sW q, w.before args s = true := fun w h => hF w (sbl_mem _ _ sW_sub w (List.mem_flatMap.mpr ⟨q, sPerm_all q hq, h⟩))
  obtain ⟨h1, h2⟩ := kTab_ok q hq
  obtain ⟨a, c, cA, kA, q1, q2, q3, q4, q5, q6, -⟩ := Cond.exactly_spec (args := args) (first := s) (o := none) (s := s) (idx := []) (t := .string q.1 q.2.1) (cls := "java/lang/String") (hw _ (List.mem_append_left _ List.mem_cons_self))
  obtain ⟨t, ht, hT⟩ := va_Tof (f := fun j => .int (q.2.2.2.getD j 0)) (A := A) h2 (hw (.arrayOf (sV q) .byte) (List.mem_append_left _ (List.mem_of_getElem? (i := 2) rfl))) (va_eqt (hw (.eq (.length (sV q)) (.int (Int32.ofNat q.2.2.2.length))) (List.mem_append_left _ (List.mem_of_getElem? (i := 3) rfl)))) (fun j hj => va_eqt (hw (.eq (.elem (sV q) (.int (Int32.ofNat j))) (.int (q.2.2.2.getD j 0))) (List.mem_append_right _ (List.mem_map.mpr ⟨j, List.mem_range.mpr hj, rfl⟩)))) hA
  exact ⟨a, q1, h1, h2, t, ⟨cA, q3, q5, by rw [q6]; exact q2, hA a (Array.getElem?_eq_some_iff.mp q3).1⟩, vk_OFof q1 (va_eqt (hw (.eq (.field (.string q.1 q.2.1) "java/lang/String" "coder" "B") (.int 0)) (List.mem_append_left _ (List.mem_of_getElem? (i := 1) rfl)))) hA, vk_OFof q1 ht hA, hT⟩
/-- where the texts lie -/
noncomputable def kAt (args : Array Value) (s : State) : String → Nat → Nat := fun C i => Classical.epsilon fun a => (Term.string C i).eval args s none [] s = some (.ref a)
theorem kAt_eq {s : State} {args : Array Value} {C : String} {i a : Nat} (h : (Term.string C i).eval args s none [] s = some (.ref a)) : kAt args s C i = a := by
  have h2 := Classical.epsilon_spec (p := fun a => (Term.string C i).eval args s none [] s = some (.ref a)) ⟨a, h⟩
  exact (Value.ref.inj (Option.some.inj (h.symm.trans h2))).symm
theorem s_nc {args : Array Value} {s : State} {w : Cond} (hF : ∀ w ∈ FLT, w.before args s = true) (i : Nat) (h : FLT[i]? = some w) : w.before args s = true := hF w (List.mem_of_getElem? h)
def tDE : Term := .static "java/util/ArrayList" "DEFAULTCAPACITY_EMPTY_ELEMENTDATA" "[Ljava/lang/Object;"
def tCA : Term := .static "java/lang/Integer$IntegerCache" "cache" "[Ljava/lang/Integer;"
def tDO : Term := .static "java/lang/Integer" "DigitOnes" "[B"
def tDT : Term := .static "java/lang/Integer" "DigitTens" "[B"
theorem f_cs : FLT[4]? = some (.eq (.static "java/lang/String" "COMPACT_STRINGS" "Z") (.int 1)) := by decide +kernel
theorem f_si : FLT[5]? = some (.isRef (.static "jdk/internal/util/Preconditions" "SIOOBE_FORMATTER" "Ljava/util/function/BiFunction;")) := by decide +kernel
theorem f_un : FLT[13]? = some (.isRef (.static Bundle.tN "UNASSIGNED_STACK" Bundle.steD)) := by decide +kernel
theorem f_se : FLT[14]? = some (.isRef (.static Bundle.tN "SUPPRESSED_SENTINEL" Bundle.listD)) := by decide +kernel
theorem f_d1 : FLT[10]? = some (.arrayOf tDE (.object "java/lang/Object")) := by decide +kernel
theorem f_d2 : FLT[12]? = some (.eq (.length tDE) (.int 0)) := by decide +kernel
theorem f_i1 : FLT[15]? = some (.eq (.static "java/lang/Integer$IntegerCache" "high" "I") (.int 127)) := by decide +kernel
theorem f_i2 : FLT[17]? = some (.arrayOf tCA (.object "java/lang/Integer")) := by decide +kernel
theorem f_i3 : FLT[18]? = some (.eq (.length tCA) (.int 256)) := by decide +kernel
def cCA : Cond := .and (.exactly (.elem tCA (.index 0)) "java/lang/Integer") (.eq (.field (.elem tCA (.index 0)) "java/lang/Integer" "value" "I") (.sub (.index 0) (.int 128)))
theorem f_i4 : FLT[19]? = some (.all tCA cCA) := by decide +kernel
theorem f_o1 : FLT[21]? = some (.arrayOf tDO .byte) := by decide +kernel
theorem f_o2 : FLT[22]? = some (.eq (.length tDO) (.int 100)) := by decide +kernel
theorem f_o3 : ∀ j : Fin 100, FLT[23 + j.val]? = some (.eq (.elem tDO (.int (Int32.ofNat j.val))) (.int (nI (48 + j.val % 10)))) := by decide +kernel
theorem f_t1 : FLT[124]? = some (.arrayOf tDT .byte) := by decide +kernel
theorem f_t2 : FLT[125]? = some (.eq (.length tDT) (.int 100)) := by decide +kernel
theorem f_t3 : ∀ j : Fin 100, FLT[126 + j.val]? = some (.eq (.elem tDT (.int (Int32.ofNat j.val))) (.int (nI (48 + j.val / 10)))) := by decide +kernel
theorem s_cmp {s : State} {args : Array Value} {A : Nat → Prop} (hF : ∀ w ∈ FLT, w.before args s = true) (hts : ∀ w ∈ lw_tbl, w.before args s = true) (hA : ∀ a : Nat, a < s.heap.size → ¬ A a) : cmpS A s s.heap :=
  ⟨va_Zof (hts (.laysStatic "java/lang/String" "COMPACT_STRINGS" "Z") (by decide +kernel)) (hts (.initialized "java/lang/String") (by decide +kernel)) (va_eqi (s_nc hF _ f_cs)) hA, va_Zqof (hts (.laysStatic "jdk/internal/util/Preconditions" "SIOOBE_FORMATTER" "Ljava/util/function/BiFunction;") (by decide +kernel)) (hts (.initialized "jdk/internal/util/Preconditions") (by decide +kernel)) (s_nc hF _ f_si) hA, vx_Zqof (hts (.laysStatic Bundle.tN "UNASSIGNED_STACK" Bundle.steD) (by decide +kernel)) (hts (.initialized Bundle.tN) (by decide +kernel)) (s_nc hF _ f_un) hA, vx_Zqof (hts (.laysStatic Bundle.tN "SUPPRESSED_SENTINEL" Bundle.listD) (by decide +kernel)) (hts (.initialized Bundle.tN) (by decide +kernel)) (s_nc hF _ f_se) hA⟩
theorem s_kE {s : State} {args : Array Value} {A : Nat → Prop} (hF : ∀ w ∈ FLT, w.before args s = true) (hts : ∀ w ∈ lw_tbl, w.before args s = true) (hA : ∀ a : Nat, a < s.heap.size → ¬ A a) : kE kTab (kAt args s) A s s.heap := ⟨fun q hq => by
  obtain ⟨a, h1, h2⟩ := s_text hF hA hq
  rw [kAt_eq h1]
  exact h2, s_cmp hF hts hA⟩
theorem xK_tab {w : Cond} (h : xKind w = true) : w.onTables = true := by
  cases w <;> first | rfl | (simp [xKind] at h)
theorem fw_tbl : ∀ q ∈ fwT, Cond.declares q.2.1 ∈ lw_tbl ∧ Cond.interfaceMethod q.2.1.cls q.2.1.cls q.2.1.name q.2.1.desc ∈ lw_tbl ∧ Cond.publicMethod q.2.2 ∈ lw_tbl ∧ Cond.unhidden q.1 q.2.1.name q.2.1.desc ∈ lw_tbl ∧ Cond.castable q.1 q.2.1.cls ∈ lw_tbl := by decide +kernel
theorem s_kR {s : State} {args : Array Value} (hF : ∀ w ∈ FLT, w.before args s = true) (hts : ∀ w ∈ lw_tbl, w.before args s = true) : kR kTab (kAt args s) s := ⟨fun q hq => by
  obtain ⟨a, h1, h2⟩ := s_text (A := fun q => s.heap.size ≤ q) hF (fun a h z => absurd h (Nat.not_lt.mpr z)) hq
  rw [kAt_eq h1]
  exact vk_R.of (hts _ (kTab_ref q hq)) h1, fun w hw => va_Nw.of (xK_tab (List.mem_filter.mp hw).2) (hts w (List.mem_filter.mp hw).1), fun w hw => by
  simp only [sbWs, List.mem_cons, List.not_mem_nil, or_false] at hw
  rcases hw with rfl | rfl | rfl | rfl
  · exact va_Nw.of (A := args) rfl (sel_priv (n := 4) ⟨by decide, by decide⟩ (hts (.instantiable "java/lang/StringBuilder" 4) (by decide +kernel)) (hts (.privateMethod yJ5_ensureCapacityInternal_d00df) (by decide +kernel)) (hts (.instanceMethod yJ5_ensureCapacityInternal_d00df) (by decide +kernel)) (hts (.sameMethod "java/lang/AbstractStringBuilder" "java/lang/AbstractStringBuilder" "ensureCapacityInternal" "(I)V") (by decide +kernel)))
  · exact va_Nw.of (A := args) rfl (sel_priv (n := 4) ⟨by decide, by decide⟩ (hts (.instantiable "java/lang/StringBuilder" 4) (by decide +kernel)) (hts (.privateMethod yJ5_newCapacity_0f7a4) (by decide +kernel)) (hts (.instanceMethod yJ5_newCapacity_0f7a4) (by decide +kernel)) (hts (.sameMethod "java/lang/AbstractStringBuilder" "java/lang/AbstractStringBuilder" "newCapacity" "(I)I") (by decide +kernel)))
  · exact va_Nw.of (A := args) rfl (sel_priv (n := 4) ⟨by decide, by decide⟩ (hts (.instantiable "java/lang/StringBuilder" 4) (by decide +kernel)) (hts (.privateMethod yJ5_putStringAt_47b60) (by decide +kernel)) (hts (.instanceMethod yJ5_putStringAt_47b60) (by decide +kernel)) (hts (.sameMethod "java/lang/AbstractStringBuilder" "java/lang/AbstractStringBuilder" "putStringAt" "(ILjava/lang/String;)V") (by decide +kernel)))
  · exact va_Nw.of (A := args) rfl (sel_priv (n := 4) ⟨by decide, by decide⟩ (hts (.instantiable "java/lang/StringBuilder" 4) (by decide +kernel)) (hts (.privateMethod yJ5_inflateIfNeededFor_a7421) (by decide +kernel)) (hts (.instanceMethod yJ5_inflateIfNeededFor_a7421) (by decide +kernel)) (hts (.sameMethod "java/lang/AbstractStringBuilder" "java/lang/AbstractStringBuilder" "inflateIfNeededFor" "(Ljava/lang/String;)V") (by decide +kernel))), fun q hq => by
  have hw := fw_tbl q hq
  exact va_Fw.of (hts _ hw.1) (hts _ hw.2.1) (hts _ hw.2.2.1) (hts _ hw.2.2.2.1) (hts _ hw.2.2.2.2)⟩
theorem s_aOK {s : State} {args : Array Value} (hts : ∀ w ∈ lw_tbl, w.before args s = true) : aOK s := ⟨va_AO.of (hts _ (by decide +kernel)), va_AO.of (hts _ (by decide +kernel)), va_AO.of (hts _ (by decide +kernel)), va_AO.of (hts _ (by decide +kernel))⟩
theorem s_aob {s : State} {args : Array Value} (hts : ∀ w ∈ lw_tbl, w.before args s = true) : va_AO "java/lang/Object" s := va_AO.of (hts _ (by decide +kernel))
theorem s_arr {s : State} {args : Array Value} {ty : FieldType} (h : (Cond.arrayClass ty).before args s = true) (hra : ∀ cA, va_RA s cA ty = (s.vm.findClass ("[" ++ ty.toString) = some cA)) : ∃ cA, ArrOfT s cA ty ∧ va_RA s cA ty := by
  obtain ⟨c, k, comp, h1, h2, h3⟩ := Cond.arrayClass_spec h
  exact ⟨c, fun n z => ⟨fun k h => (by cases h), k, h2, comp, h3⟩, by rw [hra]; exact h1⟩
theorem s_arq {s : State} {C : String} (h : va_AO C s) : ∃ cA, ArrOfT s cA (.object C) ∧ va_RA s cA (.object C) := by
  obtain ⟨comp, c, k, h1, h2, h3, h4, h5⟩ := Cond.arrayOver_spec (va_AO.use (A := #[]) h)
  exact ⟨c, fun n z => ⟨fun k h => (by cases h), k, h3, comp, h4⟩, k, comp, h3, h4, h1, h5⟩
theorem s_kn {s : State} {args : Array Value} (hts : ∀ w ∈ lw_tbl, w.before args s = true) : ∃ (dC : Nat → ClassId) (dI : Nat → Nat → Nat), ∀ (k : Nat) (q : vw_C), vwCl[k]? = some q → u_Kn s q.1 q.2.1 q.2.2 (dC k) (dI k) := by
  have h : ∀ k : Nat, ∃ z : ClassId × (Nat → Nat), ∀ q : vw_C, vwCl[k]? = some q → u_Kn s q.1 q.2.1 q.2.2 z.1 z.2 := by
    intro k
    by_cases hk : k < 19
    · rcases (show k = 0 ∨ k = 1 ∨ k = 2 ∨ k = 3 ∨ k = 4 ∨ k = 5 ∨ k = 6 ∨ k = 7 ∨ k = 8 ∨ k = 9 ∨ k = 10 ∨ k = 11 ∨ k = 12 ∨ k = 13 ∨ k = 14 ∨ k = 15 ∨ k = 16 ∨ k = 17 ∨ k = 18 by omega) with e | e | e | e | e | e | e | e | e | e | e | e | e | e | e | e | e | e | e <;> subst e
      · obtain ⟨c, iS, h⟩ := u_known (C := RJ0) (T := TJ0) (N := 4) (n := 4) hts (fun w hw => (List.mem_filter.mp (cinJ0 w hw)).1) (hts (.instantiable RJ0 4) (by decide +kernel))
        exact ⟨(c, iS), fun q hq => by cases hq; exact h⟩
      · obtain ⟨c, iS, h⟩ := u_known (C := RJ4) (T := TJ4) (N := 4) (n := 4) hts (fun w hw => (List.mem_filter.mp (cinJ4 w hw)).1) (hts (.instantiable RJ4 4) (by decide +kernel))
        exact ⟨(c, iS), fun q hq => by cases hq; exact h⟩
      · obtain ⟨c, iS, h⟩ := u_known (C := RJ6) (T := TJ6) (N := 1) (n := 1) hts (fun w hw => (List.mem_filter.mp (cinJ6 w hw)).1) (hts (.instantiable RJ6 1) (by decide +kernel))
        exact ⟨(c, iS), fun q hq => by cases hq; exact h⟩
      · obtain ⟨c, iS, h⟩ := u_known (C := RJx35411) (T := TJx35411) (N := 4) (n := 4) hts (fun w hw => (List.mem_filter.mp (cinJx35411 w hw)).1) (hts (.instantiable RJx35411 4) (by decide +kernel))
        exact ⟨(c, iS), fun q hq => by cases hq; exact h⟩
      · obtain ⟨c, iS, h⟩ := u_known (C := RJx4a65c) (T := TJx4a65c) (N := 3) (n := 3) hts (fun w hw => (List.mem_filter.mp (cinJx4a65c w hw)).1) (hts (.instantiable RJx4a65c 3) (by decide +kernel))
        exact ⟨(c, iS), fun q hq => by cases hq; exact h⟩
      · obtain ⟨c, iS, h⟩ := u_known (C := RX0) (T := TX0) (N := 6) (n := 6) hts (fun w hw => (List.mem_filter.mp (cinX0 w hw)).1) (hts (.instantiable RX0 6) (by decide +kernel))
        exact ⟨(c, iS), fun q hq => by cases hq; exact h⟩
      · obtain ⟨c, iS, h⟩ := u_known (C := RX1) (T := TX1) (N := 5) (n := 5) hts (fun w hw => (List.mem_filter.mp (cinX1 w hw)).1) (hts (.instantiable RX1 5) (by decide +kernel))
        exact ⟨(c, iS), fun q hq => by cases hq; exact h⟩
      · obtain ⟨c, iS, h⟩ := u_known (C := RX2) (T := TX2) (N := 13) (n := 13) hts (fun w hw => (List.mem_filter.mp (cinX2 w hw)).1) (hts (.instantiable RX2 13) (by decide +kernel))
        exact ⟨(c, iS), fun q hq => by cases hq; exact h⟩
      · obtain ⟨c, iS, h⟩ := u_known (C := RX3) (T := TX3) (N := 2) (n := 2) hts (fun w hw => (List.mem_filter.mp (cinX3 w hw)).1) (hts (.instantiable RX3 2) (by decide +kernel))
        exact ⟨(c, iS), fun q hq => by cases hq; exact h⟩
      · obtain ⟨c, iS, h⟩ := u_known (C := RX4) (T := TX4) (N := 5) (n := 5) hts (fun w hw => (List.mem_filter.mp (cinX4 w hw)).1) (hts (.instantiable RX4 5) (by decide +kernel))
        exact ⟨(c, iS), fun q hq => by cases hq; exact h⟩
      · obtain ⟨c, iS, h⟩ := u_known (C := RX5) (T := TX5) (N := 6) (n := 6) hts (fun w hw => (List.mem_filter.mp (cinX5 w hw)).1) (hts (.instantiable RX5 6) (by decide +kernel))
        exact ⟨(c, iS), fun q hq => by cases hq; exact h⟩
      · obtain ⟨c, iS, h⟩ := u_known (C := RX6) (T := TX6) (N := 2) (n := 2) hts (fun w hw => (List.mem_filter.mp (cinX6 w hw)).1) (hts (.instantiable RX6 2) (by decide +kernel))
        exact ⟨(c, iS), fun q hq => by cases hq; exact h⟩
      · obtain ⟨c, iS, h⟩ := u_known (C := RX7) (T := TX7) (N := 2) (n := 2) hts (fun w hw => (List.mem_filter.mp (cinX7 w hw)).1) (hts (.instantiable RX7 2) (by decide +kernel))
        exact ⟨(c, iS), fun q hq => by cases hq; exact h⟩
      · obtain ⟨c, iS, h⟩ := u_known (C := RX8) (T := TX8) (N := 9) (n := 9) hts (fun w hw => (List.mem_filter.mp (cinX8 w hw)).1) (hts (.instantiable RX8 9) (by decide +kernel))
        exact ⟨(c, iS), fun q hq => by cases hq; exact h⟩
      · obtain ⟨c, iS, h⟩ := u_known (C := RX9) (T := TX9) (N := 8) (n := 8) hts (fun w hw => (List.mem_filter.mp (cinX9 w hw)).1) (hts (.instantiable RX9 8) (by decide +kernel))
        exact ⟨(c, iS), fun q hq => by cases hq; exact h⟩
      · obtain ⟨c, iS, h⟩ := u_known (C := RX10) (T := TX10) (N := 12) (n := 12) hts (fun w hw => (List.mem_filter.mp (cinX10 w hw)).1) (hts (.instantiable RX10 12) (by decide +kernel))
        exact ⟨(c, iS), fun q hq => by cases hq; exact h⟩
      · obtain ⟨c, iS, h⟩ := u_known (C := RX11) (T := TX11) (N := 7) (n := 7) hts (fun w hw => (List.mem_filter.mp (cinX11 w hw)).1) (hts (.instantiable RX11 7) (by decide +kernel))
        exact ⟨(c, iS), fun q hq => by cases hq; exact h⟩
      · obtain ⟨c, iS, h⟩ := u_known (C := RX12) (T := TX12) (N := 15) (n := 15) hts (fun w hw => (List.mem_filter.mp (cinX12 w hw)).1) (hts (.instantiable RX12 15) (by decide +kernel))
        exact ⟨(c, iS), fun q hq => by cases hq; exact h⟩
      · obtain ⟨c, iS, h⟩ := u_known (C := RX13) (T := TX13) (N := 5) (n := 5) hts (fun w hw => (List.mem_filter.mp (cinX13 w hw)).1) (hts (.instantiable RX13 5) (by decide +kernel))
        exact ⟨(c, iS), fun q hq => by cases hq; exact h⟩
    · exact ⟨(0, fun _ => 0), fun q hq => absurd (List.getElem?_eq_some_iff.mp hq).1 hk⟩
  obtain ⟨f, hf⟩ := Classical.axiomOfChoice h
  exact ⟨fun k => (f k).1, fun k => (f k).2, fun k q hq => hf k q hq⟩
theorem s_K {s : State} {args : Array Value} (hts : ∀ w ∈ lw_tbl, w.before args s = true) : ∃ (dC : Nat → ClassId) (dI : Nat → Nat → Nat) (cg : Nat → ClassId), va_K (dC, dI) vwCl (cTy cg) s := by
  obtain ⟨dC, dI, h⟩ := s_kn hts
  obtain ⟨a1, a2, a3, a4⟩ := s_aOK hts
  obtain ⟨c0, x0⟩ := s_arr (hts (.arrayClass .int) (by decide +kernel)) (fun _ => rfl)
  obtain ⟨c1, x1⟩ := s_arr (hts (.arrayClass .byte) (by decide +kernel)) (fun _ => rfl)
  obtain ⟨c2, x2⟩ := s_arq a1
  obtain ⟨c3, x3⟩ := s_arq a2
  obtain ⟨c4, x4⟩ := s_arq a3
  obtain ⟨c5, x5⟩ := s_arq a4
  obtain ⟨c6, x6⟩ := s_arq (s_aob hts)
  refine ⟨dC, dI, fun k => [c0, c1, c2, c3, c4, c5, c6].getD k 0, h, fun k q hq => ?_⟩
  have hk : k < 7 := (List.getElem?_eq_some_iff.mp hq).1
  rcases (show k = 0 ∨ k = 1 ∨ k = 2 ∨ k = 3 ∨ k = 4 ∨ k = 5 ∨ k = 6 by omega) with e | e | e | e | e | e | e <;> subst e <;> cases hq
  · exact x0
  · exact x1
  · exact x2
  · exact x3
  · exact x4
  · exact x5
  · exact x6
theorem fold_all {f : Nat → Option Bool} : ∀ (n : Nat), (List.range n).foldl (fun acc i => match acc with | some true => f i | x => x) (some true) = some true → ∀ i, i < n → f i = some true
  | 0, _, i, hi => absurd hi (Nat.not_lt_zero i)
  | n + 1, h, i, hi => by
    rw [List.range_succ, List.foldl_append] at h
    have hx : (List.range n).foldl (fun acc i => match acc with | some true => f i | x => x) (some true) = some true := by
      cases hx : (List.range n).foldl (fun acc i => match acc with | some true => f i | x => x) (some true) with
      | none =>
        rw [hx] at h
        cases h
      | some b =>
        cases b with
        | true => rfl
        | false =>
          rw [hx] at h
          cases h
    rw [hx] at h
    have h : f n = some true := h
    by_cases e : i = n
    · rw [e]; exact h
    · exact fold_all n hx i (by omega)
theorem all_at {args : Array Value} {s : State} {tm : Term} {c : Cond} {a : Nat} {cell : Cell} (ht : tm.eval args s none [] s = some (.ref a)) (harr : s.arrayAt? a = some cell) (h : (Cond.all tm c).before args s = true) : ∀ j, j < cell.slots.size → c.value args s none s [j] = some true := by
  intro j hj
  simp only [Cond.before, Cond.holds, Cond.value, ht, harr, beq_iff_eq] at h
  exact fold_all _ h j hj
theorem and_val {args : Array Value} {first s : State} {o : Option Outcome} {idx : List Nat} {a b : Cond} (h : (Cond.and a b).value args first o s idx = some true) : a.value args first o s idx = some true ∧ b.value args first o s idx = some true := by
  cases ha : a.value args first o s idx with
  | none => simp [Cond.value, ha] at h
  | some x =>
    cases x with
    | false => simp [Cond.value, ha] at h
    | true =>
      simp [Cond.value, ha] at h
      exact ⟨rfl, h⟩
theorem s_dg {s : State} {args : Array Value} {A : Nat → Prop} (hF : ∀ w ∈ FLT, w.before args s = true) (hts : ∀ w ∈ lw_tbl, w.before args s = true) (hA : ∀ a : Nat, a < s.heap.size → ¬ A a) : ∃ dO dT : Nat, va_Z "java/lang/Integer" "DigitOnes" "[B" (.ref dO) A s s.heap ∧ va_Z "java/lang/Integer" "DigitTens" "[B" (.ref dT) A s s.heap ∧ va_T .byte dO 100 (fun j => .int (nI (48 + j % 10))) A s s.heap ∧ va_T .byte dT 100 (fun j => .int (nI (48 + j / 10))) A s s.heap := by
  obtain ⟨a, ha, hT⟩ := va_Tof (tm := tDO) (N := 100) (f := fun j => .int (nI (48 + j % 10))) (A := A) (by decide) (s_nc hF _ f_o1) (va_eqt (s_nc hF _ f_o2)) (fun j hj => va_eqt (s_nc hF _ (f_o3 ⟨j, hj⟩))) hA
  obtain ⟨a2, ha2, hT2⟩ := va_Tof (tm := tDT) (N := 100) (f := fun j => .int (nI (48 + j / 10))) (A := A) (by decide) (s_nc hF _ f_t1) (va_eqt (s_nc hF _ f_t2)) (fun j hj => va_eqt (s_nc hF _ (f_t3 ⟨j, hj⟩))) hA
  exact ⟨a, a2, va_Zof (hts (.laysStatic "java/lang/Integer" "DigitOnes" "[B") (by decide +kernel)) (hts (.initialized "java/lang/Integer") (by decide +kernel)) ha hA, va_Zof (hts (.laysStatic "java/lang/Integer" "DigitTens" "[B") (by decide +kernel)) (hts (.initialized "java/lang/Integer") (by decide +kernel)) ha2 hA, hT, hT2⟩
theorem s_je {s : State} {args : Array Value} {A : Nat → Prop} (hF : ∀ w ∈ FLT, w.before args s = true) (hts : ∀ w ∈ lw_tbl, w.before args s = true) (hA : ∀ a : Nat, a < s.heap.size → ¬ A a) : ∃ eA : Nat, va_Z "java/util/ArrayList" "DEFAULTCAPACITY_EMPTY_ELEMENTDATA" "[Ljava/lang/Object;" (.ref eA) A s s.heap ∧ va_T (.object "java/lang/Object") eA 0 (fun _ => .null) A s s.heap := by
  obtain ⟨a, ha, hT⟩ := va_Tof (tm := tDE) (N := 0) (f := fun _ => .null) (A := A) (by decide) (s_nc hF _ f_d1) (va_eqt (s_nc hF _ f_d2)) (fun j hj => absurd hj (Nat.not_lt_zero j)) hA
  exact ⟨a, va_Zof (hts (.laysStatic "java/util/ArrayList" "DEFAULTCAPACITY_EMPTY_ELEMENTDATA" "[Ljava/lang/Object;") (by decide +kernel)) (hts (.initialized "java/util/ArrayList") (by decide +kernel)) ha hA, hT⟩
theorem s_ic {s : State} {args : Array Value} {A : Nat → Prop} {dC : Nat → ClassId} {dI : Nat → Nat → Nat} {cg : Nat → ClassId} (hF : ∀ w ∈ FLT, w.before args s = true) (hts : ∀ w ∈ lw_tbl, w.before args s = true) (hA : ∀ a : Nat, a < s.heap.size → ¬ A a) (hK : va_K (dC, dI) vwCl (cTy cg) s) : ∃ (cA : Nat) (iA : Nat → Nat), va_Z "java/lang/Integer$IntegerCache" "high" "I" (.int 127) A s s.heap ∧ va_Z "java/lang/Integer$IntegerCache" "cache" "[Ljava/lang/Integer;" (.ref cA) A s s.heap ∧ (∃ cf : Nat → Value, va_T (.object "java/lang/Integer") cA 256 cf A s s.heap ∧ ∀ n, n ≤ 4 → cf (n + 128) = .ref (iA n)) ∧ ∀ n, n ≤ 4 → iA n < s.heap.size ∧ ixA dC dI (iA n) n s.heap := by
  have hlen := va_eqt (s_nc hF _ f_i3)
  obtain ⟨t, cell, ht, hat, hv⟩ := Term.length_spec hlen
  obtain ⟨hcell, hkn, -, -⟩ := State.arrayAt?_spec hat
  obtain ⟨hof, -⟩ := Cond.arrayOf_spec (s_nc hF _ f_i2) ht hcell
  have hv : (256 : Int32) = Int32.ofNat cell.slots.size := Value.int.inj hv
  have hsz : cell.slots.size < 2 ^ 31 := by
    refine Nat.not_le.mp (fun z => ?_)
    simp only [Term.eval, Option.bind_eq_bind, ht] at hlen
    have h2 : (s.arrayAt? t).bind (fun c => if c.slots.size < 2 ^ 31 then some (Value.int c.slots.size.toInt32) else none) = some (.int 256) := hlen
    rw [hat] at h2
    have h3 : (if cell.slots.size < 2 ^ 31 then some (Value.int cell.slots.size.toInt32) else none) = some (Value.int 256) := h2
    rw [if_neg (Nat.not_lt.mpr z)] at h3
    cases h3
  have h256 : cell.slots.size = 256 := by
    have h1 := congrArg Int32.toNatClampNeg hv
    have h2 : (Int32.ofNat cell.slots.size).toNatClampNeg = cell.slots.size := nI_c hsz
    have h3 : (256 : Int32).toNatClampNeg = 256 := by decide +kernel
    omega
  have hall := all_at ht hat (s_nc hF _ f_i4)
  have key : ∀ n, ∃ a, n ≤ 4 → cell.slots[n + 128]? = some (.ref a) ∧ a < s.heap.size ∧ ixA dC dI a n s.heap := fun n => by
    by_cases hn : n ≤ 4
    · obtain ⟨h1, h2⟩ := and_val (hall (n + 128) (by omega))
      obtain ⟨a, c, cell2, k, e1, e2, e3, e4, e5, e6, -⟩ := Cond.exactly_spec (args := args) (first := s) (o := none) (s := s) (idx := [n + 128]) (t := .elem tCA (.index 0)) (cls := "java/lang/Integer") (by simp only [Cond.holds, h1]; rfl)
      obtain ⟨a', j, cell', q1, q2, q3, q4, q5⟩ := Term.elem_spec e1
      have ht' : tCA.eval args s none [n + 128] s = some (.ref t) := ht
      cases ht'.symm.trans q1
      cases hat.symm.trans q3
      have hj : j = nI (n + 128) := by
        have e : (Term.index 0).eval args s none [n + 128] s = some (.int (nI (n + 128))) := rfl
        cases q2.symm.trans e
        rfl
      rw [hj, nI_c (by omega)] at q5
      have hlt := (Array.getElem?_eq_some_iff.mp e3).1
      obtain ⟨hS, hfc, kC, hkC, hkind⟩ := hK.1 2 _ (rfl : vwCl[2]? = some (RJ6, TJ6, 1))
      obtain ⟨cf, kf, fi, f, hi, hsl⟩ := hS 0 (by decide)
      have hb : (Term.sub (.index 0) (.int 128)).eval args s none [n + 128] s = some (.int (nI (n + 128) - 128)) := rfl
      have hf : (Term.field (.elem tCA (.index 0)) "java/lang/Integer" "value" "I").eval args s none [n + 128] s = some (.int (nI (n + 128) - 128)) := by
        cases hw : (Term.field (.elem tCA (.index 0)) "java/lang/Integer" "value" "I").eval args s none [n + 128] s with
        | none => simp only [Cond.value, hw, hb] at h2; simp at h2
        | some v =>
          simp only [Cond.value, hw, hb] at h2
          cases v <;> simp_all
      rw [show nI (n + 128) - 128 = nI n from (pk_sub (a := n + 128) (b := 128) (by omega)).trans (by rw [Nat.add_sub_cancel])] at hf
      obtain ⟨g1, cell3, g2, g3, g4, g5, g6⟩ := Term.field_spec hi e1 hf
      cases e3.symm.trans g2
      refine ⟨a, fun _ => ⟨q5, hlt, cell2, e3, ?_, e5, g3, ?_⟩⟩
      · have hc : s.vm.findClass "java/lang/Integer" = some (dC 2) := hfc
        rw [e6]
        exact Option.some.inj (e2.symm.trans hc)
      · have hsl : f.slot = dI 2 0 := hsl
        rw [← hsl]
        exact g6
    · exact ⟨0, fun h => absurd h hn⟩
  obtain ⟨iA, hiA⟩ := Classical.axiomOfChoice key
  refine ⟨t, iA, va_Zof (hts (.laysStatic "java/lang/Integer$IntegerCache" "high" "I") (by decide +kernel)) (hts (.initialized "java/lang/Integer$IntegerCache") (by decide +kernel)) (va_eqi (s_nc hF _ f_i1)) hA, va_Zof (hts (.laysStatic "java/lang/Integer$IntegerCache" "cache" "[Ljava/lang/Integer;") (by decide +kernel)) (hts (.initialized "java/lang/Integer$IntegerCache") (by decide +kernel)) ht hA, ⟨fun j => (cell.slots[j]?).getD .null, ⟨cell, hcell, hof, hkn, by omega, by rw [h256], fun j hj => ?_, hA t (Array.getElem?_eq_some_iff.mp hcell).1⟩, fun n hn => ?_⟩, fun n hn => (hiA n hn).2⟩
  · show cell.slots[j]? = some ((cell.slots[j]?).getD .null)
    rw [Array.getElem?_eq_getElem (by omega)]
    rfl
  · show (cell.slots[n + 128]?).getD .null = _
    rw [(hiA n hn).1]
    rfl
