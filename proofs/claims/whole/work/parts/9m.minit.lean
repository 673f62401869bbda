theorem tw1612 : (Jvm.Cond.methodLink "GranaryWatchModel" (1 : Nat) ({ cls := "java/lang/Object", name := "<init>", desc := "()V" } : Jvm.MethodName)) ∈ TBG := tb_t 1612 (by decide +kernel) (by decide +kernel)
theorem tw1617 : (Jvm.Cond.methodLink "GranaryWatchModel" (47 : Nat) ({ cls := "GranaryWatchModel", name := "spells", desc := "(IIIII)V" } : Jvm.MethodName)) ∈ TBG := tb_t 1617 (by decide +kernel) (by decide +kernel)
theorem tw1619 : (Jvm.Cond.instanceMethod ({ cls := "GranaryWatchModel", name := "spells", desc := "(IIIII)V" } : Jvm.MethodName)) ∈ TBG := tb_t 1619 (by decide +kernel) (by decide +kernel)
theorem tw1620 : (Jvm.Cond.code ({ cls := "GranaryWatchModel", name := "spells", desc := "(IIIII)V" } : Jvm.MethodName) prog_13_method_12_code (6 : Nat) (Option.none : Option Jvm.ClassFile.FieldType)) ∈ TBG := tb_t 1620 (by decide +kernel) (by decide +kernel)
theorem tp19 : Cond.selects "GranaryWatchModel" ⟨"GranaryWatchModel", "spells", "(IIIII)V"⟩ ⟨"GranaryWatchModel", "spells", "(IIIII)V"⟩ ∈ TBG := tb_s (q := (⟨"GranaryWatchModel", "spells", "(IIIII)V"⟩, 25)) 19 (by decide +kernel) (by decide +kernel)
/-! the reference's constructor -/
/-- the reference's cells in the order in which they are made -/
def rM (bs : Nat) (cg : Nat → ClassId) : Nat → va_E := fun q => match q with
  | 0 => .inr (15, [.ref (bs + 1), .ref (bs + 2), .ref (bs + 3), .ref (bs + 4), .ref (bs + 5), .int 0, .int 0, .int 0, .ref (bs + 6), .int 0, .int 0, .int (-1), .int 0, .int 0, .int 0, .int 0, .int 0, .int 0, .int 0, .ref (bs + 7), .ref (bs + 8), .ref (bs + 9), .int 0, .ref (bs + 10), .int 0])
  | 1 => .inl (cg 0, 257, .inl fun _ => 0)
  | 2 => .inl (cg 0, 257, .inl fun _ => 0)
  | 3 => .inl (cg 0, 257, .inl fun _ => 0)
  | 4 => .inl (cg 0, 257, .inl fun _ => 0)
  | 5 => .inl (cg 0, 2056, .inl fun _ => 0)
  | 6 => .inl (cg 0, 600, .inl fun _ => 0)
  | 7 => .inl (cg 0, 4, .inl fun _ => 0)
  | 8 => .inl (cg 0, 31, .inl fun _ => 0)
  | 9 => .inl (cg 0, 62, .inl fun _ => 0)
  | _ => .inl (cg 0, 200, .inl fun _ => 0)
def adOf (bs : Nat) : Nat → Nat := fun k => bs + (if k = 25 then 0 else mPos k)
section MINIT
variable {l : Launch} {dC : Nat → ClassId} {dI : Nat → Nat → Nat} {cg : Nat → ClassId} {kA : String → Nat → Nat} {bs : Nat} {w : Nat → va_E} {s : State} {H : Heap}
/-- the reference's world: while it is made, and behind that -/
def rP (dC : Nat → ClassId) (dI : Nat → Nat → Nat) (cg : Nat → ClassId) (kA : String → Nat → Nat) (bs : Nat) : NW ⊕ MS → State → Heap → Prop := fun x => match x with
  | .inl z => nP dC dI cg kA bs z
  | .inr M => mP dC dI (cg 0) kA (adOf bs) M
theorem rOK : gOK (rP dC dI cg kA bs) (kR kTab kA) := ⟨fun x u U H hvm h => by
  cases x with
  | inl z => exact nOK.1 z u U H hvm h
  | inr S => exact mOK.1 S u U H hvm h, kR_ok⟩
theorem m_at {M : MS} {i : Nat} {p : Nat × va_E} (h : (mW (cg 0) (adOf bs) M)[i]? = some p) : i < 11 ∧ p.1 = bs + i ∧ ∃ k, k ≤ 25 ∧ p.1 = adOf bs k := by
  have hi : i < 11 := (List.getElem?_eq_some_iff.mp h).1
  refine ⟨hi, ?_⟩
  rcases (show i = 0 ∨ i = 1 ∨ i = 2 ∨ i = 3 ∨ i = 4 ∨ i = 5 ∨ i = 6 ∨ i = 7 ∨ i = 8 ∨ i = 9 ∨ i = 10 by omega) with e | e | e | e | e | e | e | e | e | e | e <;> subst e <;> cases h
  · exact ⟨rfl, 25, by omega, rfl⟩
  · exact ⟨rfl, 0, by omega, rfl⟩
  · exact ⟨rfl, 1, by omega, rfl⟩
  · exact ⟨rfl, 2, by omega, rfl⟩
  · exact ⟨rfl, 3, by omega, rfl⟩
  · exact ⟨rfl, 4, by omega, rfl⟩
  · exact ⟨rfl, 8, by omega, rfl⟩
  · exact ⟨rfl, 19, by omega, rfl⟩
  · exact ⟨rfl, 20, by omega, rfl⟩
  · exact ⟨rfl, 21, by omega, rfl⟩
  · exact ⟨rfl, 23, by omega, rfl⟩
theorem m_conv (hP : nP dC dI cg kA bs (11, rM bs cg) s H) : mP dC dI (cg 0) kA (adOf bs) iZ s H := by
  obtain ⟨h1, h2, h3, h4, -⟩ := hP
  have h2 : ∀ i, i < 11 → va_at (dC, dI) vwCl (bs + i, rM bs cg i) H := h2
  refine ⟨fun i p hp => ?_, ⟨h3.1, fun k q hq => ?_⟩, ⟨fun i j p q hp hq e => ?_, fun k q hq => (m_at hq).2.2⟩, h4.narrow (fun q ⟨z, _, e⟩ => ?_)⟩
  · have hi := (m_at hp).1
    rcases (show i = 0 ∨ i = 1 ∨ i = 2 ∨ i = 3 ∨ i = 4 ∨ i = 5 ∨ i = 6 ∨ i = 7 ∨ i = 8 ∨ i = 9 ∨ i = 10 by omega) with e | e | e | e | e | e | e | e | e | e | e <;> subst e <;> cases hp
    · exact h2 0 (by omega)
    · exact h2 1 (by omega)
    · exact h2 2 (by omega)
    · exact h2 3 (by omega)
    · exact h2 4 (by omega)
    · exact h2 5 (by omega)
    · exact h2 6 (by omega)
    · exact h2 7 (by omega)
    · exact h2 8 (by omega)
    · exact h2 9 (by omega)
    · exact h2 10 (by omega)
  · cases k with
    | zero => cases hq; exact h3.2 0 _ rfl
    | succ k => cases hq
  · have a1 := (m_at hp).2.1
    have a2 := (m_at hq).2.1
    omega
  · show bs ≤ q
    rw [e]
    exact Nat.le_add_right _ _
theorem vX11_init {S1 : MS} (hini : fX11_ini iZ = some S1) (he : w 0 = .inr (15, [.null, .null, .null, .null, .null, .int 0, .int 0, .int 0, .null, .int 0, .int 0, .int 0, .int 0, .int 0, .int 0, .int 0, .int 0, .int 0, .int 0, .null, .null, .null, .int 0, .null, .int 0])) : gMetVA l yX11_init cX11_init 1 4 10 3981 (nΩ bs) (rP dC dI cg kA bs) (kR kTab kA) [.ref (bs + 0)] (.inl (1, w)) (.inr S1) := gEntryVN (by decide) rOK (Nat.le_of_ble_eq_true rfl) (fun p e s m args below meth c Q ls X hin hP hS hret hl => by
  have hx := X.hx
  have hb := X.hb
  have hP : nP dC dI cg kA bs (1, w) s s.heap := hP
  have hz0 : s.heap.size = bs + 1 := hP.1
  have hP : nP dC dI cg kA bs (1, (va_up (rM bs cg) 0 (.inr (15, [.null, .null, .null, .null, .null, .int 0, .int 0, .int 0, .null, .int 0, .int 0, .int 0, .int 0, .int 0, .int 0, .int 0, .int 0, .int 0, .int 0, .null, .null, .null, .int 0, .null, .int 0])))) s s.heap := hP.to (fun q hq => by
    have e0 : q = 0 := by omega
    rw [e0, vat, he])
  refine lv_aload_n hx hb dX11_init_0 rfl (lv_at hl 0 rfl) ?_
  refine W.objInit hx hb X.hown (X.hts _ tw1612) (X.hts _ tw40) (X.hts _ tw41) rfl (by rw [X.hml]; exact hl.1) rfl dX11_init_1 (Nat.le_of_ble_eq_true rfl) (Nat.le_of_ble_eq_true rfl) ?_
  refine W.eq (g2 := F0 m 4 ls []) rfl ?_
  refine lv_aload_n hx hb dX11_init_4 rfl (lv_at hl 0 rfl) ?_
  refine lv_sipush (v := 257) hx hb dX11_init_5 (by decide) ?_
  refine nw_newa (t0 := 0) (N := 257) .int X hP hS rfl tw169 rfl (fun _ => rfl) rfl (by decide) (by decide) (Nat.le_of_ble_eq_true rfl) ⟨Nat.le_of_ble_eq_true rfl, Nat.le_of_ble_eq_true rfl⟩ dX11_init_8 (fun H hP hS => ?_)
  have hP : nP dC dI cg kA bs (2, (va_up (rM bs cg) 0 (.inr (15, [.null, .null, .null, .null, .null, .int 0, .int 0, .int 0, .null, .int 0, .int 0, .int 0, .int 0, .int 0, .int 0, .int 0, .int 0, .int 0, .int 0, .null, .null, .null, .int 0, .null, .int 0])))) s H := nP.cn hP (by omega) rfl
  refine nw_putF X hin hP hS (Or.inl (Nat.le_add_right _ _)) ⟨by omega, by rw [vat]⟩ rfl inG11 tyX11_ok nmX11 (k := 0) (by decide) rfl rfl (rfl) (rfl) (show 0 + 1 ≤ _ from Nat.le_of_ble_eq_true rfl) tw1665 dX11_init_10 (fun H locs hP hS => ?_)
  have hP : nP dC dI cg kA bs (2, (va_up (rM bs cg) 0 (.inr (15, [.ref (bs + 1), .null, .null, .null, .null, .int 0, .int 0, .int 0, .null, .int 0, .int 0, .int 0, .int 0, .int 0, .int 0, .int 0, .int 0, .int 0, .int 0, .null, .null, .null, .int 0, .null, .int 0])))) s H := nP.pp hP
  refine lv_aload_n hx hb dX11_init_13 rfl (lv_at hl 0 rfl) ?_
  refine lv_sipush (v := 257) hx hb dX11_init_14 (by decide) ?_
  refine nw_newa (t0 := 0) (N := 257) .int X hP hS rfl tw169 rfl (fun _ => rfl) rfl (by decide) (by decide) (Nat.le_of_ble_eq_true rfl) ⟨Nat.le_of_ble_eq_true rfl, Nat.le_of_ble_eq_true rfl⟩ dX11_init_17 (fun H hP hS => ?_)
  have hP : nP dC dI cg kA bs (3, (va_up (rM bs cg) 0 (.inr (15, [.ref (bs + 1), .null, .null, .null, .null, .int 0, .int 0, .int 0, .null, .int 0, .int 0, .int 0, .int 0, .int 0, .int 0, .int 0, .int 0, .int 0, .int 0, .null, .null, .null, .int 0, .null, .int 0])))) s H := nP.cn hP (by omega) rfl
  refine nw_putF X hin hP hS (Or.inl (Nat.le_add_right _ _)) ⟨by omega, by rw [vat]⟩ rfl inG11 tyX11_ok nmX11 (k := 1) (by decide) rfl rfl (rfl) (rfl) (show 1 + 1 ≤ _ from Nat.le_of_ble_eq_true rfl) tw1666 dX11_init_19 (fun H locs hP hS => ?_)
  have hP : nP dC dI cg kA bs (3, (va_up (rM bs cg) 0 (.inr (15, [.ref (bs + 1), .ref (bs + 2), .null, .null, .null, .int 0, .int 0, .int 0, .null, .int 0, .int 0, .int 0, .int 0, .int 0, .int 0, .int 0, .int 0, .int 0, .int 0, .null, .null, .null, .int 0, .null, .int 0])))) s H := nP.pp hP
  refine lv_aload_n hx hb dX11_init_22 rfl (lv_at hl 0 rfl) ?_
  refine lv_sipush (v := 257) hx hb dX11_init_23 (by decide) ?_
  refine nw_newa (t0 := 0) (N := 257) .int X hP hS rfl tw169 rfl (fun _ => rfl) rfl (by decide) (by decide) (Nat.le_of_ble_eq_true rfl) ⟨Nat.le_of_ble_eq_true rfl, Nat.le_of_ble_eq_true rfl⟩ dX11_init_26 (fun H hP hS => ?_)
  have hP : nP dC dI cg kA bs (4, (va_up (rM bs cg) 0 (.inr (15, [.ref (bs + 1), .ref (bs + 2), .null, .null, .null, .int 0, .int 0, .int 0, .null, .int 0, .int 0, .int 0, .int 0, .int 0, .int 0, .int 0, .int 0, .int 0, .int 0, .null, .null, .null, .int 0, .null, .int 0])))) s H := nP.cn hP (by omega) rfl
  refine nw_putF X hin hP hS (Or.inl (Nat.le_add_right _ _)) ⟨by omega, by rw [vat]⟩ rfl inG11 tyX11_ok nmX11 (k := 2) (by decide) rfl rfl (rfl) (rfl) (show 2 + 1 ≤ _ from Nat.le_of_ble_eq_true rfl) tw1667 dX11_init_28 (fun H locs hP hS => ?_)
  have hP : nP dC dI cg kA bs (4, (va_up (rM bs cg) 0 (.inr (15, [.ref (bs + 1), .ref (bs + 2), .ref (bs + 3), .null, .null, .int 0, .int 0, .int 0, .null, .int 0, .int 0, .int 0, .int 0, .int 0, .int 0, .int 0, .int 0, .int 0, .int 0, .null, .null, .null, .int 0, .null, .int 0])))) s H := nP.pp hP
  refine lv_aload_n hx hb dX11_init_31 rfl (lv_at hl 0 rfl) ?_
  refine lv_sipush (v := 257) hx hb dX11_init_32 (by decide) ?_
  refine nw_newa (t0 := 0) (N := 257) .int X hP hS rfl tw169 rfl (fun _ => rfl) rfl (by decide) (by decide) (Nat.le_of_ble_eq_true rfl) ⟨Nat.le_of_ble_eq_true rfl, Nat.le_of_ble_eq_true rfl⟩ dX11_init_35 (fun H hP hS => ?_)
  have hP : nP dC dI cg kA bs (5, (va_up (rM bs cg) 0 (.inr (15, [.ref (bs + 1), .ref (bs + 2), .ref (bs + 3), .null, .null, .int 0, .int 0, .int 0, .null, .int 0, .int 0, .int 0, .int 0, .int 0, .int 0, .int 0, .int 0, .int 0, .int 0, .null, .null, .null, .int 0, .null, .int 0])))) s H := nP.cn hP (by omega) rfl
  refine nw_putF X hin hP hS (Or.inl (Nat.le_add_right _ _)) ⟨by omega, by rw [vat]⟩ rfl inG11 tyX11_ok nmX11 (k := 3) (by decide) rfl rfl (rfl) (rfl) (show 3 + 1 ≤ _ from Nat.le_of_ble_eq_true rfl) tw1668 dX11_init_37 (fun H locs hP hS => ?_)
  have hP : nP dC dI cg kA bs (5, (va_up (rM bs cg) 0 (.inr (15, [.ref (bs + 1), .ref (bs + 2), .ref (bs + 3), .ref (bs + 4), .null, .int 0, .int 0, .int 0, .null, .int 0, .int 0, .int 0, .int 0, .int 0, .int 0, .int 0, .int 0, .int 0, .int 0, .null, .null, .null, .int 0, .null, .int 0])))) s H := nP.pp hP
  refine lv_aload_n hx hb dX11_init_40 rfl (lv_at hl 0 rfl) ?_
  refine lv_sipush (v := 2056) hx hb dX11_init_41 (by decide) ?_
  refine nw_newa (t0 := 0) (N := 2056) .int X hP hS rfl tw169 rfl (fun _ => rfl) rfl (by decide) (by decide) (Nat.le_of_ble_eq_true rfl) ⟨Nat.le_of_ble_eq_true rfl, Nat.le_of_ble_eq_true rfl⟩ dX11_init_44 (fun H hP hS => ?_)
  have hP : nP dC dI cg kA bs (6, (va_up (rM bs cg) 0 (.inr (15, [.ref (bs + 1), .ref (bs + 2), .ref (bs + 3), .ref (bs + 4), .null, .int 0, .int 0, .int 0, .null, .int 0, .int 0, .int 0, .int 0, .int 0, .int 0, .int 0, .int 0, .int 0, .int 0, .null, .null, .null, .int 0, .null, .int 0])))) s H := nP.cn hP (by omega) rfl
  refine nw_putF X hin hP hS (Or.inl (Nat.le_add_right _ _)) ⟨by omega, by rw [vat]⟩ rfl inG11 tyX11_ok nmX11 (k := 4) (by decide) rfl rfl (rfl) (rfl) (show 4 + 1 ≤ _ from Nat.le_of_ble_eq_true rfl) tw1669 dX11_init_46 (fun H locs hP hS => ?_)
  have hP : nP dC dI cg kA bs (6, (va_up (rM bs cg) 0 (.inr (15, [.ref (bs + 1), .ref (bs + 2), .ref (bs + 3), .ref (bs + 4), .ref (bs + 5), .int 0, .int 0, .int 0, .null, .int 0, .int 0, .int 0, .int 0, .int 0, .int 0, .int 0, .int 0, .int 0, .int 0, .null, .null, .null, .int 0, .null, .int 0])))) s H := nP.pp hP
  refine lv_aload_n hx hb dX11_init_49 rfl (lv_at hl 0 rfl) ?_
  refine lv_sipush (v := 600) hx hb dX11_init_50 (by decide) ?_
  refine nw_newa (t0 := 0) (N := 600) .int X hP hS rfl tw169 rfl (fun _ => rfl) rfl (by decide) (by decide) (Nat.le_of_ble_eq_true rfl) ⟨Nat.le_of_ble_eq_true rfl, Nat.le_of_ble_eq_true rfl⟩ dX11_init_53 (fun H hP hS => ?_)
  have hP : nP dC dI cg kA bs (7, (va_up (rM bs cg) 0 (.inr (15, [.ref (bs + 1), .ref (bs + 2), .ref (bs + 3), .ref (bs + 4), .ref (bs + 5), .int 0, .int 0, .int 0, .null, .int 0, .int 0, .int 0, .int 0, .int 0, .int 0, .int 0, .int 0, .int 0, .int 0, .null, .null, .null, .int 0, .null, .int 0])))) s H := nP.cn hP (by omega) rfl
  refine nw_putF X hin hP hS (Or.inl (Nat.le_add_right _ _)) ⟨by omega, by rw [vat]⟩ rfl inG11 tyX11_ok nmX11 (k := 8) (by decide) rfl rfl (rfl) (rfl) (show 8 + 1 ≤ _ from Nat.le_of_ble_eq_true rfl) tw1673 dX11_init_55 (fun H locs hP hS => ?_)
  have hP : nP dC dI cg kA bs (7, (va_up (rM bs cg) 0 (.inr (15, [.ref (bs + 1), .ref (bs + 2), .ref (bs + 3), .ref (bs + 4), .ref (bs + 5), .int 0, .int 0, .int 0, .ref (bs + 6), .int 0, .int 0, .int 0, .int 0, .int 0, .int 0, .int 0, .int 0, .int 0, .int 0, .null, .null, .null, .int 0, .null, .int 0])))) s H := nP.pp hP
  refine lv_aload_n hx hb dX11_init_58 rfl (lv_at hl 0 rfl) ?_
  refine lv_iconst (v := (-1)) hx hb dX11_init_59 (by decide) ?_
  refine nw_put X hP hS (Or.inl (Nat.le_add_right _ _)) ⟨by omega, by rw [vat]⟩ rfl inG11 tyX11_ok nmX11 (k := 11) (by decide) rfl rfl (by decide +kernel) (by decide +kernel) (show 11 + 1 ≤ _ from Nat.le_of_ble_eq_true rfl) tw1676 dX11_init_60 (fun H locs hP hS => ?_)
  have hP : nP dC dI cg kA bs (7, (va_up (rM bs cg) 0 (.inr (15, [.ref (bs + 1), .ref (bs + 2), .ref (bs + 3), .ref (bs + 4), .ref (bs + 5), .int 0, .int 0, .int 0, .ref (bs + 6), .int 0, .int 0, .int (-1), .int 0, .int 0, .int 0, .int 0, .int 0, .int 0, .int 0, .null, .null, .null, .int 0, .null, .int 0])))) s H := nP.pp hP
  refine lv_aload_n hx hb dX11_init_63 rfl (lv_at hl 0 rfl) ?_
  refine lv_iconst (v := 4) hx hb dX11_init_64 (by decide) ?_
  refine nw_newa (t0 := 0) (N := 4) .int X hP hS rfl tw169 rfl (fun _ => rfl) rfl (by decide) (by decide) (Nat.le_of_ble_eq_true rfl) ⟨Nat.le_of_ble_eq_true rfl, Nat.le_of_ble_eq_true rfl⟩ dX11_init_65 (fun H hP hS => ?_)
  have hP : nP dC dI cg kA bs (8, (va_up (rM bs cg) 0 (.inr (15, [.ref (bs + 1), .ref (bs + 2), .ref (bs + 3), .ref (bs + 4), .ref (bs + 5), .int 0, .int 0, .int 0, .ref (bs + 6), .int 0, .int 0, .int (-1), .int 0, .int 0, .int 0, .int 0, .int 0, .int 0, .int 0, .null, .null, .null, .int 0, .null, .int 0])))) s H := nP.cn hP (by omega) rfl
  refine nw_putF X hin hP hS (Or.inl (Nat.le_add_right _ _)) ⟨by omega, by rw [vat]⟩ rfl inG11 tyX11_ok nmX11 (k := 19) (by decide) rfl rfl (rfl) (rfl) (show 19 + 1 ≤ _ from Nat.le_of_ble_eq_true rfl) tw1684 dX11_init_67 (fun H locs hP hS => ?_)
  have hP : nP dC dI cg kA bs (8, (va_up (rM bs cg) 0 (.inr (15, [.ref (bs + 1), .ref (bs + 2), .ref (bs + 3), .ref (bs + 4), .ref (bs + 5), .int 0, .int 0, .int 0, .ref (bs + 6), .int 0, .int 0, .int (-1), .int 0, .int 0, .int 0, .int 0, .int 0, .int 0, .int 0, .ref (bs + 7), .null, .null, .int 0, .null, .int 0])))) s H := nP.pp hP
  refine lv_aload_n hx hb dX11_init_70 rfl (lv_at hl 0 rfl) ?_
  refine lv_bipush (v := 31) hx hb dX11_init_71 (by decide) ?_
  refine nw_newa (t0 := 0) (N := 31) .int X hP hS rfl tw169 rfl (fun _ => rfl) rfl (by decide) (by decide) (Nat.le_of_ble_eq_true rfl) ⟨Nat.le_of_ble_eq_true rfl, Nat.le_of_ble_eq_true rfl⟩ dX11_init_73 (fun H hP hS => ?_)
  have hP : nP dC dI cg kA bs (9, (va_up (rM bs cg) 0 (.inr (15, [.ref (bs + 1), .ref (bs + 2), .ref (bs + 3), .ref (bs + 4), .ref (bs + 5), .int 0, .int 0, .int 0, .ref (bs + 6), .int 0, .int 0, .int (-1), .int 0, .int 0, .int 0, .int 0, .int 0, .int 0, .int 0, .ref (bs + 7), .null, .null, .int 0, .null, .int 0])))) s H := nP.cn hP (by omega) rfl
  refine nw_putF X hin hP hS (Or.inl (Nat.le_add_right _ _)) ⟨by omega, by rw [vat]⟩ rfl inG11 tyX11_ok nmX11 (k := 20) (by decide) rfl rfl (rfl) (rfl) (show 20 + 1 ≤ _ from Nat.le_of_ble_eq_true rfl) tw1685 dX11_init_75 (fun H locs hP hS => ?_)
  have hP : nP dC dI cg kA bs (9, (va_up (rM bs cg) 0 (.inr (15, [.ref (bs + 1), .ref (bs + 2), .ref (bs + 3), .ref (bs + 4), .ref (bs + 5), .int 0, .int 0, .int 0, .ref (bs + 6), .int 0, .int 0, .int (-1), .int 0, .int 0, .int 0, .int 0, .int 0, .int 0, .int 0, .ref (bs + 7), .ref (bs + 8), .null, .int 0, .null, .int 0])))) s H := nP.pp hP
  refine lv_aload_n hx hb dX11_init_78 rfl (lv_at hl 0 rfl) ?_
  refine lv_bipush (v := 62) hx hb dX11_init_79 (by decide) ?_
  refine nw_newa (t0 := 0) (N := 62) .int X hP hS rfl tw169 rfl (fun _ => rfl) rfl (by decide) (by decide) (Nat.le_of_ble_eq_true rfl) ⟨Nat.le_of_ble_eq_true rfl, Nat.le_of_ble_eq_true rfl⟩ dX11_init_81 (fun H hP hS => ?_)
  have hP : nP dC dI cg kA bs (10, (va_up (rM bs cg) 0 (.inr (15, [.ref (bs + 1), .ref (bs + 2), .ref (bs + 3), .ref (bs + 4), .ref (bs + 5), .int 0, .int 0, .int 0, .ref (bs + 6), .int 0, .int 0, .int (-1), .int 0, .int 0, .int 0, .int 0, .int 0, .int 0, .int 0, .ref (bs + 7), .ref (bs + 8), .null, .int 0, .null, .int 0])))) s H := nP.cn hP (by omega) rfl
  refine nw_putF X hin hP hS (Or.inl (Nat.le_add_right _ _)) ⟨by omega, by rw [vat]⟩ rfl inG11 tyX11_ok nmX11 (k := 21) (by decide) rfl rfl (rfl) (rfl) (show 21 + 1 ≤ _ from Nat.le_of_ble_eq_true rfl) tw1686 dX11_init_83 (fun H locs hP hS => ?_)
  have hP : nP dC dI cg kA bs (10, (va_up (rM bs cg) 0 (.inr (15, [.ref (bs + 1), .ref (bs + 2), .ref (bs + 3), .ref (bs + 4), .ref (bs + 5), .int 0, .int 0, .int 0, .ref (bs + 6), .int 0, .int 0, .int (-1), .int 0, .int 0, .int 0, .int 0, .int 0, .int 0, .int 0, .ref (bs + 7), .ref (bs + 8), .ref (bs + 9), .int 0, .null, .int 0])))) s H := nP.pp hP
  refine lv_aload_n hx hb dX11_init_86 rfl (lv_at hl 0 rfl) ?_
  refine lv_sipush (v := 200) hx hb dX11_init_87 (by decide) ?_
  refine nw_newa (t0 := 0) (N := 200) .int X hP hS rfl tw169 rfl (fun _ => rfl) rfl (by decide) (by decide) (Nat.le_of_ble_eq_true rfl) ⟨Nat.le_of_ble_eq_true rfl, Nat.le_of_ble_eq_true rfl⟩ dX11_init_90 (fun H hP hS => ?_)
  have hP : nP dC dI cg kA bs (11, (va_up (rM bs cg) 0 (.inr (15, [.ref (bs + 1), .ref (bs + 2), .ref (bs + 3), .ref (bs + 4), .ref (bs + 5), .int 0, .int 0, .int 0, .ref (bs + 6), .int 0, .int 0, .int (-1), .int 0, .int 0, .int 0, .int 0, .int 0, .int 0, .int 0, .ref (bs + 7), .ref (bs + 8), .ref (bs + 9), .int 0, .null, .int 0])))) s H := nP.cn hP (by omega) rfl
  refine nw_putF X hin hP hS (Or.inl (Nat.le_add_right _ _)) ⟨by omega, by rw [vat]⟩ rfl inG11 tyX11_ok nmX11 (k := 23) (by decide) rfl rfl (rfl) (rfl) (show 23 + 1 ≤ _ from Nat.le_of_ble_eq_true rfl) tw1688 dX11_init_92 (fun H locs hP hS => ?_)
  have hP : nP dC dI cg kA bs (11, (va_up (rM bs cg) 0 (.inr (15, [.ref (bs + 1), .ref (bs + 2), .ref (bs + 3), .ref (bs + 4), .ref (bs + 5), .int 0, .int 0, .int 0, .ref (bs + 6), .int 0, .int 0, .int (-1), .int 0, .int 0, .int 0, .int 0, .int 0, .int 0, .int 0, .ref (bs + 7), .ref (bs + 8), .ref (bs + 9), .int 0, .ref (bs + 10), .int 0])))) s H := nP.pp hP
  have hP : nP dC dI cg kA bs (11, rM bs cg) s H := hP.dr rfl
  have hP := m_conv hP
  have eA : Fr (nΩ bs) s.heap.size = Fr (mΩ (adOf bs)) s.heap.size := funext fun q => propext (by
    unfold Fr nΩ mΩ
    constructor
    · intro h
      by_cases h1 : q = bs
      · exact Or.inl ⟨25, by omega, h1⟩
      · exact Or.inr (by rcases h with h | h <;> omega)
    · intro h
      rcases h with ⟨z, _, rfl⟩ | h
      · exact Or.inl (Nat.le_add_right _ _)
      · exact Or.inl (by omega))
  rw [eA] at hS
  have hl : lv_has ls 1 [(0, .ref (adOf bs 25))] := hl
  refine lv_aload_n hx hb dX11_init_95 rfl (lv_at hl 0 rfl) ?_
  obtain ⟨M0, h0, hini⟩ := bd hini
  refine gCallWV X mOK (gMetVA.of (vX11_begins h0)) (cw_V 0 X (gT_V tw1613 tw1615 tp18 tw31 tw1616) ⟨rfl, by decide, by decide, by decide +kernel⟩ ⟨by decide, by decide⟩) rfl hP hS (Fr_le hS.1) (mrec hP) hl.1 (Nat.le_of_ble_eq_true rfl) ⟨Nat.le_of_ble_eq_true rfl, Nat.le_of_ble_eq_true rfl⟩ dX11_init_96 (As := []) (rest := []) rfl (fun H locs hP hS => ?_)
  refine lv_aload_n hx hb dX11_init_99 rfl (lv_at hl 0 rfl) ?_
  refine lv_bipush (v := 65) hx hb dX11_init_100 (by decide) ?_
  refine lv_bipush (v := 116) hx hb dX11_init_102 (by decide) ?_
  refine lv_bipush (v := 111) hx hb dX11_init_104 (by decide) ?_
  refine lv_bipush (v := 109) hx hb dX11_init_106 (by decide) ?_
  refine lv_iconst (v := 0) hx hb dX11_init_108 (by decide) ?_
  obtain ⟨M1, h1, hini⟩ := bd hini
  refine gCallWV X mOK (gMetVA.of (vX11_spells h1)) (cw_V 5 X (gT_V tw1617 tw1619 tp19 tw31 tw1620) ⟨rfl, by decide, by decide, by decide +kernel⟩ ⟨by decide, by decide⟩) rfl hP hS (Fr_le hS.1) (mrec hP) hl.1 (Nat.le_of_ble_eq_true rfl) ⟨Nat.le_of_ble_eq_true rfl, Nat.le_of_ble_eq_true rfl⟩ dX11_init_109 (As := [.int 65, .int 116, .int 111, .int 109, .int 0]) (rest := []) rfl (fun H locs hP hS => ?_)
  refine lv_aload_n hx hb dX11_init_112 rfl (lv_at hl 0 rfl) ?_
  refine lv_iconst (v := 3) hx hb dX11_init_113 (by decide) ?_
  refine lv_iconst (v := 5) hx hb dX11_init_114 (by decide) ?_
  refine lv_iconst (v := 1) hx hb dX11_init_115 (by decide) ?_
  obtain ⟨M2, h2, hini⟩ := bd hini
  refine gCallWV X mOK (gMetVA.of (vX11_addsCat h2)) (cw_V 3 X (gT_V tw1621 tw1623 tp20 tw31 tw1624) ⟨rfl, by decide, by decide, by decide +kernel⟩ ⟨by decide, by decide⟩) rfl hP hS (Fr_le hS.1) (mrec hP) hl.1 (Nat.le_of_ble_eq_true rfl) ⟨Nat.le_of_ble_eq_true rfl, Nat.le_of_ble_eq_true rfl⟩ dX11_init_116 (As := [.int 3, .int 5, .int 1]) (rest := []) rfl (fun H locs hP hS => ?_)
  refine lv_aload_n hx hb dX11_init_119 rfl (lv_at hl 0 rfl) ?_
  refine lv_bipush (v := 77) hx hb dX11_init_120 (by decide) ?_
  refine lv_bipush (v := 112) hx hb dX11_init_122 (by decide) ?_
  refine lv_bipush (v := 117) hx hb dX11_init_124 (by decide) ?_
  refine lv_bipush (v := 115) hx hb dX11_init_126 (by decide) ?_
  refine lv_bipush (v := 115) hx hb dX11_init_128 (by decide) ?_
  obtain ⟨M3, h3, hini⟩ := bd hini
  refine gCallWV X mOK (gMetVA.of (vX11_spells h3)) (cw_V 5 X (gT_V tw1617 tw1619 tp19 tw31 tw1620) ⟨rfl, by decide, by decide, by decide +kernel⟩ ⟨by decide, by decide⟩) rfl hP hS (Fr_le hS.1) (mrec hP) hl.1 (Nat.le_of_ble_eq_true rfl) ⟨Nat.le_of_ble_eq_true rfl, Nat.le_of_ble_eq_true rfl⟩ dX11_init_130 (As := [.int 77, .int 112, .int 117, .int 115, .int 115]) (rest := []) rfl (fun H locs hP hS => ?_)
  refine lv_aload_n hx hb dX11_init_133 rfl (lv_at hl 0 rfl) ?_
  refine lv_iconst (v := 4) hx hb dX11_init_134 (by decide) ?_
  refine lv_iconst (v := 3) hx hb dX11_init_135 (by decide) ?_
  refine lv_iconst (v := 0) hx hb dX11_init_136 (by decide) ?_
  obtain ⟨M4, h4, hini⟩ := bd hini
  refine gCallWV X mOK (gMetVA.of (vX11_addsCat h4)) (cw_V 3 X (gT_V tw1621 tw1623 tp20 tw31 tw1624) ⟨rfl, by decide, by decide, by decide +kernel⟩ ⟨by decide, by decide⟩) rfl hP hS (Fr_le hS.1) (mrec hP) hl.1 (Nat.le_of_ble_eq_true rfl) ⟨Nat.le_of_ble_eq_true rfl, Nat.le_of_ble_eq_true rfl⟩ dX11_init_137 (As := [.int 4, .int 3, .int 0]) (rest := []) rfl (fun H locs hP hS => ?_)
  refine lv_aload_n hx hb dX11_init_140 rfl (lv_at hl 0 rfl) ?_
  refine lv_bipush (v := 89) hx hb dX11_init_141 (by decide) ?_
  refine lv_bipush (v := 109) hx hb dX11_init_143 (by decide) ?_
  refine lv_bipush (v := 111) hx hb dX11_init_145 (by decide) ?_
  refine lv_bipush (v := 115) hx hb dX11_init_147 (by decide) ?_
  refine lv_bipush (v := 115) hx hb dX11_init_149 (by decide) ?_
  obtain ⟨M5, h5, hini⟩ := bd hini
  refine gCallWV X mOK (gMetVA.of (vX11_spells h5)) (cw_V 5 X (gT_V tw1617 tw1619 tp19 tw31 tw1620) ⟨rfl, by decide, by decide, by decide +kernel⟩ ⟨by decide, by decide⟩) rfl hP hS (Fr_le hS.1) (mrec hP) hl.1 (Nat.le_of_ble_eq_true rfl) ⟨Nat.le_of_ble_eq_true rfl, Nat.le_of_ble_eq_true rfl⟩ dX11_init_151 (As := [.int 89, .int 109, .int 111, .int 115, .int 115]) (rest := []) rfl (fun H locs hP hS => ?_)
  refine lv_aload_n hx hb dX11_init_154 rfl (lv_at hl 0 rfl) ?_
  refine lv_iconst (v := 4) hx hb dX11_init_155 (by decide) ?_
  refine lv_bipush (v := 7) hx hb dX11_init_156 (by decide) ?_
  refine lv_iconst (v := 0) hx hb dX11_init_158 (by decide) ?_
  obtain ⟨M6, h6, hini⟩ := bd hini
  refine gCallWV X mOK (gMetVA.of (vX11_addsCat h6)) (cw_V 3 X (gT_V tw1621 tw1623 tp20 tw31 tw1624) ⟨rfl, by decide, by decide, by decide +kernel⟩ ⟨by decide, by decide⟩) rfl hP hS (Fr_le hS.1) (mrec hP) hl.1 (Nat.le_of_ble_eq_true rfl) ⟨Nat.le_of_ble_eq_true rfl, Nat.le_of_ble_eq_true rfl⟩ dX11_init_159 (As := [.int 4, .int 7, .int 0]) (rest := []) rfl (fun H locs hP hS => ?_)
  refine lv_aload_n hx hb dX11_init_162 rfl (lv_at hl 0 rfl) ?_
  refine lv_sipush (v := 161) hx hb dX11_init_163 (by decide) ?_
  refine lv_bipush (v := 114) hx hb dX11_init_166 (by decide) ?_
  refine lv_bipush (v := 121) hx hb dX11_init_168 (by decide) ?_
  refine lv_bipush (v := 101) hx hb dX11_init_170 (by decide) ?_
  refine lv_iconst (v := 0) hx hb dX11_init_172 (by decide) ?_
  obtain ⟨M7, h7, hini⟩ := bd hini
  refine gCallWV X mOK (gMetVA.of (vX11_spells h7)) (cw_V 5 X (gT_V tw1617 tw1619 tp19 tw31 tw1620) ⟨rfl, by decide, by decide, by decide +kernel⟩ ⟨by decide, by decide⟩) rfl hP hS (Fr_le hS.1) (mrec hP) hl.1 (Nat.le_of_ble_eq_true rfl) ⟨Nat.le_of_ble_eq_true rfl, Nat.le_of_ble_eq_true rfl⟩ dX11_init_173 (As := [.int 161, .int 114, .int 121, .int 101, .int 0]) (rest := []) rfl (fun H locs hP hS => ?_)
  refine lv_aload_n hx hb dX11_init_176 rfl (lv_at hl 0 rfl) ?_
  refine lv_iconst (v := 3) hx hb dX11_init_177 (by decide) ?_
  refine lv_bipush (v := 60) hx hb dX11_init_178 (by decide) ?_
  refine lv_iconst (v := 4) hx hb dX11_init_180 (by decide) ?_
  refine lv_iconst (v := 1) hx hb dX11_init_181 (by decide) ?_
  obtain ⟨M8, h8, hini⟩ := bd hini
  refine gCallWV X mOK (gMetVA.of (vX11_addsSack h8)) (cw_V 4 X (gT_V tw1629 tw1631 tp22 tw31 tw1632) ⟨rfl, by decide, by decide, by decide +kernel⟩ ⟨by decide, by decide⟩) rfl hP hS (Fr_le hS.1) (mrec hP) hl.1 (Nat.le_of_ble_eq_true rfl) ⟨Nat.le_of_ble_eq_true rfl, Nat.le_of_ble_eq_true rfl⟩ dX11_init_182 (As := [.int 3, .int 60, .int 4, .int 1]) (rest := []) rfl (fun H locs hP hS => ?_)
  refine lv_aload_n hx hb dX11_init_185 rfl (lv_at hl 0 rfl) ?_
  refine lv_sipush (v := 173) hx hb dX11_init_186 (by decide) ?_
  refine lv_bipush (v := 111) hx hb dX11_init_189 (by decide) ?_
  refine lv_bipush (v := 97) hx hb dX11_init_191 (by decide) ?_
  refine lv_bipush (v := 116) hx hb dX11_init_193 (by decide) ?_
  refine lv_bipush (v := 115) hx hb dX11_init_195 (by decide) ?_
  obtain ⟨M9, h9, hini⟩ := bd hini
  refine gCallWV X mOK (gMetVA.of (vX11_spells h9)) (cw_V 5 X (gT_V tw1617 tw1619 tp19 tw31 tw1620) ⟨rfl, by decide, by decide, by decide +kernel⟩ ⟨by decide, by decide⟩) rfl hP hS (Fr_le hS.1) (mrec hP) hl.1 (Nat.le_of_ble_eq_true rfl) ⟨Nat.le_of_ble_eq_true rfl, Nat.le_of_ble_eq_true rfl⟩ dX11_init_197 (As := [.int 173, .int 111, .int 97, .int 116, .int 115]) (rest := []) rfl (fun H locs hP hS => ?_)
  refine lv_aload_n hx hb dX11_init_200 rfl (lv_at hl 0 rfl) ?_
  refine lv_iconst (v := 4) hx hb dX11_init_201 (by decide) ?_
  refine lv_bipush (v := 30) hx hb dX11_init_202 (by decide) ?_
  refine lv_bipush (v := 9) hx hb dX11_init_204 (by decide) ?_
  refine lv_iconst (v := 0) hx hb dX11_init_206 (by decide) ?_
  obtain ⟨M10, h10, hini⟩ := bd hini
  refine gCallWV X mOK (gMetVA.of (vX11_addsSack h10)) (cw_V 4 X (gT_V tw1629 tw1631 tp22 tw31 tw1632) ⟨rfl, by decide, by decide, by decide +kernel⟩ ⟨by decide, by decide⟩) rfl hP hS (Fr_le hS.1) (mrec hP) hl.1 (Nat.le_of_ble_eq_true rfl) ⟨Nat.le_of_ble_eq_true rfl, Nat.le_of_ble_eq_true rfl⟩ dX11_init_207 (As := [.int 4, .int 30, .int 9, .int 0]) (rest := []) rfl (fun H locs hP hS => ?_)
  refine lv_aload_n hx hb dX11_init_210 rfl (lv_at hl 0 rfl) ?_
  refine lv_sipush (v := 185) hx hb dX11_init_211 (by decide) ?_
  refine lv_bipush (v := 112) hx hb dX11_init_214 (by decide) ?_
  refine lv_bipush (v := 101) hx hb dX11_init_216 (by decide) ?_
  refine lv_bipush (v := 97) hx hb dX11_init_218 (by decide) ?_
  refine lv_bipush (v := 115) hx hb dX11_init_220 (by decide) ?_
  obtain ⟨M11, h11, hini⟩ := bd hini
  refine gCallWV X mOK (gMetVA.of (vX11_spells h11)) (cw_V 5 X (gT_V tw1617 tw1619 tp19 tw31 tw1620) ⟨rfl, by decide, by decide, by decide +kernel⟩ ⟨by decide, by decide⟩) rfl hP hS (Fr_le hS.1) (mrec hP) hl.1 (Nat.le_of_ble_eq_true rfl) ⟨Nat.le_of_ble_eq_true rfl, Nat.le_of_ble_eq_true rfl⟩ dX11_init_222 (As := [.int 185, .int 112, .int 101, .int 97, .int 115]) (rest := []) rfl (fun H locs hP hS => ?_)
  refine lv_aload_n hx hb dX11_init_225 rfl (lv_at hl 0 rfl) ?_
  refine lv_iconst (v := 4) hx hb dX11_init_226 (by decide) ?_
  refine lv_bipush (v := 8) hx hb dX11_init_227 (by decide) ?_
  refine lv_iconst (v := 2) hx hb dX11_init_229 (by decide) ?_
  refine lv_iconst (v := 1) hx hb dX11_init_230 (by decide) ?_
  obtain ⟨M12, h12, hini⟩ := bd hini
  refine gCallWV X mOK (gMetVA.of (vX11_addsSack h12)) (cw_V 4 X (gT_V tw1629 tw1631 tp22 tw31 tw1632) ⟨rfl, by decide, by decide, by decide +kernel⟩ ⟨by decide, by decide⟩) rfl hP hS (Fr_le hS.1) (mrec hP) hl.1 (Nat.le_of_ble_eq_true rfl) ⟨Nat.le_of_ble_eq_true rfl, Nat.le_of_ble_eq_true rfl⟩ dX11_init_231 (As := [.int 4, .int 8, .int 2, .int 1]) (rest := []) rfl (fun H locs hP hS => ?_)
  refine lv_aload_n hx hb dX11_init_234 rfl (lv_at hl 0 rfl) ?_
  refine lv_iconst (v := 0) hx hb dX11_init_235 (by decide) ?_
  refine lv_iconst (v := 4) hx hb dX11_init_236 (by decide) ?_
  obtain ⟨M13, h13, hini⟩ := bd hini
  refine gCallWV X mOK (gMetVA.of (vX11_addsShift h13)) (cw_V 2 X (gT_V tw1637 tw1639 tp24 tw31 tw1640) ⟨rfl, by decide, by decide, by decide +kernel⟩ ⟨by decide, by decide⟩) rfl hP hS (Fr_le hS.1) (mrec hP) hl.1 (Nat.le_of_ble_eq_true rfl) ⟨Nat.le_of_ble_eq_true rfl, Nat.le_of_ble_eq_true rfl⟩ dX11_init_237 (As := [.int 0, .int 4]) (rest := []) rfl (fun H locs hP hS => ?_)
  refine lv_aload_n hx hb dX11_init_240 rfl (lv_at hl 0 rfl) ?_
  refine lv_iconst (v := 1) hx hb dX11_init_241 (by decide) ?_
  refine lv_iconst (v := 3) hx hb dX11_init_242 (by decide) ?_
  obtain ⟨M14, h14, hini⟩ := bd hini
  refine gCallWV X mOK (gMetVA.of (vX11_addsShift h14)) (cw_V 2 X (gT_V tw1637 tw1639 tp24 tw31 tw1640) ⟨rfl, by decide, by decide, by decide +kernel⟩ ⟨by decide, by decide⟩) rfl hP hS (Fr_le hS.1) (mrec hP) hl.1 (Nat.le_of_ble_eq_true rfl) ⟨Nat.le_of_ble_eq_true rfl, Nat.le_of_ble_eq_true rfl⟩ dX11_init_243 (As := [.int 1, .int 3]) (rest := []) rfl (fun H locs hP hS => ?_)
  refine lv_aload_n hx hb dX11_init_246 rfl (lv_at hl 0 rfl) ?_
  refine lv_iconst (v := 2) hx hb dX11_init_247 (by decide) ?_
  refine lv_iconst (v := 5) hx hb dX11_init_248 (by decide) ?_
  obtain ⟨M15, h15, hini⟩ := bd hini
  refine gCallWV X mOK (gMetVA.of (vX11_addsShift h15)) (cw_V 2 X (gT_V tw1637 tw1639 tp24 tw31 tw1640) ⟨rfl, by decide, by decide, by decide +kernel⟩ ⟨by decide, by decide⟩) rfl hP hS (Fr_le hS.1) (mrec hP) hl.1 (Nat.le_of_ble_eq_true rfl) ⟨Nat.le_of_ble_eq_true rfl, Nat.le_of_ble_eq_true rfl⟩ dX11_init_249 (As := [.int 2, .int 5]) (rest := []) rfl (fun H locs hP hS => ?_)
  refine lv_aload_n hx hb dX11_init_252 rfl (lv_at hl 0 rfl) ?_
  refine gCallWV X mOK (gMetVA.of (vX11_starts hini)) (cw_V 0 X (gT_V tw1641 tw1643 tp25 tw31 tw1644) ⟨rfl, by decide, by decide, by decide +kernel⟩ ⟨by decide, by decide⟩) rfl hP hS (Fr_le hS.1) (mrec hP) hl.1 (Nat.le_of_ble_eq_true rfl) ⟨Nat.le_of_ble_eq_true rfl, Nat.le_of_ble_eq_true rfl⟩ dX11_init_253 (As := []) (rest := []) rfl (fun H locs hP hS => ?_)
  rw [← eA] at hS
  exact hret _ _ _ _ _ _ dX11_init_256 hP hS (Nat.le_of_ble_eq_true rfl) (Nat.le_of_ble_eq_true rfl))
end MINIT
