theorem tw134 : (Jvm.Cond.methodLink "GranaryWatch$Granary" (3 : Nat) ({ cls := "java/lang/Object", name := "<init>", desc := "()V" } : Jvm.MethodName)) ∈ TBG := tb_t 134 (by decide +kernel) (by decide +kernel)
theorem tw135 : (Jvm.Cond.classLink "GranaryWatch$Granary" (9 : Nat) "GranaryWatch$Cat") ∈ TBG := tb_t 135 (by decide +kernel) (by decide +kernel)
theorem tw137 : (Jvm.Cond.classLink "GranaryWatch$Granary" (17 : Nat) "GranaryWatch$Sack") ∈ TBG := tb_t 137 (by decide +kernel) (by decide +kernel)
theorem tw139 : (Jvm.Cond.classLink "GranaryWatch$Granary" (23 : Nat) "GranaryWatch$Shift") ∈ TBG := tb_t 139 (by decide +kernel) (by decide +kernel)
theorem tw141 : (Jvm.Cond.classLink "GranaryWatch$Granary" (29 : Nat) "GranaryWatch$Events") ∈ TBG := tb_t 141 (by decide +kernel) (by decide +kernel)
theorem tw142 : (Jvm.Cond.instantiable "GranaryWatch$Events" (5 : Nat)) ∈ TBG := tb_t 142 (by decide +kernel) (by decide +kernel)
theorem tw144 : (Jvm.Cond.instanceMethod ({ cls := "GranaryWatch$Events", name := "<init>", desc := "()V" } : Jvm.MethodName)) ∈ TBG := tb_t 144 (by decide +kernel) (by decide +kernel)
theorem tw145 : (Jvm.Cond.code ({ cls := "GranaryWatch$Events", name := "<init>", desc := "()V" } : Jvm.MethodName) prog_3_method_1_code (1 : Nat) (Option.none : Option Jvm.ClassFile.FieldType)) ∈ TBG := tb_t 145 (by decide +kernel) (by decide +kernel)
theorem tw164 : (Jvm.Cond.classLink "GranaryWatch$Granary" (36 : Nat) "GranaryWatch$Totals") ∈ TBG := tb_t 164 (by decide +kernel) (by decide +kernel)
theorem tw165 : (Jvm.Cond.instantiable "GranaryWatch$Totals" (8 : Nat)) ∈ TBG := tb_t 165 (by decide +kernel) (by decide +kernel)
theorem tw167 : (Jvm.Cond.instanceMethod ({ cls := "GranaryWatch$Totals", name := "<init>", desc := "()V" } : Jvm.MethodName)) ∈ TBG := tb_t 167 (by decide +kernel) (by decide +kernel)
theorem tw168 : (Jvm.Cond.code ({ cls := "GranaryWatch$Totals", name := "<init>", desc := "()V" } : Jvm.MethodName) prog_11_method_1_code (1 : Nat) (Option.none : Option Jvm.ClassFile.FieldType)) ∈ TBG := tb_t 168 (by decide +kernel) (by decide +kernel)
theorem tw209 : (Jvm.Cond.instantiable "GranaryWatch$Cat" (6 : Nat)) ∈ TBG := tb_t 209 (by decide +kernel) (by decide +kernel)
theorem tw211 : (Jvm.Cond.instanceMethod ({ cls := "GranaryWatch$Cat", name := "<init>", desc := "()V" } : Jvm.MethodName)) ∈ TBG := tb_t 211 (by decide +kernel) (by decide +kernel)
theorem tw212 : (Jvm.Cond.code ({ cls := "GranaryWatch$Cat", name := "<init>", desc := "()V" } : Jvm.MethodName) prog_2_method_1_code (1 : Nat) (Option.none : Option Jvm.ClassFile.FieldType)) ∈ TBG := tb_t 212 (by decide +kernel) (by decide +kernel)
theorem tw245 : (Jvm.Cond.instantiable "GranaryWatch$Sack" (5 : Nat)) ∈ TBG := tb_t 245 (by decide +kernel) (by decide +kernel)
theorem tw247 : (Jvm.Cond.instanceMethod ({ cls := "GranaryWatch$Sack", name := "<init>", desc := "()V" } : Jvm.MethodName)) ∈ TBG := tb_t 247 (by decide +kernel) (by decide +kernel)
theorem tw248 : (Jvm.Cond.code ({ cls := "GranaryWatch$Sack", name := "<init>", desc := "()V" } : Jvm.MethodName) prog_6_method_1_code (1 : Nat) (Option.none : Option Jvm.ClassFile.FieldType)) ∈ TBG := tb_t 248 (by decide +kernel) (by decide +kernel)
theorem tw281 : (Jvm.Cond.instantiable "GranaryWatch$Shift" (2 : Nat)) ∈ TBG := tb_t 281 (by decide +kernel) (by decide +kernel)
theorem tw283 : (Jvm.Cond.instanceMethod ({ cls := "GranaryWatch$Shift", name := "<init>", desc := "()V" } : Jvm.MethodName)) ∈ TBG := tb_t 283 (by decide +kernel) (by decide +kernel)
theorem tw284 : (Jvm.Cond.code ({ cls := "GranaryWatch$Shift", name := "<init>", desc := "()V" } : Jvm.MethodName) prog_9_method_1_code (1 : Nat) (Option.none : Option Jvm.ClassFile.FieldType)) ∈ TBG := tb_t 284 (by decide +kernel) (by decide +kernel)
theorem xn44 : (Cond.methodLinkNest "GranaryWatch" (9 : Nat) ({ cls := "GranaryWatch$Text", name := "<init>", desc := "()V" } : MethodName) "GranaryWatch") ∈ xws := List.mem_filter.mpr ⟨by decide +kernel, rfl⟩
theorem xn118 : (Cond.methodLinkNest "GranaryWatch" (18 : Nat) ({ cls := "GranaryWatch$Output", name := "<init>", desc := "()V" } : MethodName) "GranaryWatch") ∈ xws := List.mem_filter.mpr ⟨by decide +kernel, rfl⟩
theorem xn145 : (Cond.methodLinkNest "GranaryWatch$Granary" (31 : Nat) ({ cls := "GranaryWatch$Events", name := "<init>", desc := "()V" } : MethodName) "GranaryWatch") ∈ xws := List.mem_filter.mpr ⟨by decide +kernel, rfl⟩
theorem xn172 : (Cond.methodLinkNest "GranaryWatch$Granary" (38 : Nat) ({ cls := "GranaryWatch$Totals", name := "<init>", desc := "()V" } : MethodName) "GranaryWatch") ∈ xws := List.mem_filter.mpr ⟨by decide +kernel, rfl⟩
theorem xn216 : (Cond.methodLinkNest "GranaryWatch$Granary" (47 : Nat) ({ cls := "GranaryWatch$Cat", name := "<init>", desc := "()V" } : MethodName) "GranaryWatch") ∈ xws := List.mem_filter.mpr ⟨by decide +kernel, rfl⟩
theorem xn255 : (Cond.methodLinkNest "GranaryWatch$Granary" (48 : Nat) ({ cls := "GranaryWatch$Sack", name := "<init>", desc := "()V" } : MethodName) "GranaryWatch") ∈ xws := List.mem_filter.mpr ⟨by decide +kernel, rfl⟩
theorem xn296 : (Cond.methodLinkNest "GranaryWatch$Granary" (49 : Nat) ({ cls := "GranaryWatch$Shift", name := "<init>", desc := "()V" } : MethodName) "GranaryWatch") ∈ xws := List.mem_filter.mpr ⟨by decide +kernel, rfl⟩
/-! Granary's constructor -/
def aR (c : ClassId) (N bs c0 sz j : Nat) : va_E := .inl (c, N, .inr (.inr (.inr (.inr fun k => if k < j then some (bs + (c0 + sz * k)) else none))))
theorem aR_0 {c : ClassId} {N bs c0 sz : Nat} : aR c N bs c0 sz 0 = .inl (c, N, .inr (.inr (.inr (.inr fun _ => none)))) := by
  unfold aR
  have : (fun k => if k < 0 then some (bs + (c0 + sz * k)) else none) = fun _ : Nat => (none : Option Nat) := funext fun k => if_neg (Nat.not_lt_zero k)
  rw [this]
theorem aR_s {c : ClassId} {N bs c0 sz j n : Nat} (hj : j < 2 ^ 31) (hn : n = c0 + sz * j) : (.inl (c, N, .inr (.inr (.inr (.inr (va_up (fun k => if k < j then some (bs + (c0 + sz * k)) else none) (nI j).toNatClampNeg (some (bs + n))))))) : va_E) = aR c N bs c0 sz (j + 1) := by
  subst hn
  unfold aR
  rw [nI_c (by omega)]
  have : va_up (fun k => if k < j then some (bs + (c0 + sz * k)) else none) j (some (bs + (c0 + sz * j))) = fun k => if k < j + 1 then some (bs + (c0 + sz * k)) else none := funext fun k => by
    by_cases h : k = j
    · rw [h, vat, if_pos (by omega)]
    · rw [vne h]
      by_cases h2 : k < j
      · rw [if_pos h2, if_pos (by omega)]
      · rw [if_neg h2, if_neg (by omega)]
  rw [this]
theorem gCallCN {X : Type} {p : Program} {l : Launch} {e : Env} {R : Room} {s : State} {m : MethodId} {args : Array Value} {below : List Frame} {meth : Method} {c : Code} {H : Heap} {locs : List Loc} {cells slots : Nat} {Q : State → Prop} {cc : ByteArray} {pc nL : Nat} {ls : Array Slot} {rest : List Value} {own host : String} {Ω : Nat → Prop} {P : X → State → Heap → Prop} {KS : State → Prop} {y : MethodName} {c' : ByteArray} {n' idx nA : Nat} {lev' mc' ms' : Nat} {b : Nat} {A0 : Nat → Prop} {As : List Value} {S S1 : X} (hX : gX p s m args c cc nL own KS) (hO : gOK P KS) (hM : gMetVA l y c' n' lev' mc' ms' Ω P KS (.ref b :: As) S S1)
    (cw : va_CN R s args own idx y host c' n' none (wT y c' n' none) (rmL lev' mc' ms') mc' ms' nA ∧ y.name = "<init>" ∧ (Cond.instanceMethod y).before args s = true) (hnA : As.length = nA)
    (hP : P S s H) (hS : va_S A0 s.heap H locs) (hA : ∀ q, Fr Ω H.size q → A0 q) (hls : ls.size = nL) (hcat : (rest.map fun v => v.category).sum ≤ 8) (hcells : cells + mc' ≤ R.cells ∧ slots + ms' ≤ R.slots) (hdg : decode cc pc = .ok (.invokespecial idx, 3)) {st : List Value} (hst : st = As.reverse ++ .ref b :: rest)
    (kk : ∀ (H1 : Heap) (locs1 : List Loc), P S1 s H1 → va_S A0 s.heap H1 locs1 → W p l e R s m args below meth c H1 locs1 (cells + mc') (slots + ms') Q (F0 m (pc + 3) ls rest)) : W p l e R s m args below meth c H locs cells slots Q (F0 m pc ls st) := by
  refine va_callv (va_runIN (As := As) (rest := rest) ⟨hX.hx, hX.hb, hX.hml, hX.hown, hX.hts⟩ (hM H.size) cw ⟨gPre_blind hO, fun U hU hW => ⟨rfl, by rw [hU], by rw [hU]; exact hO.1 _ _ _ _ hW.alike hP, hO.2.2 _ _ hW hX.ks⟩⟩ rfl hnA hls hst (lv_room hcat) hdg hcells) hS (fun q _ h => hA q h) hA (fun u t H1 locs1 ht hvm hw hB hz1 hk1 hS1 => ?_)
  obtain rfl := hw
  have hB : P _ t t.heap := hB
  rw [ht] at hB
  exact kk H1 locs1 (hO.1 _ _ _ _ hvm.symm hB) hS1
section GRAN
variable {l : Launch} {dC : Nat → ClassId} {dI : Nat → Nat → Nat} {cg : Nat → ClassId} {kA : String → Nat → Nat} {bs i : Nat} {w : Nat → va_E} {s : State} {H : Heap}
theorem nP.lp {U r : Nat → va_E} {n n' sz a : Nat} {A A' A1 d : va_E} (h : nP dC dI cg kA bs (n + sz, va_up (po r n (va_up (va_up U a A) n d)) a A') s H) (han : a < n) (hA : A' = A1) (hn : n + sz = n') (hU : ∀ t, t < sz → U (n + t) = r t) : nP dC dI cg kA bs (n', va_up U a A1) s H := by
  subst hn
  subst hA
  refine h.to (fun q hq => ?_)
  by_cases h1 : q = a
  · rw [h1, vat, vat]
  · rw [vne h1, vne h1]
    by_cases h2 : q < n
    · rw [po_lt h2, vne (by omega), vne h1]
    · obtain ⟨t, rfl⟩ : ∃ t, q = n + t := ⟨q - n, by omega⟩
      rw [po_at]
      exact (hU t (by omega)).symm
theorem nP.dr {U : Nat → va_E} {n a : Nat} {A : va_E} (h : nP dC dI cg kA bs (n, va_up U a A) s H) (hU : A = U a) : nP dC dI cg kA bs (n, U) s H := h.to (fun q hq => by
  by_cases h1 : q = a
  · rw [h1, vat, hU]
  · rw [vne h1])
theorem nP.cs {U : Nat → va_E} {n n' : Nat} (h : nP dC dI cg kA bs (n, U) s H) (e : n = n') : nP dC dI cg kA bs (n', U) s H := e ▸ h
/-- a granary as it comes from the constructor: its 35 cells from place i on -/
def rX2 (bs : Nat) (cg : Nat → ClassId) (kA : String → Nat → Nat) (i : Nat) : Nat → va_E := fun k => match k with
  | 0 => .inr (7, [.ref (bs + (i + 1)), .ref (bs + (i + 2)), .ref (bs + (i + 3)), .ref (bs + (i + 4)), .ref (bs + (i + 8)), .int 0, .int 0, .int 0, .int (-1), .int 0, .int 0, .int 0, .int 0])
  | 1 => aR (cg 3) 8 bs (i + 9) 1 8
  | 2 => aR (cg 4) 6 bs (i + 17) 1 6
  | 3 => aR (cg 5) 12 bs (i + 23) 1 12
  | 4 => rX1 bs cg kA (i + 4) 0
  | 5 => rX1 bs cg kA (i + 4) 1
  | 6 => rX1 bs cg kA (i + 4) 2
  | 7 => rX1 bs cg kA (i + 4) 3
  | 8 => rX9 bs cg kA (i + 8) 0
  | k + 9 => if k < 8 then rX0 bs cg kA (i + 9 + 1 * k) 0 else if k < 14 then rX4 bs cg kA (i + 17 + 1 * (k - 8)) 0 else rX7 bs cg kA (i + 23 + 1 * (k - 14)) 0
theorem rX2_9 {k : Nat} : rX2 bs cg kA i (k + 9) = if k < 8 then rX0 bs cg kA (i + 9 + 1 * k) 0 else if k < 14 then rX4 bs cg kA (i + 17 + 1 * (k - 8)) 0 else rX7 bs cg kA (i + 23 + 1 * (k - 14)) 0 := rfl
theorem vX2_init (he : w i = .inr (7, [.null, .null, .null, .null, .null, .int 0, .int 0, .int 0, .int 0, .int 0, .int 0, .int 0, .int 0])) : gMetVA l yX2_init cX2_init 2 2 34 189 (nΩ bs) (nP dC dI cg kA bs) (kR kTab kA) [.ref (bs + i)] (i + 1, w) (i + 35, po (rX2 bs cg kA i) i w) := gEntryVN (by decide) nOK (Nat.le_of_ble_eq_true rfl) (fun p e s m args below meth c Q ls X hin hP hS hret hl => by
  have hx := X.hx
  have hb := X.hb
  have hP : nP dC dI cg kA bs (i + 1, va_up w i (.inr (7, [.null, .null, .null, .null, .null, .int 0, .int 0, .int 0, .int 0, .int 0, .int 0, .int 0, .int 0]))) s s.heap := hP.to (fun q hq => by
    by_cases h : q = i
    · rw [h, vat, he]
    · rw [vne h])
  refine lv_aload_n hx hb dX2_init_0 rfl (lv_at hl 0 rfl) ?_
  refine W.objInit hx hb X.hown (X.hts _ tw134) (X.hts _ tw45) (X.hts _ tw46) rfl (by rw [X.hml]; exact hl.1) rfl dX2_init_1 (Nat.le_of_ble_eq_true rfl) (Nat.le_of_ble_eq_true rfl) ?_
  refine W.eq (g2 := F0 m 4 ls []) rfl ?_
  refine lv_aload_n hx hb dX2_init_4 rfl (lv_at hl 0 rfl) ?_
  refine lv_bipush (v := 8) hx hb dX2_init_5 (by decide) ?_
  refine nw_newq (t0 := 3) (N := 8) X hP hS tw135 (fun z => z.2.1) rfl (by decide) (by decide) (Nat.le_of_ble_eq_true rfl) ⟨Nat.le_of_ble_eq_true rfl, Nat.le_of_ble_eq_true rfl⟩ dX2_init_7 (fun H hP hS => ?_)
  have hP : nP dC dI cg kA bs (i + 2, (va_up (va_up w (i) (.inr (7, [.null, .null, .null, .null, .null, .int 0, .int 0, .int 0, .int 0, .int 0, .int 0, .int 0, .int 0]))) (i + 1) (.inl (cg 3, 8, .inr (.inr (.inr (.inr fun _ => none))))))) s H := hP
  refine nw_putF X hin hP hS (Or.inl (Nat.le_add_right _ _)) ⟨by omega, by rw [vne (by omega), vat]⟩ rfl cinX2 tyX2_ok nmX2 (k := 0) (by decide) rfl rfl (rfl) (rfl) (show 0 + 1 ≤ _ from Nat.le_of_ble_eq_true rfl) tw297 dX2_init_10 (fun H locs hP hS => ?_)
  have hP : nP dC dI cg kA bs (i + 2, (va_up (va_up (va_up w (i) (.inr (7, [.null, .null, .null, .null, .null, .int 0, .int 0, .int 0, .int 0, .int 0, .int 0, .int 0, .int 0]))) (i + 1) (.inl (cg 3, 8, .inr (.inr (.inr (.inr fun _ => none)))))) (i) (.inr (7, [.ref (bs + (i + 1)), .null, .null, .null, .null, .int 0, .int 0, .int 0, .int 0, .int 0, .int 0, .int 0, .int 0])))) s H := hP
  refine lv_aload_n hx hb dX2_init_13 rfl (lv_at hl 0 rfl) ?_
  refine lv_bipush (v := 6) hx hb dX2_init_14 (by decide) ?_
  refine nw_newq (t0 := 4) (N := 6) X hP hS tw137 (fun z => z.2.2.1) rfl (by decide) (by decide) (Nat.le_of_ble_eq_true rfl) ⟨Nat.le_of_ble_eq_true rfl, Nat.le_of_ble_eq_true rfl⟩ dX2_init_16 (fun H hP hS => ?_)
  have hP : nP dC dI cg kA bs (i + 3, (va_up (va_up (va_up (va_up w (i) (.inr (7, [.null, .null, .null, .null, .null, .int 0, .int 0, .int 0, .int 0, .int 0, .int 0, .int 0, .int 0]))) (i + 1) (.inl (cg 3, 8, .inr (.inr (.inr (.inr fun _ => none)))))) (i) (.inr (7, [.ref (bs + (i + 1)), .null, .null, .null, .null, .int 0, .int 0, .int 0, .int 0, .int 0, .int 0, .int 0, .int 0]))) (i + 2) (.inl (cg 4, 6, .inr (.inr (.inr (.inr fun _ => none))))))) s H := hP
  refine nw_putF X hin hP hS (Or.inl (Nat.le_add_right _ _)) ⟨by omega, by rw [vne (by omega), vat]⟩ rfl cinX2 tyX2_ok nmX2 (k := 1) (by decide) rfl rfl (rfl) (rfl) (show 1 + 1 ≤ _ from Nat.le_of_ble_eq_true rfl) tw300 dX2_init_19 (fun H locs hP hS => ?_)
  have hP : nP dC dI cg kA bs (i + 3, (va_up (va_up (va_up (va_up (va_up w (i) (.inr (7, [.null, .null, .null, .null, .null, .int 0, .int 0, .int 0, .int 0, .int 0, .int 0, .int 0, .int 0]))) (i + 1) (.inl (cg 3, 8, .inr (.inr (.inr (.inr fun _ => none)))))) (i) (.inr (7, [.ref (bs + (i + 1)), .null, .null, .null, .null, .int 0, .int 0, .int 0, .int 0, .int 0, .int 0, .int 0, .int 0]))) (i + 2) (.inl (cg 4, 6, .inr (.inr (.inr (.inr fun _ => none)))))) (i) (.inr (7, [.ref (bs + (i + 1)), .ref (bs + (i + 2)), .null, .null, .null, .int 0, .int 0, .int 0, .int 0, .int 0, .int 0, .int 0, .int 0])))) s H := hP
  refine lv_aload_n hx hb dX2_init_22 rfl (lv_at hl 0 rfl) ?_
  refine lv_bipush (v := 12) hx hb dX2_init_23 (by decide) ?_
  refine nw_newq (t0 := 5) (N := 12) X hP hS tw139 (fun z => z.2.2.2) rfl (by decide) (by decide) (Nat.le_of_ble_eq_true rfl) ⟨Nat.le_of_ble_eq_true rfl, Nat.le_of_ble_eq_true rfl⟩ dX2_init_25 (fun H hP hS => ?_)
  have hP : nP dC dI cg kA bs (i + 4, (va_up (va_up (va_up (va_up (va_up (va_up w (i) (.inr (7, [.null, .null, .null, .null, .null, .int 0, .int 0, .int 0, .int 0, .int 0, .int 0, .int 0, .int 0]))) (i + 1) (.inl (cg 3, 8, .inr (.inr (.inr (.inr fun _ => none)))))) (i) (.inr (7, [.ref (bs + (i + 1)), .null, .null, .null, .null, .int 0, .int 0, .int 0, .int 0, .int 0, .int 0, .int 0, .int 0]))) (i + 2) (.inl (cg 4, 6, .inr (.inr (.inr (.inr fun _ => none)))))) (i) (.inr (7, [.ref (bs + (i + 1)), .ref (bs + (i + 2)), .null, .null, .null, .int 0, .int 0, .int 0, .int 0, .int 0, .int 0, .int 0, .int 0]))) (i + 3) (.inl (cg 5, 12, .inr (.inr (.inr (.inr fun _ => none))))))) s H := hP
  refine nw_putF X hin hP hS (Or.inl (Nat.le_add_right _ _)) ⟨by omega, by rw [vne (by omega), vat]⟩ rfl cinX2 tyX2_ok nmX2 (k := 2) (by decide) rfl rfl (rfl) (rfl) (show 2 + 1 ≤ _ from Nat.le_of_ble_eq_true rfl) tw303 dX2_init_28 (fun H locs hP hS => ?_)
  have hP : nP dC dI cg kA bs (i + 4, (va_up (va_up (va_up (va_up (va_up (va_up (va_up w (i) (.inr (7, [.null, .null, .null, .null, .null, .int 0, .int 0, .int 0, .int 0, .int 0, .int 0, .int 0, .int 0]))) (i + 1) (.inl (cg 3, 8, .inr (.inr (.inr (.inr fun _ => none)))))) (i) (.inr (7, [.ref (bs + (i + 1)), .null, .null, .null, .null, .int 0, .int 0, .int 0, .int 0, .int 0, .int 0, .int 0, .int 0]))) (i + 2) (.inl (cg 4, 6, .inr (.inr (.inr (.inr fun _ => none)))))) (i) (.inr (7, [.ref (bs + (i + 1)), .ref (bs + (i + 2)), .null, .null, .null, .int 0, .int 0, .int 0, .int 0, .int 0, .int 0, .int 0, .int 0]))) (i + 3) (.inl (cg 5, 12, .inr (.inr (.inr (.inr fun _ => none)))))) (i) (.inr (7, [.ref (bs + (i + 1)), .ref (bs + (i + 2)), .ref (bs + (i + 3)), .null, .null, .int 0, .int 0, .int 0, .int 0, .int 0, .int 0, .int 0, .int 0])))) s H := hP
  refine lv_aload_n hx hb dX2_init_31 rfl (lv_at hl 0 rfl) ?_
  refine nw_new (ci := 6) (tyT := tyX1) [.null, .null, .null, .int 0, .int 0] X hP hS cinX1 tyX1_ok tw141 tw142 tw9 rfl (fun j hj => by rcases (show j = 0 ∨ j = 1 ∨ j = 2 ∨ j = 3 ∨ j = 4 by omega) with rfl | rfl | rfl | rfl | rfl <;> rfl) ⟨Nat.le_of_ble_eq_true rfl, Nat.le_of_ble_eq_true rfl⟩ dX2_init_32 (fun H hP hS => ?_)
  have hP : nP dC dI cg kA bs (i + 5, (va_up (va_up (va_up (va_up (va_up (va_up (va_up (va_up w (i) (.inr (7, [.null, .null, .null, .null, .null, .int 0, .int 0, .int 0, .int 0, .int 0, .int 0, .int 0, .int 0]))) (i + 1) (.inl (cg 3, 8, .inr (.inr (.inr (.inr fun _ => none)))))) (i) (.inr (7, [.ref (bs + (i + 1)), .null, .null, .null, .null, .int 0, .int 0, .int 0, .int 0, .int 0, .int 0, .int 0, .int 0]))) (i + 2) (.inl (cg 4, 6, .inr (.inr (.inr (.inr fun _ => none)))))) (i) (.inr (7, [.ref (bs + (i + 1)), .ref (bs + (i + 2)), .null, .null, .null, .int 0, .int 0, .int 0, .int 0, .int 0, .int 0, .int 0, .int 0]))) (i + 3) (.inl (cg 5, 12, .inr (.inr (.inr (.inr fun _ => none)))))) (i) (.inr (7, [.ref (bs + (i + 1)), .ref (bs + (i + 2)), .ref (bs + (i + 3)), .null, .null, .int 0, .int 0, .int 0, .int 0, .int 0, .int 0, .int 0, .int 0]))) (i + 4) (.inr (6, [.null, .null, .null, .int 0, .int 0])))) s H := hP
  refine lv_dup hx hb dX2_init_35 rfl ?_
  refine gCallCN X nOK (vX1_init (i := i + 4) (w := (va_up (va_up (va_up (va_up (va_up (va_up (va_up (va_up w (i) (.inr (7, [.null, .null, .null, .null, .null, .int 0, .int 0, .int 0, .int 0, .int 0, .int 0, .int 0, .int 0]))) (i + 1) (.inl (cg 3, 8, .inr (.inr (.inr (.inr fun _ => none)))))) (i) (.inr (7, [.ref (bs + (i + 1)), .null, .null, .null, .null, .int 0, .int 0, .int 0, .int 0, .int 0, .int 0, .int 0, .int 0]))) (i + 2) (.inl (cg 4, 6, .inr (.inr (.inr (.inr fun _ => none)))))) (i) (.inr (7, [.ref (bs + (i + 1)), .ref (bs + (i + 2)), .null, .null, .null, .int 0, .int 0, .int 0, .int 0, .int 0, .int 0, .int 0, .int 0]))) (i + 3) (.inl (cg 5, 12, .inr (.inr (.inr (.inr fun _ => none)))))) (i) (.inr (7, [.ref (bs + (i + 1)), .ref (bs + (i + 2)), .ref (bs + (i + 3)), .null, .null, .int 0, .int 0, .int 0, .int 0, .int 0, .int 0, .int 0, .int 0]))) (i + 4) (.inr (6, [.null, .null, .null, .int 0, .int 0])))) (by rw [vat])) ⟨va_cnB 0 X.hts (wT_good tw145) rfl rfl rfl (X.ks.2.1 _ xn145) (X.hts _ tw9) ⟨by decide, by decide, by decide +kernel⟩ ⟨Nat.le_of_ble_eq_true rfl, Nat.le_of_ble_eq_true rfl⟩, rfl, X.hts _ tw144⟩ rfl hP hS (Fr_le hS.1) hl.1 (Nat.le_of_ble_eq_true rfl) ⟨Nat.le_of_ble_eq_true rfl, Nat.le_of_ble_eq_true rfl⟩ dX2_init_36 (As := []) (rest := [.ref (bs + (i + 4)), .ref (bs + (i))]) rfl (fun H locs hP hS => ?_)
  have hP := hP.to (w' := (va_up (va_up (va_up (va_up (va_up (va_up (va_up (va_up (va_up (va_up (va_up (va_up w (i) (.inr (7, [.null, .null, .null, .null, .null, .int 0, .int 0, .int 0, .int 0, .int 0, .int 0, .int 0, .int 0]))) (i + 1) (.inl (cg 3, 8, .inr (.inr (.inr (.inr fun _ => none)))))) (i) (.inr (7, [.ref (bs + (i + 1)), .null, .null, .null, .null, .int 0, .int 0, .int 0, .int 0, .int 0, .int 0, .int 0, .int 0]))) (i + 2) (.inl (cg 4, 6, .inr (.inr (.inr (.inr fun _ => none)))))) (i) (.inr (7, [.ref (bs + (i + 1)), .ref (bs + (i + 2)), .null, .null, .null, .int 0, .int 0, .int 0, .int 0, .int 0, .int 0, .int 0, .int 0]))) (i + 3) (.inl (cg 5, 12, .inr (.inr (.inr (.inr fun _ => none)))))) (i) (.inr (7, [.ref (bs + (i + 1)), .ref (bs + (i + 2)), .ref (bs + (i + 3)), .null, .null, .int 0, .int 0, .int 0, .int 0, .int 0, .int 0, .int 0, .int 0]))) (i + 4) (.inr (6, [.null, .null, .null, .int 0, .int 0]))) (i + 4) ((rX1 bs cg kA (i + 4)) 0)) (i + 5) ((rX1 bs cg kA (i + 4)) 1)) (i + 6) ((rX1 bs cg kA (i + 4)) 2)) (i + 7) ((rX1 bs cg kA (i + 4)) 3))) (fun q hq => by
    rcases (show q < i + 4 ∨ q = i + 4 ∨ q = i + 5 ∨ q = i + 6 ∨ q = i + 7 by omega) with h | h | h | h | h
    · exact (po_lt h).trans ((vne (by omega)).trans ((vne (by omega)).trans ((vne (by omega)).trans (vne (by omega))))).symm
    · rw [h, vne (by omega), vne (by omega), vne (by omega), vat]; exact po_0 (r := (rX1 bs cg kA (i + 4)))
    · rw [h, vne (by omega), vne (by omega), vat]; exact po_at (r := (rX1 bs cg kA (i + 4))) (k := 1)
    · rw [h, vne (by omega), vat]; exact po_at (r := (rX1 bs cg kA (i + 4))) (k := 2)
    · rw [h, vat]; exact po_at (r := (rX1 bs cg kA (i + 4))) (k := 3))
  have hP : nP dC dI cg kA bs (i + 8, (va_up (va_up (va_up (va_up (va_up (va_up (va_up (va_up (va_up (va_up (va_up (va_up w (i) (.inr (7, [.null, .null, .null, .null, .null, .int 0, .int 0, .int 0, .int 0, .int 0, .int 0, .int 0, .int 0]))) (i + 1) (.inl (cg 3, 8, .inr (.inr (.inr (.inr fun _ => none)))))) (i) (.inr (7, [.ref (bs + (i + 1)), .null, .null, .null, .null, .int 0, .int 0, .int 0, .int 0, .int 0, .int 0, .int 0, .int 0]))) (i + 2) (.inl (cg 4, 6, .inr (.inr (.inr (.inr fun _ => none)))))) (i) (.inr (7, [.ref (bs + (i + 1)), .ref (bs + (i + 2)), .null, .null, .null, .int 0, .int 0, .int 0, .int 0, .int 0, .int 0, .int 0, .int 0]))) (i + 3) (.inl (cg 5, 12, .inr (.inr (.inr (.inr fun _ => none)))))) (i) (.inr (7, [.ref (bs + (i + 1)), .ref (bs + (i + 2)), .ref (bs + (i + 3)), .null, .null, .int 0, .int 0, .int 0, .int 0, .int 0, .int 0, .int 0, .int 0]))) (i + 4) (.inr (6, [.null, .null, .null, .int 0, .int 0]))) (i + 4) ((rX1 bs cg kA (i + 4)) 0)) (i + 5) ((rX1 bs cg kA (i + 4)) 1)) (i + 6) ((rX1 bs cg kA (i + 4)) 2)) (i + 7) ((rX1 bs cg kA (i + 4)) 3))) s H := hP
  refine nw_putF X hin hP hS (Or.inl (Nat.le_add_right _ _)) ⟨by omega, by rw [vne (by omega), vne (by omega), vne (by omega), vne (by omega), vne (by omega), vat]⟩ rfl cinX2 tyX2_ok nmX2 (k := 3) (by decide) rfl rfl (rfl) (rfl) (show 3 + 1 ≤ _ from Nat.le_of_ble_eq_true rfl) tw305 dX2_init_39 (fun H locs hP hS => ?_)
  have hP : nP dC dI cg kA bs (i + 8, (va_up (va_up (va_up (va_up (va_up (va_up (va_up (va_up (va_up (va_up (va_up (va_up (va_up w (i) (.inr (7, [.null, .null, .null, .null, .null, .int 0, .int 0, .int 0, .int 0, .int 0, .int 0, .int 0, .int 0]))) (i + 1) (.inl (cg 3, 8, .inr (.inr (.inr (.inr fun _ => none)))))) (i) (.inr (7, [.ref (bs + (i + 1)), .null, .null, .null, .null, .int 0, .int 0, .int 0, .int 0, .int 0, .int 0, .int 0, .int 0]))) (i + 2) (.inl (cg 4, 6, .inr (.inr (.inr (.inr fun _ => none)))))) (i) (.inr (7, [.ref (bs + (i + 1)), .ref (bs + (i + 2)), .null, .null, .null, .int 0, .int 0, .int 0, .int 0, .int 0, .int 0, .int 0, .int 0]))) (i + 3) (.inl (cg 5, 12, .inr (.inr (.inr (.inr fun _ => none)))))) (i) (.inr (7, [.ref (bs + (i + 1)), .ref (bs + (i + 2)), .ref (bs + (i + 3)), .null, .null, .int 0, .int 0, .int 0, .int 0, .int 0, .int 0, .int 0, .int 0]))) (i + 4) (.inr (6, [.null, .null, .null, .int 0, .int 0]))) (i + 4) ((rX1 bs cg kA (i + 4)) 0)) (i + 5) ((rX1 bs cg kA (i + 4)) 1)) (i + 6) ((rX1 bs cg kA (i + 4)) 2)) (i + 7) ((rX1 bs cg kA (i + 4)) 3)) (i) (.inr (7, [.ref (bs + (i + 1)), .ref (bs + (i + 2)), .ref (bs + (i + 3)), .ref (bs + (i + 4)), .null, .int 0, .int 0, .int 0, .int 0, .int 0, .int 0, .int 0, .int 0])))) s H := hP
  refine lv_aload_n hx hb dX2_init_42 rfl (lv_at hl 0 rfl) ?_
  refine nw_new (ci := 14) (tyT := tyX9) [.int 0, .int 0, .int 0, .int 0, .int 0, .int 0, .int 0, .int 0] X hP hS cinX9 tyX9_ok tw164 tw165 tw10 rfl (fun j hj => by rcases (show j = 0 ∨ j = 1 ∨ j = 2 ∨ j = 3 ∨ j = 4 ∨ j = 5 ∨ j = 6 ∨ j = 7 by omega) with rfl | rfl | rfl | rfl | rfl | rfl | rfl | rfl <;> rfl) ⟨Nat.le_of_ble_eq_true rfl, Nat.le_of_ble_eq_true rfl⟩ dX2_init_43 (fun H hP hS => ?_)
  have hP : nP dC dI cg kA bs (i + 9, (va_up (va_up (va_up (va_up (va_up (va_up (va_up (va_up (va_up (va_up (va_up (va_up (va_up (va_up w (i) (.inr (7, [.null, .null, .null, .null, .null, .int 0, .int 0, .int 0, .int 0, .int 0, .int 0, .int 0, .int 0]))) (i + 1) (.inl (cg 3, 8, .inr (.inr (.inr (.inr fun _ => none)))))) (i) (.inr (7, [.ref (bs + (i + 1)), .null, .null, .null, .null, .int 0, .int 0, .int 0, .int 0, .int 0, .int 0, .int 0, .int 0]))) (i + 2) (.inl (cg 4, 6, .inr (.inr (.inr (.inr fun _ => none)))))) (i) (.inr (7, [.ref (bs + (i + 1)), .ref (bs + (i + 2)), .null, .null, .null, .int 0, .int 0, .int 0, .int 0, .int 0, .int 0, .int 0, .int 0]))) (i + 3) (.inl (cg 5, 12, .inr (.inr (.inr (.inr fun _ => none)))))) (i) (.inr (7, [.ref (bs + (i + 1)), .ref (bs + (i + 2)), .ref (bs + (i + 3)), .null, .null, .int 0, .int 0, .int 0, .int 0, .int 0, .int 0, .int 0, .int 0]))) (i + 4) (.inr (6, [.null, .null, .null, .int 0, .int 0]))) (i + 4) ((rX1 bs cg kA (i + 4)) 0)) (i + 5) ((rX1 bs cg kA (i + 4)) 1)) (i + 6) ((rX1 bs cg kA (i + 4)) 2)) (i + 7) ((rX1 bs cg kA (i + 4)) 3)) (i) (.inr (7, [.ref (bs + (i + 1)), .ref (bs + (i + 2)), .ref (bs + (i + 3)), .ref (bs + (i + 4)), .null, .int 0, .int 0, .int 0, .int 0, .int 0, .int 0, .int 0, .int 0]))) (i + 8) (.inr (14, [.int 0, .int 0, .int 0, .int 0, .int 0, .int 0, .int 0, .int 0])))) s H := hP
  refine lv_dup hx hb dX2_init_46 rfl ?_
  refine gCallCN X nOK (vX9_init (i := i + 8) (w := (va_up (va_up (va_up (va_up (va_up (va_up (va_up (va_up (va_up (va_up (va_up (va_up (va_up (va_up w (i) (.inr (7, [.null, .null, .null, .null, .null, .int 0, .int 0, .int 0, .int 0, .int 0, .int 0, .int 0, .int 0]))) (i + 1) (.inl (cg 3, 8, .inr (.inr (.inr (.inr fun _ => none)))))) (i) (.inr (7, [.ref (bs + (i + 1)), .null, .null, .null, .null, .int 0, .int 0, .int 0, .int 0, .int 0, .int 0, .int 0, .int 0]))) (i + 2) (.inl (cg 4, 6, .inr (.inr (.inr (.inr fun _ => none)))))) (i) (.inr (7, [.ref (bs + (i + 1)), .ref (bs + (i + 2)), .null, .null, .null, .int 0, .int 0, .int 0, .int 0, .int 0, .int 0, .int 0, .int 0]))) (i + 3) (.inl (cg 5, 12, .inr (.inr (.inr (.inr fun _ => none)))))) (i) (.inr (7, [.ref (bs + (i + 1)), .ref (bs + (i + 2)), .ref (bs + (i + 3)), .null, .null, .int 0, .int 0, .int 0, .int 0, .int 0, .int 0, .int 0, .int 0]))) (i + 4) (.inr (6, [.null, .null, .null, .int 0, .int 0]))) (i + 4) ((rX1 bs cg kA (i + 4)) 0)) (i + 5) ((rX1 bs cg kA (i + 4)) 1)) (i + 6) ((rX1 bs cg kA (i + 4)) 2)) (i + 7) ((rX1 bs cg kA (i + 4)) 3)) (i) (.inr (7, [.ref (bs + (i + 1)), .ref (bs + (i + 2)), .ref (bs + (i + 3)), .ref (bs + (i + 4)), .null, .int 0, .int 0, .int 0, .int 0, .int 0, .int 0, .int 0, .int 0]))) (i + 8) (.inr (14, [.int 0, .int 0, .int 0, .int 0, .int 0, .int 0, .int 0, .int 0])))) (by rw [vat])) ⟨va_cnB 0 X.hts (wT_good tw168) rfl rfl rfl (X.ks.2.1 _ xn172) (X.hts _ tw10) ⟨by decide, by decide, by decide +kernel⟩ ⟨Nat.le_of_ble_eq_true rfl, Nat.le_of_ble_eq_true rfl⟩, rfl, X.hts _ tw167⟩ rfl hP hS (Fr_le hS.1) hl.1 (Nat.le_of_ble_eq_true rfl) ⟨Nat.le_of_ble_eq_true rfl, Nat.le_of_ble_eq_true rfl⟩ dX2_init_47 (As := []) (rest := [.ref (bs + (i + 8)), .ref (bs + (i))]) rfl (fun H locs hP hS => ?_)
  have hP := hP.to (w' := (va_up (va_up (va_up (va_up (va_up (va_up (va_up (va_up (va_up (va_up (va_up (va_up (va_up (va_up (va_up w (i) (.inr (7, [.null, .null, .null, .null, .null, .int 0, .int 0, .int 0, .int 0, .int 0, .int 0, .int 0, .int 0]))) (i + 1) (.inl (cg 3, 8, .inr (.inr (.inr (.inr fun _ => none)))))) (i) (.inr (7, [.ref (bs + (i + 1)), .null, .null, .null, .null, .int 0, .int 0, .int 0, .int 0, .int 0, .int 0, .int 0, .int 0]))) (i + 2) (.inl (cg 4, 6, .inr (.inr (.inr (.inr fun _ => none)))))) (i) (.inr (7, [.ref (bs + (i + 1)), .ref (bs + (i + 2)), .null, .null, .null, .int 0, .int 0, .int 0, .int 0, .int 0, .int 0, .int 0, .int 0]))) (i + 3) (.inl (cg 5, 12, .inr (.inr (.inr (.inr fun _ => none)))))) (i) (.inr (7, [.ref (bs + (i + 1)), .ref (bs + (i + 2)), .ref (bs + (i + 3)), .null, .null, .int 0, .int 0, .int 0, .int 0, .int 0, .int 0, .int 0, .int 0]))) (i + 4) (.inr (6, [.null, .null, .null, .int 0, .int 0]))) (i + 4) ((rX1 bs cg kA (i + 4)) 0)) (i + 5) ((rX1 bs cg kA (i + 4)) 1)) (i + 6) ((rX1 bs cg kA (i + 4)) 2)) (i + 7) ((rX1 bs cg kA (i + 4)) 3)) (i) (.inr (7, [.ref (bs + (i + 1)), .ref (bs + (i + 2)), .ref (bs + (i + 3)), .ref (bs + (i + 4)), .null, .int 0, .int 0, .int 0, .int 0, .int 0, .int 0, .int 0, .int 0]))) (i + 8) (.inr (14, [.int 0, .int 0, .int 0, .int 0, .int 0, .int 0, .int 0, .int 0]))) (i + 8) ((rX9 bs cg kA (i + 8)) 0))) (fun q hq => by
    rcases (show q < i + 8 ∨ q = i + 8 by omega) with h | h
    · exact (po_lt h).trans (vne (by omega)).symm
    · rw [h, vat]; exact po_0 (r := (rX9 bs cg kA (i + 8))))
  have hP : nP dC dI cg kA bs (i + 9, (va_up (va_up (va_up (va_up (va_up (va_up (va_up (va_up (va_up (va_up (va_up (va_up (va_up (va_up (va_up w (i) (.inr (7, [.null, .null, .null, .null, .null, .int 0, .int 0, .int 0, .int 0, .int 0, .int 0, .int 0, .int 0]))) (i + 1) (.inl (cg 3, 8, .inr (.inr (.inr (.inr fun _ => none)))))) (i) (.inr (7, [.ref (bs + (i + 1)), .null, .null, .null, .null, .int 0, .int 0, .int 0, .int 0, .int 0, .int 0, .int 0, .int 0]))) (i + 2) (.inl (cg 4, 6, .inr (.inr (.inr (.inr fun _ => none)))))) (i) (.inr (7, [.ref (bs + (i + 1)), .ref (bs + (i + 2)), .null, .null, .null, .int 0, .int 0, .int 0, .int 0, .int 0, .int 0, .int 0, .int 0]))) (i + 3) (.inl (cg 5, 12, .inr (.inr (.inr (.inr fun _ => none)))))) (i) (.inr (7, [.ref (bs + (i + 1)), .ref (bs + (i + 2)), .ref (bs + (i + 3)), .null, .null, .int 0, .int 0, .int 0, .int 0, .int 0, .int 0, .int 0, .int 0]))) (i + 4) (.inr (6, [.null, .null, .null, .int 0, .int 0]))) (i + 4) ((rX1 bs cg kA (i + 4)) 0)) (i + 5) ((rX1 bs cg kA (i + 4)) 1)) (i + 6) ((rX1 bs cg kA (i + 4)) 2)) (i + 7) ((rX1 bs cg kA (i + 4)) 3)) (i) (.inr (7, [.ref (bs + (i + 1)), .ref (bs + (i + 2)), .ref (bs + (i + 3)), .ref (bs + (i + 4)), .null, .int 0, .int 0, .int 0, .int 0, .int 0, .int 0, .int 0, .int 0]))) (i + 8) (.inr (14, [.int 0, .int 0, .int 0, .int 0, .int 0, .int 0, .int 0, .int 0]))) (i + 8) ((rX9 bs cg kA (i + 8)) 0))) s H := hP
  refine nw_putF X hin hP hS (Or.inl (Nat.le_add_right _ _)) ⟨by omega, by rw [vne (by omega), vne (by omega), vat]⟩ rfl cinX2 tyX2_ok nmX2 (k := 4) (by decide) rfl rfl (rfl) (rfl) (show 4 + 1 ≤ _ from Nat.le_of_ble_eq_true rfl) tw306 dX2_init_50 (fun H locs hP hS => ?_)
  have hP : nP dC dI cg kA bs (i + 9, (va_up (va_up (va_up (va_up (va_up (va_up (va_up (va_up (va_up (va_up (va_up (va_up (va_up (va_up (va_up (va_up w (i) (.inr (7, [.null, .null, .null, .null, .null, .int 0, .int 0, .int 0, .int 0, .int 0, .int 0, .int 0, .int 0]))) (i + 1) (.inl (cg 3, 8, .inr (.inr (.inr (.inr fun _ => none)))))) (i) (.inr (7, [.ref (bs + (i + 1)), .null, .null, .null, .null, .int 0, .int 0, .int 0, .int 0, .int 0, .int 0, .int 0, .int 0]))) (i + 2) (.inl (cg 4, 6, .inr (.inr (.inr (.inr fun _ => none)))))) (i) (.inr (7, [.ref (bs + (i + 1)), .ref (bs + (i + 2)), .null, .null, .null, .int 0, .int 0, .int 0, .int 0, .int 0, .int 0, .int 0, .int 0]))) (i + 3) (.inl (cg 5, 12, .inr (.inr (.inr (.inr fun _ => none)))))) (i) (.inr (7, [.ref (bs + (i + 1)), .ref (bs + (i + 2)), .ref (bs + (i + 3)), .null, .null, .int 0, .int 0, .int 0, .int 0, .int 0, .int 0, .int 0, .int 0]))) (i + 4) (.inr (6, [.null, .null, .null, .int 0, .int 0]))) (i + 4) ((rX1 bs cg kA (i + 4)) 0)) (i + 5) ((rX1 bs cg kA (i + 4)) 1)) (i + 6) ((rX1 bs cg kA (i + 4)) 2)) (i + 7) ((rX1 bs cg kA (i + 4)) 3)) (i) (.inr (7, [.ref (bs + (i + 1)), .ref (bs + (i + 2)), .ref (bs + (i + 3)), .ref (bs + (i + 4)), .null, .int 0, .int 0, .int 0, .int 0, .int 0, .int 0, .int 0, .int 0]))) (i + 8) (.inr (14, [.int 0, .int 0, .int 0, .int 0, .int 0, .int 0, .int 0, .int 0]))) (i + 8) ((rX9 bs cg kA (i + 8)) 0)) (i) (.inr (7, [.ref (bs + (i + 1)), .ref (bs + (i + 2)), .ref (bs + (i + 3)), .ref (bs + (i + 4)), .ref (bs + (i + 8)), .int 0, .int 0, .int 0, .int 0, .int 0, .int 0, .int 0, .int 0])))) s H := hP
  refine lv_aload_n hx hb dX2_init_53 rfl (lv_at hl 0 rfl) ?_
  refine lv_iconst (v := (-1)) hx hb dX2_init_54 (by decide) ?_
  refine nw_put X hP hS (Or.inl (Nat.le_add_right _ _)) ⟨by omega, by rw [vat]⟩ rfl cinX2 tyX2_ok nmX2 (k := 8) (by decide) rfl rfl (by decide +kernel) (by decide +kernel) (show 8 + 1 ≤ _ from Nat.le_of_ble_eq_true rfl) tw316 dX2_init_55 (fun H locs hP hS => ?_)
  have hP : nP dC dI cg kA bs (i + 9, (va_up (va_up (va_up (va_up (va_up (va_up (va_up (va_up (va_up (va_up (va_up (va_up (va_up (va_up (va_up (va_up (va_up w (i) (.inr (7, [.null, .null, .null, .null, .null, .int 0, .int 0, .int 0, .int 0, .int 0, .int 0, .int 0, .int 0]))) (i + 1) (.inl (cg 3, 8, .inr (.inr (.inr (.inr fun _ => none)))))) (i) (.inr (7, [.ref (bs + (i + 1)), .null, .null, .null, .null, .int 0, .int 0, .int 0, .int 0, .int 0, .int 0, .int 0, .int 0]))) (i + 2) (.inl (cg 4, 6, .inr (.inr (.inr (.inr fun _ => none)))))) (i) (.inr (7, [.ref (bs + (i + 1)), .ref (bs + (i + 2)), .null, .null, .null, .int 0, .int 0, .int 0, .int 0, .int 0, .int 0, .int 0, .int 0]))) (i + 3) (.inl (cg 5, 12, .inr (.inr (.inr (.inr fun _ => none)))))) (i) (.inr (7, [.ref (bs + (i + 1)), .ref (bs + (i + 2)), .ref (bs + (i + 3)), .null, .null, .int 0, .int 0, .int 0, .int 0, .int 0, .int 0, .int 0, .int 0]))) (i + 4) (.inr (6, [.null, .null, .null, .int 0, .int 0]))) (i + 4) ((rX1 bs cg kA (i + 4)) 0)) (i + 5) ((rX1 bs cg kA (i + 4)) 1)) (i + 6) ((rX1 bs cg kA (i + 4)) 2)) (i + 7) ((rX1 bs cg kA (i + 4)) 3)) (i) (.inr (7, [.ref (bs + (i + 1)), .ref (bs + (i + 2)), .ref (bs + (i + 3)), .ref (bs + (i + 4)), .null, .int 0, .int 0, .int 0, .int 0, .int 0, .int 0, .int 0, .int 0]))) (i + 8) (.inr (14, [.int 0, .int 0, .int 0, .int 0, .int 0, .int 0, .int 0, .int 0]))) (i + 8) ((rX9 bs cg kA (i + 8)) 0)) (i) (.inr (7, [.ref (bs + (i + 1)), .ref (bs + (i + 2)), .ref (bs + (i + 3)), .ref (bs + (i + 4)), .ref (bs + (i + 8)), .int 0, .int 0, .int 0, .int 0, .int 0, .int 0, .int 0, .int 0]))) (i) (.inr (7, [.ref (bs + (i + 1)), .ref (bs + (i + 2)), .ref (bs + (i + 3)), .ref (bs + (i + 4)), .ref (bs + (i + 8)), .int 0, .int 0, .int 0, .int (-1), .int 0, .int 0, .int 0, .int 0])))) s H := hP
  obtain ⟨T, eT⟩ : ∃ T, T = po (rX2 bs cg kA i) i w := ⟨_, rfl⟩
  have T_lt : ∀ q, q < i → T q = w q := fun q h => by rw [eT]; exact po_lt h
  have T_at : ∀ k, T (i + k) = rX2 bs cg kA i k := fun k => by rw [eT]; exact po_at
  have T_0 : T i = rX2 bs cg kA i 0 := T_at 0
  have hP : nP dC dI cg kA bs (i + 9 + 1 * 0, va_up (va_up (va_up T (i + 3) (aR (cg 5) 12 bs (i + 23) 1 0)) (i + 2) (aR (cg 4) 6 bs (i + 17) 1 0)) (i + 1) (aR (cg 3) 8 bs (i + 9) 1 0)) s H := hP.to (fun q hq => by
    rcases (show q < i ∨ q = i ∨ q = i + 1 ∨ q = i + 2 ∨ q = i + 3 ∨ q = i + 4 ∨ q = i + 5 ∨ q = i + 6 ∨ q = i + 7 ∨ q = i + 8 by omega) with h | h | h | h | h | h | h | h | h | h
    · exact ((vne (by omega)).trans ((vne (by omega)).trans ((vne (by omega)).trans ((vne (by omega)).trans ((vne (by omega)).trans ((vne (by omega)).trans ((vne (by omega)).trans ((vne (by omega)).trans ((vne (by omega)).trans ((vne (by omega)).trans ((vne (by omega)).trans ((vne (by omega)).trans ((vne (by omega)).trans ((vne (by omega)).trans ((vne (by omega)).trans ((vne (by omega)).trans (vne (by omega)))))))))))))))))).trans ((vne (by omega)).trans ((vne (by omega)).trans ((vne (by omega)).trans (T_lt q h)))).symm
    · rw [h]; exact (vat).trans ((vne (by omega)).trans ((vne (by omega)).trans ((vne (by omega)).trans (T_0)))).symm
    · rw [h]; exact ((vne (by omega)).trans ((vne (by omega)).trans ((vne (by omega)).trans ((vne (by omega)).trans ((vne (by omega)).trans ((vne (by omega)).trans ((vne (by omega)).trans ((vne (by omega)).trans ((vne (by omega)).trans ((vne (by omega)).trans ((vne (by omega)).trans ((vne (by omega)).trans ((vne (by omega)).trans ((vne (by omega)).trans ((vne (by omega)).trans (vat)))))))))))))))).trans (aR_0.symm.trans (vat).symm)
    · rw [h]; exact ((vne (by omega)).trans ((vne (by omega)).trans ((vne (by omega)).trans ((vne (by omega)).trans ((vne (by omega)).trans ((vne (by omega)).trans ((vne (by omega)).trans ((vne (by omega)).trans ((vne (by omega)).trans ((vne (by omega)).trans ((vne (by omega)).trans ((vne (by omega)).trans ((vne (by omega)).trans (vat)))))))))))))).trans (aR_0.symm.trans ((vne (by omega)).trans (vat)).symm)
    · rw [h]; exact ((vne (by omega)).trans ((vne (by omega)).trans ((vne (by omega)).trans ((vne (by omega)).trans ((vne (by omega)).trans ((vne (by omega)).trans ((vne (by omega)).trans ((vne (by omega)).trans ((vne (by omega)).trans ((vne (by omega)).trans ((vne (by omega)).trans (vat)))))))))))).trans (aR_0.symm.trans ((vne (by omega)).trans ((vne (by omega)).trans (vat))).symm)
    · rw [h]; exact ((vne (by omega)).trans ((vne (by omega)).trans ((vne (by omega)).trans ((vne (by omega)).trans ((vne (by omega)).trans ((vne (by omega)).trans ((vne (by omega)).trans ((vne (by omega)).trans (vat))))))))).trans ((vne (by omega)).trans ((vne (by omega)).trans ((vne (by omega)).trans (T_at 4)))).symm
    · rw [h]; exact ((vne (by omega)).trans ((vne (by omega)).trans ((vne (by omega)).trans ((vne (by omega)).trans ((vne (by omega)).trans ((vne (by omega)).trans ((vne (by omega)).trans (vat)))))))).trans ((vne (by omega)).trans ((vne (by omega)).trans ((vne (by omega)).trans (T_at 5)))).symm
    · rw [h]; exact ((vne (by omega)).trans ((vne (by omega)).trans ((vne (by omega)).trans ((vne (by omega)).trans ((vne (by omega)).trans ((vne (by omega)).trans (vat))))))).trans ((vne (by omega)).trans ((vne (by omega)).trans ((vne (by omega)).trans (T_at 6)))).symm
    · rw [h]; exact ((vne (by omega)).trans ((vne (by omega)).trans ((vne (by omega)).trans ((vne (by omega)).trans ((vne (by omega)).trans (vat)))))).trans ((vne (by omega)).trans ((vne (by omega)).trans ((vne (by omega)).trans (T_at 7)))).symm
    · rw [h]; exact ((vne (by omega)).trans ((vne (by omega)).trans (vat))).trans ((vne (by omega)).trans ((vne (by omega)).trans ((vne (by omega)).trans (T_at 8)))).symm)
  have T_c : ∀ j, j < 8 → T (i + 9 + 1 * j) = rX0 bs cg kA (i + 9 + 1 * j) 0 := fun j hj => by
    rw [show i + 9 + 1 * j = i + (j + 9) by omega, T_at, rX2_9, if_pos hj, show i + (j + 9) = i + 9 + 1 * j by omega]
  have T_s : ∀ j, j < 6 → T (i + 17 + 1 * j) = rX4 bs cg kA (i + 17 + 1 * j) 0 := fun j hj => by
    rw [show i + 17 + 1 * j = i + (j + 8 + 9) by omega, T_at, rX2_9, if_neg (by omega), if_pos (by omega), show i + 17 + 1 * (j + 8 - 8) = i + (j + 8 + 9) by omega]
  have T_h : ∀ j, j < 12 → T (i + 23 + 1 * j) = rX7 bs cg kA (i + 23 + 1 * j) 0 := fun j hj => by
    rw [show i + 23 + 1 * j = i + (j + 14 + 9) by omega, T_at, rX2_9, if_neg (by omega), if_neg (by omega), show i + 23 + 1 * (j + 14 - 14) = i + (j + 14 + 9) by omega]
  have U2_0 : (va_up T (i + 3) (aR (cg 5) 12 bs (i + 23) 1 0)) i = rX2 bs cg kA i 0 := (vne (by omega)).trans T_0
  have U1_0 : (va_up (va_up T (i + 3) (aR (cg 5) 12 bs (i + 23) 1 0)) (i + 2) (aR (cg 4) 6 bs (i + 17) 1 0)) i = rX2 bs cg kA i 0 := (vne (by omega)).trans U2_0
  have l1 : ∀ r j (ls : Array Slot) (H : Heap) (locs : List Loc) (cl sl : Nat), 8 = j + r → lv_has ls 2 [(1, .int (nI j)), (0, .ref (bs + i))] → nP dC dI cg kA bs (i + 9 + 1 * j, va_up (va_up (va_up T (i + 3) (aR (cg 5) 12 bs (i + 23) 1 0)) (i + 2) (aR (cg 4) 6 bs (i + 17) 1 0)) (i + 1) (aR (cg 3) 8 bs (i + 9) 1 j)) s H → va_S (Fr (nΩ bs) s.heap.size) s.heap H locs → cl ≤ 8 + 1 * j → sl ≤ 87 + 6 * j → (∀ (ls : Array Slot) (H : Heap) (locs : List Loc) (cl sl : Nat), lv_has ls 2 [(1, .int (nI 8)), (0, .ref (bs + i))] → nP dC dI cg kA bs (i + 9 + 1 * 8, va_up (va_up (va_up T (i + 3) (aR (cg 5) 12 bs (i + 23) 1 0)) (i + 2) (aR (cg 4) 6 bs (i + 17) 1 0)) (i + 1) (aR (cg 3) 8 bs (i + 9) 1 8)) s H → va_S (Fr (nΩ bs) s.heap.size) s.heap H locs → cl ≤ 8 + 1 * 8 → sl ≤ 87 + 6 * 8 → W p l e (rmL 2 34 189) s m args below meth c H locs cl sl Q (F0 m 88 ls [])) → W p l e (rmL 2 34 189) s m args below meth c H locs cl sl Q (F0 m 60 ls []) := by
    intro r
    induction r with
    | zero =>
      intro j ls H locs cl sl hj hl hP hS hc hs K
      have ej : j = 8 := by omega
      subst ej
      refine lv_iload_n hx hb dX2_init_60 rfl (lv_at hl 0 rfl) ?_
      refine lv_aload_n hx hb dX2_init_61 rfl (lv_at hl 1 rfl) ?_
      refine nw_get X hP ⟨by omega, by rw [vne (by omega)]; exact U1_0⟩ (k := 0) rfl rfl cinX2 (by decide) rfl tw297 dX2_init_62 ?_
      refine nw_alen (t0 := 3) (v := nI 8) X hP ⟨by omega, by rw [vat]; rfl⟩ rfl rfl dX2_init_65 ?_
      refine lv_icmp_ge (tgt := 88) hx hb dX2_init_66 (by decide) (fun _ => ?_) (fun c => absurd (nI_le (Nat.le_refl _) (by omega)) c)
      exact K ls H locs cl sl hl hP hS hc hs
    | succ r ih =>
      intro j ls H locs cl sl hj hl hP hS hc hs K
      refine lv_iload_n hx hb dX2_init_60 rfl (lv_at hl 0 rfl) ?_
      refine lv_aload_n hx hb dX2_init_61 rfl (lv_at hl 1 rfl) ?_
      refine nw_get X hP ⟨by omega, by rw [vne (by omega)]; exact U1_0⟩ (k := 0) rfl rfl cinX2 (by decide) rfl tw297 dX2_init_62 ?_
      refine nw_alen (t0 := 3) (v := nI 8) X hP ⟨by omega, by rw [vat]; rfl⟩ rfl rfl dX2_init_65 ?_
      refine lv_icmp_ge (tgt := 88) hx hb dX2_init_66 (by decide) (fun c => absurd c (nI_ge (show j < 8 by omega) (by omega))) (fun _ => ?_)
      refine lv_aload_n hx hb dX2_init_69 rfl (lv_at hl 1 rfl) ?_
      refine nw_get X hP ⟨by omega, by rw [vne (by omega)]; exact U1_0⟩ (k := 0) rfl rfl cinX2 (by decide) rfl tw297 dX2_init_70 ?_
      refine lv_iload_n hx hb dX2_init_73 rfl (lv_at hl 0 rfl) ?_
      refine nw_new (ci := 5) (tyT := tyX0) [.null, .int 0, .int 0, .int 0, .int 0, .int 0] X hP hS cinX0 tyX0_ok tw135 tw209 tw11 rfl (fun j hj => by rcases (show j = 0 ∨ j = 1 ∨ j = 2 ∨ j = 3 ∨ j = 4 ∨ j = 5 by omega) with rfl | rfl | rfl | rfl | rfl | rfl <;> rfl) ⟨by show cl + 1 ≤ 34; omega, by show sl + 6 ≤ 189; omega⟩ dX2_init_74 (fun H hP hS => ?_)
      refine lv_dup hx hb dX2_init_77 rfl ?_
      refine gCallCN X nOK (vX0_init (i := i + 9 + 1 * j) (w := va_up (va_up (va_up (va_up T (i + 3) (aR (cg 5) 12 bs (i + 23) 1 0)) (i + 2) (aR (cg 4) 6 bs (i + 17) 1 0)) (i + 1) (aR (cg 3) 8 bs (i + 9) 1 j)) (i + 9 + 1 * j) (.inr (5, [.null, .int 0, .int 0, .int 0, .int 0, .int 0]))) (by rw [vat])) ⟨va_cnB 0 X.hts (wT_good tw212) rfl rfl rfl (X.ks.2.1 _ xn216) (X.hts _ tw11) ⟨by decide, by decide, by decide +kernel⟩ ⟨Nat.le_of_ble_eq_true rfl, Nat.le_of_ble_eq_true rfl⟩, rfl, X.hts _ tw211⟩ rfl hP hS (Fr_le hS.1) hl.1 (Nat.le_of_ble_eq_true rfl) ⟨by show cl + 1 + 0 ≤ 34; omega, by show sl + 6 + 0 ≤ 189; omega⟩ dX2_init_78 (As := []) (rest := [.ref (bs + (i + 9 + 1 * j)), .int (nI j), .ref (bs + (i + 1))]) rfl (fun H locs hP hS => ?_)
      refine nw_aast (t0 := 3) (ci := 5) (f := fun k => if k < j then some (bs + (i + 9 + 1 * k)) else none) X hP hS (Or.inl (Nat.le_add_right _ _)) ⟨by omega, by rw [po_lt (by omega), vne (by omega), vat]; rfl⟩ rfl ⟨by omega, po_0⟩ rfl (nI_in (show j < 8 by omega) (by omega)) dX2_init_81 (fun H locs hP hS => ?_)
      have hP : nP dC dI cg kA bs (i + 9 + 1 * (j + 1), va_up (va_up (va_up T (i + 3) (aR (cg 5) 12 bs (i + 23) 1 0)) (i + 2) (aR (cg 4) 6 bs (i + 17) 1 0)) (i + 1) (aR (cg 3) 8 bs (i + 9) 1 (j + 1))) s H := nP.lp hP (by omega) (aR_s (by omega) rfl) (by omega) (fun t ht => (by
        have et : t = 0 := by omega
        subst et
        exact (vne (by omega)).trans ((vne (by omega)).trans (T_c j (by omega)))))
      refine lv_iinc (v := nI j + 1) (lv' := [(1, .int (nI j + 1)), (0, .ref (bs + i))]) hx hb dX2_init_82 hl (k := 0) rfl (by rfl) (by decide) rfl (fun ls hl => ?_)
      rw [nI_1] at hl
      refine lv_goto (tgt := 60) hx hb dX2_init_85 (by decide) ?_
      exact ih (j + 1) ls H locs _ _ (by omega) hl hP hS (by omega) (by omega) K
  have l2 : ∀ r j (ls : Array Slot) (H : Heap) (locs : List Loc) (cl sl : Nat), 6 = j + r → lv_has ls 2 [(1, .int (nI j)), (0, .ref (bs + i))] → nP dC dI cg kA bs (i + 17 + 1 * j, va_up (va_up T (i + 3) (aR (cg 5) 12 bs (i + 23) 1 0)) (i + 2) (aR (cg 4) 6 bs (i + 17) 1 j)) s H → va_S (Fr (nΩ bs) s.heap.size) s.heap H locs → cl ≤ 16 + 1 * j → sl ≤ 135 + 5 * j → (∀ (ls : Array Slot) (H : Heap) (locs : List Loc) (cl sl : Nat), lv_has ls 2 [(1, .int (nI 6)), (0, .ref (bs + i))] → nP dC dI cg kA bs (i + 17 + 1 * 6, va_up (va_up T (i + 3) (aR (cg 5) 12 bs (i + 23) 1 0)) (i + 2) (aR (cg 4) 6 bs (i + 17) 1 6)) s H → va_S (Fr (nΩ bs) s.heap.size) s.heap H locs → cl ≤ 16 + 1 * 6 → sl ≤ 135 + 5 * 6 → W p l e (rmL 2 34 189) s m args below meth c H locs cl sl Q (F0 m 118 ls [])) → W p l e (rmL 2 34 189) s m args below meth c H locs cl sl Q (F0 m 90 ls []) := by
    intro r
    induction r with
    | zero =>
      intro j ls H locs cl sl hj hl hP hS hc hs K
      have ej : j = 6 := by omega
      subst ej
      refine lv_iload_n hx hb dX2_init_90 rfl (lv_at hl 0 rfl) ?_
      refine lv_aload_n hx hb dX2_init_91 rfl (lv_at hl 1 rfl) ?_
      refine nw_get X hP ⟨by omega, by rw [vne (by omega)]; exact U2_0⟩ (k := 1) rfl rfl cinX2 (by decide) rfl tw300 dX2_init_92 ?_
      refine nw_alen (t0 := 4) (v := nI 6) X hP ⟨by omega, by rw [vat]; rfl⟩ rfl rfl dX2_init_95 ?_
      refine lv_icmp_ge (tgt := 118) hx hb dX2_init_96 (by decide) (fun _ => ?_) (fun c => absurd (nI_le (Nat.le_refl _) (by omega)) c)
      exact K ls H locs cl sl hl hP hS hc hs
    | succ r ih =>
      intro j ls H locs cl sl hj hl hP hS hc hs K
      refine lv_iload_n hx hb dX2_init_90 rfl (lv_at hl 0 rfl) ?_
      refine lv_aload_n hx hb dX2_init_91 rfl (lv_at hl 1 rfl) ?_
      refine nw_get X hP ⟨by omega, by rw [vne (by omega)]; exact U2_0⟩ (k := 1) rfl rfl cinX2 (by decide) rfl tw300 dX2_init_92 ?_
      refine nw_alen (t0 := 4) (v := nI 6) X hP ⟨by omega, by rw [vat]; rfl⟩ rfl rfl dX2_init_95 ?_
      refine lv_icmp_ge (tgt := 118) hx hb dX2_init_96 (by decide) (fun c => absurd c (nI_ge (show j < 6 by omega) (by omega))) (fun _ => ?_)
      refine lv_aload_n hx hb dX2_init_99 rfl (lv_at hl 1 rfl) ?_
      refine nw_get X hP ⟨by omega, by rw [vne (by omega)]; exact U2_0⟩ (k := 1) rfl rfl cinX2 (by decide) rfl tw300 dX2_init_100 ?_
      refine lv_iload_n hx hb dX2_init_103 rfl (lv_at hl 0 rfl) ?_
      refine nw_new (ci := 9) (tyT := tyX4) [.null, .int 0, .int 0, .int 0, .int 0] X hP hS cinX4 tyX4_ok tw137 tw245 tw12 rfl (fun j hj => by rcases (show j = 0 ∨ j = 1 ∨ j = 2 ∨ j = 3 ∨ j = 4 by omega) with rfl | rfl | rfl | rfl | rfl <;> rfl) ⟨by show cl + 1 ≤ 34; omega, by show sl + 5 ≤ 189; omega⟩ dX2_init_104 (fun H hP hS => ?_)
      refine lv_dup hx hb dX2_init_107 rfl ?_
      refine gCallCN X nOK (vX4_init (i := i + 17 + 1 * j) (w := va_up (va_up (va_up T (i + 3) (aR (cg 5) 12 bs (i + 23) 1 0)) (i + 2) (aR (cg 4) 6 bs (i + 17) 1 j)) (i + 17 + 1 * j) (.inr (9, [.null, .int 0, .int 0, .int 0, .int 0]))) (by rw [vat])) ⟨va_cnB 0 X.hts (wT_good tw248) rfl rfl rfl (X.ks.2.1 _ xn255) (X.hts _ tw12) ⟨by decide, by decide, by decide +kernel⟩ ⟨Nat.le_of_ble_eq_true rfl, Nat.le_of_ble_eq_true rfl⟩, rfl, X.hts _ tw247⟩ rfl hP hS (Fr_le hS.1) hl.1 (Nat.le_of_ble_eq_true rfl) ⟨by show cl + 1 + 0 ≤ 34; omega, by show sl + 5 + 0 ≤ 189; omega⟩ dX2_init_108 (As := []) (rest := [.ref (bs + (i + 17 + 1 * j)), .int (nI j), .ref (bs + (i + 2))]) rfl (fun H locs hP hS => ?_)
      refine nw_aast (t0 := 4) (ci := 9) (f := fun k => if k < j then some (bs + (i + 17 + 1 * k)) else none) X hP hS (Or.inl (Nat.le_add_right _ _)) ⟨by omega, by rw [po_lt (by omega), vne (by omega), vat]; rfl⟩ rfl ⟨by omega, po_0⟩ rfl (nI_in (show j < 6 by omega) (by omega)) dX2_init_111 (fun H locs hP hS => ?_)
      have hP : nP dC dI cg kA bs (i + 17 + 1 * (j + 1), va_up (va_up T (i + 3) (aR (cg 5) 12 bs (i + 23) 1 0)) (i + 2) (aR (cg 4) 6 bs (i + 17) 1 (j + 1))) s H := nP.lp hP (by omega) (aR_s (by omega) rfl) (by omega) (fun t ht => (by
        have et : t = 0 := by omega
        subst et
        exact (vne (by omega)).trans (T_s j (by omega))))
      refine lv_iinc (v := nI j + 1) (lv' := [(1, .int (nI j + 1)), (0, .ref (bs + i))]) hx hb dX2_init_112 hl (k := 0) rfl (by rfl) (by decide) rfl (fun ls hl => ?_)
      rw [nI_1] at hl
      refine lv_goto (tgt := 90) hx hb dX2_init_115 (by decide) ?_
      exact ih (j + 1) ls H locs _ _ (by omega) hl hP hS (by omega) (by omega) K
  have l3 : ∀ r j (ls : Array Slot) (H : Heap) (locs : List Loc) (cl sl : Nat), 12 = j + r → lv_has ls 2 [(1, .int (nI j)), (0, .ref (bs + i))] → nP dC dI cg kA bs (i + 23 + 1 * j, va_up T (i + 3) (aR (cg 5) 12 bs (i + 23) 1 j)) s H → va_S (Fr (nΩ bs) s.heap.size) s.heap H locs → cl ≤ 22 + 1 * j → sl ≤ 165 + 2 * j → (∀ (ls : Array Slot) (H : Heap) (locs : List Loc) (cl sl : Nat), lv_has ls 2 [(1, .int (nI 12)), (0, .ref (bs + i))] → nP dC dI cg kA bs (i + 23 + 1 * 12, va_up T (i + 3) (aR (cg 5) 12 bs (i + 23) 1 12)) s H → va_S (Fr (nΩ bs) s.heap.size) s.heap H locs → cl ≤ 22 + 1 * 12 → sl ≤ 165 + 2 * 12 → W p l e (rmL 2 34 189) s m args below meth c H locs cl sl Q (F0 m 148 ls [])) → W p l e (rmL 2 34 189) s m args below meth c H locs cl sl Q (F0 m 120 ls []) := by
    intro r
    induction r with
    | zero =>
      intro j ls H locs cl sl hj hl hP hS hc hs K
      have ej : j = 12 := by omega
      subst ej
      refine lv_iload_n hx hb dX2_init_120 rfl (lv_at hl 0 rfl) ?_
      refine lv_aload_n hx hb dX2_init_121 rfl (lv_at hl 1 rfl) ?_
      refine nw_get X hP ⟨by omega, by rw [vne (by omega)]; exact T_0⟩ (k := 2) rfl rfl cinX2 (by decide) rfl tw303 dX2_init_122 ?_
      refine nw_alen (t0 := 5) (v := nI 12) X hP ⟨by omega, by rw [vat]; rfl⟩ rfl rfl dX2_init_125 ?_
      refine lv_icmp_ge (tgt := 148) hx hb dX2_init_126 (by decide) (fun _ => ?_) (fun c => absurd (nI_le (Nat.le_refl _) (by omega)) c)
      exact K ls H locs cl sl hl hP hS hc hs
    | succ r ih =>
      intro j ls H locs cl sl hj hl hP hS hc hs K
      refine lv_iload_n hx hb dX2_init_120 rfl (lv_at hl 0 rfl) ?_
      refine lv_aload_n hx hb dX2_init_121 rfl (lv_at hl 1 rfl) ?_
      refine nw_get X hP ⟨by omega, by rw [vne (by omega)]; exact T_0⟩ (k := 2) rfl rfl cinX2 (by decide) rfl tw303 dX2_init_122 ?_
      refine nw_alen (t0 := 5) (v := nI 12) X hP ⟨by omega, by rw [vat]; rfl⟩ rfl rfl dX2_init_125 ?_
      refine lv_icmp_ge (tgt := 148) hx hb dX2_init_126 (by decide) (fun c => absurd c (nI_ge (show j < 12 by omega) (by omega))) (fun _ => ?_)
      refine lv_aload_n hx hb dX2_init_129 rfl (lv_at hl 1 rfl) ?_
      refine nw_get X hP ⟨by omega, by rw [vne (by omega)]; exact T_0⟩ (k := 2) rfl rfl cinX2 (by decide) rfl tw303 dX2_init_130 ?_
      refine lv_iload_n hx hb dX2_init_133 rfl (lv_at hl 0 rfl) ?_
      refine nw_new (ci := 12) (tyT := tyX7) [.int 0, .int 0] X hP hS cinX7 tyX7_ok tw139 tw281 tw13 rfl (fun j hj => by rcases (show j = 0 ∨ j = 1 by omega) with rfl | rfl <;> rfl) ⟨by show cl + 1 ≤ 34; omega, by show sl + 2 ≤ 189; omega⟩ dX2_init_134 (fun H hP hS => ?_)
      refine lv_dup hx hb dX2_init_137 rfl ?_
      refine gCallCN X nOK (vX7_init (i := i + 23 + 1 * j) (w := va_up (va_up T (i + 3) (aR (cg 5) 12 bs (i + 23) 1 j)) (i + 23 + 1 * j) (.inr (12, [.int 0, .int 0]))) (by rw [vat])) ⟨va_cnB 0 X.hts (wT_good tw284) rfl rfl rfl (X.ks.2.1 _ xn296) (X.hts _ tw13) ⟨by decide, by decide, by decide +kernel⟩ ⟨Nat.le_of_ble_eq_true rfl, Nat.le_of_ble_eq_true rfl⟩, rfl, X.hts _ tw283⟩ rfl hP hS (Fr_le hS.1) hl.1 (Nat.le_of_ble_eq_true rfl) ⟨by show cl + 1 + 0 ≤ 34; omega, by show sl + 2 + 0 ≤ 189; omega⟩ dX2_init_138 (As := []) (rest := [.ref (bs + (i + 23 + 1 * j)), .int (nI j), .ref (bs + (i + 3))]) rfl (fun H locs hP hS => ?_)
      refine nw_aast (t0 := 5) (ci := 12) (f := fun k => if k < j then some (bs + (i + 23 + 1 * k)) else none) X hP hS (Or.inl (Nat.le_add_right _ _)) ⟨by omega, by rw [po_lt (by omega), vne (by omega), vat]; rfl⟩ rfl ⟨by omega, po_0⟩ rfl (nI_in (show j < 12 by omega) (by omega)) dX2_init_141 (fun H locs hP hS => ?_)
      have hP : nP dC dI cg kA bs (i + 23 + 1 * (j + 1), va_up T (i + 3) (aR (cg 5) 12 bs (i + 23) 1 (j + 1))) s H := nP.lp hP (by omega) (aR_s (by omega) rfl) (by omega) (fun t ht => (by
        have et : t = 0 := by omega
        subst et
        exact T_h j (by omega)))
      refine lv_iinc (v := nI j + 1) (lv' := [(1, .int (nI j + 1)), (0, .ref (bs + i))]) hx hb dX2_init_142 hl (k := 0) rfl (by rfl) (by decide) rfl (fun ls hl => ?_)
      rw [nI_1] at hl
      refine lv_goto (tgt := 120) hx hb dX2_init_145 (by decide) ?_
      exact ih (j + 1) ls H locs _ _ (by omega) hl hP hS (by omega) (by omega) K
  refine lv_iconst (v := 0) hx hb dX2_init_58 (by decide) ?_
  refine lv_istore_n (lv' := [(1, .int 0), (0, .ref (bs + i))]) hx hb dX2_init_59 rfl hl (by decide) rfl (fun ls hl => ?_)
  have hl : lv_has ls 2 [(1, .int (nI 0)), (0, .ref (bs + i))] := hl
  refine l1 8 0 ls H locs _ _ rfl hl hP hS (Nat.le_of_ble_eq_true rfl) (Nat.le_of_ble_eq_true rfl) (fun ls H locs cl sl hl hP hS hc hs => ?_)
  have hP : nP dC dI cg kA bs (i + 17 + 1 * 0, (va_up (va_up T (i + 3) (aR (cg 5) 12 bs (i + 23) 1 0)) (i + 2) (aR (cg 4) 6 bs (i + 17) 1 0))) s H := (hP.dr ((T_at 1).symm.trans ((vne (by omega)).trans (vne (by omega))).symm)).cs (by omega)
  refine lv_iconst (v := 0) hx hb dX2_init_88 (by decide) ?_
  refine lv_istore_n (lv' := [(1, .int 0), (0, .ref (bs + i))]) hx hb dX2_init_89 rfl hl (by decide) rfl (fun ls hl => ?_)
  have hl : lv_has ls 2 [(1, .int (nI 0)), (0, .ref (bs + i))] := hl
  refine l2 6 0 ls H locs _ _ rfl hl hP hS (by omega) (by omega) (fun ls H locs cl sl hl hP hS hc hs => ?_)
  have hP : nP dC dI cg kA bs (i + 23 + 1 * 0, (va_up T (i + 3) (aR (cg 5) 12 bs (i + 23) 1 0))) s H := (hP.dr ((T_at 2).symm.trans (vne (by omega)).symm)).cs (by omega)
  refine lv_iconst (v := 0) hx hb dX2_init_118 (by decide) ?_
  refine lv_istore_n (lv' := [(1, .int 0), (0, .ref (bs + i))]) hx hb dX2_init_119 rfl hl (by decide) rfl (fun ls hl => ?_)
  have hl : lv_has ls 2 [(1, .int (nI 0)), (0, .ref (bs + i))] := hl
  refine l3 12 0 ls H locs _ _ rfl hl hP hS (by omega) (by omega) (fun ls H locs cl sl hl hP hS hc hs => ?_)
  have hP : nP dC dI cg kA bs (i + 35, T) s H := (hP.dr (T_at 3).symm).cs (by omega)
  rw [eT] at hP
  exact hret _ _ _ _ _ _ dX2_init_148 hP hS (by omega) (by omega))
end GRAN
