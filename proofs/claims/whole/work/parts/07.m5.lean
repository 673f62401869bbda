variable {l : Launch} {p : Program} {e : Env} {s : State} {m : MethodId} {args : Array Value} {below : List Frame} {meth : Method} {c : Code} {A : Nat → Prop} {Q : State → Prop}
variable {dC : Nat → ClassId} {dI : Nat → Nat → Nat} {cI : ClassId} {ad : Nat → Nat}
def fX11_sackAfter_21 (M : MS) (s0 : Int32) : Option (Int32 × MS) := some (s0, M)
def fX11_sackAfter_18 (M : MS) (s0 : Int32) : Option (Int32 × MS) := (fX11_goesBack M s0).bind fun q => fX11_sackAfter_21 q.2 q.1
def fX11_sackAfter_9 (M : MS) (x1 : Int32) (x2 : Int32) (s0 : Int32) : Option (Int32 × MS) := (fX11_ofSack M x1 x2).bind fun q => fX11_sackAfter_18 q.2 q.1
def fX11_sackAfter_4 (M : MS) (x1 : Int32) (x2 : Int32) (x3 : Int32) : Option (Int32 × MS) := (fX11_passes M x3).bind fun q => fX11_sackAfter_9 q.2 x1 x2 q.1
def fX11_sackAfter_0 (M : MS) (a1 : Int32) (a2 : Int32) (a3 : Int32) : Option (Int32 × MS) := (fX11_goesAside M ).bind fun q => fX11_sackAfter_4 q a1 a2 a3
def fX11_sackAfter (M : MS) (a1 : Int32) (a2 : Int32) (a3 : Int32) : Option (Int32 × MS) := fX11_sackAfter_0 M a1 a2 a3
def fX11_swornAfter_36 (M : MS) (s0 : Int32) : Option (Int32 × MS) := some (s0, M)
def fX11_swornAfter_25 (M : MS) (s0 : Int32) : Option (Int32 × MS) := if gIn 5 257 then (fX11_goesBack M (M.2 0 (5 : Int32).toNatClampNeg)).bind fun q => fX11_swornAfter_36 q.2 q.1 else none
def fX11_swornAfter_20 (M : MS) (x1 : Int32) : Option (Int32 × MS) := (fX11_passes M x1).bind fun q => fX11_swornAfter_25 q.2 q.1
def fX11_swornAfter_16 (M : MS) (x1 : Int32) : Option (Int32 × MS) := (fX11_goesAside M ).bind fun q => fX11_swornAfter_20 q x1
def fX11_swornAfter_14 (M : MS) : Option (Int32 × MS) := some (0, M)
def fX11_swornAfter_11 (M : MS) (x1 : Int32) (s0 : Int32) : Option (Int32 × MS) := if s0 = 0 then fX11_swornAfter_16 M x1 else fX11_swornAfter_14 M
def fX11_swornAfter_5 (M : MS) (x1 : Int32) : Option (Int32 × MS) := (fX11_noHours M x1 1).bind fun q => fX11_swornAfter_11 q.2 x1 q.1
def fX11_swornAfter_0 (M : MS) (a1 : Int32) : Option (Int32 × MS) := fX11_swornAfter_5 (va_up M.1 7 0, M.2) a1
def fX11_swornAfter (M : MS) (a1 : Int32) : Option (Int32 × MS) := fX11_swornAfter_0 M a1
def fX11_hoursUntilUnguarded_11 (M : MS) (s0 : Int32) : Option (Int32 × MS) := some (s0, M)
def fX11_hoursUntilUnguarded_5 (M : MS) : Option (Int32 × MS) := (fX11_hoursUntil M 5 (-1)).bind fun q => fX11_hoursUntilUnguarded_11 q.2 q.1
def fX11_hoursUntilUnguarded_0 (M : MS) : Option (Int32 × MS) := fX11_hoursUntilUnguarded_5 (va_up M.1 7 0, M.2)
def fX11_hoursUntilUnguarded (M : MS) : Option (Int32 × MS) := fX11_hoursUntilUnguarded_0 M
def fX11_hoursUntilEmpty_33 (M : MS) (s0 : Int32) : Option (Int32 × MS) := some (s0, M)
def fX11_hoursUntilEmpty_17 (M : MS) (x1 : Int32) : Option (Int32 × MS) := (fX11_hoursUntil M ((161 + (12 * x1)) + 7) 0).bind fun q => fX11_hoursUntilEmpty_33 q.2 q.1
def fX11_hoursUntilEmpty_13 (M : MS) : Option (Int32 × MS) := fX11_hoursUntilEmpty_33 M 0
def fX11_hoursUntilEmpty_10 (M : MS) (x1 : Int32) (s0 : Int32) : Option (Int32 × MS) := if s0 = 0 then fX11_hoursUntilEmpty_17 M x1 else fX11_hoursUntilEmpty_13 M
def fX11_hoursUntilEmpty_5 (M : MS) (x1 : Int32) : Option (Int32 × MS) := (fX11_noSack M x1).bind fun q => fX11_hoursUntilEmpty_10 q.2 x1 q.1
def fX11_hoursUntilEmpty_0 (M : MS) (a1 : Int32) : Option (Int32 × MS) := fX11_hoursUntilEmpty_5 (va_up M.1 7 0, M.2) a1
def fX11_hoursUntilEmpty (M : MS) (a1 : Int32) : Option (Int32 × MS) := fX11_hoursUntilEmpty_0 M a1
def fX11_caughtWithin_29 (M : MS) (s0 : Int32) : Option (Int32 × MS) := some (s0, M)
def fX11_caughtWithin_26 (M : MS) (s0 : Int32) : Option (Int32 × MS) := (fX11_goesBack M s0).bind fun q => fX11_caughtWithin_29 q.2 q.1
def fX11_caughtWithin_20 (M : MS) (x1 : Int32) : Option (Int32 × MS) := (fX11_passes M x1).bind fun q => fX11_caughtWithin_26 q.2 q.1
def fX11_caughtWithin_16 (M : MS) (x1 : Int32) : Option (Int32 × MS) := (fX11_goesAside M ).bind fun q => fX11_caughtWithin_20 q x1
def fX11_caughtWithin_14 (M : MS) : Option (Int32 × MS) := some (0, M)
def fX11_caughtWithin_11 (M : MS) (x1 : Int32) (s0 : Int32) : Option (Int32 × MS) := if s0 = 0 then fX11_caughtWithin_16 M x1 else fX11_caughtWithin_14 M
def fX11_caughtWithin_5 (M : MS) (x1 : Int32) : Option (Int32 × MS) := (fX11_noHours M x1 1).bind fun q => fX11_caughtWithin_11 q.2 x1 q.1
def fX11_caughtWithin_0 (M : MS) (a1 : Int32) : Option (Int32 × MS) := fX11_caughtWithin_5 (va_up M.1 7 0, M.2) a1
def fX11_caughtWithin (M : MS) (a1 : Int32) : Option (Int32 × MS) := fX11_caughtWithin_0 M a1
def fX11_allGrainAfter_24 (M : MS) (s0 : Int32) : Option (Int32 × MS) := some (s0, M)
def fX11_allGrainAfter_21 (M : MS) (s0 : Int32) : Option (Int32 × MS) := (fX11_goesBack M s0).bind fun q => fX11_allGrainAfter_24 q.2 q.1
def fX11_allGrainAfter_9 (M : MS) (s0 : Int32) : Option (Int32 × MS) := (fX11_sumOf M 161 1 7).bind fun q => fX11_allGrainAfter_21 q.2 q.1
def fX11_allGrainAfter_4 (M : MS) (x1 : Int32) : Option (Int32 × MS) := (fX11_passes M x1).bind fun q => fX11_allGrainAfter_9 q.2 q.1
def fX11_allGrainAfter_0 (M : MS) (a1 : Int32) : Option (Int32 × MS) := (fX11_goesAside M ).bind fun q => fX11_allGrainAfter_4 q a1
def fX11_allGrainAfter (M : MS) (a1 : Int32) : Option (Int32 × MS) := fX11_allGrainAfter_0 M a1
def fX11_letPass_55 (M : MS) : Option (Int32 × MS) := some (0, M)
def fX11_letPass_66 (M : MS) (s0 : Int32) : Option (Int32 × MS) := some (s0, M)
def fX11_letPass_61 (M : MS) (x1 : Int32) : Option (Int32 × MS) := (fX11_passes M x1).bind fun q => fX11_letPass_66 q.2 q.1
def fX11_letPass_57 (M : MS) (x1 : Int32) : Option (Int32 × MS) := (fX11_remembers M ).bind fun q => fX11_letPass_61 q x1
def fX11_letPass_52 (M : MS) (x1 : Int32) (s0 : Int32) : Option (Int32 × MS) := if s0 = 0 then fX11_letPass_57 M x1 else fX11_letPass_55 M
def fX11_letPass_48 (M : MS) (x1 : Int32) (s0 : Int32) : Option (Int32 × MS) := (fX11_fails M s0 2).bind fun q => fX11_letPass_52 q.2 x1 q.1
def fX11_letPass_47 (M : MS) (x1 : Int32) : Option (Int32 × MS) := fX11_letPass_48 M x1 0
def fX11_letPass_43 (M : MS) (x1 : Int32) : Option (Int32 × MS) := fX11_letPass_48 M x1 1
def fX11_letPass_28 (M : MS) (x1 : Int32) : Option (Int32 × MS) := if gIn 3 257 then if ((M.2 0 (3 : Int32).toNatClampNeg) + x1) ≤ 9999 then fX11_letPass_47 M x1 else fX11_letPass_43 M x1 else none
def fX11_letPass_25 (M : MS) (x1 : Int32) (s0 : Int32) : Option (Int32 × MS) := if s0 = 0 then fX11_letPass_28 M x1 else fX11_letPass_55 M
def fX11_letPass_21 (M : MS) (x1 : Int32) (s0 : Int32) : Option (Int32 × MS) := (fX11_fails M s0 1).bind fun q => fX11_letPass_25 q.2 x1 q.1
def fX11_letPass_20 (M : MS) (x1 : Int32) : Option (Int32 × MS) := fX11_letPass_21 M x1 0
def fX11_letPass_16 (M : MS) (x1 : Int32) : Option (Int32 × MS) := fX11_letPass_21 M x1 1
def fX11_letPass_13 (M : MS) (x1 : Int32) (s0 : Int32) : Option (Int32 × MS) := if s0 = 0 then fX11_letPass_16 M x1 else fX11_letPass_20 M x1
def fX11_letPass_5 (M : MS) (x1 : Int32) : Option (Int32 × MS) := (fX11_inRange M x1 1 99).bind fun q => fX11_letPass_13 q.2 x1 q.1
def fX11_letPass_0 (M : MS) (a1 : Int32) : Option (Int32 × MS) := fX11_letPass_5 (va_up M.1 7 0, M.2) a1
def fX11_letPass (M : MS) (a1 : Int32) : Option (Int32 × MS) := fX11_letPass_0 M a1
def fX11_miceAfter_34 (M : MS) (s0 : Int32) : Option (Int32 × MS) := some (s0, M)
def fX11_miceAfter_22 (M : MS) : Option (Int32 × MS) := fX11_miceAfter_34 M 0
def fX11_miceAfter_26 (M : MS) (x1 : Int32) (x2 : Int32) : Option (Int32 × MS) := (fX11_sackAfter M x1 8 x2).bind fun q => fX11_miceAfter_34 q.2 q.1
def fX11_miceAfter_19 (M : MS) (x1 : Int32) (x2 : Int32) (s0 : Int32) : Option (Int32 × MS) := if s0 = 0 then fX11_miceAfter_26 M x1 x2 else fX11_miceAfter_22 M
def fX11_miceAfter_13 (M : MS) (x1 : Int32) (x2 : Int32) : Option (Int32 × MS) := (fX11_noHours M x2 2).bind fun q => fX11_miceAfter_19 q.2 x1 x2 q.1
def fX11_miceAfter_10 (M : MS) (x1 : Int32) (x2 : Int32) (s0 : Int32) : Option (Int32 × MS) := if s0 = 0 then fX11_miceAfter_13 M x1 x2 else fX11_miceAfter_22 M
def fX11_miceAfter_5 (M : MS) (x1 : Int32) (x2 : Int32) : Option (Int32 × MS) := (fX11_noSack M x1).bind fun q => fX11_miceAfter_10 q.2 x1 x2 q.1
def fX11_miceAfter_0 (M : MS) (a1 : Int32) (a2 : Int32) : Option (Int32 × MS) := fX11_miceAfter_5 (va_up M.1 7 0, M.2) a1 a2
def fX11_miceAfter (M : MS) (a1 : Int32) (a2 : Int32) : Option (Int32 × MS) := fX11_miceAfter_0 M a1 a2
def fX11_grainAfter_34 (M : MS) (s0 : Int32) : Option (Int32 × MS) := some (s0, M)
def fX11_grainAfter_22 (M : MS) : Option (Int32 × MS) := fX11_grainAfter_34 M 0
def fX11_grainAfter_26 (M : MS) (x1 : Int32) (x2 : Int32) : Option (Int32 × MS) := (fX11_sackAfter M x1 7 x2).bind fun q => fX11_grainAfter_34 q.2 q.1
def fX11_grainAfter_19 (M : MS) (x1 : Int32) (x2 : Int32) (s0 : Int32) : Option (Int32 × MS) := if s0 = 0 then fX11_grainAfter_26 M x1 x2 else fX11_grainAfter_22 M
def fX11_grainAfter_13 (M : MS) (x1 : Int32) (x2 : Int32) : Option (Int32 × MS) := (fX11_noHours M x2 2).bind fun q => fX11_grainAfter_19 q.2 x1 x2 q.1
def fX11_grainAfter_10 (M : MS) (x1 : Int32) (x2 : Int32) (s0 : Int32) : Option (Int32 × MS) := if s0 = 0 then fX11_grainAfter_13 M x1 x2 else fX11_grainAfter_22 M
def fX11_grainAfter_5 (M : MS) (x1 : Int32) (x2 : Int32) : Option (Int32 × MS) := (fX11_noSack M x1).bind fun q => fX11_grainAfter_10 q.2 x1 x2 q.1
def fX11_grainAfter_0 (M : MS) (a1 : Int32) (a2 : Int32) : Option (Int32 × MS) := fX11_grainAfter_5 (va_up M.1 7 0, M.2) a1 a2
def fX11_grainAfter (M : MS) (a1 : Int32) (a2 : Int32) : Option (Int32 × MS) := fX11_grainAfter_0 M a1 a2
def fX11_grainWithChange_33 (M : MS) (x4 : Int32) : Option (Int32 × MS) := some (x4, M)
def fX11_grainWithChange_23 (M : MS) (x1 : Int32) (x3 : Int32) (s0 : Int32) : Option (Int32 × MS) := (fX11_putsSack M x1 9 x3).bind fun q => fX11_grainWithChange_33 q s0
def fX11_grainWithChange_18 (M : MS) (x1 : Int32) (x2 : Int32) (x3 : Int32) : Option (Int32 × MS) := (fX11_allGrainAfter M x2).bind fun q => fX11_grainWithChange_23 q.2 x1 x3 q.1
def fX11_grainWithChange_7 (M : MS) (x1 : Int32) (x2 : Int32) (s0 : Int32) : Option (Int32 × MS) := (fX11_putsSack M x1 9 (1 - s0)).bind fun q => fX11_grainWithChange_18 q x1 x2 s0
def fX11_grainWithChange_0 (M : MS) (a1 : Int32) (a2 : Int32) : Option (Int32 × MS) := (fX11_ofSack M a1 9).bind fun q => fX11_grainWithChange_7 q.2 a1 a2 q.1
def fX11_grainWithChange (M : MS) (a1 : Int32) (a2 : Int32) : Option (Int32 × MS) := fX11_grainWithChange_0 M a1 a2
def fX11_bestFlapToChange_69 (M : MS) (x2 : Int32) : Option (Int32 × MS) := some (x2, M)
def fX11_bestFlapToChange_56 (K27 : MS → Int32 → Int32 → Int32 → Int32 → Option (Int32 × MS)) (M : MS) (x1 : Int32) (x2 : Int32) (x3 : Int32) (x4 : Int32) (x5 : Int32) : Option (Int32 × MS) := K27 M x1 x2 (if x3 < x5 then x5 else x3) (x4 + 1)
def fX11_bestFlapToChange_53 (K27 : MS → Int32 → Int32 → Int32 → Int32 → Option (Int32 × MS)) (M : MS) (x1 : Int32) (x3 : Int32) (x4 : Int32) (x5 : Int32) : Option (Int32 × MS) := fX11_bestFlapToChange_56 K27 M x1 x4 x3 x4 x5
def fX11_bestFlapToChange_45 (K27 : MS → Int32 → Int32 → Int32 → Int32 → Option (Int32 × MS)) (M : MS) (x1 : Int32) (x2 : Int32) (x3 : Int32) (x4 : Int32) (s0 : Int32) : Option (Int32 × MS) := if s0 ≤ x3 then fX11_bestFlapToChange_56 K27 M x1 x2 x3 x4 s0 else fX11_bestFlapToChange_53 K27 M x1 x3 x4 s0
def fX11_bestFlapToChange_38 (K27 : MS → Int32 → Int32 → Int32 → Int32 → Option (Int32 × MS)) (M : MS) (x1 : Int32) (x2 : Int32) (x3 : Int32) (x4 : Int32) : Option (Int32 × MS) := (fX11_grainWithChange M x4 x1).bind fun q => fX11_bestFlapToChange_45 K27 q.2 x1 x2 x3 x4 q.1
def fX11_bestFlapToChange_27 : Nat → MS → Int32 → Int32 → Int32 → Int32 → Option (Int32 × MS)
  | 0 => fun _ _ _ _ _ => none
  | k + 1 => fun M x1 x2 x3 x4 => if gIn 1 257 then if (M.2 0 (1 : Int32).toNatClampNeg) ≤ x4 then fX11_bestFlapToChange_69 M x2 else fX11_bestFlapToChange_38 (fX11_bestFlapToChange_27 k) M x1 x2 x3 x4 else none
def fX11_bestFlapToChange_23 (M : MS) (x1 : Int32) (x2 : Int32) (s0 : Int32) : Option (Int32 × MS) := fX11_bestFlapToChange_27 FU M x1 x2 s0 0
def fX11_bestFlapToChange_16 (M : MS) (x1 : Int32) : Option (Int32 × MS) := (fX11_allGrainAfter M x1).bind fun q => fX11_bestFlapToChange_23 q.2 x1 (-1) q.1
def fX11_bestFlapToChange_14 (M : MS) : Option (Int32 × MS) := some (0, M)
def fX11_bestFlapToChange_11 (M : MS) (x1 : Int32) (s0 : Int32) : Option (Int32 × MS) := if s0 = 0 then fX11_bestFlapToChange_16 M x1 else fX11_bestFlapToChange_14 M
def fX11_bestFlapToChange_5 (M : MS) (x1 : Int32) : Option (Int32 × MS) := (fX11_noHours M x1 1).bind fun q => fX11_bestFlapToChange_11 q.2 x1 q.1
def fX11_bestFlapToChange_0 (M : MS) (a1 : Int32) : Option (Int32 × MS) := fX11_bestFlapToChange_5 (va_up M.1 7 0, M.2) a1
def fX11_bestFlapToChange (M : MS) (a1 : Int32) : Option (Int32 × MS) := fX11_bestFlapToChange_0 M a1
set_option maxRecDepth 10000 in
theorem kX11_sackAfter_21  {r : Int32} {S1 : MS} {M : MS} {s0 : Int32} (X : gX p s m args c cX11_sackAfter 5 RX11 (dC, dI) [(cI, .int)] A) (hDA : ∀ S, va_D A ((mW cI ad) S)) (hret : gRetI p l e (rmL 7 0 0) s m args below meth c cX11_sackAfter (dC, dI) A (mW cI ad) Q r S1) (hf : fX11_sackAfter_21 M s0 = some (r, S1)) {H : Heap} {locs : List Loc} {ls : Array Slot} (hP : va_P (dC, dI) vwCl ((mW cI ad) M) H) (hS : va_S A s.heap H locs) (hl : lv_has ls 5 [(0, .ref (ad 25))]) : W p l e (rmL 7 0 0) s m args below meth c H locs 0 0 Q (F0 m 21 ls [.int s0]) := by
  have hx := X.hx
  have hb := X.hb
  have hown := X.hown
  have hts := X.hts
  rw [fX11_sackAfter_21] at hf
  cases hf
  exact hret _ _ _ _ dX11_sackAfter_21 hP hS
set_option maxRecDepth 10000 in
theorem kX11_sackAfter_18  {r : Int32} {S1 : MS} {M : MS} {s0 : Int32} (X : gX p s m args c cX11_sackAfter 5 RX11 (dC, dI) [(cI, .int)] A) (hDA : ∀ S, va_D A ((mW cI ad) S)) (hret : gRetI p l e (rmL 7 0 0) s m args below meth c cX11_sackAfter (dC, dI) A (mW cI ad) Q r S1) (hf : fX11_sackAfter_18 M s0 = some (r, S1)) {H : Heap} {locs : List Loc} {ls : Array Slot} (hP : va_P (dC, dI) vwCl ((mW cI ad) M) H) (hS : va_S A s.heap H locs) (hl : lv_has ls 5 [(0, .ref (ad 25))]) : W p l e (rmL 7 0 0) s m args below meth c H locs 0 0 Q (F0 m 18 ls [.int s0, .ref (ad 25)]) := by
  have hx := X.hx
  have hb := X.hb
  have hown := X.hown
  have hts := X.hts
  rw [fX11_sackAfter_18] at hf
  obtain ⟨q, hc, hf⟩ := bd hf
  refine gCallVI X hDA rfl (vX11_goesBack hc) gRX11_X11_goesBack hdX11_goesBack rfl ⟨by decide, by decide⟩ hP hS (k0 := 0) (ci := 15) rfl rfl hl.1 (Nat.le_of_ble_eq_true rfl) ⟨Nat.le_refl _, Nat.le_refl _⟩ dX11_sackAfter_18 (As := [.int s0]) (rest := []) rfl (fun H locs hP hS => ?_)
  exact kX11_sackAfter_21 X hDA hret hf hP hS (lv_sub hl [0] rfl)
set_option maxRecDepth 10000 in
theorem kX11_sackAfter_9  {r : Int32} {S1 : MS} {M : MS} {x1 : Int32} {x2 : Int32} {s0 : Int32} (X : gX p s m args c cX11_sackAfter 5 RX11 (dC, dI) [(cI, .int)] A) (hDA : ∀ S, va_D A ((mW cI ad) S)) (hret : gRetI p l e (rmL 7 0 0) s m args below meth c cX11_sackAfter (dC, dI) A (mW cI ad) Q r S1) (hf : fX11_sackAfter_9 M x1 x2 s0 = some (r, S1)) {H : Heap} {locs : List Loc} {ls : Array Slot} (hP : va_P (dC, dI) vwCl ((mW cI ad) M) H) (hS : va_S A s.heap H locs) (hl : lv_has ls 5 [(0, .ref (ad 25)), (1, .int x1), (2, .int x2)]) : W p l e (rmL 7 0 0) s m args below meth c H locs 0 0 Q (F0 m 9 ls [.int s0]) := by
  have hx := X.hx
  have hb := X.hb
  have hown := X.hown
  have hts := X.hts
  rw [fX11_sackAfter_9] at hf
  refine lv_istore (lv' := [(4, .int s0), (0, .ref (ad 25)), (1, .int x1), (2, .int x2)]) hx hb dX11_sackAfter_9 hl (by decide) rfl (fun ls hl => ?_)
  refine lv_aload_n hx hb dX11_sackAfter_11 rfl (lv_at hl 1 rfl) ?_
  refine lv_aload_n hx hb dX11_sackAfter_12 rfl (lv_at hl 1 rfl) ?_
  refine lv_iload_n hx hb dX11_sackAfter_13 rfl (lv_at hl 2 rfl) ?_
  refine lv_iload_n hx hb dX11_sackAfter_14 rfl (lv_at hl 3 rfl) ?_
  obtain ⟨q, hc, hf⟩ := bd hf
  refine gCallVI X hDA rfl (vX11_ofSack hc) gRX11_X11_ofSack hdX11_ofSack rfl ⟨by decide, by decide⟩ hP hS (k0 := 0) (ci := 15) rfl rfl hl.1 (Nat.le_of_ble_eq_true rfl) ⟨Nat.le_refl _, Nat.le_refl _⟩ dX11_sackAfter_15 (As := [.int x1, .int x2]) (rest := [.ref (ad 25)]) rfl (fun H locs hP hS => ?_)
  exact kX11_sackAfter_18 X hDA hret hf hP hS (lv_sub hl [1] rfl)
set_option maxRecDepth 10000 in
theorem kX11_sackAfter_4  {r : Int32} {S1 : MS} {M : MS} {x1 : Int32} {x2 : Int32} {x3 : Int32} (X : gX p s m args c cX11_sackAfter 5 RX11 (dC, dI) [(cI, .int)] A) (hDA : ∀ S, va_D A ((mW cI ad) S)) (hret : gRetI p l e (rmL 7 0 0) s m args below meth c cX11_sackAfter (dC, dI) A (mW cI ad) Q r S1) (hf : fX11_sackAfter_4 M x1 x2 x3 = some (r, S1)) {H : Heap} {locs : List Loc} {ls : Array Slot} (hP : va_P (dC, dI) vwCl ((mW cI ad) M) H) (hS : va_S A s.heap H locs) (hl : lv_has ls 5 [(0, .ref (ad 25)), (1, .int x1), (2, .int x2), (3, .int x3)]) : W p l e (rmL 7 0 0) s m args below meth c H locs 0 0 Q (F0 m 4 ls []) := by
  have hx := X.hx
  have hb := X.hb
  have hown := X.hown
  have hts := X.hts
  rw [fX11_sackAfter_4] at hf
  refine lv_aload_n hx hb dX11_sackAfter_4 rfl (lv_at hl 0 rfl) ?_
  refine lv_iload_n hx hb dX11_sackAfter_5 rfl (lv_at hl 3 rfl) ?_
  obtain ⟨q, hc, hf⟩ := bd hf
  refine gCallVI X hDA rfl (vX11_passes hc) gRX11_X11_passes hdX11_passes rfl ⟨by decide, by decide⟩ hP hS (k0 := 0) (ci := 15) rfl rfl hl.1 (Nat.le_of_ble_eq_true rfl) ⟨Nat.le_refl _, Nat.le_refl _⟩ dX11_sackAfter_6 (As := [.int x3]) (rest := []) rfl (fun H locs hP hS => ?_)
  exact kX11_sackAfter_9 X hDA hret hf hP hS (lv_sub hl [0, 1, 2] rfl)
set_option maxRecDepth 10000 in
theorem kX11_sackAfter_0  {r : Int32} {S1 : MS} {M : MS} {a1 : Int32} {a2 : Int32} {a3 : Int32} (X : gX p s m args c cX11_sackAfter 5 RX11 (dC, dI) [(cI, .int)] A) (hDA : ∀ S, va_D A ((mW cI ad) S)) (hret : gRetI p l e (rmL 7 0 0) s m args below meth c cX11_sackAfter (dC, dI) A (mW cI ad) Q r S1) (hf : fX11_sackAfter_0 M a1 a2 a3 = some (r, S1)) {H : Heap} {locs : List Loc} {ls : Array Slot} (hP : va_P (dC, dI) vwCl ((mW cI ad) M) H) (hS : va_S A s.heap H locs) (hl : lv_has ls 5 [(0, .ref (ad 25)), (1, .int a1), (2, .int a2), (3, .int a3)]) : W p l e (rmL 7 0 0) s m args below meth c H locs 0 0 Q (F0 m 0 ls []) := by
  have hx := X.hx
  have hb := X.hb
  have hown := X.hown
  have hts := X.hts
  rw [fX11_sackAfter_0] at hf
  refine lv_aload_n hx hb dX11_sackAfter_0 rfl (lv_at hl 0 rfl) ?_
  obtain ⟨q, hc, hf⟩ := bd hf
  refine gCallVV X hDA rfl (vX11_goesAside hc) gRX11_X11_goesAside hdX11_goesAside rfl ⟨by decide, by decide⟩ hP hS (k0 := 0) (ci := 15) rfl rfl hl.1 (Nat.le_of_ble_eq_true rfl) ⟨Nat.le_refl _, Nat.le_refl _⟩ dX11_sackAfter_1 (As := []) (rest := []) rfl (fun H locs hP hS => ?_)
  exact kX11_sackAfter_4 X hDA hret hf hP hS (lv_sub hl [0, 1, 2, 3] rfl)
theorem vX11_sackAfter {l : Launch} {dC : Nat → ClassId} {dI : Nat → Nat → Nat} {cI : ClassId} {ad : Nat → Nat} {M S1 : MS} {r : Int32} {a1 : Int32} {a2 : Int32} {a3 : Int32} (hf : fX11_sackAfter M a1 a2 a3 = some (r, S1)) : gMetI l yX11_sackAfter cX11_sackAfter 5 (some .int) 7 (dC, dI) [(cI, .int)] (mW cI ad) [.ref (ad 25), .int a1, .int a2, .int a3] M r S1 := gEntryI (ty := .int) (by decide) rfl rfl mW_fix (Nat.le_of_ble_eq_true rfl) (fun p e s m args below meth c A Q ls X hDA hP hS hret hl => 
  kX11_sackAfter_0 X hDA hret hf hP hS (lv_sub hl [0, 1, 2, 3] rfl))
set_option maxRecDepth 10000 in
theorem kX11_swornAfter_36  {r : Int32} {S1 : MS} {M : MS} {s0 : Int32} (X : gX p s m args c cX11_swornAfter 3 RX11 (dC, dI) [(cI, .int)] A) (hDA : ∀ S, va_D A ((mW cI ad) S)) (hret : gRetI p l e (rmL 7 0 0) s m args below meth c cX11_swornAfter (dC, dI) A (mW cI ad) Q r S1) (hf : fX11_swornAfter_36 M s0 = some (r, S1)) {H : Heap} {locs : List Loc} {ls : Array Slot} (hP : va_P (dC, dI) vwCl ((mW cI ad) M) H) (hS : va_S A s.heap H locs) (hl : lv_has ls 3 [(0, .ref (ad 25))]) : W p l e (rmL 7 0 0) s m args below meth c H locs 0 0 Q (F0 m 36 ls [.int s0]) := by
  have hx := X.hx
  have hb := X.hb
  have hown := X.hown
  have hts := X.hts
  rw [fX11_swornAfter_36] at hf
  cases hf
  exact hret _ _ _ _ dX11_swornAfter_36 hP hS
set_option maxRecDepth 10000 in
theorem kX11_swornAfter_25  {r : Int32} {S1 : MS} {M : MS} {s0 : Int32} (X : gX p s m args c cX11_swornAfter 3 RX11 (dC, dI) [(cI, .int)] A) (hDA : ∀ S, va_D A ((mW cI ad) S)) (hret : gRetI p l e (rmL 7 0 0) s m args below meth c cX11_swornAfter (dC, dI) A (mW cI ad) Q r S1) (hf : fX11_swornAfter_25 M s0 = some (r, S1)) {H : Heap} {locs : List Loc} {ls : Array Slot} (hP : va_P (dC, dI) vwCl ((mW cI ad) M) H) (hS : va_S A s.heap H locs) (hl : lv_has ls 3 [(0, .ref (ad 25))]) : W p l e (rmL 7 0 0) s m args below meth c H locs 0 0 Q (F0 m 25 ls [.int s0]) := by
  have hx := X.hx
  have hb := X.hb
  have hown := X.hown
  have hts := X.hts
  rw [fX11_swornAfter_25] at hf
  refine lv_istore_n (lv' := [(2, .int s0), (0, .ref (ad 25))]) hx hb dX11_swornAfter_25 rfl hl (by decide) rfl (fun ls hl => ?_)
  refine lv_aload_n hx hb dX11_swornAfter_26 rfl (lv_at hl 1 rfl) ?_
  refine lv_aload_n hx hb dX11_swornAfter_27 rfl (lv_at hl 1 rfl) ?_
  refine mr_get (k := 0) X hP (by decide) rfl rfl tw1665 dX11_swornAfter_28 ?_
  refine lv_iconst (v := 5) hx hb dX11_swornAfter_31 (by decide) ?_
  obtain ⟨g1, hf⟩ := gd hf
  refine mr_ald (a := 0) X hP rfl g1 dX11_swornAfter_32 ?_
  obtain ⟨q, hc, hf⟩ := bd hf
  refine gCallVI X hDA rfl (vX11_goesBack hc) gRX11_X11_goesBack hdX11_goesBack rfl ⟨by decide, by decide⟩ hP hS (k0 := 0) (ci := 15) rfl rfl hl.1 (Nat.le_of_ble_eq_true rfl) ⟨Nat.le_refl _, Nat.le_refl _⟩ dX11_swornAfter_33 (As := [.int (M.2 0 (5 : Int32).toNatClampNeg)]) (rest := []) rfl (fun H locs hP hS => ?_)
  exact kX11_swornAfter_36 X hDA hret hf hP hS (lv_sub hl [1] rfl)
set_option maxRecDepth 10000 in
theorem kX11_swornAfter_20  {r : Int32} {S1 : MS} {M : MS} {x1 : Int32} (X : gX p s m args c cX11_swornAfter 3 RX11 (dC, dI) [(cI, .int)] A) (hDA : ∀ S, va_D A ((mW cI ad) S)) (hret : gRetI p l e (rmL 7 0 0) s m args below meth c cX11_swornAfter (dC, dI) A (mW cI ad) Q r S1) (hf : fX11_swornAfter_20 M x1 = some (r, S1)) {H : Heap} {locs : List Loc} {ls : Array Slot} (hP : va_P (dC, dI) vwCl ((mW cI ad) M) H) (hS : va_S A s.heap H locs) (hl : lv_has ls 3 [(0, .ref (ad 25)), (1, .int x1)]) : W p l e (rmL 7 0 0) s m args below meth c H locs 0 0 Q (F0 m 20 ls []) := by
  have hx := X.hx
  have hb := X.hb
  have hown := X.hown
  have hts := X.hts
  rw [fX11_swornAfter_20] at hf
  refine lv_aload_n hx hb dX11_swornAfter_20 rfl (lv_at hl 0 rfl) ?_
  refine lv_iload_n hx hb dX11_swornAfter_21 rfl (lv_at hl 1 rfl) ?_
  obtain ⟨q, hc, hf⟩ := bd hf
  refine gCallVI X hDA rfl (vX11_passes hc) gRX11_X11_passes hdX11_passes rfl ⟨by decide, by decide⟩ hP hS (k0 := 0) (ci := 15) rfl rfl hl.1 (Nat.le_of_ble_eq_true rfl) ⟨Nat.le_refl _, Nat.le_refl _⟩ dX11_swornAfter_22 (As := [.int x1]) (rest := []) rfl (fun H locs hP hS => ?_)
  exact kX11_swornAfter_25 X hDA hret hf hP hS (lv_sub hl [0] rfl)
set_option maxRecDepth 10000 in
theorem kX11_swornAfter_16  {r : Int32} {S1 : MS} {M : MS} {x1 : Int32} (X : gX p s m args c cX11_swornAfter 3 RX11 (dC, dI) [(cI, .int)] A) (hDA : ∀ S, va_D A ((mW cI ad) S)) (hret : gRetI p l e (rmL 7 0 0) s m args below meth c cX11_swornAfter (dC, dI) A (mW cI ad) Q r S1) (hf : fX11_swornAfter_16 M x1 = some (r, S1)) {H : Heap} {locs : List Loc} {ls : Array Slot} (hP : va_P (dC, dI) vwCl ((mW cI ad) M) H) (hS : va_S A s.heap H locs) (hl : lv_has ls 3 [(0, .ref (ad 25)), (1, .int x1)]) : W p l e (rmL 7 0 0) s m args below meth c H locs 0 0 Q (F0 m 16 ls []) := by
  have hx := X.hx
  have hb := X.hb
  have hown := X.hown
  have hts := X.hts
  rw [fX11_swornAfter_16] at hf
  refine lv_aload_n hx hb dX11_swornAfter_16 rfl (lv_at hl 0 rfl) ?_
  obtain ⟨q, hc, hf⟩ := bd hf
  refine gCallVV X hDA rfl (vX11_goesAside hc) gRX11_X11_goesAside hdX11_goesAside rfl ⟨by decide, by decide⟩ hP hS (k0 := 0) (ci := 15) rfl rfl hl.1 (Nat.le_of_ble_eq_true rfl) ⟨Nat.le_refl _, Nat.le_refl _⟩ dX11_swornAfter_17 (As := []) (rest := []) rfl (fun H locs hP hS => ?_)
  exact kX11_swornAfter_20 X hDA hret hf hP hS (lv_sub hl [0, 1] rfl)
set_option maxRecDepth 10000 in
theorem kX11_swornAfter_14  {r : Int32} {S1 : MS} {M : MS} (X : gX p s m args c cX11_swornAfter 3 RX11 (dC, dI) [(cI, .int)] A) (hDA : ∀ S, va_D A ((mW cI ad) S)) (hret : gRetI p l e (rmL 7 0 0) s m args below meth c cX11_swornAfter (dC, dI) A (mW cI ad) Q r S1) (hf : fX11_swornAfter_14 M = some (r, S1)) {H : Heap} {locs : List Loc} {ls : Array Slot} (hP : va_P (dC, dI) vwCl ((mW cI ad) M) H) (hS : va_S A s.heap H locs) (hl : lv_has ls 3 [(0, .ref (ad 25))]) : W p l e (rmL 7 0 0) s m args below meth c H locs 0 0 Q (F0 m 14 ls []) := by
  have hx := X.hx
  have hb := X.hb
  have hown := X.hown
  have hts := X.hts
  rw [fX11_swornAfter_14] at hf
  refine lv_iconst (v := 0) hx hb dX11_swornAfter_14 (by decide) ?_
  cases hf
  exact hret _ _ _ _ dX11_swornAfter_15 hP hS
set_option maxRecDepth 10000 in
theorem kX11_swornAfter_11  {r : Int32} {S1 : MS} {M : MS} {x1 : Int32} {s0 : Int32} (X : gX p s m args c cX11_swornAfter 3 RX11 (dC, dI) [(cI, .int)] A) (hDA : ∀ S, va_D A ((mW cI ad) S)) (hret : gRetI p l e (rmL 7 0 0) s m args below meth c cX11_swornAfter (dC, dI) A (mW cI ad) Q r S1) (hf : fX11_swornAfter_11 M x1 s0 = some (r, S1)) {H : Heap} {locs : List Loc} {ls : Array Slot} (hP : va_P (dC, dI) vwCl ((mW cI ad) M) H) (hS : va_S A s.heap H locs) (hl : lv_has ls 3 [(0, .ref (ad 25)), (1, .int x1)]) : W p l e (rmL 7 0 0) s m args below meth c H locs 0 0 Q (F0 m 11 ls [.int s0]) := by
  have hx := X.hx
  have hb := X.hb
  have hown := X.hown
  have hts := X.hts
  rw [fX11_swornAfter_11] at hf
  refine lv_if_eq (tgt := 16) hx hb dX11_swornAfter_11 (by decide) (fun c1 => ?_) (fun c1 => ?_)
  · exact kX11_swornAfter_16 X hDA hret (ifp c1 hf) hP hS (lv_sub hl [0, 1] rfl)
  · exact kX11_swornAfter_14 X hDA hret (ifn c1 hf) hP hS (lv_sub hl [0] rfl)
set_option maxRecDepth 10000 in
theorem kX11_swornAfter_5  {r : Int32} {S1 : MS} {M : MS} {x1 : Int32} (X : gX p s m args c cX11_swornAfter 3 RX11 (dC, dI) [(cI, .int)] A) (hDA : ∀ S, va_D A ((mW cI ad) S)) (hret : gRetI p l e (rmL 7 0 0) s m args below meth c cX11_swornAfter (dC, dI) A (mW cI ad) Q r S1) (hf : fX11_swornAfter_5 M x1 = some (r, S1)) {H : Heap} {locs : List Loc} {ls : Array Slot} (hP : va_P (dC, dI) vwCl ((mW cI ad) M) H) (hS : va_S A s.heap H locs) (hl : lv_has ls 3 [(0, .ref (ad 25)), (1, .int x1)]) : W p l e (rmL 7 0 0) s m args below meth c H locs 0 0 Q (F0 m 5 ls []) := by
  have hx := X.hx
  have hb := X.hb
  have hown := X.hown
  have hts := X.hts
  rw [fX11_swornAfter_5] at hf
  refine lv_aload_n hx hb dX11_swornAfter_5 rfl (lv_at hl 0 rfl) ?_
  refine lv_iload_n hx hb dX11_swornAfter_6 rfl (lv_at hl 1 rfl) ?_
  refine lv_iconst (v := 1) hx hb dX11_swornAfter_7 (by decide) ?_
  obtain ⟨q, hc, hf⟩ := bd hf
  refine gCallVI X hDA rfl (vX11_noHours hc) gRX11_X11_noHours hdX11_noHours rfl ⟨by decide, by decide⟩ hP hS (k0 := 0) (ci := 15) rfl rfl hl.1 (Nat.le_of_ble_eq_true rfl) ⟨Nat.le_refl _, Nat.le_refl _⟩ dX11_swornAfter_8 (As := [.int x1, .int 1]) (rest := []) rfl (fun H locs hP hS => ?_)
  exact kX11_swornAfter_11 X hDA hret hf hP hS (lv_sub hl [0, 1] rfl)
set_option maxRecDepth 10000 in
theorem kX11_swornAfter_0  {r : Int32} {S1 : MS} {M : MS} {a1 : Int32} (X : gX p s m args c cX11_swornAfter 3 RX11 (dC, dI) [(cI, .int)] A) (hDA : ∀ S, va_D A ((mW cI ad) S)) (hret : gRetI p l e (rmL 7 0 0) s m args below meth c cX11_swornAfter (dC, dI) A (mW cI ad) Q r S1) (hf : fX11_swornAfter_0 M a1 = some (r, S1)) {H : Heap} {locs : List Loc} {ls : Array Slot} (hP : va_P (dC, dI) vwCl ((mW cI ad) M) H) (hS : va_S A s.heap H locs) (hl : lv_has ls 3 [(0, .ref (ad 25)), (1, .int a1)]) : W p l e (rmL 7 0 0) s m args below meth c H locs 0 0 Q (F0 m 0 ls []) := by
  have hx := X.hx
  have hb := X.hb
  have hown := X.hown
  have hts := X.hts
  rw [fX11_swornAfter_0] at hf
  refine lv_aload_n hx hb dX11_swornAfter_0 rfl (lv_at hl 0 rfl) ?_
  refine lv_iconst (v := 0) hx hb dX11_swornAfter_1 (by decide) ?_
  refine mr_put (k := 7) X hDA hP hS (by decide) rfl rfl rfl rfl tw1672 dX11_swornAfter_2 (fun H locs hP hS => ?_)
  exact kX11_swornAfter_5 X hDA hret hf hP hS (lv_sub hl [0, 1] rfl)
theorem vX11_swornAfter {l : Launch} {dC : Nat → ClassId} {dI : Nat → Nat → Nat} {cI : ClassId} {ad : Nat → Nat} {M S1 : MS} {r : Int32} {a1 : Int32} (hf : fX11_swornAfter M a1 = some (r, S1)) : gMetI l yX11_swornAfter cX11_swornAfter 3 (some .int) 7 (dC, dI) [(cI, .int)] (mW cI ad) [.ref (ad 25), .int a1] M r S1 := gEntryI (ty := .int) (by decide) rfl rfl mW_fix (Nat.le_of_ble_eq_true rfl) (fun p e s m args below meth c A Q ls X hDA hP hS hret hl => 
  kX11_swornAfter_0 X hDA hret hf hP hS (lv_sub hl [0, 1] rfl))
set_option maxRecDepth 10000 in
theorem kX11_hoursUntilUnguarded_11  {r : Int32} {S1 : MS} {M : MS} {s0 : Int32} (X : gX p s m args c cX11_hoursUntilUnguarded 1 RX11 (dC, dI) [(cI, .int)] A) (hDA : ∀ S, va_D A ((mW cI ad) S)) (hret : gRetI p l e (rmL 7 0 0) s m args below meth c cX11_hoursUntilUnguarded (dC, dI) A (mW cI ad) Q r S1) (hf : fX11_hoursUntilUnguarded_11 M s0 = some (r, S1)) {H : Heap} {locs : List Loc} {ls : Array Slot} (hP : va_P (dC, dI) vwCl ((mW cI ad) M) H) (hS : va_S A s.heap H locs) (hl : lv_has ls 1 [(0, .ref (ad 25))]) : W p l e (rmL 7 0 0) s m args below meth c H locs 0 0 Q (F0 m 11 ls [.int s0]) := by
  have hx := X.hx
  have hb := X.hb
  have hown := X.hown
  have hts := X.hts
  rw [fX11_hoursUntilUnguarded_11] at hf
  cases hf
  exact hret _ _ _ _ dX11_hoursUntilUnguarded_11 hP hS
set_option maxRecDepth 10000 in
theorem kX11_hoursUntilUnguarded_5  {r : Int32} {S1 : MS} {M : MS} (X : gX p s m args c cX11_hoursUntilUnguarded 1 RX11 (dC, dI) [(cI, .int)] A) (hDA : ∀ S, va_D A ((mW cI ad) S)) (hret : gRetI p l e (rmL 7 0 0) s m args below meth c cX11_hoursUntilUnguarded (dC, dI) A (mW cI ad) Q r S1) (hf : fX11_hoursUntilUnguarded_5 M = some (r, S1)) {H : Heap} {locs : List Loc} {ls : Array Slot} (hP : va_P (dC, dI) vwCl ((mW cI ad) M) H) (hS : va_S A s.heap H locs) (hl : lv_has ls 1 [(0, .ref (ad 25))]) : W p l e (rmL 7 0 0) s m args below meth c H locs 0 0 Q (F0 m 5 ls []) := by
  have hx := X.hx
  have hb := X.hb
  have hown := X.hown
  have hts := X.hts
  rw [fX11_hoursUntilUnguarded_5] at hf
  refine lv_aload_n hx hb dX11_hoursUntilUnguarded_5 rfl (lv_at hl 0 rfl) ?_
  refine lv_iconst (v := 5) hx hb dX11_hoursUntilUnguarded_6 (by decide) ?_
  refine lv_iconst (v := (-1)) hx hb dX11_hoursUntilUnguarded_7 (by decide) ?_
  obtain ⟨q, hc, hf⟩ := bd hf
  refine gCallVI X hDA rfl (vX11_hoursUntil hc) gRX11_X11_hoursUntil hdX11_hoursUntil rfl ⟨by decide, by decide⟩ hP hS (k0 := 0) (ci := 15) rfl rfl hl.1 (Nat.le_of_ble_eq_true rfl) ⟨Nat.le_refl _, Nat.le_refl _⟩ dX11_hoursUntilUnguarded_8 (As := [.int 5, .int (-1)]) (rest := []) rfl (fun H locs hP hS => ?_)
  exact kX11_hoursUntilUnguarded_11 X hDA hret hf hP hS (lv_sub hl [0] rfl)
set_option maxRecDepth 10000 in
theorem kX11_hoursUntilUnguarded_0  {r : Int32} {S1 : MS} {M : MS} (X : gX p s m args c cX11_hoursUntilUnguarded 1 RX11 (dC, dI) [(cI, .int)] A) (hDA : ∀ S, va_D A ((mW cI ad) S)) (hret : gRetI p l e (rmL 7 0 0) s m args below meth c cX11_hoursUntilUnguarded (dC, dI) A (mW cI ad) Q r S1) (hf : fX11_hoursUntilUnguarded_0 M = some (r, S1)) {H : Heap} {locs : List Loc} {ls : Array Slot} (hP : va_P (dC, dI) vwCl ((mW cI ad) M) H) (hS : va_S A s.heap H locs) (hl : lv_has ls 1 [(0, .ref (ad 25))]) : W p l e (rmL 7 0 0) s m args below meth c H locs 0 0 Q (F0 m 0 ls []) := by
  have hx := X.hx
  have hb := X.hb
  have hown := X.hown
  have hts := X.hts
  rw [fX11_hoursUntilUnguarded_0] at hf
  refine lv_aload_n hx hb dX11_hoursUntilUnguarded_0 rfl (lv_at hl 0 rfl) ?_
  refine lv_iconst (v := 0) hx hb dX11_hoursUntilUnguarded_1 (by decide) ?_
  refine mr_put (k := 7) X hDA hP hS (by decide) rfl rfl rfl rfl tw1672 dX11_hoursUntilUnguarded_2 (fun H locs hP hS => ?_)
  exact kX11_hoursUntilUnguarded_5 X hDA hret hf hP hS (lv_sub hl [0] rfl)
theorem vX11_hoursUntilUnguarded {l : Launch} {dC : Nat → ClassId} {dI : Nat → Nat → Nat} {cI : ClassId} {ad : Nat → Nat} {M S1 : MS} {r : Int32} (hf : fX11_hoursUntilUnguarded M  = some (r, S1)) : gMetI l yX11_hoursUntilUnguarded cX11_hoursUntilUnguarded 1 (some .int) 7 (dC, dI) [(cI, .int)] (mW cI ad) [.ref (ad 25)] M r S1 := gEntryI (ty := .int) (by decide) rfl rfl mW_fix (Nat.le_of_ble_eq_true rfl) (fun p e s m args below meth c A Q ls X hDA hP hS hret hl => 
  kX11_hoursUntilUnguarded_0 X hDA hret hf hP hS (lv_sub hl [0] rfl))
set_option maxRecDepth 10000 in
theorem kX11_hoursUntilEmpty_33  {r : Int32} {S1 : MS} {M : MS} {s0 : Int32} (X : gX p s m args c cX11_hoursUntilEmpty 2 RX11 (dC, dI) [(cI, .int)] A) (hDA : ∀ S, va_D A ((mW cI ad) S)) (hret : gRetI p l e (rmL 7 0 0) s m args below meth c cX11_hoursUntilEmpty (dC, dI) A (mW cI ad) Q r S1) (hf : fX11_hoursUntilEmpty_33 M s0 = some (r, S1)) {H : Heap} {locs : List Loc} {ls : Array Slot} (hP : va_P (dC, dI) vwCl ((mW cI ad) M) H) (hS : va_S A s.heap H locs) (hl : lv_has ls 2 [(0, .ref (ad 25))]) : W p l e (rmL 7 0 0) s m args below meth c H locs 0 0 Q (F0 m 33 ls [.int s0]) := by
  have hx := X.hx
  have hb := X.hb
  have hown := X.hown
  have hts := X.hts
  rw [fX11_hoursUntilEmpty_33] at hf
  cases hf
  exact hret _ _ _ _ dX11_hoursUntilEmpty_33 hP hS
set_option maxRecDepth 10000 in
theorem kX11_hoursUntilEmpty_17  {r : Int32} {S1 : MS} {M : MS} {x1 : Int32} (X : gX p s m args c cX11_hoursUntilEmpty 2 RX11 (dC, dI) [(cI, .int)] A) (hDA : ∀ S, va_D A ((mW cI ad) S)) (hret : gRetI p l e (rmL 7 0 0) s m args below meth c cX11_hoursUntilEmpty (dC, dI) A (mW cI ad) Q r S1) (hf : fX11_hoursUntilEmpty_17 M x1 = some (r, S1)) {H : Heap} {locs : List Loc} {ls : Array Slot} (hP : va_P (dC, dI) vwCl ((mW cI ad) M) H) (hS : va_S A s.heap H locs) (hl : lv_has ls 2 [(0, .ref (ad 25)), (1, .int x1)]) : W p l e (rmL 7 0 0) s m args below meth c H locs 0 0 Q (F0 m 17 ls []) := by
  have hx := X.hx
  have hb := X.hb
  have hown := X.hown
  have hts := X.hts
  rw [fX11_hoursUntilEmpty_17] at hf
  refine lv_aload_n hx hb dX11_hoursUntilEmpty_17 rfl (lv_at hl 0 rfl) ?_
  refine lv_sipush (v := 161) hx hb dX11_hoursUntilEmpty_18 (by decide) ?_
  refine lv_bipush (v := 12) hx hb dX11_hoursUntilEmpty_21 (by decide) ?_
  refine lv_iload_n hx hb dX11_hoursUntilEmpty_23 rfl (lv_at hl 1 rfl) ?_
  refine lv_imul hx hb dX11_hoursUntilEmpty_24 ?_
  refine lv_iadd hx hb dX11_hoursUntilEmpty_25 ?_
  refine lv_bipush (v := 7) hx hb dX11_hoursUntilEmpty_26 (by decide) ?_
  refine lv_iadd hx hb dX11_hoursUntilEmpty_28 ?_
  refine lv_iconst (v := 0) hx hb dX11_hoursUntilEmpty_29 (by decide) ?_
  obtain ⟨q, hc, hf⟩ := bd hf
  refine gCallVI X hDA rfl (vX11_hoursUntil hc) gRX11_X11_hoursUntil hdX11_hoursUntil rfl ⟨by decide, by decide⟩ hP hS (k0 := 0) (ci := 15) rfl rfl hl.1 (Nat.le_of_ble_eq_true rfl) ⟨Nat.le_refl _, Nat.le_refl _⟩ dX11_hoursUntilEmpty_30 (As := [.int ((161 + (12 * x1)) + 7), .int 0]) (rest := []) rfl (fun H locs hP hS => ?_)
  exact kX11_hoursUntilEmpty_33 X hDA hret hf hP hS (lv_sub hl [0] rfl)
set_option maxRecDepth 10000 in
theorem kX11_hoursUntilEmpty_13  {r : Int32} {S1 : MS} {M : MS} (X : gX p s m args c cX11_hoursUntilEmpty 2 RX11 (dC, dI) [(cI, .int)] A) (hDA : ∀ S, va_D A ((mW cI ad) S)) (hret : gRetI p l e (rmL 7 0 0) s m args below meth c cX11_hoursUntilEmpty (dC, dI) A (mW cI ad) Q r S1) (hf : fX11_hoursUntilEmpty_13 M = some (r, S1)) {H : Heap} {locs : List Loc} {ls : Array Slot} (hP : va_P (dC, dI) vwCl ((mW cI ad) M) H) (hS : va_S A s.heap H locs) (hl : lv_has ls 2 [(0, .ref (ad 25))]) : W p l e (rmL 7 0 0) s m args below meth c H locs 0 0 Q (F0 m 13 ls []) := by
  have hx := X.hx
  have hb := X.hb
  have hown := X.hown
  have hts := X.hts
  rw [fX11_hoursUntilEmpty_13] at hf
  refine lv_iconst (v := 0) hx hb dX11_hoursUntilEmpty_13 (by decide) ?_
  refine lv_goto (tgt := 33) hx hb dX11_hoursUntilEmpty_14 (by decide) ?_
  exact kX11_hoursUntilEmpty_33 X hDA hret hf hP hS (lv_sub hl [0] rfl)
set_option maxRecDepth 10000 in
theorem kX11_hoursUntilEmpty_10  {r : Int32} {S1 : MS} {M : MS} {x1 : Int32} {s0 : Int32} (X : gX p s m args c cX11_hoursUntilEmpty 2 RX11 (dC, dI) [(cI, .int)] A) (hDA : ∀ S, va_D A ((mW cI ad) S)) (hret : gRetI p l e (rmL 7 0 0) s m args below meth c cX11_hoursUntilEmpty (dC, dI) A (mW cI ad) Q r S1) (hf : fX11_hoursUntilEmpty_10 M x1 s0 = some (r, S1)) {H : Heap} {locs : List Loc} {ls : Array Slot} (hP : va_P (dC, dI) vwCl ((mW cI ad) M) H) (hS : va_S A s.heap H locs) (hl : lv_has ls 2 [(0, .ref (ad 25)), (1, .int x1)]) : W p l e (rmL 7 0 0) s m args below meth c H locs 0 0 Q (F0 m 10 ls [.int s0]) := by
  have hx := X.hx
  have hb := X.hb
  have hown := X.hown
  have hts := X.hts
  rw [fX11_hoursUntilEmpty_10] at hf
  refine lv_if_eq (tgt := 17) hx hb dX11_hoursUntilEmpty_10 (by decide) (fun c1 => ?_) (fun c1 => ?_)
  · exact kX11_hoursUntilEmpty_17 X hDA hret (ifp c1 hf) hP hS (lv_sub hl [0, 1] rfl)
  · exact kX11_hoursUntilEmpty_13 X hDA hret (ifn c1 hf) hP hS (lv_sub hl [0] rfl)
set_option maxRecDepth 10000 in
theorem kX11_hoursUntilEmpty_5  {r : Int32} {S1 : MS} {M : MS} {x1 : Int32} (X : gX p s m args c cX11_hoursUntilEmpty 2 RX11 (dC, dI) [(cI, .int)] A) (hDA : ∀ S, va_D A ((mW cI ad) S)) (hret : gRetI p l e (rmL 7 0 0) s m args below meth c cX11_hoursUntilEmpty (dC, dI) A (mW cI ad) Q r S1) (hf : fX11_hoursUntilEmpty_5 M x1 = some (r, S1)) {H : Heap} {locs : List Loc} {ls : Array Slot} (hP : va_P (dC, dI) vwCl ((mW cI ad) M) H) (hS : va_S A s.heap H locs) (hl : lv_has ls 2 [(0, .ref (ad 25)), (1, .int x1)]) : W p l e (rmL 7 0 0) s m args below meth c H locs 0 0 Q (F0 m 5 ls []) := by
  have hx := X.hx
  have hb := X.hb
  have hown := X.hown
  have hts := X.hts
  rw [fX11_hoursUntilEmpty_5] at hf
  refine lv_aload_n hx hb dX11_hoursUntilEmpty_5 rfl (lv_at hl 0 rfl) ?_
  refine lv_iload_n hx hb dX11_hoursUntilEmpty_6 rfl (lv_at hl 1 rfl) ?_
  obtain ⟨q, hc, hf⟩ := bd hf
  refine gCallVI X hDA rfl (vX11_noSack hc) gRX11_X11_noSack hdX11_noSack rfl ⟨by decide, by decide⟩ hP hS (k0 := 0) (ci := 15) rfl rfl hl.1 (Nat.le_of_ble_eq_true rfl) ⟨Nat.le_refl _, Nat.le_refl _⟩ dX11_hoursUntilEmpty_7 (As := [.int x1]) (rest := []) rfl (fun H locs hP hS => ?_)
  exact kX11_hoursUntilEmpty_10 X hDA hret hf hP hS (lv_sub hl [0, 1] rfl)
set_option maxRecDepth 10000 in
theorem kX11_hoursUntilEmpty_0  {r : Int32} {S1 : MS} {M : MS} {a1 : Int32} (X : gX p s m args c cX11_hoursUntilEmpty 2 RX11 (dC, dI) [(cI, .int)] A) (hDA : ∀ S, va_D A ((mW cI ad) S)) (hret : gRetI p l e (rmL 7 0 0) s m args below meth c cX11_hoursUntilEmpty (dC, dI) A (mW cI ad) Q r S1) (hf : fX11_hoursUntilEmpty_0 M a1 = some (r, S1)) {H : Heap} {locs : List Loc} {ls : Array Slot} (hP : va_P (dC, dI) vwCl ((mW cI ad) M) H) (hS : va_S A s.heap H locs) (hl : lv_has ls 2 [(0, .ref (ad 25)), (1, .int a1)]) : W p l e (rmL 7 0 0) s m args below meth c H locs 0 0 Q (F0 m 0 ls []) := by
  have hx := X.hx
  have hb := X.hb
  have hown := X.hown
  have hts := X.hts
  rw [fX11_hoursUntilEmpty_0] at hf
  refine lv_aload_n hx hb dX11_hoursUntilEmpty_0 rfl (lv_at hl 0 rfl) ?_
  refine lv_iconst (v := 0) hx hb dX11_hoursUntilEmpty_1 (by decide) ?_
  refine mr_put (k := 7) X hDA hP hS (by decide) rfl rfl rfl rfl tw1672 dX11_hoursUntilEmpty_2 (fun H locs hP hS => ?_)
  exact kX11_hoursUntilEmpty_5 X hDA hret hf hP hS (lv_sub hl [0, 1] rfl)
theorem vX11_hoursUntilEmpty {l : Launch} {dC : Nat → ClassId} {dI : Nat → Nat → Nat} {cI : ClassId} {ad : Nat → Nat} {M S1 : MS} {r : Int32} {a1 : Int32} (hf : fX11_hoursUntilEmpty M a1 = some (r, S1)) : gMetI l yX11_hoursUntilEmpty cX11_hoursUntilEmpty 2 (some .int) 7 (dC, dI) [(cI, .int)] (mW cI ad) [.ref (ad 25), .int a1] M r S1 := gEntryI (ty := .int) (by decide) rfl rfl mW_fix (Nat.le_of_ble_eq_true rfl) (fun p e s m args below meth c A Q ls X hDA hP hS hret hl => 
  kX11_hoursUntilEmpty_0 X hDA hret hf hP hS (lv_sub hl [0, 1] rfl))
set_option maxRecDepth 10000 in
theorem kX11_caughtWithin_29  {r : Int32} {S1 : MS} {M : MS} {s0 : Int32} (X : gX p s m args c cX11_caughtWithin 2 RX11 (dC, dI) [(cI, .int)] A) (hDA : ∀ S, va_D A ((mW cI ad) S)) (hret : gRetI p l e (rmL 7 0 0) s m args below meth c cX11_caughtWithin (dC, dI) A (mW cI ad) Q r S1) (hf : fX11_caughtWithin_29 M s0 = some (r, S1)) {H : Heap} {locs : List Loc} {ls : Array Slot} (hP : va_P (dC, dI) vwCl ((mW cI ad) M) H) (hS : va_S A s.heap H locs) (hl : lv_has ls 2 [(0, .ref (ad 25))]) : W p l e (rmL 7 0 0) s m args below meth c H locs 0 0 Q (F0 m 29 ls [.int s0]) := by
  have hx := X.hx
  have hb := X.hb
  have hown := X.hown
  have hts := X.hts
  rw [fX11_caughtWithin_29] at hf
  cases hf
  exact hret _ _ _ _ dX11_caughtWithin_29 hP hS
set_option maxRecDepth 10000 in
theorem kX11_caughtWithin_26  {r : Int32} {S1 : MS} {M : MS} {s0 : Int32} (X : gX p s m args c cX11_caughtWithin 2 RX11 (dC, dI) [(cI, .int)] A) (hDA : ∀ S, va_D A ((mW cI ad) S)) (hret : gRetI p l e (rmL 7 0 0) s m args below meth c cX11_caughtWithin (dC, dI) A (mW cI ad) Q r S1) (hf : fX11_caughtWithin_26 M s0 = some (r, S1)) {H : Heap} {locs : List Loc} {ls : Array Slot} (hP : va_P (dC, dI) vwCl ((mW cI ad) M) H) (hS : va_S A s.heap H locs) (hl : lv_has ls 2 [(0, .ref (ad 25))]) : W p l e (rmL 7 0 0) s m args below meth c H locs 0 0 Q (F0 m 26 ls [.int s0, .ref (ad 25)]) := by
  have hx := X.hx
  have hb := X.hb
  have hown := X.hown
  have hts := X.hts
  rw [fX11_caughtWithin_26] at hf
  obtain ⟨q, hc, hf⟩ := bd hf
  refine gCallVI X hDA rfl (vX11_goesBack hc) gRX11_X11_goesBack hdX11_goesBack rfl ⟨by decide, by decide⟩ hP hS (k0 := 0) (ci := 15) rfl rfl hl.1 (Nat.le_of_ble_eq_true rfl) ⟨Nat.le_refl _, Nat.le_refl _⟩ dX11_caughtWithin_26 (As := [.int s0]) (rest := []) rfl (fun H locs hP hS => ?_)
  exact kX11_caughtWithin_29 X hDA hret hf hP hS (lv_sub hl [0] rfl)
set_option maxRecDepth 10000 in
theorem kX11_caughtWithin_20  {r : Int32} {S1 : MS} {M : MS} {x1 : Int32} (X : gX p s m args c cX11_caughtWithin 2 RX11 (dC, dI) [(cI, .int)] A) (hDA : ∀ S, va_D A ((mW cI ad) S)) (hret : gRetI p l e (rmL 7 0 0) s m args below meth c cX11_caughtWithin (dC, dI) A (mW cI ad) Q r S1) (hf : fX11_caughtWithin_20 M x1 = some (r, S1)) {H : Heap} {locs : List Loc} {ls : Array Slot} (hP : va_P (dC, dI) vwCl ((mW cI ad) M) H) (hS : va_S A s.heap H locs) (hl : lv_has ls 2 [(0, .ref (ad 25)), (1, .int x1)]) : W p l e (rmL 7 0 0) s m args below meth c H locs 0 0 Q (F0 m 20 ls []) := by
  have hx := X.hx
  have hb := X.hb
  have hown := X.hown
  have hts := X.hts
  rw [fX11_caughtWithin_20] at hf
  refine lv_aload_n hx hb dX11_caughtWithin_20 rfl (lv_at hl 0 rfl) ?_
  refine lv_aload_n hx hb dX11_caughtWithin_21 rfl (lv_at hl 0 rfl) ?_
  refine lv_iload_n hx hb dX11_caughtWithin_22 rfl (lv_at hl 1 rfl) ?_
  obtain ⟨q, hc, hf⟩ := bd hf
  refine gCallVI X hDA rfl (vX11_passes hc) gRX11_X11_passes hdX11_passes rfl ⟨by decide, by decide⟩ hP hS (k0 := 0) (ci := 15) rfl rfl hl.1 (Nat.le_of_ble_eq_true rfl) ⟨Nat.le_refl _, Nat.le_refl _⟩ dX11_caughtWithin_23 (As := [.int x1]) (rest := [.ref (ad 25)]) rfl (fun H locs hP hS => ?_)
  exact kX11_caughtWithin_26 X hDA hret hf hP hS (lv_sub hl [0] rfl)
set_option maxRecDepth 10000 in
theorem kX11_caughtWithin_16  {r : Int32} {S1 : MS} {M : MS} {x1 : Int32} (X : gX p s m args c cX11_caughtWithin 2 RX11 (dC, dI) [(cI, .int)] A) (hDA : ∀ S, va_D A ((mW cI ad) S)) (hret : gRetI p l e (rmL 7 0 0) s m args below meth c cX11_caughtWithin (dC, dI) A (mW cI ad) Q r S1) (hf : fX11_caughtWithin_16 M x1 = some (r, S1)) {H : Heap} {locs : List Loc} {ls : Array Slot} (hP : va_P (dC, dI) vwCl ((mW cI ad) M) H) (hS : va_S A s.heap H locs) (hl : lv_has ls 2 [(0, .ref (ad 25)), (1, .int x1)]) : W p l e (rmL 7 0 0) s m args below meth c H locs 0 0 Q (F0 m 16 ls []) := by
  have hx := X.hx
  have hb := X.hb
  have hown := X.hown
  have hts := X.hts
  rw [fX11_caughtWithin_16] at hf
  refine lv_aload_n hx hb dX11_caughtWithin_16 rfl (lv_at hl 0 rfl) ?_
  obtain ⟨q, hc, hf⟩ := bd hf
  refine gCallVV X hDA rfl (vX11_goesAside hc) gRX11_X11_goesAside hdX11_goesAside rfl ⟨by decide, by decide⟩ hP hS (k0 := 0) (ci := 15) rfl rfl hl.1 (Nat.le_of_ble_eq_true rfl) ⟨Nat.le_refl _, Nat.le_refl _⟩ dX11_caughtWithin_17 (As := []) (rest := []) rfl (fun H locs hP hS => ?_)
  exact kX11_caughtWithin_20 X hDA hret hf hP hS (lv_sub hl [0, 1] rfl)
set_option maxRecDepth 10000 in
theorem kX11_caughtWithin_14  {r : Int32} {S1 : MS} {M : MS} (X : gX p s m args c cX11_caughtWithin 2 RX11 (dC, dI) [(cI, .int)] A) (hDA : ∀ S, va_D A ((mW cI ad) S)) (hret : gRetI p l e (rmL 7 0 0) s m args below meth c cX11_caughtWithin (dC, dI) A (mW cI ad) Q r S1) (hf : fX11_caughtWithin_14 M = some (r, S1)) {H : Heap} {locs : List Loc} {ls : Array Slot} (hP : va_P (dC, dI) vwCl ((mW cI ad) M) H) (hS : va_S A s.heap H locs) (hl : lv_has ls 2 [(0, .ref (ad 25))]) : W p l e (rmL 7 0 0) s m args below meth c H locs 0 0 Q (F0 m 14 ls []) := by
  have hx := X.hx
  have hb := X.hb
  have hown := X.hown
  have hts := X.hts
  rw [fX11_caughtWithin_14] at hf
  refine lv_iconst (v := 0) hx hb dX11_caughtWithin_14 (by decide) ?_
  cases hf
  exact hret _ _ _ _ dX11_caughtWithin_15 hP hS
set_option maxRecDepth 10000 in
theorem kX11_caughtWithin_11  {r : Int32} {S1 : MS} {M : MS} {x1 : Int32} {s0 : Int32} (X : gX p s m args c cX11_caughtWithin 2 RX11 (dC, dI) [(cI, .int)] A) (hDA : ∀ S, va_D A ((mW cI ad) S)) (hret : gRetI p l e (rmL 7 0 0) s m args below meth c cX11_caughtWithin (dC, dI) A (mW cI ad) Q r S1) (hf : fX11_caughtWithin_11 M x1 s0 = some (r, S1)) {H : Heap} {locs : List Loc} {ls : Array Slot} (hP : va_P (dC, dI) vwCl ((mW cI ad) M) H) (hS : va_S A s.heap H locs) (hl : lv_has ls 2 [(0, .ref (ad 25)), (1, .int x1)]) : W p l e (rmL 7 0 0) s m args below meth c H locs 0 0 Q (F0 m 11 ls [.int s0]) := by
  have hx := X.hx
  have hb := X.hb
  have hown := X.hown
  have hts := X.hts
  rw [fX11_caughtWithin_11] at hf
  refine lv_if_eq (tgt := 16) hx hb dX11_caughtWithin_11 (by decide) (fun c1 => ?_) (fun c1 => ?_)
  · exact kX11_caughtWithin_16 X hDA hret (ifp c1 hf) hP hS (lv_sub hl [0, 1] rfl)
  · exact kX11_caughtWithin_14 X hDA hret (ifn c1 hf) hP hS (lv_sub hl [0] rfl)
set_option maxRecDepth 10000 in
theorem kX11_caughtWithin_5  {r : Int32} {S1 : MS} {M : MS} {x1 : Int32} (X : gX p s m args c cX11_caughtWithin 2 RX11 (dC, dI) [(cI, .int)] A) (hDA : ∀ S, va_D A ((mW cI ad) S)) (hret : gRetI p l e (rmL 7 0 0) s m args below meth c cX11_caughtWithin (dC, dI) A (mW cI ad) Q r S1) (hf : fX11_caughtWithin_5 M x1 = some (r, S1)) {H : Heap} {locs : List Loc} {ls : Array Slot} (hP : va_P (dC, dI) vwCl ((mW cI ad) M) H) (hS : va_S A s.heap H locs) (hl : lv_has ls 2 [(0, .ref (ad 25)), (1, .int x1)]) : W p l e (rmL 7 0 0) s m args below meth c H locs 0 0 Q (F0 m 5 ls []) := by
  have hx := X.hx
  have hb := X.hb
  have hown := X.hown
  have hts := X.hts
  rw [fX11_caughtWithin_5] at hf
  refine lv_aload_n hx hb dX11_caughtWithin_5 rfl (lv_at hl 0 rfl) ?_
  refine lv_iload_n hx hb dX11_caughtWithin_6 rfl (lv_at hl 1 rfl) ?_
  refine lv_iconst (v := 1) hx hb dX11_caughtWithin_7 (by decide) ?_
  obtain ⟨q, hc, hf⟩ := bd hf
  refine gCallVI X hDA rfl (vX11_noHours hc) gRX11_X11_noHours hdX11_noHours rfl ⟨by decide, by decide⟩ hP hS (k0 := 0) (ci := 15) rfl rfl hl.1 (Nat.le_of_ble_eq_true rfl) ⟨Nat.le_refl _, Nat.le_refl _⟩ dX11_caughtWithin_8 (As := [.int x1, .int 1]) (rest := []) rfl (fun H locs hP hS => ?_)
  exact kX11_caughtWithin_11 X hDA hret hf hP hS (lv_sub hl [0, 1] rfl)
set_option maxRecDepth 10000 in
theorem kX11_caughtWithin_0  {r : Int32} {S1 : MS} {M : MS} {a1 : Int32} (X : gX p s m args c cX11_caughtWithin 2 RX11 (dC, dI) [(cI, .int)] A) (hDA : ∀ S, va_D A ((mW cI ad) S)) (hret : gRetI p l e (rmL 7 0 0) s m args below meth c cX11_caughtWithin (dC, dI) A (mW cI ad) Q r S1) (hf : fX11_caughtWithin_0 M a1 = some (r, S1)) {H : Heap} {locs : List Loc} {ls : Array Slot} (hP : va_P (dC, dI) vwCl ((mW cI ad) M) H) (hS : va_S A s.heap H locs) (hl : lv_has ls 2 [(0, .ref (ad 25)), (1, .int a1)]) : W p l e (rmL 7 0 0) s m args below meth c H locs 0 0 Q (F0 m 0 ls []) := by
  have hx := X.hx
  have hb := X.hb
  have hown := X.hown
  have hts := X.hts
  rw [fX11_caughtWithin_0] at hf
  refine lv_aload_n hx hb dX11_caughtWithin_0 rfl (lv_at hl 0 rfl) ?_
  refine lv_iconst (v := 0) hx hb dX11_caughtWithin_1 (by decide) ?_
  refine mr_put (k := 7) X hDA hP hS (by decide) rfl rfl rfl rfl tw1672 dX11_caughtWithin_2 (fun H locs hP hS => ?_)
  exact kX11_caughtWithin_5 X hDA hret hf hP hS (lv_sub hl [0, 1] rfl)
theorem vX11_caughtWithin {l : Launch} {dC : Nat → ClassId} {dI : Nat → Nat → Nat} {cI : ClassId} {ad : Nat → Nat} {M S1 : MS} {r : Int32} {a1 : Int32} (hf : fX11_caughtWithin M a1 = some (r, S1)) : gMetI l yX11_caughtWithin cX11_caughtWithin 2 (some .int) 7 (dC, dI) [(cI, .int)] (mW cI ad) [.ref (ad 25), .int a1] M r S1 := gEntryI (ty := .int) (by decide) rfl rfl mW_fix (Nat.le_of_ble_eq_true rfl) (fun p e s m args below meth c A Q ls X hDA hP hS hret hl => 
  kX11_caughtWithin_0 X hDA hret hf hP hS (lv_sub hl [0, 1] rfl))
set_option maxRecDepth 10000 in
theorem kX11_allGrainAfter_24  {r : Int32} {S1 : MS} {M : MS} {s0 : Int32} (X : gX p s m args c cX11_allGrainAfter 3 RX11 (dC, dI) [(cI, .int)] A) (hDA : ∀ S, va_D A ((mW cI ad) S)) (hret : gRetI p l e (rmL 7 0 0) s m args below meth c cX11_allGrainAfter (dC, dI) A (mW cI ad) Q r S1) (hf : fX11_allGrainAfter_24 M s0 = some (r, S1)) {H : Heap} {locs : List Loc} {ls : Array Slot} (hP : va_P (dC, dI) vwCl ((mW cI ad) M) H) (hS : va_S A s.heap H locs) (hl : lv_has ls 3 [(0, .ref (ad 25))]) : W p l e (rmL 7 0 0) s m args below meth c H locs 0 0 Q (F0 m 24 ls [.int s0]) := by
  have hx := X.hx
  have hb := X.hb
  have hown := X.hown
  have hts := X.hts
  rw [fX11_allGrainAfter_24] at hf
  cases hf
  exact hret _ _ _ _ dX11_allGrainAfter_24 hP hS
set_option maxRecDepth 10000 in
theorem kX11_allGrainAfter_21  {r : Int32} {S1 : MS} {M : MS} {s0 : Int32} (X : gX p s m args c cX11_allGrainAfter 3 RX11 (dC, dI) [(cI, .int)] A) (hDA : ∀ S, va_D A ((mW cI ad) S)) (hret : gRetI p l e (rmL 7 0 0) s m args below meth c cX11_allGrainAfter (dC, dI) A (mW cI ad) Q r S1) (hf : fX11_allGrainAfter_21 M s0 = some (r, S1)) {H : Heap} {locs : List Loc} {ls : Array Slot} (hP : va_P (dC, dI) vwCl ((mW cI ad) M) H) (hS : va_S A s.heap H locs) (hl : lv_has ls 3 [(0, .ref (ad 25))]) : W p l e (rmL 7 0 0) s m args below meth c H locs 0 0 Q (F0 m 21 ls [.int s0, .ref (ad 25)]) := by
  have hx := X.hx
  have hb := X.hb
  have hown := X.hown
  have hts := X.hts
  rw [fX11_allGrainAfter_21] at hf
  obtain ⟨q, hc, hf⟩ := bd hf
  refine gCallVI X hDA rfl (vX11_goesBack hc) gRX11_X11_goesBack hdX11_goesBack rfl ⟨by decide, by decide⟩ hP hS (k0 := 0) (ci := 15) rfl rfl hl.1 (Nat.le_of_ble_eq_true rfl) ⟨Nat.le_refl _, Nat.le_refl _⟩ dX11_allGrainAfter_21 (As := [.int s0]) (rest := []) rfl (fun H locs hP hS => ?_)
  exact kX11_allGrainAfter_24 X hDA hret hf hP hS (lv_sub hl [0] rfl)
set_option maxRecDepth 10000 in
theorem kX11_allGrainAfter_9  {r : Int32} {S1 : MS} {M : MS} {s0 : Int32} (X : gX p s m args c cX11_allGrainAfter 3 RX11 (dC, dI) [(cI, .int)] A) (hDA : ∀ S, va_D A ((mW cI ad) S)) (hret : gRetI p l e (rmL 7 0 0) s m args below meth c cX11_allGrainAfter (dC, dI) A (mW cI ad) Q r S1) (hf : fX11_allGrainAfter_9 M s0 = some (r, S1)) {H : Heap} {locs : List Loc} {ls : Array Slot} (hP : va_P (dC, dI) vwCl ((mW cI ad) M) H) (hS : va_S A s.heap H locs) (hl : lv_has ls 3 [(0, .ref (ad 25))]) : W p l e (rmL 7 0 0) s m args below meth c H locs 0 0 Q (F0 m 9 ls [.int s0]) := by
  have hx := X.hx
  have hb := X.hb
  have hown := X.hown
  have hts := X.hts
  rw [fX11_allGrainAfter_9] at hf
  refine lv_istore_n (lv' := [(2, .int s0), (0, .ref (ad 25))]) hx hb dX11_allGrainAfter_9 rfl hl (by decide) rfl (fun ls hl => ?_)
  refine lv_aload_n hx hb dX11_allGrainAfter_10 rfl (lv_at hl 1 rfl) ?_
  refine lv_aload_n hx hb dX11_allGrainAfter_11 rfl (lv_at hl 1 rfl) ?_
  refine lv_sipush (v := 161) hx hb dX11_allGrainAfter_12 (by decide) ?_
  refine lv_iconst (v := 1) hx hb dX11_allGrainAfter_15 (by decide) ?_
  refine lv_bipush (v := 7) hx hb dX11_allGrainAfter_16 (by decide) ?_
  obtain ⟨q, hc, hf⟩ := bd hf
  refine gCallVI X hDA rfl (vX11_sumOf hc) gRX11_X11_sumOf hdX11_sumOf rfl ⟨by decide, by decide⟩ hP hS (k0 := 0) (ci := 15) rfl rfl hl.1 (Nat.le_of_ble_eq_true rfl) ⟨Nat.le_refl _, Nat.le_refl _⟩ dX11_allGrainAfter_18 (As := [.int 161, .int 1, .int 7]) (rest := [.ref (ad 25)]) rfl (fun H locs hP hS => ?_)
  exact kX11_allGrainAfter_21 X hDA hret hf hP hS (lv_sub hl [1] rfl)
set_option maxRecDepth 10000 in
theorem kX11_allGrainAfter_4  {r : Int32} {S1 : MS} {M : MS} {x1 : Int32} (X : gX p s m args c cX11_allGrainAfter 3 RX11 (dC, dI) [(cI, .int)] A) (hDA : ∀ S, va_D A ((mW cI ad) S)) (hret : gRetI p l e (rmL 7 0 0) s m args below meth c cX11_allGrainAfter (dC, dI) A (mW cI ad) Q r S1) (hf : fX11_allGrainAfter_4 M x1 = some (r, S1)) {H : Heap} {locs : List Loc} {ls : Array Slot} (hP : va_P (dC, dI) vwCl ((mW cI ad) M) H) (hS : va_S A s.heap H locs) (hl : lv_has ls 3 [(0, .ref (ad 25)), (1, .int x1)]) : W p l e (rmL 7 0 0) s m args below meth c H locs 0 0 Q (F0 m 4 ls []) := by
  have hx := X.hx
  have hb := X.hb
  have hown := X.hown
  have hts := X.hts
  rw [fX11_allGrainAfter_4] at hf
  refine lv_aload_n hx hb dX11_allGrainAfter_4 rfl (lv_at hl 0 rfl) ?_
  refine lv_iload_n hx hb dX11_allGrainAfter_5 rfl (lv_at hl 1 rfl) ?_
  obtain ⟨q, hc, hf⟩ := bd hf
  refine gCallVI X hDA rfl (vX11_passes hc) gRX11_X11_passes hdX11_passes rfl ⟨by decide, by decide⟩ hP hS (k0 := 0) (ci := 15) rfl rfl hl.1 (Nat.le_of_ble_eq_true rfl) ⟨Nat.le_refl _, Nat.le_refl _⟩ dX11_allGrainAfter_6 (As := [.int x1]) (rest := []) rfl (fun H locs hP hS => ?_)
  exact kX11_allGrainAfter_9 X hDA hret hf hP hS (lv_sub hl [0] rfl)
set_option maxRecDepth 10000 in
theorem kX11_allGrainAfter_0  {r : Int32} {S1 : MS} {M : MS} {a1 : Int32} (X : gX p s m args c cX11_allGrainAfter 3 RX11 (dC, dI) [(cI, .int)] A) (hDA : ∀ S, va_D A ((mW cI ad) S)) (hret : gRetI p l e (rmL 7 0 0) s m args below meth c cX11_allGrainAfter (dC, dI) A (mW cI ad) Q r S1) (hf : fX11_allGrainAfter_0 M a1 = some (r, S1)) {H : Heap} {locs : List Loc} {ls : Array Slot} (hP : va_P (dC, dI) vwCl ((mW cI ad) M) H) (hS : va_S A s.heap H locs) (hl : lv_has ls 3 [(0, .ref (ad 25)), (1, .int a1)]) : W p l e (rmL 7 0 0) s m args below meth c H locs 0 0 Q (F0 m 0 ls []) := by
  have hx := X.hx
  have hb := X.hb
  have hown := X.hown
  have hts := X.hts
  rw [fX11_allGrainAfter_0] at hf
  refine lv_aload_n hx hb dX11_allGrainAfter_0 rfl (lv_at hl 0 rfl) ?_
  obtain ⟨q, hc, hf⟩ := bd hf
  refine gCallVV X hDA rfl (vX11_goesAside hc) gRX11_X11_goesAside hdX11_goesAside rfl ⟨by decide, by decide⟩ hP hS (k0 := 0) (ci := 15) rfl rfl hl.1 (Nat.le_of_ble_eq_true rfl) ⟨Nat.le_refl _, Nat.le_refl _⟩ dX11_allGrainAfter_1 (As := []) (rest := []) rfl (fun H locs hP hS => ?_)
  exact kX11_allGrainAfter_4 X hDA hret hf hP hS (lv_sub hl [0, 1] rfl)
theorem vX11_allGrainAfter {l : Launch} {dC : Nat → ClassId} {dI : Nat → Nat → Nat} {cI : ClassId} {ad : Nat → Nat} {M S1 : MS} {r : Int32} {a1 : Int32} (hf : fX11_allGrainAfter M a1 = some (r, S1)) : gMetI l yX11_allGrainAfter cX11_allGrainAfter 3 (some .int) 7 (dC, dI) [(cI, .int)] (mW cI ad) [.ref (ad 25), .int a1] M r S1 := gEntryI (ty := .int) (by decide) rfl rfl mW_fix (Nat.le_of_ble_eq_true rfl) (fun p e s m args below meth c A Q ls X hDA hP hS hret hl => 
  kX11_allGrainAfter_0 X hDA hret hf hP hS (lv_sub hl [0, 1] rfl))
set_option maxRecDepth 10000 in
theorem kX11_letPass_55  {r : Int32} {S1 : MS} {M : MS} (X : gX p s m args c cX11_letPass 2 RX11 (dC, dI) [(cI, .int)] A) (hDA : ∀ S, va_D A ((mW cI ad) S)) (hret : gRetI p l e (rmL 7 0 0) s m args below meth c cX11_letPass (dC, dI) A (mW cI ad) Q r S1) (hf : fX11_letPass_55 M = some (r, S1)) {H : Heap} {locs : List Loc} {ls : Array Slot} (hP : va_P (dC, dI) vwCl ((mW cI ad) M) H) (hS : va_S A s.heap H locs) (hl : lv_has ls 2 [(0, .ref (ad 25))]) : W p l e (rmL 7 0 0) s m args below meth c H locs 0 0 Q (F0 m 55 ls []) := by
  have hx := X.hx
  have hb := X.hb
  have hown := X.hown
  have hts := X.hts
  rw [fX11_letPass_55] at hf
  refine lv_iconst (v := 0) hx hb dX11_letPass_55 (by decide) ?_
  cases hf
  exact hret _ _ _ _ dX11_letPass_56 hP hS
set_option maxRecDepth 10000 in
theorem kX11_letPass_66  {r : Int32} {S1 : MS} {M : MS} {s0 : Int32} (X : gX p s m args c cX11_letPass 2 RX11 (dC, dI) [(cI, .int)] A) (hDA : ∀ S, va_D A ((mW cI ad) S)) (hret : gRetI p l e (rmL 7 0 0) s m args below meth c cX11_letPass (dC, dI) A (mW cI ad) Q r S1) (hf : fX11_letPass_66 M s0 = some (r, S1)) {H : Heap} {locs : List Loc} {ls : Array Slot} (hP : va_P (dC, dI) vwCl ((mW cI ad) M) H) (hS : va_S A s.heap H locs) (hl : lv_has ls 2 [(0, .ref (ad 25))]) : W p l e (rmL 7 0 0) s m args below meth c H locs 0 0 Q (F0 m 66 ls [.int s0]) := by
  have hx := X.hx
  have hb := X.hb
  have hown := X.hown
  have hts := X.hts
  rw [fX11_letPass_66] at hf
  cases hf
  exact hret _ _ _ _ dX11_letPass_66 hP hS
set_option maxRecDepth 10000 in
theorem kX11_letPass_61  {r : Int32} {S1 : MS} {M : MS} {x1 : Int32} (X : gX p s m args c cX11_letPass 2 RX11 (dC, dI) [(cI, .int)] A) (hDA : ∀ S, va_D A ((mW cI ad) S)) (hret : gRetI p l e (rmL 7 0 0) s m args below meth c cX11_letPass (dC, dI) A (mW cI ad) Q r S1) (hf : fX11_letPass_61 M x1 = some (r, S1)) {H : Heap} {locs : List Loc} {ls : Array Slot} (hP : va_P (dC, dI) vwCl ((mW cI ad) M) H) (hS : va_S A s.heap H locs) (hl : lv_has ls 2 [(0, .ref (ad 25)), (1, .int x1)]) : W p l e (rmL 7 0 0) s m args below meth c H locs 0 0 Q (F0 m 61 ls []) := by
  have hx := X.hx
  have hb := X.hb
  have hown := X.hown
  have hts := X.hts
  rw [fX11_letPass_61] at hf
  refine lv_aload_n hx hb dX11_letPass_61 rfl (lv_at hl 0 rfl) ?_
  refine lv_iload_n hx hb dX11_letPass_62 rfl (lv_at hl 1 rfl) ?_
  obtain ⟨q, hc, hf⟩ := bd hf
  refine gCallVI X hDA rfl (vX11_passes hc) gRX11_X11_passes hdX11_passes rfl ⟨by decide, by decide⟩ hP hS (k0 := 0) (ci := 15) rfl rfl hl.1 (Nat.le_of_ble_eq_true rfl) ⟨Nat.le_refl _, Nat.le_refl _⟩ dX11_letPass_63 (As := [.int x1]) (rest := []) rfl (fun H locs hP hS => ?_)
  exact kX11_letPass_66 X hDA hret hf hP hS (lv_sub hl [0] rfl)
set_option maxRecDepth 10000 in
theorem kX11_letPass_57  {r : Int32} {S1 : MS} {M : MS} {x1 : Int32} (X : gX p s m args c cX11_letPass 2 RX11 (dC, dI) [(cI, .int)] A) (hDA : ∀ S, va_D A ((mW cI ad) S)) (hret : gRetI p l e (rmL 7 0 0) s m args below meth c cX11_letPass (dC, dI) A (mW cI ad) Q r S1) (hf : fX11_letPass_57 M x1 = some (r, S1)) {H : Heap} {locs : List Loc} {ls : Array Slot} (hP : va_P (dC, dI) vwCl ((mW cI ad) M) H) (hS : va_S A s.heap H locs) (hl : lv_has ls 2 [(0, .ref (ad 25)), (1, .int x1)]) : W p l e (rmL 7 0 0) s m args below meth c H locs 0 0 Q (F0 m 57 ls []) := by
  have hx := X.hx
  have hb := X.hb
  have hown := X.hown
  have hts := X.hts
  rw [fX11_letPass_57] at hf
  refine lv_aload_n hx hb dX11_letPass_57 rfl (lv_at hl 0 rfl) ?_
  obtain ⟨q, hc, hf⟩ := bd hf
  refine gCallVV X hDA rfl (vX11_remembers hc) gRX11_X11_remembers hdX11_remembers rfl ⟨by decide, by decide⟩ hP hS (k0 := 0) (ci := 15) rfl rfl hl.1 (Nat.le_of_ble_eq_true rfl) ⟨Nat.le_refl _, Nat.le_refl _⟩ dX11_letPass_58 (As := []) (rest := []) rfl (fun H locs hP hS => ?_)
  exact kX11_letPass_61 X hDA hret hf hP hS (lv_sub hl [0, 1] rfl)
set_option maxRecDepth 10000 in
theorem kX11_letPass_52  {r : Int32} {S1 : MS} {M : MS} {x1 : Int32} {s0 : Int32} (X : gX p s m args c cX11_letPass 2 RX11 (dC, dI) [(cI, .int)] A) (hDA : ∀ S, va_D A ((mW cI ad) S)) (hret : gRetI p l e (rmL 7 0 0) s m args below meth c cX11_letPass (dC, dI) A (mW cI ad) Q r S1) (hf : fX11_letPass_52 M x1 s0 = some (r, S1)) {H : Heap} {locs : List Loc} {ls : Array Slot} (hP : va_P (dC, dI) vwCl ((mW cI ad) M) H) (hS : va_S A s.heap H locs) (hl : lv_has ls 2 [(0, .ref (ad 25)), (1, .int x1)]) : W p l e (rmL 7 0 0) s m args below meth c H locs 0 0 Q (F0 m 52 ls [.int s0]) := by
  have hx := X.hx
  have hb := X.hb
  have hown := X.hown
  have hts := X.hts
  rw [fX11_letPass_52] at hf
  refine lv_if_eq (tgt := 57) hx hb dX11_letPass_52 (by decide) (fun c1 => ?_) (fun c1 => ?_)
  · exact kX11_letPass_57 X hDA hret (ifp c1 hf) hP hS (lv_sub hl [0, 1] rfl)
  · exact kX11_letPass_55 X hDA hret (ifn c1 hf) hP hS (lv_sub hl [0] rfl)
set_option maxRecDepth 10000 in
theorem kX11_letPass_48  {r : Int32} {S1 : MS} {M : MS} {x1 : Int32} {s0 : Int32} (X : gX p s m args c cX11_letPass 2 RX11 (dC, dI) [(cI, .int)] A) (hDA : ∀ S, va_D A ((mW cI ad) S)) (hret : gRetI p l e (rmL 7 0 0) s m args below meth c cX11_letPass (dC, dI) A (mW cI ad) Q r S1) (hf : fX11_letPass_48 M x1 s0 = some (r, S1)) {H : Heap} {locs : List Loc} {ls : Array Slot} (hP : va_P (dC, dI) vwCl ((mW cI ad) M) H) (hS : va_S A s.heap H locs) (hl : lv_has ls 2 [(0, .ref (ad 25)), (1, .int x1)]) : W p l e (rmL 7 0 0) s m args below meth c H locs 0 0 Q (F0 m 48 ls [.int s0, .ref (ad 25)]) := by
  have hx := X.hx
  have hb := X.hb
  have hown := X.hown
  have hts := X.hts
  rw [fX11_letPass_48] at hf
  refine lv_iconst (v := 2) hx hb dX11_letPass_48 (by decide) ?_
  obtain ⟨q, hc, hf⟩ := bd hf
  refine gCallVI X hDA rfl (vX11_fails hc) gRX11_X11_fails hdX11_fails rfl ⟨by decide, by decide⟩ hP hS (k0 := 0) (ci := 15) rfl rfl hl.1 (Nat.le_of_ble_eq_true rfl) ⟨Nat.le_refl _, Nat.le_refl _⟩ dX11_letPass_49 (As := [.int s0, .int 2]) (rest := []) rfl (fun H locs hP hS => ?_)
  exact kX11_letPass_52 X hDA hret hf hP hS (lv_sub hl [0, 1] rfl)
set_option maxRecDepth 10000 in
theorem kX11_letPass_47  {r : Int32} {S1 : MS} {M : MS} {x1 : Int32} (X : gX p s m args c cX11_letPass 2 RX11 (dC, dI) [(cI, .int)] A) (hDA : ∀ S, va_D A ((mW cI ad) S)) (hret : gRetI p l e (rmL 7 0 0) s m args below meth c cX11_letPass (dC, dI) A (mW cI ad) Q r S1) (hf : fX11_letPass_47 M x1 = some (r, S1)) {H : Heap} {locs : List Loc} {ls : Array Slot} (hP : va_P (dC, dI) vwCl ((mW cI ad) M) H) (hS : va_S A s.heap H locs) (hl : lv_has ls 2 [(0, .ref (ad 25)), (1, .int x1)]) : W p l e (rmL 7 0 0) s m args below meth c H locs 0 0 Q (F0 m 47 ls [.ref (ad 25)]) := by
  have hx := X.hx
  have hb := X.hb
  have hown := X.hown
  have hts := X.hts
  rw [fX11_letPass_47] at hf
  refine lv_iconst (v := 0) hx hb dX11_letPass_47 (by decide) ?_
  exact kX11_letPass_48 X hDA hret hf hP hS (lv_sub hl [0, 1] rfl)
set_option maxRecDepth 10000 in
theorem kX11_letPass_43  {r : Int32} {S1 : MS} {M : MS} {x1 : Int32} (X : gX p s m args c cX11_letPass 2 RX11 (dC, dI) [(cI, .int)] A) (hDA : ∀ S, va_D A ((mW cI ad) S)) (hret : gRetI p l e (rmL 7 0 0) s m args below meth c cX11_letPass (dC, dI) A (mW cI ad) Q r S1) (hf : fX11_letPass_43 M x1 = some (r, S1)) {H : Heap} {locs : List Loc} {ls : Array Slot} (hP : va_P (dC, dI) vwCl ((mW cI ad) M) H) (hS : va_S A s.heap H locs) (hl : lv_has ls 2 [(0, .ref (ad 25)), (1, .int x1)]) : W p l e (rmL 7 0 0) s m args below meth c H locs 0 0 Q (F0 m 43 ls [.ref (ad 25)]) := by
  have hx := X.hx
  have hb := X.hb
  have hown := X.hown
  have hts := X.hts
  rw [fX11_letPass_43] at hf
  refine lv_iconst (v := 1) hx hb dX11_letPass_43 (by decide) ?_
  refine lv_goto (tgt := 48) hx hb dX11_letPass_44 (by decide) ?_
  exact kX11_letPass_48 X hDA hret hf hP hS (lv_sub hl [0, 1] rfl)
set_option maxRecDepth 10000 in
theorem kX11_letPass_28  {r : Int32} {S1 : MS} {M : MS} {x1 : Int32} (X : gX p s m args c cX11_letPass 2 RX11 (dC, dI) [(cI, .int)] A) (hDA : ∀ S, va_D A ((mW cI ad) S)) (hret : gRetI p l e (rmL 7 0 0) s m args below meth c cX11_letPass (dC, dI) A (mW cI ad) Q r S1) (hf : fX11_letPass_28 M x1 = some (r, S1)) {H : Heap} {locs : List Loc} {ls : Array Slot} (hP : va_P (dC, dI) vwCl ((mW cI ad) M) H) (hS : va_S A s.heap H locs) (hl : lv_has ls 2 [(0, .ref (ad 25)), (1, .int x1)]) : W p l e (rmL 7 0 0) s m args below meth c H locs 0 0 Q (F0 m 28 ls []) := by
  have hx := X.hx
  have hb := X.hb
  have hown := X.hown
  have hts := X.hts
  rw [fX11_letPass_28] at hf
  refine lv_aload_n hx hb dX11_letPass_28 rfl (lv_at hl 0 rfl) ?_
  refine lv_aload_n hx hb dX11_letPass_29 rfl (lv_at hl 0 rfl) ?_
  refine mr_get (k := 0) X hP (by decide) rfl rfl tw1665 dX11_letPass_30 ?_
  refine lv_iconst (v := 3) hx hb dX11_letPass_33 (by decide) ?_
  obtain ⟨g1, hf⟩ := gd hf
  refine mr_ald (a := 0) X hP rfl g1 dX11_letPass_34 ?_
  refine lv_iload_n hx hb dX11_letPass_35 rfl (lv_at hl 1 rfl) ?_
  refine lv_iadd hx hb dX11_letPass_36 ?_
  refine lv_sipush (v := 9999) hx hb dX11_letPass_37 (by decide) ?_
  refine lv_icmp_le (tgt := 47) hx hb dX11_letPass_40 (by decide) (fun c1 => ?_) (fun c1 => ?_)
  · exact kX11_letPass_47 X hDA hret (ifp c1 hf) hP hS (lv_sub hl [0, 1] rfl)
  · exact kX11_letPass_43 X hDA hret (ifn c1 hf) hP hS (lv_sub hl [0, 1] rfl)
set_option maxRecDepth 10000 in
theorem kX11_letPass_25  {r : Int32} {S1 : MS} {M : MS} {x1 : Int32} {s0 : Int32} (X : gX p s m args c cX11_letPass 2 RX11 (dC, dI) [(cI, .int)] A) (hDA : ∀ S, va_D A ((mW cI ad) S)) (hret : gRetI p l e (rmL 7 0 0) s m args below meth c cX11_letPass (dC, dI) A (mW cI ad) Q r S1) (hf : fX11_letPass_25 M x1 s0 = some (r, S1)) {H : Heap} {locs : List Loc} {ls : Array Slot} (hP : va_P (dC, dI) vwCl ((mW cI ad) M) H) (hS : va_S A s.heap H locs) (hl : lv_has ls 2 [(0, .ref (ad 25)), (1, .int x1)]) : W p l e (rmL 7 0 0) s m args below meth c H locs 0 0 Q (F0 m 25 ls [.int s0]) := by
  have hx := X.hx
  have hb := X.hb
  have hown := X.hown
  have hts := X.hts
  rw [fX11_letPass_25] at hf
  refine lv_if_ne (tgt := 55) hx hb dX11_letPass_25 (by decide) (fun c1 => ?_) (fun c1 => ?_)
  · exact kX11_letPass_55 X hDA hret (ifn c1 hf) hP hS (lv_sub hl [0] rfl)
  · exact kX11_letPass_28 X hDA hret (ifp c1 hf) hP hS (lv_sub hl [0, 1] rfl)
set_option maxRecDepth 10000 in
theorem kX11_letPass_21  {r : Int32} {S1 : MS} {M : MS} {x1 : Int32} {s0 : Int32} (X : gX p s m args c cX11_letPass 2 RX11 (dC, dI) [(cI, .int)] A) (hDA : ∀ S, va_D A ((mW cI ad) S)) (hret : gRetI p l e (rmL 7 0 0) s m args below meth c cX11_letPass (dC, dI) A (mW cI ad) Q r S1) (hf : fX11_letPass_21 M x1 s0 = some (r, S1)) {H : Heap} {locs : List Loc} {ls : Array Slot} (hP : va_P (dC, dI) vwCl ((mW cI ad) M) H) (hS : va_S A s.heap H locs) (hl : lv_has ls 2 [(0, .ref (ad 25)), (1, .int x1)]) : W p l e (rmL 7 0 0) s m args below meth c H locs 0 0 Q (F0 m 21 ls [.int s0, .ref (ad 25)]) := by
  have hx := X.hx
  have hb := X.hb
  have hown := X.hown
  have hts := X.hts
  rw [fX11_letPass_21] at hf
  refine lv_iconst (v := 1) hx hb dX11_letPass_21 (by decide) ?_
  obtain ⟨q, hc, hf⟩ := bd hf
  refine gCallVI X hDA rfl (vX11_fails hc) gRX11_X11_fails hdX11_fails rfl ⟨by decide, by decide⟩ hP hS (k0 := 0) (ci := 15) rfl rfl hl.1 (Nat.le_of_ble_eq_true rfl) ⟨Nat.le_refl _, Nat.le_refl _⟩ dX11_letPass_22 (As := [.int s0, .int 1]) (rest := []) rfl (fun H locs hP hS => ?_)
  exact kX11_letPass_25 X hDA hret hf hP hS (lv_sub hl [0, 1] rfl)
set_option maxRecDepth 10000 in
theorem kX11_letPass_20  {r : Int32} {S1 : MS} {M : MS} {x1 : Int32} (X : gX p s m args c cX11_letPass 2 RX11 (dC, dI) [(cI, .int)] A) (hDA : ∀ S, va_D A ((mW cI ad) S)) (hret : gRetI p l e (rmL 7 0 0) s m args below meth c cX11_letPass (dC, dI) A (mW cI ad) Q r S1) (hf : fX11_letPass_20 M x1 = some (r, S1)) {H : Heap} {locs : List Loc} {ls : Array Slot} (hP : va_P (dC, dI) vwCl ((mW cI ad) M) H) (hS : va_S A s.heap H locs) (hl : lv_has ls 2 [(0, .ref (ad 25)), (1, .int x1)]) : W p l e (rmL 7 0 0) s m args below meth c H locs 0 0 Q (F0 m 20 ls [.ref (ad 25)]) := by
  have hx := X.hx
  have hb := X.hb
  have hown := X.hown
  have hts := X.hts
  rw [fX11_letPass_20] at hf
  refine lv_iconst (v := 0) hx hb dX11_letPass_20 (by decide) ?_
  exact kX11_letPass_21 X hDA hret hf hP hS (lv_sub hl [0, 1] rfl)
set_option maxRecDepth 10000 in
theorem kX11_letPass_16  {r : Int32} {S1 : MS} {M : MS} {x1 : Int32} (X : gX p s m args c cX11_letPass 2 RX11 (dC, dI) [(cI, .int)] A) (hDA : ∀ S, va_D A ((mW cI ad) S)) (hret : gRetI p l e (rmL 7 0 0) s m args below meth c cX11_letPass (dC, dI) A (mW cI ad) Q r S1) (hf : fX11_letPass_16 M x1 = some (r, S1)) {H : Heap} {locs : List Loc} {ls : Array Slot} (hP : va_P (dC, dI) vwCl ((mW cI ad) M) H) (hS : va_S A s.heap H locs) (hl : lv_has ls 2 [(0, .ref (ad 25)), (1, .int x1)]) : W p l e (rmL 7 0 0) s m args below meth c H locs 0 0 Q (F0 m 16 ls [.ref (ad 25)]) := by
  have hx := X.hx
  have hb := X.hb
  have hown := X.hown
  have hts := X.hts
  rw [fX11_letPass_16] at hf
  refine lv_iconst (v := 1) hx hb dX11_letPass_16 (by decide) ?_
  refine lv_goto (tgt := 21) hx hb dX11_letPass_17 (by decide) ?_
  exact kX11_letPass_21 X hDA hret hf hP hS (lv_sub hl [0, 1] rfl)
set_option maxRecDepth 10000 in
theorem kX11_letPass_13  {r : Int32} {S1 : MS} {M : MS} {x1 : Int32} {s0 : Int32} (X : gX p s m args c cX11_letPass 2 RX11 (dC, dI) [(cI, .int)] A) (hDA : ∀ S, va_D A ((mW cI ad) S)) (hret : gRetI p l e (rmL 7 0 0) s m args below meth c cX11_letPass (dC, dI) A (mW cI ad) Q r S1) (hf : fX11_letPass_13 M x1 s0 = some (r, S1)) {H : Heap} {locs : List Loc} {ls : Array Slot} (hP : va_P (dC, dI) vwCl ((mW cI ad) M) H) (hS : va_S A s.heap H locs) (hl : lv_has ls 2 [(0, .ref (ad 25)), (1, .int x1)]) : W p l e (rmL 7 0 0) s m args below meth c H locs 0 0 Q (F0 m 13 ls [.int s0, .ref (ad 25)]) := by
  have hx := X.hx
  have hb := X.hb
  have hown := X.hown
  have hts := X.hts
  rw [fX11_letPass_13] at hf
  refine lv_if_ne (tgt := 20) hx hb dX11_letPass_13 (by decide) (fun c1 => ?_) (fun c1 => ?_)
  · exact kX11_letPass_20 X hDA hret (ifn c1 hf) hP hS (lv_sub hl [0, 1] rfl)
  · exact kX11_letPass_16 X hDA hret (ifp c1 hf) hP hS (lv_sub hl [0, 1] rfl)
set_option maxRecDepth 10000 in
theorem kX11_letPass_5  {r : Int32} {S1 : MS} {M : MS} {x1 : Int32} (X : gX p s m args c cX11_letPass 2 RX11 (dC, dI) [(cI, .int)] A) (hDA : ∀ S, va_D A ((mW cI ad) S)) (hret : gRetI p l e (rmL 7 0 0) s m args below meth c cX11_letPass (dC, dI) A (mW cI ad) Q r S1) (hf : fX11_letPass_5 M x1 = some (r, S1)) {H : Heap} {locs : List Loc} {ls : Array Slot} (hP : va_P (dC, dI) vwCl ((mW cI ad) M) H) (hS : va_S A s.heap H locs) (hl : lv_has ls 2 [(0, .ref (ad 25)), (1, .int x1)]) : W p l e (rmL 7 0 0) s m args below meth c H locs 0 0 Q (F0 m 5 ls []) := by
  have hx := X.hx
  have hb := X.hb
  have hown := X.hown
  have hts := X.hts
  rw [fX11_letPass_5] at hf
  refine lv_aload_n hx hb dX11_letPass_5 rfl (lv_at hl 0 rfl) ?_
  refine lv_iload_n hx hb dX11_letPass_6 rfl (lv_at hl 1 rfl) ?_
  refine lv_iconst (v := 1) hx hb dX11_letPass_7 (by decide) ?_
  refine lv_bipush (v := 99) hx hb dX11_letPass_8 (by decide) ?_
  obtain ⟨q, hc, hf⟩ := bd hf
  refine gCallSI X hDA rfl (vX11_inRange hc) gRX11_X11_inRange hdX11_inRange rfl ⟨by decide, by decide⟩ hP hS hl.1 (Nat.le_of_ble_eq_true rfl) ⟨Nat.le_refl _, Nat.le_refl _⟩ dX11_letPass_10 (As := [.int x1, .int 1, .int 99]) (rest := [.ref (ad 25)]) rfl (fun H locs hP hS => ?_)
  exact kX11_letPass_13 X hDA hret hf hP hS (lv_sub hl [0, 1] rfl)
set_option maxRecDepth 10000 in
theorem kX11_letPass_0  {r : Int32} {S1 : MS} {M : MS} {a1 : Int32} (X : gX p s m args c cX11_letPass 2 RX11 (dC, dI) [(cI, .int)] A) (hDA : ∀ S, va_D A ((mW cI ad) S)) (hret : gRetI p l e (rmL 7 0 0) s m args below meth c cX11_letPass (dC, dI) A (mW cI ad) Q r S1) (hf : fX11_letPass_0 M a1 = some (r, S1)) {H : Heap} {locs : List Loc} {ls : Array Slot} (hP : va_P (dC, dI) vwCl ((mW cI ad) M) H) (hS : va_S A s.heap H locs) (hl : lv_has ls 2 [(0, .ref (ad 25)), (1, .int a1)]) : W p l e (rmL 7 0 0) s m args below meth c H locs 0 0 Q (F0 m 0 ls []) := by
  have hx := X.hx
  have hb := X.hb
  have hown := X.hown
  have hts := X.hts
  rw [fX11_letPass_0] at hf
  refine lv_aload_n hx hb dX11_letPass_0 rfl (lv_at hl 0 rfl) ?_
  refine lv_iconst (v := 0) hx hb dX11_letPass_1 (by decide) ?_
  refine mr_put (k := 7) X hDA hP hS (by decide) rfl rfl rfl rfl tw1672 dX11_letPass_2 (fun H locs hP hS => ?_)
  exact kX11_letPass_5 X hDA hret hf hP hS (lv_sub hl [0, 1] rfl)
theorem vX11_letPass {l : Launch} {dC : Nat → ClassId} {dI : Nat → Nat → Nat} {cI : ClassId} {ad : Nat → Nat} {M S1 : MS} {r : Int32} {a1 : Int32} (hf : fX11_letPass M a1 = some (r, S1)) : gMetI l yX11_letPass cX11_letPass 2 (some .int) 7 (dC, dI) [(cI, .int)] (mW cI ad) [.ref (ad 25), .int a1] M r S1 := gEntryI (ty := .int) (by decide) rfl rfl mW_fix (Nat.le_of_ble_eq_true rfl) (fun p e s m args below meth c A Q ls X hDA hP hS hret hl => 
  kX11_letPass_0 X hDA hret hf hP hS (lv_sub hl [0, 1] rfl))
set_option maxRecDepth 10000 in
theorem kX11_miceAfter_34  {r : Int32} {S1 : MS} {M : MS} {s0 : Int32} (X : gX p s m args c cX11_miceAfter 3 RX11 (dC, dI) [(cI, .int)] A) (hDA : ∀ S, va_D A ((mW cI ad) S)) (hret : gRetI p l e (rmL 8 0 0) s m args below meth c cX11_miceAfter (dC, dI) A (mW cI ad) Q r S1) (hf : fX11_miceAfter_34 M s0 = some (r, S1)) {H : Heap} {locs : List Loc} {ls : Array Slot} (hP : va_P (dC, dI) vwCl ((mW cI ad) M) H) (hS : va_S A s.heap H locs) (hl : lv_has ls 3 [(0, .ref (ad 25))]) : W p l e (rmL 8 0 0) s m args below meth c H locs 0 0 Q (F0 m 34 ls [.int s0]) := by
  have hx := X.hx
  have hb := X.hb
  have hown := X.hown
  have hts := X.hts
  rw [fX11_miceAfter_34] at hf
  cases hf
  exact hret _ _ _ _ dX11_miceAfter_34 hP hS
set_option maxRecDepth 10000 in
theorem kX11_miceAfter_22  {r : Int32} {S1 : MS} {M : MS} (X : gX p s m args c cX11_miceAfter 3 RX11 (dC, dI) [(cI, .int)] A) (hDA : ∀ S, va_D A ((mW cI ad) S)) (hret : gRetI p l e (rmL 8 0 0) s m args below meth c cX11_miceAfter (dC, dI) A (mW cI ad) Q r S1) (hf : fX11_miceAfter_22 M = some (r, S1)) {H : Heap} {locs : List Loc} {ls : Array Slot} (hP : va_P (dC, dI) vwCl ((mW cI ad) M) H) (hS : va_S A s.heap H locs) (hl : lv_has ls 3 [(0, .ref (ad 25))]) : W p l e (rmL 8 0 0) s m args below meth c H locs 0 0 Q (F0 m 22 ls []) := by
  have hx := X.hx
  have hb := X.hb
  have hown := X.hown
  have hts := X.hts
  rw [fX11_miceAfter_22] at hf
  refine lv_iconst (v := 0) hx hb dX11_miceAfter_22 (by decide) ?_
  refine lv_goto (tgt := 34) hx hb dX11_miceAfter_23 (by decide) ?_
  exact kX11_miceAfter_34 X hDA hret hf hP hS (lv_sub hl [0] rfl)
set_option maxRecDepth 10000 in
theorem kX11_miceAfter_26  {r : Int32} {S1 : MS} {M : MS} {x1 : Int32} {x2 : Int32} (X : gX p s m args c cX11_miceAfter 3 RX11 (dC, dI) [(cI, .int)] A) (hDA : ∀ S, va_D A ((mW cI ad) S)) (hret : gRetI p l e (rmL 8 0 0) s m args below meth c cX11_miceAfter (dC, dI) A (mW cI ad) Q r S1) (hf : fX11_miceAfter_26 M x1 x2 = some (r, S1)) {H : Heap} {locs : List Loc} {ls : Array Slot} (hP : va_P (dC, dI) vwCl ((mW cI ad) M) H) (hS : va_S A s.heap H locs) (hl : lv_has ls 3 [(0, .ref (ad 25)), (1, .int x1), (2, .int x2)]) : W p l e (rmL 8 0 0) s m args below meth c H locs 0 0 Q (F0 m 26 ls []) := by
  have hx := X.hx
  have hb := X.hb
  have hown := X.hown
  have hts := X.hts
  rw [fX11_miceAfter_26] at hf
  refine lv_aload_n hx hb dX11_miceAfter_26 rfl (lv_at hl 0 rfl) ?_
  refine lv_iload_n hx hb dX11_miceAfter_27 rfl (lv_at hl 1 rfl) ?_
  refine lv_bipush (v := 8) hx hb dX11_miceAfter_28 (by decide) ?_
  refine lv_iload_n hx hb dX11_miceAfter_30 rfl (lv_at hl 2 rfl) ?_
  obtain ⟨q, hc, hf⟩ := bd hf
  refine gCallVI X hDA rfl (vX11_sackAfter hc) gRX11_X11_sackAfter hdX11_sackAfter rfl ⟨by decide, by decide⟩ hP hS (k0 := 0) (ci := 15) rfl rfl hl.1 (Nat.le_of_ble_eq_true rfl) ⟨Nat.le_refl _, Nat.le_refl _⟩ dX11_miceAfter_31 (As := [.int x1, .int 8, .int x2]) (rest := []) rfl (fun H locs hP hS => ?_)
  exact kX11_miceAfter_34 X hDA hret hf hP hS (lv_sub hl [0] rfl)
set_option maxRecDepth 10000 in
theorem kX11_miceAfter_19  {r : Int32} {S1 : MS} {M : MS} {x1 : Int32} {x2 : Int32} {s0 : Int32} (X : gX p s m args c cX11_miceAfter 3 RX11 (dC, dI) [(cI, .int)] A) (hDA : ∀ S, va_D A ((mW cI ad) S)) (hret : gRetI p l e (rmL 8 0 0) s m args below meth c cX11_miceAfter (dC, dI) A (mW cI ad) Q r S1) (hf : fX11_miceAfter_19 M x1 x2 s0 = some (r, S1)) {H : Heap} {locs : List Loc} {ls : Array Slot} (hP : va_P (dC, dI) vwCl ((mW cI ad) M) H) (hS : va_S A s.heap H locs) (hl : lv_has ls 3 [(0, .ref (ad 25)), (1, .int x1), (2, .int x2)]) : W p l e (rmL 8 0 0) s m args below meth c H locs 0 0 Q (F0 m 19 ls [.int s0]) := by
  have hx := X.hx
  have hb := X.hb
  have hown := X.hown
  have hts := X.hts
  rw [fX11_miceAfter_19] at hf
  refine lv_if_eq (tgt := 26) hx hb dX11_miceAfter_19 (by decide) (fun c1 => ?_) (fun c1 => ?_)
  · exact kX11_miceAfter_26 X hDA hret (ifp c1 hf) hP hS (lv_sub hl [0, 1, 2] rfl)
  · exact kX11_miceAfter_22 X hDA hret (ifn c1 hf) hP hS (lv_sub hl [0] rfl)
set_option maxRecDepth 10000 in
theorem kX11_miceAfter_13  {r : Int32} {S1 : MS} {M : MS} {x1 : Int32} {x2 : Int32} (X : gX p s m args c cX11_miceAfter 3 RX11 (dC, dI) [(cI, .int)] A) (hDA : ∀ S, va_D A ((mW cI ad) S)) (hret : gRetI p l e (rmL 8 0 0) s m args below meth c cX11_miceAfter (dC, dI) A (mW cI ad) Q r S1) (hf : fX11_miceAfter_13 M x1 x2 = some (r, S1)) {H : Heap} {locs : List Loc} {ls : Array Slot} (hP : va_P (dC, dI) vwCl ((mW cI ad) M) H) (hS : va_S A s.heap H locs) (hl : lv_has ls 3 [(0, .ref (ad 25)), (1, .int x1), (2, .int x2)]) : W p l e (rmL 8 0 0) s m args below meth c H locs 0 0 Q (F0 m 13 ls []) := by
  have hx := X.hx
  have hb := X.hb
  have hown := X.hown
  have hts := X.hts
  rw [fX11_miceAfter_13] at hf
  refine lv_aload_n hx hb dX11_miceAfter_13 rfl (lv_at hl 0 rfl) ?_
  refine lv_iload_n hx hb dX11_miceAfter_14 rfl (lv_at hl 2 rfl) ?_
  refine lv_iconst (v := 2) hx hb dX11_miceAfter_15 (by decide) ?_
  obtain ⟨q, hc, hf⟩ := bd hf
  refine gCallVI X hDA rfl (vX11_noHours hc) gRX11_X11_noHours hdX11_noHours rfl ⟨by decide, by decide⟩ hP hS (k0 := 0) (ci := 15) rfl rfl hl.1 (Nat.le_of_ble_eq_true rfl) ⟨Nat.le_refl _, Nat.le_refl _⟩ dX11_miceAfter_16 (As := [.int x2, .int 2]) (rest := []) rfl (fun H locs hP hS => ?_)
  exact kX11_miceAfter_19 X hDA hret hf hP hS (lv_sub hl [0, 1, 2] rfl)
set_option maxRecDepth 10000 in
theorem kX11_miceAfter_10  {r : Int32} {S1 : MS} {M : MS} {x1 : Int32} {x2 : Int32} {s0 : Int32} (X : gX p s m args c cX11_miceAfter 3 RX11 (dC, dI) [(cI, .int)] A) (hDA : ∀ S, va_D A ((mW cI ad) S)) (hret : gRetI p l e (rmL 8 0 0) s m args below meth c cX11_miceAfter (dC, dI) A (mW cI ad) Q r S1) (hf : fX11_miceAfter_10 M x1 x2 s0 = some (r, S1)) {H : Heap} {locs : List Loc} {ls : Array Slot} (hP : va_P (dC, dI) vwCl ((mW cI ad) M) H) (hS : va_S A s.heap H locs) (hl : lv_has ls 3 [(0, .ref (ad 25)), (1, .int x1), (2, .int x2)]) : W p l e (rmL 8 0 0) s m args below meth c H locs 0 0 Q (F0 m 10 ls [.int s0]) := by
  have hx := X.hx
  have hb := X.hb
  have hown := X.hown
  have hts := X.hts
  rw [fX11_miceAfter_10] at hf
  refine lv_if_ne (tgt := 22) hx hb dX11_miceAfter_10 (by decide) (fun c1 => ?_) (fun c1 => ?_)
  · exact kX11_miceAfter_22 X hDA hret (ifn c1 hf) hP hS (lv_sub hl [0] rfl)
  · exact kX11_miceAfter_13 X hDA hret (ifp c1 hf) hP hS (lv_sub hl [0, 1, 2] rfl)
set_option maxRecDepth 10000 in
theorem kX11_miceAfter_5  {r : Int32} {S1 : MS} {M : MS} {x1 : Int32} {x2 : Int32} (X : gX p s m args c cX11_miceAfter 3 RX11 (dC, dI) [(cI, .int)] A) (hDA : ∀ S, va_D A ((mW cI ad) S)) (hret : gRetI p l e (rmL 8 0 0) s m args below meth c cX11_miceAfter (dC, dI) A (mW cI ad) Q r S1) (hf : fX11_miceAfter_5 M x1 x2 = some (r, S1)) {H : Heap} {locs : List Loc} {ls : Array Slot} (hP : va_P (dC, dI) vwCl ((mW cI ad) M) H) (hS : va_S A s.heap H locs) (hl : lv_has ls 3 [(0, .ref (ad 25)), (1, .int x1), (2, .int x2)]) : W p l e (rmL 8 0 0) s m args below meth c H locs 0 0 Q (F0 m 5 ls []) := by
  have hx := X.hx
  have hb := X.hb
  have hown := X.hown
  have hts := X.hts
  rw [fX11_miceAfter_5] at hf
  refine lv_aload_n hx hb dX11_miceAfter_5 rfl (lv_at hl 0 rfl) ?_
  refine lv_iload_n hx hb dX11_miceAfter_6 rfl (lv_at hl 1 rfl) ?_
  obtain ⟨q, hc, hf⟩ := bd hf
  refine gCallVI X hDA rfl (vX11_noSack hc) gRX11_X11_noSack hdX11_noSack rfl ⟨by decide, by decide⟩ hP hS (k0 := 0) (ci := 15) rfl rfl hl.1 (Nat.le_of_ble_eq_true rfl) ⟨Nat.le_refl _, Nat.le_refl _⟩ dX11_miceAfter_7 (As := [.int x1]) (rest := []) rfl (fun H locs hP hS => ?_)
  exact kX11_miceAfter_10 X hDA hret hf hP hS (lv_sub hl [0, 1, 2] rfl)
set_option maxRecDepth 10000 in
theorem kX11_miceAfter_0  {r : Int32} {S1 : MS} {M : MS} {a1 : Int32} {a2 : Int32} (X : gX p s m args c cX11_miceAfter 3 RX11 (dC, dI) [(cI, .int)] A) (hDA : ∀ S, va_D A ((mW cI ad) S)) (hret : gRetI p l e (rmL 8 0 0) s m args below meth c cX11_miceAfter (dC, dI) A (mW cI ad) Q r S1) (hf : fX11_miceAfter_0 M a1 a2 = some (r, S1)) {H : Heap} {locs : List Loc} {ls : Array Slot} (hP : va_P (dC, dI) vwCl ((mW cI ad) M) H) (hS : va_S A s.heap H locs) (hl : lv_has ls 3 [(0, .ref (ad 25)), (1, .int a1), (2, .int a2)]) : W p l e (rmL 8 0 0) s m args below meth c H locs 0 0 Q (F0 m 0 ls []) := by
  have hx := X.hx
  have hb := X.hb
  have hown := X.hown
  have hts := X.hts
  rw [fX11_miceAfter_0] at hf
  refine lv_aload_n hx hb dX11_miceAfter_0 rfl (lv_at hl 0 rfl) ?_
  refine lv_iconst (v := 0) hx hb dX11_miceAfter_1 (by decide) ?_
  refine mr_put (k := 7) X hDA hP hS (by decide) rfl rfl rfl rfl tw1672 dX11_miceAfter_2 (fun H locs hP hS => ?_)
  exact kX11_miceAfter_5 X hDA hret hf hP hS (lv_sub hl [0, 1, 2] rfl)
theorem vX11_miceAfter {l : Launch} {dC : Nat → ClassId} {dI : Nat → Nat → Nat} {cI : ClassId} {ad : Nat → Nat} {M S1 : MS} {r : Int32} {a1 : Int32} {a2 : Int32} (hf : fX11_miceAfter M a1 a2 = some (r, S1)) : gMetI l yX11_miceAfter cX11_miceAfter 3 (some .int) 8 (dC, dI) [(cI, .int)] (mW cI ad) [.ref (ad 25), .int a1, .int a2] M r S1 := gEntryI (ty := .int) (by decide) rfl rfl mW_fix (Nat.le_of_ble_eq_true rfl) (fun p e s m args below meth c A Q ls X hDA hP hS hret hl => 
  kX11_miceAfter_0 X hDA hret hf hP hS (lv_sub hl [0, 1, 2] rfl))
set_option maxRecDepth 10000 in
theorem kX11_grainAfter_34  {r : Int32} {S1 : MS} {M : MS} {s0 : Int32} (X : gX p s m args c cX11_grainAfter 3 RX11 (dC, dI) [(cI, .int)] A) (hDA : ∀ S, va_D A ((mW cI ad) S)) (hret : gRetI p l e (rmL 8 0 0) s m args below meth c cX11_grainAfter (dC, dI) A (mW cI ad) Q r S1) (hf : fX11_grainAfter_34 M s0 = some (r, S1)) {H : Heap} {locs : List Loc} {ls : Array Slot} (hP : va_P (dC, dI) vwCl ((mW cI ad) M) H) (hS : va_S A s.heap H locs) (hl : lv_has ls 3 [(0, .ref (ad 25))]) : W p l e (rmL 8 0 0) s m args below meth c H locs 0 0 Q (F0 m 34 ls [.int s0]) := by
  have hx := X.hx
  have hb := X.hb
  have hown := X.hown
  have hts := X.hts
  rw [fX11_grainAfter_34] at hf
  cases hf
  exact hret _ _ _ _ dX11_grainAfter_34 hP hS
set_option maxRecDepth 10000 in
theorem kX11_grainAfter_22  {r : Int32} {S1 : MS} {M : MS} (X : gX p s m args c cX11_grainAfter 3 RX11 (dC, dI) [(cI, .int)] A) (hDA : ∀ S, va_D A ((mW cI ad) S)) (hret : gRetI p l e (rmL 8 0 0) s m args below meth c cX11_grainAfter (dC, dI) A (mW cI ad) Q r S1) (hf : fX11_grainAfter_22 M = some (r, S1)) {H : Heap} {locs : List Loc} {ls : Array Slot} (hP : va_P (dC, dI) vwCl ((mW cI ad) M) H) (hS : va_S A s.heap H locs) (hl : lv_has ls 3 [(0, .ref (ad 25))]) : W p l e (rmL 8 0 0) s m args below meth c H locs 0 0 Q (F0 m 22 ls []) := by
  have hx := X.hx
  have hb := X.hb
  have hown := X.hown
  have hts := X.hts
  rw [fX11_grainAfter_22] at hf
  refine lv_iconst (v := 0) hx hb dX11_grainAfter_22 (by decide) ?_
  refine lv_goto (tgt := 34) hx hb dX11_grainAfter_23 (by decide) ?_
  exact kX11_grainAfter_34 X hDA hret hf hP hS (lv_sub hl [0] rfl)
set_option maxRecDepth 10000 in
theorem kX11_grainAfter_26  {r : Int32} {S1 : MS} {M : MS} {x1 : Int32} {x2 : Int32} (X : gX p s m args c cX11_grainAfter 3 RX11 (dC, dI) [(cI, .int)] A) (hDA : ∀ S, va_D A ((mW cI ad) S)) (hret : gRetI p l e (rmL 8 0 0) s m args below meth c cX11_grainAfter (dC, dI) A (mW cI ad) Q r S1) (hf : fX11_grainAfter_26 M x1 x2 = some (r, S1)) {H : Heap} {locs : List Loc} {ls : Array Slot} (hP : va_P (dC, dI) vwCl ((mW cI ad) M) H) (hS : va_S A s.heap H locs) (hl : lv_has ls 3 [(0, .ref (ad 25)), (1, .int x1), (2, .int x2)]) : W p l e (rmL 8 0 0) s m args below meth c H locs 0 0 Q (F0 m 26 ls []) := by
  have hx := X.hx
  have hb := X.hb
  have hown := X.hown
  have hts := X.hts
  rw [fX11_grainAfter_26] at hf
  refine lv_aload_n hx hb dX11_grainAfter_26 rfl (lv_at hl 0 rfl) ?_
  refine lv_iload_n hx hb dX11_grainAfter_27 rfl (lv_at hl 1 rfl) ?_
  refine lv_bipush (v := 7) hx hb dX11_grainAfter_28 (by decide) ?_
  refine lv_iload_n hx hb dX11_grainAfter_30 rfl (lv_at hl 2 rfl) ?_
  obtain ⟨q, hc, hf⟩ := bd hf
  refine gCallVI X hDA rfl (vX11_sackAfter hc) gRX11_X11_sackAfter hdX11_sackAfter rfl ⟨by decide, by decide⟩ hP hS (k0 := 0) (ci := 15) rfl rfl hl.1 (Nat.le_of_ble_eq_true rfl) ⟨Nat.le_refl _, Nat.le_refl _⟩ dX11_grainAfter_31 (As := [.int x1, .int 7, .int x2]) (rest := []) rfl (fun H locs hP hS => ?_)
  exact kX11_grainAfter_34 X hDA hret hf hP hS (lv_sub hl [0] rfl)
set_option maxRecDepth 10000 in
theorem kX11_grainAfter_19  {r : Int32} {S1 : MS} {M : MS} {x1 : Int32} {x2 : Int32} {s0 : Int32} (X : gX p s m args c cX11_grainAfter 3 RX11 (dC, dI) [(cI, .int)] A) (hDA : ∀ S, va_D A ((mW cI ad) S)) (hret : gRetI p l e (rmL 8 0 0) s m args below meth c cX11_grainAfter (dC, dI) A (mW cI ad) Q r S1) (hf : fX11_grainAfter_19 M x1 x2 s0 = some (r, S1)) {H : Heap} {locs : List Loc} {ls : Array Slot} (hP : va_P (dC, dI) vwCl ((mW cI ad) M) H) (hS : va_S A s.heap H locs) (hl : lv_has ls 3 [(0, .ref (ad 25)), (1, .int x1), (2, .int x2)]) : W p l e (rmL 8 0 0) s m args below meth c H locs 0 0 Q (F0 m 19 ls [.int s0]) := by
  have hx := X.hx
  have hb := X.hb
  have hown := X.hown
  have hts := X.hts
  rw [fX11_grainAfter_19] at hf
  refine lv_if_eq (tgt := 26) hx hb dX11_grainAfter_19 (by decide) (fun c1 => ?_) (fun c1 => ?_)
  · exact kX11_grainAfter_26 X hDA hret (ifp c1 hf) hP hS (lv_sub hl [0, 1, 2] rfl)
  · exact kX11_grainAfter_22 X hDA hret (ifn c1 hf) hP hS (lv_sub hl [0] rfl)
set_option maxRecDepth 10000 in
theorem kX11_grainAfter_13  {r : Int32} {S1 : MS} {M : MS} {x1 : Int32} {x2 : Int32} (X : gX p s m args c cX11_grainAfter 3 RX11 (dC, dI) [(cI, .int)] A) (hDA : ∀ S, va_D A ((mW cI ad) S)) (hret : gRetI p l e (rmL 8 0 0) s m args below meth c cX11_grainAfter (dC, dI) A (mW cI ad) Q r S1) (hf : fX11_grainAfter_13 M x1 x2 = some (r, S1)) {H : Heap} {locs : List Loc} {ls : Array Slot} (hP : va_P (dC, dI) vwCl ((mW cI ad) M) H) (hS : va_S A s.heap H locs) (hl : lv_has ls 3 [(0, .ref (ad 25)), (1, .int x1), (2, .int x2)]) : W p l e (rmL 8 0 0) s m args below meth c H locs 0 0 Q (F0 m 13 ls []) := by
  have hx := X.hx
  have hb := X.hb
  have hown := X.hown
  have hts := X.hts
  rw [fX11_grainAfter_13] at hf
  refine lv_aload_n hx hb dX11_grainAfter_13 rfl (lv_at hl 0 rfl) ?_
  refine lv_iload_n hx hb dX11_grainAfter_14 rfl (lv_at hl 2 rfl) ?_
  refine lv_iconst (v := 2) hx hb dX11_grainAfter_15 (by decide) ?_
  obtain ⟨q, hc, hf⟩ := bd hf
  refine gCallVI X hDA rfl (vX11_noHours hc) gRX11_X11_noHours hdX11_noHours rfl ⟨by decide, by decide⟩ hP hS (k0 := 0) (ci := 15) rfl rfl hl.1 (Nat.le_of_ble_eq_true rfl) ⟨Nat.le_refl _, Nat.le_refl _⟩ dX11_grainAfter_16 (As := [.int x2, .int 2]) (rest := []) rfl (fun H locs hP hS => ?_)
  exact kX11_grainAfter_19 X hDA hret hf hP hS (lv_sub hl [0, 1, 2] rfl)
set_option maxRecDepth 10000 in
theorem kX11_grainAfter_10  {r : Int32} {S1 : MS} {M : MS} {x1 : Int32} {x2 : Int32} {s0 : Int32} (X : gX p s m args c cX11_grainAfter 3 RX11 (dC, dI) [(cI, .int)] A) (hDA : ∀ S, va_D A ((mW cI ad) S)) (hret : gRetI p l e (rmL 8 0 0) s m args below meth c cX11_grainAfter (dC, dI) A (mW cI ad) Q r S1) (hf : fX11_grainAfter_10 M x1 x2 s0 = some (r, S1)) {H : Heap} {locs : List Loc} {ls : Array Slot} (hP : va_P (dC, dI) vwCl ((mW cI ad) M) H) (hS : va_S A s.heap H locs) (hl : lv_has ls 3 [(0, .ref (ad 25)), (1, .int x1), (2, .int x2)]) : W p l e (rmL 8 0 0) s m args below meth c H locs 0 0 Q (F0 m 10 ls [.int s0]) := by
  have hx := X.hx
  have hb := X.hb
  have hown := X.hown
  have hts := X.hts
  rw [fX11_grainAfter_10] at hf
  refine lv_if_ne (tgt := 22) hx hb dX11_grainAfter_10 (by decide) (fun c1 => ?_) (fun c1 => ?_)
  · exact kX11_grainAfter_22 X hDA hret (ifn c1 hf) hP hS (lv_sub hl [0] rfl)
  · exact kX11_grainAfter_13 X hDA hret (ifp c1 hf) hP hS (lv_sub hl [0, 1, 2] rfl)
set_option maxRecDepth 10000 in
theorem kX11_grainAfter_5  {r : Int32} {S1 : MS} {M : MS} {x1 : Int32} {x2 : Int32} (X : gX p s m args c cX11_grainAfter 3 RX11 (dC, dI) [(cI, .int)] A) (hDA : ∀ S, va_D A ((mW cI ad) S)) (hret : gRetI p l e (rmL 8 0 0) s m args below meth c cX11_grainAfter (dC, dI) A (mW cI ad) Q r S1) (hf : fX11_grainAfter_5 M x1 x2 = some (r, S1)) {H : Heap} {locs : List Loc} {ls : Array Slot} (hP : va_P (dC, dI) vwCl ((mW cI ad) M) H) (hS : va_S A s.heap H locs) (hl : lv_has ls 3 [(0, .ref (ad 25)), (1, .int x1), (2, .int x2)]) : W p l e (rmL 8 0 0) s m args below meth c H locs 0 0 Q (F0 m 5 ls []) := by
  have hx := X.hx
  have hb := X.hb
  have hown := X.hown
  have hts := X.hts
  rw [fX11_grainAfter_5] at hf
  refine lv_aload_n hx hb dX11_grainAfter_5 rfl (lv_at hl 0 rfl) ?_
  refine lv_iload_n hx hb dX11_grainAfter_6 rfl (lv_at hl 1 rfl) ?_
  obtain ⟨q, hc, hf⟩ := bd hf
  refine gCallVI X hDA rfl (vX11_noSack hc) gRX11_X11_noSack hdX11_noSack rfl ⟨by decide, by decide⟩ hP hS (k0 := 0) (ci := 15) rfl rfl hl.1 (Nat.le_of_ble_eq_true rfl) ⟨Nat.le_refl _, Nat.le_refl _⟩ dX11_grainAfter_7 (As := [.int x1]) (rest := []) rfl (fun H locs hP hS => ?_)
  exact kX11_grainAfter_10 X hDA hret hf hP hS (lv_sub hl [0, 1, 2] rfl)
set_option maxRecDepth 10000 in
theorem kX11_grainAfter_0  {r : Int32} {S1 : MS} {M : MS} {a1 : Int32} {a2 : Int32} (X : gX p s m args c cX11_grainAfter 3 RX11 (dC, dI) [(cI, .int)] A) (hDA : ∀ S, va_D A ((mW cI ad) S)) (hret : gRetI p l e (rmL 8 0 0) s m args below meth c cX11_grainAfter (dC, dI) A (mW cI ad) Q r S1) (hf : fX11_grainAfter_0 M a1 a2 = some (r, S1)) {H : Heap} {locs : List Loc} {ls : Array Slot} (hP : va_P (dC, dI) vwCl ((mW cI ad) M) H) (hS : va_S A s.heap H locs) (hl : lv_has ls 3 [(0, .ref (ad 25)), (1, .int a1), (2, .int a2)]) : W p l e (rmL 8 0 0) s m args below meth c H locs 0 0 Q (F0 m 0 ls []) := by
  have hx := X.hx
  have hb := X.hb
  have hown := X.hown
  have hts := X.hts
  rw [fX11_grainAfter_0] at hf
  refine lv_aload_n hx hb dX11_grainAfter_0 rfl (lv_at hl 0 rfl) ?_
  refine lv_iconst (v := 0) hx hb dX11_grainAfter_1 (by decide) ?_
  refine mr_put (k := 7) X hDA hP hS (by decide) rfl rfl rfl rfl tw1672 dX11_grainAfter_2 (fun H locs hP hS => ?_)
  exact kX11_grainAfter_5 X hDA hret hf hP hS (lv_sub hl [0, 1, 2] rfl)
theorem vX11_grainAfter {l : Launch} {dC : Nat → ClassId} {dI : Nat → Nat → Nat} {cI : ClassId} {ad : Nat → Nat} {M S1 : MS} {r : Int32} {a1 : Int32} {a2 : Int32} (hf : fX11_grainAfter M a1 a2 = some (r, S1)) : gMetI l yX11_grainAfter cX11_grainAfter 3 (some .int) 8 (dC, dI) [(cI, .int)] (mW cI ad) [.ref (ad 25), .int a1, .int a2] M r S1 := gEntryI (ty := .int) (by decide) rfl rfl mW_fix (Nat.le_of_ble_eq_true rfl) (fun p e s m args below meth c A Q ls X hDA hP hS hret hl => 
  kX11_grainAfter_0 X hDA hret hf hP hS (lv_sub hl [0, 1, 2] rfl))
set_option maxRecDepth 10000 in
theorem kX11_grainWithChange_33  {r : Int32} {S1 : MS} {M : MS} {x4 : Int32} (X : gX p s m args c cX11_grainWithChange 5 RX11 (dC, dI) [(cI, .int)] A) (hDA : ∀ S, va_D A ((mW cI ad) S)) (hret : gRetI p l e (rmL 8 0 0) s m args below meth c cX11_grainWithChange (dC, dI) A (mW cI ad) Q r S1) (hf : fX11_grainWithChange_33 M x4 = some (r, S1)) {H : Heap} {locs : List Loc} {ls : Array Slot} (hP : va_P (dC, dI) vwCl ((mW cI ad) M) H) (hS : va_S A s.heap H locs) (hl : lv_has ls 5 [(0, .ref (ad 25)), (4, .int x4)]) : W p l e (rmL 8 0 0) s m args below meth c H locs 0 0 Q (F0 m 33 ls []) := by
  have hx := X.hx
  have hb := X.hb
  have hown := X.hown
  have hts := X.hts
  rw [fX11_grainWithChange_33] at hf
  refine lv_iload hx hb dX11_grainWithChange_33 (lv_at hl 1 rfl) ?_
  cases hf
  exact hret _ _ _ _ dX11_grainWithChange_35 hP hS
set_option maxRecDepth 10000 in
theorem kX11_grainWithChange_23  {r : Int32} {S1 : MS} {M : MS} {x1 : Int32} {x3 : Int32} {s0 : Int32} (X : gX p s m args c cX11_grainWithChange 5 RX11 (dC, dI) [(cI, .int)] A) (hDA : ∀ S, va_D A ((mW cI ad) S)) (hret : gRetI p l e (rmL 8 0 0) s m args below meth c cX11_grainWithChange (dC, dI) A (mW cI ad) Q r S1) (hf : fX11_grainWithChange_23 M x1 x3 s0 = some (r, S1)) {H : Heap} {locs : List Loc} {ls : Array Slot} (hP : va_P (dC, dI) vwCl ((mW cI ad) M) H) (hS : va_S A s.heap H locs) (hl : lv_has ls 5 [(0, .ref (ad 25)), (1, .int x1), (3, .int x3)]) : W p l e (rmL 8 0 0) s m args below meth c H locs 0 0 Q (F0 m 23 ls [.int s0]) := by
  have hx := X.hx
  have hb := X.hb
  have hown := X.hown
  have hts := X.hts
  rw [fX11_grainWithChange_23] at hf
  refine lv_istore (lv' := [(4, .int s0), (0, .ref (ad 25)), (1, .int x1), (3, .int x3)]) hx hb dX11_grainWithChange_23 hl (by decide) rfl (fun ls hl => ?_)
  refine lv_aload_n hx hb dX11_grainWithChange_25 rfl (lv_at hl 1 rfl) ?_
  refine lv_iload_n hx hb dX11_grainWithChange_26 rfl (lv_at hl 2 rfl) ?_
  refine lv_bipush (v := 9) hx hb dX11_grainWithChange_27 (by decide) ?_
  refine lv_iload_n hx hb dX11_grainWithChange_29 rfl (lv_at hl 3 rfl) ?_
  obtain ⟨q, hc, hf⟩ := bd hf
  refine gCallVV X hDA rfl (vX11_putsSack hc) gRX11_X11_putsSack hdX11_putsSack rfl ⟨by decide, by decide⟩ hP hS (k0 := 0) (ci := 15) rfl rfl hl.1 (Nat.le_of_ble_eq_true rfl) ⟨Nat.le_refl _, Nat.le_refl _⟩ dX11_grainWithChange_30 (As := [.int x1, .int 9, .int x3]) (rest := []) rfl (fun H locs hP hS => ?_)
  exact kX11_grainWithChange_33 X hDA hret hf hP hS (lv_sub hl [1, 0] rfl)
set_option maxRecDepth 10000 in
theorem kX11_grainWithChange_18  {r : Int32} {S1 : MS} {M : MS} {x1 : Int32} {x2 : Int32} {x3 : Int32} (X : gX p s m args c cX11_grainWithChange 5 RX11 (dC, dI) [(cI, .int)] A) (hDA : ∀ S, va_D A ((mW cI ad) S)) (hret : gRetI p l e (rmL 8 0 0) s m args below meth c cX11_grainWithChange (dC, dI) A (mW cI ad) Q r S1) (hf : fX11_grainWithChange_18 M x1 x2 x3 = some (r, S1)) {H : Heap} {locs : List Loc} {ls : Array Slot} (hP : va_P (dC, dI) vwCl ((mW cI ad) M) H) (hS : va_S A s.heap H locs) (hl : lv_has ls 5 [(0, .ref (ad 25)), (1, .int x1), (2, .int x2), (3, .int x3)]) : W p l e (rmL 8 0 0) s m args below meth c H locs 0 0 Q (F0 m 18 ls []) := by
  have hx := X.hx
  have hb := X.hb
  have hown := X.hown
  have hts := X.hts
  rw [fX11_grainWithChange_18] at hf
  refine lv_aload_n hx hb dX11_grainWithChange_18 rfl (lv_at hl 0 rfl) ?_
  refine lv_iload_n hx hb dX11_grainWithChange_19 rfl (lv_at hl 2 rfl) ?_
  obtain ⟨q, hc, hf⟩ := bd hf
  refine gCallVI X hDA rfl (vX11_allGrainAfter hc) gRX11_X11_allGrainAfter hdX11_allGrainAfter rfl ⟨by decide, by decide⟩ hP hS (k0 := 0) (ci := 15) rfl rfl hl.1 (Nat.le_of_ble_eq_true rfl) ⟨Nat.le_refl _, Nat.le_refl _⟩ dX11_grainWithChange_20 (As := [.int x2]) (rest := []) rfl (fun H locs hP hS => ?_)
  exact kX11_grainWithChange_23 X hDA hret hf hP hS (lv_sub hl [0, 1, 3] rfl)
set_option maxRecDepth 10000 in
theorem kX11_grainWithChange_7  {r : Int32} {S1 : MS} {M : MS} {x1 : Int32} {x2 : Int32} {s0 : Int32} (X : gX p s m args c cX11_grainWithChange 5 RX11 (dC, dI) [(cI, .int)] A) (hDA : ∀ S, va_D A ((mW cI ad) S)) (hret : gRetI p l e (rmL 8 0 0) s m args below meth c cX11_grainWithChange (dC, dI) A (mW cI ad) Q r S1) (hf : fX11_grainWithChange_7 M x1 x2 s0 = some (r, S1)) {H : Heap} {locs : List Loc} {ls : Array Slot} (hP : va_P (dC, dI) vwCl ((mW cI ad) M) H) (hS : va_S A s.heap H locs) (hl : lv_has ls 5 [(0, .ref (ad 25)), (1, .int x1), (2, .int x2)]) : W p l e (rmL 8 0 0) s m args below meth c H locs 0 0 Q (F0 m 7 ls [.int s0]) := by
  have hx := X.hx
  have hb := X.hb
  have hown := X.hown
  have hts := X.hts
  rw [fX11_grainWithChange_7] at hf
  refine lv_istore_n (lv' := [(3, .int s0), (0, .ref (ad 25)), (1, .int x1), (2, .int x2)]) hx hb dX11_grainWithChange_7 rfl hl (by decide) rfl (fun ls hl => ?_)
  refine lv_aload_n hx hb dX11_grainWithChange_8 rfl (lv_at hl 1 rfl) ?_
  refine lv_iload_n hx hb dX11_grainWithChange_9 rfl (lv_at hl 2 rfl) ?_
  refine lv_bipush (v := 9) hx hb dX11_grainWithChange_10 (by decide) ?_
  refine lv_iconst (v := 1) hx hb dX11_grainWithChange_12 (by decide) ?_
  refine lv_iload_n hx hb dX11_grainWithChange_13 rfl (lv_at hl 0 rfl) ?_
  refine lv_isub hx hb dX11_grainWithChange_14 ?_
  obtain ⟨q, hc, hf⟩ := bd hf
  refine gCallVV X hDA rfl (vX11_putsSack hc) gRX11_X11_putsSack hdX11_putsSack rfl ⟨by decide, by decide⟩ hP hS (k0 := 0) (ci := 15) rfl rfl hl.1 (Nat.le_of_ble_eq_true rfl) ⟨Nat.le_refl _, Nat.le_refl _⟩ dX11_grainWithChange_15 (As := [.int x1, .int 9, .int (1 - s0)]) (rest := []) rfl (fun H locs hP hS => ?_)
  exact kX11_grainWithChange_18 X hDA hret hf hP hS (lv_sub hl [1, 2, 3, 0] rfl)
set_option maxRecDepth 10000 in
theorem kX11_grainWithChange_0  {r : Int32} {S1 : MS} {M : MS} {a1 : Int32} {a2 : Int32} (X : gX p s m args c cX11_grainWithChange 5 RX11 (dC, dI) [(cI, .int)] A) (hDA : ∀ S, va_D A ((mW cI ad) S)) (hret : gRetI p l e (rmL 8 0 0) s m args below meth c cX11_grainWithChange (dC, dI) A (mW cI ad) Q r S1) (hf : fX11_grainWithChange_0 M a1 a2 = some (r, S1)) {H : Heap} {locs : List Loc} {ls : Array Slot} (hP : va_P (dC, dI) vwCl ((mW cI ad) M) H) (hS : va_S A s.heap H locs) (hl : lv_has ls 5 [(0, .ref (ad 25)), (1, .int a1), (2, .int a2)]) : W p l e (rmL 8 0 0) s m args below meth c H locs 0 0 Q (F0 m 0 ls []) := by
  have hx := X.hx
  have hb := X.hb
  have hown := X.hown
  have hts := X.hts
  rw [fX11_grainWithChange_0] at hf
  refine lv_aload_n hx hb dX11_grainWithChange_0 rfl (lv_at hl 0 rfl) ?_
  refine lv_iload_n hx hb dX11_grainWithChange_1 rfl (lv_at hl 1 rfl) ?_
  refine lv_bipush (v := 9) hx hb dX11_grainWithChange_2 (by decide) ?_
  obtain ⟨q, hc, hf⟩ := bd hf
  refine gCallVI X hDA rfl (vX11_ofSack hc) gRX11_X11_ofSack hdX11_ofSack rfl ⟨by decide, by decide⟩ hP hS (k0 := 0) (ci := 15) rfl rfl hl.1 (Nat.le_of_ble_eq_true rfl) ⟨Nat.le_refl _, Nat.le_refl _⟩ dX11_grainWithChange_4 (As := [.int a1, .int 9]) (rest := []) rfl (fun H locs hP hS => ?_)
  exact kX11_grainWithChange_7 X hDA hret hf hP hS (lv_sub hl [0, 1, 2] rfl)
theorem vX11_grainWithChange {l : Launch} {dC : Nat → ClassId} {dI : Nat → Nat → Nat} {cI : ClassId} {ad : Nat → Nat} {M S1 : MS} {r : Int32} {a1 : Int32} {a2 : Int32} (hf : fX11_grainWithChange M a1 a2 = some (r, S1)) : gMetI l yX11_grainWithChange cX11_grainWithChange 5 (some .int) 8 (dC, dI) [(cI, .int)] (mW cI ad) [.ref (ad 25), .int a1, .int a2] M r S1 := gEntryI (ty := .int) (by decide) rfl rfl mW_fix (Nat.le_of_ble_eq_true rfl) (fun p e s m args below meth c A Q ls X hDA hP hS hret hl => 
  kX11_grainWithChange_0 X hDA hret hf hP hS (lv_sub hl [0, 1, 2] rfl))
set_option maxRecDepth 10000 in
theorem kX11_bestFlapToChange_69  {r : Int32} {S1 : MS} {M : MS} {x2 : Int32} (X : gX p s m args c cX11_bestFlapToChange 6 RX11 (dC, dI) [(cI, .int)] A) (hDA : ∀ S, va_D A ((mW cI ad) S)) (hret : gRetI p l e (rmL 9 0 0) s m args below meth c cX11_bestFlapToChange (dC, dI) A (mW cI ad) Q r S1) (hf : fX11_bestFlapToChange_69 M x2 = some (r, S1)) {H : Heap} {locs : List Loc} {ls : Array Slot} (hP : va_P (dC, dI) vwCl ((mW cI ad) M) H) (hS : va_S A s.heap H locs) (hl : lv_has ls 6 [(0, .ref (ad 25)), (2, .int x2)]) : W p l e (rmL 9 0 0) s m args below meth c H locs 0 0 Q (F0 m 69 ls []) := by
  have hx := X.hx
  have hb := X.hb
  have hown := X.hown
  have hts := X.hts
  rw [fX11_bestFlapToChange_69] at hf
  refine lv_iload_n hx hb dX11_bestFlapToChange_69 rfl (lv_at hl 1 rfl) ?_
  cases hf
  exact hret _ _ _ _ dX11_bestFlapToChange_70 hP hS
set_option maxRecDepth 10000 in
theorem kX11_bestFlapToChange_56  {r : Int32} {S1 : MS} {K27 : MS → Int32 → Int32 → Int32 → Int32 → Option (Int32 × MS)} {M : MS} {x1 : Int32} {x2 : Int32} {x3 : Int32} {x4 : Int32} {x5 : Int32} (X : gX p s m args c cX11_bestFlapToChange 6 RX11 (dC, dI) [(cI, .int)] A) (hDA : ∀ S, va_D A ((mW cI ad) S)) (hret : gRetI p l e (rmL 9 0 0) s m args below meth c cX11_bestFlapToChange (dC, dI) A (mW cI ad) Q r S1) (hK27 : ∀ (M : MS) (x1 : Int32) (x2 : Int32) (x3 : Int32) (x4 : Int32) (H : Heap) (locs : List Loc) (ls : Array Slot), K27 M x1 x2 x3 x4 = some (r, S1) → va_P (dC, dI) vwCl ((mW cI ad) M) H → va_S A s.heap H locs → lv_has ls 6 [(0, .ref (ad 25)), (1, .int x1), (2, .int x2), (3, .int x3), (4, .int x4)] → W p l e (rmL 9 0 0) s m args below meth c H locs 0 0 Q (F0 m 27 ls [])) (hf : fX11_bestFlapToChange_56 K27 M x1 x2 x3 x4 x5 = some (r, S1)) {H : Heap} {locs : List Loc} {ls : Array Slot} (hP : va_P (dC, dI) vwCl ((mW cI ad) M) H) (hS : va_S A s.heap H locs) (hl : lv_has ls 6 [(0, .ref (ad 25)), (1, .int x1), (2, .int x2), (3, .int x3), (4, .int x4), (5, .int x5)]) : W p l e (rmL 9 0 0) s m args below meth c H locs 0 0 Q (F0 m 56 ls []) := by
  have hx := X.hx
  have hb := X.hb
  have hown := X.hown
  have hts := X.hts
  rw [fX11_bestFlapToChange_56] at hf
  refine lv_iload_n hx hb dX11_bestFlapToChange_56 rfl (lv_at hl 3 rfl) ?_
  refine lv_iload hx hb dX11_bestFlapToChange_57 (lv_at hl 5 rfl) ?_
  refine gMax X rfl tw1950 tw574 tw24 tw575 (by decide) hl.1 (Nat.le_of_ble_eq_true rfl) ⟨Nat.zero_le _, Nat.zero_le _⟩ dX11_bestFlapToChange_59 ?_
  refine lv_istore_n (lv' := [(3, .int (if x3 < x5 then x5 else x3)), (0, .ref (ad 25)), (1, .int x1), (2, .int x2), (4, .int x4), (5, .int x5)]) hx hb dX11_bestFlapToChange_62 rfl hl (by decide) rfl (fun ls hl => ?_)
  refine lv_iinc (v := (x4 + 1)) (lv' := [(4, .int (x4 + 1)), (3, .int (if x3 < x5 then x5 else x3)), (0, .ref (ad 25)), (1, .int x1), (2, .int x2), (5, .int x5)]) hx hb dX11_bestFlapToChange_63 hl (k := 4) rfl (by rfl) (by decide) rfl (fun ls hl => ?_)
  refine lv_goto (tgt := 27) hx hb dX11_bestFlapToChange_66 (by decide) ?_
  exact hK27 _ _ _ _ _ _ _ _ hf hP hS (lv_sub hl [2, 3, 4, 1, 0] rfl)
set_option maxRecDepth 10000 in
theorem kX11_bestFlapToChange_53  {r : Int32} {S1 : MS} {K27 : MS → Int32 → Int32 → Int32 → Int32 → Option (Int32 × MS)} {M : MS} {x1 : Int32} {x3 : Int32} {x4 : Int32} {x5 : Int32} (X : gX p s m args c cX11_bestFlapToChange 6 RX11 (dC, dI) [(cI, .int)] A) (hDA : ∀ S, va_D A ((mW cI ad) S)) (hret : gRetI p l e (rmL 9 0 0) s m args below meth c cX11_bestFlapToChange (dC, dI) A (mW cI ad) Q r S1) (hK27 : ∀ (M : MS) (x1 : Int32) (x2 : Int32) (x3 : Int32) (x4 : Int32) (H : Heap) (locs : List Loc) (ls : Array Slot), K27 M x1 x2 x3 x4 = some (r, S1) → va_P (dC, dI) vwCl ((mW cI ad) M) H → va_S A s.heap H locs → lv_has ls 6 [(0, .ref (ad 25)), (1, .int x1), (2, .int x2), (3, .int x3), (4, .int x4)] → W p l e (rmL 9 0 0) s m args below meth c H locs 0 0 Q (F0 m 27 ls [])) (hf : fX11_bestFlapToChange_53 K27 M x1 x3 x4 x5 = some (r, S1)) {H : Heap} {locs : List Loc} {ls : Array Slot} (hP : va_P (dC, dI) vwCl ((mW cI ad) M) H) (hS : va_S A s.heap H locs) (hl : lv_has ls 6 [(0, .ref (ad 25)), (1, .int x1), (3, .int x3), (4, .int x4), (5, .int x5)]) : W p l e (rmL 9 0 0) s m args below meth c H locs 0 0 Q (F0 m 53 ls []) := by
  have hx := X.hx
  have hb := X.hb
  have hown := X.hown
  have hts := X.hts
  rw [fX11_bestFlapToChange_53] at hf
  refine lv_iload hx hb dX11_bestFlapToChange_53 (lv_at hl 3 rfl) ?_
  refine lv_istore_n (lv' := [(2, .int x4), (0, .ref (ad 25)), (1, .int x1), (3, .int x3), (4, .int x4), (5, .int x5)]) hx hb dX11_bestFlapToChange_55 rfl hl (by decide) rfl (fun ls hl => ?_)
  exact kX11_bestFlapToChange_56 X hDA hret hK27 hf hP hS (lv_sub hl [1, 2, 0, 3, 4, 5] rfl)
set_option maxRecDepth 10000 in
theorem kX11_bestFlapToChange_45  {r : Int32} {S1 : MS} {K27 : MS → Int32 → Int32 → Int32 → Int32 → Option (Int32 × MS)} {M : MS} {x1 : Int32} {x2 : Int32} {x3 : Int32} {x4 : Int32} {s0 : Int32} (X : gX p s m args c cX11_bestFlapToChange 6 RX11 (dC, dI) [(cI, .int)] A) (hDA : ∀ S, va_D A ((mW cI ad) S)) (hret : gRetI p l e (rmL 9 0 0) s m args below meth c cX11_bestFlapToChange (dC, dI) A (mW cI ad) Q r S1) (hK27 : ∀ (M : MS) (x1 : Int32) (x2 : Int32) (x3 : Int32) (x4 : Int32) (H : Heap) (locs : List Loc) (ls : Array Slot), K27 M x1 x2 x3 x4 = some (r, S1) → va_P (dC, dI) vwCl ((mW cI ad) M) H → va_S A s.heap H locs → lv_has ls 6 [(0, .ref (ad 25)), (1, .int x1), (2, .int x2), (3, .int x3), (4, .int x4)] → W p l e (rmL 9 0 0) s m args below meth c H locs 0 0 Q (F0 m 27 ls [])) (hf : fX11_bestFlapToChange_45 K27 M x1 x2 x3 x4 s0 = some (r, S1)) {H : Heap} {locs : List Loc} {ls : Array Slot} (hP : va_P (dC, dI) vwCl ((mW cI ad) M) H) (hS : va_S A s.heap H locs) (hl : lv_has ls 6 [(0, .ref (ad 25)), (1, .int x1), (2, .int x2), (3, .int x3), (4, .int x4)]) : W p l e (rmL 9 0 0) s m args below meth c H locs 0 0 Q (F0 m 45 ls [.int s0]) := by
  have hx := X.hx
  have hb := X.hb
  have hown := X.hown
  have hts := X.hts
  rw [fX11_bestFlapToChange_45] at hf
  refine lv_istore (lv' := [(5, .int s0), (0, .ref (ad 25)), (1, .int x1), (2, .int x2), (3, .int x3), (4, .int x4)]) hx hb dX11_bestFlapToChange_45 hl (by decide) rfl (fun ls hl => ?_)
  refine lv_iload hx hb dX11_bestFlapToChange_47 (lv_at hl 0 rfl) ?_
  refine lv_iload_n hx hb dX11_bestFlapToChange_49 rfl (lv_at hl 4 rfl) ?_
  refine lv_icmp_le (tgt := 56) hx hb dX11_bestFlapToChange_50 (by decide) (fun c1 => ?_) (fun c1 => ?_)
  · exact kX11_bestFlapToChange_56 X hDA hret hK27 (ifp c1 hf) hP hS (lv_sub hl [1, 2, 3, 4, 5, 0] rfl)
  · exact kX11_bestFlapToChange_53 X hDA hret hK27 (ifn c1 hf) hP hS (lv_sub hl [1, 2, 4, 5, 0] rfl)
set_option maxRecDepth 10000 in
theorem kX11_bestFlapToChange_38  {r : Int32} {S1 : MS} {K27 : MS → Int32 → Int32 → Int32 → Int32 → Option (Int32 × MS)} {M : MS} {x1 : Int32} {x2 : Int32} {x3 : Int32} {x4 : Int32} (X : gX p s m args c cX11_bestFlapToChange 6 RX11 (dC, dI) [(cI, .int)] A) (hDA : ∀ S, va_D A ((mW cI ad) S)) (hret : gRetI p l e (rmL 9 0 0) s m args below meth c cX11_bestFlapToChange (dC, dI) A (mW cI ad) Q r S1) (hK27 : ∀ (M : MS) (x1 : Int32) (x2 : Int32) (x3 : Int32) (x4 : Int32) (H : Heap) (locs : List Loc) (ls : Array Slot), K27 M x1 x2 x3 x4 = some (r, S1) → va_P (dC, dI) vwCl ((mW cI ad) M) H → va_S A s.heap H locs → lv_has ls 6 [(0, .ref (ad 25)), (1, .int x1), (2, .int x2), (3, .int x3), (4, .int x4)] → W p l e (rmL 9 0 0) s m args below meth c H locs 0 0 Q (F0 m 27 ls [])) (hf : fX11_bestFlapToChange_38 K27 M x1 x2 x3 x4 = some (r, S1)) {H : Heap} {locs : List Loc} {ls : Array Slot} (hP : va_P (dC, dI) vwCl ((mW cI ad) M) H) (hS : va_S A s.heap H locs) (hl : lv_has ls 6 [(0, .ref (ad 25)), (1, .int x1), (2, .int x2), (3, .int x3), (4, .int x4)]) : W p l e (rmL 9 0 0) s m args below meth c H locs 0 0 Q (F0 m 38 ls []) := by
  have hx := X.hx
  have hb := X.hb
  have hown := X.hown
  have hts := X.hts
  rw [fX11_bestFlapToChange_38] at hf
  refine lv_aload_n hx hb dX11_bestFlapToChange_38 rfl (lv_at hl 0 rfl) ?_
  refine lv_iload hx hb dX11_bestFlapToChange_39 (lv_at hl 4 rfl) ?_
  refine lv_iload_n hx hb dX11_bestFlapToChange_41 rfl (lv_at hl 1 rfl) ?_
  obtain ⟨q, hc, hf⟩ := bd hf
  refine gCallVI X hDA rfl (vX11_grainWithChange hc) gRX11_X11_grainWithChange hdX11_grainWithChange rfl ⟨by decide, by decide⟩ hP hS (k0 := 0) (ci := 15) rfl rfl hl.1 (Nat.le_of_ble_eq_true rfl) ⟨Nat.le_refl _, Nat.le_refl _⟩ dX11_bestFlapToChange_42 (As := [.int x4, .int x1]) (rest := []) rfl (fun H locs hP hS => ?_)
  exact kX11_bestFlapToChange_45 X hDA hret hK27 hf hP hS (lv_sub hl [0, 1, 2, 3, 4] rfl)
set_option maxRecDepth 10000 in
theorem kX11_bestFlapToChange_27  {r : Int32} {S1 : MS} (X : gX p s m args c cX11_bestFlapToChange 6 RX11 (dC, dI) [(cI, .int)] A) (hDA : ∀ S, va_D A ((mW cI ad) S)) (hret : gRetI p l e (rmL 9 0 0) s m args below meth c cX11_bestFlapToChange (dC, dI) A (mW cI ad) Q r S1)  : ∀ (n : Nat) (M : MS) (x1 : Int32) (x2 : Int32) (x3 : Int32) (x4 : Int32) (H : Heap) (locs : List Loc) (ls : Array Slot), fX11_bestFlapToChange_27 n M x1 x2 x3 x4 = some (r, S1) → va_P (dC, dI) vwCl ((mW cI ad) M) H → va_S A s.heap H locs → lv_has ls 6 [(0, .ref (ad 25)), (1, .int x1), (2, .int x2), (3, .int x3), (4, .int x4)] → W p l e (rmL 9 0 0) s m args below meth c H locs 0 0 Q (F0 m 27 ls []) := by
  intro n
  induction n with
  | zero => intro M x1 x2 x3 x4 H locs ls hf; cases hf
  | succ k ih =>
    intro M x1 x2 x3 x4 H locs ls hf hP hS hl
    have hx := X.hx
    have hb := X.hb
    have hown := X.hown
    have hts := X.hts
    rw [fX11_bestFlapToChange_27] at hf
    try dsimp only at hf
    refine lv_iload hx hb dX11_bestFlapToChange_27 (lv_at hl 4 rfl) ?_
    refine lv_aload_n hx hb dX11_bestFlapToChange_29 rfl (lv_at hl 0 rfl) ?_
    refine mr_get (k := 0) X hP (by decide) rfl rfl tw1665 dX11_bestFlapToChange_30 ?_
    refine lv_iconst (v := 1) hx hb dX11_bestFlapToChange_33 (by decide) ?_
    obtain ⟨g1, hf⟩ := gd hf
    refine mr_ald (a := 0) X hP rfl g1 dX11_bestFlapToChange_34 ?_
    refine lv_icmp_ge (tgt := 69) hx hb dX11_bestFlapToChange_35 (by decide) (fun c1 => ?_) (fun c1 => ?_)
    · exact kX11_bestFlapToChange_69 X hDA hret (ifp c1 hf) hP hS (lv_sub hl [0, 2] rfl)
    · exact kX11_bestFlapToChange_38 X hDA hret ih (ifn c1 hf) hP hS (lv_sub hl [0, 1, 2, 3, 4] rfl)
set_option maxRecDepth 10000 in
theorem kX11_bestFlapToChange_23  {r : Int32} {S1 : MS} {M : MS} {x1 : Int32} {x2 : Int32} {s0 : Int32} (X : gX p s m args c cX11_bestFlapToChange 6 RX11 (dC, dI) [(cI, .int)] A) (hDA : ∀ S, va_D A ((mW cI ad) S)) (hret : gRetI p l e (rmL 9 0 0) s m args below meth c cX11_bestFlapToChange (dC, dI) A (mW cI ad) Q r S1) (hf : fX11_bestFlapToChange_23 M x1 x2 s0 = some (r, S1)) {H : Heap} {locs : List Loc} {ls : Array Slot} (hP : va_P (dC, dI) vwCl ((mW cI ad) M) H) (hS : va_S A s.heap H locs) (hl : lv_has ls 6 [(0, .ref (ad 25)), (1, .int x1), (2, .int x2)]) : W p l e (rmL 9 0 0) s m args below meth c H locs 0 0 Q (F0 m 23 ls [.int s0]) := by
  have hx := X.hx
  have hb := X.hb
  have hown := X.hown
  have hts := X.hts
  rw [fX11_bestFlapToChange_23] at hf
  refine lv_istore_n (lv' := [(3, .int s0), (0, .ref (ad 25)), (1, .int x1), (2, .int x2)]) hx hb dX11_bestFlapToChange_23 rfl hl (by decide) rfl (fun ls hl => ?_)
  refine lv_iconst (v := 0) hx hb dX11_bestFlapToChange_24 (by decide) ?_
  refine lv_istore (lv' := [(4, .int 0), (3, .int s0), (0, .ref (ad 25)), (1, .int x1), (2, .int x2)]) hx hb dX11_bestFlapToChange_25 hl (by decide) rfl (fun ls hl => ?_)
  exact kX11_bestFlapToChange_27 X hDA hret FU _ _ _ _ _ _ _ _ hf hP hS (lv_sub hl [2, 3, 4, 1, 0] rfl)
set_option maxRecDepth 10000 in
theorem kX11_bestFlapToChange_16  {r : Int32} {S1 : MS} {M : MS} {x1 : Int32} (X : gX p s m args c cX11_bestFlapToChange 6 RX11 (dC, dI) [(cI, .int)] A) (hDA : ∀ S, va_D A ((mW cI ad) S)) (hret : gRetI p l e (rmL 9 0 0) s m args below meth c cX11_bestFlapToChange (dC, dI) A (mW cI ad) Q r S1) (hf : fX11_bestFlapToChange_16 M x1 = some (r, S1)) {H : Heap} {locs : List Loc} {ls : Array Slot} (hP : va_P (dC, dI) vwCl ((mW cI ad) M) H) (hS : va_S A s.heap H locs) (hl : lv_has ls 6 [(0, .ref (ad 25)), (1, .int x1)]) : W p l e (rmL 9 0 0) s m args below meth c H locs 0 0 Q (F0 m 16 ls []) := by
  have hx := X.hx
  have hb := X.hb
  have hown := X.hown
  have hts := X.hts
  rw [fX11_bestFlapToChange_16] at hf
  refine lv_iconst (v := (-1)) hx hb dX11_bestFlapToChange_16 (by decide) ?_
  refine lv_istore_n (lv' := [(2, .int (-1)), (0, .ref (ad 25)), (1, .int x1)]) hx hb dX11_bestFlapToChange_17 rfl hl (by decide) rfl (fun ls hl => ?_)
  refine lv_aload_n hx hb dX11_bestFlapToChange_18 rfl (lv_at hl 1 rfl) ?_
  refine lv_iload_n hx hb dX11_bestFlapToChange_19 rfl (lv_at hl 2 rfl) ?_
  obtain ⟨q, hc, hf⟩ := bd hf
  refine gCallVI X hDA rfl (vX11_allGrainAfter hc) gRX11_X11_allGrainAfter hdX11_allGrainAfter rfl ⟨by decide, by decide⟩ hP hS (k0 := 0) (ci := 15) rfl rfl hl.1 (Nat.le_of_ble_eq_true rfl) ⟨Nat.le_refl _, Nat.le_refl _⟩ dX11_bestFlapToChange_20 (As := [.int x1]) (rest := []) rfl (fun H locs hP hS => ?_)
  exact kX11_bestFlapToChange_23 X hDA hret hf hP hS (lv_sub hl [1, 2, 0] rfl)
set_option maxRecDepth 10000 in
theorem kX11_bestFlapToChange_14  {r : Int32} {S1 : MS} {M : MS} (X : gX p s m args c cX11_bestFlapToChange 6 RX11 (dC, dI) [(cI, .int)] A) (hDA : ∀ S, va_D A ((mW cI ad) S)) (hret : gRetI p l e (rmL 9 0 0) s m args below meth c cX11_bestFlapToChange (dC, dI) A (mW cI ad) Q r S1) (hf : fX11_bestFlapToChange_14 M = some (r, S1)) {H : Heap} {locs : List Loc} {ls : Array Slot} (hP : va_P (dC, dI) vwCl ((mW cI ad) M) H) (hS : va_S A s.heap H locs) (hl : lv_has ls 6 [(0, .ref (ad 25))]) : W p l e (rmL 9 0 0) s m args below meth c H locs 0 0 Q (F0 m 14 ls []) := by
  have hx := X.hx
  have hb := X.hb
  have hown := X.hown
  have hts := X.hts
  rw [fX11_bestFlapToChange_14] at hf
  refine lv_iconst (v := 0) hx hb dX11_bestFlapToChange_14 (by decide) ?_
  cases hf
  exact hret _ _ _ _ dX11_bestFlapToChange_15 hP hS
set_option maxRecDepth 10000 in
theorem kX11_bestFlapToChange_11  {r : Int32} {S1 : MS} {M : MS} {x1 : Int32} {s0 : Int32} (X : gX p s m args c cX11_bestFlapToChange 6 RX11 (dC, dI) [(cI, .int)] A) (hDA : ∀ S, va_D A ((mW cI ad) S)) (hret : gRetI p l e (rmL 9 0 0) s m args below meth c cX11_bestFlapToChange (dC, dI) A (mW cI ad) Q r S1) (hf : fX11_bestFlapToChange_11 M x1 s0 = some (r, S1)) {H : Heap} {locs : List Loc} {ls : Array Slot} (hP : va_P (dC, dI) vwCl ((mW cI ad) M) H) (hS : va_S A s.heap H locs) (hl : lv_has ls 6 [(0, .ref (ad 25)), (1, .int x1)]) : W p l e (rmL 9 0 0) s m args below meth c H locs 0 0 Q (F0 m 11 ls [.int s0]) := by
  have hx := X.hx
  have hb := X.hb
  have hown := X.hown
  have hts := X.hts
  rw [fX11_bestFlapToChange_11] at hf
  refine lv_if_eq (tgt := 16) hx hb dX11_bestFlapToChange_11 (by decide) (fun c1 => ?_) (fun c1 => ?_)
  · exact kX11_bestFlapToChange_16 X hDA hret (ifp c1 hf) hP hS (lv_sub hl [0, 1] rfl)
  · exact kX11_bestFlapToChange_14 X hDA hret (ifn c1 hf) hP hS (lv_sub hl [0] rfl)
set_option maxRecDepth 10000 in
theorem kX11_bestFlapToChange_5  {r : Int32} {S1 : MS} {M : MS} {x1 : Int32} (X : gX p s m args c cX11_bestFlapToChange 6 RX11 (dC, dI) [(cI, .int)] A) (hDA : ∀ S, va_D A ((mW cI ad) S)) (hret : gRetI p l e (rmL 9 0 0) s m args below meth c cX11_bestFlapToChange (dC, dI) A (mW cI ad) Q r S1) (hf : fX11_bestFlapToChange_5 M x1 = some (r, S1)) {H : Heap} {locs : List Loc} {ls : Array Slot} (hP : va_P (dC, dI) vwCl ((mW cI ad) M) H) (hS : va_S A s.heap H locs) (hl : lv_has ls 6 [(0, .ref (ad 25)), (1, .int x1)]) : W p l e (rmL 9 0 0) s m args below meth c H locs 0 0 Q (F0 m 5 ls []) := by
  have hx := X.hx
  have hb := X.hb
  have hown := X.hown
  have hts := X.hts
  rw [fX11_bestFlapToChange_5] at hf
  refine lv_aload_n hx hb dX11_bestFlapToChange_5 rfl (lv_at hl 0 rfl) ?_
  refine lv_iload_n hx hb dX11_bestFlapToChange_6 rfl (lv_at hl 1 rfl) ?_
  refine lv_iconst (v := 1) hx hb dX11_bestFlapToChange_7 (by decide) ?_
  obtain ⟨q, hc, hf⟩ := bd hf
  refine gCallVI X hDA rfl (vX11_noHours hc) gRX11_X11_noHours hdX11_noHours rfl ⟨by decide, by decide⟩ hP hS (k0 := 0) (ci := 15) rfl rfl hl.1 (Nat.le_of_ble_eq_true rfl) ⟨Nat.le_refl _, Nat.le_refl _⟩ dX11_bestFlapToChange_8 (As := [.int x1, .int 1]) (rest := []) rfl (fun H locs hP hS => ?_)
  exact kX11_bestFlapToChange_11 X hDA hret hf hP hS (lv_sub hl [0, 1] rfl)
set_option maxRecDepth 10000 in
theorem kX11_bestFlapToChange_0  {r : Int32} {S1 : MS} {M : MS} {a1 : Int32} (X : gX p s m args c cX11_bestFlapToChange 6 RX11 (dC, dI) [(cI, .int)] A) (hDA : ∀ S, va_D A ((mW cI ad) S)) (hret : gRetI p l e (rmL 9 0 0) s m args below meth c cX11_bestFlapToChange (dC, dI) A (mW cI ad) Q r S1) (hf : fX11_bestFlapToChange_0 M a1 = some (r, S1)) {H : Heap} {locs : List Loc} {ls : Array Slot} (hP : va_P (dC, dI) vwCl ((mW cI ad) M) H) (hS : va_S A s.heap H locs) (hl : lv_has ls 6 [(0, .ref (ad 25)), (1, .int a1)]) : W p l e (rmL 9 0 0) s m args below meth c H locs 0 0 Q (F0 m 0 ls []) := by
  have hx := X.hx
  have hb := X.hb
  have hown := X.hown
  have hts := X.hts
  rw [fX11_bestFlapToChange_0] at hf
  refine lv_aload_n hx hb dX11_bestFlapToChange_0 rfl (lv_at hl 0 rfl) ?_
  refine lv_iconst (v := 0) hx hb dX11_bestFlapToChange_1 (by decide) ?_
  refine mr_put (k := 7) X hDA hP hS (by decide) rfl rfl rfl rfl tw1672 dX11_bestFlapToChange_2 (fun H locs hP hS => ?_)
  exact kX11_bestFlapToChange_5 X hDA hret hf hP hS (lv_sub hl [0, 1] rfl)
theorem vX11_bestFlapToChange {l : Launch} {dC : Nat → ClassId} {dI : Nat → Nat → Nat} {cI : ClassId} {ad : Nat → Nat} {M S1 : MS} {r : Int32} {a1 : Int32} (hf : fX11_bestFlapToChange M a1 = some (r, S1)) : gMetI l yX11_bestFlapToChange cX11_bestFlapToChange 6 (some .int) 9 (dC, dI) [(cI, .int)] (mW cI ad) [.ref (ad 25), .int a1] M r S1 := gEntryI (ty := .int) (by decide) rfl rfl mW_fix (Nat.le_of_ble_eq_true rfl) (fun p e s m args below meth c A Q ls X hDA hP hS hret hl => 
  kX11_bestFlapToChange_0 X hDA hret hf hP hS (lv_sub hl [0, 1] rfl))
