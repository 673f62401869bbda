
/-! out of the growing world: the law's own world, the text -/
section KFIN
variable {dC : Nat → ClassId} {dI : Nat → Nat → Nat} {cg : Nat → ClassId} {kA : String → Nat → Nat} {b1 b2 bs eA L : Nat} {xs : Nat → Int32} {iA : Nat → Nat} {s : State} {H : Heap}
variable {t : List Int32} {gfs : List Value} {kk ar : Nat → Nat} {el : Nat → Nat → Nat} {kc ks : Nat} {pC pS : Nat → Nat} {cR sR : Nat → List Value} {X : NW}
theorem Inv.cong {cR' : Nat → List Value} (h : Inv cg bs eA t gfs kk ar el kc pC cR ks pS sR X) (hc : ∀ j, j < kc → cR j = cR' j) : Inv cg bs eA t gfs kk ar el kc pC cR' ks pS sR X := by
  obtain ⟨h0, h1, h2, h3, h4, h5⟩ := h
  exact ⟨h0, h1, h2, h3, fun j hj => by rw [← hc j hj]; exact h4 j hj, h5⟩
theorem SBI.ascT {p0 : Nat} (h : SBI cg bs p0 t X) : ∀ x ∈ t, ∃ q : Fin 128, x = Int32.ofNat q.val := by
  obtain ⟨k0, N, f, mb, he, hk, ha, hN, hf⟩ := h
  intro x hx
  obtain ⟨j, hj, e⟩ := List.getElem_of_mem hx
  have h1 := hf j hj
  rw [List.getD_eq_getElem?_getD, List.getElem?_eq_getElem hj, e] at h1
  have h1 : f j = x := h1
  rw [← h1]
  exact ha j
/-- a text that stands in the growing world -/
theorem nP.str {args : Array Value} {a v n : Nat} {w : Nat → va_E} {f : Nat → Int32} {Ω : Nat → Prop} (hts : ∀ w ∈ TBG, w.before args s = true) (hP : nP dC dI cg kA bs (n, w) s H) (hs : a < n ∧ w a = .inr (0, [.ref (bs + v), .int 0, .int 0, .int 0])) (hv : v < n ∧ w v = byV cg t.length f) (ha : ∀ x ∈ t, ∃ q : Fin 128, x = Int32.ofNat q.val) (ht : t.length < 2 ^ 31) (hf : ∀ j, j < t.length → f j = t.getD j 0) (h1 : ¬ Ω (bs + a)) (h2 : ¬ Ω (bs + v)) : strAt (bs + a) t Ω s H := by
  have hK := hP.2.2.1
  have r1 := hP.row hs
  have r2 : H[bs + v]? = some (vp_cell (cg 1) (t.length, .inl f)) := hP.row hv
  have t0 : ArrOfT s (cg 1) .byte := (hK.2 1 (cg 1, .byte) rfl).1
  refine ⟨ha, ht, bs + v, at_O hK r1 rfl h1, at_OF (k := 1) hts cinJ0 hK r1 rfl (by decide) rfl h1, at_OF (k := 0) hts cinJ0 hK r1 rfl (by decide) rfl h1, ?_⟩
  refine ⟨_, r2, t0 t.length _, (by intro z; cases z), ?_, ?_, fun j hj => ?_, h2⟩
  · show t.length ≤ (arrV (cg 1) t.length _).slots.size
    rw [arrV_size]; exact Nat.le_refl _
  · show (arrV (cg 1) t.length _).slots.size.toInt32 = _
    rw [arrV_size]
  · show (arrV (cg 1) t.length _).slots[j]? = _
    rw [arrV_read _ _ hj, hf j hj]
def poP (ar pC pS : Nat → Nat) (p : Nat) : Nat := if p < 5 then p else if p < 9 then ar (p - 4) else if p < 13 then pC (p - 9) else pS (p - 13)
def laP (bs : Nat) (ar pC pS : Nat → Nat) (p : Nat) : Nat := bs + poP ar pC pS p
def catF (L : Nat) (xs : Nat → Int32) (c : Nat) : List Value := [.int (nI c), .int (nI (dSp L xs c)), .int 0, .int 0, .int (if c = dCc L xs 0 then 1 else 0), .int (dLf L xs c), .int 0]
def vL (L : Nat) (xs : Nat → Int32) : Nat → Int32 := fun q =>
  if q < 65 then (if q = 3 then nI (dHk L xs) else if q = 4 then nI (dMl L xs) else if q = 5 then nI (dCc L xs 0) else if q = 7 then nI (dHr L xs 0) else if q = 12 then 1 else 0)
  else if q < 161 then (if (q - 65) % 12 = 7 then nI (dSp L xs ((q - 65) / 12)) else if (q - 65) % 12 = 11 then (if (q - 65) / 12 = dCc L xs 0 then 1 else 0) else 0)
  else (if (q - 161) % 12 = 7 then nI (dGr L xs ((q - 161) / 12)) else if (q - 161) % 12 = 8 then nI (dMi L xs ((q - 161) / 12)) else if (q - 161) % 12 = 9 then dOp L xs ((q - 161) / 12) else 0)
def hL0 (L : Nat) (xs : Nat → Int32) : Nat → Int32 := fun q => if q < 4 then 0 else dLf L xs (q - 4)
theorem vL_c {c f : Nat} (hc : c < 4) (hf : f < 12) : vL L xs (65 + 12 * c + f) = if f = 7 then nI (dSp L xs c) else if f = 11 then (if c = dCc L xs 0 then 1 else 0) else 0 := by
  unfold vL
  rw [if_neg (by omega), if_pos (by omega), show (65 + 12 * c + f - 65) % 12 = f by omega, show (65 + 12 * c + f - 65) / 12 = c by omega]
theorem vL_s {k f : Nat} (hf : f < 12) : vL L xs (161 + 12 * k + f) = if f = 7 then nI (dGr L xs k) else if f = 8 then nI (dMi L xs k) else if f = 9 then dOp L xs k else 0 := by
  unfold vL
  rw [if_neg (by omega), if_neg (by omega), show (161 + 12 * k + f - 161) % 12 = f by omega, show (161 + 12 * k + f - 161) / 12 = k by omega]
theorem dNc_b : 1 ≤ dNc L xs ∧ dNc L xs ≤ 4 := by
  have := (bN_2 (x := cellV L xs 0) (a := 0)).1
  unfold dNc
  omega
theorem dNs_b : 1 ≤ dNs L xs ∧ dNs L xs ≤ 4 := by
  have := (bN_2 (x := cellV L xs 0) (a := 2)).1
  unfold dNs
  omega
theorem dNh_b : 1 ≤ dNh L xs ∧ dNh L xs ≤ 8 := by
  have := (bN_3 (x := cellV L xs 0) (a := 4)).1
  unfold dNh
  omega
theorem vL_WL : WL (dNc L xs) (dNs L xs) (dMl L xs) (dHk L xs) (dSp L xs) (dGr L xs) (dMi L xs) (dCc L xs) (dHr L xs) (dOp L xs) (vL L xs) := by
  refine ⟨⟨rfl, rfl, rfl, rfl, rfl⟩, ⟨rfl, rfl, rfl, rfl, rfl, rfl⟩, fun c hc => ?_, fun k hk => ?_⟩
  · have h4 : c < 4 := Nat.lt_of_lt_of_le hc (dNc_b (L := L) (xs := xs)).2
    rw [vL_c h4 (by omega), vL_c h4 (by omega), vL_c h4 (by omega), vL_c h4 (by omega)]
    exact ⟨rfl, rfl, rfl, rfl⟩
  · rw [vL_s (by omega), vL_s (by omega), vL_s (by omega), vL_s (by omega)]
    exact ⟨rfl, rfl, rfl, rfl⟩
theorem laP_l {p : Nat} (h : p < 5) : laP bs ar pC pS p = bs + p := by
  unfold laP poP
  rw [if_pos h]
theorem laP_a {d : Nat} (h : 1 ≤ d ∧ d ≤ 4) : laP bs ar pC pS (d + 4) = bs + ar d := by
  unfold laP poP
  rw [if_neg (by omega), if_pos (by omega), Nat.add_sub_cancel]
theorem laP_c {c : Nat} (h : c < 4) : laP bs ar pC pS (9 + c) = bs + pC c := by
  unfold laP poP
  rw [if_neg (by omega), if_neg (by omega), if_pos (by omega), Nat.add_sub_cancel_left]
theorem laP_s {k : Nat} : laP bs ar pC pS (13 + k) = bs + pS k := by
  unfold laP poP
  rw [if_neg (by omega), if_neg (by omega), if_neg (by omega), Nat.add_sub_cancel_left]
def kdR : va_E → Nat
  | .inr x => x.1
  | .inl _ => 100
theorem kdR_l {la : Nat → Nat} {C : LC} {p : Nat} {Y : XL} : kdR (lRow cg la iA C p Y) = if p = 0 then 17 else if p < 5 then 4 else if p < 9 then 100 else if p < 13 then 16 else 18 := by
  unfold lRow
  repeat' split
  all_goals rfl
/-- the rows of the law's own world stand -/
theorem Inv.rows (hI : Inv cg bs eA t (grR bs (.ref (bs + pC (dCc L xs 0))) (nI (dHk L xs)) (nI (dMl L xs)) (nI (dHr L xs 0)) 1) kk ar el (dNc L xs) pC (catF L xs) (dNs L xs) pS (sackR L xs) X) (h1 : kk 1 = dNc L xs) (h2 : kk 2 = dNh L xs) (h3 : kk 3 = dNs L xs) (h4 : kk 4 = dNh L xs) (h5 : ∀ j, j < dNc L xs → el 1 j = bs + pC j) (h6 : ∀ j, j < dNs L xs → el 3 j = bs + pS j) (h7 : ∀ j, j < dNh L xs → el 2 j = bs + pC (dCc L xs j) ∧ el 4 j = iA (dHr L xs j)) : ∀ p, lEx (drC (dNc L xs) (dNs L xs) (dNh L xs) (dCc L xs) (dHr L xs)) p → At X (poP ar pC pS p) (lRow cg (laP bs ar pC pS) iA (drC (dNc L xs) (dNs L xs) (dNh L xs) (dCc L xs) (dHr L xs)) p (vL L xs, hL0 L xs)) := by
  have b1 := dNc_b (L := L) (xs := xs)
  have b2 := dNs_b (L := L) (xs := xs)
  have b3 := dNh_b (L := L) (xs := xs)
  have hcc : ∀ j, dCc L xs j < 4 := fun j => Nat.lt_of_lt_of_le (dCc_b (L := L) (xs := xs) (k := j)) b1.2
  have num : ∀ d, 1 ≤ d ∧ d ≤ 4 → kk d = lNum (drC (dNc L xs) (dNs L xs) (dNh L xs) (dCc L xs) (dHr L xs)) d ∧ 0 < kk d := fun d hd => by
    rcases (show d = 1 ∨ d = 2 ∨ d = 3 ∨ d = 4 by omega) with rfl | rfl | rfl | rfl
    · exact ⟨h1, by omega⟩
    · exact ⟨h2, by omega⟩
    · exact ⟨h3, by omega⟩
    · exact ⟨h4, by omega⟩
  have elm : ∀ d, 1 ≤ d ∧ d ≤ 4 → ∀ j, j < kk d → el d j = lEl (laP bs ar pC pS) iA (drC (dNc L xs) (dNs L xs) (dNh L xs) (dCc L xs) (dHr L xs)) d j := fun d hd j hj => by
    rcases (show d = 1 ∨ d = 2 ∨ d = 3 ∨ d = 4 by omega) with rfl | rfl | rfl | rfl
    · rw [h5 j (by omega)]
      exact (laP_c (by omega)).symm
    · rw [(h7 j (by omega)).1]
      exact (laP_c (hcc j)).symm
    · rw [h6 j (by omega)]
      exact laP_s.symm
    · rw [(h7 j (by omega)).2]
      rfl
  obtain ⟨i0, i1, i2, i3, i4, i5⟩ := hI
  intro p hp
  rcases (show p = 0 ∨ (1 ≤ p ∧ p ≤ 4) ∨ (∃ d, p = d + 4 ∧ 1 ≤ d ∧ d ≤ 4) ∨ (∃ c, p = 9 + c ∧ c < 4 ∧ c < dNc L xs) ∨ (∃ k, p = 13 + k ∧ k < dNs L xs) by
    rcases hp with hp | ⟨q1, q2, q3⟩ | ⟨q1, q2⟩
    · rcases (show p = 0 ∨ (1 ≤ p ∧ p ≤ 4) ∨ (5 ≤ p ∧ p ≤ 8) by omega) with h | h | h
      · exact Or.inl h
      · exact Or.inr (Or.inl h)
      · exact Or.inr (Or.inr (Or.inl ⟨p - 4, by omega, by omega, by omega⟩))
    · have q2 : p < 9 + dNc L xs := q2
      exact Or.inr (Or.inr (Or.inr (Or.inl ⟨p - 9, by omega, by omega, by omega⟩)))
    · have q2 : p < 13 + dNs L xs := q2
      exact Or.inr (Or.inr (Or.inr (Or.inr ⟨p - 13, by omega, by omega⟩)))) with rfl | h | ⟨d, rfl, h⟩ | ⟨c, rfl, h, hc⟩ | ⟨k, rfl, h⟩
  · rw [lR_0]
    have e : lF0 (laP bs ar pC pS) (vL L xs, hL0 L xs) = grR bs (.ref (bs + pC (dCc L xs 0))) (nI (dHk L xs)) (nI (dMl L xs)) (nI (dHr L xs 0)) 1 := by
      unfold lF0
      rw [laP_l (by omega), laP_l (by omega), laP_l (by omega), laP_l (by omega), show (vL L xs, hL0 L xs).1 5 = nI (dCc L xs 0) from rfl, sw_ref (nI_nem (by have := hcc 0; omega)), nI_c (by have := hcc 0; omega), laP_c (hcc 0)]
      rfl
    rw [e]
    exact i0
  · rw [lR_l h]
    have hd := num p h
    obtain ⟨q0, q | ⟨-, -, -, q1, -⟩⟩ := i2 p h.1 h.2
    · omega
    · have e : poP ar pC pS p = p := by
        unfold poP
        rw [if_pos (by omega)]
      rw [e]
      refine ⟨q0, q1.trans ?_⟩
      unfold lFl
      rw [laP_a h, hd.1]
  · rw [lR_a h]
    have hd := num d h
    have q := (i2 d h.1 h.2).arr hd.2
    have e : poP ar pC pS (d + 4) = ar d := by
      unfold poP
      rw [if_neg (by omega), if_pos (by omega), Nat.add_sub_cancel]
    rw [e]
    have e2 : elF (kk d) (el d) = lFa (laP bs ar pC pS) iA (drC (dNc L xs) (dNs L xs) (dNh L xs) (dCc L xs) (dHr L xs)) d := funext fun j => by
      unfold elF lFa
      rw [← hd.1]
      by_cases hj : j < kk d
      · rw [if_pos hj, if_pos hj, elm d h j hj]
      · rw [if_neg hj, if_neg hj]
    rw [← e2]
    exact q
  · rw [lR_c h]
    have e : poP ar pC pS (9 + c) = pC c := by
      unfold poP
      rw [if_neg (by omega), if_neg (by omega), if_pos (by omega), Nat.add_sub_cancel_left]
    rw [e]
    have e2 : lFc c (vL L xs, hL0 L xs) = catF L xs c := by
      unfold lFc
      rw [show (vL L xs, hL0 L xs).1 = vL L xs from rfl, vL_c h (by omega), vL_c h (by omega), vL_c h (by omega), vL_c h (by omega), show (vL L xs, hL0 L xs).2 (4 + c) = dLf L xs c from (if_neg (by omega)).trans (by rw [Nat.add_sub_cancel_left]), show (vL L xs, hL0 L xs).2 c = 0 from if_pos h]
      rfl
    rw [e2]
    exact i4 c hc
  · rw [lR_s]
    have e : poP ar pC pS (13 + k) = pS k := by
      unfold poP
      rw [if_neg (by omega), if_neg (by omega), if_neg (by omega), Nat.add_sub_cancel_left]
    rw [e]
    have e2 : lFs k (vL L xs, hL0 L xs) = sackR L xs k := by
      unfold lFs
      rw [show (vL L xs, hL0 L xs).1 = vL L xs from rfl, vL_s (by omega), vL_s (by omega), vL_s (by omega), vL_s (by omega)]
      rfl
    rw [e2]
    exact i5 k h
/-- the law's own world out of the growing one -/
theorem Inv.toL (h12 : b1 + 433 ≤ b2) (hP : nP dC dI cg kA b2 X s H) (hE : kE kTab kA (nΩ b1) s H) (hi : iP dC dI iA b1 H) (hI : Inv cg b2 eA t (grR b2 (.ref (b2 + pC (dCc L xs 0))) (nI (dHk L xs)) (nI (dMl L xs)) (nI (dHr L xs 0)) 1) kk ar el (dNc L xs) pC (catF L xs) (dNs L xs) pS (sackR L xs) X) (h1 : kk 1 = dNc L xs) (h2 : kk 2 = dNh L xs) (h3 : kk 3 = dNs L xs) (h4 : kk 4 = dNh L xs) (h5 : ∀ j, j < dNc L xs → el 1 j = b2 + pC j) (h6 : ∀ j, j < dNs L xs → el 3 j = b2 + pS j) (h7 : ∀ j, j < dNh L xs → el 2 j = b2 + pC (dCc L xs j) ∧ el 4 j = iA (dHr L xs j)) : lP dC dI cg kA (laP b2 ar pC pS) iA (drC (dNc L xs) (dNs L xs) (dNh L xs) (dCc L xs) (dHr L xs)) b1 (vL L xs, hL0 L xs) s H := by
  have R := hI.rows (iA := iA) h1 h2 h3 h4 h5 h6 h7
  obtain ⟨n, w⟩ := X
  refine ⟨fun p hp => hP.row (R p hp), hP.2.2.1, fun p q hp hq hpq => ?_, hE, fun p hp => (by show b1 ≤ b2 + _; omega), hi⟩
  have hpo : poP ar pC pS p = poP ar pC pS q := Nat.add_left_cancel hpq
  have r1 := R p hp
  have r2 := R q hq
  rw [hpo] at r1
  have hr := r1.2.symm.trans r2.2
  have key := congrArg kdR hr
  rw [kdR_l, kdR_l] at key
  have b1 := dNc_b (L := L) (xs := xs)
  have hA : p < 5 → q < 5 → p = q := fun q1 q2 => by
    unfold poP at hpo
    rw [if_pos q1, if_pos q2] at hpo
    exact hpo
  have hB : ¬ p < 5 → p < 9 → ¬ q < 5 → q < 9 → p = q := fun q1 q2 q3 q4 => by
    unfold poP at hpo
    rw [if_neg q1, if_pos q2, if_neg q3, if_pos q4] at hpo
    have hk : ∀ d, 1 ≤ d → d ≤ 4 → 0 < kk d := fun d d1 d2 => by
      have := dNs_b (L := L) (xs := xs)
      have := dNh_b (L := L) (xs := xs)
      rcases (show d = 1 ∨ d = 2 ∨ d = 3 ∨ d = 4 by omega) with rfl | rfl | rfl | rfl <;> omega
    have := hI.2.2.2.1 (p - 4) (q - 4) (by omega) (by omega) (by omega) (by omega) (hk _ (by omega) (by omega)) (hk _ (by omega) (by omega)) hpo
    omega
  have hCd : ∀ c c', c < 4 → c' < 4 → catF L xs c = catF L xs c' → c = c' := fun c c' q1 q2 z => by
    have z := Value.int.inj (List.cons.inj z).1
    exact (nI_eq (by omega) (by omega)).mp z
  have hC : ¬ p < 9 → p < 13 → ¬ q < 9 → q < 13 → p = q := fun q1 q2 q3 q4 => by
    have hp9 : p - 9 < dNc L xs := by
      rcases hp with hp | ⟨_, z, _⟩ | ⟨z, _⟩
      · omega
      · have z : p < 9 + dNc L xs := z
        omega
      · omega
    have hq9 : q - 9 < dNc L xs := by
      rcases hq with hq | ⟨_, z, _⟩ | ⟨z, _⟩
      · omega
      · have z : q < 9 + dNc L xs := z
        omega
      · omega
    unfold poP at hpo
    rw [if_neg (by omega), if_neg q1, if_pos q2, if_neg (by omega), if_neg q3, if_pos q4] at hpo
    have c1 := hI.2.2.2.2.1 _ hp9
    have c2 := hI.2.2.2.2.1 _ hq9
    rw [hpo] at c1
    have := hCd _ _ (by omega) (by omega) (congrArg Prod.snd (Sum.inr.inj (c1.2.symm.trans c2.2)))
    omega
  have hD : ¬ p < 13 → ¬ q < 13 → p = q := fun q1 q2 => by
    have hp9 : p - 13 < dNs L xs := by
      rcases hp with hp | ⟨_, _, z⟩ | ⟨_, z⟩
      · omega
      · omega
      · have z : p < 13 + dNs L xs := z
        omega
    have hq9 : q - 13 < dNs L xs := by
      rcases hq with hq | ⟨_, _, z⟩ | ⟨_, z⟩
      · omega
      · omega
      · have z : q < 13 + dNs L xs := z
        omega
    have := dNs_b (L := L) (xs := xs)
    unfold poP at hpo
    rw [if_neg (by omega), if_neg (by omega), if_neg q1, if_neg (by omega), if_neg (by omega), if_neg q2] at hpo
    have c1 := hI.2.2.2.2.2 _ hp9
    have c2 := hI.2.2.2.2.2 _ hq9
    rw [hpo] at c1
    have z := congrArg Prod.snd (Sum.inr.inj (c1.2.symm.trans c2.2))
    have z := Value.int.inj (List.cons.inj z).1
    have := (nI_eq (by omega) (by omega)).mp z
    omega
  by_cases p5 : p < 5
  · by_cases q5 : q < 5
    · exact hA p5 q5
    · exfalso
      revert key
      rw [if_neg (show ¬ q = 0 by omega), if_neg q5]
      repeat' split
      all_goals omega
  · rw [if_neg (show ¬ p = 0 by omega), if_neg p5] at key
    by_cases q5 : q < 5
    · exfalso
      revert key
      rw [if_pos q5]
      repeat' split
      all_goals omega
    · rw [if_neg (show ¬ q = 0 by omega), if_neg q5] at key
      by_cases p9 : p < 9
      · rw [if_pos p9] at key
        by_cases q9 : q < 9
        · exact hB p5 p9 q5 q9
        · exfalso
          revert key
          rw [if_neg q9]
          split <;> omega
      · rw [if_neg p9] at key
        by_cases q9 : q < 9
        · exfalso
          revert key
          rw [if_pos q9]
          split <;> omega
        · rw [if_neg q9] at key
          by_cases p13 : p < 13
          · by_cases q13 : q < 13
            · exact hC p9 p13 q9 q13
            · rw [if_pos p13, if_neg q13] at key
              omega
          · by_cases q13 : q < 13
            · rw [if_neg p13, if_pos q13] at key
              omega
            · exact hD p13 q13
end KFIN
