/-! the class's cells as the constructors lay them; the first state of the class -/
def od (p : Nat) : Nat := if p < 7 then p else if p < 12 then p + 141 else if p = 12 then 147 else if p < 153 then p - 6 else p
def caOf (bs : Nat) : Nat → Nat := fun p => bs + od p
def S0 : CS := (fun p f => if f = 8 ∧ (p = 1 ∨ kc p = 11) then -1 else 0, fun _ => [])
def nm0 (kA : String → Nat → Nat) (p : Nat) : Nat := if kc p = 19 then kA RX4 7 else kA RX0 9
theorem od_inj {p q : Nat} (hp : p < 433) (hq : q < 433) (h : od p = od q) : p = q := by
  unfold od at h
  repeat' split at h
  all_goals omega
theorem S0_z {p f : Nat} (h : ¬ (f = 8 ∧ (p = 1 ∨ kc p = 11))) : S0.1 p f = 0 := if_neg h
theorem S0_n {p : Nat} (h : kc p = 11) : S0.1 p 8 = -1 := if_pos ⟨rfl, Or.inr h⟩
def kg (k : Nat) : Nat := if k < 6 then 11 + k else if k < 8 then 16 else if k < 9 then 17 else if k < 17 then 18 else if k < 23 then 19 else 20
theorem kc_kg {p : Nat} (h1 : 13 ≤ p) (h2 : p < 433) : kc p = kg ((p - 13) % 35) := by
  unfold kc kg
  rw [if_neg (by omega), if_neg (by omega)]
theorem va_at_refs {D : va_G} {cl : List vw_C} {a N : Nat} {c : ClassId} {f g : Nat → Option Nat} {H : Heap} (h : va_at D cl (a, .inl (c, N, .inr (.inr (.inr (.inr f))))) H) (e : ∀ i, i < N → f i = g i) : va_at D cl (a, .inl (c, N, .inr (.inr (.inr (.inr g))))) H := by
  have h : H[a]? = some (vp_cell c (N, .inr (.inr (.inr (.inr f))))) := h
  show H[a]? = some (vp_cell c (N, .inr (.inr (.inr (.inr g)))))
  rw [h, vp_cell_q, vp_cell_q]
  unfold arrV
  have : (fun j : Fin N => va_rf (f j.val)) = fun j : Fin N => va_rf (g j.val) := funext fun j => by rw [e j.val j.isLt]
  rw [this]
/-- the class's cells in the order in which they are made -/
def rW (bs : Nat) (cg : Nat → ClassId) (kA : String → Nat → Nat) : Nat → va_E := fun q => if q = 0 then .inr (15, [.ref (bs + 1), .ref (bs + 5), .ref (bs + 7), .ref (bs + 42), .ref (bs + 77), .ref (bs + 112), .ref (bs + 147), .ref (bs + 148), .ref (bs + 149), .int 0, .int 0, .int 0]) else if q < 5 then rX8 bs cg kA 1 (q - 1) else if q < 7 then rX3 bs cg kA 5 (q - 5) else if q < 42 then rX2 bs cg kA 7 (q - 7) else if q < 77 then rX2 bs cg kA 42 (q - 42) else if q < 112 then rX2 bs cg kA 77 (q - 77) else if q < 147 then rX2 bs cg kA 112 (q - 112) else if q = 147 then aR (cg 2) 8 bs 153 35 8 else if q = 148 then rX6 bs cg kA (bs + 1) (bs + 42) 148 0 else if q < 153 then rX5 bs cg kA (bs + 1) (bs + 7) 149 (q - 149) else rX2 bs cg kA (153 + 35 * ((q - 153) / 35)) ((q - 153) % 35)
section CONV
variable {dC : Nat → ClassId} {dI : Nat → Nat → Nat} {cg : Nat → ClassId} {kA : String → Nat → Nat} {bs : Nat} {s : State} {H : Heap}
theorem rW_0 : rW bs cg kA 0 = .inr (15, [.ref (bs + 1), .ref (bs + 5), .ref (bs + 7), .ref (bs + 42), .ref (bs + 77), .ref (bs + 112), .ref (bs + 147), .ref (bs + 148), .ref (bs + 149), .int 0, .int 0, .int 0]) := rfl
theorem rW_1 {t : Nat} (h : t < 4) : rW bs cg kA (1 + t) = rX8 bs cg kA 1 t := by
  unfold rW
  rw [if_neg (by omega), if_pos (by omega), Nat.add_sub_cancel_left]
theorem rW_5 {t : Nat} (h : t < 2) : rW bs cg kA (5 + t) = rX3 bs cg kA 5 t := by
  unfold rW
  rw [if_neg (by omega), if_neg (by omega), if_pos (by omega), Nat.add_sub_cancel_left]
theorem rW_7 {t : Nat} (h : t < 35) : rW bs cg kA (7 + t) = rX2 bs cg kA 7 t := by
  unfold rW
  rw [if_neg (by omega), if_neg (by omega), if_neg (by omega), if_pos (by omega), Nat.add_sub_cancel_left]
theorem rW_42 {t : Nat} (h : t < 35) : rW bs cg kA (42 + t) = rX2 bs cg kA 42 t := by
  unfold rW
  rw [if_neg (by omega), if_neg (by omega), if_neg (by omega), if_neg (by omega), if_pos (by omega), Nat.add_sub_cancel_left]
theorem rW_77 {t : Nat} (h : t < 35) : rW bs cg kA (77 + t) = rX2 bs cg kA 77 t := by
  unfold rW
  rw [if_neg (by omega), if_neg (by omega), if_neg (by omega), if_neg (by omega), if_neg (by omega), if_pos (by omega), Nat.add_sub_cancel_left]
theorem rW_112 {t : Nat} (h : t < 35) : rW bs cg kA (112 + t) = rX2 bs cg kA 112 t := by
  unfold rW
  rw [if_neg (by omega), if_neg (by omega), if_neg (by omega), if_neg (by omega), if_neg (by omega), if_neg (by omega), if_pos (by omega), Nat.add_sub_cancel_left]
theorem rW_147 : rW bs cg kA 147 = aR (cg 2) 8 bs 153 35 8 := rfl
theorem rW_148 : rW bs cg kA 148 = rX6 bs cg kA (bs + 1) (bs + 42) 148 0 := rfl
theorem rW_149 {t : Nat} (h : t < 4) : rW bs cg kA (149 + t) = rX5 bs cg kA (bs + 1) (bs + 7) 149 t := by
  unfold rW
  rw [if_neg (by omega), if_neg (by omega), if_neg (by omega), if_neg (by omega), if_neg (by omega), if_neg (by omega), if_neg (by omega), if_neg (by omega), if_neg (by omega), if_pos (by omega), Nat.add_sub_cancel_left]
theorem rW_p {j t : Nat} (h : t < 35) : rW bs cg kA (153 + 35 * j + t) = rX2 bs cg kA (153 + 35 * j) t := by
  unfold rW
  rw [if_neg (by omega), if_neg (by omega), if_neg (by omega), if_neg (by omega), if_neg (by omega), if_neg (by omega), if_neg (by omega), if_neg (by omega), if_neg (by omega), if_neg (by omega)]
  rw [show (153 + 35 * j + t - 153) / 35 = j by omega, show (153 + 35 * j + t - 153) % 35 = t by omega]
theorem gr_row {G n : Nat} (hk : ∀ j, j < 35 → kc (G + j) = kg j) (ho : ∀ j, j < 35 → caOf bs (G + j) = bs + (n + j)) (hG : 13 ≤ G) (h : ∀ j, j < 35 → va_at (dC, dI) vwCl (bs + (n + j), rX2 bs cg kA n j) H) {j : Nat} (hj : j < 35) : va_at (dC, dI) vwCl (caOf bs (G + j), cRow (kc (G + j)) cg (caOf bs) (nm0 kA (G + j)) (G + j) (S0.1 (G + j))) H := by
  have h1 := h j hj
  have hz : 0 < j → ∀ f, S0.1 (G + j) f = 0 := fun h0 f => S0_z (fun z => by
    rcases z.2 with z | z
    · omega
    · rw [hk j hj] at z
      unfold kg at z
      repeat' split at z
      all_goals omega)
  rw [ho j hj]
  rcases (show j = 0 ∨ j = 1 ∨ j = 2 ∨ j = 3 ∨ j = 4 ∨ j = 5 ∨ j = 6 ∨ j = 7 ∨ j = 8 ∨ (9 ≤ j ∧ j < 17) ∨ (17 ≤ j ∧ j < 23) ∨ (23 ≤ j ∧ j < 35) by omega) with e | e | e | e | e | e | e | e | e | e | e | e
  · subst e
    rw [hk 0 hj]
    have z : ∀ f, f ≠ 8 → S0.1 (G + 0) f = 0 := fun f hf => S0_z (fun w => hf w.1)
    have z8 : S0.1 (G + 0) 8 = -1 := S0_n ((hk 0 hj).trans rfl)
    have e : cRow (kg 0) cg (caOf bs) (nm0 kA (G + 0)) (G + 0) (S0.1 (G + 0)) = rX2 bs cg kA n 0 := by
      show (.inr (7, [.ref (caOf bs (G + 1)), .ref (caOf bs (G + 2)), .ref (caOf bs (G + 3)), .ref (caOf bs (G + 4)), .ref (caOf bs (G + 8)), .int (S0.1 (G + 0) 5), .int (S0.1 (G + 0) 6), .int (S0.1 (G + 0) 7), .int (S0.1 (G + 0) 8), .int (S0.1 (G + 0) 9), .int (S0.1 (G + 0) 10), .int (S0.1 (G + 0) 11), .int (S0.1 (G + 0) 12)]) : va_E) = _
      rw [ho 1 (by omega), ho 2 (by omega), ho 3 (by omega), ho 4 (by omega), ho 8 (by omega), z 5 (by omega), z 6 (by omega), z 7 (by omega), z8, z 9 (by omega), z 10 (by omega), z 11 (by omega), z 12 (by omega)]
      rfl
    rw [e]
    exact h1
  · subst e
    rw [hk 1 hj]
    have h1 : va_at (dC, dI) vwCl (bs + (n + 1), .inl (cg 3, 8, .inr (.inr (.inr (.inr fun k => if k < 8 then some (bs + (n + 9 + 1 * k)) else none))))) H := h1
    show va_at (dC, dI) vwCl (bs + (n + 1), .inl (cg 3, 8, .inr (.inr (.inr (.inr fun i => some (caOf bs (G + 1 + 8 + i))))))) H
    refine va_at_refs h1 (fun i hi => ?_)
    rw [if_pos hi, show G + 1 + 8 + i = G + (9 + i) by omega, ho (9 + i) (by omega), show n + 9 + 1 * i = n + (9 + i) by omega]
  · subst e
    rw [hk 2 hj]
    have h1 : va_at (dC, dI) vwCl (bs + (n + 2), .inl (cg 4, 6, .inr (.inr (.inr (.inr fun k => if k < 6 then some (bs + (n + 17 + 1 * k)) else none))))) H := h1
    show va_at (dC, dI) vwCl (bs + (n + 2), .inl (cg 4, 6, .inr (.inr (.inr (.inr fun i => some (caOf bs (G + 2 + 15 + i))))))) H
    refine va_at_refs h1 (fun i hi => ?_)
    rw [if_pos hi, show G + 2 + 15 + i = G + (17 + i) by omega, ho (17 + i) (by omega), show n + 17 + 1 * i = n + (17 + i) by omega]
  · subst e
    rw [hk 3 hj]
    have h1 : va_at (dC, dI) vwCl (bs + (n + 3), .inl (cg 5, 12, .inr (.inr (.inr (.inr fun k => if k < 12 then some (bs + (n + 23 + 1 * k)) else none))))) H := h1
    show va_at (dC, dI) vwCl (bs + (n + 3), .inl (cg 5, 12, .inr (.inr (.inr (.inr fun i => some (caOf bs (G + 3 + 20 + i))))))) H
    refine va_at_refs h1 (fun i hi => ?_)
    rw [if_pos hi, show G + 3 + 20 + i = G + (23 + i) by omega, ho (23 + i) (by omega), show n + 23 + 1 * i = n + (23 + i) by omega]
  · subst e
    rw [hk 4 hj]
    have e : cRow (kg 4) cg (caOf bs) (nm0 kA (G + 4)) (G + 4) (S0.1 (G + 4)) = rX2 bs cg kA n 4 := by
      show (.inr (6, [.ref (caOf bs (G + 5)), .ref (caOf bs (G + 6)), .ref (caOf bs (G + 7)), .int (S0.1 (G + 4) 3), .int (S0.1 (G + 4) 4)]) : va_E) = _
      rw [ho 5 (by omega), ho 6 (by omega), ho 7 (by omega), hz (by omega), hz (by omega)]
      rfl
    rw [e]
    exact h1
  · subst e
    rw [hk 5 hj]
    have e : cRow (kg 5) cg (caOf bs) (nm0 kA (G + 5)) (G + 5) (S0.1 (G + 5)) = rX2 bs cg kA n 5 := by
      rw [show S0.1 (G + 5) = fun _ => 0 from funext (hz (by omega))]
      rfl
    rw [e]
    exact h1
  · subst e
    rw [hk 6 hj]
    have e : cRow (kg 6) cg (caOf bs) (nm0 kA (G + 6)) (G + 6) (S0.1 (G + 6)) = rX2 bs cg kA n 6 := by
      rw [show S0.1 (G + 6) = fun _ => 0 from funext (hz (by omega))]
      rfl
    rw [e]
    exact h1
  · subst e
    rw [hk 7 hj]
    have e : cRow (kg 7) cg (caOf bs) (nm0 kA (G + 7)) (G + 7) (S0.1 (G + 7)) = rX2 bs cg kA n 7 := by
      rw [show S0.1 (G + 7) = fun _ => 0 from funext (hz (by omega))]
      rfl
    rw [e]
    exact h1
  · subst e
    rw [hk 8 hj]
    have e : cRow (kg 8) cg (caOf bs) (nm0 kA (G + 8)) (G + 8) (S0.1 (G + 8)) = rX2 bs cg kA n 8 := by
      rw [show S0.1 (G + 8) = fun _ => 0 from funext (hz (by omega))]
      rfl
    rw [e]
    exact h1
  · obtain ⟨k, rfl⟩ : ∃ k, j = k + 9 := ⟨j - 9, by omega⟩
    have ek : kg (k + 9) = 18 := by unfold kg; rw [if_neg (by omega), if_neg (by omega), if_neg (by omega), if_pos (by omega)]
    have en : nm0 kA (G + (k + 9)) = kA RX0 9 := by unfold nm0; rw [hk _ hj, ek, if_neg (by omega)]
    rw [hk _ hj, ek, en, show S0.1 (G + (k + 9)) = fun _ => 0 from funext (hz (by omega))]
    rw [rX2_9, if_pos (by omega)] at h1
    exact h1
  · obtain ⟨k, rfl⟩ : ∃ k, j = k + 9 := ⟨j - 9, by omega⟩
    have ek : kg (k + 9) = 19 := by unfold kg; rw [if_neg (by omega), if_neg (by omega), if_neg (by omega), if_neg (by omega), if_pos (by omega)]
    have en : nm0 kA (G + (k + 9)) = kA RX4 7 := by unfold nm0; rw [hk _ hj, ek, if_pos rfl]
    rw [hk _ hj, ek, en, show S0.1 (G + (k + 9)) = fun _ => 0 from funext (hz (by omega))]
    rw [rX2_9, if_neg (by omega), if_pos (by omega)] at h1
    exact h1
  · obtain ⟨k, rfl⟩ : ∃ k, j = k + 9 := ⟨j - 9, by omega⟩
    have ek : kg (k + 9) = 20 := by unfold kg; rw [if_neg (by omega), if_neg (by omega), if_neg (by omega), if_neg (by omega), if_neg (by omega)]
    rw [hk _ hj, ek, show S0.1 (G + (k + 9)) = fun _ => 0 from funext (hz (by omega))]
    rw [rX2_9, if_neg (by omega), if_neg (by omega)] at h1
    exact h1
theorem S0_f {p : Nat} (h : (p = 1 ∨ kc p = 11) → False) : S0.1 p = fun _ => 0 := funext fun f => S0_z (fun z => h z.2)
theorem kc_G {g j : Nat} (hg : g < 12) (hj : j < 35) : kc (13 + 35 * g + j) = kg j := by
  rw [kc_kg (by omega) (by omega), show (13 + 35 * g + j - 13) % 35 = j by omega]
theorem c_conv (hP : nP dC dI cg kA bs (433, rW bs cg kA) s H) : cP dC dI cg kA (caOf bs) S0 s H := by
  obtain ⟨h1, h2, h3, h4, -⟩ := hP
  have h2 : ∀ i, i < 433 → va_at (dC, dI) vwCl (bs + i, rW bs cg kA i) H := h2
  have hΩ : ∀ q, cΩ (caOf bs) q → nΩ bs q := fun q ⟨p, _, e⟩ => by
    show bs ≤ q
    rw [e]
    exact Nat.le_add_right _ _
  have h4 := h4.narrow hΩ
  refine ⟨nm0 kA, fun p hp => ?_, h3, fun p q hp hq h => od_inj hp hq (Nat.add_left_cancel h), h4, fun p => ?_⟩
  · by_cases h13 : 13 ≤ p
    · obtain ⟨g, j, hg, hj, e⟩ : ∃ g j, g < 12 ∧ j < 35 ∧ p = 13 + 35 * g + j := ⟨(p - 13) / 35, (p - 13) % 35, by omega, by omega, by omega⟩
      subst e
      by_cases h4 : g < 4
      · refine gr_row (n := 7 + 35 * g) (fun j hj => kc_G hg hj) (fun j hj => ?_) (by omega) (fun j hj => ?_) hj
        · unfold caOf od
          rw [if_neg (by omega), if_neg (by omega), if_neg (by omega), if_pos (by omega), show 13 + 35 * g + j - 6 = 7 + 35 * g + j by omega]
        · have := h2 (7 + 35 * g + j) (by omega)
          rcases (show g = 0 ∨ g = 1 ∨ g = 2 ∨ g = 3 by omega) with e | e | e | e <;> subst e
          · rw [show 7 + 35 * 0 + j = 7 + j by omega, rW_7 hj] at this
            exact this
          · rw [show 7 + 35 * 1 + j = 42 + j by omega, rW_42 hj] at this
            exact this
          · rw [show 7 + 35 * 2 + j = 77 + j by omega, rW_77 hj] at this
            exact this
          · rw [show 7 + 35 * 3 + j = 112 + j by omega, rW_112 hj] at this
            exact this
      · obtain ⟨k, rfl⟩ : ∃ k, g = k + 4 := ⟨g - 4, by omega⟩
        refine gr_row (n := 153 + 35 * k) (fun j hj => kc_G hg hj) (fun j hj => ?_) (by omega) (fun j hj => ?_) hj
        · unfold caOf od
          rw [if_neg (by omega), if_neg (by omega), if_neg (by omega), if_neg (by omega), show 13 + 35 * (k + 4) + j = 153 + 35 * k + j by omega]
        · have := h2 (153 + 35 * k + j) (by omega)
          rw [rW_p hj] at this
          exact this
    · rcases (show p = 0 ∨ p = 1 ∨ p = 2 ∨ p = 3 ∨ p = 4 ∨ p = 5 ∨ p = 6 ∨ p = 7 ∨ p = 8 ∨ p = 9 ∨ p = 10 ∨ p = 11 ∨ p = 12 by omega) with e | e | e | e | e | e | e | e | e | e | e | e | e <;> subst e
      · rw [S0_f (p := 0) (by decide)]; exact h2 0 (by omega)
      · exact h2 1 (by omega)
      · rw [S0_f (p := 2) (by decide)]; exact h2 2 (by omega)
      · rw [S0_f (p := 3) (by decide)]; exact h2 3 (by omega)
      · rw [S0_f (p := 4) (by decide)]; exact h2 4 (by omega)
      · rw [S0_f (p := 5) (by decide)]; exact h2 5 (by omega)
      · rw [S0_f (p := 6) (by decide)]; exact h2 6 (by omega)
      · exact h2 148 (by omega)
      · rw [S0_f (p := 8) (by decide)]; exact h2 149 (by omega)
      · rw [S0_f (p := 9) (by decide)]; exact h2 150 (by omega)
      · rw [S0_f (p := 10) (by decide)]; exact h2 151 (by omega)
      · rw [S0_f (p := 11) (by decide)]; exact h2 152 (by omega)
      · have hq := h2 147 (by omega)
        have hq : va_at (dC, dI) vwCl (bs + 147, .inl (cg 2, 8, .inr (.inr (.inr (.inr fun k => if k < 8 then some (bs + (153 + 35 * k)) else none))))) H := hq
        show va_at (dC, dI) vwCl (bs + 147, .inl (cg 2, 8, .inr (.inr (.inr (.inr fun i => some (caOf bs (153 + 35 * i))))))) H
        refine va_at_refs hq (fun i hi => ?_)
        unfold caOf od
        rw [if_pos hi, if_neg (by omega), if_neg (by omega), if_neg (by omega), if_neg (by omega)]
  · show strAt (nm0 kA p) [] (cΩ (caOf bs)) s H
    unfold nm0
    by_cases h : kc p = 19
    · rw [if_pos h]
      exact h4.1 ("GranaryWatch$Sack", 7, "", []) (List.mem_of_getElem? (i := 6) rfl)
    · rw [if_neg h]
      exact h4.1 ("GranaryWatch$Cat", 9, "", []) (List.mem_of_getElem? (i := 5) rfl)
end CONV
