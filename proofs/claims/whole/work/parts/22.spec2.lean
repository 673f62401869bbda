/-! the rest of an hour: hunting, the log, shifts, dawn -/
def hntL (w : Wd) : Nat → Nat → Int32 → Int32
  | 0, _, b => b
  | r + 1, i, b => hntL w r (i + 1) (if w (161 + 12 * i + 9) = 1 ∧ ¬ w (161 + 12 * i + 8) = 0 ∧ (b = -1 ∨ ¬ w (161 + 12 * i + 8) ≤ w (161 + 12 * b.toNatClampNeg + 8)) then nI i else b)
def huntedW (w : Wd) : Int32 := hntL w (nS w) 0 (-1)
def shf (w : Wd) (a b : Nat) : Wd := fun q => if a ≤ q ∧ q < b then w (q - 3) else w q
def logM (w : Wd) : Int32 := if 16 ≤ w 16 then w 16 else w 16 + 1
def logsW (w : Wd) (kd c x : Int32) : Wd := upd (upd (upd (shf (upd w 16 (logM w)) 20 (17 + 3 * (logM w).toNatClampNeg)) 17 kd) 18 c) 19 x
def huntX (w : Wd) (c k : Nat) : Int32 := if w (161 + 12 * k + 8) < strengthW w c then w (161 + 12 * k + 8) else strengthW w c
def huntU (w : Wd) (c k : Nat) (x : Int32) : Wd := upd (upd (upd (upd w (161 + 12 * k + 8) (w (161 + 12 * k + 8) - x)) (65 + 12 * c + 10) (w (65 + 12 * c + 10) + x)) 8 (w 8 + x)) (65 + 12 * c + 9) (if w (65 + 12 * c + 9) + 1 < 20 then w (65 + 12 * c + 9) + 1 else 20)
def huntsW (w : Wd) : Int32 × Wd := if w 5 = -1 then (-1, w) else if huntedW w = -1 then (-1, w) else
  (w 5, logsW (huntU w (w 5).toNatClampNeg (huntedW w).toNatClampNeg (huntX w (w 5).toNatClampNeg (huntedW w).toNatClampNeg)) 1 (w 5) (huntX w (w 5).toNatClampNeg (huntedW w).toNatClampNeg))
def swearsW (w : Wd) (c : Nat) : Wd := if w 5 = -1 then w else if 12 ≤ w (65 + 12 * c + 9) then logsW (upd (upd w 5 (-1)) 13 (w 13 + 1)) 3 (nI c) (w 5)
  else if nI c = w 5 then logsW (swearsInW w c) 2 (nI c) (w 5) else if w (65 + 12 * c + 8) = w (65 + 12 * (w 5).toNatClampNeg + 8) then logsW (upd (upd w 5 (-1)) 13 (w 13 + 1)) 3 (nI c) (w 5) else logsW (swearsInW w c) 2 (nI c) (w 5)
def nextSh (w : Wd) : Nat := ((w 6).toNatClampNeg + 1) % nH w
def shiftW (w : Wd) : Wd := if w 7 - 1 ≤ 0 then swearsW (upd (upd (upd w 7 (w 7 - 1)) 6 (nI (nextSh w))) 7 (w (233 + 2 * nextSh w + 1))) (w (233 + 2 * nextSh w)).toNatClampNeg else upd w 7 (w 7 - 1)
def itr (f : Nat → Wd → Wd) : Nat → Wd → Wd
  | 0, w => w
  | n + 1, w => f n (itr f n w)
def dawnE (w : Wd) (c : Nat) : Wd := if w 5 = -1 then (if 12 ≤ w (65 + 12 * c + 9) then logsW w 4 (-1) (w 3) else logsW (swearsInW w c) 4 (nI c) (w 3)) else logsW w 4 (-1) (w 3)
def dawnW (w : Wd) : Wd := dawnE (itr (fun k v => restW v k (w 4)) (nC w) w) (w (233 + 2 * (w 6).toNatClampNeg)).toNatClampNeg
def hourD (w : Wd) : Wd := if w 3 - w 3 / 24 * 24 = 6 then dawnW w else w
def hourR (w : Wd) (h : Int32) : Wd := itr (fun k v => if nI k = h then v else restW v k 1) (nC w) w
def hourB (w : Wd) : Wd := if w 3 - w 3 / 24 * 24 = 0 then itr (fun k v => breedsW v k) (nS w) w else w
def hourE (w : Wd) : Wd := itr (fun k v => eatsW v k) (nS w) (upd w 3 (w 3 + 1))
def hourH (w : Wd) : Wd := hourR (huntsW w).2 (huntsW w).1
def hourW (w : Wd) : Wd := hourD (shiftW (hourH (hourB (hourE w))))
/-! which cells a piece leaves alone -/
def Stat (q : Nat) : Prop := q ≤ 2 ∨ q = 4 ∨ (65 ≤ q ∧ q < 161 ∧ (q - 65) % 12 ≤ 8) ∨ (161 ≤ q ∧ q < 233 ∧ (q - 161) % 12 ≤ 6) ∨ (161 ≤ q ∧ q < 233 ∧ (q - 161) % 12 = 9) ∨ 233 ≤ q
def Keeps (w v : Wd) : Prop := ∀ q, Stat q → v q = w q
theorem Keeps.rf {w : Wd} : Keeps w w := fun _ _ => rfl
theorem Keeps.tr {u v w : Wd} (h : Keeps u v) (h' : Keeps v w) : Keeps u w := fun q hq => (h' q hq).trans (h q hq)
theorem Keeps.up {u v : Wd} {p : Nat} {x : Int32} (h : Keeps u v) (hp : ¬ Stat p) : Keeps u (upd v p x) := fun q hq => by
  rw [pk_un (show q ≠ p from fun e => hp (e ▸ hq))]
  exact h q hq
theorem ns_C {c f : Nat} (hc : c < 8) (hf : 9 ≤ f) (h2 : f < 12) : ¬ Stat (65 + 12 * c + f) := by unfold Stat; omega
theorem ns_S {k f : Nat} (hk : k < 6) (hf : f = 7 ∨ f = 8 ∨ f = 10) : ¬ Stat (161 + 12 * k + f) := by unfold Stat; omega
theorem ns_L {q : Nat} (h : q = 3 ∨ (5 ≤ q ∧ q < 65)) : ¬ Stat q := by unfold Stat; omega
theorem eatW_keeps {w : Wd} {k : Nat} {e : Int32} (hk : k < 6) : Keeps w (eatW w k e) := ((Keeps.rf.up (ns_S hk (Or.inl rfl))).up (ns_S hk (Or.inr (Or.inr rfl)))).up (ns_L (by omega))
theorem starveW_keeps {w : Wd} {k : Nat} {e : Int32} (hk : k < 6) : Keeps w (starveW w k e) := (Keeps.rf.up (ns_S hk (Or.inr (Or.inl rfl)))).up (ns_L (by omega))
theorem movesW_keeps {w : Wd} {k j : Nat} (hk : k < 6) (hj : j < 6) : Keeps w (movesW w k j) := by
  have h : Keeps w (upd (upd w (161 + 12 * j + 8) (w (161 + 12 * j + 8) + w (161 + 12 * k + 8))) (161 + 12 * k + 8) 0) := (Keeps.rf.up (ns_S hj (Or.inr (Or.inl rfl)))).up (ns_S hk (Or.inr (Or.inl rfl)))
  unfold movesW
  dsimp only
  split
  · exact h
  · exact h.tr (starveW_keeps hj)
theorem tailW_keeps {w : Wd} {k n : Nat} {m : Int32} (hw : w 1 = nI n) (hn : n ≤ 6) (hk : k < n) : Keeps w (tailW w k m (nextW w k)) := by
  unfold tailW
  rcases nextW_in hw hn hk with h | ⟨i, i1, i2, i3, -⟩
  · rw [if_pos h]; exact starveW_keeps (by omega)
  · rw [i3, if_neg (nI_nem (by omega)), nI_clamp (by omega)]; exact movesW_keeps (by omega) (by omega)
theorem eatsW_keeps {w : Wd} {k n : Nat} (hw : w 1 = nI n) (hn : n ≤ 6) (hk : k < n) : Keeps w (eatsW w k) := by
  have hk6 : k < 6 := by omega
  unfold eatsW
  dsimp only
  generalize (if w (161 + 12 * k + 7) < w (161 + 12 * k + 8) then w (161 + 12 * k + 7) else w (161 + 12 * k + 8)) = e
  have h : Keeps w (eatW w k e) := eatW_keeps hk6
  have h1 := (h 1 (by unfold Stat; omega)).trans hw
  split
  · exact h
  · split
    · split
      · exact h.tr (tailW_keeps h1 hn hk)
      · unfold tailW; rw [if_pos rfl]; exact h.tr (starveW_keeps hk6)
    · exact h
theorem breedsW_keeps {w : Wd} {k : Nat} (hk : k < 6) : Keeps w (breedsW w k) := (Keeps.rf.up (ns_S hk (Or.inr (Or.inl rfl)))).up (ns_L (by omega))
theorem restW_keeps {w : Wd} {k : Nat} {y : Int32} (hk : k < 8) : Keeps w (restW w k y) := Keeps.rf.up (ns_C hk (by omega) (by omega))
theorem swearsInW_keeps {w : Wd} {k : Nat} (hk : k < 8) : Keeps w (swearsInW w k) := ((Keeps.rf.up (ns_L (by omega))).up (ns_L (by omega))).up (ns_C hk (by omega) (by omega))
theorem shf_keeps {w : Wd} {b : Nat} (hb : b ≤ 65) : Keeps w (shf w 20 b) := fun q hq => by
  unfold shf
  rw [if_neg]
  intro z
  exact ns_L (Or.inr (by omega)) hq
theorem logM_lt {w : Wd} (h : ∃ e, e ≤ 16 ∧ w 16 = nI e) : ∃ m, m ≤ 16 ∧ 1 ≤ m ∧ logM w = nI m := by
  obtain ⟨e, he, h⟩ := h
  unfold logM
  rw [h]
  by_cases q : 16 ≤ e
  · rw [if_pos (show (16 : Int32) ≤ nI e from nI_le (a := 16) q (by omega))]; exact ⟨e, he, by omega, rfl⟩
  · rw [if_neg (show ¬ (16 : Int32) ≤ nI e from nI_ge (b := 16) (by omega) (by omega)), nI_1]; exact ⟨e + 1, by omega, by omega, rfl⟩
theorem logsW_keeps {w : Wd} {a b c : Int32} (h : ∃ e, e ≤ 16 ∧ w 16 = nI e) : Keeps w (logsW w a b c) := by
  obtain ⟨m, hm, -, e⟩ := logM_lt h
  unfold logsW
  rw [e, nI_clamp (by omega)]
  exact ((((Keeps.rf (w := w)).up (ns_L (q := 16) (by omega))).tr (shf_keeps (by omega))).up (ns_L (by omega))).up (ns_L (by omega)) |>.up (ns_L (by omega))
theorem itr_keeps {f : Nat → Wd → Wd} {w : Wd} {N : Nat} (h : ∀ i v, i < N → Keeps w v → Keeps v (f i v)) : ∀ n, n ≤ N → Keeps w (itr f n w)
  | 0, _ => Keeps.rf
  | n + 1, hn => (itr_keeps h n (by omega)).tr (h n _ (by omega) (itr_keeps h n (by omega)))
