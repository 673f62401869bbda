/-! the rest of an hour: hunting, the log, shifts, dawn -/
def hntL (w : Wd) : Nat → Nat → Int32 → Int32
  | 0, _, b => b
  | r + 1, i, b => hntL w r (i + 1) (if w (161 + 12 * i + 9) = 1 ∧ ¬ w (161 + 12 * i + 8) = 0 ∧ (b = -1 ∨ ¬ w (161 + 12 * i + 8) ≤ w (161 + 12 * b.toNatClampNeg + 8)) then nI i else b)
def huntedW (w : Wd) : Int32 := hntL w (nS w) 0 (-1)
def shf (w : Wd) (a b : Nat) : Wd := fun q => if a ≤ q ∧ q < b then w (q - 3) else w q
def logM (w : Wd) : Int32 := if 16 ≤ w 16 then w 16 else w 16 + 1
def logsW (w : Wd) (kd c x : Int32) : Wd := upd (upd (upd (shf (upd w 16 (logM w)) 20 (17 + 3 * (logM w).toNatClampNeg)) 17 kd) 18 c) 19 x
def huntX (w : Wd) (c k : Nat) : Int32 := if w (161 + 12 * k + 8) < strengthW w c then w (161 + 12 * k + 8) else strengthW w c
def huntU (w : Wd) (c k : Nat) (x : Int32) : Wd := upd (upd (upd (upd w (161 + 12 * k + 8) (w (161 + 12 * k + 8) - x)) (65 + 12 * c + 10) (w (65 + 12 * c + 10) + x)) 8 (w 8 + x)) (65 + 12 * c + 9) (if w (65 + 12 * c + 9) + 1 < 20 then w (65 + 12 * c + 9) + 1 else 20)
def huntsW (w : Wd) : Int32 × Wd := if w 5 = -1 then (-1, w) else if huntedW w = -1 then (-1, w) else
  (w 5, logsW (huntU w (w 5).toNatClampNeg (huntedW w).toNatClampNeg (huntX w (w 5).toNatClampNeg (huntedW w).toNatClampNeg)) 1 (w 5) (huntX w (w 5).toNatClampNeg (huntedW w).toNatClampNeg))
def swearsW (w : Wd) (c : Nat) : Wd := if w 5 = -1 then w else if 12 ≤ w (65 + 12 * c + 9) then logsW (upd (upd w 5 (-1)) 13 (w 13 + 1)) 3 (nI c) (w 5)
  else if nI c = w 5 then logsW (swearsInW w c) 2 (nI c) (w 5) else if w (65 + 12 * c + 8) = w (65 + 12 * (w 5).toNatClampNeg + 8) then logsW (upd (upd w 5 (-1)) 13 (w 13 + 1)) 3 (nI c) (w 5) else logsW (swearsInW w c) 2 (nI c) (w 5)
def nextSh (w : Wd) : Nat := ((w 6).toNatClampNeg + 1) % nH w
def shiftW (w : Wd) : Wd := if w 7 - 1 ≤ 0 then swearsW (upd (upd (upd w 7 (w 7 - 1)) 6 (nI (nextSh w))) 7 (w (233 + 2 * nextSh w + 1))) (w (233 + 2 * nextSh w)).toNatClampNeg else upd w 7 (w 7 - 1)
def itr (f : Nat → Wd → Wd) : Nat → Wd → Wd
  | 0, w => w
  | n + 1, w => f n (itr f n w)
def dawnE (w : Wd) (c : Nat) : Wd := if w 5 = -1 then (if 12 ≤ w (65 + 12 * c + 9) then logsW w 4 (-1) (w 3) else logsW (swearsInW w c) 4 (nI c) (w 3)) else logsW w 4 (-1) (w 3)
def dawnW (w : Wd) : Wd := dawnE (itr (fun k v => restW v k (w 4)) (nC w) w) (w (233 + 2 * (w 6).toNatClampNeg)).toNatClampNeg
def hourD (w : Wd) : Wd := if w 3 - w 3 / 24 * 24 = 6 then dawnW w else w
def hourR (w : Wd) (h : Int32) : Wd := itr (fun k v => if nI k = h then v else restW v k 1) (nC w) w
def hourB (w : Wd) : Wd := if w 3 - w 3 / 24 * 24 = 0 then itr (fun k v => breedsW v k) (nS w) w else w
def hourE (w : Wd) : Wd := itr (fun k v => eatsW v k) (nS w) (upd w 3 (w 3 + 1))
def hourH (w : Wd) : Wd := hourR (huntsW w).2 (huntsW w).1
def hourW (w : Wd) : Wd := hourD (shiftW (hourH (hourB (hourE w))))
/-! which cells a piece writes -/
def Only (A : Nat → Prop) (w v : Wd) : Prop := ∀ q, ¬ A q → v q = w q
theorem Only.rf {A : Nat → Prop} {w : Wd} : Only A w w := fun _ _ => rfl
theorem Only.tr {A : Nat → Prop} {u v w : Wd} (h : Only A u v) (h' : Only A v w) : Only A u w := fun q hq => (h' q hq).trans (h q hq)
theorem Only.up {A : Nat → Prop} {u v : Wd} {p : Nat} {x : Int32} (h : Only A u v) (hp : A p) : Only A u (upd v p x) := fun q hq => by
  rw [pk_un (show q ≠ p from fun e => hq (e ▸ hp))]
  exact h q hq
theorem Only.mono {A B : Nat → Prop} {u v : Wd} (h : Only A u v) (hAB : ∀ q, A q → B q) : Only B u v := fun q hq => h q (fun z => hq (hAB q z))
def WE (q : Nat) : Prop := q = 9 ∨ q = 10 ∨ q = 11 ∨ (161 ≤ q ∧ q < 233 ∧ ((q - 161) % 12 = 7 ∨ (q - 161) % 12 = 8 ∨ (q - 161) % 12 = 10))
def WR (q : Nat) : Prop := 65 ≤ q ∧ q < 161 ∧ (q - 65) % 12 = 9
def WG (q : Nat) : Prop := 16 ≤ q ∧ q < 65
def WO (q : Nat) : Prop := q = 5 ∨ q = 12 ∨ q = 13 ∨ (65 ≤ q ∧ q < 161 ∧ (q - 65) % 12 = 11)
def WH (q : Nat) : Prop := q = 8 ∨ (65 ≤ q ∧ q < 161 ∧ ((q - 65) % 12 = 9 ∨ (q - 65) % 12 = 10)) ∨ (161 ≤ q ∧ q < 233 ∧ (q - 161) % 12 = 8)
def WN (q : Nat) : Prop := q = 3 ∨ (5 ≤ q ∧ q < 65) ∨ (65 ≤ q ∧ q < 161 ∧ 9 ≤ (q - 65) % 12) ∨ (161 ≤ q ∧ q < 233 ∧ ((q - 161) % 12 = 7 ∨ (q - 161) % 12 = 8 ∨ (q - 161) % 12 = 10))
theorem ws_S {k f : Nat} (hk : k < 6) (hf : f = 7 ∨ f = 8 ∨ f = 10) : WE (161 + 12 * k + f) := by unfold WE; omega
theorem eatW_only {w : Wd} {k : Nat} {e : Int32} (hk : k < 6) : Only WE w (eatW w k e) := ((Only.rf.up (ws_S hk (Or.inl rfl))).up (ws_S hk (Or.inr (Or.inr rfl)))).up (Or.inl rfl)
theorem starveW_only {w : Wd} {k : Nat} {e : Int32} (hk : k < 6) : Only WE w (starveW w k e) := (Only.rf.up (ws_S hk (Or.inr (Or.inl rfl)))).up (Or.inr (Or.inr (Or.inl rfl)))
theorem movesW_only {w : Wd} {k j : Nat} (hk : k < 6) (hj : j < 6) : Only WE w (movesW w k j) := by
  have h : Only WE w (upd (upd w (161 + 12 * j + 8) (w (161 + 12 * j + 8) + w (161 + 12 * k + 8))) (161 + 12 * k + 8) 0) := (Only.rf.up (ws_S hj (Or.inr (Or.inl rfl)))).up (ws_S hk (Or.inr (Or.inl rfl)))
  unfold movesW
  dsimp only
  split
  · exact h
  · exact h.tr (starveW_only hj)
theorem tailW_only {w : Wd} {k n : Nat} {m : Int32} (hw : w 1 = nI n) (hn : n ≤ 6) (hk : k < n) : Only WE w (tailW w k m (nextW w k)) := by
  unfold tailW
  rcases nextW_in hw hn hk with h | ⟨i, i1, i2, i3, -⟩
  · rw [if_pos h]; exact starveW_only (by omega)
  · rw [i3, if_neg (nI_nem (by omega)), nI_clamp (by omega)]; exact movesW_only (by omega) (by omega)
theorem eatsW_only {w : Wd} {k n : Nat} (hw : w 1 = nI n) (hn : n ≤ 6) (hk : k < n) : Only WE w (eatsW w k) := by
  have hk6 : k < 6 := by omega
  unfold eatsW
  dsimp only
  generalize (if w (161 + 12 * k + 7) < w (161 + 12 * k + 8) then w (161 + 12 * k + 7) else w (161 + 12 * k + 8)) = e
  have h : Only WE w (eatW w k e) := eatW_only hk6
  have h1 := (h 1 (by unfold WE; omega)).trans hw
  split
  · exact h
  · split
    · split
      · exact h.tr (tailW_only h1 hn hk)
      · unfold tailW; rw [if_pos rfl]; exact h.tr (starveW_only hk6)
    · exact h
theorem breedsW_only {w : Wd} {k : Nat} (hk : k < 6) : Only WE w (breedsW w k) := (Only.rf.up (ws_S hk (Or.inr (Or.inl rfl)))).up (Or.inr (Or.inl rfl))
theorem restW_only {w : Wd} {k : Nat} {y : Int32} (hk : k < 8) : Only WR w (restW w k y) := Only.rf.up (by unfold WR; omega)
theorem swearsInW_only {w : Wd} {k : Nat} (hk : k < 8) : Only WO w (swearsInW w k) := ((Only.rf.up (by unfold WO; omega)).up (by unfold WO; omega)).up (by unfold WO; omega)
theorem shf_only {w : Wd} {b : Nat} (hb : b ≤ 65) : Only WG w (shf w 20 b) := fun q hq => by
  unfold shf
  rw [if_neg]
  intro z
  exact hq (by unfold WG; omega)
theorem logM_lt {w : Wd} (h : ∃ e, e ≤ 16 ∧ w 16 = nI e) : ∃ m, m ≤ 16 ∧ 1 ≤ m ∧ logM w = nI m := by
  obtain ⟨e, he, h⟩ := h
  unfold logM
  rw [h]
  by_cases q : 16 ≤ e
  · rw [if_pos (show (16 : Int32) ≤ nI e from nI_le (a := 16) q (by omega))]; exact ⟨e, he, by omega, rfl⟩
  · rw [if_neg (show ¬ (16 : Int32) ≤ nI e from nI_ge (b := 16) (by omega) (by omega)), nI_1]; exact ⟨e + 1, by omega, by omega, rfl⟩
theorem logsW_only {w : Wd} {a b c : Int32} (h : ∃ e, e ≤ 16 ∧ w 16 = nI e) : Only WG w (logsW w a b c) := by
  obtain ⟨m, hm, -, e⟩ := logM_lt h
  unfold logsW
  rw [e, nI_clamp (by omega)]
  exact ((((Only.rf (w := w)).up (p := 16) (by unfold WG; omega)).tr (shf_only (by omega))).up (by unfold WG; omega)).up (by unfold WG; omega) |>.up (by unfold WG; omega)
theorem logsW_16 {w : Wd} {a b c : Int32} (h : ∃ e, e ≤ 16 ∧ w 16 = nI e) : ∃ e, e ≤ 16 ∧ logsW w a b c 16 = nI e := by
  obtain ⟨m, hm, -, e⟩ := logM_lt h
  refine ⟨m, hm, ?_⟩
  unfold logsW
  simp (disch := omega) only [pk_un]
  unfold shf
  rw [if_neg (by omega), pk_us, e]
theorem itr_only {A : Nat → Prop} {f : Nat → Wd → Wd} {w : Wd} {N : Nat} (h : ∀ i v, i < N → Only A w v → Only A v (f i v)) : ∀ n, n ≤ N → Only A w (itr f n w)
  | 0, _ => Only.rf
  | n + 1, hn => (itr_only h n (by omega)).tr (h n _ (by omega) (itr_only h n (by omega)))
theorem itr_keep {P : Wd → Prop} {f : Nat → Wd → Wd} {w : Wd} {N : Nat} (h0 : P w) (h : ∀ i v, i < N → P v → P (f i v)) : ∀ n, n ≤ N → P (itr f n w)
  | 0, _ => h0
  | n + 1, hn => h n _ (by omega) (itr_keep h0 h n (by omega))
