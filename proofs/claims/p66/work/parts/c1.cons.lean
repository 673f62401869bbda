/-! the books balance: kept by every step of an hour and by every change -/
section CONSK
variable {w v : Wd} {n c k : Nat} {g g' : Nat → Int32}
theorem sumA_x (d : Int32) : ∀ (r i : Nat) (x : Int32), sumA g r i (x + d) = sumA g r i x + d
  | 0, _, _ => rfl
  | r + 1, i, x => by
    show sumA g r (i + 1) (x + d + g i) = sumA g r (i + 1) (x + g i) + d
    rw [show x + d + g i = x + g i + d by ac_rfl]
    exact sumA_x d r (i + 1) (x + g i)
theorem sumA_c : ∀ (r i : Nat) (x : Int32), (∀ j, i ≤ j → j < i + r → g' j = g j) → sumA g' r i x = sumA g r i x
  | 0, _, _, _ => rfl
  | r + 1, i, x, h => by
    show sumA g' r (i + 1) (x + g' i) = sumA g r (i + 1) (x + g i)
    rw [h i (Nat.le_refl _) (by omega)]
    exact sumA_c r (i + 1) _ (fun j h1 h2 => h j (by omega) (by omega))
theorem sumA_1 {d : Int32} (h1 : g' k = g k + d) (h2 : ∀ j, j ≠ k → g' j = g j) : ∀ (r i : Nat) (x : Int32), i ≤ k → k < i + r → sumA g' r i x = sumA g r i x + d
  | 0, i, _, a, b => absurd b (by omega)
  | r + 1, i, x, a, b => by
    show sumA g' r (i + 1) (x + g' i) = sumA g r (i + 1) (x + g i) + d
    by_cases e : i = k
    · subst e
      rw [h1, sumA_c r (i + 1) _ (fun j h3 _ => h2 j (by omega)), show x + (g i + d) = x + g i + d by ac_rfl]
      exact sumA_x d r (i + 1) (x + g i)
    · rw [h2 i e]
      exact sumA_1 h1 h2 r (i + 1) _ (by omega) (by omega)
theorem sumA_l : ∀ (r i : Nat) (x : Int32), sumA g (r + 1) i x = sumA g r i x + g (i + r)
  | 0, _, _ => rfl
  | r + 1, i, x => by
    show sumA g (r + 1) (i + 1) (x + g i) = sumA g r (i + 1) (x + g i) + g (i + (r + 1))
    rw [sumA_l r (i + 1), show i + 1 + r = i + (r + 1) by omega]
theorem bk_sum : ∀ (n : Nat) (x : Int32), bkA g n x = sumA g n 0 x
  | 0, _ => rfl
  | n + 1, x => by
    show bkA g n (x + g n) = _
    rw [bk_sum n, sumA_x, sumA_l, Nat.zero_add]
def Q (f n : Nat) (w : Wd) : Int32 := sumA (fun j => w (161 + 12 * j + f)) n 0 0
def P (f c : Nat) (w : Wd) : Int32 := sumA (fun j => w (65 + 12 * j + f)) c 0 0
def KB (n c : Nat) (w : Wd) : Prop := Q 8 n w = w 14 + w 10 - w 8 - w 11 ∧ Q 10 n w = w 9 ∧ Q 7 n w = w 15 - w 9 ∧ P 10 c w = w 8 ∧ P 11 c w = w 12
theorem Q_c {f : Nat} (h : ∀ j, j < n → v (161 + 12 * j + f) = w (161 + 12 * j + f)) : Q f n v = Q f n w := sumA_c _ _ _ (fun j _ hj => h j (by omega))
theorem P_c {f : Nat} (h : ∀ j, j < c → v (65 + 12 * j + f) = w (65 + 12 * j + f)) : P f c v = P f c w := sumA_c _ _ _ (fun j _ hj => h j (by omega))
theorem Q_up {f : Nat} {x d : Int32} (hk : k < n) (hx : x = w (161 + 12 * k + f) + d) : Q f n (upd w (161 + 12 * k + f) x) = Q f n w + d := sumA_1 (k := k) (by rw [pk_us, hx]) (fun j hj => by rw [pk_un (by omega)]) _ _ _ (Nat.zero_le _) (by omega)
theorem P_up {f : Nat} {x d : Int32} (hk : k < c) (hx : x = w (65 + 12 * k + f) + d) : P f c (upd w (65 + 12 * k + f) x) = P f c w + d := sumA_1 (k := k) (by rw [pk_us, hx]) (fun j hj => by rw [pk_un (by omega)]) _ _ _ (Nat.zero_le _) (by omega)
theorem Q_n {f p : Nat} {x : Int32} (h : ∀ j, j < n → 161 + 12 * j + f ≠ p) : Q f n (upd w p x) = Q f n w := Q_c (fun j hj => pk_un (h j hj))
theorem P_n {f p : Nat} {x : Int32} (h : ∀ j, j < c → 65 + 12 * j + f ≠ p) : P f c (upd w p x) = P f c w := P_c (fun j hj => pk_un (h j hj))
def KW (q : Nat) : Prop := q = 8 ∨ q = 9 ∨ q = 10 ∨ q = 11 ∨ q = 12 ∨ q = 14 ∨ q = 15 ∨ (65 ≤ q ∧ q < 161 ∧ ((q - 65) % 12 = 10 ∨ (q - 65) % 12 = 11)) ∨ (161 ≤ q ∧ q < 233 ∧ ((q - 161) % 12 = 7 ∨ (q - 161) % 12 = 8 ∨ (q - 161) % 12 = 10))
theorem KB.cong (hn : n ≤ 6) (hc : c ≤ 8) (h : ∀ q, KW q → v q = w q) (kb : KB n c w) : KB n c v := by
  obtain ⟨a, b, d, e, f⟩ := kb
  refine ⟨?_, ?_, ?_, ?_, ?_⟩
  · rw [Q_c (fun j hj => h _ (by unfold KW; omega)), h 14 (by unfold KW; omega), h 10 (by unfold KW; omega), h 8 (by unfold KW; omega), h 11 (by unfold KW; omega)]; exact a
  · rw [Q_c (fun j hj => h _ (by unfold KW; omega)), h 9 (by unfold KW; omega)]; exact b
  · rw [Q_c (fun j hj => h _ (by unfold KW; omega)), h 15 (by unfold KW; omega), h 9 (by unfold KW; omega)]; exact d
  · rw [P_c (fun j hj => h _ (by unfold KW; omega)), h 8 (by unfold KW; omega)]; exact e
  · rw [P_c (fun j hj => h _ (by unfold KW; omega)), h 12 (by unfold KW; omega)]; exact f
theorem KB.only {A : Nat → Prop} (hn : n ≤ 6) (hc : c ≤ 8) (o : Only A w v) (hA : ∀ q, A q → ¬ KW q) (kb : KB n c w) : KB n c v := kb.cong hn hc (fun q hq => o q (fun z => hA q z hq))
theorem KB.eat {e : Int32} (hk : k < n) (hn : n ≤ 6) (kb : KB n c w) (hc : c ≤ 8) : KB n c (eatW w k e) := by
  obtain ⟨a, b, d, f, g⟩ := kb
  unfold eatW
  refine ⟨?_, ?_, ?_, ?_, ?_⟩
  · rw [Q_n (fun j hj => by omega), Q_n (fun j hj => by omega), Q_n (fun j hj => by omega), a]
    simp (disch := omega) only [pk_un]
  · rw [Q_n (fun j hj => by omega), Q_up (d := e) hk (by rw [pk_un (by omega)]), Q_n (fun j hj => by omega), b, pk_us]
  · rw [Q_n (fun j hj => by omega), Q_n (fun j hj => by omega), Q_up (d := -e) hk (Int32.sub_eq_add_neg _ _), d, pk_us]
    simp (disch := omega) only [pk_un, Int32.sub_eq_add_neg, Int32.neg_add]
    ac_rfl
  · rw [P_n (fun j hj => by omega), P_n (fun j hj => by omega), P_n (fun j hj => by omega), f]
    simp (disch := omega) only [pk_un]
  · rw [P_n (fun j hj => by omega), P_n (fun j hj => by omega), P_n (fun j hj => by omega), g]
    simp (disch := omega) only [pk_un]
theorem KB.starve {x : Int32} (hk : k < n) (hn : n ≤ 6) (kb : KB n c w) (hc : c ≤ 8) : KB n c (starveW w k x) := by
  obtain ⟨a, b, d, f, g⟩ := kb
  unfold starveW
  refine ⟨?_, ?_, ?_, ?_, ?_⟩
  · rw [Q_n (fun j hj => by omega), Q_up (d := -x) hk (Int32.sub_eq_add_neg _ _), a, pk_us]
    simp (disch := omega) only [pk_un, Int32.sub_eq_add_neg, Int32.neg_add]
    ac_rfl
  · rw [Q_n (fun j hj => by omega), Q_n (fun j hj => by omega), b]
    simp (disch := omega) only [pk_un]
  · rw [Q_n (fun j hj => by omega), Q_n (fun j hj => by omega), d]
    simp (disch := omega) only [pk_un]
  · rw [P_n (fun j hj => by omega), P_n (fun j hj => by omega), f]
    simp (disch := omega) only [pk_un]
  · rw [P_n (fun j hj => by omega), P_n (fun j hj => by omega), g]
    simp (disch := omega) only [pk_un]
theorem KB.moves {j : Nat} (hk : k < n) (hj : j < n) (hkj : j ≠ k) (hn : n ≤ 6) (kb : KB n c w) (hc : c ≤ 8) : KB n c (movesW w k j) := by
  have k2 : KB n c (upd (upd w (161 + 12 * j + 8) (w (161 + 12 * j + 8) + w (161 + 12 * k + 8))) (161 + 12 * k + 8) 0) := by
    obtain ⟨a, b, d, f, g⟩ := kb
    refine ⟨?_, ?_, ?_, ?_, ?_⟩
    · rw [Q_up (d := -(w (161 + 12 * k + 8))) hk (by rw [pk_un (by omega), Int32.add_right_neg]), Q_up (d := w (161 + 12 * k + 8)) hj rfl, a]
      simp (disch := omega) only [pk_un]
      rw [Int32.add_assoc, Int32.add_right_neg, Int32.add_zero]
    · rw [Q_n (fun j hj => by omega), Q_n (fun j hj => by omega), b]
      simp (disch := omega) only [pk_un]
    · rw [Q_n (fun j hj => by omega), Q_n (fun j hj => by omega), d]
      simp (disch := omega) only [pk_un]
    · rw [P_n (fun j hj => by omega), P_n (fun j hj => by omega), f]
      simp (disch := omega) only [pk_un]
    · rw [P_n (fun j hj => by omega), P_n (fun j hj => by omega), g]
      simp (disch := omega) only [pk_un]
  unfold movesW
  dsimp only
  split
  · exact k2
  · exact k2.starve hj hn hc
theorem KB.eats (h1 : w 1 = nI n) (hk : k < n) (hn : n ≤ 6) (kb : KB n c w) (hc : c ≤ 8) : KB n c (eatsW w k) := by
  unfold eatsW
  dsimp only
  generalize (if w (161 + 12 * k + 7) < w (161 + 12 * k + 8) then w (161 + 12 * k + 7) else w (161 + 12 * k + 8)) = e
  have k3 := kb.eat (e := e) hk hn hc
  have o1 : eatW w k e 1 = nI n := (eatW_only (w := w) (e := e) (show k < 6 by omega) 1 (by unfold WE; omega)).trans h1
  split
  · exact k3
  · split
    · split
      · unfold tailW
        rcases nextW_in o1 hn hk with z | ⟨i, i1, i2, i3, -⟩
        · rw [if_pos z]; exact k3.starve hk hn hc
        · rw [i3, if_neg (nI_nem (by omega)), nI_clamp (by omega)]
          exact k3.moves hk i1 i2 hn hc
      · unfold tailW
        rw [if_pos rfl]; exact k3.starve hk hn hc
    · exact k3
theorem KB.breeds (hk : k < n) (hn : n ≤ 6) (kb : KB n c w) (hc : c ≤ 8) : KB n c (breedsW w k) := by
  obtain ⟨a, b, d, f, g⟩ := kb
  unfold breedsW
  dsimp only
  generalize (if 99 - w (161 + 12 * k + 8) < w (161 + 12 * k + 8) / 2 then 99 - w (161 + 12 * k + 8) else w (161 + 12 * k + 8) / 2) = x
  refine ⟨?_, ?_, ?_, ?_, ?_⟩
  · rw [Q_n (fun j hj => by omega), Q_up (d := x) hk rfl, a, pk_us]
    simp (disch := omega) only [pk_un, Int32.sub_eq_add_neg]
    ac_rfl
  · rw [Q_n (fun j hj => by omega), Q_n (fun j hj => by omega), b]
    simp (disch := omega) only [pk_un]
  · rw [Q_n (fun j hj => by omega), Q_n (fun j hj => by omega), d]
    simp (disch := omega) only [pk_un]
  · rw [P_n (fun j hj => by omega), P_n (fun j hj => by omega), f]
    simp (disch := omega) only [pk_un]
  · rw [P_n (fun j hj => by omega), P_n (fun j hj => by omega), g]
    simp (disch := omega) only [pk_un]
theorem KB.hunt {s : Nat} {x : Int32} (hk : k < n) (hs : s < c) (hn : n ≤ 6) (kb : KB n c w) (hc : c ≤ 8) : KB n c (huntU w s k x) := by
  obtain ⟨a, b, d, f, g⟩ := kb
  unfold huntU
  refine ⟨?_, ?_, ?_, ?_, ?_⟩
  · rw [Q_n (fun j hj => by omega), Q_n (fun j hj => by omega), Q_n (fun j hj => by omega), Q_up (d := -x) hk (Int32.sub_eq_add_neg _ _), a]
    simp (disch := omega) only [pk_un, pk_us, Int32.sub_eq_add_neg, Int32.neg_add]
    ac_rfl
  · rw [Q_n (fun j hj => by omega), Q_n (fun j hj => by omega), Q_n (fun j hj => by omega), Q_n (fun j hj => by omega), b]
    simp (disch := omega) only [pk_un]
  · rw [Q_n (fun j hj => by omega), Q_n (fun j hj => by omega), Q_n (fun j hj => by omega), Q_n (fun j hj => by omega), d]
    simp (disch := omega) only [pk_un]
  · rw [P_n (fun j hj => by omega), P_n (fun j hj => by omega), P_up (d := x) hs (by rw [pk_un (by omega)]), P_n (fun j hj => by omega), f]
    simp (disch := omega) only [pk_un, pk_us]
  · rw [P_n (fun j hj => by omega), P_n (fun j hj => by omega), P_n (fun j hj => by omega), P_n (fun j hj => by omega), g]
    simp (disch := omega) only [pk_un]
theorem KB.swear {s : Nat} (hs : s < c) (hn : n ≤ 6) (kb : KB n c w) (hc : c ≤ 8) : KB n c (swearsInW w s) := by
  obtain ⟨a, b, d, f, g⟩ := kb
  unfold swearsInW
  refine ⟨?_, ?_, ?_, ?_, ?_⟩
  · rw [Q_n (fun j hj => by omega), Q_n (fun j hj => by omega), Q_n (fun j hj => by omega), a]
    simp (disch := omega) only [pk_un]
  · rw [Q_n (fun j hj => by omega), Q_n (fun j hj => by omega), Q_n (fun j hj => by omega), b]
    simp (disch := omega) only [pk_un]
  · rw [Q_n (fun j hj => by omega), Q_n (fun j hj => by omega), Q_n (fun j hj => by omega), d]
    simp (disch := omega) only [pk_un]
  · rw [P_n (fun j hj => by omega), P_n (fun j hj => by omega), P_n (fun j hj => by omega), f]
    simp (disch := omega) only [pk_un]
  · rw [P_up (d := 1) hs (by rw [pk_un (by omega), pk_un (by omega)]), P_n (fun j hj => by omega), P_n (fun j hj => by omega), g]
    simp (disch := omega) only [pk_un, pk_us]
theorem KB.logs {x y z : Int32} (hl : ∃ e, e ≤ 16 ∧ w 16 = nI e) (hn : n ≤ 6) (hc : c ≤ 8) (kb : KB n c w) : KB n c (logsW w x y z) := kb.only hn hc (logsW_only hl) (fun q hq => by unfold WG at hq; unfold KW; omega)
theorem KB.up {p : Nat} {x : Int32} (hp : ¬ KW p) (hn : n ≤ 6) (hc : c ≤ 8) (kb : KB n c w) : KB n c (upd w p x) := kb.only (A := fun q => q = p) hn hc (Only.rf.up rfl) (fun q hq => by subst hq; exact hp)
theorem KB.itrs {f : Nat → Wd → Wd} {N : Nat} (kb : KB n c w) (h1 : w 1 = nI n) (hf : ∀ k v, k < N → v 1 = nI n → KB n c v → f k v 1 = nI n ∧ KB n c (f k v)) : ∀ i, i ≤ N → itr f i w 1 = nI n ∧ KB n c (itr f i w)
  | 0, _ => ⟨h1, kb⟩
  | i + 1, hi => hf i _ (by omega) (KB.itrs kb h1 hf i (by omega)).1 (KB.itrs kb h1 hf i (by omega)).2
theorem KB.hour (ok : Ok w) (kb : KB (nS w) (nC w) w) : KB (nS w) (nC w) (hourW w) := by
  have z := ok.1.sz
  have hn := z.2.1.2.1
  have hc := z.1.2.1
  have h1 := z.2.1.2.2
  have h0 := z.1.2.2
  generalize nS w = n at kb hn h1 ⊢
  generalize nC w = c at kb hc h0 ⊢
  have okE := hourE_ok ok
  have okB := hourB_ok okE
  have kE : hourE w 1 = nI n ∧ KB n c (hourE w) := by
    unfold hourE
    have k0 : KB n c (upd w 3 (w 3 + 1)) := kb.up (by unfold KW; omega) hn hc
    rw [nS_of h1 hn]
    refine KB.itrs (N := n) k0 (by rw [pk_un (by omega)]; exact h1) (fun k v hk v1 kv => ⟨(eatsW_only v1 hn hk 1 (by unfold WE; omega)).trans v1, kv.eats v1 hk hn hc⟩) n (Nat.le_refl _)
  have kB : hourB (hourE w) 1 = nI n ∧ KB n c (hourB (hourE w)) := by
    unfold hourB
    split
    · rw [nS_of kE.1 hn]
      exact KB.itrs (N := n) kE.2 kE.1 (fun k v hk v1 kv => ⟨(breedsW_only (show k < 6 by omega) 1 (by unfold WE; omega)).trans v1, kv.breeds hk hn hc⟩) n (Nat.le_refl _)
    · exact kE
  have b0 : hourB (hourE w) 0 = nI c := (hourB_only okE.1 0 (by unfold WE; omega)).trans ((hourE_only ok.1 0 (by unfold WE; omega)).trans h0)
  unfold hourW
  generalize hourB (hourE w) = b at okB kB b0 ⊢
  have b16 := okB.2.1.2.2
  have b5 : b 5 = -1 ∨ ∃ s, s < c ∧ b 5 = nI s := by
    have := okB.2.1.1
    rw [nC_of b0 hc] at this
    exact this
  have kH : KB n c (huntsW b).2 := by
    unfold huntsW
    rcases b5 with b5 | ⟨s, hs, b5⟩
    · rw [if_pos b5]; exact kB.2
    · rw [if_neg (by rw [b5]; exact nI_nem (by omega))]
      rcases huntedW_in (w := b) kB.1 hn with e | ⟨i, hi, e, -, -⟩
      · rw [if_pos e]; exact kB.2
      · rw [if_neg (by rw [e]; exact nI_nem (by omega)), b5, e, nI_clamp (by omega), nI_clamp (by omega)]
        refine KB.logs ?_ hn hc (kB.2.hunt hi hs hn hc)
        unfold huntU
        exact e16_up (by omega) (e16_up (by omega) (e16_up (by omega) (e16_up (by omega) b16)))
  have okH := (hourH_ok okB).1
  have kR : KB n c (hourH b) := by
    have oR := hourR_only (w := (huntsW b).2) (h := (huntsW b).1)
    have hdh : Hd (huntsW b).2 := Hd.only (huntsW_only okB.1 okB.2.1) (fun q h => by unfold WH WG at h; omega) okB.1
    exact kH.only hn hc (oR hdh) (fun q hq => by unfold WR at hq; unfold KW; omega)
  have u0 : hourH b 0 = nI c := (hourH_only okB.1 okB.2.1 0 (by unfold WH WG WR; omega)).trans b0
  generalize hourH b = u at okH kR u0 ⊢
  have u16 := okH.2.1.2.2
  have uS : KB n c (shiftW u) := by
    unfold shiftW
    split
    · have z2 := okH.1.sz
      have hx : nextSh u < nH u := by unfold nextSh; exact Nat.mod_lt _ z2.2.2.1
      obtain ⟨k, hk, ek⟩ := okH.1.2.2.2 _ hx
      rw [nC_of u0 hc] at hk
      rw [ek, nI_clamp (by omega)]
      have ku : KB n c (upd (upd (upd u 7 (u 7 - 1)) 6 (nI (nextSh u))) 7 (u (233 + 2 * nextSh u + 1))) := ((kR.up (by unfold KW; omega) hn hc).up (by unfold KW; omega) hn hc).up (by unfold KW; omega) hn hc
      have k16 : ∃ e, e ≤ 16 ∧ upd (upd (upd u 7 (u 7 - 1)) 6 (nI (nextSh u))) 7 (u (233 + 2 * nextSh u + 1)) 16 = nI e := e16_up (by omega) (e16_up (by omega) (e16_up (by omega) u16))
      generalize upd (upd (upd u 7 (u 7 - 1)) 6 (nI (nextSh u))) 7 (u (233 + 2 * nextSh u + 1)) = x at ku k16
      have r := KB.logs (x := 3) (y := nI k) (z := x 5) (e16_up (p := 13) (x := x 13 + 1) (by omega) (e16_up (p := 5) (x := -1) (by omega) k16)) hn hc ((ku.up (p := 5) (x := -1) (by unfold KW; omega) hn hc).up (p := 13) (x := x 13 + 1) (by unfold KW; omega) hn hc)
      have sI : KB n c (logsW (swearsInW x k) 2 (nI k) (x 5)) := by
        refine KB.logs ?_ hn hc (ku.swear hk hn hc)
        unfold swearsInW
        exact e16_up (by omega) (e16_up (by omega) (e16_up (by omega) k16))
      unfold swearsW
      split
      · exact ku
      · split
        · exact r
        · split
          · exact sI
          · split
            · exact r
            · exact sI
    · exact kR.up (by unfold KW; omega) hn hc
  have okS := shiftW_ok okH
  have s0 : shiftW u 0 = nI c := (shiftW_only okH.1 okH.2.1 0 (by unfold WO WG; omega)).trans u0
  generalize shiftW u = x at okS uS s0 ⊢
  unfold hourD
  split
  · unfold dawnW
    obtain ⟨c1, c2⟩ := dawn_cat okS.1 okS.2.1
    rw [nC_of s0 hc] at c1
    have od := dawnR_only okS.1
    have ki := uS.only hn hc od (fun q hq => by unfold WR at hq; unfold KW; omega)
    have hl : ∃ e, e ≤ 16 ∧ itr (fun k v => restW v k (x 4)) (nC x) x 16 = nI e := by
      rw [od 16 (by unfold WR; omega)]
      exact okS.2.1.2.2
    generalize itr (fun k v => restW v k (x 4)) (nC x) x = y at ki hl
    generalize (x (233 + 2 * (x 6).toNatClampNeg)).toNatClampNeg = k at c1
    unfold dawnE
    split
    · split
      · exact ki.logs hl hn hc
      · refine KB.logs ?_ hn hc (ki.swear c1 hn hc)
        unfold swearsInW
        exact e16_up (by omega) (e16_up (by omega) (e16_up (by omega) hl))
    · exact ki.logs hl hn hc
  · exact uS
end CONSK
