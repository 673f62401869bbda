/-! a cat's statement, word by word -/
section FCAT
variable {b : Nat → Int32} {n p s k : Nat} {l : List Int32} {M : MS}
theorem Sg.kd {L : Nat} (h : Sg b p l) (hl : L ≤ l.length) (hk : ∀ i, i < L → kdB (l.getD i 0) = k) : ∀ i, i < L → kdB (b (p + i)) = k := fun i hi => by rw [h i (by omega)]; exact hk i hi
theorem kd_let {j : Nat} (h : j < 26) : kdB (nI (97 + j)) = 1 := (by decide +kernel : ∀ k : Fin 26, kdB (nI (97 + k.val)) = 1) ⟨j, h⟩
theorem kd_dig {j : Nat} (h : j < 10) : kdB (nI (48 + j)) = 2 := (by decide +kernel : ∀ k : Fin 10, kdB (nI (48 + k.val)) = 2) ⟨j, h⟩
theorem nxt_sp {e : Nat} (hd : tkD (KM b) n s = e) (h1 : b e = 32) (he : e < n) (h : ¬ kdB (b (e + 1)) = 4) : nxt b n s = e + 1 := by
  unfold nxt
  rw [hd]
  exact skp_1 h1 he (fun _ => h)
theorem nxt_0 {e : Nat} (hd : tkD (KM b) n s = e) (he : e ≤ n) (h : e < n → ¬ kdB (b e) = 4) : nxt b n s = e := by
  unfold nxt
  rw [hd]
  exact skp_0 h he
/-- the digits of a number below 1000 -/
def dgL (v : Nat) : List Int32 := if v < 10 then [nI (48 + v)] else if v < 100 then [nI (48 + v / 10), nI (48 + v % 10)] else [nI (48 + v / 100), nI (48 + v / 10 % 10), nI (48 + v % 10)]
theorem dgL_len {v : Nat} : 1 ≤ (dgL v).length ∧ (dgL v).length ≤ 3 := by
  unfold dgL
  repeat' split
  all_goals exact ⟨Nat.le_of_ble_eq_true rfl, Nat.le_of_ble_eq_true rfl⟩
theorem dgL_1 {v : Nat} (h : v < 10) : (dgL v).length = 1 := by unfold dgL; rw [if_pos h]; rfl
theorem dgL_k {v : Nat} (h : v < 1000) : ∀ i, i < (dgL v).length → kdB ((dgL v).getD i 0) = 2 := by
  unfold dgL
  repeat' split
  · intro i hi
    obtain rfl : i = 0 := by have : i < 1 := hi; omega
    exact kd_dig (by omega)
  · intro i hi
    rcases (show i = 0 ∨ i = 1 by have : i < 2 := hi; omega) with rfl | rfl
    · exact kd_dig (by omega)
    · exact kd_dig (by omega)
  · intro i hi
    rcases (show i = 0 ∨ i = 1 ∨ i = 2 by have : i < 3 := hi; omega) with rfl | rfl | rfl
    · exact kd_dig (by omega)
    · exact kd_dig (by omega)
    · exact kd_dig (by omega)
theorem i48 {x y : Nat} : 10 * nI x + nI (48 + y) - 48 = nI (10 * x + y) := by
  rw [show (10 : Int32) * nI x = nI (10 * x) from pk_mul 10 x, nI_add]
  exact (pk_sub (a := 10 * x + (48 + y)) (b := 48) (by omega)).trans (congrArg nI (by omega))
theorem num_dg {v : Nat} (h : v < 1000) (sg : Sg b s (dgL v)) : numV b s (dgL v).length = nI v := by
  unfold dgL at sg ⊢
  by_cases c1 : v < 10
  · rw [if_pos c1] at sg ⊢
    have e0 : b (s + 0) = nI (48 + v) := sg 0 (by show 0 < 1; omega)
    show 10 * numV b s 0 + b (s + 0) - 48 = nI v
    rw [e0, show numV b s 0 = nI 0 from rfl, i48]
    exact congrArg nI (by omega)
  · rw [if_neg c1] at sg ⊢
    by_cases c2 : v < 100
    · rw [if_pos c2] at sg ⊢
      have e0 : b (s + 0) = nI (48 + v / 10) := sg 0 (by show 0 < 2; omega)
      have e1 : b (s + 1) = nI (48 + v % 10) := sg 1 (by show 1 < 2; omega)
      show 10 * (10 * numV b s 0 + b (s + 0) - 48) + b (s + 1) - 48 = nI v
      rw [e0, e1, show numV b s 0 = nI 0 from rfl, i48, i48]
      exact congrArg nI (by omega)
    · rw [if_neg c2] at sg ⊢
      have e0 : b (s + 0) = nI (48 + v / 100) := sg 0 (by show 0 < 3; omega)
      have e1 : b (s + 1) = nI (48 + v / 10 % 10) := sg 1 (by show 1 < 3; omega)
      have e2 : b (s + 2) = nI (48 + v % 10) := sg 2 (by show 2 < 3; omega)
      show 10 * (10 * (10 * numV b s 0 + b (s + 0) - 48) + b (s + 1) - 48) + b (s + 2) - 48 = nI v
      rw [e0, e1, e2, show numV b s 0 = nI 0 from rfl, i48, i48, i48]
      exact congrArg nI (by omega)
theorem f_num {v lo hi kk : Nat} (hkk : kk < 4) (hv : v < 1000) (t : TX b n) (h : TK M b n s) (sg : Sg b s (dgL v)) (hn : s + (dgL v).length < n) (he : ¬ kdB (b (s + (dgL v).length)) = 2) (h1 : lo ≤ v) (h2 : v ≤ hi) (h3 : hi < 2 ^ 31) : tkD (KM b) n s = s + (dgL v).length ∧ ∃ M', fX11_takes M (nI kk) (nI lo) (nI hi) = some (1, M') ∧ TK M' b n (nxt b n s) ∧ M'.2 0 = M.2 0 ∧ M'.2 19 = upd (M.2 19) kk (nI v) ∧ (∀ j, j ≠ 19 → M'.2 j = M.2 j) ∧ FrA M M' := by
  have hl := dgL_len (v := v)
  have kk2 := sg.kd (Nat.le_refl _) (dgL_k hv)
  obtain ⟨d1, d2⟩ := tk_run2 (b := b) (n := n) (p := s) (k := 2) (L := (dgL v).length) (Or.inr rfl) hl.1 (by omega) kk2 (fun _ => he) (fun z => by omega) (fun _ => by omega)
  have hV : tkV b (KM b) n s = nI v := by
    unfold tkV
    have hs0 : KM b s = 2 := kk2 0 (by omega)
    have e : tkE (KM b) n s = s + (dgL v).length := by
      unfold tkD at d1
      rw [if_pos (by omega)] at d1
      exact d1
    rw [if_pos ⟨by omega, hs0⟩, e, Nat.add_sub_cancel_left, Nat.min_eq_left (by omega)]
    exact num_dg hv sg
  exact ⟨d1, f_takes hkk t h d2 hV h1 h2 h3⟩
/-- the names: one letter each, in their order -/
def NM (a cnt : Nat) (w : Wd) : Prop := ∀ i, i < cnt → NmOk [nI (97 + i)] w (a + 12 * i)
theorem fnd_none {g : Nat → Int32} : ∀ r i, (∀ j, i ≤ j → j < i + r → g j = 0) → fnd g r i = -1
  | 0, _, _ => rfl
  | r + 1, i, h => by
    show (if g i = 0 then fnd g r (i + 1) else nI i) = -1
    rw [if_pos (h i (Nat.le_refl _) (by omega))]
    exact fnd_none r (i + 1) (fun j a c => h j (by omega) (by omega))
theorem fnd_at {g : Nat → Int32} {v : Nat} (hv : ¬ g v = 0) : ∀ r i, i ≤ v → v < i + r → (∀ j, j < v → g j = 0) → fnd g r i = nI v
  | 0, _, _, _, _ => by omega
  | r + 1, i, h1, h2, h => by
    show (if g i = 0 then fnd g r (i + 1) else nI i) = nI v
    by_cases c : i = v
    · subst c
      rw [if_neg hv]
    · rw [if_pos (h i (by omega))]
      exact fnd_at hv r (i + 1) (by omega) (by omega) h
theorem wq_let {i v : Nat} (hv : v < 26) (hi : i < 26) (hk : tkK (KM b) n s = 1) (hd : tkD (KM b) n s = s + 1) (hb : b s = nI (97 + v)) : wq b (KM b) n s [nI (97 + i)] = if i = v then 1 else 0 := by
  by_cases c : i = v
  · subst c
    rw [if_pos rfl]
    exact wq_yes hk hd (fun j hj => by
      obtain rfl : j = 0 := by have : j < 1 := hj; omega
      exact hb)
  · rw [if_neg c]
    exact wq_at (i := 0) (show 0 < 1 by omega) (fun z => c (by
      have z : b s = nI (97 + i) := z
      rw [hb] at z
      have := (nI_eq (by omega) (by omega)).mp z
      omega))
theorem f_here {a m cnt v : Nat} (hm : m < 257) (t : TX b n) (h : TK M b n s) (hk : tkK (KM b) n s = 1) (hd : tkD (KM b) n s = s + 1) (hb : b s = nI (97 + v)) (hv : v < 26) (hc : M.2 0 m = nI cnt) (h8 : cnt ≤ 8) (ha : a + 12 * cnt ≤ 257) (nm : NM a cnt (M.2 0)) : fX11_nameHere M (nI a) (nI m) = some (if v < cnt then nI v else -1) := by
  have r := r_nameHere (M := M) (K := KM b) (n := n) (s := s) (a := a) (m := m) (nc := cnt) (F := fun i => [nI (97 + i)]) (by rw [h.1]; exact h.2.1) t.1 hk (by omega) hm hc h8 ha nm
  rw [r, h.1]
  refine congrArg some ?_
  have hw : ∀ i, i < 26 → wq b (KM b) n s [nI (97 + i)] = if i = v then 1 else 0 := fun i hi => wq_let hv hi hk hd hb
  by_cases c : v < cnt
  · rw [if_pos c]
    refine fnd_at ?_ cnt 0 (Nat.zero_le _) (by omega) (fun j hj => ?_)
    · show ¬ wq b (KM b) n s [nI (97 + v)] = 0
      rw [hw v hv, if_pos rfl]; exact one0
    · show wq b (KM b) n s [nI (97 + j)] = 0
      rw [hw j (by omega), if_neg (by omega)]
  · rw [if_neg c]
    refine fnd_none cnt 0 (fun j _ hj => ?_)
    show wq b (KM b) n s [nI (97 + j)] = 0
    rw [hw j (by omega), if_neg (by omega)]
end FCAT
