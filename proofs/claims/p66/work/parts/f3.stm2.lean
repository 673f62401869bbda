/-! the statements of a setup, each over its own bytes -/
section FST2
variable {b : Nat → Int32} {n p s : Nat} {l : List Int32} {M : MS}
theorem kd32 : kdB 32 = 4 := rfl
theorem kd59 : kdB 59 = 3 := rfl
theorem kl1 {l : List Int32} {x : Int32} (h : kdB x = 1) : ¬ kdB x = 4 := by rw [h]; decide
theorem NmOk.one {w : Wd} {a i : Nat} (hi : i < 26) (h0 : w a = nI 1) (h1 : w (a + 1) = nI (97 + i)) : NmOk [nI (97 + i)] w a := ⟨Nat.le_refl _, Nat.le_of_ble_eq_true rfl, h0, fun j hj => by
  obtain rfl : j = 0 := by have : j < 1 := hj; omega
  exact ⟨h1.symm, 97 + i, by omega, by omega, h1⟩⟩
theorem k_one {k : Nat} (h : kdB (b p) = k) : ∀ i, i < 1 → kdB (b (p + i)) = k := fun i hi => by
  have e : i = 0 := by omega
  subst e
  exact h
theorem spW_in {w : Wd} {a L : Nat} : spW w a s L b 6 (a + 1) = if 0 < L then b s else 0 := by
  unfold spW
  rw [if_pos (by omega), Nat.sub_self]
  rfl
theorem spW_out {w : Wd} {a L q : Nat} (h : q < a + 1 ∨ a + 7 ≤ q) : spW w a s L b 6 q = w q := by
  unfold spW
  rw [if_neg (by omega)]
theorem f_cat {nc v L : Nat} {c : Int32} (t : TX b n) (h : TK M b n p) (h0 : M.2 0 0 = nI nc) (h4 : nc < 8) (nm : NM 65 nc (M.2 0)) (s1 : Sg b p [99, 97, 116, 32, nI (97 + nc), 32]) (hv : 1 ≤ v ∧ v ≤ 9) (s2 : Sg b (p + 6) (dgL v)) (s3 : b (p + 7) = 32) (s4 : (c = 1 ∧ L = 13 ∧ Sg b (p + 8) [108, 101, 102, 116, 59]) ∨ (c = 0 ∧ L = 14 ∧ Sg b (p + 8) [114, 105, 103, 104, 116, 59])) (hL : p + L ≤ n) (he : p + L < n → kdB (b (p + L)) = 1) :
    ∃ M', fX11_readSetupStatement M = some (1, M') ∧ TK M' b n (p + L) ∧ M'.2 0 0 = nI (nc + 1) ∧ NM 65 (nc + 1) (M'.2 0) ∧ M'.2 0 (65 + 12 * nc + 7) = nI v ∧ M'.2 0 (65 + 12 * nc + 8) = c ∧ (∀ q, q ≠ 0 → (q < 65 + 12 * nc ∨ 65 + 12 * nc + 9 ≤ q) → M'.2 0 q = M.2 0 q) ∧ (∀ j, j ≠ 0 → j ≠ 19 → M'.2 j = M.2 j) ∧ FrA M M' := by
  have hn13 : p + 13 ≤ n := by rcases s4 with ⟨-, r, -⟩ | ⟨-, r, -⟩ <;> omega
  have b3 : b (p + 3) = 32 := s1 3 (by show 3 < 6; omega)
  have b4 : b (p + 4) = nI (97 + nc) := s1 4 (by show 4 < 6; omega)
  have b5 : b (p + 5) = 32 := s1 5 (by show 5 < 6; omega)
  have b6 : kdB (b (p + 6)) = 2 := s2.kd (Nat.le_refl _) (dgL_k (by omega)) 0 dgL_len.1
  have k4 : kdB (b (p + 4)) = 1 := by rw [b4]; exact kd_let (by omega)
  obtain ⟨d0, k0⟩ := tk_run2 (b := b) (n := n) (p := p) (k := 1) (L := 3) (Or.inl rfl) (by omega) (by omega) (s1.kd (by show 3 ≤ 6; omega) (fun i hi => by rcases (show i = 0 ∨ i = 1 ∨ i = 2 by omega) with rfl | rfl | rfl <;> rfl)) (fun _ => by rw [b3]; decide) (fun _ => by omega) (fun _ => by omega)
  have n0 : nxt b n p = p + 4 := nxt_sp d0 b3 (by omega) (by rw [show p + 3 + 1 = p + 4 by omega, k4]; decide)
  have w0 : wq b (KM b) n p [99, 97, 116] = 1 := wq_yes k0 d0 (fun i hi => by
    rcases (show i = 0 ∨ i = 1 ∨ i = 2 by have : i < 3 := hi; omega) with rfl | rfl | rfl
    · exact s1 0 (by show 0 < 6; omega)
    · exact s1 1 (by show 1 < 6; omega)
    · exact s1 2 (by show 2 < 6; omega))
  obtain ⟨M1, e1, g1, m1, f1, -⟩ := f_adv t h
  rw [n0] at g1
  obtain ⟨d4, k4'⟩ := tk_run2 (b := b) (n := n) (p := p + 4) (k := 1) (L := 1) (Or.inl rfl) (by omega) (by omega) (k_one k4) (fun _ => by rw [show p + 4 + 1 = p + 5 by omega, b5]; decide) (fun _ => by omega) (fun _ => by omega)
  have n4 : nxt b n (p + 4) = p + 6 := nxt_sp (e := p + 5) (by rw [d4]) b5 (by omega) (by rw [show p + 5 + 1 = p + 6 by omega, b6]; decide)
  have hv1 := f_here (a := 65) (m := 0) (cnt := nc) (v := nc) (by omega) t g1 k4' d4 b4 (by omega) (by rw [m1]; exact h0) (by omega) (by omega) (by rw [m1]; exact nm)
  rw [if_neg (Nat.lt_irrefl _)] at hv1
  obtain ⟨M2, e2, g2, m2, q2, o2, f2⟩ := f_new (a := 65) (m := 0) (cnt := nc) t g1 k4' d4 (by omega) (by rw [m1]; exact h0) (by omega) (by omega) hv1
  rw [n4] at g2
  have l1 : (dgL v).length = 1 := dgL_1 (by omega)
  obtain ⟨d6, M3, e3, g3, m3, q3, o3, f3⟩ := f_num (kk := 0) (lo := 1) (hi := 9) (by omega) (by omega) t g2 s2 (by omega) (by rw [l1, show p + 6 + 1 = p + 7 by omega, s3]; decide) hv.1 hv.2 (by omega)
  obtain ⟨wl, hwl, hLw, d8, k8, c01, w1, w2, b8, bw⟩ : ∃ wl, wl ≤ 5 ∧ L = 9 + wl ∧ tkD (KM b) n (p + 8) = p + 8 + wl ∧ tkK (KM b) n (p + 8) = 1 ∧ (c = 0 ∨ c = 1) ∧ wq b (KM b) n (p + 8) [108, 101, 102, 116] = c ∧ wq b (KM b) n (p + 8) [114, 105, 103, 104, 116] = 1 - c ∧ kdB (b (p + 8)) = 1 ∧ b (p + 8 + wl) = 59 := by
    rcases s4 with ⟨rfl, r, s4⟩ | ⟨rfl, r, s4⟩
    · have b12 : b (p + 8 + 4) = 59 := s4 4 (by show 4 < 5; omega)
      obtain ⟨d8, k8⟩ := tk_run2 (b := b) (n := n) (p := p + 8) (k := 1) (L := 4) (Or.inl rfl) (by omega) (by omega) (s4.kd (by show 4 ≤ 5; omega) (fun i hi => by rcases (show i = 0 ∨ i = 1 ∨ i = 2 ∨ i = 3 by omega) with rfl | rfl | rfl | rfl <;> rfl)) (fun _ => by rw [b12]; decide) (fun _ => by omega) (fun _ => by omega)
      refine ⟨4, by omega, by omega, d8, k8, Or.inr rfl, wq_yes k8 d8 (fun i hi => ?_), wq_ln d8 (by decide), by rw [show b (p + 8) = 108 from s4 0 (by show 0 < 5; omega)]; rfl, b12⟩
      rcases (show i = 0 ∨ i = 1 ∨ i = 2 ∨ i = 3 by have : i < 4 := hi; omega) with rfl | rfl | rfl | rfl
      · exact s4 0 (by show 0 < 5; omega)
      · exact s4 1 (by show 1 < 5; omega)
      · exact s4 2 (by show 2 < 5; omega)
      · exact s4 3 (by show 3 < 5; omega)
    · have b13 : b (p + 8 + 5) = 59 := s4 5 (by show 5 < 6; omega)
      obtain ⟨d8, k8⟩ := tk_run2 (b := b) (n := n) (p := p + 8) (k := 1) (L := 5) (Or.inl rfl) (by omega) (by omega) (s4.kd (by show 5 ≤ 6; omega) (fun i hi => by rcases (show i = 0 ∨ i = 1 ∨ i = 2 ∨ i = 3 ∨ i = 4 by omega) with rfl | rfl | rfl | rfl | rfl <;> rfl)) (fun _ => by rw [b13]; decide) (fun _ => by omega) (fun _ => by omega)
      refine ⟨5, by omega, by omega, d8, k8, Or.inl rfl, wq_ln d8 (by decide), (wq_yes (l := [114, 105, 103, 104, 116]) k8 d8 (fun i hi => ?_)).trans (by decide), by rw [show b (p + 8) = 114 from s4 0 (by show 0 < 6; omega)]; rfl, b13⟩
      rcases (show i = 0 ∨ i = 1 ∨ i = 2 ∨ i = 3 ∨ i = 4 by have : i < 5 := hi; omega) with rfl | rfl | rfl | rfl | rfl
      · exact s4 0 (by show 0 < 6; omega)
      · exact s4 1 (by show 1 < 6; omega)
      · exact s4 2 (by show 2 < 6; omega)
      · exact s4 3 (by show 3 < 6; omega)
      · exact s4 4 (by show 4 < 6; omega)
  have n6 : nxt b n (p + 6) = p + 8 := nxt_sp (e := p + 7) (by rw [d6, l1]) s3 (by omega) (by rw [show p + 7 + 1 = p + 8 by omega, b8]; decide)
  rw [n6] at g3
  have hq : ¬ (c = 0 ∧ 1 - c = 0) := by rcases c01 with rfl | rfl <;> decide
  obtain ⟨M4, e4, g4, m4, q4, o4, f4⟩ := f_choice (kk := 1) (x := c) (y := 1 - c) (by omega) t g3 c01 hq
  have n8 : nxt b n (p + 8) = p + 8 + wl := nxt_0 d8 (by omega) (fun _ => by rw [bw]; decide)
  rw [n8] at g4
  have w41 : M4.2 0 = spW (M.2 0) (65 + 12 * nc) (p + 4) 1 b 6 := by rw [m4, m3, m2, m1]
  have w40 : M4.2 0 0 = nI nc := by rw [w41, spW_out (by omega)]; exact h0
  have r5 := r_addsCat (M := M4) (w := M4.2 0) (a := 1) (b := nI v) (c := c) w40 h4
  rw [mw_self] at r5
  obtain ⟨W, eW⟩ : ∃ W, W = upd (upd (upd (upd (M4.2 0) (65 + 12 * nc + 0) 1) (65 + 12 * nc + 7) (nI v)) (65 + 12 * nc + 8) c) 0 (nI (nc + 1)) := ⟨_, rfl⟩
  rw [← eW] at r5
  obtain ⟨dz, kz⟩ := tk_semi (b := b) (n := n) (p := p + 8 + wl) bw (by omega)
  obtain ⟨M6, e6, g6, m6, f6⟩ := f_semi t (g4.u0 (x := W)) kz
  have n9 : nxt b n (p + 8 + wl) = p + L := nxt_0 (e := p + L) (by rw [dz]; omega) hL (fun z => by rw [he z]; decide)
  rw [n9] at g6
  have m6 : M6.2 = va_up M4.2 0 W := m6
  have m60 : M6.2 0 = W := by rw [m6]; exact vat
  have a3 : M4.2 19 3 = 1 := by rw [q4, q3, q2, pk_un (by omega), pk_un (by omega), pk_us]
  have a0 : M4.2 19 0 = nI v := by rw [q4, q3, pk_un (by omega), pk_us]
  have a1 : M4.2 19 1 = c := by rw [q4, pk_us]
  have e3 : fX11_takes M2 0 1 9 = some (1, M3) := e3
  have e4 : fX11_takesChoice M3 1 c (1 - c) = some (1, M4) := e4
  have e2 : fX11_takesNewName M1 65 0 = some (1, M2) := e2
  have i1 : fX11_isWord M3 [108, 101, 102, 116] = some c := by rw [f_is t g3 (by decide), w1]
  have i2 : fX11_isWord M3 [114, 105, 103, 104, 116] = some (1 - c) := by rw [f_is t g3 (by decide), w2]
  have rc : fX11_readCat M = some (1, M6) := by
    unfold fX11_readCat fX11_readCat_0
    rw [gi0, tn0, h0, if_neg (show ¬ nI nc = 8 from fun z => by have := (nI_eq (b := 8) (by omega) (by omega)).mp z; omega), fX11_readCat_17, e1, Option.bind_some, fX11_readCat_21, e2, Option.bind_some, fX11_readCat_28, if_neg one0, fX11_readCat_31, e3, Option.bind_some, fX11_readCat_39, if_neg one0, fX11_readCat_42, i1, Option.bind_some, fX11_readCat_50, i2, Option.bind_some, fX11_readCat_56, e4, Option.bind_some, fX11_readCat_59, if_neg one0, fX11_readCat_64, gj3, gj0, gj1, tn3, tn0, tn1, a3, a0, a1, r5, Option.bind_some, fX11_readCat_86, e6, Option.bind_some, fX11_readCat_90]
    exact bz_s (Or.inr rfl)
  refine ⟨M6, ?_, g6, ?_, ?_, ?_, ?_, ?_, ?_, ?_⟩
  · unfold fX11_readSetupStatement fX11_readSetupStatement_0
    rw [f_is t h (by decide), w0, Option.bind_some, fX11_readSetupStatement_7, if_neg one0, fX11_readSetupStatement_10, rc, Option.bind_some, fX11_readSetupStatement_14]
    exact bz_s (Or.inr rfl)
  · rw [m60, eW, pk_us]
  · intro i hi
    rw [m60, eW]
    by_cases ci : i = nc
    · subst ci
      refine NmOk.one (by omega) ?_ ?_
      · rw [pk_un (by omega), pk_un (by omega), pk_un (by omega)]; exact pk_us
      · rw [pk_un (by omega), pk_un (by omega), pk_un (by omega), pk_un (by omega), w41, spW_in, if_pos (by omega)]; exact b4
    · refine (nm i (by omega)).cong (fun j hj => ?_)
      rw [pk_un (by omega), pk_un (by omega), pk_un (by omega), pk_un (by omega), w41, spW_out (by omega)]
  · rw [m60, eW, pk_un (by omega), pk_un (by omega), pk_us]
  · rw [m60, eW, pk_un (by omega), pk_us]
  · intro q q0 hq
    rw [m60, eW, pk_un (by omega), pk_un (by omega), pk_un (by omega), pk_un (by omega), w41, spW_out (by omega)]
  · intro j j0 j19
    rw [m6, show va_up M4.2 0 W j = M4.2 j from vne j0, o4 j j19, o3 j j19, o2 j j0 j19, m1]
  · exact (((f1.tr f2).tr f3).tr f4).tr f6
end FST2
