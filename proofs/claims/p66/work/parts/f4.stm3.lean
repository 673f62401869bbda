/-! sacks, shifts, milk and hour, each over its own bytes -/
section FST3
variable {b : Nat → Int32} {n p s : Nat} {l : List Int32} {M : MS}
theorem sg4 {x0 x1 x2 x3 : Int32} (h : Sg b p [x0, x1, x2, x3, 59]) : Sg b p [x0, x1, x2, x3] := fun i hi => by
  rcases (show i = 0 ∨ i = 1 ∨ i = 2 ∨ i = 3 by have : i < 4 := hi; omega) with rfl | rfl | rfl | rfl
  · exact h 0 (by show 0 < 5; omega)
  · exact h 1 (by show 1 < 5; omega)
  · exact h 2 (by show 2 < 5; omega)
  · exact h 3 (by show 3 < 5; omega)
theorem f_sack {ns g m L : Nat} {c : Int32} (t : TX b n) (h : TK M b n p) (h0 : M.2 0 1 = nI ns) (h4 : ns < 6) (nm : NM 161 ns (M.2 0)) (s1 : Sg b p [115, 97, 99, 107, 32, nI (97 + ns), 32]) (hg : g ≤ 999) (s2 : Sg b (p + 7) (dgL g)) (s3 : b (p + 7 + (dgL g).length) = 32) (hm : m ≤ 99) (s5 : Sg b (p + 8 + (dgL g).length) (dgL m)) (s6 : b (p + 8 + (dgL g).length + (dgL m).length) = 32) (s4 : (c = 1 ∧ Sg b (p + 9 + (dgL g).length + (dgL m).length) [111, 112, 101, 110, 59]) ∨ (c = 0 ∧ Sg b (p + 9 + (dgL g).length + (dgL m).length) [115, 104, 117, 116, 59])) (eL : L = 14 + (dgL g).length + (dgL m).length) (hL : p + L ≤ n) (he : p + L < n → kdB (b (p + L)) = 1) :
    ∃ M', fX11_readSetupStatement M = some (1, M') ∧ TK M' b n (p + L) ∧ M'.2 0 1 = nI (ns + 1) ∧ NM 161 (ns + 1) (M'.2 0) ∧ (M'.2 0 (161 + 12 * ns + 7) = nI g ∧ M'.2 0 (161 + 12 * ns + 8) = nI m ∧ M'.2 0 (161 + 12 * ns + 9) = c) ∧ (∀ q, q ≠ 1 → (q < 161 + 12 * ns ∨ 161 + 12 * ns + 10 ≤ q) → M'.2 0 q = M.2 0 q) ∧ (∀ j, j ≠ 0 → j ≠ 19 → M'.2 j = M.2 j) ∧ FrA M M' := by
  have lg := dgL_len (v := g)
  have lm := dgL_len (v := m)
  have kg : kdB (b (p + 7)) = 2 := s2.kd (Nat.le_refl _) (dgL_k (by omega)) 0 lg.1
  have km : kdB (b (p + 8 + (dgL g).length)) = 2 := s5.kd (Nat.le_refl _) (dgL_k (by omega)) 0 lm.1
  generalize ea : p + 7 + (dgL g).length = a1 at s3
  generalize eb : p + 8 + (dgL g).length = a2 at s5 s6 km
  generalize ec : a2 + (dgL m).length = a3 at s6
  have ed : p + 9 + (dgL g).length + (dgL m).length = a3 + 1 := by omega
  rw [ed] at s4
  have eL' : p + L = a3 + 6 := by omega
  have b4 : b (p + 4) = 32 := s1 4 (by show 4 < 7; omega)
  have b5 : b (p + 5) = nI (97 + ns) := s1 5 (by show 5 < 7; omega)
  have b6 : b (p + 6) = 32 := s1 6 (by show 6 < 7; omega)
  have k5 : kdB (b (p + 5)) = 1 := by rw [b5]; exact kd_let (by omega)
  obtain ⟨d0, k0⟩ := tk_run2 (b := b) (n := n) (p := p) (k := 1) (L := 4) (Or.inl rfl) (by omega) (by omega) (s1.kd (by show 4 ≤ 7; omega) (fun i hi => by rcases (show i = 0 ∨ i = 1 ∨ i = 2 ∨ i = 3 by omega) with rfl | rfl | rfl | rfl <;> rfl)) (fun _ => by rw [b4]; decide) (fun _ => by omega) (fun _ => by omega)
  have n0 : nxt b n p = p + 5 := nxt_sp d0 b4 (by omega) (by rw [show p + 4 + 1 = p + 5 by omega, k5]; decide)
  have w0 : wq b (KM b) n p [99, 97, 116] = 0 := wq_ln d0 (by decide)
  have w1 : wq b (KM b) n p [115, 97, 99, 107] = 1 := wq_yes k0 d0 (fun i hi => by
    rcases (show i = 0 ∨ i = 1 ∨ i = 2 ∨ i = 3 by have : i < 4 := hi; omega) with rfl | rfl | rfl | rfl
    · exact s1 0 (by show 0 < 7; omega)
    · exact s1 1 (by show 1 < 7; omega)
    · exact s1 2 (by show 2 < 7; omega)
    · exact s1 3 (by show 3 < 7; omega))
  obtain ⟨M1, e1, g1, m1, f1, -⟩ := f_adv t h
  rw [n0] at g1
  obtain ⟨d5, k5'⟩ := tk_run2 (b := b) (n := n) (p := p + 5) (k := 1) (L := 1) (Or.inl rfl) (by omega) (by omega) (k_one k5) (fun _ => by rw [show p + 5 + 1 = p + 6 by omega, b6]; decide) (fun _ => by omega) (fun _ => by omega)
  have n5 : nxt b n (p + 5) = p + 7 := nxt_sp (e := p + 6) (by rw [d5]) b6 (by omega) (by rw [show p + 6 + 1 = p + 7 by omega, kg]; decide)
  have hv1 := f_here (a := 161) (m := 1) (cnt := ns) (v := ns) (by omega) t g1 k5' d5 b5 (by omega) (by rw [m1]; exact h0) (by omega) (by omega) (by rw [m1]; exact nm)
  rw [if_neg (Nat.lt_irrefl _)] at hv1
  obtain ⟨M2, e2, g2, m2, q2, o2, f2⟩ := f_new (a := 161) (m := 1) (cnt := ns) t g1 k5' d5 (by omega) (by rw [m1]; exact h0) (by omega) (by omega) hv1
  rw [n5] at g2
  obtain ⟨d7, M3, e3, g3, m3, q3, o3, f3⟩ := f_num (kk := 0) (lo := 0) (hi := 999) (by omega) (by omega) t g2 s2 (by omega) (by rw [ea, s3]; decide) (Nat.zero_le _) hg (by omega)
  have n7 : nxt b n (p + 7) = a2 := (nxt_sp (e := a1) (by rw [d7, ea]) s3 (by omega) (by rw [show a1 + 1 = a2 by omega, km]; decide)).trans (by omega)
  rw [n7] at g3
  obtain ⟨d9, M4, e4, g4, m4, q4, o4, f4⟩ := f_num (kk := 1) (lo := 0) (hi := 99) (by omega) (by omega) t g3 s5 (by omega) (by rw [ec, s6]; decide) (Nat.zero_le _) hm (by omega)
  obtain ⟨d10, k10, c01, w2, w3, bk, bw⟩ : tkD (KM b) n (a3 + 1) = a3 + 1 + 4 ∧ tkK (KM b) n (a3 + 1) = 1 ∧ (c = 0 ∨ c = 1) ∧ wq b (KM b) n (a3 + 1) [111, 112, 101, 110] = c ∧ wq b (KM b) n (a3 + 1) [115, 104, 117, 116] = 1 - c ∧ kdB (b (a3 + 1)) = 1 ∧ b (a3 + 1 + 4) = 59 := by
    rcases s4 with ⟨rfl, s4⟩ | ⟨rfl, s4⟩
    · have b12 : b (a3 + 1 + 4) = 59 := s4 4 (by show 4 < 5; omega)
      have bf : b (a3 + 1) = 111 := s4 0 (by show 0 < 5; omega)
      obtain ⟨d8, k8⟩ := tk_run2 (b := b) (n := n) (p := a3 + 1) (k := 1) (L := 4) (Or.inl rfl) (by omega) (by omega) (s4.kd (by show 4 ≤ 5; omega) (fun i hi => by rcases (show i = 0 ∨ i = 1 ∨ i = 2 ∨ i = 3 by omega) with rfl | rfl | rfl | rfl <;> rfl)) (fun _ => by rw [b12]; decide) (fun _ => by omega) (fun _ => by omega)
      exact ⟨d8, k8, Or.inr rfl, wq_yes k8 d8 (sg4 s4), (wq_at (i := 0) (by decide) (by rw [Nat.add_zero, bf]; decide)).trans (by decide), by rw [bf]; rfl, b12⟩
    · have b12 : b (a3 + 1 + 4) = 59 := s4 4 (by show 4 < 5; omega)
      have bf : b (a3 + 1) = 115 := s4 0 (by show 0 < 5; omega)
      obtain ⟨d8, k8⟩ := tk_run2 (b := b) (n := n) (p := a3 + 1) (k := 1) (L := 4) (Or.inl rfl) (by omega) (by omega) (s4.kd (by show 4 ≤ 5; omega) (fun i hi => by rcases (show i = 0 ∨ i = 1 ∨ i = 2 ∨ i = 3 by omega) with rfl | rfl | rfl | rfl <;> rfl)) (fun _ => by rw [b12]; decide) (fun _ => by omega) (fun _ => by omega)
      exact ⟨d8, k8, Or.inl rfl, wq_at (i := 0) (by decide) (by rw [Nat.add_zero, bf]; decide), (wq_yes (l := [115, 104, 117, 116]) k8 d8 (sg4 s4)).trans (by decide), by rw [bf]; rfl, b12⟩
  have n9 : nxt b n a2 = a3 + 1 := nxt_sp (e := a3) (by rw [d9, ec]) s6 (by omega) (by rw [bk]; decide)
  rw [n9] at g4
  have hq : ¬ (c = 0 ∧ 1 - c = 0) := by rcases c01 with rfl | rfl <;> decide
  obtain ⟨M5, e5, g5, m5, q5, o5, f5⟩ := f_choice (kk := 2) (x := c) (y := 1 - c) (by omega) t g4 c01 hq
  have n10 : nxt b n (a3 + 1) = a3 + 5 := (nxt_0 d10 (by omega) (fun _ => by rw [bw]; decide)).trans (by omega)
  rw [n10] at g5
  have w41 : M5.2 0 = spW (M.2 0) (161 + 12 * ns) (p + 5) 1 b 6 := by rw [m5, m4, m3, m2, m1]
  have w40 : M5.2 0 1 = nI ns := by rw [w41, spW_out (by omega)]; exact h0
  have r5 := r_addsSack (M := M5) (w := M5.2 0) (a := 1) (b := nI g) (c := nI m) (d := c) w40 h4
  rw [mw_self] at r5
  obtain ⟨W, eW⟩ : ∃ W, W = upd (upd (upd (upd (upd (M5.2 0) (161 + 12 * ns + 0) 1) (161 + 12 * ns + 7) (nI g)) (161 + 12 * ns + 8) (nI m)) (161 + 12 * ns + 9) c) 1 (nI (ns + 1)) := ⟨_, rfl⟩
  rw [← eW] at r5
  obtain ⟨dz, kz⟩ := tk_semi (b := b) (n := n) (p := a3 + 5) bw (by omega)
  obtain ⟨M6, e6, g6, m6, f6⟩ := f_semi t (g5.u0 (x := W)) kz
  have n11 : nxt b n (a3 + 5) = p + L := nxt_0 (e := p + L) (by rw [dz]; omega) hL (fun z => by rw [he z]; decide)
  rw [n11] at g6
  have m6 : M6.2 = va_up M5.2 0 W := m6
  have m60 : M6.2 0 = W := by rw [m6]; exact vat
  have x3 : M5.2 19 3 = 1 := by rw [q5, q4, q3, q2, pk_un (by omega), pk_un (by omega), pk_un (by omega), pk_us]
  have x0 : M5.2 19 0 = nI g := by rw [q5, q4, q3, pk_un (by omega), pk_un (by omega), pk_us]
  have x1 : M5.2 19 1 = nI m := by rw [q5, q4, pk_un (by omega), pk_us]
  have x2 : M5.2 19 2 = c := by rw [q5, pk_us]
  have e3 : fX11_takes M2 0 0 999 = some (1, M3) := e3
  have e4 : fX11_takes M3 1 0 99 = some (1, M4) := e4
  have e5 : fX11_takesChoice M4 2 c (1 - c) = some (1, M5) := e5
  have e2 : fX11_takesNewName M1 161 1 = some (1, M2) := e2
  have i1 : fX11_isWord M4 [111, 112, 101, 110] = some c := by rw [f_is t g4 (by decide), w2]
  have i2 : fX11_isWord M4 [115, 104, 117, 116] = some (1 - c) := by rw [f_is t g4 (by decide), w3]
  have rc : fX11_readSack M = some (1, M6) := by
    unfold fX11_readSack fX11_readSack_0
    rw [gi1, tn1, h0, if_neg (show ¬ nI ns = 6 from fun z => by have := (nI_eq (b := 6) (by omega) (by omega)).mp z; omega), fX11_readSack_17, e1, Option.bind_some, fX11_readSack_21, e2, Option.bind_some, fX11_readSack_29, if_neg one0, fX11_readSack_32, e3, Option.bind_some, fX11_readSack_41, if_neg one0, fX11_readSack_44, e4, Option.bind_some, fX11_readSack_52, if_neg one0, fX11_readSack_57, i1, Option.bind_some, fX11_readSack_66, i2, Option.bind_some, fX11_readSack_73, e5, Option.bind_some, fX11_readSack_76, if_neg one0, fX11_readSack_81, gj3, gj0, gj1, gj2, tn3, tn0, tn1, tn2, x3, x0, x1, x2, r5, Option.bind_some, fX11_readSack_109, e6, Option.bind_some, fX11_readSack_113]
    exact bz_s (Or.inr rfl)
  refine ⟨M6, ?_, g6, ?_, ?_, ⟨?_, ?_, ?_⟩, ?_, ?_, ?_⟩
  · unfold fX11_readSetupStatement fX11_readSetupStatement_0
    rw [f_is t h (by decide), w0, Option.bind_some, fX11_readSetupStatement_7, if_pos rfl, fX11_readSetupStatement_15, f_is t h (by decide), w1, Option.bind_some, fX11_readSetupStatement_22, if_neg one0, fX11_readSetupStatement_25, rc, Option.bind_some, fX11_readSetupStatement_29]
    exact bz_s (Or.inr rfl)
  · rw [m60, eW, pk_us]
  · intro i hi
    rw [m60, eW]
    by_cases ci : i = ns
    · subst ci
      refine NmOk.one (by omega) ?_ ?_
      · rw [pk_un (by omega), pk_un (by omega), pk_un (by omega), pk_un (by omega)]; exact pk_us
      · rw [pk_un (by omega), pk_un (by omega), pk_un (by omega), pk_un (by omega), pk_un (by omega), w41, spW_in, if_pos (by omega)]; exact b5
    · refine (nm i (by omega)).cong (fun j hj => ?_)
      rw [pk_un (by omega), pk_un (by omega), pk_un (by omega), pk_un (by omega), pk_un (by omega), w41, spW_out (by omega)]
  · rw [m60, eW, pk_un (by omega), pk_un (by omega), pk_un (by omega), pk_us]
  · rw [m60, eW, pk_un (by omega), pk_un (by omega), pk_us]
  · rw [m60, eW, pk_un (by omega), pk_us]
  · intro q q0 hq
    rw [m60, eW, pk_un (by omega), pk_un (by omega), pk_un (by omega), pk_un (by omega), pk_un (by omega), w41, spW_out (by omega)]
  · intro j j0 j19
    rw [m6, show va_up M5.2 0 W j = M5.2 j from vne j0, o5 j j19, o4 j j19, o3 j j19, o2 j j0 j19, m1]
  · exact ((((f1.tr f2).tr f3).tr f4).tr f5).tr f6
theorem f_shift {nc nh cc d L : Nat} (t : TX b n) (h : TK M b n p) (hc : M.2 0 0 = nI nc) (h8 : nc ≤ 8) (hcc : cc < nc) (h0 : M.2 0 2 = nI nh) (h4 : nh < 12) (nm : NM 65 nc (M.2 0)) (s1 : Sg b p [115, 104, 105, 102, 116, 32, nI (97 + cc), 32]) (hd : 1 ≤ d ∧ d ≤ 24) (s2 : Sg b (p + 8) (dgL d)) (s3 : b (p + 8 + (dgL d).length) = 59) (eL : L = 9 + (dgL d).length) (hL : p + L ≤ n) (he : p + L < n → kdB (b (p + L)) = 1) :
    ∃ M', fX11_readSetupStatement M = some (1, M') ∧ TK M' b n (p + L) ∧ M'.2 0 = upd (upd (upd (M.2 0) (233 + 2 * nh) (nI cc)) (233 + 2 * nh + 1) (nI d)) 2 (nI (nh + 1)) ∧ (∀ j, j ≠ 0 → j ≠ 19 → M'.2 j = M.2 j) ∧ FrA M M' := by
  have ld := dgL_len (v := d)
  have kg : kdB (b (p + 8)) = 2 := s2.kd (Nat.le_refl _) (dgL_k (by omega)) 0 ld.1
  have b5 : b (p + 5) = 32 := s1 5 (by show 5 < 8; omega)
  have b6 : b (p + 6) = nI (97 + cc) := s1 6 (by show 6 < 8; omega)
  have b7 : b (p + 7) = 32 := s1 7 (by show 7 < 8; omega)
  have k6 : kdB (b (p + 6)) = 1 := by rw [b6]; exact kd_let (by omega)
  obtain ⟨d0, k0⟩ := tk_run2 (b := b) (n := n) (p := p) (k := 1) (L := 5) (Or.inl rfl) (by omega) (by omega) (s1.kd (by show 5 ≤ 8; omega) (fun i hi => by rcases (show i = 0 ∨ i = 1 ∨ i = 2 ∨ i = 3 ∨ i = 4 by omega) with rfl | rfl | rfl | rfl | rfl <;> rfl)) (fun _ => by rw [b5]; decide) (fun _ => by omega) (fun _ => by omega)
  have n0 : nxt b n p = p + 6 := nxt_sp d0 b5 (by omega) (by rw [show p + 5 + 1 = p + 6 by omega, k6]; decide)
  have w0 : wq b (KM b) n p [99, 97, 116] = 0 := wq_ln d0 (by decide)
  have w1 : wq b (KM b) n p [115, 97, 99, 107] = 0 := wq_ln d0 (by decide)
  have w2 : wq b (KM b) n p [115, 104, 105, 102, 116] = 1 := wq_yes k0 d0 (fun i hi => by
    rcases (show i = 0 ∨ i = 1 ∨ i = 2 ∨ i = 3 ∨ i = 4 by have : i < 5 := hi; omega) with rfl | rfl | rfl | rfl | rfl
    · exact s1 0 (by show 0 < 8; omega)
    · exact s1 1 (by show 1 < 8; omega)
    · exact s1 2 (by show 2 < 8; omega)
    · exact s1 3 (by show 3 < 8; omega)
    · exact s1 4 (by show 4 < 8; omega))
  obtain ⟨M1, e1, g1, m1, f1, -⟩ := f_adv t h
  rw [n0] at g1
  obtain ⟨d6, k6'⟩ := tk_run2 (b := b) (n := n) (p := p + 6) (k := 1) (L := 1) (Or.inl rfl) (by omega) (by omega) (k_one k6) (fun _ => by rw [show p + 6 + 1 = p + 7 by omega, b7]; decide) (fun _ => by omega) (fun _ => by omega)
  have n6 : nxt b n (p + 6) = p + 8 := nxt_sp (e := p + 7) (by rw [d6]) b7 (by omega) (by rw [show p + 7 + 1 = p + 8 by omega, kg]; decide)
  have hv1 := f_here (a := 65) (m := 0) (cnt := nc) (v := cc) (by omega) t g1 k6' d6 b6 (by omega) (by rw [m1]; exact hc) (by omega) (by omega) (by rw [m1]; exact nm)
  rw [if_pos hcc] at hv1
  obtain ⟨M2, e2, g2, m2, q2, o2, f2⟩ := f_known (a := 65) (m := 0) (v := cc) t g1 k6' (by rw [d6]; omega) hv1 (by omega)
  rw [n6] at g2
  obtain ⟨d7, M3, e3, g3, m3, q3, o3, f3⟩ := f_num (kk := 1) (lo := 1) (hi := 24) (by omega) (by omega) t g2 s2 (by omega) (by rw [s3]; decide) hd.1 hd.2 (by omega)
  have n7 : nxt b n (p + 8) = p + 8 + (dgL d).length := nxt_0 d7 (by omega) (fun _ => by rw [s3]; decide)
  rw [n7] at g3
  have w41 : M3.2 0 = M.2 0 := by rw [m3, m2, m1]
  have r5 := r_addsShift (M := M3) (c := nI cc) (h := nI d) (nh := nh) (by rw [w41]; exact h0) h4
  obtain ⟨W, eW⟩ : ∃ W, W = upd (upd (upd (M3.2 0) (233 + 2 * nh) (nI cc)) (233 + 2 * nh + 1) (nI d)) 2 (nI (nh + 1)) := ⟨_, rfl⟩
  rw [← eW] at r5
  have r5 : fX11_addsShift M3 (nI cc) (nI d) = some (mw M3 W) := r5
  obtain ⟨dz, kz⟩ := tk_semi (b := b) (n := n) (p := p + 8 + (dgL d).length) s3 (by omega)
  obtain ⟨M6, e6, g6, m6, f6⟩ := f_semi t (g3.u0 (x := W)) kz
  have n11 : nxt b n (p + 8 + (dgL d).length) = p + L := nxt_0 (e := p + L) (by rw [dz]; omega) hL (fun z => by rw [he z]; decide)
  rw [n11] at g6
  have m6 : M6.2 = va_up M3.2 0 W := m6
  have m60 : M6.2 0 = W := by rw [m6]; exact vat
  have x0 : M3.2 19 0 = nI cc := by rw [q3, q2, pk_un (by omega), pk_us]
  have x1 : M3.2 19 1 = nI d := by rw [q3, pk_us]
  have e3 : fX11_takes M2 1 1 24 = some (1, M3) := e3
  have e2 : fX11_takesKnown M1 65 0 = some (1, M2) := e2
  have rc : fX11_readShift M = some (1, M6) := by
    unfold fX11_readShift fX11_readShift_0
    rw [gi2, tn2, h0, if_neg (show ¬ nI nh = 12 from fun z => by have := (nI_eq (b := 12) (by omega) (by omega)).mp z; omega), fX11_readShift_17, e1, Option.bind_some, fX11_readShift_21, e2, Option.bind_some, fX11_readShift_28, if_neg one0, fX11_readShift_31, e3, Option.bind_some, fX11_readShift_39, if_neg one0, fX11_readShift_44, gj0, gj1, tn0, tn1, x0, x1, r5, Option.bind_some, fX11_readShift_60, e6, Option.bind_some, fX11_readShift_64]
    exact bz_s (Or.inr rfl)
  refine ⟨M6, ?_, g6, by rw [m60, eW, w41], fun j j0 j19 => by rw [m6, show va_up M3.2 0 W j = M3.2 j from vne j0, o3 j j19, o2 j j19, m1], ((f1.tr f2).tr f3).tr f6⟩
  unfold fX11_readSetupStatement fX11_readSetupStatement_0
  rw [f_is t h (by decide), w0, Option.bind_some, fX11_readSetupStatement_7, if_pos rfl, fX11_readSetupStatement_15, f_is t h (by decide), w1, Option.bind_some, fX11_readSetupStatement_22, if_pos rfl, fX11_readSetupStatement_30, f_is t h (by decide), w2, Option.bind_some, fX11_readSetupStatement_37, if_neg one0, fX11_readSetupStatement_40, rc, Option.bind_some, fX11_readSetupStatement_44]
  exact bz_s (Or.inr rfl)
/-- milk or hour: a number into a cell -/
theorem f_cell {a d hi L : Nat} (t : TX b n) (h : TK M b n p) (ha : a < 257) (hhi : hi < 100) (d0 : tkD (KM b) n p = p + 4) (b4 : b (p + 4) = 32) (hd : d ≤ hi) (s2 : Sg b (p + 5) (dgL d)) (s3 : b (p + 5 + (dgL d).length) = 59) (eL : L = 6 + (dgL d).length) (hL : p + L ≤ n) (he : p + L < n → kdB (b (p + L)) = 1) :
    ∃ M', fX11_readCell M (nI a) (nI hi) = some (1, M') ∧ TK M' b n (p + L) ∧ M'.2 0 = upd (M.2 0) a (nI d) ∧ (∀ j, j ≠ 0 → j ≠ 19 → M'.2 j = M.2 j) ∧ FrA M M' := by
  have ld := dgL_len (v := d)
  have kg : kdB (b (p + 5)) = 2 := s2.kd (Nat.le_refl _) (dgL_k (by omega)) 0 ld.1
  have n0 : nxt b n p = p + 5 := nxt_sp d0 b4 (by omega) (by rw [show p + 4 + 1 = p + 5 by omega, kg]; decide)
  obtain ⟨M1, e1, g1, m1, f1, -⟩ := f_adv t h
  rw [n0] at g1
  obtain ⟨d7, M3, e3, g3, m3, q3, o3, f3⟩ := f_num (kk := 0) (lo := 0) (hi := hi) (by omega) (by omega) t g1 s2 (by omega) (by rw [s3]; decide) (Nat.zero_le _) hd (by omega)
  have n7 : nxt b n (p + 5) = p + 5 + (dgL d).length := nxt_0 d7 (by omega) (fun _ => by rw [s3]; decide)
  rw [n7] at g3
  obtain ⟨W, eW⟩ : ∃ W, W = upd (M3.2 0) a (nI d) := ⟨_, rfl⟩
  obtain ⟨dz, kz⟩ := tk_semi (b := b) (n := n) (p := p + 5 + (dgL d).length) s3 (by omega)
  obtain ⟨M6, e6, g6, m6, f6⟩ := f_semi t (g3.u0 (x := W)) kz
  have n11 : nxt b n (p + 5 + (dgL d).length) = p + L := nxt_0 (e := p + L) (by rw [dz]; omega) hL (fun z => by rw [he z]; decide)
  rw [n11] at g6
  have m6 : M6.2 = va_up M3.2 0 W := m6
  have m60 : M6.2 0 = W := by rw [m6]; exact vat
  have x0 : M3.2 19 0 = nI d := by rw [q3, pk_us]
  have e3 : fX11_takes M1 0 0 (nI hi) = some (1, M3) := e3
  refine ⟨M6, ?_, g6, by rw [m60, eW, m3, m1], fun j j0 j19 => by rw [m6, show va_up M3.2 0 W j = M3.2 j from vne j0, o3 j j19, m1], (f1.tr f3).tr f6⟩
  unfold fX11_readCell fX11_readCell_0
  rw [e1, Option.bind_some, fX11_readCell_4, e3, Option.bind_some, fX11_readCell_11, if_neg one0, fX11_readCell_16, gj0, if_pos (nI_in ha (by omega)), tn0, x0, nI_clamp (by omega), ← eW, fX11_readCell_28]
  rw [show ((M3.1, va_up M3.2 0 W) : MS) = mw M3 W from rfl, e6, Option.bind_some, fX11_readCell_32]
  exact bz_s (Or.inr rfl)
theorem f_milk {d L : Nat} (t : TX b n) (h : TK M b n p) (s1 : Sg b p [109, 105, 108, 107, 32]) (hd : d ≤ 9) (s2 : Sg b (p + 5) (dgL d)) (s3 : b (p + 5 + (dgL d).length) = 59) (eL : L = 6 + (dgL d).length) (hL : p + L ≤ n) (he : p + L < n → kdB (b (p + L)) = 1) :
    ∃ M', fX11_readSetupStatement M = some (1, M') ∧ TK M' b n (p + L) ∧ M'.2 0 = upd (M.2 0) 4 (nI d) ∧ (∀ j, j ≠ 0 → j ≠ 19 → M'.2 j = M.2 j) ∧ FrA M M' := by
  have ld := dgL_len (v := d)
  have b4 : b (p + 4) = 32 := s1 4 (by show 4 < 5; omega)
  have b0 : b (p + 0) = 109 := s1 0 (by show 0 < 5; omega)
  obtain ⟨d0, k0⟩ := tk_run2 (b := b) (n := n) (p := p) (k := 1) (L := 4) (Or.inl rfl) (by omega) (by omega) (s1.kd (by show 4 ≤ 5; omega) (fun i hi => by rcases (show i = 0 ∨ i = 1 ∨ i = 2 ∨ i = 3 by omega) with rfl | rfl | rfl | rfl <;> rfl)) (fun _ => by rw [b4]; decide) (fun _ => by omega) (fun _ => by omega)
  obtain ⟨M', e, g, w, o, f⟩ := f_cell (a := 4) (hi := 9) t h (by omega) (by omega) d0 b4 hd s2 s3 eL hL he
  have e : fX11_readCell M 4 9 = some (1, M') := e
  have w0 : wq b (KM b) n p [99, 97, 116] = 0 := wq_ln d0 (by decide)
  have w1 : wq b (KM b) n p [115, 97, 99, 107] = 0 := wq_at (i := 0) (by decide) (by rw [b0]; decide)
  have w2 : wq b (KM b) n p [115, 104, 105, 102, 116] = 0 := wq_ln d0 (by decide)
  have w3 : wq b (KM b) n p [109, 105, 108, 107] = 1 := wq_yes k0 d0 (fun i hi => by
    rcases (show i = 0 ∨ i = 1 ∨ i = 2 ∨ i = 3 by have : i < 4 := hi; omega) with rfl | rfl | rfl | rfl
    · exact s1 0 (by show 0 < 5; omega)
    · exact s1 1 (by show 1 < 5; omega)
    · exact s1 2 (by show 2 < 5; omega)
    · exact s1 3 (by show 3 < 5; omega))
  refine ⟨M', ?_, g, w, o, f⟩
  unfold fX11_readSetupStatement fX11_readSetupStatement_0
  rw [f_is t h (by decide), w0, Option.bind_some, fX11_readSetupStatement_7, if_pos rfl, fX11_readSetupStatement_15, f_is t h (by decide), w1, Option.bind_some, fX11_readSetupStatement_22, if_pos rfl, fX11_readSetupStatement_30, f_is t h (by decide), w2, Option.bind_some, fX11_readSetupStatement_37, if_pos rfl, fX11_readSetupStatement_45, f_is t h (by decide), w3, Option.bind_some, fX11_readSetupStatement_52, if_neg one0, fX11_readSetupStatement_55, e, Option.bind_some, fX11_readSetupStatement_62]
  exact bz_s (Or.inr rfl)
theorem f_hour {d L : Nat} (t : TX b n) (h : TK M b n p) (s1 : Sg b p [104, 111, 117, 114, 32]) (hd : d ≤ 23) (s2 : Sg b (p + 5) (dgL d)) (s3 : b (p + 5 + (dgL d).length) = 59) (eL : L = 6 + (dgL d).length) (hL : p + L ≤ n) (he : p + L < n → kdB (b (p + L)) = 1) :
    ∃ M', fX11_readSetupStatement M = some (1, M') ∧ TK M' b n (p + L) ∧ M'.2 0 = upd (M.2 0) 3 (nI d) ∧ (∀ j, j ≠ 0 → j ≠ 19 → M'.2 j = M.2 j) ∧ FrA M M' := by
  have ld := dgL_len (v := d)
  have b4 : b (p + 4) = 32 := s1 4 (by show 4 < 5; omega)
  have b0 : b (p + 0) = 104 := s1 0 (by show 0 < 5; omega)
  obtain ⟨d0, k0⟩ := tk_run2 (b := b) (n := n) (p := p) (k := 1) (L := 4) (Or.inl rfl) (by omega) (by omega) (s1.kd (by show 4 ≤ 5; omega) (fun i hi => by rcases (show i = 0 ∨ i = 1 ∨ i = 2 ∨ i = 3 by omega) with rfl | rfl | rfl | rfl <;> rfl)) (fun _ => by rw [b4]; decide) (fun _ => by omega) (fun _ => by omega)
  obtain ⟨M', e, g, w, o, f⟩ := f_cell (a := 3) (hi := 23) t h (by omega) (by omega) d0 b4 hd s2 s3 eL hL he
  have e : fX11_readCell M 3 23 = some (1, M') := e
  have w0 : wq b (KM b) n p [99, 97, 116] = 0 := wq_ln d0 (by decide)
  have w1 : wq b (KM b) n p [115, 97, 99, 107] = 0 := wq_at (i := 0) (by decide) (by rw [b0]; decide)
  have w2 : wq b (KM b) n p [115, 104, 105, 102, 116] = 0 := wq_ln d0 (by decide)
  have w3 : wq b (KM b) n p [109, 105, 108, 107] = 0 := wq_at (i := 0) (by decide) (by rw [b0]; decide)
  have w4 : wq b (KM b) n p [104, 111, 117, 114] = 1 := wq_yes k0 d0 (fun i hi => by
    rcases (show i = 0 ∨ i = 1 ∨ i = 2 ∨ i = 3 by have : i < 4 := hi; omega) with rfl | rfl | rfl | rfl
    · exact s1 0 (by show 0 < 5; omega)
    · exact s1 1 (by show 1 < 5; omega)
    · exact s1 2 (by show 2 < 5; omega)
    · exact s1 3 (by show 3 < 5; omega))
  refine ⟨M', ?_, g, w, o, f⟩
  unfold fX11_readSetupStatement fX11_readSetupStatement_0
  rw [f_is t h (by decide), w0, Option.bind_some, fX11_readSetupStatement_7, if_pos rfl, fX11_readSetupStatement_15, f_is t h (by decide), w1, Option.bind_some, fX11_readSetupStatement_22, if_pos rfl, fX11_readSetupStatement_30, f_is t h (by decide), w2, Option.bind_some, fX11_readSetupStatement_37, if_pos rfl, fX11_readSetupStatement_45, f_is t h (by decide), w3, Option.bind_some, fX11_readSetupStatement_52, if_pos rfl, fX11_readSetupStatement_63, f_is t h (by decide), w4, Option.bind_some, fX11_readSetupStatement_70, if_neg one0, fX11_readSetupStatement_73, e, Option.bind_some, fX11_readSetupStatement_80, fX11_readSetupStatement_88]
  exact bz_s (Or.inr rfl)
end FST3
