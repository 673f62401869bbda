/-! the setup's parsing loop, both sides -/
section LOOP
variable {S : CS} {M : MS} {n p s t nc ns nh : Nat} {w w' : Wd}
/-- the cells that stay while a granary lives: counts and names -/
def WK (q : Nat) : Prop := q < 3 ∨ (65 ≤ q ∧ q < 161 ∧ (q - 65) % 12 < 7) ∨ (161 ≤ q ∧ q < 233 ∧ (q - 161) % 12 < 7)
theorem GR.of {E' : Nat → Nat → Int32} (g : GR S t w) (hc : nC w ≤ 8) (hs : nS w ≤ 6) (h : ∀ q, WK q → w' q = w q) (ev : EvRel E' w') : GR (cw S t (nC w) (nS w) (nH w) w' E') t w' := by
  have e0 : nC w' = nC w := by unfold nC; rw [h 0 (Or.inl (by omega))]
  have e1 : nS w' = nS w := by unfold nS; rw [h 1 (Or.inl (by omega))]
  have e2 : nH w' = nH w := by unfold nH; rw [h 2 (Or.inl (by omega))]
  refine GR.mk (fun o f q ho h4 hq hn => ?_) (ev.cong fun o f ho => ?_) (fun i hi => ?_) (fun i hi => ?_)
  · rw [e0, e1, e2] at hq
    exact cw_rd ho h4 hq hn
  · rcases (show o = 0 ∨ o = 1 ∨ o = 2 ∨ o = 3 by omega) with z | z | z | z
    · subst z; exact (congrFun cer0 f).symm
    · subst z; exact (congrFun cer1 f).symm
    · subst z; exact (congrFun cer2 f).symm
    · subst z; exact (congrFun cer3 f).symm
  · rw [e0] at hi
    exact (g.2.1 i hi).cong (fun j hj => h _ (Or.inr (Or.inl (by omega))))
  · rw [e1] at hi
    exact (g.2.2 i hi).cong (fun j hj => h _ (Or.inr (Or.inr (by omega))))
theorem cw_out {E : Nat → Nat → Int32} {q : Nat} (h : q < t ∨ t + 35 ≤ q) : (cw S t nc ns nh w E).1 q = S.1 q := funext fun f => by
  show (if t ≤ q ∧ q < t + 35 then gv nc ns nh w E (q - t) f (S.1 q f) else S.1 q f) = S.1 q f
  exact if_neg (by omega)
theorem startW_k {c : Nat} (hc : c < 8) (h : w 233 = nI c) {q : Nat} (hq : WK q) : startW ns w q = w q := by
  have h' : stC (stB ns (stA ns w)) (233 + 2 * 0) = nI c := by
    unfold stC stB stA; rw [pk_un (by omega), pk_un (by omega), pk_un (by omega)]; exact h
  unfold startW
  rw [h', nI_c (by omega), swearsInW_only hc q (by unfold WO; unfold WK at hq; omega)]
  unfold stC stB stA
  unfold WK at hq
  rw [pk_un (by omega), pk_un (by omega), pk_un (by omega)]
theorem startW_o {c : Nat} (hc : c < 8) (h : w 233 = nI c) {q : Nat} (hq : ¬ WO q) (h7 : q ≠ 7) (h14 : q ≠ 14) (h15 : q ≠ 15) : startW ns w q = w q := by
  have h' : stC (stB ns (stA ns w)) (233 + 2 * 0) = nI c := by
    unfold stC stB stA; rw [pk_un (by omega), pk_un (by omega), pk_un (by omega)]; exact h
  unfold startW
  rw [h', nI_c (by omega), swearsInW_only hc q hq]
  unfold stC stB stA
  rw [pk_un h7, pk_un h15, pk_un h14]
theorem startW_5 {c : Nat} (hc : c < 8) (h : w 233 = nI c) : startW ns w 5 = nI c := by
  have h' : stC (stB ns (stA ns w)) (233 + 2 * 0) = nI c := by
    unfold stC stB stA; rw [pk_un (by omega), pk_un (by omega), pk_un (by omega)]; exact h
  unfold startW swearsInW
  rw [h', nI_c (by omega), pk_un (by omega), pk_un (by omega), pk_us]
theorem SU_start (u : SU nc ns nh w) (h1 : 1 ≤ nc) (h2 : 1 ≤ ns) (h3 : 1 ≤ nh) : In (startW ns w) := by
  have uc := u
  obtain ⟨⟨a1, a2⟩, ⟨b1, b2⟩, ⟨c1, c2⟩, ⟨d1, d2, d3⟩, e, f, g, hh, i, jj, kk, l⟩ := u
  obtain ⟨c, hc, ec⟩ := i 0 (by omega)
  have h8 : c < 8 := by omega
  have k : ∀ {q}, WK q → startW ns w q = w q := fun hq => startW_k h8 ec hq
  have o : ∀ {q}, ¬ WO q → q ≠ 7 → q ≠ 14 → q ≠ 15 → startW ns w q = w q := fun hq h7 h14 h15 => startW_o h8 ec hq h7 h14 h15
  have k0 : startW ns w 0 = nI nc := (k (Or.inl (by omega))).trans a1
  have k1 : startW ns w 1 = nI ns := (k (Or.inl (by omega))).trans b1
  have k2 : startW ns w 2 = nI nh := (k (Or.inl (by omega))).trans c1
  have eC : nC (startW ns w) = nc := nC_of k0 a2
  have eS : nS (startW ns w) = ns := nS_of k1 b2
  have eH : nH (startW ns w) = nh := nH_of k2 c2
  refine ⟨⟨⟨⟨nc, h1, a2, k0⟩, ⟨ns, h2, b2, k1⟩, ⟨nh, h3, c2, k2⟩, fun j hj => ?_⟩, ⟨Or.inr ⟨c, ?_, startW_5 h8 ec⟩, ⟨0, ?_, ?_⟩, ⟨0, by omega, ?_⟩⟩, fun q hq => ?_, fun q hq => ?_⟩, fun q hq => ?_, ?_⟩
  · rw [eH] at hj
    rw [eC, o (by unfold WO; omega) (by omega) (by omega) (by omega)]
    exact i j hj
  · rw [eC]; exact hc
  · rw [eH]; omega
  · rw [o (by unfold WO; omega) (by omega) (by omega) (by omega), d2, nI_0]
  · rw [o (by unfold WO; omega) (by omega) (by omega) (by omega), d3 16 (by omega) (by omega), nI_0]
  · rw [eS] at hq
    rw [o (by unfold WO; omega) (by omega) (by omega) (by omega)]
    exact kk q hq
  · rw [eS] at hq
    rw [o (by unfold WO; omega) (by omega) (by omega) (by omega), o (by unfold WO; omega) (by omega) (by omega) (by omega)]
    exact l q hq
  · rw [eC] at hq
    rw [o (by unfold WO; omega) (by omega) (by omega) (by omega)]
    exact jj q hq
  · rw [o (by unfold WO; omega) (by omega) (by omega) (by omega)]
    exact g
def Pend (S : CS) (M : MS) (S' : CS) (M' : MS) (r : Int32) : Prop := FC S S' ∧ FM M M' ∧ Er (S'.1 1) M'.1 ∧ ((r = 1 ∧ ∃ nc ns nh, 1 ≤ nc ∧ 1 ≤ ns ∧ 1 ≤ nh ∧ SU nc ns nh (M'.2 0) ∧ GR S' 48 (startW ns (M'.2 0))) ∨ r = 0)
theorem p_end {x' : Nat → Int32} (sy : SY n s x' (S.1 2) M.1 (M.2 8)) (g : GR S 48 (M.2 0)) (u : SU nc ns nh (M.2 0)) : ∃ S' M' r, fX6_parse_52 (tx S x') = some (r, S') ∧ fX11_readText_20 M = some (r, M') ∧ Pend S M S' M' r := by
  have e5 : S.1 48 5 = nI nc := by rw [g.at0 (f := 5) (q := 0) (by unfold cm; simp) (by omega)]; exact u.1.1
  have e6 : S.1 48 6 = nI ns := by rw [g.at0 (f := 6) (q := 1) (by unfold cm; simp) (by omega)]; exact u.2.1.1
  have e7 : S.1 48 7 = nI nh := by rw [g.at0 (f := 7) (q := 2) (by unfold cm; simp) (by omega)]; exact u.2.2.1.1
  have b1 := u.1.2
  have b2 := u.2.1.2
  have b3 := u.2.2.1.2
  have nz : ∀ k, k ≤ 12 → ((nI k = 0) ↔ k = 0) := fun k hk => nI_eq (b := 0) (by omega) (by omega)
  have nl : ∀ k, k ≤ 12 → ((nI k ≤ 0) ↔ k = 0) := fun k hk => ⟨fun h => Classical.byContradiction fun q => (show ¬ nI k ≤ (0 : Int32) from nI_ge (a := 0) (by omega) (by omega)) h, fun h => by rw [h]; decide⟩
  have np : ∀ k, k ≤ 12 → ((0 < nI k) ↔ ¬ k = 0) := fun k hk => ⟨fun h q => by rw [q] at h; exact absurd h (by decide), fun h => nI_lt (a := 0) (by omega) (by omega)⟩
  obtain ⟨x2, y2, f1, f2, er, fr⟩ := s_fail (S := S) (k := 6) sy
  have bad : fX6_parse_82 (tx S x') = some (0, tx S x2) := by rw [fX6_parse_82, f1, Option.bind_some, fX6_parse_91]
  have badr : fX11_readText_47 M = some (0, rx M y2) := by rw [fX11_readText_47, f2, Option.bind_some, fX11_readText_53, if_pos rfl, fX11_readText_60, fX11_readText_61]
  have pe : Pend S M (tx S x2) (rx M y2) 0 := ⟨fun q q1 q3 q4 q5 => ⟨tx_o q1, rfl⟩, ⟨fr, fun j _ _ => rfl⟩, by rw [tx_1, rx_11]; exact er, Or.inr rfl⟩
  rw [fX6_parse_52, fX11_readText_20, gi0, tn0, tx_o (by omega), e5, u.1.1]
  by_cases h1 : nc = 0
  · rw [if_pos ((nz nc (by omega)).mpr h1), if_pos ((nl nc (by omega)).mpr h1)]
    exact ⟨_, _, _, bad, badr, pe⟩
  rw [if_neg (fun z => h1 ((nz nc (by omega)).mp z)), if_neg (fun z => h1 ((nl nc (by omega)).mp z)), fX6_parse_62, fX11_readText_29, gi1, tn1, tx_o (by omega), e6, u.2.1.1]
  by_cases h2 : ns = 0
  · rw [if_pos ((nz ns (by omega)).mpr h2), if_pos ((nl ns (by omega)).mpr h2)]
    exact ⟨_, _, _, bad, badr, pe⟩
  rw [if_neg (fun z => h2 ((nz ns (by omega)).mp z)), if_neg (fun z => h2 ((nl ns (by omega)).mp z)), fX6_parse_72, fX11_readText_38, gi2, tn2, tx_o (by omega), e7, u.2.2.1.1]
  by_cases h3 : nh = 0
  · rw [if_pos ((nz nh (by omega)).mpr h3), if_neg (fun z => (np nh (by omega)).mp z h3)]
    exact ⟨_, _, _, bad, badr, pe⟩
  rw [if_neg (fun z => h3 ((nz nh (by omega)).mp z)), if_pos ((np nh (by omega)).mpr h3), fX6_parse_92, fX11_readText_56, fX11_readText_61]
  have g2 : GR (tx S x') 48 (M.2 0) := g.frame (fun o ho => ⟨tx_o (by omega), rfl⟩) (by rw [u.nC]; exact b1) (by rw [u.nS]; exact b2)
  have g3 := g2
  obtain ⟨⟨E, eE, ev⟩, -⟩ := g3
  obtain ⟨c, hc, ec⟩ := u.2.2.2.2.2.2.2.2.1 0 (by omega)
  rw [u.nC, u.nS, u.nH] at eE
  have cb := c_begin (S := tx S x') (t := 48) (nc := nc) (ns := ns) (nh := nh) (w := M.2 0) (E := E) u.2.1.1 b2 (c := c) ec hc b1 (by omega)
  rw [eE] at cb
  rw [cb, Option.bind_some, fX6_parse_99]
  have go : GR (cw (tx S x') 48 nc ns nh (startW ns (M.2 0)) E) 48 (startW ns (M.2 0)) := by
    have := g2.of (w' := startW ns (M.2 0)) (E' := E) (by rw [u.nC]; exact b1) (by rw [u.nS]; exact b2) (fun q hq => startW_k (by omega) ec hq) (ev.congw fun q h1 h2 => startW_o (by omega) ec (by unfold WO; omega) (by omega) (by omega) (by omega))
    rw [u.nC, u.nS, u.nH] at this
    exact this
  refine ⟨_, M, 1, rfl, rfl, fun q q1 q3 q4 q5 => ⟨?_, rfl⟩, ⟨FrR.refl, fun j _ _ => rfl⟩, ?_, Or.inl ⟨rfl, nc, ns, nh, by omega, by omega, by omega, u, go⟩⟩
  · rw [cw_out (by omega), tx_o q1]
  · rw [cw_out (by omega), tx_1]
    obtain ⟨-, -, -, -, z1, z2, z3, z4⟩ := sy
    exact ⟨z1.trans z3.symm, z2.trans z4.symm⟩
theorem kd_ne {c : Int32} : kdB c ≠ 0 := by
  unfold kdB
  repeat' split
  all_goals omega
theorem SY.endq {x c y b : Nat → Int32} (sy : SY n s x c y b) : (y 17 = 0) ↔ ¬ s < n := by
  rw [sy.2.2.2.1.2.2.2.2]
  have kl := tkK_lt (n := n) (s := s) (K := KM b) KM_lt
  rw [show (nI (if tkK (KM b) n s = 5 then 4 else tkK (KM b) n s) = 0) ↔ (if tkK (KM b) n s = 5 then 4 else tkK (KM b) n s) = 0 from nI_eq (b := 0) (by split <;> omega) (by omega)]
  by_cases h : s < n
  · have : tkK (KM b) n s ≠ 0 := by
      unfold tkK
      rw [if_pos h]
      split
      · omega
      · exact kd_ne
    constructor
    · intro z; split at z <;> omega
    · intro z; exact absurd h z
  · have : tkK (KM b) n s = 0 := by unfold tkK; rw [if_neg h]
    rw [this]; simp [h]
theorem FC.trans {S1 S2 S3 : CS} (a : FC S1 S2) (b : FC S2 S3) : FC S1 S3 := fun q h1 h3 h4 h5 => ⟨((b q h1 h3 h4 h5).1).trans (a q h1 h3 h4 h5).1, ((b q h1 h3 h4 h5).2).trans (a q h1 h3 h4 h5).2⟩
theorem FM.trans {M1 M2 M3 : MS} (a : FM M1 M2) (b : FM M2 M3) : FM M1 M3 := ⟨a.1.trans b.1, fun j h0 h19 => (b.2 j h0 h19).trans (a.2 j h0 h19)⟩
theorem FC.tx {x : Nat → Int32} : FC S (tx S x) := fun q h1 _ _ _ => ⟨tx_o h1, rfl⟩
theorem p_loop : ∀ r i p f f' (S : CS) (M : MS) (nc ns nh : Nat), n ≤ p + r → r < f → r < f' → 3 * i ≤ p → PS n p (S.1 1) (S.1 2) M.1 (M.2 8) → GR S 48 (M.2 0) → SU nc ns nh (M.2 0) → ∃ S' M' q, fX6_parse_16 f S (nI i) = some (q, S') ∧ fX11_readText_4 f' M = some (q, M') ∧ Pend S M S' M' q := by
  intro r
  induction r using Nat.strongRecOn with
  | ind r ih =>
    intro i p f f' S M nc ns nh hr hf hf' hi ps g u
    obtain ⟨f, rfl⟩ : ∃ g, f = g + 1 := ⟨f - 1, by omega⟩
    obtain ⟨f', rfl⟩ : ∃ g, f' = g + 1 := ⟨f' - 1, by omega⟩
    have hp := ps.2.1
    have h600 := ps.1.1
    have hpn := hp.2.2
    obtain ⟨x1, a1, sy⟩ := s_adv (S := S) ps
    rw [fX6_parse_16, fX11_readText_4]
    dsimp only
    rw [hp.1, if_neg (nI_nlt (show i ≤ n by omega) (by omega)), gi_m (show i < 201 by omega) (by omega), fX6_parse_27, a1, Option.bind_some]
    obtain ⟨s, es⟩ : ∃ s, s = skp (KM (M.2 8)) n p := ⟨_, rfl⟩
    rw [← es] at sy a1 ⊢
    have hps : p ≤ s := by rw [es]; exact skp_ge
    have eq := sy.endq
    by_cases q : s < n
    · rw [if_pos q, if_neg (fun z => eq.mp z q), fX11_readText_11]
      dsimp only
      rw [fX6_parse_34, if_neg one0, fX6_parse_37]
      have g2 : GR (tx S x1) 48 (M.2 0) := g.frame (fun o ho => ⟨tx_o (by omega), rfl⟩) (by rw [u.nC]; exact u.1.2) (by rw [u.nS]; exact u.2.1.2)
      obtain ⟨S2, M2, r2, h1, h2, d1, d2, d3⟩ := s_stmt (S := tx S x1) (by rw [tx_1, tx_b]; exact sy) g2 u
      rw [h1, h2, Option.bind_some, Option.bind_some]
      dsimp only
      rw [fX6_parse_41, fX11_readText_15]
      rcases d3 with ⟨e, p2, nc2, ns2, nh2, hp2, ps2, g3, u3⟩ | ⟨e, er⟩
      · rw [if_neg (by rw [e]; decide), if_neg (by rw [e]; decide), fX6_parse_46, nI_1]
        have hn2 : n ≤ 600 := h600
        have hp3 := ps2.2.1.2.2
        obtain ⟨S3, M3, r3, k1, k2, k3, k4, k5, k6⟩ := ih (n - p2) (by omega) (i + 1) p2 f f' S2 M2 nc2 ns2 nh2 (by omega) (by omega) (by omega) (by omega) ps2 g3 u3
        exact ⟨S3, M3, r3, k1, k2, (FC.tx.trans d1).trans k3, d2.trans k4, k5, k6⟩
      · rw [if_pos e, if_pos e, fX6_parse_44, fX11_readText_18]
        exact ⟨S2, M2, 0, rfl, rfl, FC.tx.trans d1, d2, er, Or.inr rfl⟩
    · rw [if_neg q, if_pos (eq.mpr q)]
      dsimp only
      rw [fX6_parse_34, if_pos rfl]
      exact p_end sy g u
end LOOP
