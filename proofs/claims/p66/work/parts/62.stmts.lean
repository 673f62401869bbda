/-! a statement of the setup, both sides -/
section STMTS
variable {S : CS} {M : MS} {n p s nc ns nh : Nat} {w : Wd}
theorem wq_len {b : Nat → Int32} {K : Nat → Nat} {l : List Int32} (h : ¬ wq b K n s l = 0) (h3 : 3 ≤ l.length) : s + 3 ≤ tkD K n s := by
  unfold wq at h
  split at h
  · rename_i q
    have : s ≤ tkD K n s := tkD_ge
    omega
  · exact absurd rfl h
theorem Done.r01 {S' : CS} {M' : MS} {r : Int32} (d : Done S M n s S' M' r) : r = 0 ∨ r = 1 := by
  obtain ⟨-, -, ⟨h, -⟩ | ⟨h, -⟩⟩ := d
  · exact Or.inr h
  · exact Or.inl h
theorem s_stmt (sy : SY n s (S.1 1) (S.1 2) M.1 (M.2 8)) (g : GR S 48 (M.2 0)) (u : SU nc ns nh (M.2 0)) : ∃ S' M' r, fX6_readStatement S = some (r, S') ∧ fX11_readSetupStatement M = some (r, M') ∧ Done S M n s S' M' r := by
  have cw : ∀ l : List Int32, l.length ≤ 8 → fX8_isWord S l = some (wq (M.2 8) (KM (M.2 8)) n s l) := fun l hl => sy.cw hl
  have rw' : ∀ l : List Int32, l.length ≤ 8 → fX11_isWord M l = some (wq (M.2 8) (KM (M.2 8)) n s l) := fun l hl => r_isWord sy.2.2.2.1 sy.1.1 KM_lt hl
  unfold fX6_readStatement fX6_readStatement_0 fX11_readSetupStatement fX11_readSetupStatement_0
  rw [cw [99, 97, 116] (by decide), rw' [99, 97, 116] (by decide), Option.bind_some, Option.bind_some, fX6_readStatement_9, fX11_readSetupStatement_7]
  by_cases q1 : wq (M.2 8) (KM (M.2 8)) n s [99, 97, 116] = 0
  case neg =>
    obtain ⟨S', M', r, h1, h2, d⟩ := s_cat sy (wq_len q1 (by decide)) g u
    refine ⟨S', M', r, ?_, ?_, d⟩
    · rw [if_neg q1, fX6_readStatement_12, h1, Option.bind_some, fX6_readStatement_16]; exact bz_s d.r01
    · rw [if_neg q1, fX11_readSetupStatement_10, h2, Option.bind_some, fX11_readSetupStatement_14]; exact bz_s d.r01
  rw [if_pos q1, if_pos q1, fX6_readStatement_17, fX11_readSetupStatement_15, cw [115, 97, 99, 107] (by decide), rw' [115, 97, 99, 107] (by decide), Option.bind_some, Option.bind_some, fX6_readStatement_26, fX11_readSetupStatement_22]
  by_cases q2 : wq (M.2 8) (KM (M.2 8)) n s [115, 97, 99, 107] = 0
  case neg =>
    obtain ⟨S', M', r, h1, h2, d⟩ := s_sack sy (wq_len q2 (by decide)) g u
    refine ⟨S', M', r, ?_, ?_, d⟩
    · rw [if_neg q2, fX6_readStatement_29, h1, Option.bind_some, fX6_readStatement_33]; exact bz_s d.r01
    · rw [if_neg q2, fX11_readSetupStatement_25, h2, Option.bind_some, fX11_readSetupStatement_29]; exact bz_s d.r01
  rw [if_pos q2, if_pos q2, fX6_readStatement_34, fX11_readSetupStatement_30, cw [115, 104, 105, 102, 116] (by decide), rw' [115, 104, 105, 102, 116] (by decide), Option.bind_some, Option.bind_some, fX6_readStatement_43, fX11_readSetupStatement_37]
  by_cases q3 : wq (M.2 8) (KM (M.2 8)) n s [115, 104, 105, 102, 116] = 0
  case neg =>
    obtain ⟨S', M', r, h1, h2, d⟩ := s_shift sy (wq_len q3 (by decide)) g u
    refine ⟨S', M', r, ?_, ?_, d⟩
    · rw [if_neg q3, fX6_readStatement_46, h1, Option.bind_some, fX6_readStatement_50]; exact bz_s d.r01
    · rw [if_neg q3, fX11_readSetupStatement_40, h2, Option.bind_some, fX11_readSetupStatement_44]; exact bz_s d.r01
  rw [if_pos q3, if_pos q3, fX6_readStatement_51, fX11_readSetupStatement_45, cw [109, 105, 108, 107] (by decide), rw' [109, 105, 108, 107] (by decide), Option.bind_some, Option.bind_some, fX6_readStatement_60, fX11_readSetupStatement_52]
  by_cases q4 : wq (M.2 8) (KM (M.2 8)) n s [109, 105, 108, 107] = 0
  case neg =>
    obtain ⟨S', M', r, h1, h2, d⟩ := s_milk sy (wq_len q4 (by decide)) g u
    refine ⟨S', M', r, ?_, ?_, d⟩
    · rw [if_neg q4, fX6_readStatement_63, h1, Option.bind_some, fX6_readStatement_67]; exact bz_s d.r01
    · rw [if_neg q4, fX11_readSetupStatement_55, h2, Option.bind_some, fX11_readSetupStatement_62]; exact bz_s d.r01
  rw [if_pos q4, if_pos q4, fX6_readStatement_68, fX11_readSetupStatement_63, cw [104, 111, 117, 114] (by decide), rw' [104, 111, 117, 114] (by decide), Option.bind_some, Option.bind_some, fX6_readStatement_77, fX11_readSetupStatement_70]
  by_cases q5 : wq (M.2 8) (KM (M.2 8)) n s [104, 111, 117, 114] = 0
  case neg =>
    obtain ⟨S', M', r, h1, h2, d⟩ := s_hour sy (wq_len q5 (by decide)) g u
    refine ⟨S', M', r, ?_, ?_, d⟩
    · rw [if_neg q5, fX6_readStatement_80, h1, Option.bind_some, fX6_readStatement_84, fX6_readStatement_95]; exact bz_s d.r01
    · rw [if_neg q5, fX11_readSetupStatement_73, h2, Option.bind_some, fX11_readSetupStatement_80, fX11_readSetupStatement_88]; exact bz_s d.r01
  obtain ⟨x2, y2, f1, f2, er, fr⟩ := s_fail (S := S) (k := 1) sy
  rw [tx_self] at f1
  refine ⟨tx S x2, rx M y2, 0, ?_, ?_, fun q q1 q3 q4 q5 => ⟨tx_o q1, rfl⟩, ⟨fr, fun j _ _ => rfl⟩, Or.inr ⟨rfl, by rw [tx_1, rx_11]; exact er⟩⟩
  · rw [if_pos q5, fX6_readStatement_87, f1, Option.bind_some]; rfl
  · rw [if_pos q5, fX11_readSetupStatement_83, f2, Option.bind_some]; rfl
end STMTS
