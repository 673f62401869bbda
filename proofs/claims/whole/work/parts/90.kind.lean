/-! the script's keywords, both sides -/
section KIND
variable {S : CS} {M : MS} {n s : Nat}
theorem s_kind (sy : SY n s (S.1 1) (S.1 2) M.1 (M.2 8)) : (fX5_kindOfStatement S = some (-1) ∧ fX11_scriptHere M = some 0) ∨ ∃ d : Nat, d < 7 ∧ s + 3 ≤ tkD (KM (M.2 8)) n s ∧ fX5_kindOfStatement S = some (nI d) ∧ fX11_scriptHere M = some (nI (d + 1)) := by
  have cw : ∀ l : List Int32, l.length ≤ 8 → fX8_isWord S l = some (wq (M.2 8) (KM (M.2 8)) n s l) := fun l hl => sy.cw hl
  have rw' : ∀ l : List Int32, l.length ≤ 8 → fX11_isWord M l = some (wq (M.2 8) (KM (M.2 8)) n s l) := fun l hl => r_isWord sy.2.2.2.1 sy.1.1 KM_lt hl
  unfold fX5_kindOfStatement fX5_kindOfStatement_0 fX11_scriptHere fX11_scriptHere_0
  rw [cw [119, 97, 105, 116] (by decide), rw' [119, 97, 105, 116] (by decide), Option.bind_some, Option.bind_some, fX5_kindOfStatement_9, fX11_scriptHere_7]
  by_cases q0 : wq (M.2 8) (KM (M.2 8)) n s [119, 97, 105, 116] = 0
  case neg =>
    right
    rw [if_neg q0, if_neg q0, fX5_kindOfStatement_12, fX11_scriptHere_10]
    exact ⟨0, by omega, wq_len q0 (by decide), rfl, rfl⟩
  rw [if_pos q0, if_pos q0, fX5_kindOfStatement_14, fX11_scriptHere_12, cw [111, 112, 101, 110] (by decide), rw' [111, 112, 101, 110] (by decide), Option.bind_some, Option.bind_some, fX5_kindOfStatement_23, fX11_scriptHere_19]
  by_cases q1 : wq (M.2 8) (KM (M.2 8)) n s [111, 112, 101, 110] = 0
  case neg =>
    right
    rw [if_neg q1, if_neg q1, fX5_kindOfStatement_26, fX11_scriptHere_22]
    exact ⟨1, by omega, wq_len q1 (by decide), rfl, rfl⟩
  rw [if_pos q1, if_pos q1, fX5_kindOfStatement_28, fX11_scriptHere_24, cw [115, 104, 117, 116] (by decide), rw' [115, 104, 117, 116] (by decide), Option.bind_some, Option.bind_some, fX5_kindOfStatement_37, fX11_scriptHere_31]
  by_cases q2 : wq (M.2 8) (KM (M.2 8)) n s [115, 104, 117, 116] = 0
  case neg =>
    right
    rw [if_neg q2, if_neg q2, fX5_kindOfStatement_40, fX11_scriptHere_34]
    exact ⟨2, by omega, wq_len q2 (by decide), rfl, rfl⟩
  rw [if_pos q2, if_pos q2, fX5_kindOfStatement_42, fX11_scriptHere_36, cw [109, 105, 99, 101] (by decide), rw' [109, 105, 99, 101] (by decide), Option.bind_some, Option.bind_some, fX5_kindOfStatement_51, fX11_scriptHere_43]
  by_cases q3 : wq (M.2 8) (KM (M.2 8)) n s [109, 105, 99, 101] = 0
  case neg =>
    right
    rw [if_neg q3, if_neg q3, fX5_kindOfStatement_54, fX11_scriptHere_46]
    exact ⟨3, by omega, wq_len q3 (by decide), rfl, rfl⟩
  rw [if_pos q3, if_pos q3, fX5_kindOfStatement_56, fX11_scriptHere_48, cw [103, 114, 97, 105, 110] (by decide), rw' [103, 114, 97, 105, 110] (by decide), Option.bind_some, Option.bind_some, fX5_kindOfStatement_65, fX11_scriptHere_55]
  by_cases q4 : wq (M.2 8) (KM (M.2 8)) n s [103, 114, 97, 105, 110] = 0
  case neg =>
    right
    rw [if_neg q4, if_neg q4, fX5_kindOfStatement_68, fX11_scriptHere_58]
    exact ⟨4, by omega, wq_len q4 (by decide), rfl, rfl⟩
  rw [if_pos q4, if_pos q4, fX5_kindOfStatement_70, fX11_scriptHere_60, cw [100, 105, 115, 109, 105, 115, 115] (by decide), rw' [100, 105, 115, 109, 105, 115, 115] (by decide), Option.bind_some, Option.bind_some, fX5_kindOfStatement_79, fX11_scriptHere_67]
  by_cases q5 : wq (M.2 8) (KM (M.2 8)) n s [100, 105, 115, 109, 105, 115, 115] = 0
  case neg =>
    right
    rw [if_neg q5, if_neg q5, fX5_kindOfStatement_82, fX11_scriptHere_70]
    exact ⟨5, by omega, wq_len q5 (by decide), rfl, rfl⟩
  rw [if_pos q5, if_pos q5, fX5_kindOfStatement_84, fX11_scriptHere_73, cw [109, 105, 108, 107] (by decide), rw' [109, 105, 108, 107] (by decide), Option.bind_some, Option.bind_some, fX5_kindOfStatement_93, fX11_scriptHere_80]
  by_cases q6 : wq (M.2 8) (KM (M.2 8)) n s [109, 105, 108, 107] = 0
  case neg =>
    right
    rw [if_neg q6, if_neg q6, fX5_kindOfStatement_96, fX5_kindOfStatement_102, fX11_scriptHere_83, fX11_scriptHere_89]
    exact ⟨6, by omega, wq_len q6 (by decide), rfl, rfl⟩
  left
  rw [if_pos q6, if_pos q6, fX5_kindOfStatement_101, fX5_kindOfStatement_102, fX11_scriptHere_88, fX11_scriptHere_89]
  exact ⟨rfl, rfl⟩
end KIND
