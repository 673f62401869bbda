/-! hours until, save, restore, remember and undo, both sides -/
section UNTIL
variable {S S' : CS} {M M' : MS} {n t k : Nat} {w w' : Wd}
/-- the hours until a cell has a value -/
def untW (c : Nat) (x : Int32) : Nat → Nat → Wd → Int32
  | 0, _, _ => -1
  | r + 1, i, w => if w c = x then nI i else untW c x r (i + 1) (hourW w)
def untE (c : Nat) (x : Int32) : Nat → Wd → Wd
  | 0, w => w
  | r + 1, w => if w c = x then w else untE c x r (hourW w)
theorem r_until_l {c : Nat} {x : Int32} (hc : c < 257) : ∀ r i f (w : Wd), 201 = i + r → r < f → In w → fX11_hoursUntil_6 f (mw M w) (nI c) x (nI i) = some (untW c x r i w, bck (mw M (untE c x r w))) := by
  intro r
  induction r with
  | zero =>
    intro i f w hi hf iw
    obtain ⟨f, rfl⟩ : ∃ g, f = g + 1 := ⟨f - 1, by omega⟩
    rw [fX11_hoursUntil_6]
    dsimp only
    rw [if_pos (show (200 : Int32) < nI i from nI_lt (a := 200) (by omega) (by omega)), fX11_hoursUntil_39, r_back, Option.bind_some, fX11_hoursUntil_44]
    rfl
  | succ r ih =>
    intro i f w hi hf iw
    obtain ⟨f, rfl⟩ : ∃ g, f = g + 1 := ⟨f - 1, by omega⟩
    rw [fX11_hoursUntil_6]
    dsimp only
    rw [if_neg (show ¬ (200 : Int32) < nI i from nI_nlt (a := 200) (by omega) (by omega)), fX11_hoursUntil_13, gi_m hc (by omega), nI_c (by omega), mw_w, untW, untE]
    by_cases q : w c = x
    · rw [if_pos q, if_pos q, if_pos q, fX11_hoursUntil_23, r_back, Option.bind_some, fX11_hoursUntil_28]
    · rw [if_neg q, if_neg q, if_neg q, fX11_hoursUntil_29, r_hour iw.1.1 iw.1.2.1, Option.bind_some, fX11_hoursUntil_33, nI_1, ih (i + 1) f _ (by omega) (by omega) iw.hour]
theorem r_until {c : Nat} {x : Int32} (hc : c < 257) (i : In (M.2 0)) : ∃ v, fX11_hoursUntil (th M 0) (nI c) x = some (untW c x 201 0 (M.2 0), bck (mw (asd (th M 0)) v)) := by
  refine ⟨untE c x 201 (M.2 0), ?_⟩
  unfold fX11_hoursUntil fX11_hoursUntil_0
  rw [r_aside, Option.bind_some, fX11_hoursUntil_4]
  have := r_until_l (M := asd (th M 0)) (x := x) hc 201 0 FU (M.2 0) (by omega) (by rw [FU_eq]; omega) i
  rw [nI_0, show M.2 0 = (asd (th M 0)).2 0 from (asd_0 (M := th M 0)).symm, mw_self] at this
  rw [this, show (asd (th M 0)).2 0 = M.2 0 from asd_0 (M := th M 0)]
theorem RP.fr2 (r : RP S M) (ha : S'.1 0 11 = S.1 0 11) (hb : S'.1 0 10 = S.1 0 10) (hp : ∀ q, 153 ≤ q → S'.1 q = S.1 q ∧ S'.2 q = S.2 q) (h5 : M'.1 5 = M.1 5) (h4 : M'.2 4 = M.2 4) : RP S' M' := by
  obtain ⟨u, nx, u8, n8, a, b, c, d⟩ := r
  have e : ∀ k, pW M' k = pW M k := fun k => by unfold pW; rw [h4]
  refine ⟨u, nx, u8, n8, by rw [ha]; exact a, by rw [h5]; exact b, by rw [hb]; exact c, fun k hk => ?_⟩
  rw [e]
  exact ⟨(d k hk).1.fr (d k hk).2 (fun q h1 h2 => hp q (by omega)), (d k hk).2⟩
theorem RT.fr (r : RT S M n) (h1 : S'.1 1 = S.1 1) (h2 : S'.1 2 = S.1 2) (h9 : M'.1 9 = M.1 9) (h10 : M'.1 10 = M.1 10) (h11 : M'.1 11 = M.1 11) (h8 : M'.2 8 = M.2 8) : RT S' M' n := by
  unfold RT
  rw [h1, h2, h9, h10, h11, h8]
  exact r
end UNTIL
