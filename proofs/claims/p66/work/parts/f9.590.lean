/-! from the told text on: the law returns 1 -/
section F590
variable {nc ns nh ml hk : Nat} {sp gr mi cc hr : Nat → Nat} {lf op : Nat → Int32}
theorem acc_bd {F : Nat → List Int32} {m : Nat} : ∀ k, (∀ j, j < k → (F j).length ≤ m) → (accT F k).length ≤ m * k
  | 0, _ => Nat.zero_le _
  | k + 1, h => by
    rw [accT_len, Nat.mul_succ]
    exact Nat.add_le_add (acc_bd k (fun j hj => h j (by omega))) (h k (by omega))
theorem setT_len (d : DR nc ns nh ml hk sp gr mi cc hr lf op) : (setT nc ns nh ml hk sp gr mi cc hr lf op).length ≤ 600 := by
  obtain ⟨hc, hs, hnh, -⟩ := d
  have a : (accT (catT sp lf) nc).length ≤ 16 * nc := acc_bd nc (fun j _ => by
    unfold catT
    have := (dgL_len (v := sp j)).2
    rw [List.length_append, List.length_append, show ([99, 97, 116, 32, nI (97 + j), 32] : List Int32).length = 6 from rfl, show (if lf j = 1 then ([32, 108, 101, 102, 116, 59] : List Int32) else [32, 114, 105, 103, 104, 116, 59]).length = if lf j = 1 then 6 else 7 by split <;> rfl]
    split <;> omega)
  have b : (accT (sackT gr mi op) ns).length ≤ 20 * ns := acc_bd ns (fun j _ => by
    unfold sackT
    have h1 := (dgL_len (v := gr j)).2
    have h2 := (dgL_len (v := mi j)).2
    rw [List.length_append, List.length_append, List.length_append, List.length_append, show (if op j = 1 then ([32, 111, 112, 101, 110, 59] : List Int32) else [32, 115, 104, 117, 116, 59]).length = 6 by split <;> rfl, show ([115, 97, 99, 107, 32, nI (97 + j), 32] : List Int32).length = 7 from rfl, show ([32] : List Int32).length = 1 from rfl]
    omega)
  have c : (accT (shiftT cc hr) nh).length ≤ 12 * nh := acc_bd nh (fun j _ => by
    unfold shiftT
    have h1 := (dgL_len (v := hr j)).2
    rw [List.length_append, List.length_append, show ([115, 104, 105, 102, 116, 32, nI (97 + cc j), 32] : List Int32).length = 8 from rfl, show ([59] : List Int32).length = 1 from rfl]
    omega)
  have h1 := (dgL_len (v := ml)).2
  have h2 := (dgL_len (v := hk)).2
  unfold setT milkT hourT
  rw [List.length_append, List.length_append, List.length_append, List.length_append, List.length_append, List.length_append, List.length_append, List.length_append, show ([109, 105, 108, 107, 32] : List Int32).length = 5 from rfl, show ([104, 111, 117, 114, 32] : List Int32).length = 5 from rfl, show ([59] : List Int32).length = 1 from rfl]
  omega
variable {p : Program} {l : Launch} {e : Env} {s : State} {m : MethodId} {below : List Frame} {meth : Method} {c : Code}
variable {dC : Nat → ClassId} {dI : Nat → Nat → Nat} {cg : Nat → ClassId} {kA : String → Nat → Nat} {la iA : Nat → Nat} {b b1 L : Nat} {xs : Nat → Int32}
/-- what the law's own granary is when the text is told -/
def WL (nc ns ml hk : Nat) (sp gr mi cc hr : Nat → Nat) (op : Nat → Int32) (v : Wd) : Prop := (v 3 = nI hk ∧ v 4 = nI ml ∧ v 5 = nI (cc 0) ∧ v 7 = nI (hr 0) ∧ v 12 = 1) ∧ (v 6 = 0 ∧ v 8 = 0 ∧ v 9 = 0 ∧ v 10 = 0 ∧ v 11 = 0 ∧ v 13 = 0) ∧ (∀ c, c < nc → v (65 + 12 * c + 7) = nI (sp c) ∧ v (65 + 12 * c + 9) = 0 ∧ v (65 + 12 * c + 10) = 0 ∧ v (65 + 12 * c + 11) = if c = cc 0 then 1 else 0) ∧ ∀ k, k < ns → v (161 + 12 * k + 7) = nI (gr k) ∧ v (161 + 12 * k + 8) = nI (mi k) ∧ v (161 + 12 * k + 9) = op k ∧ v (161 + 12 * k + 10) = 0
theorem law_590 (hL : L ≤ 260) (X : gX p s m #[.ref b] c cL_law 11 RL (kR kTab kA)) (hr' : meth.sig.returnType = ret) (hlocks : meth.locks = false) (hXs : va_X b L xs s s.heap) (hbl : b < s.heap.size) (hb1 : s.heap.size ≤ b1) (d : DR nc ns nh ml hk sp gr mi cc hr lf op) (hs : lS b1 la (drC nc ns nh cc hr)) {S : CS} {M : MS} {v : Wd} {h : Nat → Int32} {H : Heap} {locs : List Loc} {ls : Array Slot} {cl sl : Nat} (r : Rel S M) (h9 : M.1 9 = nI (setT nc ns nh ml hk sp gr mi cc hr lf op).length) (hS : Sg (M.2 8) 0 (setT nc ns nh ml hk sp gr mi cc hr lf op)) (wl : WL nc ns ml hk sp gr mi cc hr op v) (hh : ∀ c, c < nc → h (4 + c) = lf c) (hP : qP dC dI cg kA la iA (drC nc ns nh cc hr) b1 (S, (v, h)) s H) (hV : va_S (fun q => s.heap.size ≤ q) s.heap H locs) (hl : lv_has ls 11 [(5, .int (nI nc)), (0, .ref b), (1, .ref (caOf b1 0)), (2, .ref (la 0))]) (hc1 : cl ≤ 100000) (hc2 : sl ≤ 1000000) : W p l e room_1 s m #[.ref b] below meth c H locs cl sl (lw_Z below #[.ref b] s) (F0 m 590 ls []) := by
  obtain ⟨S', M', w, f1, rel, ew, wf⟩ := f_load d r h9 (setT_len d) hS
  have ei := EI.start d wf hh
  rw [← ew] at ei
  have o := LW.start d wf wl.1.1 wl.1.2.1 wl.1.2.2.1 wl.1.2.2.2.1 wl.1.2.2.2.2 wl.2.1 wl.2.2.1 wl.2.2.2
  rw [← ew] at o
  exact law_load hL X hr' hlocks hXs hbl hb1 d.lC hs (w := M'.2 0) f1 rel ei (fun _ _ => rfl) ⟨hP.1, lP_congL o hP.2⟩ hV hl hc1 hc2
end F590
