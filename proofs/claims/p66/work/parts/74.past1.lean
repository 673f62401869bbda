/-! remember, undo and the events, both sides -/
section PAST
variable {S S' : CS} {M M' : MS} {n t k : Nat} {w w' : Wd}
def fmo (a1 a2 : Int32) : Option Int32 := if ¬ a2 = 0 then if 0 ≤ (a1 ^^^ a2) then some (a1 - a1 / a2 * a2) else if a1 - a1 / a2 * a2 = 0 then some (a1 - a1 / a2 * a2) else some (a1 - a1 / a2 * a2 + a2) else none
theorem fmo8 : ∀ a : Fin 8,  fmo (Int32.ofNat a.val - 1) 8 = some (Int32.ofNat ((a.val + 7) % 8)) := by decide +kernel
theorem fmo16 : ∀ a : Fin 16, ∀ b : Fin 16,  fmo (Int32.ofNat a.val - 1 - Int32.ofNat b.val) 16 = some (Int32.ofNat ((a.val + 15 - b.val) % 16)) := by decide +kernel
end PAST
