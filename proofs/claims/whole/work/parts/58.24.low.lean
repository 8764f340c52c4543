/-! ===== the lowest place that is not in a set ===== -/
def lz_ (S : Nat) : Nat → Nat → Nat
  | 0, i => i
  | d + 1, i => if S.testBit i = true then lz_ S d (i + 1) else i
set_option maxRecDepth 1000000 in
theorem low_ {S : Nat} (hS : S < 4095) : ∃ v, v < 12 ∧ ¬ S.testBit v = true ∧ fn_J6_lowestOneBit_0f7a4 (nI S ^^^ (-1)) = some (nI (2 ^ v)) := by
  have key : ∀ t : Fin 4095, lz_ t.val 12 0 < 12 ∧ ¬ t.val.testBit (lz_ t.val 12 0) = true ∧ fn_J6_lowestOneBit_0f7a4 (nI t.val ^^^ (-1)) = some (nI (2 ^ lz_ t.val 12 0)) := by decide +kernel
  exact ⟨_, key ⟨S, hS⟩⟩
