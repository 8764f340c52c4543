/-! ===== the doctor's round ===== -/
def cb_ (S : Nat) : Nat → Nat
  | 0 => 0
  | p + 1 => cb_ S p + (if S.testBit p = true then 1 else 0)
theorem cb_mono (S : Nat) : ∀ p d, cb_ S p ≤ cb_ S (p + d)
  | p, 0 => Nat.le_refl _
  | p, d + 1 => by
    have := cb_mono S p d
    show cb_ S p ≤ cb_ S (p + d) + _
    omega
set_option maxRecDepth 1000000 in
theorem bc12_ {S : Nat} (hS : S < 4096) : fn_J6_bitCount_0f7a4 (nI S) = some (nI (cb_ S 12)) ∧ fn_X10_ones (nI S) = some (nI (cb_ S 12)) := by
  have key : ∀ t : Fin 4096, fn_J6_bitCount_0f7a4 (nI t.val) = some (nI (cb_ t.val 12)) ∧ fn_X10_ones (nI t.val) = some (nI (cb_ t.val 12)) := by decide +kernel
  exact key ⟨S, hS⟩
