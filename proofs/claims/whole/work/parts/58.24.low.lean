/-! ===== the lowest place that is not in a set ===== -/
def lz_ (S : Nat) : Nat → Nat → Nat
  | 0, i => i
  | d + 1, i => if S.testBit i = true then lz_ S d (i + 1) else i
set_option maxRecDepth 1000000 in
theorem lowk0_ : ∀ t : Fin 256, 0 + t.val < 4095 → lz_ (0 + t.val) 12 0 < 12 ∧ ¬ (0 + t.val).testBit (lz_ (0 + t.val) 12 0) = true ∧ fn_J6_lowestOneBit_0f7a4 (nI (0 + t.val) ^^^ (-1)) = some (nI (2 ^ lz_ (0 + t.val) 12 0)) := by decide +kernel
set_option maxRecDepth 1000000 in
theorem lowk1_ : ∀ t : Fin 256, 256 + t.val < 4095 → lz_ (256 + t.val) 12 0 < 12 ∧ ¬ (256 + t.val).testBit (lz_ (256 + t.val) 12 0) = true ∧ fn_J6_lowestOneBit_0f7a4 (nI (256 + t.val) ^^^ (-1)) = some (nI (2 ^ lz_ (256 + t.val) 12 0)) := by decide +kernel
set_option maxRecDepth 1000000 in
theorem lowk2_ : ∀ t : Fin 256, 512 + t.val < 4095 → lz_ (512 + t.val) 12 0 < 12 ∧ ¬ (512 + t.val).testBit (lz_ (512 + t.val) 12 0) = true ∧ fn_J6_lowestOneBit_0f7a4 (nI (512 + t.val) ^^^ (-1)) = some (nI (2 ^ lz_ (512 + t.val) 12 0)) := by decide +kernel
set_option maxRecDepth 1000000 in
theorem lowk3_ : ∀ t : Fin 256, 768 + t.val < 4095 → lz_ (768 + t.val) 12 0 < 12 ∧ ¬ (768 + t.val).testBit (lz_ (768 + t.val) 12 0) = true ∧ fn_J6_lowestOneBit_0f7a4 (nI (768 + t.val) ^^^ (-1)) = some (nI (2 ^ lz_ (768 + t.val) 12 0)) := by decide +kernel
set_option maxRecDepth 1000000 in
theorem lowk4_ : ∀ t : Fin 256, 1024 + t.val < 4095 → lz_ (1024 + t.val) 12 0 < 12 ∧ ¬ (1024 + t.val).testBit (lz_ (1024 + t.val) 12 0) = true ∧ fn_J6_lowestOneBit_0f7a4 (nI (1024 + t.val) ^^^ (-1)) = some (nI (2 ^ lz_ (1024 + t.val) 12 0)) := by decide +kernel
set_option maxRecDepth 1000000 in
theorem lowk5_ : ∀ t : Fin 256, 1280 + t.val < 4095 → lz_ (1280 + t.val) 12 0 < 12 ∧ ¬ (1280 + t.val).testBit (lz_ (1280 + t.val) 12 0) = true ∧ fn_J6_lowestOneBit_0f7a4 (nI (1280 + t.val) ^^^ (-1)) = some (nI (2 ^ lz_ (1280 + t.val) 12 0)) := by decide +kernel
set_option maxRecDepth 1000000 in
theorem lowk6_ : ∀ t : Fin 256, 1536 + t.val < 4095 → lz_ (1536 + t.val) 12 0 < 12 ∧ ¬ (1536 + t.val).testBit (lz_ (1536 + t.val) 12 0) = true ∧ fn_J6_lowestOneBit_0f7a4 (nI (1536 + t.val) ^^^ (-1)) = some (nI (2 ^ lz_ (1536 + t.val) 12 0)) := by decide +kernel
set_option maxRecDepth 1000000 in
theorem lowk7_ : ∀ t : Fin 256, 1792 + t.val < 4095 → lz_ (1792 + t.val) 12 0 < 12 ∧ ¬ (1792 + t.val).testBit (lz_ (1792 + t.val) 12 0) = true ∧ fn_J6_lowestOneBit_0f7a4 (nI (1792 + t.val) ^^^ (-1)) = some (nI (2 ^ lz_ (1792 + t.val) 12 0)) := by decide +kernel
set_option maxRecDepth 1000000 in
theorem lowk8_ : ∀ t : Fin 256, 2048 + t.val < 4095 → lz_ (2048 + t.val) 12 0 < 12 ∧ ¬ (2048 + t.val).testBit (lz_ (2048 + t.val) 12 0) = true ∧ fn_J6_lowestOneBit_0f7a4 (nI (2048 + t.val) ^^^ (-1)) = some (nI (2 ^ lz_ (2048 + t.val) 12 0)) := by decide +kernel
set_option maxRecDepth 1000000 in
theorem lowk9_ : ∀ t : Fin 256, 2304 + t.val < 4095 → lz_ (2304 + t.val) 12 0 < 12 ∧ ¬ (2304 + t.val).testBit (lz_ (2304 + t.val) 12 0) = true ∧ fn_J6_lowestOneBit_0f7a4 (nI (2304 + t.val) ^^^ (-1)) = some (nI (2 ^ lz_ (2304 + t.val) 12 0)) := by decide +kernel
set_option maxRecDepth 1000000 in
theorem lowk10_ : ∀ t : Fin 256, 2560 + t.val < 4095 → lz_ (2560 + t.val) 12 0 < 12 ∧ ¬ (2560 + t.val).testBit (lz_ (2560 + t.val) 12 0) = true ∧ fn_J6_lowestOneBit_0f7a4 (nI (2560 + t.val) ^^^ (-1)) = some (nI (2 ^ lz_ (2560 + t.val) 12 0)) := by decide +kernel
set_option maxRecDepth 1000000 in
theorem lowk11_ : ∀ t : Fin 256, 2816 + t.val < 4095 → lz_ (2816 + t.val) 12 0 < 12 ∧ ¬ (2816 + t.val).testBit (lz_ (2816 + t.val) 12 0) = true ∧ fn_J6_lowestOneBit_0f7a4 (nI (2816 + t.val) ^^^ (-1)) = some (nI (2 ^ lz_ (2816 + t.val) 12 0)) := by decide +kernel
set_option maxRecDepth 1000000 in
theorem lowk12_ : ∀ t : Fin 256, 3072 + t.val < 4095 → lz_ (3072 + t.val) 12 0 < 12 ∧ ¬ (3072 + t.val).testBit (lz_ (3072 + t.val) 12 0) = true ∧ fn_J6_lowestOneBit_0f7a4 (nI (3072 + t.val) ^^^ (-1)) = some (nI (2 ^ lz_ (3072 + t.val) 12 0)) := by decide +kernel
set_option maxRecDepth 1000000 in
theorem lowk13_ : ∀ t : Fin 256, 3328 + t.val < 4095 → lz_ (3328 + t.val) 12 0 < 12 ∧ ¬ (3328 + t.val).testBit (lz_ (3328 + t.val) 12 0) = true ∧ fn_J6_lowestOneBit_0f7a4 (nI (3328 + t.val) ^^^ (-1)) = some (nI (2 ^ lz_ (3328 + t.val) 12 0)) := by decide +kernel
set_option maxRecDepth 1000000 in
theorem lowk14_ : ∀ t : Fin 256, 3584 + t.val < 4095 → lz_ (3584 + t.val) 12 0 < 12 ∧ ¬ (3584 + t.val).testBit (lz_ (3584 + t.val) 12 0) = true ∧ fn_J6_lowestOneBit_0f7a4 (nI (3584 + t.val) ^^^ (-1)) = some (nI (2 ^ lz_ (3584 + t.val) 12 0)) := by decide +kernel
set_option maxRecDepth 1000000 in
theorem lowk15_ : ∀ t : Fin 256, 3840 + t.val < 4095 → lz_ (3840 + t.val) 12 0 < 12 ∧ ¬ (3840 + t.val).testBit (lz_ (3840 + t.val) 12 0) = true ∧ fn_J6_lowestOneBit_0f7a4 (nI (3840 + t.val) ^^^ (-1)) = some (nI (2 ^ lz_ (3840 + t.val) 12 0)) := by decide +kernel
theorem low_ {S : Nat} (hS : S < 4095) : ∃ v, v < 12 ∧ ¬ S.testBit v = true ∧ fn_J6_lowestOneBit_0f7a4 (nI S ^^^ (-1)) = some (nI (2 ^ v)) := by
  have hm : S % 256 < 256 := Nat.mod_lt _ (by omega)
  rcases (show S = 0 + S % 256 ∨ S = 256 + S % 256 ∨ S = 512 + S % 256 ∨ S = 768 + S % 256 ∨ S = 1024 + S % 256 ∨ S = 1280 + S % 256 ∨ S = 1536 + S % 256 ∨ S = 1792 + S % 256 ∨ S = 2048 + S % 256 ∨ S = 2304 + S % 256 ∨ S = 2560 + S % 256 ∨ S = 2816 + S % 256 ∨ S = 3072 + S % 256 ∨ S = 3328 + S % 256 ∨ S = 3584 + S % 256 ∨ S = 3840 + S % 256 by omega) with e | e | e | e | e | e | e | e | e | e | e | e | e | e | e | e
  · rw [e] at hS ⊢; exact ⟨_, lowk0_ ⟨S % 256, hm⟩ hS⟩
  · rw [e] at hS ⊢; exact ⟨_, lowk1_ ⟨S % 256, hm⟩ hS⟩
  · rw [e] at hS ⊢; exact ⟨_, lowk2_ ⟨S % 256, hm⟩ hS⟩
  · rw [e] at hS ⊢; exact ⟨_, lowk3_ ⟨S % 256, hm⟩ hS⟩
  · rw [e] at hS ⊢; exact ⟨_, lowk4_ ⟨S % 256, hm⟩ hS⟩
  · rw [e] at hS ⊢; exact ⟨_, lowk5_ ⟨S % 256, hm⟩ hS⟩
  · rw [e] at hS ⊢; exact ⟨_, lowk6_ ⟨S % 256, hm⟩ hS⟩
  · rw [e] at hS ⊢; exact ⟨_, lowk7_ ⟨S % 256, hm⟩ hS⟩
  · rw [e] at hS ⊢; exact ⟨_, lowk8_ ⟨S % 256, hm⟩ hS⟩
  · rw [e] at hS ⊢; exact ⟨_, lowk9_ ⟨S % 256, hm⟩ hS⟩
  · rw [e] at hS ⊢; exact ⟨_, lowk10_ ⟨S % 256, hm⟩ hS⟩
  · rw [e] at hS ⊢; exact ⟨_, lowk11_ ⟨S % 256, hm⟩ hS⟩
  · rw [e] at hS ⊢; exact ⟨_, lowk12_ ⟨S % 256, hm⟩ hS⟩
  · rw [e] at hS ⊢; exact ⟨_, lowk13_ ⟨S % 256, hm⟩ hS⟩
  · rw [e] at hS ⊢; exact ⟨_, lowk14_ ⟨S % 256, hm⟩ hS⟩
  · rw [e] at hS ⊢; exact ⟨_, lowk15_ ⟨S % 256, hm⟩ hS⟩
