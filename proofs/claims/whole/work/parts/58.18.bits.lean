/-! ===== the doctor's round ===== -/
def cb_ (S : Nat) : Nat → Nat
  | 0 => 0
  | p + 1 => cb_ S p + (if S.testBit p = true then 1 else 0)
theorem cb_mono (S : Nat) : ∀ p d, cb_ S p ≤ cb_ S (p + d)
  | p, 0 => Nat.le_refl _
  | p, d + 1 => by
    have := cb_mono S p d
    show cb_ S p ≤ cb_ S (p + d) + _
    omega
set_option maxRecDepth 1000000 in
theorem bc12k0_ : ∀ t : Fin 256, fn_J6_bitCount_0f7a4 (nI (0 + t.val)) = some (nI (cb_ (0 + t.val) 12)) ∧ fn_X10_ones (nI (0 + t.val)) = some (nI (cb_ (0 + t.val) 12)) := by decide +kernel
set_option maxRecDepth 1000000 in
theorem bc12k1_ : ∀ t : Fin 256, fn_J6_bitCount_0f7a4 (nI (256 + t.val)) = some (nI (cb_ (256 + t.val) 12)) ∧ fn_X10_ones (nI (256 + t.val)) = some (nI (cb_ (256 + t.val) 12)) := by decide +kernel
set_option maxRecDepth 1000000 in
theorem bc12k2_ : ∀ t : Fin 256, fn_J6_bitCount_0f7a4 (nI (512 + t.val)) = some (nI (cb_ (512 + t.val) 12)) ∧ fn_X10_ones (nI (512 + t.val)) = some (nI (cb_ (512 + t.val) 12)) := by decide +kernel
set_option maxRecDepth 1000000 in
theorem bc12k3_ : ∀ t : Fin 256, fn_J6_bitCount_0f7a4 (nI (768 + t.val)) = some (nI (cb_ (768 + t.val) 12)) ∧ fn_X10_ones (nI (768 + t.val)) = some (nI (cb_ (768 + t.val) 12)) := by decide +kernel
set_option maxRecDepth 1000000 in
theorem bc12k4_ : ∀ t : Fin 256, fn_J6_bitCount_0f7a4 (nI (1024 + t.val)) = some (nI (cb_ (1024 + t.val) 12)) ∧ fn_X10_ones (nI (1024 + t.val)) = some (nI (cb_ (1024 + t.val) 12)) := by decide +kernel
set_option maxRecDepth 1000000 in
theorem bc12k5_ : ∀ t : Fin 256, fn_J6_bitCount_0f7a4 (nI (1280 + t.val)) = some (nI (cb_ (1280 + t.val) 12)) ∧ fn_X10_ones (nI (1280 + t.val)) = some (nI (cb_ (1280 + t.val) 12)) := by decide +kernel
set_option maxRecDepth 1000000 in
theorem bc12k6_ : ∀ t : Fin 256, fn_J6_bitCount_0f7a4 (nI (1536 + t.val)) = some (nI (cb_ (1536 + t.val) 12)) ∧ fn_X10_ones (nI (1536 + t.val)) = some (nI (cb_ (1536 + t.val) 12)) := by decide +kernel
set_option maxRecDepth 1000000 in
theorem bc12k7_ : ∀ t : Fin 256, fn_J6_bitCount_0f7a4 (nI (1792 + t.val)) = some (nI (cb_ (1792 + t.val) 12)) ∧ fn_X10_ones (nI (1792 + t.val)) = some (nI (cb_ (1792 + t.val) 12)) := by decide +kernel
set_option maxRecDepth 1000000 in
theorem bc12k8_ : ∀ t : Fin 256, fn_J6_bitCount_0f7a4 (nI (2048 + t.val)) = some (nI (cb_ (2048 + t.val) 12)) ∧ fn_X10_ones (nI (2048 + t.val)) = some (nI (cb_ (2048 + t.val) 12)) := by decide +kernel
set_option maxRecDepth 1000000 in
theorem bc12k9_ : ∀ t : Fin 256, fn_J6_bitCount_0f7a4 (nI (2304 + t.val)) = some (nI (cb_ (2304 + t.val) 12)) ∧ fn_X10_ones (nI (2304 + t.val)) = some (nI (cb_ (2304 + t.val) 12)) := by decide +kernel
set_option maxRecDepth 1000000 in
theorem bc12k10_ : ∀ t : Fin 256, fn_J6_bitCount_0f7a4 (nI (2560 + t.val)) = some (nI (cb_ (2560 + t.val) 12)) ∧ fn_X10_ones (nI (2560 + t.val)) = some (nI (cb_ (2560 + t.val) 12)) := by decide +kernel
set_option maxRecDepth 1000000 in
theorem bc12k11_ : ∀ t : Fin 256, fn_J6_bitCount_0f7a4 (nI (2816 + t.val)) = some (nI (cb_ (2816 + t.val) 12)) ∧ fn_X10_ones (nI (2816 + t.val)) = some (nI (cb_ (2816 + t.val) 12)) := by decide +kernel
set_option maxRecDepth 1000000 in
theorem bc12k12_ : ∀ t : Fin 256, fn_J6_bitCount_0f7a4 (nI (3072 + t.val)) = some (nI (cb_ (3072 + t.val) 12)) ∧ fn_X10_ones (nI (3072 + t.val)) = some (nI (cb_ (3072 + t.val) 12)) := by decide +kernel
set_option maxRecDepth 1000000 in
theorem bc12k13_ : ∀ t : Fin 256, fn_J6_bitCount_0f7a4 (nI (3328 + t.val)) = some (nI (cb_ (3328 + t.val) 12)) ∧ fn_X10_ones (nI (3328 + t.val)) = some (nI (cb_ (3328 + t.val) 12)) := by decide +kernel
set_option maxRecDepth 1000000 in
theorem bc12k14_ : ∀ t : Fin 256, fn_J6_bitCount_0f7a4 (nI (3584 + t.val)) = some (nI (cb_ (3584 + t.val) 12)) ∧ fn_X10_ones (nI (3584 + t.val)) = some (nI (cb_ (3584 + t.val) 12)) := by decide +kernel
set_option maxRecDepth 1000000 in
theorem bc12k15_ : ∀ t : Fin 256, fn_J6_bitCount_0f7a4 (nI (3840 + t.val)) = some (nI (cb_ (3840 + t.val) 12)) ∧ fn_X10_ones (nI (3840 + t.val)) = some (nI (cb_ (3840 + t.val) 12)) := by decide +kernel
theorem bc12_ {S : Nat} (hS : S < 4096) : fn_J6_bitCount_0f7a4 (nI S) = some (nI (cb_ S 12)) ∧ fn_X10_ones (nI S) = some (nI (cb_ S 12)) := by
  have hm : S % 256 < 256 := Nat.mod_lt _ (by omega)
  rcases (show S = 0 + S % 256 ∨ S = 256 + S % 256 ∨ S = 512 + S % 256 ∨ S = 768 + S % 256 ∨ S = 1024 + S % 256 ∨ S = 1280 + S % 256 ∨ S = 1536 + S % 256 ∨ S = 1792 + S % 256 ∨ S = 2048 + S % 256 ∨ S = 2304 + S % 256 ∨ S = 2560 + S % 256 ∨ S = 2816 + S % 256 ∨ S = 3072 + S % 256 ∨ S = 3328 + S % 256 ∨ S = 3584 + S % 256 ∨ S = 3840 + S % 256 by omega) with e | e | e | e | e | e | e | e | e | e | e | e | e | e | e | e
  · rw [e]; exact bc12k0_ ⟨S % 256, hm⟩
  · rw [e]; exact bc12k1_ ⟨S % 256, hm⟩
  · rw [e]; exact bc12k2_ ⟨S % 256, hm⟩
  · rw [e]; exact bc12k3_ ⟨S % 256, hm⟩
  · rw [e]; exact bc12k4_ ⟨S % 256, hm⟩
  · rw [e]; exact bc12k5_ ⟨S % 256, hm⟩
  · rw [e]; exact bc12k6_ ⟨S % 256, hm⟩
  · rw [e]; exact bc12k7_ ⟨S % 256, hm⟩
  · rw [e]; exact bc12k8_ ⟨S % 256, hm⟩
  · rw [e]; exact bc12k9_ ⟨S % 256, hm⟩
  · rw [e]; exact bc12k10_ ⟨S % 256, hm⟩
  · rw [e]; exact bc12k11_ ⟨S % 256, hm⟩
  · rw [e]; exact bc12k12_ ⟨S % 256, hm⟩
  · rw [e]; exact bc12k13_ ⟨S % 256, hm⟩
  · rw [e]; exact bc12k14_ ⟨S % 256, hm⟩
  · rw [e]; exact bc12k15_ ⟨S % 256, hm⟩
