/-! ===== numbers ===== -/
theorem lt_i (a b : Int32) : a < b ↔ a.toInt < b.toInt := Int32.lt_iff_toInt_lt
theorem le_i (a b : Int32) : a ≤ b ↔ a.toInt ≤ b.toInt := Int32.le_iff_toInt_le
theorem lt_w (a b : Int32) : a.toInt64 < b.toInt64 ↔ a < b := by
  rw [Int64.lt_iff_toInt_lt, Int32.lt_iff_toInt_lt, Int32.toInt_toInt64, Int32.toInt_toInt64]
/-- both range checks at once -/
theorem rg_ (x lo hi : Int32) : (fn_X9_isWithin x lo hi = some 0 ∧ fn_X10_in x.toInt64 lo.toInt64 hi.toInt64 = some 0 ∧ (x < lo ∨ hi < x)) ∨ (¬ x < lo ∧ ¬ hi < x ∧ fn_X9_isWithin x lo hi = some 1 ∧ fn_X10_in x.toInt64 lo.toInt64 hi.toInt64 = some 1) := by
  unfold fn_X9_isWithin fn_X10_in
  have e1 : (lg_cmp x.toInt64 lo.toInt64 < 0) ↔ x < lo := (lg_cmp_lt _ _).trans (lt_w _ _)
  have e2 : (0 < lg_cmp x.toInt64 hi.toInt64) ↔ hi < x := (lg_cmp_gt _ _).trans (lt_w _ _)
  by_cases h1 : x < lo
  · exact Or.inl ⟨if_pos h1, if_pos (e1.mpr h1), Or.inl h1⟩
  · by_cases h2 : hi < x
    · refine Or.inl ⟨?_, ?_, Or.inr h2⟩
      · rw [if_neg h1, if_pos h2]
      · rw [if_neg (fun h => h1 (e1.mp h)), if_pos (e2.mpr h2)]
    · refine Or.inr ⟨h1, h2, ?_, ?_⟩
      · rw [if_neg h1, if_neg h2]
      · rw [if_neg (fun h => h1 (e1.mp h)), if_neg (fun h => h2 (e2.mp h))]
/-- a number from 0 to n, or none -/
theorem rg0_ (x hi : Int32) (H : Int64) (n : Nat) (hH : hi.toInt64 = H) (hn : hi.toInt = n) : (fn_X9_isWithin x 0 hi = some 0 ∧ fn_X10_in x.toInt64 0 H = some 0 ∧ ∀ m, m ≤ n → x ≠ nI m) ∨ ∃ m, m ≤ n ∧ x = nI m ∧ fn_X9_isWithin x 0 hi = some 1 ∧ fn_X10_in x.toInt64 0 H = some 1 := by
  subst hH
  have hb := Int32.toInt_lt hi
  rcases rg_ x 0 hi with ⟨h1, h2, h3⟩ | ⟨h1, h2, h3, h4⟩
  · refine Or.inl ⟨h1, h2, fun m hm e => ?_⟩
    subst e
    have hm2 : (nI m).toInt = (m : Int) := nI_toInt (by omega)
    rcases h3 with h3 | h3
    · have h5 := (lt_i _ _).mp h3
      rw [hm2] at h5
      have : (0 : Int32).toInt = 0 := rfl
      omega
    · have h5 := (lt_i _ _).mp h3
      rw [hm2] at h5
      omega
  · obtain ⟨m, hm, e⟩ := nI_of2 hn h1 (Int32.not_lt.mp h2)
    exact Or.inr ⟨m, hm, e, h3, h4⟩
theorem bz0_ {α : Type} (k : Option α) : bz_ 0 k = k := if_pos (Or.inl rfl)
theorem bz1_ {α : Type} (k : Option α) : bz_ 1 k = k := if_pos (Or.inr rfl)
theorem b1_so {α β : Type} (x : α) (k : α → Option β) : b1_ (some x) k = k x := rfl
theorem pc_ (x : Int32) : (fn_X9_isPlace x = some 0 ∧ fn_X10_isPlace x = some 0 ∧ ∀ m, m < 12 → x ≠ nI m) ∨ ∃ m, m < 12 ∧ x = nI m ∧ fn_X9_isPlace x = some 1 ∧ fn_X10_isPlace x = some 1 := by
  unfold fn_X9_isPlace fn_X10_isPlace
  rcases rg0_ x 11 11 11 rfl rfl with ⟨h1, h2, h3⟩ | ⟨m, hm, e, h1, h2⟩
  · refine Or.inl ⟨?_, ?_, fun m hm => h3 m (by omega)⟩
    · rw [h1, b1_so, bz0_]
    · rw [h2, b1_so, bz0_]
  · refine Or.inr ⟨m, by omega, e, ?_, ?_⟩
    · rw [h1, b1_so, bz1_]
    · rw [h2, b1_so, bz1_]
theorem ckn_ {α : Type} {i n : Nat} (h : i < n) (hn : n < 2 ^ 31) (k : Option α) : ck_ (nI i) n k = k := ck_in (vp_in_nI h hn)
