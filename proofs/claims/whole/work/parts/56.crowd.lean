/-! ===== who is there, who carries whom ===== -/
set_option maxRecDepth 100000 in
theorem bc_ {T : Nat} (hT : T < 64) : ∃ r : Int32, fn_J6_bitCount_0f7a4 (nI T) = some r ∧ fn_X10_ones (nI T) = some r := by
  have key : ∀ t : Fin 64, fn_J6_bitCount_0f7a4 (nI t.val) = fn_X10_ones (nI t.val) ∧ (fn_J6_bitCount_0f7a4 (nI t.val)).isSome = true := by decide +kernel
  obtain ⟨h1, h2⟩ := key ⟨T, hT⟩
  obtain ⟨r, hr⟩ := Option.isSome_iff_exists.mp h2
  exact ⟨r, hr, h1 ▸ hr⟩
theorem enc_lt {n : Nat} (h : n < 6) : enc_ n = nI n := if_pos h
theorem enc_6 : enc_ 6 = (-6) := rfl
theorem enc_no {n : Nat} (h : n ≤ 6) : enc_ n = (-6) ↔ n = 6 := by
  have key : ∀ t : Fin 7, enc_ t.val = (-6) ↔ t.val = 6 := by decide +kernel
  exact key ⟨n, by omega⟩
theorem enc_eq {n v : Nat} (h : n ≤ 6) (hv : v < 6) : enc_ n = nI v ↔ n = v := by
  have key : ∀ (t : Fin 7) (u : Fin 6), enc_ t.val = nI u.val ↔ t.val = u.val := by decide +kernel
  exact key ⟨n, by omega⟩ ⟨v, hv⟩
/-- he carries nobody, nobody carries him -/
def lg_ (j : Nat) (f : Nat → Nat) : Nat → Nat := fun i => if i = j ∨ f i = j then 6 else f i
theorem putDown_ {carries bearer : Nat → Int32} {j v : Nat} (hj : j < 6) (hv : v < 6) (e : carries j = nI v) : fn_X0_putDown carries bearer (nI j) = some (upd carries j (-6), upd bearer v (-6)) := by
  unfold fn_X0_putDown
  rw [ckn_ hj (by omega), nI_clamp (by omega), e, ckn_ hv (by omega), nI_clamp (by omega)]
  dsimp only [lx_]
  rw [ckn_ hj (by omega)]
theorem part_ {carries bearer carries2 : Nat → Int32} {T : Nat} {cr br : Nat → Nat} (h1 : cy1_ carries bearer carries2 cr br) (h2 : cy2_ T cr br) {j : Nat} (hj : j < 6) : ∃ C B : Nat → Int32, fn_X0_part carries bearer (nI j) = some (C, B) ∧ ∀ i, i < 6 → C i = enc_ (lg_ j cr i) ∧ B i = enc_ (lg_ j br i) := by
  obtain ⟨c1, c2, c3, c4, -⟩ := h1 j hj
  have hs : ∀ (C B : Nat → Int32), (∀ i, i < 6 → C i = enc_ (if i = j then 6 else cr i) ∧ B i = enc_ (if br i = j then 6 else br i)) → ∃ C' B' : Nat → Int32, fn_X0_part_j16 C B (nI j) = some (C', B') ∧ ∀ i, i < 6 → C' i = enc_ (lg_ j cr i) ∧ B' i = enc_ (lg_ j br i) := by
    intro C B hCB
    have hjj : br j ≠ j := fun e => by
      have e2 := (h2.1 j j hj hj).mpr e
      exact (h2.2 j hj (by omega)).1 e2
    have hB := (hCB j hj).2
    rw [if_neg hjj] at hB
    unfold fn_X0_part_j16
    rw [ckn_ hj (by omega), nI_clamp (by omega), ckn_ hj (by omega), hB]
    by_cases e : br j = 6
    · rw [if_pos ((enc_no c2).mpr e)]
      refine ⟨C, B, rfl, fun i hi => ?_⟩
      obtain ⟨d1, d2⟩ := hCB i hi
      have hci : cr i ≠ j := fun q => by
        have := (h2.1 i j hi hj).mp q
        omega
      have d0 := h1 i hi
      rw [d1, d2]
      unfold lg_
      by_cases ei : i = j
      · subst ei
        rw [if_pos rfl, if_pos (Or.inl rfl), if_neg hjj, if_pos (Or.inl rfl), e]
        exact ⟨rfl, rfl⟩
      · by_cases eb : br i = j
        · rw [if_neg ei, if_pos eb, if_neg (fun hh => hh.elim ei hci), if_pos (Or.inr eb)]
          exact ⟨rfl, rfl⟩
        · rw [if_neg ei, if_neg eb, if_neg (fun hh => hh.elim ei hci), if_neg (fun hh => hh.elim ei eb)]
          exact ⟨rfl, rfl⟩
    · have hw : br j < 6 := by omega
      have hcw : cr (br j) = j := (h2.1 (br j) j hw hj).mpr rfl
      have hwj : br j ≠ j := hjj
      rw [if_neg (fun q => e ((enc_no c2).mp q)), enc_lt hw, putDown_ hw hj (by rw [(hCB (br j) hw).1, if_neg hwj, hcw, enc_lt hj])]
      refine ⟨upd C (br j) (-6), upd B j (-6), rfl, fun i hi => ?_⟩
      obtain ⟨d1, d2⟩ := hCB i hi
      rw [up_nI, up_nI, d1, d2]
      unfold lg_
      have hiff : cr i = j ↔ i = br j := by
        rw [h2.1 i j hi hj]
        exact ⟨fun q => q.symm, fun q => q.symm⟩
      constructor
      · by_cases e1 : i = br j
        · rw [if_pos e1, if_pos (Or.inr (hiff.mpr e1))]; rfl
        · rw [if_neg e1]
          by_cases e2 : i = j
          · rw [if_pos e2, if_pos (Or.inl e2)]
          · rw [if_neg e2, if_neg (fun hh => hh.elim e2 (fun q => e1 (hiff.mp q)))]
      · by_cases e2 : i = j
        · rw [if_pos e2, if_pos (Or.inl e2)]; rfl
        · rw [if_neg e2]
          by_cases e3 : br i = j
          · rw [if_pos e3, if_pos (Or.inr e3)]
          · rw [if_neg e3, if_neg (fun hh => hh.elim e2 e3)]
  unfold fn_X0_part
  rw [ckn_ hj (by omega), nI_clamp (by omega), c3]
  by_cases e : cr j = 6
  · rw [if_pos ((enc_no c1).mpr e)]
    refine hs carries bearer (fun i hi => ?_)
    obtain ⟨-, -, d3, d4, -⟩ := h1 i hi
    rw [d3, d4]
    have hbi : br i ≠ j := fun q => by
      have := (h2.1 j i hj hi).mpr q
      omega
    rw [if_neg hbi]
    refine ⟨?_, rfl⟩
    by_cases ei : i = j
    · rw [if_pos ei, ei, e]
    · rw [if_neg ei]
  · have hv : cr j < 6 := by omega
    rw [if_neg (fun q => e ((enc_no c1).mp q)), putDown_ hj hv (by rw [c3, enc_lt hv])]
    refine hs (upd carries j (-6)) (upd bearer (cr j) (-6)) (fun i hi => ?_)
    obtain ⟨-, -, d3, d4, -⟩ := h1 i hi
    have hiff : br i = j ↔ i = cr j := by
      rw [← h2.1 j i hj hi]
      exact ⟨fun q => q.symm, fun q => q.symm⟩
    rw [up_nI, up_nI, d3, d4]
    constructor
    · by_cases ei : i = j
      · rw [if_pos ei, if_pos ei]; rfl
      · rw [if_neg ei, if_neg ei]
    · by_cases ei : i = cr j
      · rw [if_pos ei, if_pos (hiff.mpr ei)]; rfl
      · rw [if_neg ei, if_neg (fun q => ei (hiff.mp q))]
