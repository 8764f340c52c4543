theorem letGo_l {j : Nat} (hj : j < 6) {cr : Nat → Nat} (hcr : ∀ t, t < 6 → cr t ≤ 6) (k : (Nat → Int32) → Option (Nat → Int32)) : ∀ (n i : Nat) (c : Nat → Int32), i ≤ 6 → 6 < i + n → (∀ t, t < 6 → c t = enc_ (if t < i ∧ cr t = j then 6 else cr t)) → ∃ c' : Nat → Int32, fn_X10_letGo_l2 (nI j) k n (nI i) c = k c' ∧ ∀ t, t < 6 → c' t = enc_ (if cr t = j then 6 else cr t)
  | 0, i, c, h1, h2, _ => absurd h2 (by omega)
  | n + 1, i, c, h1, h2, hc => by
    show ∃ c' : Nat → Int32, fn_X10_letGo_b2 (nI j) (fn_X10_letGo_l2 (nI j) k n) k (nI i) c = k c' ∧ _
    unfold fn_X10_letGo_b2
    by_cases e : i = 6
    · subst e
      rw [if_pos (show (6 : Int32) ≤ nI 6 from by decide)]
      refine ⟨c, rfl, fun t ht => ?_⟩
      rw [hc t ht]
      by_cases e1 : cr t = j
      · rw [if_pos ⟨ht, e1⟩, if_pos e1]
      · rw [if_neg (fun q => e1 q.2), if_neg e1]
    · have hi : i < 6 := by omega
      rw [if_neg (show ¬ (6 : Int32) ≤ nI i from nI_ge (b := 6) hi (by omega)), ckn_ hi (by omega), nI_clamp (by omega), ckn_ hi (by omega), ckn_ hi (by omega)]
      dsimp only [lx_]
      rw [ckn_ hi (by omega)]
      have hci : c i = enc_ (cr i) := by rw [hc i hi, if_neg (fun q => Nat.lt_irrefl _ q.1)]
      have step : ∀ v : Int32, v = enc_ (if cr i = j then 6 else cr i) → ∃ c' : Nat → Int32, fn_X10_letGo_l2 (nI j) k n (nI i + 1) (upd c i v) = k c' ∧ ∀ t, t < 6 → c' t = enc_ (if cr t = j then 6 else cr t) := by
        intro v hv
        rw [nI_1]
        refine letGo_l hj hcr k n (i + 1) (upd c i v) (by omega) (by omega) (fun t ht => ?_)
        rw [up_nI]
        by_cases et : t = i
        · subst et
          rw [if_pos rfl, hv]
          by_cases e1 : cr t = j
          · rw [if_pos e1, if_pos ⟨Nat.lt_succ_self _, e1⟩]
          · rw [if_neg e1, if_neg (fun q => e1 q.2)]
        · rw [if_neg et, hc t ht]
          by_cases e1 : t < i ∧ cr t = j
          · rw [if_pos e1, if_pos ⟨by omega, e1.2⟩]
          · rw [if_neg e1, if_neg (fun q => e1 ⟨by omega, q.2⟩)]
      rw [hci]
      by_cases e1 : cr i = j
      · rw [if_pos ((enc_eq (hcr i hi) hj).mpr e1)]
        exact step (-6) (by rw [if_pos e1]; rfl)
      · rw [if_neg (fun q => e1 ((enc_eq (hcr i hi) hj).mp q))]
        exact step (enc_ (cr i)) (by rw [if_neg e1])
theorem letGo_ {carries2 : Nat → Int32} {cr : Nat → Nat} (hc : ∀ t, t < 6 → cr t ≤ 6 ∧ carries2 t = enc_ (cr t)) {j : Nat} (hj : j < 6) : ∃ C : Nat → Int32, fn_X10_letGo carries2 (nI j) = some C ∧ ∀ i, i < 6 → C i = enc_ (lg_ j cr i) := by
  unfold fn_X10_letGo
  obtain ⟨c', e1, e2⟩ := letGo_l hj (fun t ht => (hc t ht).1) (fun v3 => ck_ (nI j) 6 (lx_ (upd v3 (Int32.toNatClampNeg (nI j)) (-6)) fun f4 => some f4)) fu_ 0 carries2 (by omega) (by show 6 < 0 + 5000; omega) (fun t ht => by rw [(hc t ht).2, if_neg (fun q => Nat.not_lt_zero _ q.1)])
  refine ⟨upd c' j (-6), ?_, fun i hi => ?_⟩
  · refine Eq.trans e1 ?_
    rw [ckn_ hj (by omega), nI_clamp (by omega)]
    rfl
  · rw [up_nI]
    unfold lg_
    by_cases ei : i = j
    · rw [if_pos ei, if_pos (Or.inl ei)]; rfl
    · rw [if_neg ei, e2 i hi]
      by_cases e3 : cr i = j
      · rw [if_pos e3, if_pos (Or.inr e3)]
      · rw [if_neg e3, if_neg (fun q => q.elim ei e3)]
/-- behind it the two rows still fit -/
theorem lg_cy2 {T : Nat} {cr br : Nat → Nat} (h2 : cy2_ T cr br) {j : Nat} (hj : j < 6) : (∀ i v, i < 6 → v < 6 → (lg_ j cr i = v ↔ lg_ j br v = i)) ∧ ∀ i, i < 6 → lg_ j cr i < 6 → lg_ j cr i ≠ i ∧ T.testBit i = true ∧ T.testBit (lg_ j cr i) = true ∧ i ≠ j ∧ lg_ j cr i ≠ j := by
  constructor
  · intro i v hi hv
    have a1 := h2.1 i v hi hv
    have a2 := h2.1 i j hi hj
    have a3 := h2.1 j v hj hv
    unfold lg_
    by_cases e1 : i = j ∨ cr i = j
    · by_cases e2 : v = j ∨ br v = j
      · rw [if_pos e1, if_pos e2]; omega
      · rw [if_pos e1, if_neg e2]; omega
    · by_cases e2 : v = j ∨ br v = j
      · rw [if_neg e1, if_pos e2]; omega
      · rw [if_neg e1, if_neg e2]; exact a1
  · intro i hi hl
    unfold lg_ at hl ⊢
    by_cases e1 : i = j ∨ cr i = j
    · rw [if_pos e1] at hl; omega
    · rw [if_neg e1] at hl ⊢
      obtain ⟨b1, b2, b3⟩ := h2.2 i hi hl
      exact ⟨b1, b2, b3, fun q => e1 (Or.inl q), fun q => e1 (Or.inr q)⟩
