/-! ===== one act ===== -/
theorem b5_so {α1 α2 α3 α4 α5 β : Type} (x : α1) (y : α2) (z : α3) (u : α4) (v : α5) (k : α1 → α2 → α3 → α4 → α5 → Option β) : b5_ (some (x, y, z, u, v)) k = k x y z u v := rfl
theorem b8_so {α1 α2 α3 α4 α5 α6 α7 α8 β : Type} (x1 : α1) (x2 : α2) (x3 : α3) (x4 : α4) (x5 : α5) (x6 : α6) (x7 : α7) (x8 : α8) (k : α1 → α2 → α3 → α4 → α5 → α6 → α7 → α8 → Option β) : b8_ (some (x1, x2, x3, x4, x5, x6, x7, x8)) k = k x1 x2 x3 x4 x5 x6 x7 x8 := rfl
theorem enc_sg {n : Nat} (h : n ≤ 6) : (enc_ n < 0 ↔ n = 6) ∧ (0 ≤ enc_ n ↔ ¬ n = 6) := by
  have key : ∀ t : Fin 7, (enc_ t.val < 0 ↔ t.val = 6) ∧ (0 ≤ enc_ t.val ↔ ¬ t.val = 6) := by decide +kernel
  exact key ⟨n, by omega⟩
theorem carrierOf_ {T : Nat} (hT : T < 64) {carries bearer carries2 : Nat → Int32} {cr br : Nat → Nat} (h6 : cy1_ carries bearer carries2 cr br) (h7 : cy2_ T cr br) {j : Nat} (hj : j < 6) : fn_X10_carrierOf (nI T) carries2 (nI j) = some (enc_ (br j)) := by
  unfold fn_X10_carrierOf
  obtain ⟨-, c2, -⟩ := h6 j hj
  obtain ⟨st, e1, e2⟩ := lp_ 6 (fun n x (st : Int32) => fn_X10_carrierOf_l5 (nI T) carries2 (nI j) (fun v3 => some v3) n st x) (fun v3 => some v3) (fun i st => st = if br j < i then enc_ (br j) else (-6)) (by
    intro n i st hi hI
    obtain ⟨d1, d2, d3, d4, d5⟩ := h6 i hi
    show ∃ st', fn_X10_carrierOf_b5 (nI T) carries2 (nI j) (fn_X10_carrierOf_l5 (nI T) carries2 (nI j) (fun v3 => some v3) n) (fun v3 => some v3) st (nI i) = fn_X10_carrierOf_l5 (nI T) carries2 (nI j) (fun v3 => some v3) n st' (nI (i + 1)) ∧ _
    unfold fn_X10_carrierOf_b5
    rw [if_neg (show ¬ (6 : Int32) ≤ nI i from nI_ge (b := 6) hi (by omega)), (has_ hT hi).2, b1_so, ckn_ hi (by omega), nI_clamp (by omega), d5, nI_1]
    have hiff := h7.1 i j hi hj
    by_cases e : cr i = j
    · have eb := hiff.mp e
      have ht := (h7.2 i hi (by omega)).2.1
      rw [if_pos ht, if_neg (by decide), if_pos ((enc_eq d1 hj).mpr e)]
      refine ⟨_, rfl, ?_⟩
      rw [if_pos (by omega), eb, enc_lt hi]
    · have hne : br j ≠ i := fun q => e (hiff.mpr q)
      have hst : st = if br j < i + 1 then enc_ (br j) else (-6) := by
        rw [hI]
        by_cases e2 : br j < i
        · rw [if_pos e2, if_pos (by omega)]
        · rw [if_neg e2, if_neg (by omega)]
      by_cases ht : T.testBit i = true
      · rw [if_pos ht, if_neg (by decide), if_neg (fun q => e ((enc_eq d1 hj).mp q))]
        exact ⟨_, rfl, hst⟩
      · rw [if_neg ht, if_pos rfl]
        exact ⟨_, rfl, hst⟩) (by
    intro n st hI
    show fn_X10_carrierOf_b5 (nI T) carries2 (nI j) (fn_X10_carrierOf_l5 (nI T) carries2 (nI j) (fun v3 => some v3) n) (fun v3 => some v3) st (nI 6) = _
    unfold fn_X10_carrierOf_b5
    rw [if_pos (show (6 : Int32) ≤ nI 6 by decide)]) 6 0 fu_ (-6) rfl (fu_lt (by omega)) (by rw [if_neg (by omega)])
  refine Eq.trans e1 ?_
  rw [e2]
  by_cases e : br j < 6
  · rw [if_pos e]
  · rw [if_neg e, show br j = 6 by omega]
    rfl
theorem isCarried_ {T : Nat} (hT : T < 64) {carries bearer carries2 : Nat → Int32} {cr br : Nat → Nat} (h6 : cy1_ carries bearer carries2 cr br) (h7 : cy2_ T cr br) {j : Nat} (hj : j < 6) : fn_X10_isCarried (nI T) carries2 (nI j) = some (if br j = 6 then 0 else 1) := by
  unfold fn_X10_isCarried
  obtain ⟨-, c2, -⟩ := h6 j hj
  rw [carrierOf_ hT h6 h7 hj, b1_so]
  by_cases e : br j = 6
  · rw [if_pos ((enc_sg c2).1.mpr e), if_pos e]
  · rw [if_neg (fun q => e ((enc_sg c2).1.mp q)), if_neg e]
/-- walkers and fog of both, in an evening -/
def evq_ (T : Nat) (home home2 : Nat → Int32) (h : Nat → Nat) (F : Nat) (a li cr br : Nat → Nat) (at1 li1 ca1 be1 wh2 li2 ca2 : Nat → Int32) : Prop := F ≤ 1 ∧ wk_ at1 home li1 wh2 home2 li2 a h li ∧ cy1_ ca1 be1 ca2 cr br ∧ cy2_ T cr br
def wnq_ (T : Nat) (s w : Nat → Nat) (F : Nat) (a li br : Nat → Nat) (j p : Nat) : Nat := if T.testBit j = true then (if br j = 6 then (if s (12 * a j + p) = 0 then 5 else if co_ s w F (12 * a j + p) ≤ li j then 0 else 6) else 3) else 1
theorem wnw1_ {T : Nat} (hT : T < 64) {codes steps wet : Nat → Int32} {s w : Nat → Nat} (h1 : pl_ codes steps wet s w) {home home2 : Nat → Int32} {h : Nat → Nat} {F : Nat} {a li cr br : Nat → Nat} {at1 li1 ca1 be1 wh2 li2 ca2 : Nat → Int32} (hE : evq_ T home home2 h F a li cr br at1 li1 ca1 be1 wh2 li2 ca2) {j p : Nat} (hj : j < 6) (hp : p < 12) : fn_X0_whyNotWalk (nI T) (nI F) at1 li1 be1 codes (nI j) (nI p) = some (nI (wnq_ T s w F a li br j p)) := by
  obtain ⟨hF, h5, h6, h7⟩ := hE
  obtain ⟨b1, b2, b3, b4, b5, b6, b7, b8, b9⟩ := h5 j hj
  obtain ⟨c1, c2, c3, c4, c5⟩ := h6 j hj
  have k1 := pl_b h1 (12 * a j + p) (by omega)
  have k2 := co_le (F := F) k1.1 k1.2 hF
  unfold fn_X0_whyNotWalk wnq_
  rw [(has_ hT hj).1, b1_so]
  simp only [ckn_ hj (show 6 < 2 ^ 31 by omega), nI_clamp (show j < 2 ^ 31 by omega), b4, b6, c4, costs_ h1 hF b1 hp, b1_so]
  by_cases e1 : T.testBit j = true
  · rw [if_pos e1, if_pos e1, if_neg (show ¬ (1 : Int32) = 0 by decide)]
    by_cases e2 : br j = 6
    · rw [if_pos ((enc_no c2).mpr e2), if_pos e2]
      by_cases e3 : s (12 * a j + p) = 0
      · rw [if_pos (show nI (co_ s w F (12 * a j + p)) = 0 by rw [co_0 e3]; rfl), if_pos e3]
        rfl
      · have := co_pos (w := w) (F := F) e3
        rw [if_neg (nI_ne0 this (by omega)), if_neg e3]
        by_cases e4 : co_ s w F (12 * a j + p) ≤ li j
        · rw [if_pos (nI_le e4 (by omega)), if_pos e4]
          rfl
        · rw [if_neg (nI_ge (by omega) (by omega)), if_neg e4]
          rfl
    · rw [if_neg (fun q => e2 ((enc_no c2).mp q)), if_neg e2]
      rfl
  · rw [if_neg e1, if_neg e1, if_pos rfl]
    rfl
theorem wnw2_ {T : Nat} (hT : T < 64) {codes steps wet : Nat → Int32} {s w : Nat → Nat} (h1 : pl_ codes steps wet s w) {home home2 : Nat → Int32} {h : Nat → Nat} {F : Nat} {a li cr br : Nat → Nat} {at1 li1 ca1 be1 wh2 li2 ca2 : Nat → Int32} (hE : evq_ T home home2 h F a li cr br at1 li1 ca1 be1 wh2 li2 ca2) {j p : Nat} (hj : j < 6) (hp : p < 12) (x : Int32) : fn_X10_whyNot (nI F) (nI T) steps wet wh2 li2 ca2 0 (nI j) (nI p) x = some (nI (wnq_ T s w F a li br j p)) := by
  obtain ⟨hF, h5, h6, h7⟩ := hE
  obtain ⟨b1, b2, b3, b4, b5, b6, b7, b8, b9⟩ := h5 j hj
  obtain ⟨c1, c2, c3, c4, c5⟩ := h6 j hj
  have k1 := pl_b h1 (12 * a j + p) (by omega)
  have k2 := co_le (F := F) k1.1 k1.2 hF
  unfold fn_X10_whyNot wnq_
  rw [if_neg (show ¬ (0 : Int32) = 4 by decide), if_neg (show ¬ (0 : Int32) = 1 by decide), if_neg (show ¬ (0 : Int32) = 3 by decide), (has_ hT hj).2, b1_so, isCarried_ hT h6 h7 hj, b1_so, if_neg (show ¬ (0 : Int32) = 2 by decide)]
  simp only [ckn_ hj (show 6 < 2 ^ 31 by omega), nI_clamp (show j < 2 ^ 31 by omega), b7, b9, cost_ h1 b1 hp, b1_so]
  by_cases e1 : T.testBit j = true
  · rw [if_pos e1, if_pos e1, if_neg (show ¬ (1 : Int32) = 0 by decide)]
    by_cases e2 : br j = 6
    · rw [if_pos e2, if_pos e2, if_pos rfl]
      by_cases e3 : s (12 * a j + p) = 0
      · rw [if_pos e3, if_pos e3, if_neg (show ¬ (0 : Int32) ≤ -6 by decide)]
        rfl
      · rw [if_neg e3, if_neg e3, if_pos (nI_pos' (by omega))]
        by_cases e4 : co_ s w F (12 * a j + p) ≤ li j
        · rw [if_pos (nI_le e4 (by omega)), if_pos e4]
          rfl
        · rw [if_neg (nI_ge (by omega) (by omega)), if_neg e4]
          rfl
    · rw [if_neg e2, if_neg e2, if_neg (show ¬ (1 : Int32) = 0 by decide)]
      rfl
  · rw [if_neg e1, if_neg e1, if_pos rfl]
    rfl
theorem stepq_ {T : Nat} {codes steps wet : Nat → Int32} {s w : Nat → Nat} (h1 : pl_ codes steps wet s w) {home home2 : Nat → Int32} {h : Nat → Nat} {F : Nat} {a li cr br : Nat → Nat} {at1 li1 ca1 be1 wh2 li2 ca2 : Nat → Int32} (hE : evq_ T home home2 h F a li cr br at1 li1 ca1 be1 wh2 li2 ca2) {j p : Nat} (hj : j < 6) (hp : p < 12) (hs0 : s (12 * a j + p) ≠ 0) (hl : co_ s w F (12 * a j + p) ≤ li j) (sp wa : Int32) : ∃ (a' li' : Nat → Nat) (at1' li1' wh2' li2' : Nat → Int32), fn_X0_stepTo (nI F) at1 li1 ca1 codes (nI j) (nI p) = some (nI (co_ s w F (12 * a j + p)), at1', li1') ∧ fn_X10_walk (nI F) sp wa steps wet wh2 li2 ca2 (nI j) (nI p) = some (sp + nI (co_ s w F (12 * a j + p)), wa + 1, wh2', li2') ∧ evq_ T home home2 h F a' li' cr br at1' li1' ca1 be1 wh2' li2' ca2 := by
  obtain ⟨hF, h5, h6, h7⟩ := hE
  obtain ⟨b1, b2, b3, b4, b5, b6, b7, b8, b9⟩ := h5 j hj
  obtain ⟨c1, c2, c3, c4, c5⟩ := h6 j hj
  have fin : ∀ (at1' li1' wh2' li2' : Nat → Int32), (∀ i, i < 6 → at1' i = (if i = j ∨ i = cr j then nI p else at1 i) ∧ wh2' i = (if i = j ∨ i = cr j then nI p else wh2 i)) → li1' = upd li1 j (nI (li j - co_ s w F (12 * a j + p))) → li2' = upd li2 j (nI (li j - co_ s w F (12 * a j + p))) → evq_ T home home2 h F (fun i => if i = j ∨ i = cr j then p else a i) (upn_ li j (li j - co_ s w F (12 * a j + p))) cr br at1' li1' ca1 be1 wh2' li2' ca2 := by
    intro at1' li1' wh2' li2' hat e1 e2
    refine ⟨hF, fun i hi => ?_, h6, h7⟩
    obtain ⟨d1, d2, d3, d4, d5, d6, d7, d8, d9⟩ := h5 i hi
    rw [(hat i hi).1, (hat i hi).2, e1, e2, up_nI, up_nI]
    unfold upn_
    refine ⟨?_, d2, ?_, ?_, d5, ?_, ?_, d8, ?_⟩
    · show (if i = j ∨ i = cr j then p else a i) < 12
      split <;> assumption
    · split <;> omega
    · show _ = nI (if i = j ∨ i = cr j then p else a i)
      split
      · rfl
      · exact d4
    · by_cases e : i = j
      · rw [if_pos e, if_pos e]
      · rw [if_neg e, if_neg e]; exact d6
    · show _ = nI (if i = j ∨ i = cr j then p else a i)
      split
      · rfl
      · exact d7
    · by_cases e : i = j
      · rw [if_pos e, if_pos e]
      · rw [if_neg e, if_neg e]; exact d9
  unfold fn_X0_stepTo fn_X10_walk
  simp only [ckn_ hj (show 6 < 2 ^ 31 by omega), nI_clamp (show j < 2 ^ 31 by omega), b4, b6, b7, b9, c3, c5, cost_ h1 b1 hp, costs_ h1 hF b1 hp, b1_so, lx_so, if_neg hs0, pk_sub hl]
  by_cases e : cr j = 6
  · rw [if_pos ((enc_no c1).mpr e), if_pos ((enc_sg c1).1.mpr e)]
    refine ⟨_, _, _, _, _, _, rfl, rfl, fin _ _ _ _ (fun i hi => ?_) rfl rfl⟩
    rw [up_nI, up_nI]
    by_cases e2 : i = j
    · rw [if_pos e2, if_pos e2, if_pos (Or.inl e2), if_pos (Or.inl e2)]
      exact ⟨rfl, rfl⟩
    · rw [if_neg e2, if_neg e2, if_neg (show ¬ (i = j ∨ i = cr j) by omega), if_neg (show ¬ (i = j ∨ i = cr j) by omega)]
      exact ⟨rfl, rfl⟩
  · have hv : cr j < 6 := by omega
    rw [if_neg (fun q => e ((enc_no c1).mp q)), if_neg (fun q => e ((enc_sg c1).1.mp q)), enc_lt hv]
    simp only [ckn_ hv (show 6 < 2 ^ 31 by omega), nI_clamp (show cr j < 2 ^ 31 by omega)]
    refine ⟨_, _, _, _, _, _, rfl, rfl, fin _ _ _ _ (fun i hi => ?_) rfl rfl⟩
    rw [up_nI, up_nI, up_nI, up_nI]
    by_cases e3 : i = cr j
    · rw [if_pos e3, if_pos e3, if_pos (Or.inr e3), if_pos (Or.inr e3)]
      exact ⟨rfl, rfl⟩
    · rw [if_neg e3, if_neg e3]
      by_cases e2 : i = j
      · rw [if_pos e2, if_pos e2, if_pos (Or.inl e2), if_pos (Or.inl e2)]
        exact ⟨rfl, rfl⟩
      · rw [if_neg e2, if_neg e2, if_neg (show ¬ (i = j ∨ i = cr j) by omega), if_neg (show ¬ (i = j ∨ i = cr j) by omega)]
        exact ⟨rfl, rfl⟩
theorem wnq_le {T : Nat} {s w : Nat → Nat} {F : Nat} {a li br : Nat → Nat} {j p : Nat} : wnq_ T s w F a li br j p ≤ 7 ∧ (wnq_ T s w F a li br j p = 0 → s (12 * a j + p) ≠ 0 ∧ co_ s w F (12 * a j + p) ≤ li j) := by
  unfold wnq_
  by_cases e1 : T.testBit j = true
  · rw [if_pos e1]
    by_cases e2 : br j = 6
    · rw [if_pos e2]
      by_cases e3 : s (12 * a j + p) = 0
      · rw [if_pos e3]; exact ⟨by omega, fun q => absurd q (by omega)⟩
      · rw [if_neg e3]
        by_cases e4 : co_ s w F (12 * a j + p) ≤ li j
        · rw [if_pos e4]; exact ⟨by omega, fun _ => ⟨e3, e4⟩⟩
        · rw [if_neg e4]; exact ⟨by omega, fun q => absurd q (by omega)⟩
    · rw [if_neg e2]; exact ⟨by omega, fun q => absurd q (by omega)⟩
  · rw [if_neg e1]; exact ⟨by omega, fun q => absurd q (by omega)⟩
theorem walkq_ {T : Nat} (hT : T < 64) {codes steps wet : Nat → Int32} {s w : Nat → Nat} (h1 : pl_ codes steps wet s w) {home home2 : Nat → Int32} {h : Nat → Nat} {F : Nat} {a li cr br : Nat → Nat} {at1 li1 ca1 be1 wh2 li2 ca2 : Nat → Int32} (hE : evq_ T home home2 h F a li cr br at1 li1 ca1 be1 wh2 li2 ca2) {j p : Nat} (hj : j < 6) (hp : p < 12) (sp wa x : Int32) : ∃ (y : Nat) (cs ws : Int32) (a' li' : Nat → Nat) (at1' li1' wh2' li2' : Nat → Int32), y ≤ 7 ∧ fn_X1_walk sp wa (nI T) (nI F) at1 li1 ca1 be1 codes (nI j) (nI p) = some (nI y, cs, ws, at1', li1') ∧ fn_X10_whyNot (nI F) (nI T) steps wet wh2 li2 ca2 0 (nI j) (nI p) x = some (nI y) ∧ (y = 0 → fn_X10_walk (nI F) sp wa steps wet wh2 li2 ca2 (nI j) (nI p) = some (cs, ws, wh2', li2')) ∧ (y ≠ 0 → cs = sp ∧ ws = wa ∧ wh2' = wh2 ∧ li2' = li2) ∧ evq_ T home home2 h F a' li' cr br at1' li1' ca1 be1 wh2' li2' ca2 := by
  have hy := wnq_le (T := T) (s := s) (w := w) (F := F) (a := a) (li := li) (br := br) (j := j) (p := p)
  have e2 := wnw2_ hT h1 hE hj hp x
  by_cases e : wnq_ T s w F a li br j p = 0
  · obtain ⟨q1, q2⟩ := hy.2 e
    obtain ⟨a', li', at1', li1', wh2', li2', s1, s2, s3⟩ := stepq_ h1 hE hj hp q1 q2 sp wa
    refine ⟨0, _, _, a', li', at1', li1', wh2', li2', by omega, ?_, by rw [e2, e], fun _ => s2, fun q => absurd rfl q, s3⟩
    unfold fn_X1_walk
    rw [wnw1_ hT h1 hE hj hp, b1_so, e, if_pos (show nI 0 = 0 from rfl), s1, b3_so]
  · refine ⟨wnq_ T s w F a li br j p, sp, wa, a, li, at1, li1, wh2, li2, hy.1, ?_, e2, fun q => absurd q e, fun _ => ⟨rfl, rfl, rfl, rfl⟩, hE⟩
    unfold fn_X1_walk
    rw [wnw1_ hT h1 hE hj hp, b1_so, if_neg (nI_ne0 (by omega) (by omega))]
def mtq_ (T : Nat) (a br : Nat → Nat) (j v : Nat) : Nat := if T.testBit j = true then (if T.testBit v = true then (if j = v then 2 else if br j = 6 then (if br v = 6 then (if a j = a v then 0 else 4) else 3) else 3) else 1) else 1
theorem meet1_ {T : Nat} (hT : T < 64) {home home2 : Nat → Int32} {h : Nat → Nat} {F : Nat} {a li cr br : Nat → Nat} {at1 li1 ca1 be1 wh2 li2 ca2 : Nat → Int32} (hE : evq_ T home home2 h F a li cr br at1 li1 ca1 be1 wh2 li2 ca2) {j v : Nat} (hj : j < 6) (hv : v < 6) : fn_X0_whyNotMeet (nI T) at1 be1 (nI j) (nI v) = some (nI (mtq_ T a br j v)) := by
  obtain ⟨hF, h5, h6, h7⟩ := hE
  obtain ⟨b1, b2, b3, b4, b5, b6, b7, b8, b9⟩ := h5 j hj
  obtain ⟨c1, c2, c3, c4, c5⟩ := h6 j hj
  obtain ⟨d1, d2, d3, d4, d5, d6, d7, d8, d9⟩ := h5 v hv
  obtain ⟨f1, f2, f3, f4, f5⟩ := h6 v hv
  unfold fn_X0_whyNotMeet mtq_
  rw [(has_ hT hj).1, b1_so, (has_ hT hv).1, b1_so]
  simp only [ckn_ hj (show 6 < 2 ^ 31 by omega), nI_clamp (show j < 2 ^ 31 by omega), ckn_ hv (show 6 < 2 ^ 31 by omega), nI_clamp (show v < 2 ^ 31 by omega), b4, d4, c4, f4]
  by_cases e1 : T.testBit j = true
  · rw [if_pos e1, if_pos e1, if_neg (show ¬ (1 : Int32) = 0 by decide)]
    by_cases e2 : T.testBit v = true
    · rw [if_pos e2, if_pos e2, if_neg (show ¬ (1 : Int32) = 0 by decide)]
      by_cases e3 : j = v
      · rw [if_pos (by rw [e3]), if_pos e3]; rfl
      · rw [if_neg (ne_nI (by omega) (by omega) e3), if_neg e3]
        by_cases e4 : br j = 6
        · rw [if_pos ((enc_no c2).mpr e4), if_pos e4]
          by_cases e5 : br v = 6
          · rw [if_pos ((enc_no f2).mpr e5), if_pos e5]
            by_cases e6 : a j = a v
            · rw [if_pos (by rw [e6]), if_pos e6]; rfl
            · rw [if_neg (ne_nI (by omega) (by omega) e6), if_neg e6]; rfl
          · rw [if_neg (fun q => e5 ((enc_no f2).mp q)), if_neg e5]; rfl
        · rw [if_neg (fun q => e4 ((enc_no c2).mp q)), if_neg e4]; rfl
    · rw [if_neg e2, if_neg e2, if_pos rfl]; rfl
  · rw [if_neg e1, if_neg e1, if_pos rfl]; rfl
/-- what the reference asks of two, behind what they have in common -/
theorem meet2_ {T : Nat} (hT : T < 64) {home home2 : Nat → Int32} {h : Nat → Nat} {F : Nat} {a li cr br : Nat → Nat} {at1 li1 ca1 be1 wh2 li2 ca2 : Nat → Int32} (hE : evq_ T home home2 h F a li cr br at1 li1 ca1 be1 wh2 li2 ca2) {j v : Nat} (hj : j < 6) (hv : v < 6) (x1 : Int32) {t : Nat} (ht : t ≤ 9) : fn_X10_whyNotBoth (nI T) wh2 li2 ca2 x1 (nI j) (nI v) (nI t) = some (nI (if mtq_ T a br j v = 0 then (if x1 = 3 then (if 10 * t ≤ li j then 0 else 6) else if cr j = 6 ∧ cr v = 6 then 0 else 7) else mtq_ T a br j v)) := by
  obtain ⟨hF, h5, h6, h7⟩ := hE
  obtain ⟨b1, b2, b3, b4, b5, b6, b7, b8, b9⟩ := h5 j hj
  obtain ⟨c1, c2, c3, c4, c5⟩ := h6 j hj
  obtain ⟨d1, d2, d3, d4, d5, d6, d7, d8, d9⟩ := h5 v hv
  obtain ⟨f1, f2, f3, f4, f5⟩ := h6 v hv
  unfold fn_X10_whyNotBoth mtq_
  rw [(has_ hT hj).2, b1_so, (has_ hT hv).2, b1_so, isCarried_ hT h6 h7 hj, b1_so, isCarried_ hT h6 h7 hv, b1_so]
  simp only [ckn_ hj (show 6 < 2 ^ 31 by omega), nI_clamp (show j < 2 ^ 31 by omega), ckn_ hv (show 6 < 2 ^ 31 by omega), nI_clamp (show v < 2 ^ 31 by omega), b7, d7, b9, c5, f5, show (10 : Int32) = nI 10 from rfl, pk_mul]
  by_cases e1 : T.testBit j = true
  · simp only [if_pos e1]
    rw [if_neg (show ¬ (1 : Int32) = 0 by decide)]
    by_cases e2 : T.testBit v = true
    · simp only [if_pos e2]
      rw [if_neg (show ¬ (1 : Int32) = 0 by decide)]
      by_cases e3 : j = v
      · simp only [if_pos e3, if_neg (show ¬ 2 = 0 by decide)]
        rw [if_pos (by rw [e3])]; rfl
      · simp only [if_neg e3]
        rw [if_neg (ne_nI (by omega) (by omega) e3)]
        by_cases e4 : br j = 6
        · simp only [if_pos e4]
          by_cases e5 : br v = 6
          · simp only [if_pos e5, if_true]
            by_cases e6 : a j = a v
            · simp only [if_pos e6, if_true]
              rw [if_pos (by rw [e6])]
              by_cases e7 : x1 = 3
              · simp only [if_pos e7]
                by_cases e8 : 10 * t ≤ li j
                · rw [if_pos (nI_le e8 (by omega)), if_pos e8]; rfl
                · rw [if_neg (nI_ge (by omega) (by omega)), if_neg e8]; rfl
              · simp only [if_neg e7]
                by_cases e8 : cr j = 6
                · rw [if_neg (fun q => ((enc_sg c1).2.mp q) e8)]
                  by_cases e9 : cr v = 6
                  · rw [if_pos ((enc_sg f1).1.mpr e9), if_pos ⟨e8, e9⟩]; rfl
                  · rw [if_neg (fun q => e9 ((enc_sg f1).1.mp q)), if_neg (fun q => e9 q.2)]; rfl
                · rw [if_pos ((enc_sg c1).2.mpr e8), if_neg (fun q => e8 q.1)]; rfl
            · simp only [if_neg e6, if_neg (show ¬ 4 = 0 by decide)]
              rw [if_neg (ne_nI (by omega) (by omega) e6)]; rfl
          · simp only [if_neg e5, if_neg (show ¬ 3 = 0 by decide)]
            rfl
        · simp only [if_neg e4, if_neg (show ¬ 3 = 0 by decide)]
          rfl
    · simp only [if_neg e2, if_neg (show ¬ 1 = 0 by decide)]
      rfl
  · simp only [if_neg e1, if_neg (show ¬ 1 = 0 by decide)]
    rfl
