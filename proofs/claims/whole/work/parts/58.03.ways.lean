/-! ===== the ways of both: least costs ===== -/
theorem fw1_le {d : Nat → Nat} {m B : Nat} (h : ∀ k, k < 144 → d k ≤ B) : ∀ k, k < 144 → fw1_ d m k ≤ B := by
  intro k hk
  have := h k hk
  unfold fw1_
  split <;> omega
theorem fwn_le {d : Nat → Nat} {B : Nat} (h : ∀ k, k < 144 → d k ≤ B) : ∀ n k, k < 144 → fwn_ d n k ≤ B
  | 0 => h
  | n + 1 => fw1_le (fwn_le h n)
theorem fw0_le {s w : Nat → Nat} (hs : ∀ k, k < 144 → s k ≤ 99 ∧ w k ≤ 1) {F : Nat} (hF : F ≤ 1) : ∀ k, k < 144 → fw0_ s w F k ≤ 1000000 := by
  intro k hk
  have h1 := hs k hk
  have h2 := co_le (F := F) h1.1 h1.2 hF
  unfold fw0_
  split
  · omega
  · split <;> omega
theorem ds_le {s w : Nat → Nat} (hs : ∀ k, k < 144 → s k ≤ 99 ∧ w k ≤ 1) {F : Nat} (hF : F ≤ 1) : ∀ k, k < 144 → ds_ s w F k ≤ 1000000 := fwn_le (fw0_le hs hF) 12
theorem fw1_c {d : Nat → Nat} {m p : Nat} (hm : m < 12) (hp : p < 12) : fw1_ d m (12 * p + m) = d (12 * p + m) := by
  unfold fw1_
  rw [show (12 * p + m) / 12 = p by omega, show (12 * p + m) % 12 = m by omega, if_neg (by omega)]
theorem fw1_r {d : Nat → Nat} {m q : Nat} (hm : m < 12) (hq : q < 12) : fw1_ d m (12 * m + q) = d (12 * m + q) := by
  unfold fw1_
  rw [show (12 * m + q) / 12 = m by omega, show (12 * m + q) % 12 = q by omega, if_neg (by omega)]
theorem fw1_e {d : Nat → Nat} {m p q : Nat} (hp : p < 12) (hq : q < 12) : fw1_ d m (12 * p + q) = if d (12 * p + m) + d (12 * m + q) < d (12 * p + q) then d (12 * p + m) + d (12 * m + q) else d (12 * p + q) := by
  unfold fw1_
  rw [show (12 * p + q) / 12 = p by omega, show (12 * p + q) % 12 = q by omega]
/-- a row that holds d with the first n places as after one stage more -/
def st_ (A : Nat → Int32) (d : Nat → Nat) (m n : Nat) : Prop := ∀ k, k < 144 → A k = nI (if k < n then fw1_ d m k else d k)
theorem st_c {A : Nat → Int32} {d : Nat → Nat} {m n p : Nat} (h : st_ A d m n) (hm : m < 12) (hp : p < 12) : A (12 * p + m) = nI (d (12 * p + m)) := by
  rw [h _ (by omega), fw1_c hm hp]; split <;> rfl
theorem st_r {A : Nat → Int32} {d : Nat → Nat} {m n q : Nat} (h : st_ A d m n) (hm : m < 12) (hq : q < 12) : A (12 * m + q) = nI (d (12 * m + q)) := by
  rw [h _ (by omega), fw1_r hm hq]; split <;> rfl
theorem st_up {A : Nat → Int32} {d : Nat → Nat} {m n : Nat} (h : st_ A d m n) {x : Int32} (hx : x = nI (fw1_ d m n)) : st_ (upd A n x) d m (n + 1) := by
  intro k hk
  rw [up_nI]
  by_cases e : k = n
  · rw [if_pos e, if_pos (by omega), hx, e]
  · rw [if_neg e, h k hk]
    by_cases e2 : k < n
    · rw [if_pos e2, if_pos (by omega)]
    · rw [if_neg e2, if_neg (by omega)]
theorem st_id {A : Nat → Int32} {d : Nat → Nat} {m n : Nat} (h : st_ A d m n) (hx : fw1_ d m n = d n) : st_ A d m (n + 1) := by
  intro k hk
  rw [h k hk]
  by_cases e : k = n
  · rw [if_neg (by omega), if_pos (by omega), e, hx]
  · by_cases e2 : k < n
    · rw [if_pos e2, if_pos (by omega)]
    · rw [if_neg e2, if_neg (by omega)]
/-! the reference -/
theorem fw77_ {d : Nat → Nat} (hd : ∀ k, k < 144 → d k ≤ 1000000) {m p : Nat} (hm : m < 12) (hp : p < 12) (k : (Nat → Int32) → Option (Nat → Int32)) {A : Nat → Int32} (hA : st_ A d m (12 * p)) : ∃ A', fn_X10_findWays_l77 (nI m) (nI p) k fu_ 0 A = k A' ∧ st_ A' d m (12 * p + 12) := by
  refine lp_ 12 (fun n x st => fn_X10_findWays_l77 (nI m) (nI p) k n x st) k (fun q A => st_ A d m (12 * p + q)) ?_ ?_ 12 0 fu_ A rfl (fu_lt (by omega)) hA
  · intro n q A hq hA
    have c1 := st_c hA hm hp
    have c2 := st_r hA hm hq
    have c3 : A (12 * p + q) = nI (d (12 * p + q)) := by rw [hA _ (by omega), if_neg (by omega)]
    show ∃ st', fn_X10_findWays_b77 (nI m) (nI p) (fn_X10_findWays_l77 (nI m) (nI p) k n) k (nI q) A = fn_X10_findWays_l77 (nI m) (nI p) k n (nI (q + 1)) st' ∧ _
    unfold fn_X10_findWays_b77 fn_X10_at
    rw [if_neg (show ¬ (12 : Int32) ≤ nI q from nI_ge (b := 12) hq (by omega))]
    simp (disch := omega) only [b1_so, b2_so, b3_so, b4_so, lx_so, ckn_, nI_clamp, ix1_, ix2_, nI_1, c1, c2, c3, nI_add]
    have b1 := hd (12 * p + m) (by omega)
    have b2 := hd (12 * m + q) (by omega)
    have b3 := hd (12 * p + q) (by omega)
    by_cases e : d (12 * p + q) ≤ d (12 * p + m) + d (12 * m + q)
    · rw [if_pos (nI_le e (by omega))]
      refine ⟨_, rfl, st_up hA ?_⟩
      rw [fw1_e hp hq, if_neg (by omega)]
    · rw [if_neg (nI_ge (show d (12 * p + m) + d (12 * m + q) < d (12 * p + q) by omega) (by omega))]
      refine ⟨_, rfl, st_up hA ?_⟩
      rw [fw1_e hp hq, if_pos (by omega)]
  · intro n A hA
    show fn_X10_findWays_b77 (nI m) (nI p) (fn_X10_findWays_l77 (nI m) (nI p) k n) k (nI 12) A = k A
    unfold fn_X10_findWays_b77
    rw [if_pos (show (12 : Int32) ≤ nI 12 by decide)]
theorem fw69_ {d : Nat → Nat} (hd : ∀ k, k < 144 → d k ≤ 1000000) {m : Nat} (hm : m < 12) (k : (Nat → Int32) → Option (Nat → Int32)) {A : Nat → Int32} (hA : st_ A d m 0) : ∃ A', fn_X10_findWays_l69 (nI m) k fu_ 0 A = k A' ∧ st_ A' d m 144 := by
  refine lp_ 12 (fun n x st => fn_X10_findWays_l69 (nI m) k n x st) k (fun p A => st_ A d m (12 * p)) ?_ ?_ 12 0 fu_ A rfl (fu_lt (by omega)) hA
  · intro n p A hp hA
    show ∃ st', fn_X10_findWays_b69 (nI m) (fn_X10_findWays_l69 (nI m) k n) k (nI p) A = fn_X10_findWays_l69 (nI m) k n (nI (p + 1)) st' ∧ _
    unfold fn_X10_findWays_b69
    rw [if_neg (show ¬ (12 : Int32) ≤ nI p from nI_ge (b := 12) hp (by omega)), nI_1]
    exact fw77_ hd hm hp _ hA
  · intro n A hA
    show fn_X10_findWays_b69 (nI m) (fn_X10_findWays_l69 (nI m) k n) k (nI 12) A = k A
    unfold fn_X10_findWays_b69
    rw [if_pos (show (12 : Int32) ≤ nI 12 by decide)]
theorem fw61_ {d : Nat → Nat} (hd : ∀ k, k < 144 → d k ≤ 1000000) (k : (Nat → Int32) → Option (Nat → Int32)) {A : Nat → Int32} (hA : ∀ i, i < 144 → A i = nI (d i)) : ∃ A', fn_X10_findWays_l61 k fu_ 0 A = k A' ∧ ∀ i, i < 144 → A' i = nI (fwn_ d 12 i) := by
  refine lp_ 12 (fun n x st => fn_X10_findWays_l61 k n x st) k (fun m A => ∀ i, i < 144 → A i = nI (fwn_ d m i)) ?_ ?_ 12 0 fu_ A rfl (fu_lt (by omega)) hA
  · intro n m A hm hA
    show ∃ st', fn_X10_findWays_b61 (fn_X10_findWays_l61 k n) k (nI m) A = fn_X10_findWays_l61 k n (nI (m + 1)) st' ∧ _
    unfold fn_X10_findWays_b61
    rw [if_neg (show ¬ (12 : Int32) ≤ nI m from nI_ge (b := 12) hm (by omega)), nI_1]
    obtain ⟨A', e1, e2⟩ := fw69_ (fwn_le hd m) hm (fun v21 => fn_X10_findWays_l61 k n (nI (m + 1)) v21) (A := A) (fun i hi => by rw [if_neg (by omega)]; exact hA i hi)
    refine ⟨A', e1, fun i hi => ?_⟩
    rw [e2 i hi, if_pos hi]
    rfl
  · intro n A hA
    show fn_X10_findWays_b61 (fn_X10_findWays_l61 k n) k (nI 12) A = k A
    unfold fn_X10_findWays_b61
    rw [if_pos (show (12 : Int32) ≤ nI 12 by decide)]
theorem pl_b {codes steps wet : Nat → Int32} {s w : Nat → Nat} (h1 : pl_ codes steps wet s w) : ∀ k, k < 144 → s k ≤ 99 ∧ w k ≤ 1 := fun k hk => ⟨(h1 k hk).1, (h1 k hk).2.1⟩
theorem findWays_ {codes steps wet : Nat → Int32} {s w : Nat → Nat} (h1 : pl_ codes steps wet s w) {F : Nat} (hF : F ≤ 1) (A : Nat → Int32) : ∃ A', fn_X10_findWays (nI F) steps wet A = some A' ∧ ∀ i, i < 144 → A' i = nI (ds_ s w F i) := by
  unfold fn_X10_findWays
  obtain ⟨A1, e1, i1⟩ := lp_ 144 (fun n x st => fn_X10_findWays_l2 (nI F) steps wet (fun v6 => fn_X10_findWays_l61 (fun v22 => some v22) fu_ 0 v6) n x st) (fun v6 => fn_X10_findWays_l61 (fun v22 => some v22) fu_ 0 v6) (fun n A => ∀ i, i < n → A i = nI (fw0_ s w F i)) (by
    intro n i A hi hA
    show ∃ st', fn_X10_findWays_b2 (nI F) steps wet (fn_X10_findWays_l2 (nI F) steps wet (fun v6 => fn_X10_findWays_l61 (fun v22 => some v22) fu_ 0 v6) n) (fun v6 => fn_X10_findWays_l61 (fun v22 => some v22) fu_ 0 v6) (nI i) A = fn_X10_findWays_l2 (nI F) steps wet (fun v6 => fn_X10_findWays_l61 (fun v22 => some v22) fu_ 0 v6) n (nI (i + 1)) st' ∧ _
    unfold fn_X10_findWays_b2
    have hup : ∀ x : Int32, x = nI (fw0_ s w F i) → ∀ j, j < i + 1 → upd A i x j = nI (fw0_ s w F j) := by
      intro x hx j hj
      rw [up_nI]
      by_cases e : j = i
      · rw [if_pos e, hx, e]
      · rw [if_neg e, hA j (by omega)]
    rw [if_neg (show ¬ (144 : Int32) ≤ nI i from nI_ge (b := 144) hi (by omega))]
    simp (disch := omega) only [b1_so, b2_so, b3_so, b4_so, lx_so, ckn_, nI_clamp, ix1_, ix2_, nI_1, dv12_, md12_]
    rw [cost_ h1 (show i / 12 < 12 by omega) (show i % 12 < 12 by omega), b1_so, show 12 * (i / 12) + i % 12 = i by omega]
    by_cases e1 : i / 12 = i % 12
    · rw [if_pos (by rw [e1])]
      refine ⟨_, rfl, hup _ ?_⟩
      unfold fw0_; rw [if_pos e1]; rfl
    · rw [if_neg (ne_nI (by omega) (by omega) e1)]
      by_cases e2 : s i = 0
      · rw [if_pos e2, if_neg (by decide)]
        refine ⟨_, rfl, hup _ ?_⟩
        unfold fw0_; rw [if_neg e1, if_pos e2]; rfl
      · have := co_le (F := F) (h1 i hi).1 (h1 i hi).2.1 hF
        rw [if_neg e2, if_pos (nI_pos' (by omega))]
        refine ⟨_, rfl, hup _ ?_⟩
        unfold fw0_; rw [if_neg e1, if_neg e2]) (by
    intro n A hA
    show fn_X10_findWays_b2 (nI F) steps wet (fn_X10_findWays_l2 (nI F) steps wet (fun v6 => fn_X10_findWays_l61 (fun v22 => some v22) fu_ 0 v6) n) (fun v6 => fn_X10_findWays_l61 (fun v22 => some v22) fu_ 0 v6) (nI 144) A = fn_X10_findWays_l61 (fun v22 => some v22) fu_ 0 A
    unfold fn_X10_findWays_b2
    rw [if_pos (show (144 : Int32) ≤ nI 144 by decide)]) 144 0 fu_ A rfl (fu_lt (by omega)) (fun i hi => absurd hi (by omega))
  obtain ⟨A2, e2, i2⟩ := fw61_ (fw0_le (pl_b h1) hF) (fun v22 => some v22) i1
  exact ⟨A2, e1.trans e2, i2⟩
