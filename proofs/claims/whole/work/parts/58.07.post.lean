/-! ===== post, by ===== -/
/-- the first of the least -/
def am_ (v : Nat → Nat) : Nat → Nat
  | 0 => 0
  | n + 1 => if v (am_ v n) ≤ v n then am_ v n else n
theorem am_lt (v : Nat → Nat) : ∀ n, am_ v n ≤ n
  | 0 => Nat.le_refl _
  | n + 1 => by
    have h := am_lt v n
    show (if v (am_ v n) ≤ v n then am_ v n else n) ≤ n + 1
    split <;> omega
theorem am_lt2 (v : Nat → Nat) : ∀ n, 0 < n → am_ v n < n
  | 0, h => absurd h (by omega)
  | n + 1, _ => by
    show (if v (am_ v n) ≤ v n then am_ v n else n) < n + 1
    have h := am_lt v n
    split <;> omega
theorem am_1 (v : Nat → Nat) : am_ v 1 = 0 := by
  show (if v 0 ≤ v 0 then 0 else 0) = 0
  split <;> rfl
theorem best1_ {α : Type} (v : Nat → Nat) (B : Nat) (hB : B < 2 ^ 31) (hv : ∀ p, p < 12 → v p < 2 ^ 31) (L : Nat → Int32 → Int32 × Int32 → Option α) (k : Int32 → Option α) (hs : ∀ n p st, p < 12 → L (n + 1) (nI p) st = if st.2 ≤ nI (v p) then L n (nI (p + 1)) st else L n (nI (p + 1)) (nI p, nI (v p))) (he : ∀ n st, L (n + 1) (nI 12) st = k st.1) : L fu_ (nI 0) (-6, nI B) = k (if B ≤ v (am_ v 12) then (-6) else nI (am_ v 12)) := by
  obtain ⟨st, e1, e2⟩ := lp_ 12 L (fun st => k st.1) (fun i st => st = if i = 0 ∨ B ≤ v (am_ v i) then ((-6, nI B) : Int32 × Int32) else (nI (am_ v i), nI (v (am_ v i)))) (by
    intro n p st hp hI
    have hvp := hv p hp
    rw [hs n p st hp]
    by_cases e0 : p = 0
    · have hI2 : st = (-6, nI B) := by rw [hI, if_pos (Or.inl e0)]
      subst hI2
      subst e0
      by_cases e1 : B ≤ v 0
      · rw [if_pos (show ((-6, nI B) : Int32 × Int32).2 ≤ nI (v 0) from nI_le e1 hvp)]
        exact ⟨_, rfl, by rw [am_1, if_pos (Or.inr e1)]⟩
      · rw [if_neg (show ¬ ((-6, nI B) : Int32 × Int32).2 ≤ nI (v 0) from nI_ge (by omega) hB)]
        exact ⟨_, rfl, by rw [am_1, if_neg (show ¬ (0 + 1 = 0 ∨ B ≤ v 0) by omega)]⟩
    · have hap : am_ v p < 12 := by have := am_lt v p; omega
      have hva := hv _ hap
      have es : am_ v (p + 1) = if v (am_ v p) ≤ v p then am_ v p else p := rfl
      by_cases e1 : B ≤ v (am_ v p)
      · have hI2 : st = (-6, nI B) := by rw [hI, if_pos (Or.inr e1)]
        subst hI2
        by_cases e2 : B ≤ v p
        · rw [if_pos (show ((-6, nI B) : Int32 × Int32).2 ≤ nI (v p) from nI_le e2 hvp)]
          refine ⟨_, rfl, ?_⟩
          rw [if_pos (Or.inr (by rw [es]; split <;> assumption))]
        · rw [if_neg (show ¬ ((-6, nI B) : Int32 × Int32).2 ≤ nI (v p) from nI_ge (by omega) hB)]
          refine ⟨_, rfl, ?_⟩
          have es2 : am_ v (p + 1) = p := by rw [es, if_neg (by omega)]
          rw [es2, if_neg (show ¬ (p + 1 = 0 ∨ B ≤ v p) by omega)]
      · have hI2 : st = (nI (am_ v p), nI (v (am_ v p))) := by rw [hI, if_neg (show ¬ (p = 0 ∨ B ≤ v (am_ v p)) by omega)]
        subst hI2
        by_cases e2 : v (am_ v p) ≤ v p
        · rw [if_pos (show ((nI (am_ v p), nI (v (am_ v p))) : Int32 × Int32).2 ≤ nI (v p) from nI_le e2 hvp)]
          refine ⟨_, rfl, ?_⟩
          have es2 : am_ v (p + 1) = am_ v p := by rw [es, if_pos e2]
          rw [es2, if_neg (show ¬ (p + 1 = 0 ∨ B ≤ v (am_ v p)) by omega)]
        · rw [if_neg (show ¬ ((nI (am_ v p), nI (v (am_ v p))) : Int32 × Int32).2 ≤ nI (v p) from nI_ge (by omega) hva)]
          refine ⟨_, rfl, ?_⟩
          have es2 : am_ v (p + 1) = p := by rw [es, if_neg e2]
          rw [es2, if_neg (show ¬ (p + 1 = 0 ∨ B ≤ v p) by omega)]) (fun n st _ => he n st) 12 0 fu_ (-6, nI B) rfl (fu_lt (by omega)) (by rw [if_pos (Or.inl rfl)])
  rw [e1, e2]
  by_cases e : B ≤ v (am_ v 12)
  · rw [if_pos (show 12 = 0 ∨ B ≤ v (am_ v 12) from Or.inr e), if_pos e]
  · rw [if_neg (show ¬ (12 = 0 ∨ B ≤ v (am_ v 12)) by omega), if_neg e]
theorem best2_ {α : Type} (v : Nat → Nat) (L : Nat → Int32 → Int32 → Option α) (k : Int32 → Option α) (hs : ∀ n p b, p < 12 → b < 12 → L (n + 1) (nI p) (nI b) = if v b ≤ v p then L n (nI (p + 1)) (nI b) else L n (nI (p + 1)) (nI p)) (he : ∀ n st, L (n + 1) (nI 12) st = k st) : L fu_ (nI 1) (nI 0) = k (nI (am_ v 12)) := by
  obtain ⟨st, e1, e2⟩ := lp_ 12 L k (fun i st => st = nI (am_ v i)) (by
    intro n p st hp hI
    have hap : am_ v p < 12 := by have := am_lt v p; omega
    rw [hI, hs n p _ hp hap]
    refine ⟨nI (am_ v (p + 1)), ?_, rfl⟩
    show _ = L n (nI (p + 1)) (nI (if v (am_ v p) ≤ v p then am_ v p else p))
    by_cases e : v (am_ v p) ≤ v p
    · rw [if_pos e, if_pos e]
    · rw [if_neg e, if_neg e]) (fun n st _ => he n st) 11 1 fu_ (nI 0) rfl (fu_lt (by omega)) (by rw [am_1])
  rw [e1, e2]
def pf_ (T : Nat) (d h : Nat → Nat) (p j : Nat) (st : Nat × Nat) : Nat × Nat := if T.testBit j = true then (st.1 + d (12 * p + h j), if st.2 < d (12 * p + h j) then d (12 * p + h j) else st.2) else st
def po_ (T : Nat) (d h : Nat → Nat) (m p : Nat) : Nat := if m = 0 then (fl_ (pf_ T d h p) 6 0 (0, 0)).1 else (fl_ (pf_ T d h p) 6 0 (0, 0)).2
def pJ_ (i : Nat) (st : Nat × Nat) : Prop := st.1 ≤ 1000000 * i ∧ st.2 ≤ 1000000
theorem pf_J {T : Nat} {d h : Nat → Nat} {p j : Nat} (hd : ∀ k, k < 144 → d k ≤ 1000000) (hp : p < 12) (hh : h j < 12) {st : Nat × Nat} (hJ : pJ_ j st) : pJ_ (j + 1) (pf_ T d h p j st) := by
  have := hd (12 * p + h j) (by omega)
  obtain ⟨j1, j2⟩ := hJ
  unfold pf_ pJ_
  by_cases e : T.testBit j = true
  · rw [if_pos e]
    dsimp only
    refine ⟨by omega, ?_⟩
    split <;> omega
  · rw [if_neg e]
    exact ⟨by omega, j2⟩
theorem pc9_ {T : Nat} (hT : T < 64) {at1 home light at2 home2 light2 L : Nat → Int32} {a h li d : Nat → Nat} (h5 : wk_ at1 home light at2 home2 light2 a h li) (hL : ∀ k, k < 144 → L k = nI (d k)) (hd : ∀ k, k < 144 → d k ≤ 1000000) {p : Nat} (hp : p < 12) (k : Int32 → Int32 → Option Int32) : fn_X0_postCosts_l9 (nI T) home L (nI p) k fu_ 0 0 0 = k (nI (fl_ (pf_ T d h p) 6 0 (0, 0)).1) (nI (fl_ (pf_ T d h p) 6 0 (0, 0)).2) ∧ pJ_ 6 (fl_ (pf_ T d h p) 6 0 (0, 0)) := by
  refine lg2_ 6 (fun n x (st : Nat × Nat) => fn_X0_postCosts_l9 (nI T) home L (nI p) k n (nI st.1) (nI st.2) x) (fun st => k (nI st.1) (nI st.2)) (pf_ T d h p) pJ_ ?_ ?_ 6 0 fu_ (0, 0) rfl (fu_lt (by omega)) ⟨by show 0 ≤ _; omega, by show 0 ≤ _; omega⟩
  · intro n j st hj hJ
    obtain ⟨b1, b2, b3, b4, b5, -⟩ := h5 j hj
    refine ⟨?_, pf_J hd hp b2 hJ⟩
    obtain ⟨j1, j2⟩ := hJ
    have c1 := hd (12 * p + h j) (by omega)
    show fn_X0_postCosts_b9 (nI T) home L (nI p) (fn_X0_postCosts_l9 (nI T) home L (nI p) k n) k (nI st.1) (nI st.2) (nI j) = _
    unfold fn_X0_postCosts_b9 pf_
    rw [if_neg (show ¬ (6 : Int32) ≤ nI j from nI_ge (b := 6) hj (by omega)), (has_ hT hj).1, b1_so, ckn_ hj (by omega), nI_clamp (by omega), b5, between_ hp b2, b1_so, lx_so, hL _ (by omega), nI_1, nI_add]
    by_cases e1 : T.testBit j = true
    · rw [if_pos e1, if_pos e1, if_neg (by decide)]
      by_cases e2 : st.2 < d (12 * p + h j)
      · rw [if_pos (nI_lt e2 (by omega)), if_pos e2]
      · rw [if_neg (nI_nlt (by omega) (by omega)), if_neg e2]
    · rw [if_neg e1, if_neg e1, if_pos rfl]
  · intro n st hJ
    show fn_X0_postCosts_b9 (nI T) home L (nI p) (fn_X0_postCosts_l9 (nI T) home L (nI p) k n) k (nI st.1) (nI st.2) (nI 6) = _
    unfold fn_X0_postCosts_b9
    rw [if_pos (show (6 : Int32) ≤ nI 6 by decide)]
theorem po8_ {T : Nat} (hT : T < 64) {at1 home light at2 home2 light2 A : Nat → Int32} {a h li d : Nat → Nat} (h5 : wk_ at1 home light at2 home2 light2 a h li) (hA : ∀ k, k < 144 → A k = nI (d k)) (hd : ∀ k, k < 144 → d k ≤ 1000000) {p : Nat} (hp : p < 12) (k : Int32 → Int32 → Option Int32) : fn_X10_postOf_l8 (nI T) home2 A (nI p) k fu_ 0 0 0 = k (nI (fl_ (pf_ T d h p) 6 0 (0, 0)).1) (nI (fl_ (pf_ T d h p) 6 0 (0, 0)).2) ∧ pJ_ 6 (fl_ (pf_ T d h p) 6 0 (0, 0)) := by
  refine lg2_ 6 (fun n x (st : Nat × Nat) => fn_X10_postOf_l8 (nI T) home2 A (nI p) k n (nI st.1) (nI st.2) x) (fun st => k (nI st.1) (nI st.2)) (pf_ T d h p) pJ_ ?_ ?_ 6 0 fu_ (0, 0) rfl (fu_lt (by omega)) ⟨by show 0 ≤ _; omega, by show 0 ≤ _; omega⟩
  · intro n j st hj hJ
    obtain ⟨b1, b2, b3, -, -, -, b4, b5, -⟩ := h5 j hj
    refine ⟨?_, pf_J hd hp b2 hJ⟩
    obtain ⟨j1, j2⟩ := hJ
    have c1 := hd (12 * p + h j) (by omega)
    have j44 : ∀ v, v ≤ 1000000 → fn_X10_postOf_j44 (nI st.1) (nI st.2) (nI j) (nI v) (fn_X10_postOf_l8 (nI T) home2 A (nI p) k n) k = fn_X10_postOf_l8 (nI T) home2 A (nI p) k n (nI (st.1 + v)) (nI (if st.2 < v then v else st.2)) (nI (j + 1)) := by
      intro v hv
      unfold fn_X10_postOf_j44
      refine (cap_ v hv (fun z => fn_X10_postOf_j60 (nI st.1) (nI st.2) (nI j) z (fn_X10_postOf_l8 (nI T) home2 A (nI p) k n) k)).trans ?_
      show fn_X10_postOf_j60 (nI st.1) (nI st.2) (nI j) (nI v) (fn_X10_postOf_l8 (nI T) home2 A (nI p) k n) k = _
      unfold fn_X10_postOf_j60
      rw [nI_add, nI_1]
      by_cases e : st.2 < v
      · rw [if_neg (nI_ge e (by omega)), if_pos e]
      · rw [if_pos (nI_le (by omega) (by omega)), if_neg e]
    show fn_X10_postOf_b8 (nI T) home2 A (nI p) (fn_X10_postOf_l8 (nI T) home2 A (nI p) k n) k (nI st.1) (nI st.2) (nI j) = _
    unfold fn_X10_postOf_b8 fn_X10_at pf_
    rw [if_neg (show ¬ (6 : Int32) ≤ nI j from nI_ge (b := 6) hj (by omega)), (has_ hT hj).2, b1_so, ckn_ hj (by omega), nI_clamp (by omega), b5, b1_so, ix2_, ckn_ (show 12 * p + h j < 144 by omega) (by omega), nI_clamp (by omega), hA _ (by omega), j44 _ c1, show (0 : Int32) = nI 0 from rfl, j44 0 (by omega)]
    by_cases e1 : T.testBit j = true
    · rw [if_pos e1, if_pos e1, if_neg (by decide)]
    · rw [if_neg e1, if_neg e1, if_pos rfl, Nat.add_zero, if_neg (Nat.not_lt_zero _)]
  · intro n st hJ
    show fn_X10_postOf_b8 (nI T) home2 A (nI p) (fn_X10_postOf_l8 (nI T) home2 A (nI p) k n) k (nI st.1) (nI st.2) (nI 6) = _
    unfold fn_X10_postOf_b8
    rw [if_pos (show (6 : Int32) ≤ nI 6 by decide)]
theorem postCosts_ {T : Nat} (hT : T < 64) {at1 home light at2 home2 light2 L : Nat → Int32} {a h li d : Nat → Nat} (h5 : wk_ at1 home light at2 home2 light2 a h li) (hL : ∀ k, k < 144 → L k = nI (d k)) (hd : ∀ k, k < 144 → d k ≤ 1000000) {p m : Nat} (hp : p < 12) {z : Int32} (hz : z = if m = 0 then 1 else 0) : fn_X0_postCosts (nI T) home L (nI p) z = some (nI (po_ T d h m p)) ∧ po_ T d h m p ≤ 6000000 := by
  unfold fn_X0_postCosts po_
  obtain ⟨e1, e2, e3⟩ := pc9_ hT h5 hL hd hp (fun v6 v7 => if z = 0 then some v7 else some v6)
  rw [e1, hz]
  by_cases e : m = 0
  · rw [if_pos e, if_neg (by decide), if_pos e]
    exact ⟨rfl, by omega⟩
  · rw [if_neg e, if_pos rfl, if_neg e]
    exact ⟨rfl, by omega⟩
theorem postOf_ {T : Nat} (hT : T < 64) {at1 home light at2 home2 light2 A : Nat → Int32} {a h li d : Nat → Nat} (h5 : wk_ at1 home light at2 home2 light2 a h li) (hA : ∀ k, k < 144 → A k = nI (d k)) (hd : ∀ k, k < 144 → d k ≤ 1000000) {p m : Nat} (hp : p < 12) (hm : m ≤ 1) : fn_X10_postOf (nI T) home2 A (nI p) (nI m) = some (nI (po_ T d h m p)) := by
  unfold fn_X10_postOf po_
  obtain ⟨e1, -⟩ := po8_ hT h5 hA hd hp (fun v5 v6 => if nI m = 0 then some v5 else some v6)
  rw [e1]
  by_cases e : m = 0
  · rw [if_pos e, if_pos (by rw [e]; rfl)]
  · rw [if_neg e, if_neg (nI_ne0 (by omega) (by omega))]
theorem bestPost_ {T : Nat} (hT : T < 64) {at1 home light at2 home2 light2 L : Nat → Int32} {a h li d : Nat → Nat} (h5 : wk_ at1 home light at2 home2 light2 a h li) (hL : ∀ k, k < 144 → L k = nI (d k)) (hd : ∀ k, k < 144 → d k ≤ 1000000) {m : Nat} {z : Int32} (hz : z = if m = 0 then 1 else 0) : fn_X0_bestPost (nI T) home L z = some (if 1000000 ≤ po_ T d h m (am_ (po_ T d h m) 12) then (-6) else nI (am_ (po_ T d h m) 12)) := by
  unfold fn_X0_bestPost
  refine best1_ (po_ T d h m) 1000000 (by omega) (fun p hp => by have := (postCosts_ hT h5 hL hd hp hz).2; omega) (fun n x (st : Int32 × Int32) => fn_X0_bestPost_l10 (nI T) home L z (fun v3 => some v3) n st.1 st.2 x) (fun v3 => some v3) ?_ ?_
  · intro n p st hp
    show fn_X0_bestPost_b10 (nI T) home L z (fn_X0_bestPost_l10 (nI T) home L z (fun v3 => some v3) n) (fun v3 => some v3) st.1 st.2 (nI p) = _
    unfold fn_X0_bestPost_b10
    rw [if_neg (show ¬ (12 : Int32) ≤ nI p from nI_ge (b := 12) hp (by omega)), (postCosts_ hT h5 hL hd hp hz).1, b1_so, nI_1]
  · intro n st
    show fn_X0_bestPost_b10 (nI T) home L z (fn_X0_bestPost_l10 (nI T) home L z (fun v3 => some v3) n) (fun v3 => some v3) st.1 st.2 (nI 12) = _
    unfold fn_X0_bestPost_b10
    rw [if_pos (show (12 : Int32) ≤ nI 12 by decide)]
theorem post32_ {T : Nat} (hT : T < 64) {at1 home light at2 home2 light2 A : Nat → Int32} {a h li d : Nat → Nat} (h5 : wk_ at1 home light at2 home2 light2 a h li) (hA : ∀ k, k < 144 → A k = nI (d k)) (hd : ∀ k, k < 144 → d k ≤ 1000000) {m : Nat} (hm : m ≤ 1) (k : Int32 → Option (Int32 × (Nat → Int32))) : fn_X10_post_l32 (nI T) home2 A (nI m) k fu_ 0 1 = k (nI (am_ (po_ T d h m) 12)) := by
  refine best2_ (po_ T d h m) (fun n x (st : Int32) => fn_X10_post_l32 (nI T) home2 A (nI m) k n st x) k ?_ ?_
  · intro n p b hp hb
    show fn_X10_post_b32 (nI T) home2 A (nI m) (fn_X10_post_l32 (nI T) home2 A (nI m) k n) k (nI b) (nI p) = _
    unfold fn_X10_post_b32
    have b1 := (postCosts_ (p := b) (m := m) hT h5 (L := A) hA hd hb rfl).2
    have b2 := (postCosts_ (p := p) (m := m) hT h5 (L := A) hA hd hp rfl).2
    rw [if_neg (show ¬ (12 : Int32) ≤ nI p from nI_ge (b := 12) hp (by omega)), postOf_ hT h5 hA hd hp hm, b1_so, postOf_ hT h5 hA hd hb hm, b1_so, nI_1]
    by_cases e : po_ T d h m b ≤ po_ T d h m p
    · rw [if_pos (nI_le e (by omega)), if_pos e]
    · rw [if_neg (nI_ge (by omega) (by omega)), if_neg e]
  · intro n st
    show fn_X10_post_b32 (nI T) home2 A (nI m) (fn_X10_post_l32 (nI T) home2 A (nI m) k n) k st (nI 12) = _
    unfold fn_X10_post_b32
    rw [if_pos (show (12 : Int32) ≤ nI 12 by decide)]
theorem pp_post {c_x_measured c_x_now_crowd_there c_x_now_crowd_foggy c_x_now_sights_count c_x_pad_count c_x_evening_acts c_x_evening_failedAct c_x_evening_reason c_x_evening_costs c_x_evening_walks c_x_evening_crowd_there c_x_evening_crowd_foggy c_x_tour_costs c_x_tour_firstStop c_x_odds_count c_x_odds_tenths c_m_foggy c_m_walkers c_m_sights c_m_padMany c_m_acts c_m_spent c_m_walks c_m_badAct c_m_badWhy c_m_keptAt c_m_isWriting : Int32} {c_x_now_marsh_codes c_x_now_crowd_at c_x_now_crowd_home c_x_now_crowd_light c_x_now_crowd_carries c_x_now_crowd_bearer c_x_now_sights_places c_x_now_sights_lights c_x_pad_signs c_x_evening_crowd_at c_x_evening_crowd_home c_x_evening_crowd_light c_x_evening_crowd_carries c_x_evening_crowd_bearer c_x_ways_planks c_x_ways_least c_x_ways_neighbours c_x_tour_stops c_x_tour_rest c_x_odds_planks c_m_steps c_m_wet c_m_where c_m_home c_m_light c_m_carries c_m_sightPlace c_m_sightLight c_m_pad c_m_act c_m_whose c_m_whom c_m_tens c_m_had c_m_leaves c_m_apart c_m_stop c_m_restOf c_m_group c_m_along : Nat → Int32} (hR : RR c_x_measured c_x_now_marsh_codes c_x_now_crowd_there c_x_now_crowd_foggy c_x_now_crowd_at c_x_now_crowd_home c_x_now_crowd_light c_x_now_crowd_carries c_x_now_crowd_bearer c_x_now_sights_count c_x_now_sights_places c_x_now_sights_lights c_x_pad_count c_x_pad_signs c_x_evening_acts c_x_evening_failedAct c_x_evening_reason c_x_evening_costs c_x_evening_walks c_x_evening_crowd_there c_x_evening_crowd_foggy c_x_evening_crowd_at c_x_evening_crowd_home c_x_evening_crowd_light c_x_evening_crowd_carries c_x_evening_crowd_bearer c_x_ways_planks c_x_ways_least c_x_ways_neighbours c_x_tour_costs c_x_tour_firstStop c_x_tour_stops c_x_tour_rest c_x_odds_count c_x_odds_tenths c_x_odds_planks c_m_foggy c_m_walkers c_m_sights c_m_padMany c_m_acts c_m_spent c_m_walks c_m_badAct c_m_badWhy c_m_keptAt c_m_isWriting c_m_steps c_m_wet c_m_where c_m_home c_m_light c_m_carries c_m_sightPlace c_m_sightLight c_m_pad c_m_act c_m_whose c_m_whom c_m_tens c_m_had c_m_leaves c_m_apart c_m_stop c_m_restOf c_m_group c_m_along) (x1 : Int32) (x2 : Int32)  : ∃ (r : Int32) (w0 : Int32) (w1 : Nat → Int32) (w2 : Nat → Int32) (w3 : Nat → Int32) (v0 : Nat → Int32), fn_X9_post c_x_measured c_x_now_marsh_codes c_x_now_crowd_there c_x_now_crowd_foggy c_x_now_crowd_home c_x_ways_planks c_x_ways_least c_x_ways_neighbours x1 x2 = some (r, w0, w1, w2, w3) ∧ fn_X10_post c_m_foggy c_m_walkers c_m_steps c_m_wet c_m_home c_m_apart x1 x2 = some (r, v0) ∧ RR w0 c_x_now_marsh_codes c_x_now_crowd_there c_x_now_crowd_foggy c_x_now_crowd_at c_x_now_crowd_home c_x_now_crowd_light c_x_now_crowd_carries c_x_now_crowd_bearer c_x_now_sights_count c_x_now_sights_places c_x_now_sights_lights c_x_pad_count c_x_pad_signs c_x_evening_acts c_x_evening_failedAct c_x_evening_reason c_x_evening_costs c_x_evening_walks c_x_evening_crowd_there c_x_evening_crowd_foggy c_x_evening_crowd_at c_x_evening_crowd_home c_x_evening_crowd_light c_x_evening_crowd_carries c_x_evening_crowd_bearer w1 w2 w3 c_x_tour_costs c_x_tour_firstStop c_x_tour_stops c_x_tour_rest c_x_odds_count c_x_odds_tenths c_x_odds_planks c_m_foggy c_m_walkers c_m_sights c_m_padMany c_m_acts c_m_spent c_m_walks c_m_badAct c_m_badWhy c_m_keptAt c_m_isWriting c_m_steps c_m_wet c_m_where c_m_home c_m_light c_m_carries c_m_sightPlace c_m_sightLight c_m_pad c_m_act c_m_whose c_m_whom c_m_tens c_m_had c_m_leaves v0 c_m_stop c_m_restOf c_m_group c_m_along := by
  obtain ⟨s, w, T, F, a, h, li, cr, br, sc, sp, sl, pc, g, h1, h2, ⟨hT, hT1, hT2⟩, ⟨hF, hF1, hF2⟩, h5, h6, h7, ⟨hsc, hs1, hs2⟩, h9, ⟨hpc, hp1, hp2⟩, h11, h12⟩ := id hR
  rcases rg0_ x1 1 1 1 rfl rfl with ⟨q1, q2, -⟩ | ⟨m, hm, em, q1, q2⟩
  · refine ⟨-2, c_x_measured, c_x_ways_planks, c_x_ways_least, c_x_ways_neighbours, c_m_apart, ?_, ?_, hR⟩
    · unfold fn_X9_post; rw [q1]; rfl
    · unfold fn_X10_post; rw [q2]; rfl
  · rcases rg0_ x2 1 1 1 rfl rfl with ⟨q3, q4, -⟩ | ⟨m2, hm2, em2, q3, q4⟩
    · refine ⟨-2, c_x_measured, c_x_ways_planks, c_x_ways_least, c_x_ways_neighbours, c_m_apart, ?_, ?_, hR⟩
      · unfold fn_X9_post; rw [q1, b1_so, if_neg (by decide), q3]; rfl
      · unfold fn_X10_post; rw [q2, b1_so, if_neg (by decide), q4]; rfl
    · obtain ⟨P', L', N', A', e1, e2, hw, hA⟩ := mw_ h1 hF h12 c_m_apart
      have hd := ds_le (pl_b h1) hF
      have hap : am_ (po_ T (ds_ s w F) h m) 12 < 12 := am_lt2 _ 12 (by omega)
      have hpb := (postCosts_ (p := am_ (po_ T (ds_ s w F) h m) 12) (m := m) hT h5 (L := L') (fun k hk => (hw.1 k hk).2) hd hap rfl).2
      have ref : ∀ r : Int32, (if T = 0 then (-6) else if po_ T (ds_ s w F) h m (am_ (po_ T (ds_ s w F) h m) 12) < 1000000 then (if m2 = 0 then nI (am_ (po_ T (ds_ s w F) h m) 12) else nI (po_ T (ds_ s w F) h m (am_ (po_ T (ds_ s w F) h m) 12))) else (-6)) = r → fn_X10_post c_m_foggy c_m_walkers c_m_steps c_m_wet c_m_home c_m_apart x1 x2 = some (r, A') := by
        intro r hr
        unfold fn_X10_post
        rw [q2, b1_so, if_neg (by decide), q4, b1_so, if_neg (by decide), hF2, e2, b1_so, hT2, em, post32_ hT h5 hA hd hm, postOf_ hT h5 hA hd hap hm, b1_so, ← hr]
        by_cases e3 : T = 0
        · rw [if_pos (show nI T = 0 by rw [e3]; rfl), if_pos e3]
        · rw [if_neg (nI_ne0 (by omega) (by omega)), if_neg e3]
          by_cases e4 : po_ T (ds_ s w F) h m (am_ (po_ T (ds_ s w F) h m) 12) < 1000000
          · rw [if_pos (show nI (po_ T (ds_ s w F) h m (am_ (po_ T (ds_ s w F) h m) 12)) < 1000000 from nI_lt (b := 1000000) e4 (by omega)), if_pos e4]
            rcases (show m2 = 0 ∨ m2 = 1 by omega) with e5 | e5
            · rw [if_pos (show x2 = 0 by rw [em2, e5]; rfl), if_pos e5]
            · rw [if_neg (show ¬ x2 = 0 by rw [em2, e5]; decide), if_neg (by omega)]
          · rw [if_neg (show ¬ nI (po_ T (ds_ s w F) h m (am_ (po_ T (ds_ s w F) h m) 12)) < 1000000 from nI_nlt (b := 1000000) (by omega) (by omega)), if_neg e4]
      by_cases e3 : T = 0
      · refine ⟨-6, c_x_measured, c_x_ways_planks, c_x_ways_least, c_x_ways_neighbours, A', ?_, ref _ (by rw [if_pos e3]), hR⟩
        unfold fn_X9_post
        rw [q1, b1_so, if_neg (by decide), q3, b1_so, if_neg (by decide), if_pos (show c_x_now_crowd_there = 0 by rw [hT1, e3]; rfl)]
      · refine ⟨_, 1, P', L', N', A', ?_, ref _ rfl, ⟨s, w, T, F, a, h, li, cr, br, sc, sp, sl, pc, g, h1, h2, ⟨hT, hT1, hT2⟩, ⟨hF, hF1, hF2⟩, h5, h6, h7, ⟨hsc, hs1, hs2⟩, h9, ⟨hpc, hp1, hp2⟩, h11, Or.inr ⟨rfl, hw⟩⟩⟩
        unfold fn_X9_post
        rw [q1, b1_so, if_neg (by decide), q3, b1_so, if_neg (by decide), hT1, if_neg (nI_ne0 (by omega) (by omega)), hF1, e1, b4_so, if_neg e3]
        have hj : ∀ z : Int32, z = (if m = 0 then 1 else 0) → fn_X9_post_j50 1 (nI T) c_x_now_crowd_home P' L' N' x2 z = some (if po_ T (ds_ s w F) h m (am_ (po_ T (ds_ s w F) h m) 12) < 1000000 then (if m2 = 0 then nI (am_ (po_ T (ds_ s w F) h m) 12) else nI (po_ T (ds_ s w F) h m (am_ (po_ T (ds_ s w F) h m) 12))) else (-6), 1, P', L', N') := by
          intro z hz
          unfold fn_X9_post_j50
          rw [bestPost_ hT h5 (fun k hk => (hw.1 k hk).2) hd hz, b1_so]
          by_cases e4 : po_ T (ds_ s w F) h m (am_ (po_ T (ds_ s w F) h m) 12) < 1000000
          · rw [if_neg (show ¬ 1000000 ≤ po_ T (ds_ s w F) h m (am_ (po_ T (ds_ s w F) h m) 12) by omega), if_pos e4, if_neg (n6_ne (by omega)), (postCosts_ hT h5 (fun k hk => (hw.1 k hk).2) hd hap hz).1, b1_so]
            rcases (show m2 = 0 ∨ m2 = 1 by omega) with e5 | e5
            · rw [if_pos (show x2 = 0 by rw [em2, e5]; rfl), if_pos e5]
            · rw [if_neg (show ¬ x2 = 0 by rw [em2, e5]; decide), if_neg (by omega)]
          · rw [if_pos (show 1000000 ≤ po_ T (ds_ s w F) h m (am_ (po_ T (ds_ s w F) h m) 12) by omega), if_neg e4, if_pos rfl]
        rcases (show m = 0 ∨ m = 1 by omega) with e5 | e5
        · rw [if_pos (show x1 = 0 by rw [em, e5]; rfl)]
          exact hj 1 (by rw [if_pos e5])
        · rw [if_neg (show ¬ x1 = 0 by rw [em, e5]; decide)]
          exact hj 0 (by rw [if_neg (by omega)])
/-! by -/
theorem fl_add {σ : Type} (f : Nat → σ → σ) : ∀ (d e i : Nat) (s : σ), fl_ f (d + e) i s = fl_ f e (i + d) (fl_ f d i s)
  | 0, e, i, s => by rw [Nat.zero_add]; rfl
  | d + 1, e, i, s => by
    rw [show d + 1 + e = (d + e) + 1 by omega]
    show fl_ f (d + e) (i + 1) (f i s) = fl_ f e (i + (d + 1)) (fl_ f d (i + 1) (f i s))
    rw [fl_add f d e (i + 1), show i + 1 + d = i + (d + 1) by omega]
theorem fl_shift {σ : Type} (f : Nat → σ → σ) (c : Nat) : ∀ (d i : Nat) (s : σ), fl_ f d (c + i) s = fl_ (fun j => f (c + j)) d i s
  | 0, _, _ => rfl
  | d + 1, i, s => fl_shift f c d (i + 1) (f (c + i) s)
/-- a loop in a loop, as one -/
theorem fl_nest {σ : Type} (g : Nat → Nat → σ → σ) : ∀ (n i : Nat) (s : σ), fl_ (fun k => g (k / 12) (k % 12)) (12 * n) (12 * i) s = fl_ (fun p st => fl_ (g p) 12 0 st) n i s
  | 0, _, _ => rfl
  | n + 1, i, s => by
    have e : fl_ (fun k => g (k / 12) (k % 12)) 12 (12 * i) s = fl_ (g i) 12 0 s := by
      refine (fl_shift (fun k => g (k / 12) (k % 12)) (12 * i) 12 0 s).trans (fl_congr 12 0 s (fun j t _ hj => ?_))
      rw [show (12 * i + j) / 12 = i by omega, show (12 * i + j) % 12 = j by omega]
    rw [show 12 * (n + 1) = 12 + 12 * n by omega, fl_add, e, show 12 * i + 12 = 12 * (i + 1) by omega]
    exact fl_nest g n (i + 1) _
theorem passes_ {L : Nat → Int32} {d : Nat → Nat} (hL : ∀ k, k < 144 → L k = nI (d k)) (hd : ∀ k, k < 144 → d k ≤ 1000000) {p q r : Nat} (hp : p < 12) (hq : q < 12) (hr : r < 12) : fn_X8_passes L (nI p) (nI q) (nI r) = some (if d (12 * p + q) < 1000000 ∧ d (12 * p + r) + d (12 * r + q) = d (12 * p + q) then 1 else 0) := by
  unfold fn_X8_passes
  have c1 := hd (12 * p + q) (by omega)
  have c2 := hd (12 * p + r) (by omega)
  have c3 := hd (12 * r + q) (by omega)
  rw [between_ hp hq, b1_so, between_ hp hr, b1_so, between_ hr hq, b1_so, b1_so, hL _ (by omega), hL _ (by omega), hL _ (by omega), nI_add]
  by_cases e1 : d (12 * p + q) < 1000000
  · rw [if_neg (show ¬ (1000000 : Int32) ≤ nI (d (12 * p + q)) from nI_ge (b := 1000000) e1 (by omega))]
    by_cases e2 : d (12 * p + r) + d (12 * r + q) = d (12 * p + q)
    · rw [if_pos (by rw [e2]), if_pos ⟨e1, e2⟩]
    · rw [if_neg (ne_nI (by omega) (by omega) e2), if_neg (fun z => e2 z.2)]
  · rw [if_pos (show (1000000 : Int32) ≤ nI (d (12 * p + q)) from nI_le (a := 1000000) (by omega) (by omega)), if_neg (fun z => e1 z.1)]
def byg_ (d : Nat → Nat) (r p q : Nat) (c : Int32) : Int32 := if p ≠ q ∧ p ≠ r ∧ q ≠ r ∧ d (12 * p + q) < 1000000 ∧ d (12 * p + r) + d (12 * r + q) = d (12 * p + q) then c + 1 else c
theorem by13_ {L : Nat → Int32} {d : Nat → Nat} (hL : ∀ k, k < 144 → L k = nI (d k)) (hd : ∀ k, k < 144 → d k ≤ 1000000) {p r : Nat} (hp : p < 12) (hr : r < 12) (k : Int32 → Option Int32) (c : Int32) : fn_X8_countPassing_l13 L (nI r) (nI p) k fu_ c 0 = k (fl_ (byg_ d r p) 12 0 c) := by
  refine lf_ 12 (fun n x (c : Int32) => fn_X8_countPassing_l13 L (nI r) (nI p) k n c x) k (byg_ d r p) ?_ ?_ 12 0 fu_ c rfl (fu_lt (by omega))
  · intro n q c hq
    show fn_X8_countPassing_b13 L (nI r) (nI p) (fn_X8_countPassing_l13 L (nI r) (nI p) k n) k c (nI q) = _
    unfold fn_X8_countPassing_b13 byg_
    rw [if_neg (show ¬ (12 : Int32) ≤ nI q from nI_ge (b := 12) hq (by omega)), passes_ hL hd hp hq hr, b1_so, nI_1]
    by_cases e1 : p = q
    · rw [if_pos (by rw [e1]), if_neg (fun z => z.1 e1)]
    · rw [if_neg (ne_nI (by omega) (by omega) e1)]
      by_cases e2 : p = r
      · rw [if_pos (by rw [e2]), if_neg (fun z => z.2.1 e2)]
      · rw [if_neg (ne_nI (by omega) (by omega) e2)]
        by_cases e3 : q = r
        · rw [if_pos (by rw [e3]), if_neg (fun z => z.2.2.1 e3)]
        · rw [if_neg (ne_nI (by omega) (by omega) e3)]
          by_cases e4 : d (12 * p + q) < 1000000 ∧ d (12 * p + r) + d (12 * r + q) = d (12 * p + q)
          · rw [if_pos e4, if_neg (by decide), if_pos ⟨e1, e2, e3, e4⟩]
          · rw [if_neg e4, if_pos rfl, if_neg (fun z => e4 z.2.2.2)]
  · intro n c
    show fn_X8_countPassing_b13 L (nI r) (nI p) (fn_X8_countPassing_l13 L (nI r) (nI p) k n) k c (nI 12) = _
    unfold fn_X8_countPassing_b13
    rw [if_pos (show (12 : Int32) ≤ nI 12 by decide)]
theorem countPassing_ {L : Nat → Int32} {d : Nat → Nat} (hL : ∀ k, k < 144 → L k = nI (d k)) (hd : ∀ k, k < 144 → d k ≤ 1000000) {r : Nat} (hr : r < 12) : fn_X8_countPassing L (nI r) = some (fl_ (fun p st => fl_ (byg_ d r p) 12 0 st) 12 0 0) := by
  unfold fn_X8_countPassing
  refine lf_ 12 (fun n x (c : Int32) => fn_X8_countPassing_l4 L (nI r) (fun v4 => some v4) n c x) (fun v4 => some v4) (fun p st => fl_ (byg_ d r p) 12 0 st) ?_ ?_ 12 0 fu_ 0 rfl (fu_lt (by omega))
  · intro n p c hp
    show fn_X8_countPassing_b4 L (nI r) (fn_X8_countPassing_l4 L (nI r) (fun v4 => some v4) n) (fun v4 => some v4) c (nI p) = _
    unfold fn_X8_countPassing_b4
    rw [if_neg (show ¬ (12 : Int32) ≤ nI p from nI_ge (b := 12) hp (by omega)), by13_ hL hd hp hr, nI_1]
  · intro n c
    show fn_X8_countPassing_b4 L (nI r) (fn_X8_countPassing_l4 L (nI r) (fun v4 => some v4) n) (fun v4 => some v4) c (nI 12) = _
    unfold fn_X8_countPassing_b4
    rw [if_pos (show (12 : Int32) ≤ nI 12 by decide)]
theorem by17_ {A : Nat → Int32} {d : Nat → Nat} (hA : ∀ k, k < 144 → A k = nI (d k)) (hd : ∀ k, k < 144 → d k ≤ 1000000) {r : Nat} (hr : r < 12) (k : Int32 → Option (Int32 × (Nat → Int32))) : fn_X10_by_l17 A (nI r) k fu_ 0 0 = k (fl_ (fun k => byg_ d r (k / 12) (k % 12)) 144 0 0) := by
  refine lf_ 144 (fun n x (c : Int32) => fn_X10_by_l17 A (nI r) k n c x) k (fun k => byg_ d r (k / 12) (k % 12)) ?_ ?_ 144 0 fu_ 0 rfl (fu_lt (by omega))
  · intro n i c hi
    show fn_X10_by_b17 A (nI r) (fn_X10_by_l17 A (nI r) k n) k c (nI i) = _
    unfold fn_X10_by_b17 fn_X10_by_j70
    have hp : i / 12 < 12 := by omega
    have hq : i % 12 < 12 := by omega
    have ei : 12 * (i / 12) + i % 12 = i := by omega
    have c1 := hd i hi
    have c2 := hd (12 * (i / 12) + r) (by omega)
    have c3 := hd (12 * r + i % 12) (by omega)
    have j0 : ∀ u v : Int32, fn_X10_by_j71 A (nI r) c (nI i) u v 0 (fn_X10_by_l17 A (nI r) k n) k = fn_X10_by_l17 A (nI r) k n c (nI (i + 1)) := by
      intro u v
      unfold fn_X10_by_j71 fn_X10_by_j115
      rw [if_pos rfl, Int32.add_zero, nI_1]
    have j1 : fn_X10_by_j71 A (nI r) c (nI i) (nI (i / 12)) (nI (i % 12)) 1 (fn_X10_by_l17 A (nI r) k n) k = if d (12 * (i / 12) + r) + d (12 * r + i % 12) = d i then fn_X10_by_l17 A (nI r) k n (c + 1) (nI (i + 1)) else fn_X10_by_l17 A (nI r) k n c (nI (i + 1)) := by
      unfold fn_X10_by_j71 fn_X10_by_j115 fn_X10_at
      rw [if_neg (by decide), b1_so, b1_so, ix2_, ix2_, ckn_ (show 12 * (i / 12) + r < 144 by omega) (by omega), ckn_ (show 12 * r + i % 12 < 144 by omega) (by omega), ckn_ hi (by omega), nI_clamp (by omega), nI_clamp (by omega), nI_clamp (by omega), hA _ (by omega), hA _ (by omega), hA _ (by omega), nI_add, nI_1, Int32.add_zero]
      by_cases e : d (12 * (i / 12) + r) + d (12 * r + i % 12) = d i
      · rw [if_pos (by rw [e]), if_pos e]
      · rw [if_neg (ne_nI (by omega) (by omega) e), if_neg e]
    rw [if_neg (show ¬ (144 : Int32) ≤ nI i from nI_ge (b := 144) hi (by omega)), dv12_ (by omega), md12_ (by omega), j0, j1, hasWay_ hp hq (hA _ (by omega)) (by rw [ei]; omega), b1_so, ei]
    show _ = fn_X10_by_l17 A (nI r) k n (byg_ d r (i / 12) (i % 12) c) (nI (i + 1))
    unfold byg_
    rw [ei]
    by_cases e1 : i / 12 = i % 12
    · rw [if_pos (by rw [e1]), if_neg (fun z => z.1 e1)]
    · rw [if_neg (ne_nI (by omega) (by omega) e1)]
      by_cases e2 : i / 12 = r
      · rw [if_pos (by rw [e2]), if_neg (fun z => z.2.1 e2)]
      · rw [if_neg (ne_nI (by omega) (by omega) e2)]
        by_cases e3 : i % 12 = r
        · rw [if_pos (by rw [e3]), if_neg (fun z => z.2.2.1 e3)]
        · rw [if_neg (ne_nI (by omega) (by omega) e3)]
          by_cases e4 : d i < 1000000
          · rw [if_pos e4, if_neg (by decide)]
            by_cases e5 : d (12 * (i / 12) + r) + d (12 * r + i % 12) = d i
            · rw [if_pos e5, if_pos ⟨e1, e2, e3, e4, e5⟩]
            · rw [if_neg e5, if_neg (fun z => e5 z.2.2.2.2)]
          · rw [if_neg e4, if_pos rfl, if_neg (fun z => e4 z.2.2.2.1)]
  · intro n c
    show fn_X10_by_b17 A (nI r) (fn_X10_by_l17 A (nI r) k n) k c (nI 144) = _
    unfold fn_X10_by_b17
    rw [if_pos (show (144 : Int32) ≤ nI 144 by decide)]
theorem pp_by {c_x_measured c_x_now_crowd_there c_x_now_crowd_foggy c_x_now_sights_count c_x_pad_count c_x_evening_acts c_x_evening_failedAct c_x_evening_reason c_x_evening_costs c_x_evening_walks c_x_evening_crowd_there c_x_evening_crowd_foggy c_x_tour_costs c_x_tour_firstStop c_x_odds_count c_x_odds_tenths c_m_foggy c_m_walkers c_m_sights c_m_padMany c_m_acts c_m_spent c_m_walks c_m_badAct c_m_badWhy c_m_keptAt c_m_isWriting : Int32} {c_x_now_marsh_codes c_x_now_crowd_at c_x_now_crowd_home c_x_now_crowd_light c_x_now_crowd_carries c_x_now_crowd_bearer c_x_now_sights_places c_x_now_sights_lights c_x_pad_signs c_x_evening_crowd_at c_x_evening_crowd_home c_x_evening_crowd_light c_x_evening_crowd_carries c_x_evening_crowd_bearer c_x_ways_planks c_x_ways_least c_x_ways_neighbours c_x_tour_stops c_x_tour_rest c_x_odds_planks c_m_steps c_m_wet c_m_where c_m_home c_m_light c_m_carries c_m_sightPlace c_m_sightLight c_m_pad c_m_act c_m_whose c_m_whom c_m_tens c_m_had c_m_leaves c_m_apart c_m_stop c_m_restOf c_m_group c_m_along : Nat → Int32} (hR : RR c_x_measured c_x_now_marsh_codes c_x_now_crowd_there c_x_now_crowd_foggy c_x_now_crowd_at c_x_now_crowd_home c_x_now_crowd_light c_x_now_crowd_carries c_x_now_crowd_bearer c_x_now_sights_count c_x_now_sights_places c_x_now_sights_lights c_x_pad_count c_x_pad_signs c_x_evening_acts c_x_evening_failedAct c_x_evening_reason c_x_evening_costs c_x_evening_walks c_x_evening_crowd_there c_x_evening_crowd_foggy c_x_evening_crowd_at c_x_evening_crowd_home c_x_evening_crowd_light c_x_evening_crowd_carries c_x_evening_crowd_bearer c_x_ways_planks c_x_ways_least c_x_ways_neighbours c_x_tour_costs c_x_tour_firstStop c_x_tour_stops c_x_tour_rest c_x_odds_count c_x_odds_tenths c_x_odds_planks c_m_foggy c_m_walkers c_m_sights c_m_padMany c_m_acts c_m_spent c_m_walks c_m_badAct c_m_badWhy c_m_keptAt c_m_isWriting c_m_steps c_m_wet c_m_where c_m_home c_m_light c_m_carries c_m_sightPlace c_m_sightLight c_m_pad c_m_act c_m_whose c_m_whom c_m_tens c_m_had c_m_leaves c_m_apart c_m_stop c_m_restOf c_m_group c_m_along) (x1 : Int32)  : ∃ (r : Int32) (w0 : Int32) (w1 : Nat → Int32) (w2 : Nat → Int32) (w3 : Nat → Int32) (v0 : Nat → Int32), fn_X9_by c_x_measured c_x_now_marsh_codes c_x_now_crowd_foggy c_x_ways_planks c_x_ways_least c_x_ways_neighbours x1 = some (r, w0, w1, w2, w3) ∧ fn_X10_by c_m_foggy c_m_steps c_m_wet c_m_apart x1 = some (r, v0) ∧ RR w0 c_x_now_marsh_codes c_x_now_crowd_there c_x_now_crowd_foggy c_x_now_crowd_at c_x_now_crowd_home c_x_now_crowd_light c_x_now_crowd_carries c_x_now_crowd_bearer c_x_now_sights_count c_x_now_sights_places c_x_now_sights_lights c_x_pad_count c_x_pad_signs c_x_evening_acts c_x_evening_failedAct c_x_evening_reason c_x_evening_costs c_x_evening_walks c_x_evening_crowd_there c_x_evening_crowd_foggy c_x_evening_crowd_at c_x_evening_crowd_home c_x_evening_crowd_light c_x_evening_crowd_carries c_x_evening_crowd_bearer w1 w2 w3 c_x_tour_costs c_x_tour_firstStop c_x_tour_stops c_x_tour_rest c_x_odds_count c_x_odds_tenths c_x_odds_planks c_m_foggy c_m_walkers c_m_sights c_m_padMany c_m_acts c_m_spent c_m_walks c_m_badAct c_m_badWhy c_m_keptAt c_m_isWriting c_m_steps c_m_wet c_m_where c_m_home c_m_light c_m_carries c_m_sightPlace c_m_sightLight c_m_pad c_m_act c_m_whose c_m_whom c_m_tens c_m_had c_m_leaves v0 c_m_stop c_m_restOf c_m_group c_m_along := by
  obtain ⟨s, w, T, F, a, h, li, cr, br, sc, sp, sl, pc, g, h1, h2, ⟨hT, hT1, hT2⟩, ⟨hF, hF1, hF2⟩, h5, h6, h7, ⟨hsc, hs1, hs2⟩, h9, ⟨hpc, hp1, hp2⟩, h11, h12⟩ := id hR
  rcases pc_ x1 with ⟨q1, q2, -⟩ | ⟨p, hp, ep, q1, q2⟩
  · refine ⟨-1, c_x_measured, c_x_ways_planks, c_x_ways_least, c_x_ways_neighbours, c_m_apart, ?_, ?_, hR⟩
    · unfold fn_X9_by; rw [q1]; rfl
    · unfold fn_X10_by; rw [q2]; rfl
  · obtain ⟨P', L', N', A', e1, e2, hw, hA⟩ := mw_ h1 hF h12 c_m_apart
    have hd := ds_le (pl_b h1) hF
    refine ⟨fl_ (fun p' st => fl_ (byg_ (ds_ s w F) p p') 12 0 st) 12 0 0, 1, P', L', N', A', ?_, ?_, ⟨s, w, T, F, a, h, li, cr, br, sc, sp, sl, pc, g, h1, h2, ⟨hT, hT1, hT2⟩, ⟨hF, hF1, hF2⟩, h5, h6, h7, ⟨hsc, hs1, hs2⟩, h9, ⟨hpc, hp1, hp2⟩, h11, Or.inr ⟨rfl, hw⟩⟩⟩
    · unfold fn_X9_by
      rw [q1, b1_so, if_neg (by decide), hF1, e1, b4_so, ep, countPassing_ (fun k hk => (hw.1 k hk).2) hd hp, b1_so]
    · unfold fn_X10_by
      rw [q2, b1_so, if_neg (by decide), hF2, e2, b1_so, ep, by17_ hA hd hp]
      rw [fl_nest (byg_ (ds_ s w F) p) 12 0 0]
