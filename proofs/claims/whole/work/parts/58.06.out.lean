/-! ===== out, more ===== -/
theorem cap_ {α : Type} (v : Nat) (hv : v ≤ 1000000) (f : Int32 → α) : (if (1000000 : Int32) ≤ nI v then f 1000000 else f (nI v)) = f (nI v) := by
  by_cases e : v < 1000000
  · rw [if_neg (show ¬ (1000000 : Int32) ≤ nI v from nI_ge (b := 1000000) e (by omega))]
  · have e2 : v = 1000000 := by omega
    subst e2
    rw [if_pos (show (1000000 : Int32) ≤ nI 1000000 from nI_le (a := 1000000) (by omega) (by omega))]
    rfl
theorem isAhead_ {u k v w : Nat} (hu : u ≤ 1000000) (hv : v ≤ 1000000) (hk : k < 6) (hw : w < 6) : fn_X0_isAhead (nI u) (nI k) (nI v) (nI w) = some (if u < v ∨ (u = v ∧ k < w) then 1 else 0) := by
  unfold fn_X0_isAhead
  by_cases e1 : u < v
  · rw [if_pos (nI_lt e1 (by omega)), if_pos (Or.inl e1)]
  · rw [if_neg (nI_nlt (by omega) (by omega))]
    by_cases e2 : u = v
    · rw [if_pos (by rw [e2])]
      by_cases e3 : k < w
      · rw [if_neg (nI_ge e3 (by omega)), if_pos (Or.inr ⟨e2, e3⟩)]
      · rw [if_pos (nI_le (by omega) (by omega)), if_neg (fun hh => hh.elim e1 (fun q => e3 q.2))]
    · rw [if_neg (ne_nI (by omega) (by omega) e2), if_neg (fun hh => hh.elim e1 (fun q => e2 q.1))]
def dh_ (d a h : Nat → Nat) (j : Nat) : Nat := d (12 * a j + h j)
def cf_ (T : Nat) (dh : Nat → Nat) (w k c : Nat) : Nat := if T.testBit k = true ∧ (dh k < dh w ∨ (dh k = dh w ∧ k < w)) then c + 1 else c
theorem cf_le (T : Nat) (dh : Nat → Nat) (w : Nat) : ∀ d i c, fl_ (cf_ T dh w) d i c ≤ c + d
  | 0, i, c => Nat.le_refl _
  | d + 1, i, c => by
    have h := cf_le T dh w d (i + 1) (cf_ T dh w i c)
    show fl_ (cf_ T dh w) d (i + 1) (cf_ T dh w i c) ≤ c + (d + 1)
    have h2 : cf_ T dh w i c ≤ c + 1 := by unfold cf_; split <;> omega
    omega
theorem cah_ {T : Nat} (hT : T < 64) {at1 home light at2 home2 light2 L : Nat → Int32} {a h li d : Nat → Nat} (h5 : wk_ at1 home light at2 home2 light2 a h li) (hL : ∀ k, k < 144 → L k = nI (d k)) (hd : ∀ k, k < 144 → d k ≤ 1000000) {w : Nat} (hw : w < 6) : fn_X0_countAheadHome (nI T) at1 home L (nI w) = some (nI (fl_ (cf_ T (dh_ d a h) w) 6 0 0)) := by
  unfold fn_X0_countAheadHome
  obtain ⟨a1, a2, a3, a4, a5, -⟩ := h5 w hw
  rw [costsHome_ hw a1 a2 a4 a5, b1_so, hL _ (by omega)]
  refine lf_ 6 (fun n x (c : Nat) => fn_X0_countAheadHome_l13 (nI T) at1 home L (nI w) (nI (d (12 * a w + h w))) (fun v9 => some v9) n (nI c) x) (fun c => some (nI c)) (cf_ T (dh_ d a h) w) ?_ ?_ 6 0 fu_ 0 rfl (fu_lt (by omega))
  · intro n k c hk
    obtain ⟨b1, b2, b3, b4, b5, -⟩ := h5 k hk
    show fn_X0_countAheadHome_b13 (nI T) at1 home L (nI w) (nI (d (12 * a w + h w))) (fn_X0_countAheadHome_l13 (nI T) at1 home L (nI w) (nI (d (12 * a w + h w))) (fun v9 => some v9) n) (fun v9 => some v9) (nI c) (nI k) = _
    unfold fn_X0_countAheadHome_b13
    rw [if_neg (show ¬ (6 : Int32) ≤ nI k from nI_ge (b := 6) hk (by omega)), (has_ hT hk).1, b1_so, costsHome_ hk b1 b2 b4 b5, b1_so, hL _ (by omega), isAhead_ (hd _ (by omega)) (hd _ (by omega)) hk hw, b1_so, nI_1, nI_1]
    unfold cf_ dh_
    by_cases e1 : T.testBit k = true
    · rw [if_pos e1, if_neg (by decide)]
      by_cases e2 : d (12 * a k + h k) < d (12 * a w + h w) ∨ (d (12 * a k + h k) = d (12 * a w + h w) ∧ k < w)
      · rw [if_pos e2, if_neg (by decide), if_pos ⟨e1, e2⟩]
      · rw [if_neg e2, if_pos rfl, if_neg (fun q => e2 q.2)]
    · rw [if_neg e1, if_pos rfl, if_neg (fun q => e1 q.1)]
  · intro n c
    show fn_X0_countAheadHome_b13 (nI T) at1 home L (nI w) (nI (d (12 * a w + h w))) (fn_X0_countAheadHome_l13 (nI T) at1 home L (nI w) (nI (d (12 * a w + h w))) (fun v9 => some v9) n) (fun v9 => some v9) (nI c) (nI 6) = _
    unfold fn_X0_countAheadHome_b13
    rw [if_pos (show (6 : Int32) ≤ nI 6 by decide)]
theorem out26_ {T : Nat} (hT : T < 64) {at1 home light at2 home2 light2 A : Nat → Int32} {a h li d : Nat → Nat} (h5 : wk_ at1 home light at2 home2 light2 a h li) (hA : ∀ k, k < 144 → A k = nI (d k)) (hd : ∀ k, k < 144 → d k ≤ 1000000) {w : Nat} (hw : w < 6) (k : Int32 → Option (Int32 × (Nat → Int32))) : fn_X10_out_l26 (nI T) at2 home2 A (nI w) k fu_ 0 0 = k (nI (fl_ (cf_ T (dh_ d a h) w) 6 0 0)) := by
  obtain ⟨a1, a2, a3, -, -, -, a4, a5, -⟩ := h5 w hw
  refine lf_ 6 (fun n x (c : Nat) => fn_X10_out_l26 (nI T) at2 home2 A (nI w) k n (nI c) x) (fun c => k (nI c)) (cf_ T (dh_ d a h) w) ?_ ?_ 6 0 fu_ 0 rfl (fu_lt (by omega))
  · intro n j c hj
    obtain ⟨b1, b2, b3, -, -, -, b4, b5, -⟩ := h5 j hj
    have c1 := hd (12 * a j + h j) (by omega)
    have c2 := hd (12 * a w + h w) (by omega)
    show fn_X10_out_b26 (nI T) at2 home2 A (nI w) (fn_X10_out_l26 (nI T) at2 home2 A (nI w) k n) k (nI c) (nI j) = _
    unfold fn_X10_out_b26
    rw [if_neg (show ¬ (6 : Int32) ≤ nI j from nI_ge (b := 6) hj (by omega)), homeWay_ hj b1 b2 b4 b5, b1_so, b1_so, hA _ (by omega)]
    refine (cap_ _ c1 (fun z => fn_X10_out_j55 (nI T) at2 home2 A (nI w) (nI c) (nI j) z (fn_X10_out_l26 (nI T) at2 home2 A (nI w) k n) k)).trans ?_
    show fn_X10_out_j55 (nI T) at2 home2 A (nI w) (nI c) (nI j) (nI (d (12 * a j + h j))) (fn_X10_out_l26 (nI T) at2 home2 A (nI w) k n) k = _
    unfold fn_X10_out_j55
    rw [homeWay_ hw a1 a2 a4 a5, b1_so, b1_so, hA _ (by omega)]
    refine (cap_ _ c2 (fun z => fn_X10_out_j77 (nI T) (nI w) (nI c) (nI j) (nI (d (12 * a j + h j))) z (fn_X10_out_l26 (nI T) at2 home2 A (nI w) k n) k)).trans ?_
    show fn_X10_out_j77 (nI T) (nI w) (nI c) (nI j) (nI (d (12 * a j + h j))) (nI (d (12 * a w + h w))) (fn_X10_out_l26 (nI T) at2 home2 A (nI w) k n) k = _
    unfold fn_X10_out_j77 fn_X10_out_j114 fn_X10_out_j110
    rw [(has_ hT hj).2, b1_so, Int32.add_zero, nI_1, nI_1]
    unfold cf_ dh_
    by_cases e1 : T.testBit j = true
    · rw [if_pos e1, if_neg (by decide)]
      by_cases e2 : d (12 * a j + h j) < d (12 * a w + h w)
      · rw [if_pos (nI_lt e2 (by omega)), if_pos ⟨e1, Or.inl e2⟩]
      · rw [if_neg (nI_nlt (by omega) (by omega))]
        by_cases e3 : d (12 * a j + h j) = d (12 * a w + h w)
        · rw [if_pos (by rw [e3])]
          by_cases e4 : j < w
          · rw [if_neg (nI_ge e4 (by omega)), if_pos ⟨e1, Or.inr ⟨e3, e4⟩⟩]
          · rw [if_pos (nI_le (by omega) (by omega)), if_neg (fun q => q.2.elim e2 (fun z => e4 z.2))]
        · rw [if_neg (ne_nI (by omega) (by omega) e3), if_neg (fun q => q.2.elim e2 (fun z => e3 z.1))]
    · rw [if_neg e1, if_pos rfl, if_neg (fun q => e1 q.1)]
  · intro n c
    show fn_X10_out_b26 (nI T) at2 home2 A (nI w) (fn_X10_out_l26 (nI T) at2 home2 A (nI w) k n) k (nI c) (nI 6) = _
    unfold fn_X10_out_b26
    rw [if_pos (show (6 : Int32) ≤ nI 6 by decide)]
theorem fs_none {α : Type} {P : Nat → Bool} {f : Nat → α} {z : α} : ∀ (d i : Nat), (∀ j, i ≤ j → j < i + d → P j = false) → fs_ P f z d i = z
  | 0, _, _ => rfl
  | d + 1, i, h => by
    show (if P i = true then f i else fs_ P f z d (i + 1)) = z
    rw [h i (Nat.le_refl _) (by omega), if_neg (by decide)]
    exact fs_none d (i + 1) (fun j h1 h2 => h j (by omega) (by omega))
def oP_ (T : Nat) (dh : Nat → Nat) (x : Int32) (w : Nat) : Bool := T.testBit w && decide (nI (fl_ (cf_ T dh w) 6 0 0) = x)
theorem nthHome_ {T : Nat} (hT : T < 64) {at1 home light at2 home2 light2 L : Nat → Int32} {a h li d : Nat → Nat} (h5 : wk_ at1 home light at2 home2 light2 a h li) (hL : ∀ k, k < 144 → L k = nI (d k)) (hd : ∀ k, k < 144 → d k ≤ 1000000) (x : Int32) : fn_X0_nthHome (nI T) at1 home L x = some (fs_ (oP_ T (dh_ d a h) x) nI (-6) 6 0) := by
  unfold fn_X0_nthHome
  refine (ls_ 6 (fun n y => fn_X0_nthHome_l2 (nI T) at1 home L x (some (-6)) n y) (oP_ T (dh_ d a h) x) (fun j => some (nI j)) (some (-6)) ?_ ?_ 6 0 fu_ rfl (fu_lt (by omega))).trans (fs_map some 6 0)
  · intro n w hw
    show fn_X0_nthHome_b2 (nI T) at1 home L x (fn_X0_nthHome_l2 (nI T) at1 home L x (some (-6)) n) (some (-6)) (nI w) = _
    unfold fn_X0_nthHome_b2 oP_
    rw [if_neg (show ¬ (6 : Int32) ≤ nI w from nI_ge (b := 6) hw (by omega)), (has_ hT hw).1, b1_so, cah_ hT h5 hL hd hw, b1_so, nI_1]
    by_cases e1 : T.testBit w = true
    · rw [if_pos e1, if_neg (by decide), e1, Bool.true_and]
      by_cases e2 : nI (fl_ (cf_ T (dh_ d a h) w) 6 0 0) = x
      · rw [if_pos e2, if_pos (decide_eq_true e2)]
      · rw [if_neg e2, if_neg (by rw [decide_eq_false e2]; decide)]
    · rw [if_neg e1, if_pos rfl, if_neg (by rw [Bool.not_eq_true] at e1; rw [e1, Bool.false_and]; decide)]
  · intro n
    show fn_X0_nthHome_b2 (nI T) at1 home L x (fn_X0_nthHome_l2 (nI T) at1 home L x (some (-6)) n) (some (-6)) (nI 6) = _
    unfold fn_X0_nthHome_b2
    rw [if_pos (show (6 : Int32) ≤ nI 6 by decide)]
theorem out14_ {T : Nat} (hT : T < 64) {at1 home light at2 home2 light2 A : Nat → Int32} {a h li d : Nat → Nat} (h5 : wk_ at1 home light at2 home2 light2 a h li) (hA : ∀ k, k < 144 → A k = nI (d k)) (hd : ∀ k, k < 144 → d k ≤ 1000000) (x : Int32) (k : Option (Int32 × (Nat → Int32))) : fn_X10_out_l14 (nI T) at2 home2 A x k fu_ 0 = fs_ (oP_ T (dh_ d a h) x) (fun j => some (nI j, A)) k 6 0 := by
  refine ls_ 6 (fun n y => fn_X10_out_l14 (nI T) at2 home2 A x k n y) (oP_ T (dh_ d a h) x) (fun j => some (nI j, A)) k ?_ ?_ 6 0 fu_ rfl (fu_lt (by omega))
  · intro n w hw
    show fn_X10_out_b14 (nI T) at2 home2 A x (fn_X10_out_l14 (nI T) at2 home2 A x k n) k (nI w) = _
    unfold fn_X10_out_b14 oP_
    rw [if_neg (show ¬ (6 : Int32) ≤ nI w from nI_ge (b := 6) hw (by omega)), out26_ hT h5 hA hd hw, (has_ hT hw).2, b1_so, nI_1]
    by_cases e1 : T.testBit w = true
    · rw [if_pos e1, if_neg (by decide), e1, Bool.true_and]
      by_cases e2 : nI (fl_ (cf_ T (dh_ d a h) w) 6 0 0) = x
      · rw [if_pos e2, if_pos (decide_eq_true e2)]
      · rw [if_neg e2, if_neg (by rw [decide_eq_false e2]; decide)]
    · rw [if_neg e1, if_pos rfl, if_neg (by rw [Bool.not_eq_true] at e1; rw [e1, Bool.false_and]; decide)]
  · intro n
    show fn_X10_out_b14 (nI T) at2 home2 A x (fn_X10_out_l14 (nI T) at2 home2 A x k n) k (nI 6) = _
    unfold fn_X10_out_b14
    rw [if_pos (show (6 : Int32) ≤ nI 6 by decide)]
theorem nm1_ {n : Nat} (h : n < 2 ^ 31) : ¬ nI n = (-1) := fun e => by
  have h2 := congrArg Int32.toInt e
  rw [nI_toInt h] at h2
  have : (-1 : Int32).toInt = -1 := rfl
  omega
theorem pp_out {c_x_measured c_x_now_crowd_there c_x_now_crowd_foggy c_x_now_sights_count c_x_pad_count c_x_evening_acts c_x_evening_failedAct c_x_evening_reason c_x_evening_costs c_x_evening_walks c_x_evening_crowd_there c_x_evening_crowd_foggy c_x_tour_costs c_x_tour_firstStop c_x_odds_count c_x_odds_tenths c_m_foggy c_m_walkers c_m_sights c_m_padMany c_m_acts c_m_spent c_m_walks c_m_badAct c_m_badWhy c_m_keptAt c_m_isWriting : Int32} {c_x_now_marsh_codes c_x_now_crowd_at c_x_now_crowd_home c_x_now_crowd_light c_x_now_crowd_carries c_x_now_crowd_bearer c_x_now_sights_places c_x_now_sights_lights c_x_pad_signs c_x_evening_crowd_at c_x_evening_crowd_home c_x_evening_crowd_light c_x_evening_crowd_carries c_x_evening_crowd_bearer c_x_ways_planks c_x_ways_least c_x_ways_neighbours c_x_tour_stops c_x_tour_rest c_x_odds_planks c_m_steps c_m_wet c_m_where c_m_home c_m_light c_m_carries c_m_sightPlace c_m_sightLight c_m_pad c_m_act c_m_whose c_m_whom c_m_tens c_m_had c_m_leaves c_m_apart c_m_stop c_m_restOf c_m_group c_m_along : Nat → Int32} (hR : RR c_x_measured c_x_now_marsh_codes c_x_now_crowd_there c_x_now_crowd_foggy c_x_now_crowd_at c_x_now_crowd_home c_x_now_crowd_light c_x_now_crowd_carries c_x_now_crowd_bearer c_x_now_sights_count c_x_now_sights_places c_x_now_sights_lights c_x_pad_count c_x_pad_signs c_x_evening_acts c_x_evening_failedAct c_x_evening_reason c_x_evening_costs c_x_evening_walks c_x_evening_crowd_there c_x_evening_crowd_foggy c_x_evening_crowd_at c_x_evening_crowd_home c_x_evening_crowd_light c_x_evening_crowd_carries c_x_evening_crowd_bearer c_x_ways_planks c_x_ways_least c_x_ways_neighbours c_x_tour_costs c_x_tour_firstStop c_x_tour_stops c_x_tour_rest c_x_odds_count c_x_odds_tenths c_x_odds_planks c_m_foggy c_m_walkers c_m_sights c_m_padMany c_m_acts c_m_spent c_m_walks c_m_badAct c_m_badWhy c_m_keptAt c_m_isWriting c_m_steps c_m_wet c_m_where c_m_home c_m_light c_m_carries c_m_sightPlace c_m_sightLight c_m_pad c_m_act c_m_whose c_m_whom c_m_tens c_m_had c_m_leaves c_m_apart c_m_stop c_m_restOf c_m_group c_m_along) (x1 : Int32)  : ∃ (r : Int32) (w0 : Int32) (w1 : Nat → Int32) (w2 : Nat → Int32) (w3 : Nat → Int32) (v0 : Nat → Int32), fn_X9_out c_x_measured c_x_now_marsh_codes c_x_now_crowd_there c_x_now_crowd_foggy c_x_now_crowd_at c_x_now_crowd_home c_x_ways_planks c_x_ways_least c_x_ways_neighbours x1 = some (r, w0, w1, w2, w3) ∧ fn_X10_out c_m_foggy c_m_walkers c_m_steps c_m_wet c_m_where c_m_home c_m_apart x1 = some (r, v0) ∧ RR w0 c_x_now_marsh_codes c_x_now_crowd_there c_x_now_crowd_foggy c_x_now_crowd_at c_x_now_crowd_home c_x_now_crowd_light c_x_now_crowd_carries c_x_now_crowd_bearer c_x_now_sights_count c_x_now_sights_places c_x_now_sights_lights c_x_pad_count c_x_pad_signs c_x_evening_acts c_x_evening_failedAct c_x_evening_reason c_x_evening_costs c_x_evening_walks c_x_evening_crowd_there c_x_evening_crowd_foggy c_x_evening_crowd_at c_x_evening_crowd_home c_x_evening_crowd_light c_x_evening_crowd_carries c_x_evening_crowd_bearer w1 w2 w3 c_x_tour_costs c_x_tour_firstStop c_x_tour_stops c_x_tour_rest c_x_odds_count c_x_odds_tenths c_x_odds_planks c_m_foggy c_m_walkers c_m_sights c_m_padMany c_m_acts c_m_spent c_m_walks c_m_badAct c_m_badWhy c_m_keptAt c_m_isWriting c_m_steps c_m_wet c_m_where c_m_home c_m_light c_m_carries c_m_sightPlace c_m_sightLight c_m_pad c_m_act c_m_whose c_m_whom c_m_tens c_m_had c_m_leaves v0 c_m_stop c_m_restOf c_m_group c_m_along := by
  obtain ⟨s, w, T, F, a, h, li, cr, br, sc, sp, sl, pc, g, h1, h2, ⟨hT, hT1, hT2⟩, ⟨hF, hF1, hF2⟩, h5, h6, h7, ⟨hsc, hs1, hs2⟩, h9, ⟨hpc, hp1, hp2⟩, h11, h12⟩ := id hR
  obtain ⟨P', L', N', A', e1, e2, hw, hA⟩ := mw_ h1 hF h12 c_m_apart
  have hd := ds_le (pl_b h1) hF
  obtain ⟨r, b1, b2⟩ := bc_ hT
  by_cases e : x1 = (-1)
  · refine ⟨r, c_x_measured, c_x_ways_planks, c_x_ways_least, c_x_ways_neighbours, A', ?_, ?_, hR⟩
    · unfold fn_X9_out fn_X0_size
      rw [if_pos e, hT1, b1]; rfl
    · unfold fn_X10_out
      rw [hF2, e2, b1_so, hT2, b2, b1_so, out14_ hT h5 hA hd, if_pos e]
      refine fs_none 6 0 (fun j _ hj => ?_)
      unfold oP_
      have := cf_le T (dh_ (ds_ s w F) a h) j 6 0 0
      rw [decide_eq_false (by rw [e]; exact nm1_ (by omega)), Bool.and_false]
  · refine ⟨fs_ (oP_ T (dh_ (ds_ s w F) a h) x1) nI (-6) 6 0, 1, P', L', N', A', ?_, ?_, ⟨s, w, T, F, a, h, li, cr, br, sc, sp, sl, pc, g, h1, h2, ⟨hT, hT1, hT2⟩, ⟨hF, hF1, hF2⟩, h5, h6, h7, ⟨hsc, hs1, hs2⟩, h9, ⟨hpc, hp1, hp2⟩, h11, Or.inr ⟨rfl, hw⟩⟩⟩
    · unfold fn_X9_out
      rw [if_neg e, hF1, e1, b4_so, hT1, nthHome_ hT h5 (fun k hk => (hw.1 k hk).2) hd, b1_so]
    · unfold fn_X10_out
      rw [hF2, e2, b1_so, hT2, b2, b1_so, out14_ hT h5 hA hd, if_neg e]
      exact fs_map (fun z => some (z, A')) 6 0
theorem i4_ (a b c d : Int32) : (a - b) + (c - d) = (a + c) - (b + d) := by grind
theorem more_l {T : Nat} (hT : T < 64) {at1 home light at2 home2 light2 L A : Nat → Int32} {a h li d : Nat → Nat} (h5 : wk_ at1 home light at2 home2 light2 a h li) (hL : ∀ k, k < 144 → L k = nI (d k)) (hA : ∀ k, k < 144 → A k = nI (d k)) (hd : ∀ k, k < 144 → d k ≤ 1000000) {p : Nat} (hp : p < 12) : ∀ (e i n W H : Nat), i + e = 6 → e < n → W ≤ 1000000 * i → H ≤ 999 * i → (∃ r, fn_X0_lackAt_l5 (nI T) at1 home light L (nI p) (fun v6 => lx_ (if 0 < v6 then v6 else 0) fun y7 => some y7) n (nI W - nI H) (nI i) = some r ∧ fn_X10_more_l23 (nI T) at2 home2 light2 A (nI p) (fun v12 v13 v14 => if v14 = 0 then some ((-6), A) else if v12 ≤ v13 then some (0, A) else some (v12 - v13, A)) n (nI W) (nI H) 1 (nI i) = some (r, A)) ∧ fn_X10_more_l23 (nI T) at2 home2 light2 A (nI p) (fun v12 v13 v14 => if v14 = 0 then some ((-6), A) else if v12 ≤ v13 then some (0, A) else some (v12 - v13, A)) n (nI W) (nI H) 0 (nI i) = some (-6, A)
  | 0, i, 0, W, H, h1, h2, h3, h4 => absurd h2 (by omega)
  | 0, i, n + 1, W, H, h1, h2, h3, h4 => by
    have e : i = 6 := by omega
    subst e
    show (∃ r, fn_X0_lackAt_b5 (nI T) at1 home light L (nI p) _ (fun v6 => lx_ (if 0 < v6 then v6 else 0) fun y7 => some y7) (nI W - nI H) (nI 6) = some r ∧ fn_X10_more_b23 (nI T) at2 home2 light2 A (nI p) _ (fun v12 v13 v14 => if v14 = 0 then some ((-6), A) else if v12 ≤ v13 then some (0, A) else some (v12 - v13, A)) (nI W) (nI H) 1 (nI 6) = some (r, A)) ∧ fn_X10_more_b23 (nI T) at2 home2 light2 A (nI p) _ (fun v12 v13 v14 => if v14 = 0 then some ((-6), A) else if v12 ≤ v13 then some (0, A) else some (v12 - v13, A)) (nI W) (nI H) 0 (nI 6) = some (-6, A)
    unfold fn_X0_lackAt_b5 fn_X10_more_b23
    simp only [if_pos (show (6 : Int32) ≤ nI 6 by decide), lx_so]
    refine ⟨?_, if_pos trivial⟩
    rw [if_neg (show ¬ (1 : Int32) = 0 by decide)]
    by_cases e : W ≤ H
    · rw [if_pos (nI_le e (by omega))]
      refine ⟨0, ?_, rfl⟩
      rw [if_neg]
      by_cases e2 : W = H
      · rw [e2, pk_sub (Nat.le_refl _), Nat.sub_self]; decide
      · intro q
        have := pk_sneg (a := W) (b := H) (by omega) (by omega)
        exact absurd (Int32.lt_trans q this) (by decide)
    · rw [if_neg (nI_ge (by omega) (by omega))]
      refine ⟨nI W - nI H, ?_, rfl⟩
      rw [if_pos]
      rw [pk_sub (by omega)]
      exact nI_lt (a := 0) (by omega) (by omega)
  | e + 1, i, 0, W, H, h1, h2, h3, h4 => absurd h2 (by omega)
  | e + 1, i, n + 1, W, H, h1, h2, h3, h4 => by
    have hi : i < 6 := by omega
    obtain ⟨b1, b2, b3, b4, b5, b6, b7, b8, b9⟩ := h5 i hi
    have c1 := hd (12 * a i + h i) (by omega)
    show (∃ r, fn_X0_lackAt_b5 (nI T) at1 home light L (nI p) (fn_X0_lackAt_l5 (nI T) at1 home light L (nI p) (fun v6 => lx_ (if 0 < v6 then v6 else 0) fun y7 => some y7) n) (fun v6 => lx_ (if 0 < v6 then v6 else 0) fun y7 => some y7) (nI W - nI H) (nI i) = some r ∧ fn_X10_more_b23 (nI T) at2 home2 light2 A (nI p) (fn_X10_more_l23 (nI T) at2 home2 light2 A (nI p) (fun v12 v13 v14 => if v14 = 0 then some ((-6), A) else if v12 ≤ v13 then some (0, A) else some (v12 - v13, A)) n) (fun v12 v13 v14 => if v14 = 0 then some ((-6), A) else if v12 ≤ v13 then some (0, A) else some (v12 - v13, A)) (nI W) (nI H) 1 (nI i) = some (r, A)) ∧ fn_X10_more_b23 (nI T) at2 home2 light2 A (nI p) (fn_X10_more_l23 (nI T) at2 home2 light2 A (nI p) (fun v12 v13 v14 => if v14 = 0 then some ((-6), A) else if v12 ≤ v13 then some (0, A) else some (v12 - v13, A)) n) (fun v12 v13 v14 => if v14 = 0 then some ((-6), A) else if v12 ≤ v13 then some (0, A) else some (v12 - v13, A)) (nI W) (nI H) 0 (nI i) = some (-6, A)
    unfold fn_X0_lackAt_b5 fn_X10_more_b23 fn_X10_more_j70 fn_X10_more_j71
    rw [if_neg (show ¬ (6 : Int32) ≤ nI i from nI_ge (b := 6) hi (by omega)), if_neg (show ¬ (6 : Int32) ≤ nI i from nI_ge (b := 6) hi (by omega)), if_neg (show ¬ (6 : Int32) ≤ nI i from nI_ge (b := 6) hi (by omega)), (has_ hT hi).1, (has_ hT hi).2, b1_so, b1_so, b1_so, costsHome_ hi b1 b2 b4 b5, homeWay_ hi b1 b2 b7 b8]
    simp only [b1_so, lx_so, ckn_ hi (show 6 < 2 ^ 31 by omega), nI_clamp (show i < 2 ^ 31 by omega), b4, b6, b7, b9, hL (12 * a i + h i) (by omega), hA (12 * a i + h i) (by omega), nI_1, i4_, nI_add]
    have ih0 := more_l hT h5 hL hA hd hp e (i + 1) n W H (by omega) (by omega) (by omega) (by omega)
    have ih1 := more_l hT h5 hL hA hd hp e (i + 1) n (W + d (12 * a i + h i)) (H + li i) (by omega) (by omega) (by omega) (by omega)
    by_cases e1 : T.testBit i = true
    · rw [if_pos e1, if_neg (show ¬ (1 : Int32) = 0 by decide), if_neg (show ¬ (1 : Int32) = 0 by decide), if_neg (show ¬ (1 : Int32) = 0 by decide), if_neg (show ¬ (1 : Int32) = 0 by decide)]
      by_cases e2 : a i = p
      · rw [if_pos (show nI (a i) = nI p by rw [e2]), if_pos (show nI (a i) = nI p by rw [e2]), if_pos (show nI (a i) = nI p by rw [e2]), if_pos trivial]
        by_cases e3 : d (12 * a i + h i) < 1000000
        · rw [if_pos (show nI (d (12 * a i + h i)) < 1000000 from nI_lt (b := 1000000) e3 (by omega)), if_neg (show ¬ (1000000 : Int32) ≤ nI (d (12 * a i + h i)) from nI_ge (b := 1000000) e3 (by omega))]
          exact ih1
        · rw [if_neg (show ¬ nI (d (12 * a i + h i)) < 1000000 from nI_nlt (b := 1000000) (by omega) (by omega)), if_pos (show (1000000 : Int32) ≤ nI (d (12 * a i + h i)) from nI_le (a := 1000000) (by omega) (by omega))]
          exact ⟨⟨-6, rfl, ih1.2⟩, ih1.2⟩
      · rw [if_neg (ne_nI (by omega) (by omega) e2), if_neg (ne_nI (by omega) (by omega) e2), if_neg (ne_nI (by omega) (by omega) e2)]
        exact ih0
    · rw [if_neg e1, if_pos (show (0 : Int32) = 0 from rfl), if_pos (show (0 : Int32) = 0 from rfl), if_pos (show (0 : Int32) = 0 from rfl)]
      exact ih0
theorem pp_more {c_x_measured c_x_now_crowd_there c_x_now_crowd_foggy c_x_now_sights_count c_x_pad_count c_x_evening_acts c_x_evening_failedAct c_x_evening_reason c_x_evening_costs c_x_evening_walks c_x_evening_crowd_there c_x_evening_crowd_foggy c_x_tour_costs c_x_tour_firstStop c_x_odds_count c_x_odds_tenths c_m_foggy c_m_walkers c_m_sights c_m_padMany c_m_acts c_m_spent c_m_walks c_m_badAct c_m_badWhy c_m_keptAt c_m_isWriting : Int32} {c_x_now_marsh_codes c_x_now_crowd_at c_x_now_crowd_home c_x_now_crowd_light c_x_now_crowd_carries c_x_now_crowd_bearer c_x_now_sights_places c_x_now_sights_lights c_x_pad_signs c_x_evening_crowd_at c_x_evening_crowd_home c_x_evening_crowd_light c_x_evening_crowd_carries c_x_evening_crowd_bearer c_x_ways_planks c_x_ways_least c_x_ways_neighbours c_x_tour_stops c_x_tour_rest c_x_odds_planks c_m_steps c_m_wet c_m_where c_m_home c_m_light c_m_carries c_m_sightPlace c_m_sightLight c_m_pad c_m_act c_m_whose c_m_whom c_m_tens c_m_had c_m_leaves c_m_apart c_m_stop c_m_restOf c_m_group c_m_along : Nat → Int32} (hR : RR c_x_measured c_x_now_marsh_codes c_x_now_crowd_there c_x_now_crowd_foggy c_x_now_crowd_at c_x_now_crowd_home c_x_now_crowd_light c_x_now_crowd_carries c_x_now_crowd_bearer c_x_now_sights_count c_x_now_sights_places c_x_now_sights_lights c_x_pad_count c_x_pad_signs c_x_evening_acts c_x_evening_failedAct c_x_evening_reason c_x_evening_costs c_x_evening_walks c_x_evening_crowd_there c_x_evening_crowd_foggy c_x_evening_crowd_at c_x_evening_crowd_home c_x_evening_crowd_light c_x_evening_crowd_carries c_x_evening_crowd_bearer c_x_ways_planks c_x_ways_least c_x_ways_neighbours c_x_tour_costs c_x_tour_firstStop c_x_tour_stops c_x_tour_rest c_x_odds_count c_x_odds_tenths c_x_odds_planks c_m_foggy c_m_walkers c_m_sights c_m_padMany c_m_acts c_m_spent c_m_walks c_m_badAct c_m_badWhy c_m_keptAt c_m_isWriting c_m_steps c_m_wet c_m_where c_m_home c_m_light c_m_carries c_m_sightPlace c_m_sightLight c_m_pad c_m_act c_m_whose c_m_whom c_m_tens c_m_had c_m_leaves c_m_apart c_m_stop c_m_restOf c_m_group c_m_along) (x1 : Int32)  : ∃ (r : Int32) (w0 : Int32) (w1 : Nat → Int32) (w2 : Nat → Int32) (w3 : Nat → Int32) (v0 : Nat → Int32), fn_X9_more c_x_measured c_x_now_marsh_codes c_x_now_crowd_there c_x_now_crowd_foggy c_x_now_crowd_at c_x_now_crowd_home c_x_now_crowd_light c_x_ways_planks c_x_ways_least c_x_ways_neighbours x1 = some (r, w0, w1, w2, w3) ∧ fn_X10_more c_m_foggy c_m_walkers c_m_steps c_m_wet c_m_where c_m_home c_m_light c_m_apart x1 = some (r, v0) ∧ RR w0 c_x_now_marsh_codes c_x_now_crowd_there c_x_now_crowd_foggy c_x_now_crowd_at c_x_now_crowd_home c_x_now_crowd_light c_x_now_crowd_carries c_x_now_crowd_bearer c_x_now_sights_count c_x_now_sights_places c_x_now_sights_lights c_x_pad_count c_x_pad_signs c_x_evening_acts c_x_evening_failedAct c_x_evening_reason c_x_evening_costs c_x_evening_walks c_x_evening_crowd_there c_x_evening_crowd_foggy c_x_evening_crowd_at c_x_evening_crowd_home c_x_evening_crowd_light c_x_evening_crowd_carries c_x_evening_crowd_bearer w1 w2 w3 c_x_tour_costs c_x_tour_firstStop c_x_tour_stops c_x_tour_rest c_x_odds_count c_x_odds_tenths c_x_odds_planks c_m_foggy c_m_walkers c_m_sights c_m_padMany c_m_acts c_m_spent c_m_walks c_m_badAct c_m_badWhy c_m_keptAt c_m_isWriting c_m_steps c_m_wet c_m_where c_m_home c_m_light c_m_carries c_m_sightPlace c_m_sightLight c_m_pad c_m_act c_m_whose c_m_whom c_m_tens c_m_had c_m_leaves v0 c_m_stop c_m_restOf c_m_group c_m_along := by
  obtain ⟨s, w, T, F, a, h, li, cr, br, sc, sp, sl, pc, g, h1, h2, ⟨hT, hT1, hT2⟩, ⟨hF, hF1, hF2⟩, h5, h6, h7, ⟨hsc, hs1, hs2⟩, h9, ⟨hpc, hp1, hp2⟩, h11, h12⟩ := id hR
  rcases pc_ x1 with ⟨q1, q2, -⟩ | ⟨p, hp, ep, q1, q2⟩
  · refine ⟨-1, c_x_measured, c_x_ways_planks, c_x_ways_least, c_x_ways_neighbours, c_m_apart, ?_, ?_, hR⟩
    · unfold fn_X9_more; rw [q1]; rfl
    · unfold fn_X10_more; rw [q2]; rfl
  · obtain ⟨P', L', N', A', e1, e2, hw, hA⟩ := mw_ h1 hF h12 c_m_apart
    have hd := ds_le (pl_b h1) hF
    obtain ⟨⟨r, m1, m2⟩, -⟩ := more_l hT h5 (fun k hk => (hw.1 k hk).2) hA hd hp 6 0 fu_ 0 0 rfl (fu_lt (by omega)) (by omega) (by omega)
    refine ⟨r, 1, P', L', N', A', ?_, ?_, ⟨s, w, T, F, a, h, li, cr, br, sc, sp, sl, pc, g, h1, h2, ⟨hT, hT1, hT2⟩, ⟨hF, hF1, hF2⟩, h5, h6, h7, ⟨hsc, hs1, hs2⟩, h9, ⟨hpc, hp1, hp2⟩, h11, Or.inr ⟨rfl, hw⟩⟩⟩
    · unfold fn_X9_more fn_X0_lackAt
      rw [q1, b1_so, if_neg (by decide), hF1, e1, b4_so, hT1, ep, show fn_X0_lackAt_l5 (nI T) c_x_now_crowd_at c_x_now_crowd_home c_x_now_crowd_light L' (nI p) (fun v6 => lx_ (if 0 < v6 then v6 else 0) fun y7 => some y7) fu_ 0 0 = some r from m1, b1_so]
    · unfold fn_X10_more
      rw [q2, b1_so, if_neg (by decide), hF2, e2, b1_so, hT2, ep]
      exact m2
