theorem ro_0 (d σ : Nat → Nat) (pl n x : Nat) : ro_ d σ pl n 1 0 x = d (12 * x + pl) := rfl
theorem allb_ {n i : Nat} (hn : n ≤ 6) (hi : i < n) : (2 ^ n - 1).testBit i = true := by
  have h := (cmpl_ (M := 0) hn (p2pos n) hi).mpr (by rw [Nat.zero_testBit]; decide)
  rw [Nat.sub_zero] at h
  exact h
theorem p2lt {i n : Nat} (h : i < n) : 2 ^ i < 2 ^ n := Nat.pow_lt_pow_right (by omega) h
def rP_ (d σ : Nat → Nat) (pl n i : Nat) : Bool := decide (ro_ d σ pl n (2 ^ n - 1 + 1) (2 ^ n - 1) pl < 1000000) && decide (rb_ d σ pl n (2 ^ n - 1) pl i = ro_ d σ pl n (2 ^ n - 1 + 1) (2 ^ n - 1) pl)
theorem plan_ {L : Nat → Int32} {d σ : Nat → Nat} (hL : ∀ k, k < 144 → L k = nI (d k)) (hd : ∀ k, k < 144 → d k ≤ 1000000) {S : Nat} (hc : cb_ S 12 ≤ 6) {s1 s1' : Nat → Int32} (hls : fn_X7_listStops s1 (nI S) = some (nI (cb_ S 12), s1')) (hs : ∀ i, i < cb_ S 12 → σ i < 12 ∧ s1' i = nI (σ i)) {pl : Nat} (hpl : pl < 12) (c0 f0 : Int32) (rest : Nat → Int32) : ∃ R, fn_X7_plan c0 f0 s1 rest L (nI pl) (nI S) = some (nI (ro_ d σ pl (cb_ S 12) (2 ^ cb_ S 12 - 1 + 1) (2 ^ cb_ S 12 - 1) pl), ffq_ (rP_ d σ pl (cb_ S 12)) (fun i => nI (σ i)) (cb_ S 12) (-6), s1', R) := by
  unfold fn_X7_plan
  rw [hls, b2_so]
  generalize hn : cb_ S 12 = n at *
  have h64 := p2le hc
  have hp := p2pos n
  obtain ⟨R, e1, e2⟩ := plan10_ hL hd hc hs hpl rest (fun v10 => lx_ ((1 <<< (nI n &&& 31)) - 1) fun y11 => b1_ (fn_X7_restFrom s1' v10 L (nI pl) y11 (nI n) (nI pl)) fun r12 => fn_X7_plan_l116 r12 s1' v10 L (nI pl) y11 (fun v17 => some (r12, v17, s1', v10)) fu_ (nI n - 1) (-6))
  refine ⟨R, Eq.trans e1 ?_⟩
  have hr : ∀ i, i < n → (2 ^ n - 1).testBit i = true → R (6 * (2 ^ n - 1 - 2 ^ i) + i) = nI (ro_ d σ pl n (2 ^ n - 1 - 2 ^ i + 1) (2 ^ n - 1 - 2 ^ i) (σ i)) := fun i hi hb => e2 _ (by have := p2pos i; omega) i hi (tbcl_ (by omega) (by omega) hb)
  rw [sh1_ (by omega), lx_so, show nI (2 ^ n) - 1 = nI (2 ^ n - 1) from pk_sub (b := 1) (by omega), restFrom_ hL hd hc hs hpl (by omega) hpl hr, b1_so]
  have hb1 := ro_le (σ := σ) hd hpl (n := n) (2 ^ n - 1 + 1) (2 ^ n - 1) pl hpl
  refine down_ n hc (fun m x z => fn_X7_plan_l116 (nI (ro_ d σ pl n (2 ^ n - 1 + 1) (2 ^ n - 1) pl)) s1' R L (nI pl) (nI (2 ^ n - 1)) (fun v17 => some (nI (ro_ d σ pl n (2 ^ n - 1 + 1) (2 ^ n - 1) pl), v17, s1', R)) m x z) (rP_ d σ pl n) (fun i => nI (σ i)) (fun v17 => some (nI (ro_ d σ pl n (2 ^ n - 1 + 1) (2 ^ n - 1) pl), v17, s1', R)) ?_ ?_ n fu_ (-6) (Nat.le_refl _) (fu_lt (by omega))
  · intro m i z hi
    obtain ⟨t1, t2⟩ := hs i hi
    show fn_X7_plan_b116 (nI (ro_ d σ pl n (2 ^ n - 1 + 1) (2 ^ n - 1) pl)) s1' R L (nI pl) (nI (2 ^ n - 1)) (fn_X7_plan_l116 (nI (ro_ d σ pl n (2 ^ n - 1 + 1) (2 ^ n - 1) pl)) s1' R L (nI pl) (nI (2 ^ n - 1)) (fun v17 => some (nI (ro_ d σ pl n (2 ^ n - 1 + 1) (2 ^ n - 1) pl), v17, s1', R)) m) (fun v17 => some (nI (ro_ d σ pl n (2 ^ n - 1 + 1) (2 ^ n - 1) pl), v17, s1', R)) (nI i) z = _
    unfold fn_X7_plan_b116 rP_
    have k1 := hd (12 * pl + σ i) (by omega)
    have k2 := ro_le (σ := σ) hd hpl (n := n) (2 ^ n - 1 - 2 ^ i + 1) (2 ^ n - 1 - 2 ^ i) (σ i) t1
    have k3 : rb_ d σ pl n (2 ^ n - 1) pl i ≤ 2000000 := by unfold rb_; omega
    rw [if_neg (nI_pos (by omega)), restBy_ hL hc hs (by omega) hpl hi (allb_ hc hi) (hr i hi (allb_ hc hi)), b1_so, ckn_ (show i < 6 by omega) (by omega), nI_clamp (by omega), lx_so, t2, am1_]
    by_cases e : ro_ d σ pl n (2 ^ n - 1 + 1) (2 ^ n - 1) pl < 1000000
    · rw [if_neg (show ¬ (1000000 : Int32) ≤ nI (ro_ d σ pl n (2 ^ n - 1 + 1) (2 ^ n - 1) pl) from nI_ge (b := 1000000) e (by omega)), decide_eq_true e, Bool.true_and]
      by_cases e3 : rb_ d σ pl n (2 ^ n - 1) pl i = ro_ d σ pl n (2 ^ n - 1 + 1) (2 ^ n - 1) pl
      · rw [if_pos (congrArg nI e3), if_pos (decide_eq_true e3)]
      · rw [if_neg (ne_nI (by omega) (by omega) e3), if_neg (by rw [decide_eq_false e3]; decide)]
    · rw [if_pos (show (1000000 : Int32) ≤ nI (ro_ d σ pl n (2 ^ n - 1 + 1) (2 ^ n - 1) pl) from nI_le (a := 1000000) (by omega) (by omega)), decide_eq_false e, Bool.false_and, if_neg (by decide)]
  · intro m z
    show fn_X7_plan_b116 (nI (ro_ d σ pl n (2 ^ n - 1 + 1) (2 ^ n - 1) pl)) s1' R L (nI pl) (nI (2 ^ n - 1)) (fn_X7_plan_l116 (nI (ro_ d σ pl n (2 ^ n - 1 + 1) (2 ^ n - 1) pl)) s1' R L (nI pl) (nI (2 ^ n - 1)) (fun v17 => some (nI (ro_ d σ pl n (2 ^ n - 1 + 1) (2 ^ n - 1) pl), v17, s1', R)) m) (fun v17 => some (nI (ro_ d σ pl n (2 ^ n - 1 + 1) (2 ^ n - 1) pl), v17, s1', R)) (-1) z = _
    unfold fn_X7_plan_b116
    rw [if_pos (show (-1 : Int32) < 0 by decide)]
theorem round126_ {A : Nat → Int32} {d σ : Nat → Nat} (hA : ∀ k, k < 144 → A k = nI (d k)) (hd : ∀ k, k < 144 → d k ≤ 1000000) {n : Nat} (hn : n ≤ 6) {stop R : Nat → Int32} (hs : ∀ i, i < n → σ i < 12 ∧ stop i = nI (σ i)) {pl : Nat} (hpl : pl < 12) (hT : TR_ d σ pl n 0 R) (hlt : ro_ d σ pl n (2 ^ n - 1 + 1) (2 ^ n - 1) pl < 1000000) (k : Int32 → Option (Int32 × (Nat → Int32) × (Nat → Int32) × (Nat → Int32))) : fn_X10_round_l126 A stop R (nI pl) (nI (ro_ d σ pl n (2 ^ n - 1 + 1) (2 ^ n - 1) pl)) k fu_ (-6) (nI n - 1) = k (ffq_ (rP_ d σ pl n) (fun i => nI (σ i)) n (-6)) := by
  have h64 := p2le hn
  refine down_ n hn (fun m x z => fn_X10_round_l126 A stop R (nI pl) (nI (ro_ d σ pl n (2 ^ n - 1 + 1) (2 ^ n - 1) pl)) k m z x) (rP_ d σ pl n) (fun i => nI (σ i)) k ?_ ?_ n fu_ (-6) (Nat.le_refl _) (fu_lt (by omega))
  · intro m i z hi
    obtain ⟨t1, t2⟩ := hs i hi
    have hp := p2pos i
    have hl := p2lt hi
    show fn_X10_round_b126 A stop R (nI pl) (nI (ro_ d σ pl n (2 ^ n - 1 + 1) (2 ^ n - 1) pl)) (fn_X10_round_l126 A stop R (nI pl) (nI (ro_ d σ pl n (2 ^ n - 1 + 1) (2 ^ n - 1) pl)) k m) k z (nI i) = _
    unfold fn_X10_round_b126 fn_X10_at rP_
    have k1 := hd (12 * pl + σ i) (by omega)
    have k2 := ro_le (σ := σ) hd hpl (n := n) (2 ^ n - 1 - 2 ^ i + 1) (2 ^ n - 1 - 2 ^ i) (σ i) t1
    have k3 : rb_ d σ pl n (2 ^ n - 1) pl i ≤ 2000000 := by unfold rb_; omega
    have k4 := hT (2 ^ i) hp hl i hi
    have i32 : 2 ^ i ≤ 32 := Nat.pow_le_pow_right (n := 2) (by omega) (show i ≤ 5 by omega)
    rw [if_neg (nI_pos (by omega)), ckn_ (show i < 6 by omega) (by omega), nI_clamp (by omega), t2, b1_so, ix2_, ckn_ (show 12 * pl + σ i < 144 by omega) (by omega), sh1_ (by omega), ix6b_, ckn_ (show 6 * 2 ^ i + i < 384 by omega) (by omega), ckn_ (show i < 6 by omega) (by omega), nI_clamp (by omega), nI_clamp (by omega), hA _ (by omega), k4, nI_add, lx_so, am1_, decide_eq_true hlt, Bool.true_and]
    show (if nI (rb_ d σ pl n (2 ^ n - 1) pl i) = nI (ro_ d σ pl n (2 ^ n - 1 + 1) (2 ^ n - 1) pl) then _ else _) = _
    by_cases e3 : rb_ d σ pl n (2 ^ n - 1) pl i = ro_ d σ pl n (2 ^ n - 1 + 1) (2 ^ n - 1) pl
    · rw [if_pos (congrArg nI e3), if_pos (decide_eq_true e3)]
    · rw [if_neg (ne_nI (by omega) (by omega) e3), if_neg (by rw [decide_eq_false e3]; decide)]
  · intro m z
    show fn_X10_round_b126 A stop R (nI pl) (nI (ro_ d σ pl n (2 ^ n - 1 + 1) (2 ^ n - 1) pl)) (fn_X10_round_l126 A stop R (nI pl) (nI (ro_ d σ pl n (2 ^ n - 1 + 1) (2 ^ n - 1) pl)) k m) k z (-1) = _
    unfold fn_X10_round_b126
    rw [if_pos (show (-1 : Int32) < 0 by decide)]
theorem pp_round {c_x_measured c_x_now_crowd_there c_x_now_crowd_foggy c_x_now_sights_count c_x_pad_count c_x_evening_acts c_x_evening_failedAct c_x_evening_reason c_x_evening_costs c_x_evening_walks c_x_evening_crowd_there c_x_evening_crowd_foggy c_x_tour_costs c_x_tour_firstStop c_x_odds_count c_x_odds_tenths c_m_foggy c_m_walkers c_m_sights c_m_padMany c_m_acts c_m_spent c_m_walks c_m_badAct c_m_badWhy c_m_keptAt c_m_isWriting : Int32} {c_x_now_marsh_codes c_x_now_crowd_at c_x_now_crowd_home c_x_now_crowd_light c_x_now_crowd_carries c_x_now_crowd_bearer c_x_now_sights_places c_x_now_sights_lights c_x_pad_signs c_x_evening_crowd_at c_x_evening_crowd_home c_x_evening_crowd_light c_x_evening_crowd_carries c_x_evening_crowd_bearer c_x_ways_planks c_x_ways_least c_x_ways_neighbours c_x_tour_stops c_x_tour_rest c_x_odds_planks c_m_steps c_m_wet c_m_where c_m_home c_m_light c_m_carries c_m_sightPlace c_m_sightLight c_m_pad c_m_act c_m_whose c_m_whom c_m_tens c_m_had c_m_leaves c_m_apart c_m_stop c_m_restOf c_m_group c_m_along : Nat → Int32} (hR : RR c_x_measured c_x_now_marsh_codes c_x_now_crowd_there c_x_now_crowd_foggy c_x_now_crowd_at c_x_now_crowd_home c_x_now_crowd_light c_x_now_crowd_carries c_x_now_crowd_bearer c_x_now_sights_count c_x_now_sights_places c_x_now_sights_lights c_x_pad_count c_x_pad_signs c_x_evening_acts c_x_evening_failedAct c_x_evening_reason c_x_evening_costs c_x_evening_walks c_x_evening_crowd_there c_x_evening_crowd_foggy c_x_evening_crowd_at c_x_evening_crowd_home c_x_evening_crowd_light c_x_evening_crowd_carries c_x_evening_crowd_bearer c_x_ways_planks c_x_ways_least c_x_ways_neighbours c_x_tour_costs c_x_tour_firstStop c_x_tour_stops c_x_tour_rest c_x_odds_count c_x_odds_tenths c_x_odds_planks c_m_foggy c_m_walkers c_m_sights c_m_padMany c_m_acts c_m_spent c_m_walks c_m_badAct c_m_badWhy c_m_keptAt c_m_isWriting c_m_steps c_m_wet c_m_where c_m_home c_m_light c_m_carries c_m_sightPlace c_m_sightLight c_m_pad c_m_act c_m_whose c_m_whom c_m_tens c_m_had c_m_leaves c_m_apart c_m_stop c_m_restOf c_m_group c_m_along) (x1 : Int32) (x2 : Int32) (x3 : Int32)  : ∃ (r : Int32) (w0 : Int32) (w1 : Nat → Int32) (w2 : Nat → Int32) (w3 : Nat → Int32) (w4 : Int32) (w5 : Int32) (w6 : Nat → Int32) (w7 : Nat → Int32) (v0 : Nat → Int32) (v1 : Nat → Int32) (v2 : Nat → Int32), fn_X9_round c_x_measured c_x_now_marsh_codes c_x_now_crowd_foggy c_x_ways_planks c_x_ways_least c_x_ways_neighbours c_x_tour_costs c_x_tour_firstStop c_x_tour_stops c_x_tour_rest x1 x2 x3 = some (r, w0, w1, w2, w3, w4, w5, w6, w7) ∧ fn_X10_round c_m_foggy c_m_steps c_m_wet c_m_apart c_m_stop c_m_restOf x1 x2 x3 = some (r, v0, v1, v2) ∧ RR w0 c_x_now_marsh_codes c_x_now_crowd_there c_x_now_crowd_foggy c_x_now_crowd_at c_x_now_crowd_home c_x_now_crowd_light c_x_now_crowd_carries c_x_now_crowd_bearer c_x_now_sights_count c_x_now_sights_places c_x_now_sights_lights c_x_pad_count c_x_pad_signs c_x_evening_acts c_x_evening_failedAct c_x_evening_reason c_x_evening_costs c_x_evening_walks c_x_evening_crowd_there c_x_evening_crowd_foggy c_x_evening_crowd_at c_x_evening_crowd_home c_x_evening_crowd_light c_x_evening_crowd_carries c_x_evening_crowd_bearer w1 w2 w3 w4 w5 w6 w7 c_x_odds_count c_x_odds_tenths c_x_odds_planks c_m_foggy c_m_walkers c_m_sights c_m_padMany c_m_acts c_m_spent c_m_walks c_m_badAct c_m_badWhy c_m_keptAt c_m_isWriting c_m_steps c_m_wet c_m_where c_m_home c_m_light c_m_carries c_m_sightPlace c_m_sightLight c_m_pad c_m_act c_m_whose c_m_whom c_m_tens c_m_had c_m_leaves v0 v1 v2 c_m_group c_m_along := by
  obtain ⟨s, w, T, F, a, h, li, cr, br, sc, sp, sl, pc, g, h1, h2, ⟨hT, hT1, hT2⟩, ⟨hF, hF1, hF2⟩, h5, h6, h7, ⟨hsc, hs1, hs2⟩, h9, ⟨hpc, hp1, hp2⟩, h11, h12⟩ := id hR
  rcases pc_ x1 with ⟨q1, q2, -⟩ | ⟨pl, hpl, ep, q1, q2⟩
  · refine ⟨-1, c_x_measured, c_x_ways_planks, c_x_ways_least, c_x_ways_neighbours, c_x_tour_costs, c_x_tour_firstStop, c_x_tour_stops, c_x_tour_rest, c_m_apart, c_m_stop, c_m_restOf, ?_, ?_, hR⟩
    · unfold fn_X9_round; rw [q1]; rfl
    · unfold fn_X10_round; rw [q2]; rfl
  · rcases rg0_ x2 4095 4095 4095 rfl rfl with ⟨q3, q4, -⟩ | ⟨S, hS, eS, q3, q4⟩
    · refine ⟨-1, c_x_measured, c_x_ways_planks, c_x_ways_least, c_x_ways_neighbours, c_x_tour_costs, c_x_tour_firstStop, c_x_tour_stops, c_x_tour_rest, c_m_apart, c_m_stop, c_m_restOf, ?_, ?_, hR⟩
      · unfold fn_X9_round; rw [q1, b1_so, if_neg (by decide), q3]; rfl
      · unfold fn_X10_round; rw [q2, b1_so, if_neg (by decide), q4]; rfl
    · rcases rg0_ x3 1 1 1 rfl rfl with ⟨q5, q6, -⟩ | ⟨m, hm, em, q5, q6⟩
      · refine ⟨-2, c_x_measured, c_x_ways_planks, c_x_ways_least, c_x_ways_neighbours, c_x_tour_costs, c_x_tour_firstStop, c_x_tour_stops, c_x_tour_rest, c_m_apart, c_m_stop, c_m_restOf, ?_, ?_, hR⟩
        · unfold fn_X9_round; rw [q1, b1_so, if_neg (by decide), q3, b1_so, if_neg (by decide), q5]; rfl
        · unfold fn_X10_round; rw [q2, b1_so, if_neg (by decide), q4, b1_so, if_neg (by decide), q6]; rfl
      · obtain ⟨bc1, bc2⟩ := bc12_ (show S < 4096 by omega)
        have hcb : cb_ S 12 ≤ 12 := by
          have key : ∀ p, cb_ S p ≤ p := by
            intro p
            induction p with
            | zero => exact Nat.le_refl _
            | succ p ih =>
              show cb_ S p + (if S.testBit p = true then 1 else 0) ≤ p + 1
              split <;> omega
          exact key 12
        by_cases hc : cb_ S 12 ≤ 6
        · obtain ⟨P', L', N', A', e1, e2, hw, hA⟩ := mw_ h1 hF h12 c_m_apart
          have hd := ds_le (pl_b h1) hF
          have hL : ∀ k, k < 144 → L' k = nI (ds_ s w F k) := fun k hk => (hw.1 k hk).2
          obtain ⟨σ, s1', s2', l1, l2, l3⟩ := stops_ (show S < 4096 by omega) hc c_x_tour_stops c_m_stop
          obtain ⟨R, p1⟩ := plan_ hL hd hc l1 (fun i hi => ⟨(l3 i hi).1, (l3 i hi).2.1⟩) hpl c_x_tour_costs c_x_tour_firstStop c_x_tour_rest
          obtain ⟨R2, r1, r2⟩ := findRests_ hA hd hc (fun i hi => ⟨(l3 i hi).1, (l3 i hi).2.2⟩) hpl c_m_restOf
          have hb1 := ro_le (σ := σ) hd hpl (n := cb_ S 12) (2 ^ cb_ S 12 - 1 + 1) (2 ^ cb_ S 12 - 1) pl hpl
          refine ⟨if m = 0 then (if ro_ (ds_ s w F) σ pl (cb_ S 12) (2 ^ cb_ S 12 - 1 + 1) (2 ^ cb_ S 12 - 1) pl < 1000000 then nI (ro_ (ds_ s w F) σ pl (cb_ S 12) (2 ^ cb_ S 12 - 1 + 1) (2 ^ cb_ S 12 - 1) pl) else (-6)) else ffq_ (rP_ (ds_ s w F) σ pl (cb_ S 12)) (fun i => nI (σ i)) (cb_ S 12) (-6), 1, P', L', N', nI (ro_ (ds_ s w F) σ pl (cb_ S 12) (2 ^ cb_ S 12 - 1 + 1) (2 ^ cb_ S 12 - 1) pl), ffq_ (rP_ (ds_ s w F) σ pl (cb_ S 12)) (fun i => nI (σ i)) (cb_ S 12) (-6), s1', R, A', s2', R2, ?_, ?_, ⟨s, w, T, F, a, h, li, cr, br, sc, sp, sl, pc, g, h1, h2, ⟨hT, hT1, hT2⟩, ⟨hF, hF1, hF2⟩, h5, h6, h7, ⟨hsc, hs1, hs2⟩, h9, ⟨hpc, hp1, hp2⟩, h11, Or.inr ⟨rfl, hw⟩⟩⟩
          · unfold fn_X9_round fn_X9_orNone
            rw [q1, b1_so, if_neg (by decide), q3, b1_so, if_neg (by decide), q5, b1_so, if_neg (by decide), eS, bc1, b1_so, if_pos (show nI (cb_ S 12) ≤ 6 from nI_le (b := 6) hc (by omega)), hF1, e1, b4_so, ep, p1, b4_so]
            rcases (show m = 0 ∨ m = 1 by omega) with e | e
            · rw [if_pos (show x3 = 0 by rw [em, e]; rfl), if_pos e]
              by_cases e3 : ro_ (ds_ s w F) σ pl (cb_ S 12) (2 ^ cb_ S 12 - 1 + 1) (2 ^ cb_ S 12 - 1) pl < 1000000
              · rw [if_pos (show nI (ro_ (ds_ s w F) σ pl (cb_ S 12) (2 ^ cb_ S 12 - 1 + 1) (2 ^ cb_ S 12 - 1) pl) < 1000000 from nI_lt (b := 1000000) e3 (by omega)), if_pos e3, b1_so]
              · rw [if_neg (show ¬ nI (ro_ (ds_ s w F) σ pl (cb_ S 12) (2 ^ cb_ S 12 - 1 + 1) (2 ^ cb_ S 12 - 1) pl) < 1000000 from nI_nlt (b := 1000000) (by omega) (by omega)), if_neg e3, b1_so]
            · rw [if_neg (show ¬ x3 = 0 by rw [em, e]; decide), if_neg (show ¬ m = 0 by omega)]
          · unfold fn_X10_round fn_X10_round_j101
            rw [q2, b1_so, if_neg (by decide), q4, b1_so, if_neg (by decide), q6, b1_so, if_neg (by decide), eS, bc2, b1_so, if_pos (show nI (cb_ S 12) ≤ 6 from nI_le (b := 6) hc (by omega)), hF2, e2, b1_so, l2, b2_so, ep, r1, b1_so]
            by_cases e0 : cb_ S 12 = 0
            · rw [if_pos (show nI (cb_ S 12) = 0 by rw [e0]; rfl), e0]
              have hz : ro_ (ds_ s w F) σ pl 0 (2 ^ 0 - 1 + 1) (2 ^ 0 - 1) pl = 0 := by rw [show 2 ^ 0 - 1 = 0 from rfl, Nat.zero_add, ro_0, ds_diag hpl]
              rw [hz]
              rcases (show m = 0 ∨ m = 1 by omega) with e | e
              · rw [if_pos (show x3 = 0 by rw [em, e]; rfl), if_pos e]; rfl
              · rw [if_neg (show ¬ x3 = 0 by rw [em, e]; decide), if_neg (show ¬ m = 0 by omega)]; rfl
            · have h2n : 2 ≤ 2 ^ cb_ S 12 := by
                have := p2lt (i := 0) (n := cb_ S 12) (by omega)
                omega
              have bs := bestStep_ hA hd hc (fun i hi => ⟨(l3 i hi).1, (l3 i hi).2.2⟩) hpl (M := 0) (x := pl) (by omega) (by omega) hpl r2
              rw [Nat.sub_zero] at bs
              rw [if_neg (nI_ne0 (by omega) (by omega)), show fn_X10_bestStep A' s2' R2 (nI pl) 0 (nI (cb_ S 12)) = _ from bs, b1_so]
              by_cases e3 : ro_ (ds_ s w F) σ pl (cb_ S 12) (2 ^ cb_ S 12 - 1 + 1) (2 ^ cb_ S 12 - 1) pl < 1000000
              · rw [if_neg (show ¬ (1000000 : Int32) ≤ nI (ro_ (ds_ s w F) σ pl (cb_ S 12) (2 ^ cb_ S 12 - 1 + 1) (2 ^ cb_ S 12 - 1) pl) from nI_ge (b := 1000000) e3 (by omega)), if_pos (show nI (ro_ (ds_ s w F) σ pl (cb_ S 12) (2 ^ cb_ S 12 - 1 + 1) (2 ^ cb_ S 12 - 1) pl) < 1000000 from nI_lt (b := 1000000) e3 (by omega)), if_pos e3, round126_ hA hd hc (fun i hi => ⟨(l3 i hi).1, (l3 i hi).2.2⟩) hpl r2 e3]
                rcases (show m = 0 ∨ m = 1 by omega) with e | e
                · rw [if_pos (show x3 = 0 by rw [em, e]; rfl), if_pos e]
                · rw [if_neg (show ¬ x3 = 0 by rw [em, e]; decide), if_neg (show ¬ m = 0 by omega)]
              · rw [if_pos (show (1000000 : Int32) ≤ nI (ro_ (ds_ s w F) σ pl (cb_ S 12) (2 ^ cb_ S 12 - 1 + 1) (2 ^ cb_ S 12 - 1) pl) from nI_le (a := 1000000) (by omega) (by omega)), if_neg (show ¬ nI (ro_ (ds_ s w F) σ pl (cb_ S 12) (2 ^ cb_ S 12 - 1 + 1) (2 ^ cb_ S 12 - 1) pl) < 1000000 from nI_nlt (b := 1000000) (by omega) (by omega)), if_neg e3]
                rcases (show m = 0 ∨ m = 1 by omega) with e | e
                · rw [if_pos e]
                · rw [if_neg (show ¬ m = 0 by omega)]
                  have key : ∀ i z, ffq_ (rP_ (ds_ s w F) σ pl (cb_ S 12)) (fun i => nI (σ i)) i z = z := by
                    intro i
                    induction i with
                    | zero => intro z; rfl
                    | succ i ih =>
                      intro z
                      show ffq_ (rP_ (ds_ s w F) σ pl (cb_ S 12)) (fun i => nI (σ i)) i (if rP_ (ds_ s w F) σ pl (cb_ S 12) i = true then nI (σ i) else z) = z
                      rw [if_neg (by unfold rP_; rw [decide_eq_false e3, Bool.false_and]; decide)]
                      exact ih z
                  rw [key]
        · refine ⟨-4, c_x_measured, c_x_ways_planks, c_x_ways_least, c_x_ways_neighbours, c_x_tour_costs, c_x_tour_firstStop, c_x_tour_stops, c_x_tour_rest, c_m_apart, c_m_stop, c_m_restOf, ?_, ?_, hR⟩
          · unfold fn_X9_round
            rw [q1, b1_so, if_neg (by decide), q3, b1_so, if_neg (by decide), q5, b1_so, if_neg (by decide), eS, bc1, b1_so, if_neg (show ¬ nI (cb_ S 12) ≤ 6 from nI_ge (a := 6) (by omega) (by omega))]
          · unfold fn_X10_round
            rw [q2, b1_so, if_neg (by decide), q4, b1_so, if_neg (by decide), q6, b1_so, if_neg (by decide), eS, bc2, b1_so, if_neg (show ¬ nI (cb_ S 12) ≤ 6 from nI_ge (a := 6) (by omega) (by omega))]
