theorem or_b {T j : Nat} (hT : T < 64) (hj : j < 6) : nI T ||| (1 <<< (nI j &&& 31)) = nI (T ||| 2 ^ j) ∧ T ||| 2 ^ j < 64 ∧ ∀ i, i < 6 → (T ||| 2 ^ j).testBit i = (T.testBit i || decide (i = j)) := by
  have key : ∀ (t : Fin 64) (u : Fin 6), nI t.val ||| (1 <<< (nI u.val &&& 31)) = nI (t.val ||| 2 ^ u.val) ∧ t.val ||| 2 ^ u.val < 64 ∧ ∀ i : Fin 6, (t.val ||| 2 ^ u.val).testBit i.val = (t.val.testBit i.val || decide (i.val = u.val)) := by decide +kernel
  obtain ⟨k1, k2, k3⟩ := key ⟨T, hT⟩ ⟨j, hj⟩
  exact ⟨k1, k2, fun i hi => k3 ⟨i, hi⟩⟩
def rm_ (T j : Nat) : Nat := if T.testBit j then T - 2 ^ j else T
theorem rm_b {T j : Nat} (hT : T < 64) (hj : j < 6) : nI T &&& ((1 <<< (nI j &&& 31)) ^^^ (-1)) = nI (rm_ T j) ∧ rm_ T j < 64 ∧ ∀ i, i < 6 → (rm_ T j).testBit i = (T.testBit i && !decide (i = j)) := by
  have key : ∀ (t : Fin 64) (u : Fin 6), nI t.val &&& ((1 <<< (nI u.val &&& 31)) ^^^ (-1)) = nI (rm_ t.val u.val) ∧ rm_ t.val u.val < 64 ∧ ∀ i : Fin 6, (rm_ t.val u.val).testBit i.val = (t.val.testBit i.val && !decide (i.val = u.val)) := by decide +kernel
  obtain ⟨k1, k2, k3⟩ := key ⟨T, hT⟩ ⟨j, hj⟩
  exact ⟨k1, k2, fun i hi => k3 ⟨i, hi⟩⟩
theorem lg_le {j : Nat} {f : Nat → Nat} {i : Nat} (h : f i ≤ 6) : lg_ j f i ≤ 6 := by unfold lg_; split <;> omega
theorem pp_leave {c_x_measured c_x_now_crowd_there c_x_now_crowd_foggy c_x_now_sights_count c_x_pad_count c_x_evening_acts c_x_evening_failedAct c_x_evening_reason c_x_evening_costs c_x_evening_walks c_x_evening_crowd_there c_x_evening_crowd_foggy c_x_tour_costs c_x_tour_firstStop c_x_odds_count c_x_odds_tenths c_m_foggy c_m_walkers c_m_sights c_m_padMany c_m_acts c_m_spent c_m_walks c_m_badAct c_m_badWhy c_m_keptAt c_m_isWriting : Int32} {c_x_now_marsh_codes c_x_now_crowd_at c_x_now_crowd_home c_x_now_crowd_light c_x_now_crowd_carries c_x_now_crowd_bearer c_x_now_sights_places c_x_now_sights_lights c_x_pad_signs c_x_evening_crowd_at c_x_evening_crowd_home c_x_evening_crowd_light c_x_evening_crowd_carries c_x_evening_crowd_bearer c_x_ways_planks c_x_ways_least c_x_ways_neighbours c_x_tour_stops c_x_tour_rest c_x_odds_planks c_m_steps c_m_wet c_m_where c_m_home c_m_light c_m_carries c_m_sightPlace c_m_sightLight c_m_pad c_m_act c_m_whose c_m_whom c_m_tens c_m_had c_m_leaves c_m_apart c_m_stop c_m_restOf c_m_group c_m_along : Nat → Int32} (hR : RR c_x_measured c_x_now_marsh_codes c_x_now_crowd_there c_x_now_crowd_foggy c_x_now_crowd_at c_x_now_crowd_home c_x_now_crowd_light c_x_now_crowd_carries c_x_now_crowd_bearer c_x_now_sights_count c_x_now_sights_places c_x_now_sights_lights c_x_pad_count c_x_pad_signs c_x_evening_acts c_x_evening_failedAct c_x_evening_reason c_x_evening_costs c_x_evening_walks c_x_evening_crowd_there c_x_evening_crowd_foggy c_x_evening_crowd_at c_x_evening_crowd_home c_x_evening_crowd_light c_x_evening_crowd_carries c_x_evening_crowd_bearer c_x_ways_planks c_x_ways_least c_x_ways_neighbours c_x_tour_costs c_x_tour_firstStop c_x_tour_stops c_x_tour_rest c_x_odds_count c_x_odds_tenths c_x_odds_planks c_m_foggy c_m_walkers c_m_sights c_m_padMany c_m_acts c_m_spent c_m_walks c_m_badAct c_m_badWhy c_m_keptAt c_m_isWriting c_m_steps c_m_wet c_m_where c_m_home c_m_light c_m_carries c_m_sightPlace c_m_sightLight c_m_pad c_m_act c_m_whose c_m_whom c_m_tens c_m_had c_m_leaves c_m_apart c_m_stop c_m_restOf c_m_group c_m_along) (x1 : Int32)  : ∃ (r : Int32) (w0 : Int32) (w1 : Nat → Int32) (w2 : Nat → Int32) (v0 : Int32) (v1 : Nat → Int32), fn_X9_leave c_x_now_crowd_there c_x_now_crowd_carries c_x_now_crowd_bearer x1 = some (r, w0, w1, w2) ∧ fn_X10_leave c_m_walkers c_m_carries x1 = some (r, v0, v1) ∧ RR c_x_measured c_x_now_marsh_codes w0 c_x_now_crowd_foggy c_x_now_crowd_at c_x_now_crowd_home c_x_now_crowd_light w1 w2 c_x_now_sights_count c_x_now_sights_places c_x_now_sights_lights c_x_pad_count c_x_pad_signs c_x_evening_acts c_x_evening_failedAct c_x_evening_reason c_x_evening_costs c_x_evening_walks c_x_evening_crowd_there c_x_evening_crowd_foggy c_x_evening_crowd_at c_x_evening_crowd_home c_x_evening_crowd_light c_x_evening_crowd_carries c_x_evening_crowd_bearer c_x_ways_planks c_x_ways_least c_x_ways_neighbours c_x_tour_costs c_x_tour_firstStop c_x_tour_stops c_x_tour_rest c_x_odds_count c_x_odds_tenths c_x_odds_planks c_m_foggy v0 c_m_sights c_m_padMany c_m_acts c_m_spent c_m_walks c_m_badAct c_m_badWhy c_m_keptAt c_m_isWriting c_m_steps c_m_wet c_m_where c_m_home c_m_light v1 c_m_sightPlace c_m_sightLight c_m_pad c_m_act c_m_whose c_m_whom c_m_tens c_m_had c_m_leaves c_m_apart c_m_stop c_m_restOf c_m_group c_m_along := by
  obtain ⟨s, w, T, F, a, h, li, cr, br, sc, sp, sl, pc, g, h1, h2, ⟨hT, hT1, hT2⟩, ⟨hF, hF1, hF2⟩, h5, h6, h7, ⟨hsc, hs1, hs2⟩, h9, ⟨hpc, hp1, hp2⟩, h11, h12⟩ := id hR
  rcases hs_ hT x1 with ⟨r1, r2, -⟩ | ⟨j, hj, ej, hb, r1, r2⟩
  · refine ⟨-1, c_x_now_crowd_there, c_x_now_crowd_carries, c_x_now_crowd_bearer, c_m_walkers, c_m_carries, ?_, ?_, hR⟩
    · unfold fn_X9_leave; rw [hT1, r1]; rfl
    · unfold fn_X10_leave; rw [hT2, r2]; rfl
  · subst ej
    obtain ⟨C, B, e1, e2⟩ := part_ h6 h7 hj
    obtain ⟨C2, e3, e4⟩ := letGo_ (fun t ht => ⟨(h6 t ht).1, (h6 t ht).2.2.2.2⟩) hj
    obtain ⟨m1, m2, m3⟩ := rm_b hT hj
    obtain ⟨r, b1, b2⟩ := bc_ m2
    refine ⟨r, nI (rm_ T j), C, B, nI (rm_ T j), C2, ?_, ?_, ?_⟩
    · unfold fn_X9_leave fn_X0_remove fn_X0_size
      rw [hT1, r1, b1_so, if_neg (by decide), e1]
      dsimp only [b2_, b3_, lx_, Option.bind]
      rw [m1, b1]
      rfl
    · unfold fn_X10_leave
      rw [hT2, r2, b1_so, if_neg (by decide), e3, b1_so]
      dsimp only [lx_]
      rw [m1, b2]
      rfl
    · obtain ⟨y1, y2⟩ := lg_cy2 h7 hj
      refine ⟨s, w, rm_ T j, F, a, h, li, lg_ j cr, lg_ j br, sc, sp, sl, pc, g, h1, h2, ⟨m2, rfl, rfl⟩, ⟨hF, hF1, hF2⟩, h5, fun i hi => ?_, ⟨y1, fun i hi hl => ?_⟩, ⟨hsc, hs1, hs2⟩, h9, ⟨hpc, hp1, hp2⟩, h11, h12⟩
      · obtain ⟨c1, c2, -, -, -⟩ := h6 i hi
        exact ⟨lg_le c1, lg_le c2, (e2 i hi).1, (e2 i hi).2, e4 i hi⟩
      · obtain ⟨z1, z2, z3, z4, z5⟩ := y2 i hi hl
        refine ⟨z1, ?_, ?_⟩
        · rw [m3 i hi, z2, decide_eq_false z4]; rfl
        · rw [m3 _ hl, z3, decide_eq_false z5]; rfl
theorem pp_walker {c_x_measured c_x_now_crowd_there c_x_now_crowd_foggy c_x_now_sights_count c_x_pad_count c_x_evening_acts c_x_evening_failedAct c_x_evening_reason c_x_evening_costs c_x_evening_walks c_x_evening_crowd_there c_x_evening_crowd_foggy c_x_tour_costs c_x_tour_firstStop c_x_odds_count c_x_odds_tenths c_m_foggy c_m_walkers c_m_sights c_m_padMany c_m_acts c_m_spent c_m_walks c_m_badAct c_m_badWhy c_m_keptAt c_m_isWriting : Int32} {c_x_now_marsh_codes c_x_now_crowd_at c_x_now_crowd_home c_x_now_crowd_light c_x_now_crowd_carries c_x_now_crowd_bearer c_x_now_sights_places c_x_now_sights_lights c_x_pad_signs c_x_evening_crowd_at c_x_evening_crowd_home c_x_evening_crowd_light c_x_evening_crowd_carries c_x_evening_crowd_bearer c_x_ways_planks c_x_ways_least c_x_ways_neighbours c_x_tour_stops c_x_tour_rest c_x_odds_planks c_m_steps c_m_wet c_m_where c_m_home c_m_light c_m_carries c_m_sightPlace c_m_sightLight c_m_pad c_m_act c_m_whose c_m_whom c_m_tens c_m_had c_m_leaves c_m_apart c_m_stop c_m_restOf c_m_group c_m_along : Nat → Int32} (hR : RR c_x_measured c_x_now_marsh_codes c_x_now_crowd_there c_x_now_crowd_foggy c_x_now_crowd_at c_x_now_crowd_home c_x_now_crowd_light c_x_now_crowd_carries c_x_now_crowd_bearer c_x_now_sights_count c_x_now_sights_places c_x_now_sights_lights c_x_pad_count c_x_pad_signs c_x_evening_acts c_x_evening_failedAct c_x_evening_reason c_x_evening_costs c_x_evening_walks c_x_evening_crowd_there c_x_evening_crowd_foggy c_x_evening_crowd_at c_x_evening_crowd_home c_x_evening_crowd_light c_x_evening_crowd_carries c_x_evening_crowd_bearer c_x_ways_planks c_x_ways_least c_x_ways_neighbours c_x_tour_costs c_x_tour_firstStop c_x_tour_stops c_x_tour_rest c_x_odds_count c_x_odds_tenths c_x_odds_planks c_m_foggy c_m_walkers c_m_sights c_m_padMany c_m_acts c_m_spent c_m_walks c_m_badAct c_m_badWhy c_m_keptAt c_m_isWriting c_m_steps c_m_wet c_m_where c_m_home c_m_light c_m_carries c_m_sightPlace c_m_sightLight c_m_pad c_m_act c_m_whose c_m_whom c_m_tens c_m_had c_m_leaves c_m_apart c_m_stop c_m_restOf c_m_group c_m_along) (x1 : Int32) (x2 : Int32) (x3 : Int32) (x4 : Int32)  : ∃ (r : Int32) (w0 : Int32) (w1 : Nat → Int32) (w2 : Nat → Int32) (w3 : Nat → Int32) (w4 : Nat → Int32) (w5 : Nat → Int32) (v0 : Int32) (v1 : Nat → Int32) (v2 : Nat → Int32) (v3 : Nat → Int32) (v4 : Nat → Int32), fn_X9_walker c_x_now_crowd_there c_x_now_crowd_at c_x_now_crowd_home c_x_now_crowd_light c_x_now_crowd_carries c_x_now_crowd_bearer x1 x2 x3 x4 = some (r, w0, w1, w2, w3, w4, w5) ∧ fn_X10_walker c_m_walkers c_m_where c_m_home c_m_light c_m_carries x1 x2 x3 x4 = some (r, v0, v1, v2, v3, v4) ∧ RR c_x_measured c_x_now_marsh_codes w0 c_x_now_crowd_foggy w1 w2 w3 w4 w5 c_x_now_sights_count c_x_now_sights_places c_x_now_sights_lights c_x_pad_count c_x_pad_signs c_x_evening_acts c_x_evening_failedAct c_x_evening_reason c_x_evening_costs c_x_evening_walks c_x_evening_crowd_there c_x_evening_crowd_foggy c_x_evening_crowd_at c_x_evening_crowd_home c_x_evening_crowd_light c_x_evening_crowd_carries c_x_evening_crowd_bearer c_x_ways_planks c_x_ways_least c_x_ways_neighbours c_x_tour_costs c_x_tour_firstStop c_x_tour_stops c_x_tour_rest c_x_odds_count c_x_odds_tenths c_x_odds_planks c_m_foggy v0 c_m_sights c_m_padMany c_m_acts c_m_spent c_m_walks c_m_badAct c_m_badWhy c_m_keptAt c_m_isWriting c_m_steps c_m_wet v1 v2 v3 v4 c_m_sightPlace c_m_sightLight c_m_pad c_m_act c_m_whose c_m_whom c_m_tens c_m_had c_m_leaves c_m_apart c_m_stop c_m_restOf c_m_group c_m_along := by
  obtain ⟨s, w, T, F, a, h, li, cr, br, sc, sp, sl, pc, g, h1, h2, ⟨hT, hT1, hT2⟩, ⟨hF, hF1, hF2⟩, h5, h6, h7, ⟨hsc, hs1, hs2⟩, h9, ⟨hpc, hp1, hp2⟩, h11, h12⟩ := id hR
  rcases rg0_ x1 5 5 5 rfl rfl with ⟨q1, q2, -⟩ | ⟨j, hj, ej, q1, q2⟩
  · refine ⟨-1, c_x_now_crowd_there, c_x_now_crowd_at, c_x_now_crowd_home, c_x_now_crowd_light, c_x_now_crowd_carries, c_x_now_crowd_bearer, c_m_walkers, c_m_where, c_m_home, c_m_light, c_m_carries, ?_, ?_, hR⟩
    · unfold fn_X9_walker; rw [q1]; rfl
    · unfold fn_X10_walker; rw [q2]; rfl
  · rcases pc_ x2 with ⟨q3, q4, -⟩ | ⟨p, hp, ep, q3, q4⟩
    · refine ⟨-1, c_x_now_crowd_there, c_x_now_crowd_at, c_x_now_crowd_home, c_x_now_crowd_light, c_x_now_crowd_carries, c_x_now_crowd_bearer, c_m_walkers, c_m_where, c_m_home, c_m_light, c_m_carries, ?_, ?_, hR⟩
      · unfold fn_X9_walker; rw [q1, b1_so, if_neg (by decide), q3]; rfl
      · unfold fn_X10_walker; rw [q2, b1_so, if_neg (by decide), q4]; rfl
    · rcases pc_ x3 with ⟨q5, q6, -⟩ | ⟨q, hq, eq, q5, q6⟩
      · refine ⟨-1, c_x_now_crowd_there, c_x_now_crowd_at, c_x_now_crowd_home, c_x_now_crowd_light, c_x_now_crowd_carries, c_x_now_crowd_bearer, c_m_walkers, c_m_where, c_m_home, c_m_light, c_m_carries, ?_, ?_, hR⟩
        · unfold fn_X9_walker; rw [q1, b1_so, if_neg (by decide), q3, b1_so, if_neg (by decide), q5]; rfl
        · unfold fn_X10_walker; rw [q2, b1_so, if_neg (by decide), q4, b1_so, if_neg (by decide), q6]; rfl
      · rcases rg0_ x4 999 999 999 rfl rfl with ⟨q7, q8, -⟩ | ⟨m, hm, em, q7, q8⟩
        · refine ⟨-2, c_x_now_crowd_there, c_x_now_crowd_at, c_x_now_crowd_home, c_x_now_crowd_light, c_x_now_crowd_carries, c_x_now_crowd_bearer, c_m_walkers, c_m_where, c_m_home, c_m_light, c_m_carries, ?_, ?_, hR⟩
          · unfold fn_X9_walker; rw [q1, b1_so, if_neg (by decide), q3, b1_so, if_neg (by decide), q5, b1_so, if_neg (by decide), q7]; rfl
          · unfold fn_X10_walker; rw [q2, b1_so, if_neg (by decide), q4, b1_so, if_neg (by decide), q6, b1_so, if_neg (by decide), q8]; rfl
        · have hj6 : j < 6 := by omega
          subst ej
          obtain ⟨C, B, e1, e2⟩ := part_ h6 h7 hj6
          obtain ⟨C2, e3, e4⟩ := letGo_ (fun t ht => ⟨(h6 t ht).1, (h6 t ht).2.2.2.2⟩) hj6
          obtain ⟨m1, m2, m3⟩ := or_b hT hj6
          obtain ⟨r, b1, b2⟩ := bc_ m2
          refine ⟨r, nI (T ||| 2 ^ j), upd c_x_now_crowd_at j x2, upd c_x_now_crowd_home j x3, upd c_x_now_crowd_light j x4, C, B, nI (T ||| 2 ^ j), upd c_m_where j x2, upd c_m_home j x3, upd c_m_light j x4, C2, ?_, ?_, ?_⟩
          · unfold fn_X9_walker fn_X0_enter fn_X0_size
            rw [q1, b1_so, if_neg (by decide), q3, b1_so, if_neg (by decide), q5, b1_so, if_neg (by decide), q7, b1_so, if_neg (by decide), e1]
            dsimp only [b2_, lx_, Option.bind]
            rw [hT1, m1, ckn_ hj6 (by omega), ckn_ hj6 (by omega), ckn_ hj6 (by omega), nI_clamp (by omega)]
            dsimp only [b6_, Option.bind]
            rw [b1]
            rfl
          · unfold fn_X10_walker
            rw [q2, b1_so, if_neg (by decide), q4, b1_so, if_neg (by decide), q6, b1_so, if_neg (by decide), q8, b1_so, if_neg (by decide), e3, b1_so]
            dsimp only [lx_]
            rw [hT2, m1, ckn_ hj6 (by omega), ckn_ hj6 (by omega), ckn_ hj6 (by omega), nI_clamp (by omega), b2]
            rfl
          · obtain ⟨y1, y2⟩ := lg_cy2 h7 hj6
            refine ⟨s, w, T ||| 2 ^ j, F, upn_ a j p, upn_ h j q, upn_ li j m, lg_ j cr, lg_ j br, sc, sp, sl, pc, g, h1, h2, ⟨m2, rfl, rfl⟩, ⟨hF, hF1, hF2⟩, fun i hi => ?_, fun i hi => ?_, ⟨y1, fun i hi hl => ?_⟩, ⟨hsc, hs1, hs2⟩, h9, ⟨hpc, hp1, hp2⟩, h11, h12⟩
            · unfold upn_
              rw [up_nI, up_nI, up_nI, up_nI, up_nI, up_nI]
              by_cases e : i = j
              · simp only [if_pos e]
                exact ⟨hp, hq, hm, ep, eq, em, ep, eq, em⟩
              · simp only [if_neg e]
                exact h5 i hi
            · obtain ⟨c1, c2, -, -, -⟩ := h6 i hi
              exact ⟨lg_le c1, lg_le c2, (e2 i hi).1, (e2 i hi).2, e4 i hi⟩
            · obtain ⟨z1, z2, z3, z4, z5⟩ := y2 i hi hl
              refine ⟨z1, ?_, ?_⟩
              · rw [m3 i hi, z2]; rfl
              · rw [m3 _ hl, z3]; rfl
