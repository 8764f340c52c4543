theorem pp_init : RR 0 (fun _ => 0) 0 0 (fun _ => 0) (fun _ => 0) (fun _ => 0) nf6_ nf6_ 0 (fun _ => 0) (fun _ => 0) 0 (fun _ => 0) 0 (-6) (-6) 0 0 0 0 (fun _ => 0) (fun _ => 0) (fun _ => 0) nf6_ nf6_ (fun _ => 0) (fun _ => 0) (fun _ => 0) 0 (-6) (fun _ => 0) (fun _ => 0) 0 0 (fun _ => 0) 0 0 0 0 0 0 0 0 0 0 0 (fun _ => 0) (fun _ => 0) (fun _ => 0) (fun _ => 0) (fun _ => 0) (upd (upd (upd (upd (upd (upd (fun _ => 0) 0 (-6)) 1 (-6)) 2 (-6)) 3 (-6)) 4 (-6)) 5 (-6)) (fun _ => 0) (fun _ => 0) (fun _ => 0) (fun _ => 0) (fun _ => 0) (fun _ => 0) (fun _ => 0) (fun _ => 0) (fun _ => 0) (fun _ => 0) (fun _ => 0) (fun _ => 0) (fun _ => 0) (fun _ => 0) := by
  refine ⟨fun _ => 0, fun _ => 0, 0, 0, fun _ => 0, fun _ => 0, fun _ => 0, fun _ => 6, fun _ => 6, 0, fun _ => 0, fun _ => 0, 0, fun _ => 0, ?_⟩
  refine ⟨fun k _ => ⟨Nat.zero_le _, Nat.zero_le _, rfl, rfl, rfl⟩, ⟨fun _ _ _ _ => ⟨rfl, rfl⟩, fun _ _ => rfl⟩, ⟨by decide, rfl, rfl⟩, ⟨by decide, rfl, rfl⟩, fun j _ => ⟨Nat.succ_pos _, Nat.succ_pos _, Nat.zero_le _, rfl, rfl, rfl, rfl, rfl, rfl⟩, fun j hj => ?_, ⟨fun j v hj hv => ⟨fun e => absurd (show (6 : Nat) = v from e) (by omega), fun e => absurd (show (6 : Nat) = j from e) (by omega)⟩, fun j hj h => absurd (show (6 : Nat) < 6 from h) (by decide)⟩, ⟨by decide, rfl, rfl⟩, fun k _ => ⟨Nat.succ_pos _, Nat.zero_le _, rfl, rfl, rfl, rfl⟩, ⟨by decide, rfl, rfl⟩, fun k _ => ⟨Nat.zero_le _, rfl, rfl⟩, Or.inl rfl⟩
  match j, hj with
  | 0, _ => exact ⟨by decide, by decide, rfl, rfl, rfl⟩
  | 1, _ => exact ⟨by decide, by decide, rfl, rfl, rfl⟩
  | 2, _ => exact ⟨by decide, by decide, rfl, rfl, rfl⟩
  | 3, _ => exact ⟨by decide, by decide, rfl, rfl, rfl⟩
  | 4, _ => exact ⟨by decide, by decide, rfl, rfl, rfl⟩
  | 5, _ => exact ⟨by decide, by decide, rfl, rfl, rfl⟩
  | k + 6, hj => omega
theorem pp_image_out {c_x_measured c_x_now_crowd_there c_x_now_crowd_foggy c_x_now_sights_count c_x_pad_count c_x_evening_acts c_x_evening_failedAct c_x_evening_reason c_x_evening_costs c_x_evening_walks c_x_evening_crowd_there c_x_evening_crowd_foggy c_x_tour_costs c_x_tour_firstStop c_x_odds_count c_x_odds_tenths c_m_foggy c_m_walkers c_m_sights c_m_padMany c_m_acts c_m_spent c_m_walks c_m_badAct c_m_badWhy c_m_keptAt c_m_isWriting : Int32} {c_x_now_marsh_codes c_x_now_crowd_at c_x_now_crowd_home c_x_now_crowd_light c_x_now_crowd_carries c_x_now_crowd_bearer c_x_now_sights_places c_x_now_sights_lights c_x_pad_signs c_x_evening_crowd_at c_x_evening_crowd_home c_x_evening_crowd_light c_x_evening_crowd_carries c_x_evening_crowd_bearer c_x_ways_planks c_x_ways_least c_x_ways_neighbours c_x_tour_stops c_x_tour_rest c_x_odds_planks c_m_steps c_m_wet c_m_where c_m_home c_m_light c_m_carries c_m_sightPlace c_m_sightLight c_m_pad c_m_act c_m_whose c_m_whom c_m_tens c_m_had c_m_leaves c_m_apart c_m_stop c_m_restOf c_m_group c_m_along c_m_kept c_m_isKept : Nat → Int32} {i0 : Option Im_} {i1 : Option Im_} (hR : RR c_x_measured c_x_now_marsh_codes c_x_now_crowd_there c_x_now_crowd_foggy c_x_now_crowd_at c_x_now_crowd_home c_x_now_crowd_light c_x_now_crowd_carries c_x_now_crowd_bearer c_x_now_sights_count c_x_now_sights_places c_x_now_sights_lights c_x_pad_count c_x_pad_signs c_x_evening_acts c_x_evening_failedAct c_x_evening_reason c_x_evening_costs c_x_evening_walks c_x_evening_crowd_there c_x_evening_crowd_foggy c_x_evening_crowd_at c_x_evening_crowd_home c_x_evening_crowd_light c_x_evening_crowd_carries c_x_evening_crowd_bearer c_x_ways_planks c_x_ways_least c_x_ways_neighbours c_x_tour_costs c_x_tour_firstStop c_x_tour_stops c_x_tour_rest c_x_odds_count c_x_odds_tenths c_x_odds_planks c_m_foggy c_m_walkers c_m_sights c_m_padMany c_m_acts c_m_spent c_m_walks c_m_badAct c_m_badWhy c_m_keptAt c_m_isWriting c_m_steps c_m_wet c_m_where c_m_home c_m_light c_m_carries c_m_sightPlace c_m_sightLight c_m_pad c_m_act c_m_whose c_m_whom c_m_tens c_m_had c_m_leaves c_m_apart c_m_stop c_m_restOf c_m_group c_m_along) (hK : KK c_m_kept c_m_isKept i0 i1) (x1 : Int32) (h0 : ¬ x1 = 0) (h1 : ¬ x1 = 1) : fn_X9_isWithin x1 0 1 = some 0 ∧ fn_X10_image c_m_foggy c_m_walkers c_m_sights c_m_keptAt c_m_isWriting c_m_steps c_m_wet c_m_where c_m_home c_m_light c_m_carries c_m_sightPlace c_m_sightLight c_m_kept c_m_isKept x1 = some ((-2), c_m_foggy, c_m_walkers, c_m_sights, c_m_keptAt, c_m_isWriting, c_m_steps, c_m_wet, c_m_where, c_m_home, c_m_light, c_m_carries, c_m_sightPlace, c_m_sightLight, c_m_kept, c_m_isKept) := by
  rcases rg0_ x1 1 1 1 rfl rfl with ⟨q1, q2, -⟩ | ⟨m, hm, e, -, -⟩
  · refine ⟨q1, ?_⟩
    unfold fn_X10_image
    rw [q2]
    rfl
  · rcases (show m = 0 ∨ m = 1 by omega) with e1 | e1
    · subst e1; exact absurd e h0
    · subst e1; exact absurd e h1
theorem pp_restore_out {c_x_measured c_x_now_crowd_there c_x_now_crowd_foggy c_x_now_sights_count c_x_pad_count c_x_evening_acts c_x_evening_failedAct c_x_evening_reason c_x_evening_costs c_x_evening_walks c_x_evening_crowd_there c_x_evening_crowd_foggy c_x_tour_costs c_x_tour_firstStop c_x_odds_count c_x_odds_tenths c_m_foggy c_m_walkers c_m_sights c_m_padMany c_m_acts c_m_spent c_m_walks c_m_badAct c_m_badWhy c_m_keptAt c_m_isWriting : Int32} {c_x_now_marsh_codes c_x_now_crowd_at c_x_now_crowd_home c_x_now_crowd_light c_x_now_crowd_carries c_x_now_crowd_bearer c_x_now_sights_places c_x_now_sights_lights c_x_pad_signs c_x_evening_crowd_at c_x_evening_crowd_home c_x_evening_crowd_light c_x_evening_crowd_carries c_x_evening_crowd_bearer c_x_ways_planks c_x_ways_least c_x_ways_neighbours c_x_tour_stops c_x_tour_rest c_x_odds_planks c_m_steps c_m_wet c_m_where c_m_home c_m_light c_m_carries c_m_sightPlace c_m_sightLight c_m_pad c_m_act c_m_whose c_m_whom c_m_tens c_m_had c_m_leaves c_m_apart c_m_stop c_m_restOf c_m_group c_m_along c_m_kept c_m_isKept : Nat → Int32} {i0 : Option Im_} {i1 : Option Im_} (hR : RR c_x_measured c_x_now_marsh_codes c_x_now_crowd_there c_x_now_crowd_foggy c_x_now_crowd_at c_x_now_crowd_home c_x_now_crowd_light c_x_now_crowd_carries c_x_now_crowd_bearer c_x_now_sights_count c_x_now_sights_places c_x_now_sights_lights c_x_pad_count c_x_pad_signs c_x_evening_acts c_x_evening_failedAct c_x_evening_reason c_x_evening_costs c_x_evening_walks c_x_evening_crowd_there c_x_evening_crowd_foggy c_x_evening_crowd_at c_x_evening_crowd_home c_x_evening_crowd_light c_x_evening_crowd_carries c_x_evening_crowd_bearer c_x_ways_planks c_x_ways_least c_x_ways_neighbours c_x_tour_costs c_x_tour_firstStop c_x_tour_stops c_x_tour_rest c_x_odds_count c_x_odds_tenths c_x_odds_planks c_m_foggy c_m_walkers c_m_sights c_m_padMany c_m_acts c_m_spent c_m_walks c_m_badAct c_m_badWhy c_m_keptAt c_m_isWriting c_m_steps c_m_wet c_m_where c_m_home c_m_light c_m_carries c_m_sightPlace c_m_sightLight c_m_pad c_m_act c_m_whose c_m_whom c_m_tens c_m_had c_m_leaves c_m_apart c_m_stop c_m_restOf c_m_group c_m_along) (hK : KK c_m_kept c_m_isKept i0 i1) (x1 : Int32) (h0 : ¬ x1 = 0) (h1 : ¬ x1 = 1) : fn_X9_isWithin x1 0 1 = some 0 ∧ fn_X10_restore c_m_foggy c_m_walkers c_m_sights c_m_keptAt c_m_isWriting c_m_steps c_m_wet c_m_where c_m_home c_m_light c_m_carries c_m_sightPlace c_m_sightLight c_m_kept c_m_isKept x1 = some ((-2), c_m_foggy, c_m_walkers, c_m_sights, c_m_keptAt, c_m_isWriting, c_m_steps, c_m_wet, c_m_where, c_m_home, c_m_light, c_m_carries, c_m_sightPlace, c_m_sightLight, c_m_kept) := by
  rcases rg0_ x1 1 1 1 rfl rfl with ⟨q1, q2, -⟩ | ⟨m, hm, e, -, -⟩
  · refine ⟨q1, ?_⟩
    unfold fn_X10_restore
    rw [q2]
    rfl
  · rcases (show m = 0 ∨ m = 1 by omega) with e1 | e1
    · subst e1; exact absurd e h0
    · subst e1; exact absurd e h1
/-- who is there: both look at one bit -/
theorem bit_ {T j : Nat} (hT : T < 64) (hj : j < 6) : (((nI T >>> (nI j &&& 31)) &&& 1) = 1) ↔ T.testBit j = true := by
  have key : ∀ t : Fin 64, ∀ i : Fin 6, ((((nI t.val >>> (nI i.val &&& 31)) &&& 1) = 1) ↔ t.val.testBit i.val = true) := by decide +kernel
  exact key ⟨T, hT⟩ ⟨j, hj⟩
theorem hs_ {T : Nat} (hT : T < 64) (x : Int32) : (fn_X0_has (nI T) x = some 0 ∧ fn_X10_isWalker (nI T) x = some 0 ∧ ∀ j, j < 6 → x = nI j → T.testBit j = false) ∨ ∃ j, j < 6 ∧ x = nI j ∧ T.testBit j = true ∧ fn_X0_has (nI T) x = some 1 ∧ fn_X10_isWalker (nI T) x = some 1 := by
  unfold fn_X0_has fn_X10_isWalker
  rcases rg0_ x 5 5 5 rfl rfl with ⟨q1, q2, q3⟩ | ⟨j, hj, e, q1, q2⟩
  · refine Or.inl ⟨?_, ?_, fun j hj e => absurd e (q3 j (by omega))⟩
    · rw [q1]; rfl
    · rw [q2]; rfl
  · rw [q1, q2, b1_so, b1_so, if_neg (by decide), if_neg (by decide)]
    subst e
    unfold fn_X9_isIn
    cases hb : T.testBit j with
    | true =>
      have h1 := (bit_ hT (show j < 6 by omega)).mpr hb
      rw [if_pos h1]
      exact Or.inr ⟨j, by omega, rfl, hb, rfl, rfl⟩
    | false =>
      have h1 : ¬ (((nI T >>> (nI j &&& 31)) &&& 1) = 1) := fun h => by
        have := (bit_ hT (show j < 6 by omega)).mp h
        rw [hb] at this; cases this
      rw [if_neg h1]
      refine Or.inl ⟨rfl, rfl, fun i hi e => ?_⟩
      have e2 := (nI_eq (a := j) (b := i) (by omega) (by omega)).mp e
      rw [← e2]; exact hb
