set_option maxHeartbeats 4000000 in
set_option maxRecDepth 100000 in
theorem law_loop {p : Program} {l : Launch} {e : Env} {s : State} {m : MethodId} {below : List Frame} {meth : Method} {c : Code} {G : gw_} {b L : Nat} {xs : Nat → Int32} {A_x A_x_now A_x_now_marsh A_x_now_marsh_codes A_x_now_crowd A_x_now_crowd_at A_x_now_crowd_home A_x_now_crowd_light A_x_now_crowd_carries A_x_now_crowd_bearer A_x_now_sights A_x_now_sights_places A_x_now_sights_lights A_x_images A_x_pad A_x_pad_signs A_x_evening A_x_evening_crowd A_x_evening_crowd_at A_x_evening_crowd_home A_x_evening_crowd_light A_x_evening_crowd_carries A_x_evening_crowd_bearer A_x_ways A_x_ways_planks A_x_ways_least A_x_ways_neighbours A_x_tour A_x_tour_stops A_x_tour_rest A_x_odds A_x_odds_planks A_m A_m_steps A_m_wet A_m_where A_m_home A_m_light A_m_carries A_m_sightPlace A_m_sightLight A_m_pad A_m_act A_m_whose A_m_whom A_m_tens A_m_had A_m_leaves A_m_apart A_m_stop A_m_restOf A_m_group A_m_along A_m_kept A_m_isKept : Nat} (hL : L ≤ 320) (hC : cx_ p s m c G code 4 RL) (hr : meth.sig.returnType = ret) (hlocks : meth.locks = false) (hX : va_X b L xs s s.heap) (hbl : b < s.heap.size) :
    ∀ (n i cells slots : Nat) (x3 : Int32) (c_x_measured c_x_now_crowd_there c_x_now_crowd_foggy c_x_now_sights_count c_x_pad_count c_x_evening_acts c_x_evening_failedAct c_x_evening_reason c_x_evening_costs c_x_evening_walks c_x_evening_crowd_there c_x_evening_crowd_foggy c_x_tour_costs c_x_tour_firstStop c_x_odds_count c_x_odds_tenths c_m_foggy c_m_walkers c_m_sights c_m_padMany c_m_acts c_m_spent c_m_walks c_m_badAct c_m_badWhy c_m_keptAt c_m_isWriting : Int32) (c_x_now_marsh_codes c_x_now_crowd_at c_x_now_crowd_home c_x_now_crowd_light c_x_now_crowd_carries c_x_now_crowd_bearer c_x_now_sights_places c_x_now_sights_lights c_x_pad_signs c_x_evening_crowd_at c_x_evening_crowd_home c_x_evening_crowd_light c_x_evening_crowd_carries c_x_evening_crowd_bearer c_x_ways_planks c_x_ways_least c_x_ways_neighbours c_x_tour_stops c_x_tour_rest c_x_odds_planks c_m_steps c_m_wet c_m_where c_m_home c_m_light c_m_carries c_m_sightPlace c_m_sightLight c_m_pad c_m_act c_m_whose c_m_whom c_m_tens c_m_had c_m_leaves c_m_apart c_m_stop c_m_restOf c_m_group c_m_along c_m_kept c_m_isKept : Nat → Int32) (c_x_images : Nat → Option Nat) (i0 i1 : Option Im_) (t0 t1 : va_W) (H : Heap) (locs : List Loc) (ls : Array Slot), i ≤ L → L < i + 5 * n → cells + 12 * n ≤ 2000 → slots + 204 * n ≤ 100000 → x3 = nI i → RR c_x_measured c_x_now_marsh_codes c_x_now_crowd_there c_x_now_crowd_foggy c_x_now_crowd_at c_x_now_crowd_home c_x_now_crowd_light c_x_now_crowd_carries c_x_now_crowd_bearer c_x_now_sights_count c_x_now_sights_places c_x_now_sights_lights c_x_pad_count c_x_pad_signs c_x_evening_acts c_x_evening_failedAct c_x_evening_reason c_x_evening_costs c_x_evening_walks c_x_evening_crowd_there c_x_evening_crowd_foggy c_x_evening_crowd_at c_x_evening_crowd_home c_x_evening_crowd_light c_x_evening_crowd_carries c_x_evening_crowd_bearer c_x_ways_planks c_x_ways_least c_x_ways_neighbours c_x_tour_costs c_x_tour_firstStop c_x_tour_stops c_x_tour_rest c_x_odds_count c_x_odds_tenths c_x_odds_planks c_m_foggy c_m_walkers c_m_sights c_m_padMany c_m_acts c_m_spent c_m_walks c_m_badAct c_m_badWhy c_m_keptAt c_m_isWriting c_m_steps c_m_wet c_m_where c_m_home c_m_light c_m_carries c_m_sightPlace c_m_sightLight c_m_pad c_m_act c_m_whose c_m_whom c_m_tens c_m_had c_m_leaves c_m_apart c_m_stop c_m_restOf c_m_group c_m_along → KK c_m_kept c_m_isKept i0 i1 → im_ G (c_x_images 0) i0 t0 → im_ G (c_x_images 1) i1 t1 → lv_has ls 4 [(0, .ref b), (1, .ref A_x), (2, .ref A_m), (3, .int x3)] → wd_ G (fun q : Nat => s.heap.size ≤ q) s.heap (wl_law G A_x A_x_now A_x_now_marsh A_x_now_marsh_codes A_x_now_crowd A_x_now_crowd_at A_x_now_crowd_home A_x_now_crowd_light A_x_now_crowd_carries A_x_now_crowd_bearer A_x_now_sights A_x_now_sights_places A_x_now_sights_lights A_x_images A_x_pad A_x_pad_signs A_x_evening A_x_evening_crowd A_x_evening_crowd_at A_x_evening_crowd_home A_x_evening_crowd_light A_x_evening_crowd_carries A_x_evening_crowd_bearer A_x_ways A_x_ways_planks A_x_ways_least A_x_ways_neighbours A_x_tour A_x_tour_stops A_x_tour_rest A_x_odds A_x_odds_planks A_m A_m_steps A_m_wet A_m_where A_m_home A_m_light A_m_carries A_m_sightPlace A_m_sightLight A_m_pad A_m_act A_m_whose A_m_whom A_m_tens A_m_had A_m_leaves A_m_apart A_m_stop A_m_restOf A_m_group A_m_along A_m_kept A_m_isKept c_x_measured c_x_now_marsh_codes c_x_now_crowd_there c_x_now_crowd_foggy c_x_now_crowd_at c_x_now_crowd_home c_x_now_crowd_light c_x_now_crowd_carries c_x_now_crowd_bearer c_x_now_sights_count c_x_now_sights_places c_x_now_sights_lights c_x_images c_x_pad_count c_x_pad_signs c_x_evening_acts c_x_evening_failedAct c_x_evening_reason c_x_evening_costs c_x_evening_walks c_x_evening_crowd_there c_x_evening_crowd_foggy c_x_evening_crowd_at c_x_evening_crowd_home c_x_evening_crowd_light c_x_evening_crowd_carries c_x_evening_crowd_bearer c_x_ways_planks c_x_ways_least c_x_ways_neighbours c_x_tour_costs c_x_tour_firstStop c_x_tour_stops c_x_tour_rest c_x_odds_count c_x_odds_tenths c_x_odds_planks c_m_foggy c_m_walkers c_m_sights c_m_padMany c_m_acts c_m_spent c_m_walks c_m_badAct c_m_badWhy c_m_keptAt c_m_isWriting c_m_steps c_m_wet c_m_where c_m_home c_m_light c_m_carries c_m_sightPlace c_m_sightLight c_m_pad c_m_act c_m_whose c_m_whom c_m_tens c_m_had c_m_leaves c_m_apart c_m_stop c_m_restOf c_m_group c_m_along c_m_kept c_m_isKept (t0 ++ t1)) H locs → W p l e room_1 s m #[Value.ref b] below meth c H locs cells slots (lw_Z below #[Value.ref b] s) (F0 m 18 ls []) := by
  have hx := hC.1
  have hb := hC.2.1
  have hbA : ¬ (fun q : Nat => s.heap.size ≤ q) b := Nat.not_le.mpr hbl
  intro n
  induction n with
  | zero =>
    intro i cells slots x3 c_x_measured c_x_now_crowd_there c_x_now_crowd_foggy c_x_now_sights_count c_x_pad_count c_x_evening_acts c_x_evening_failedAct c_x_evening_reason c_x_evening_costs c_x_evening_walks c_x_evening_crowd_there c_x_evening_crowd_foggy c_x_tour_costs c_x_tour_firstStop c_x_odds_count c_x_odds_tenths c_m_foggy c_m_walkers c_m_sights c_m_padMany c_m_acts c_m_spent c_m_walks c_m_badAct c_m_badWhy c_m_keptAt c_m_isWriting c_x_now_marsh_codes c_x_now_crowd_at c_x_now_crowd_home c_x_now_crowd_light c_x_now_crowd_carries c_x_now_crowd_bearer c_x_now_sights_places c_x_now_sights_lights c_x_pad_signs c_x_evening_crowd_at c_x_evening_crowd_home c_x_evening_crowd_light c_x_evening_crowd_carries c_x_evening_crowd_bearer c_x_ways_planks c_x_ways_least c_x_ways_neighbours c_x_tour_stops c_x_tour_rest c_x_odds_planks c_m_steps c_m_wet c_m_where c_m_home c_m_light c_m_carries c_m_sightPlace c_m_sightLight c_m_pad c_m_act c_m_whose c_m_whom c_m_tens c_m_had c_m_leaves c_m_apart c_m_stop c_m_restOf c_m_group c_m_along c_m_kept c_m_isKept c_x_images i0 i1 t0 t1 H locs ls h1 h2
    exact absurd h2 (by omega)
  | succ n ih =>
    intro i cells slots x3 c_x_measured c_x_now_crowd_there c_x_now_crowd_foggy c_x_now_sights_count c_x_pad_count c_x_evening_acts c_x_evening_failedAct c_x_evening_reason c_x_evening_costs c_x_evening_walks c_x_evening_crowd_there c_x_evening_crowd_foggy c_x_tour_costs c_x_tour_firstStop c_x_odds_count c_x_odds_tenths c_m_foggy c_m_walkers c_m_sights c_m_padMany c_m_acts c_m_spent c_m_walks c_m_badAct c_m_badWhy c_m_keptAt c_m_isWriting c_x_now_marsh_codes c_x_now_crowd_at c_x_now_crowd_home c_x_now_crowd_light c_x_now_crowd_carries c_x_now_crowd_bearer c_x_now_sights_places c_x_now_sights_lights c_x_pad_signs c_x_evening_crowd_at c_x_evening_crowd_home c_x_evening_crowd_light c_x_evening_crowd_carries c_x_evening_crowd_bearer c_x_ways_planks c_x_ways_least c_x_ways_neighbours c_x_tour_stops c_x_tour_rest c_x_odds_planks c_m_steps c_m_wet c_m_where c_m_home c_m_light c_m_carries c_m_sightPlace c_m_sightLight c_m_pad c_m_act c_m_whose c_m_whom c_m_tens c_m_had c_m_leaves c_m_apart c_m_stop c_m_restOf c_m_group c_m_along c_m_kept c_m_isKept c_x_images i0 i1 t0 t1 H locs ls hiL hin hcl hsl ex3 hR hKK hI0 hI1 hl hw
    refine lv_iload_n hx hb dL_law_18 rfl (lv_at hl 3 rfl) ?_
    refine lv_aload_n hx hb dL_law_19 rfl (lv_at hl 0 rfl) ?_
    refine va_slen hx hb hX hbl hbA hw.2.2.1 dL_law_20 ?_
    refine lv_iconst (v := 5) hx hb dL_law_21 (by decide) ?_
    refine lv_isub hx hb dL_law_22 ?_
    refine lv_icmp_gt (tgt := 1027) hx hb dL_law_23 (by decide) (fun hc => ?_) (fun hc => ?_)
    · refine lv_iconst (v := 1) hx hb dL_law_1027 (by decide) ?_
      refine va_forget (fun q hq => hw.2.2.1.2.2 q hq) ?_
      refine W.widen (k := room_1.cells) (n := room_1.slots) (Nat.le_trans (show cells ≤ 500000 by omega) (by decide)) (Nat.le_trans (show slots ≤ 5000000 by omega) (by decide)) ?_
      exact lw_ret hx hb hr hlocks dL_law_1028
    · have h5 : i + 5 ≤ L := by
        rcases Nat.lt_or_ge L (i + 5) with q | q
        · exfalso
          apply hc
          rw [ex3]
          apply Int32.lt_iff_toInt_lt.mpr
          have e1 : (Int32.ofNat L - 5).toInt = (L : Int) - 5 := pk_sub_toInt (a := L) (b := 5) (by omega) (by omega)
          rw [e1, nI_toInt (by omega)]
          omega
        · exact q
      have hin_ : ∀ j : Nat, j < 5 → ∀ y : Int32, y = nI (i + j) → vp_in y L := fun j hj y ey => by rw [ey]; exact vp_in_nI (by omega) (by omega)
      have hi0 : vp_in x3 L := hin_ 0 (by omega) x3 ex3
      have hi1 : vp_in (x3 + 1) L := hin_ 1 (by omega) _ (by rw [ex3]; exact nI_add i 1)
      have hi2 : vp_in (x3 + 2) L := hin_ 2 (by omega) _ (by rw [ex3]; exact nI_add i 2)
      have hi3 : vp_in (x3 + 3) L := hin_ 3 (by omega) _ (by rw [ex3]; exact nI_add i 3)
      have hi4 : vp_in (x3 + 4) L := hin_ 4 (by omega) _ (by rw [ex3]; exact nI_add i 4)
      have hcs : cells ≤ room_1.cells ∧ slots ≤ room_1.slots := ⟨Nat.le_trans (show cells ≤ 500000 by omega) (by decide), Nat.le_trans (show slots ≤ 5000000 by omega) (by decide)⟩
      have hcs12 : cells + 12 ≤ room_1.cells ∧ slots + 204 ≤ room_1.slots := ⟨Nat.le_trans (show cells + 12 ≤ 500000 by omega) (by decide), Nat.le_trans (show slots + 204 ≤ 5000000 by omega) (by decide)⟩
      have hback : nxi_ p l e s m below meth c cells slots (lw_Z below #[Value.ref b] s) G b x3 A_x A_x_now A_x_now_marsh A_x_now_marsh_codes A_x_now_crowd A_x_now_crowd_at A_x_now_crowd_home A_x_now_crowd_light A_x_now_crowd_carries A_x_now_crowd_bearer A_x_now_sights A_x_now_sights_places A_x_now_sights_lights A_x_images A_x_pad A_x_pad_signs A_x_evening A_x_evening_crowd A_x_evening_crowd_at A_x_evening_crowd_home A_x_evening_crowd_light A_x_evening_crowd_carries A_x_evening_crowd_bearer A_x_ways A_x_ways_planks A_x_ways_least A_x_ways_neighbours A_x_tour A_x_tour_stops A_x_tour_rest A_x_odds A_x_odds_planks A_m A_m_steps A_m_wet A_m_where A_m_home A_m_light A_m_carries A_m_sightPlace A_m_sightLight A_m_pad A_m_act A_m_whose A_m_whom A_m_tens A_m_had A_m_leaves A_m_apart A_m_stop A_m_restOf A_m_group A_m_along A_m_kept A_m_isKept := by
        intro c_x_measured c_x_now_crowd_there c_x_now_crowd_foggy c_x_now_sights_count c_x_pad_count c_x_evening_acts c_x_evening_failedAct c_x_evening_reason c_x_evening_costs c_x_evening_walks c_x_evening_crowd_there c_x_evening_crowd_foggy c_x_tour_costs c_x_tour_firstStop c_x_odds_count c_x_odds_tenths c_m_foggy c_m_walkers c_m_sights c_m_padMany c_m_acts c_m_spent c_m_walks c_m_badAct c_m_badWhy c_m_keptAt c_m_isWriting c_x_now_marsh_codes c_x_now_crowd_at c_x_now_crowd_home c_x_now_crowd_light c_x_now_crowd_carries c_x_now_crowd_bearer c_x_now_sights_places c_x_now_sights_lights c_x_pad_signs c_x_evening_crowd_at c_x_evening_crowd_home c_x_evening_crowd_light c_x_evening_crowd_carries c_x_evening_crowd_bearer c_x_ways_planks c_x_ways_least c_x_ways_neighbours c_x_tour_stops c_x_tour_rest c_x_odds_planks c_m_steps c_m_wet c_m_where c_m_home c_m_light c_m_carries c_m_sightPlace c_m_sightLight c_m_pad c_m_act c_m_whose c_m_whom c_m_tens c_m_had c_m_leaves c_m_apart c_m_stop c_m_restOf c_m_group c_m_along c_m_kept c_m_isKept c_x_images i0 i1 t0 t1 H locs ls hR hKK hI0 hI1 hl hw
        refine lv_iinc (v := x3 + 5) (lv' := [(3, .int (x3 + 5)), (0, .ref b), (1, .ref A_x), (2, .ref A_m)]) hx hb dL_law_1021 hl (k := 3) rfl rfl (by decide) rfl (fun ls hl => ?_)
        refine lv_goto (tgt := 18) hx hb dL_law_1024 (by decide) ?_
        exact ih (i + 5) (cells + 12) (slots + 204) (x3 + 5) c_x_measured c_x_now_crowd_there c_x_now_crowd_foggy c_x_now_sights_count c_x_pad_count c_x_evening_acts c_x_evening_failedAct c_x_evening_reason c_x_evening_costs c_x_evening_walks c_x_evening_crowd_there c_x_evening_crowd_foggy c_x_tour_costs c_x_tour_firstStop c_x_odds_count c_x_odds_tenths c_m_foggy c_m_walkers c_m_sights c_m_padMany c_m_acts c_m_spent c_m_walks c_m_badAct c_m_badWhy c_m_keptAt c_m_isWriting c_x_now_marsh_codes c_x_now_crowd_at c_x_now_crowd_home c_x_now_crowd_light c_x_now_crowd_carries c_x_now_crowd_bearer c_x_now_sights_places c_x_now_sights_lights c_x_pad_signs c_x_evening_crowd_at c_x_evening_crowd_home c_x_evening_crowd_light c_x_evening_crowd_carries c_x_evening_crowd_bearer c_x_ways_planks c_x_ways_least c_x_ways_neighbours c_x_tour_stops c_x_tour_rest c_x_odds_planks c_m_steps c_m_wet c_m_where c_m_home c_m_light c_m_carries c_m_sightPlace c_m_sightLight c_m_pad c_m_act c_m_whose c_m_whom c_m_tens c_m_had c_m_leaves c_m_apart c_m_stop c_m_restOf c_m_group c_m_along c_m_kept c_m_isKept c_x_images i0 i1 t0 t1 H locs ls h5 (by omega) (by omega) (by omega) (by rw [ex3]; exact nI_add i 5) hR hKK hI0 hI1 (lv_sub hl [1, 2, 3, 0] rfl) hw
      have hnx : nx_ p l e s m below meth c cells slots (lw_Z below #[Value.ref b] s) G b x3 A_x A_x_now A_x_now_marsh A_x_now_marsh_codes A_x_now_crowd A_x_now_crowd_at A_x_now_crowd_home A_x_now_crowd_light A_x_now_crowd_carries A_x_now_crowd_bearer A_x_now_sights A_x_now_sights_places A_x_now_sights_lights A_x_images A_x_pad A_x_pad_signs A_x_evening A_x_evening_crowd A_x_evening_crowd_at A_x_evening_crowd_home A_x_evening_crowd_light A_x_evening_crowd_carries A_x_evening_crowd_bearer A_x_ways A_x_ways_planks A_x_ways_least A_x_ways_neighbours A_x_tour A_x_tour_stops A_x_tour_rest A_x_odds A_x_odds_planks A_m A_m_steps A_m_wet A_m_where A_m_home A_m_light A_m_carries A_m_sightPlace A_m_sightLight A_m_pad A_m_act A_m_whose A_m_whom A_m_tens A_m_had A_m_leaves A_m_apart A_m_stop A_m_restOf A_m_group A_m_along A_m_kept A_m_isKept c_x_images c_m_kept c_m_isKept (t0 ++ t1) := by
        intro c_x_measured c_x_now_crowd_there c_x_now_crowd_foggy c_x_now_sights_count c_x_pad_count c_x_evening_acts c_x_evening_failedAct c_x_evening_reason c_x_evening_costs c_x_evening_walks c_x_evening_crowd_there c_x_evening_crowd_foggy c_x_tour_costs c_x_tour_firstStop c_x_odds_count c_x_odds_tenths c_m_foggy c_m_walkers c_m_sights c_m_padMany c_m_acts c_m_spent c_m_walks c_m_badAct c_m_badWhy c_m_keptAt c_m_isWriting c_x_now_marsh_codes c_x_now_crowd_at c_x_now_crowd_home c_x_now_crowd_light c_x_now_crowd_carries c_x_now_crowd_bearer c_x_now_sights_places c_x_now_sights_lights c_x_pad_signs c_x_evening_crowd_at c_x_evening_crowd_home c_x_evening_crowd_light c_x_evening_crowd_carries c_x_evening_crowd_bearer c_x_ways_planks c_x_ways_least c_x_ways_neighbours c_x_tour_stops c_x_tour_rest c_x_odds_planks c_m_steps c_m_wet c_m_where c_m_home c_m_light c_m_carries c_m_sightPlace c_m_sightLight c_m_pad c_m_act c_m_whose c_m_whom c_m_tens c_m_had c_m_leaves c_m_apart c_m_stop c_m_restOf c_m_group c_m_along H locs ls hR hl hw
        refine W.widen (k := cells + 12) (n := slots + 204) (by omega) (by omega) ?_
        exact hback c_x_measured c_x_now_crowd_there c_x_now_crowd_foggy c_x_now_sights_count c_x_pad_count c_x_evening_acts c_x_evening_failedAct c_x_evening_reason c_x_evening_costs c_x_evening_walks c_x_evening_crowd_there c_x_evening_crowd_foggy c_x_tour_costs c_x_tour_firstStop c_x_odds_count c_x_odds_tenths c_m_foggy c_m_walkers c_m_sights c_m_padMany c_m_acts c_m_spent c_m_walks c_m_badAct c_m_badWhy c_m_keptAt c_m_isWriting c_x_now_marsh_codes c_x_now_crowd_at c_x_now_crowd_home c_x_now_crowd_light c_x_now_crowd_carries c_x_now_crowd_bearer c_x_now_sights_places c_x_now_sights_lights c_x_pad_signs c_x_evening_crowd_at c_x_evening_crowd_home c_x_evening_crowd_light c_x_evening_crowd_carries c_x_evening_crowd_bearer c_x_ways_planks c_x_ways_least c_x_ways_neighbours c_x_tour_stops c_x_tour_rest c_x_odds_planks c_m_steps c_m_wet c_m_where c_m_home c_m_light c_m_carries c_m_sightPlace c_m_sightLight c_m_pad c_m_act c_m_whose c_m_whom c_m_tens c_m_had c_m_leaves c_m_apart c_m_stop c_m_restOf c_m_group c_m_along c_m_kept c_m_isKept c_x_images i0 i1 t0 t1 H locs ls hR hKK hI0 hI1 hl hw
      refine lv_aload_n hx hb dL_law_26 rfl (lv_at hl 0 rfl) ?_
      refine lv_iload_n hx hb dL_law_27 rfl (lv_at hl 3 rfl) ?_
      refine va_sld hx hb hX hbl hbA hw.2.2.1 hi0 dL_law_28 ?_
      refine lv_bipush (v := 31) hx hb dL_law_29 (by decide) ?_
      refine lv_iand hx hb dL_law_31 ?_
      obtain ⟨j, hj, ej⟩ := pk_andE (xs (Int32.toNatClampNeg x3)) (m := 31) 5 rfl
      rw [ej]
      match j, hj with
      | 0, _ =>
        refine lv_tableIn (tgt := 168) hx hb dL_law_32 (by decide) (by decide) (off := 136) rfl (by decide) ?_
        exact lc_plank hC hX hbl hcs hi1 hi2 hi3 hi4 hR hnx hl hw
      | 1, _ =>
        refine lv_tableIn (tgt := 237) hx hb dL_law_32 (by decide) (by decide) (off := 205) rfl (by decide) ?_
        exact lc_walker hC hX hbl hcs hi1 hi2 hi3 hi4 hR hnx hl hw
      | 2, _ =>
        refine lv_tableIn (tgt := 290) hx hb dL_law_32 (by decide) (by decide) (off := 258) rfl (by decide) ?_
        exact lc_leave hC hX hbl hcs hi1 hi2 hi3 hi4 hR hnx hl hw
      | 3, _ =>
        refine lv_tableIn (tgt := 313) hx hb dL_law_32 (by decide) (by decide) (off := 281) rfl (by decide) ?_
        exact lc_fog hC hX hbl hcs hi1 hi2 hi3 hi4 hR hnx hl hw
      | 4, _ =>
        refine lv_tableIn (tgt := 352) hx hb dL_law_32 (by decide) (by decide) (off := 320) rfl (by decide) ?_
        exact lc_say hC hX hbl hcs hi1 hi2 hi3 hi4 hR hnx hl hw
      | 5, _ =>
        refine lv_tableIn (tgt := 375) hx hb dL_law_32 (by decide) (by decide) (off := 343) rfl (by decide) ?_
        exact lc_wipe hC hX hbl hcs hi1 hi2 hi3 hi4 hR hnx hl hw
      | 6, _ =>
        refine lv_tableIn (tgt := 388) hx hb dL_law_32 (by decide) (by decide) (off := 356) rfl (by decide) ?_
        exact lc_fault hC hX hbl hcs hi1 hi2 hi3 hi4 hR hnx hl hw
      | 7, _ =>
        refine lv_tableIn (tgt := 401) hx hb dL_law_32 (by decide) (by decide) (off := 369) rfl (by decide) ?_
        exact lc_judge hC hX hbl hcs hi1 hi2 hi3 hi4 hR hnx hl hw
      | 8, _ =>
        refine lv_tableIn (tgt := 424) hx hb dL_law_32 (by decide) (by decide) (off := 392) rfl (by decide) ?_
        exact lc_behind hC hX hbl hcs hi1 hi2 hi3 hi4 hR hnx hl hw
      | 9, _ =>
        refine lv_tableIn (tgt := 457) hx hb dL_law_32 (by decide) (by decide) (off := 425) rfl (by decide) ?_
        exact lc_who hC hX hbl hcs hi1 hi2 hi3 hi4 hR hnx hl hw
      | 10, _ =>
        refine lv_tableIn (tgt := 480) hx hb dL_law_32 (by decide) (by decide) (off := 448) rfl (by decide) ?_
        exact lc_done hC hX hbl hcs hi1 hi2 hi3 hi4 hR hnx hl hw
      | 11, _ =>
        refine lv_tableIn (tgt := 493) hx hb dL_law_32 (by decide) (by decide) (off := 461) rfl (by decide) ?_
        exact lc_way hC hX hbl hcs hi1 hi2 hi3 hi4 hR hnx hl hw
      | 12, _ =>
        refine lv_tableIn (tgt := 536) hx hb dL_law_32 (by decide) (by decide) (off := 504) rfl (by decide) ?_
        exact lc_far hC hX hbl hcs hi1 hi2 hi3 hi4 hR hnx hl hw
      | 13, _ =>
        refine lv_tableIn (tgt := 559) hx hb dL_law_32 (by decide) (by decide) (off := 527) rfl (by decide) ?_
        exact lc_left hC hX hbl hcs hi1 hi2 hi3 hi4 hR hnx hl hw
      | 14, _ =>
        refine lv_tableIn (tgt := 582) hx hb dL_law_32 (by decide) (by decide) (off := 550) rfl (by decide) ?_
        exact lc_out hC hX hbl hcs hi1 hi2 hi3 hi4 hR hnx hl hw
      | 15, _ =>
        refine lv_tableIn (tgt := 605) hx hb dL_law_32 (by decide) (by decide) (off := 573) rfl (by decide) ?_
        exact lc_round hC hX hbl hcs hi1 hi2 hi3 hi4 hR hnx hl hw
      | 16, _ =>
        refine lv_tableIn (tgt := 648) hx hb dL_law_32 (by decide) (by decide) (off := 616) rfl (by decide) ?_
        exact lc_more hC hX hbl hcs hi1 hi2 hi3 hi4 hR hnx hl hw
      | 17, _ =>
        refine lv_tableIn (tgt := 671) hx hb dL_law_32 (by decide) (by decide) (off := 639) rfl (by decide) ?_
        exact lc_decides hC hX hbl hcs hi1 hi2 hi3 hi4 hR hnx hl hw
      | 18, _ =>
        refine lv_tableIn (tgt := 694) hx hb dL_law_32 (by decide) (by decide) (off := 662) rfl (by decide) ?_
        exact lc_wax hC hX hbl hcs hi1 hi2 hi3 hi4 hR hnx hl hw
      | 19, _ =>
        refine lv_tableIn (tgt := 717) hx hb dL_law_32 (by decide) (by decide) (off := 685) rfl (by decide) ?_
        exact lc_post hC hX hbl hcs hi1 hi2 hi3 hi4 hR hnx hl hw
      | 20, _ =>
        refine lv_tableIn (tgt := 750) hx hb dL_law_32 (by decide) (by decide) (off := 718) rfl (by decide) ?_
        exact lc_by hC hX hbl hcs hi1 hi2 hi3 hi4 hR hnx hl hw
      | 21, _ =>
        refine lv_tableIn (tgt := 773) hx hb dL_law_32 (by decide) (by decide) (off := 741) rfl (by decide) ?_
        exact lc_seen hC hX hbl hcs hi1 hi2 hi3 hi4 hR hnx hl hw
      | 22, _ =>
        refine lv_tableIn (tgt := 806) hx hb dL_law_32 (by decide) (by decide) (off := 774) rfl (by decide) ?_
        exact lc_forget hC hX hbl hcs hi1 hi2 hi3 hi4 hR hnx hl hw
      | 23, _ =>
        refine lv_tableIn (tgt := 819) hx hb dL_law_32 (by decide) (by decide) (off := 787) rfl (by decide) ?_
        exact lc_whose hC hX hbl hcs hi1 hi2 hi3 hi4 hR hnx hl hw
      | 24, _ =>
        refine lv_tableIn (tgt := 832) hx hb dL_law_32 (by decide) (by decide) (off := 800) rfl (by decide) ?_
        exact lc_ask hC hX hbl hcs hi1 hi2 hi3 hi4 hR hnx hl hw
      | 25, _ =>
        refine lv_tableIn (tgt := 855) hx hb dL_law_32 (by decide) (by decide) (off := 823) rfl (by decide) ?_
        exact lc_chance hC hX hbl hcs hi1 hi2 hi3 hi4 hR hnx hl hw
      | 26, _ =>
        refine lv_tableIn (tgt := 909) hx hb dL_law_32 (by decide) (by decide) (off := 877) rfl (by decide) ?_
        exact lc_year hC hX hbl hcs hi1 hi2 hi3 hi4 hR hnx hl hw
      | 27, _ =>
        refine lv_tableIn (tgt := 952) hx hb dL_law_32 (by decide) (by decide) (off := 920) rfl (by decide) ?_
        exact lc_image hC hX hbl hcs12 hi1 hi2 hi3 hi4 hR hKK hI0 hI1 hback hl hw
      | 28, _ =>
        refine lv_tableIn (tgt := 975) hx hb dL_law_32 (by decide) (by decide) (off := 943) rfl (by decide) ?_
        exact lc_restore hC hX hbl hcs12 hi1 hi2 hi3 hi4 hR hKK hI0 hI1 hback hl hw
      | 29, _ =>
        refine lv_tableIn (tgt := 998) hx hb dL_law_32 (by decide) (by decide) (off := 966) rfl (by decide) ?_
        exact lc_told hC hX hbl hcs hi1 hi2 hi3 hi4 hR hnx hl hw
      | 30, _ =>
        refine lv_tableOut (tgt := 1021) hx hb dL_law_32 (Or.inr (by decide)) (by decide) ?_
        refine W.widen (k := cells + 12) (n := slots + 204) (by omega) (by omega) ?_
        exact hback c_x_measured c_x_now_crowd_there c_x_now_crowd_foggy c_x_now_sights_count c_x_pad_count c_x_evening_acts c_x_evening_failedAct c_x_evening_reason c_x_evening_costs c_x_evening_walks c_x_evening_crowd_there c_x_evening_crowd_foggy c_x_tour_costs c_x_tour_firstStop c_x_odds_count c_x_odds_tenths c_m_foggy c_m_walkers c_m_sights c_m_padMany c_m_acts c_m_spent c_m_walks c_m_badAct c_m_badWhy c_m_keptAt c_m_isWriting c_x_now_marsh_codes c_x_now_crowd_at c_x_now_crowd_home c_x_now_crowd_light c_x_now_crowd_carries c_x_now_crowd_bearer c_x_now_sights_places c_x_now_sights_lights c_x_pad_signs c_x_evening_crowd_at c_x_evening_crowd_home c_x_evening_crowd_light c_x_evening_crowd_carries c_x_evening_crowd_bearer c_x_ways_planks c_x_ways_least c_x_ways_neighbours c_x_tour_stops c_x_tour_rest c_x_odds_planks c_m_steps c_m_wet c_m_where c_m_home c_m_light c_m_carries c_m_sightPlace c_m_sightLight c_m_pad c_m_act c_m_whose c_m_whom c_m_tens c_m_had c_m_leaves c_m_apart c_m_stop c_m_restOf c_m_group c_m_along c_m_kept c_m_isKept c_x_images i0 i1 t0 t1 H locs ls hR hKK hI0 hI1 hl hw
      | 31, _ =>
        refine lv_tableOut (tgt := 1021) hx hb dL_law_32 (Or.inr (by decide)) (by decide) ?_
        refine W.widen (k := cells + 12) (n := slots + 204) (by omega) (by omega) ?_
        exact hback c_x_measured c_x_now_crowd_there c_x_now_crowd_foggy c_x_now_sights_count c_x_pad_count c_x_evening_acts c_x_evening_failedAct c_x_evening_reason c_x_evening_costs c_x_evening_walks c_x_evening_crowd_there c_x_evening_crowd_foggy c_x_tour_costs c_x_tour_firstStop c_x_odds_count c_x_odds_tenths c_m_foggy c_m_walkers c_m_sights c_m_padMany c_m_acts c_m_spent c_m_walks c_m_badAct c_m_badWhy c_m_keptAt c_m_isWriting c_x_now_marsh_codes c_x_now_crowd_at c_x_now_crowd_home c_x_now_crowd_light c_x_now_crowd_carries c_x_now_crowd_bearer c_x_now_sights_places c_x_now_sights_lights c_x_pad_signs c_x_evening_crowd_at c_x_evening_crowd_home c_x_evening_crowd_light c_x_evening_crowd_carries c_x_evening_crowd_bearer c_x_ways_planks c_x_ways_least c_x_ways_neighbours c_x_tour_stops c_x_tour_rest c_x_odds_planks c_m_steps c_m_wet c_m_where c_m_home c_m_light c_m_carries c_m_sightPlace c_m_sightLight c_m_pad c_m_act c_m_whose c_m_whom c_m_tens c_m_had c_m_leaves c_m_apart c_m_stop c_m_restOf c_m_group c_m_along c_m_kept c_m_isKept c_x_images i0 i1 t0 t1 H locs ls hR hKK hI0 hI1 hl hw
      | k + 32, hj => exact absurd hj (by omega)
