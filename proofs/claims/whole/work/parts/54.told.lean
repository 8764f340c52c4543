theorem ito_ {α : Type} (x : α) (k : Option α) : b1_ (some x) (fun r => some r) = some x := rfl
theorem rgl_ (x lo hi : Int32) (L H : Int64) (l n : Nat) (hL : lo.toInt64 = L) (hH : hi.toInt64 = H) (hl : lo.toInt = l) (hn : hi.toInt = n) : (fn_X9_isWithin x lo hi = some 0 ∧ fn_X10_in x.toInt64 L H = some 0 ∧ ∀ m, l ≤ m → m ≤ n → x ≠ nI m) ∨ ∃ m, l ≤ m ∧ m ≤ n ∧ x = nI m ∧ fn_X9_isWithin x lo hi = some 1 ∧ fn_X10_in x.toInt64 L H = some 1 := by
  subst hL; subst hH
  have hb := Int32.toInt_lt hi
  have h0 : (0 : Int32).toInt = 0 := rfl
  rcases rg_ x lo hi with ⟨q1, q2, q3⟩ | ⟨q1, q2, q3, q4⟩
  · refine Or.inl ⟨q1, q2, fun m hm1 hm e => ?_⟩
    subst e
    have hm2 : (nI m).toInt = (m : Int) := nI_toInt (by omega)
    rcases q3 with q3 | q3
    · have h5 := (lt_i _ _).mp q3
      rw [hm2] at h5
      omega
    · have h5 := (lt_i _ _).mp q3
      rw [hm2] at h5
      omega
  · have a1 : ¬ x.toInt < lo.toInt := fun hq => q1 ((lt_i _ _).mpr hq)
    obtain ⟨m, hm, e⟩ := nI_of2 hn (fun hq => a1 (by have := (lt_i _ _).mp hq; omega)) (Int32.not_lt.mp q2)
    refine Or.inr ⟨m, ?_, hm, e, q3, q4⟩
    rw [e, nI_toInt (by omega)] at a1
    omega
theorem ne_nI {a b : Nat} (ha : a < 2 ^ 31) (hb : b < 2 ^ 31) (h : a ≠ b) : ¬ nI a = nI b := fun e => h ((nI_eq ha hb).mp e)
theorem pp_told {c_x_measured c_x_now_crowd_there c_x_now_crowd_foggy c_x_now_sights_count c_x_pad_count c_x_evening_acts c_x_evening_failedAct c_x_evening_reason c_x_evening_costs c_x_evening_walks c_x_evening_crowd_there c_x_evening_crowd_foggy c_x_tour_costs c_x_tour_firstStop c_x_odds_count c_x_odds_tenths c_m_foggy c_m_walkers c_m_sights c_m_padMany c_m_acts c_m_spent c_m_walks c_m_badAct c_m_badWhy c_m_keptAt c_m_isWriting : Int32} {c_x_now_marsh_codes c_x_now_crowd_at c_x_now_crowd_home c_x_now_crowd_light c_x_now_crowd_carries c_x_now_crowd_bearer c_x_now_sights_places c_x_now_sights_lights c_x_pad_signs c_x_evening_crowd_at c_x_evening_crowd_home c_x_evening_crowd_light c_x_evening_crowd_carries c_x_evening_crowd_bearer c_x_ways_planks c_x_ways_least c_x_ways_neighbours c_x_tour_stops c_x_tour_rest c_x_odds_planks c_m_steps c_m_wet c_m_where c_m_home c_m_light c_m_carries c_m_sightPlace c_m_sightLight c_m_pad c_m_act c_m_whose c_m_whom c_m_tens c_m_had c_m_leaves c_m_apart c_m_stop c_m_restOf c_m_group c_m_along : Nat → Int32} (hR : RR c_x_measured c_x_now_marsh_codes c_x_now_crowd_there c_x_now_crowd_foggy c_x_now_crowd_at c_x_now_crowd_home c_x_now_crowd_light c_x_now_crowd_carries c_x_now_crowd_bearer c_x_now_sights_count c_x_now_sights_places c_x_now_sights_lights c_x_pad_count c_x_pad_signs c_x_evening_acts c_x_evening_failedAct c_x_evening_reason c_x_evening_costs c_x_evening_walks c_x_evening_crowd_there c_x_evening_crowd_foggy c_x_evening_crowd_at c_x_evening_crowd_home c_x_evening_crowd_light c_x_evening_crowd_carries c_x_evening_crowd_bearer c_x_ways_planks c_x_ways_least c_x_ways_neighbours c_x_tour_costs c_x_tour_firstStop c_x_tour_stops c_x_tour_rest c_x_odds_count c_x_odds_tenths c_x_odds_planks c_m_foggy c_m_walkers c_m_sights c_m_padMany c_m_acts c_m_spent c_m_walks c_m_badAct c_m_badWhy c_m_keptAt c_m_isWriting c_m_steps c_m_wet c_m_where c_m_home c_m_light c_m_carries c_m_sightPlace c_m_sightLight c_m_pad c_m_act c_m_whose c_m_whom c_m_tens c_m_had c_m_leaves c_m_apart c_m_stop c_m_restOf c_m_group c_m_along) (x1 : Int32)  : ∃ (r : Int32), fn_X9_told c_x_now_marsh_codes c_x_now_crowd_there c_x_now_crowd_foggy c_x_now_crowd_at c_x_now_crowd_home c_x_now_crowd_light c_x_now_crowd_carries c_x_now_sights_count c_x_pad_count x1 = some r ∧ fn_X10_told c_m_foggy c_m_walkers c_m_sights c_m_padMany c_m_steps c_m_wet c_m_where c_m_home c_m_light c_m_carries x1 = some r ∧ RR c_x_measured c_x_now_marsh_codes c_x_now_crowd_there c_x_now_crowd_foggy c_x_now_crowd_at c_x_now_crowd_home c_x_now_crowd_light c_x_now_crowd_carries c_x_now_crowd_bearer c_x_now_sights_count c_x_now_sights_places c_x_now_sights_lights c_x_pad_count c_x_pad_signs c_x_evening_acts c_x_evening_failedAct c_x_evening_reason c_x_evening_costs c_x_evening_walks c_x_evening_crowd_there c_x_evening_crowd_foggy c_x_evening_crowd_at c_x_evening_crowd_home c_x_evening_crowd_light c_x_evening_crowd_carries c_x_evening_crowd_bearer c_x_ways_planks c_x_ways_least c_x_ways_neighbours c_x_tour_costs c_x_tour_firstStop c_x_tour_stops c_x_tour_rest c_x_odds_count c_x_odds_tenths c_x_odds_planks c_m_foggy c_m_walkers c_m_sights c_m_padMany c_m_acts c_m_spent c_m_walks c_m_badAct c_m_badWhy c_m_keptAt c_m_isWriting c_m_steps c_m_wet c_m_where c_m_home c_m_light c_m_carries c_m_sightPlace c_m_sightLight c_m_pad c_m_act c_m_whose c_m_whom c_m_tens c_m_had c_m_leaves c_m_apart c_m_stop c_m_restOf c_m_group c_m_along := by
  obtain ⟨s, w, T, F, a, h, li, cr, br, sc, sp, sl, pc, g, h1, h2, ⟨hT, hT1, hT2⟩, ⟨hF, hF1, hF2⟩, h5, h6, h7, ⟨hsc, hs1, hs2⟩, h9, ⟨hpc, hp1, hp2⟩, h11, h12⟩ := id hR
  suffices hq : ∃ r : Int32, fn_X9_told c_x_now_marsh_codes c_x_now_crowd_there c_x_now_crowd_foggy c_x_now_crowd_at c_x_now_crowd_home c_x_now_crowd_light c_x_now_crowd_carries c_x_now_sights_count c_x_pad_count x1 = some r ∧ fn_X10_told c_m_foggy c_m_walkers c_m_sights c_m_padMany c_m_steps c_m_wet c_m_where c_m_home c_m_light c_m_carries x1 = some r by
    obtain ⟨r, e1, e2⟩ := hq
    exact ⟨r, e1, e2, hR⟩
  have hk : ∀ r : Int32, fn_X9_told c_x_now_marsh_codes c_x_now_crowd_there c_x_now_crowd_foggy c_x_now_crowd_at c_x_now_crowd_home c_x_now_crowd_light c_x_now_crowd_carries c_x_now_sights_count c_x_pad_count x1 = some r → fn_X10_told c_m_foggy c_m_walkers c_m_sights c_m_padMany c_m_steps c_m_wet c_m_where c_m_home c_m_light c_m_carries x1 = some r → ∃ r : Int32, fn_X9_told c_x_now_marsh_codes c_x_now_crowd_there c_x_now_crowd_foggy c_x_now_crowd_at c_x_now_crowd_home c_x_now_crowd_light c_x_now_crowd_carries c_x_now_sights_count c_x_pad_count x1 = some r ∧ fn_X10_told c_m_foggy c_m_walkers c_m_sights c_m_padMany c_m_steps c_m_wet c_m_where c_m_home c_m_light c_m_carries x1 = some r := fun r e1 e2 => ⟨r, e1, e2⟩
  rcases rgl_ x1 100 243 100 243 100 243 rfl rfl rfl rfl with ⟨q1, q2, q3⟩ | ⟨m, hm1, hm2, e, q1, q2⟩
  · rcases rgl_ x1 10 69 10 69 10 69 rfl rfl rfl rfl with ⟨q4, q5, q6⟩ | ⟨m, hm1, hm2, e, q4, q5⟩
    · rcases rg0_ x1 3 3 3 rfl rfl with ⟨q7, q8, q9⟩ | ⟨m, hm, e, q7, q8⟩
      · refine hk (-2) ?_ ?_
        · unfold fn_X9_told
          rw [q7, b1_so, if_pos rfl, q4, b1_so, if_pos rfl, q1]; rfl
        · unfold fn_X10_told
          rw [q2, b1_so, if_pos rfl, q5, b1_so, if_pos rfl, if_neg (show ¬ x1 = 0 from q9 0 (by omega)), if_neg (show ¬ x1 = 1 from q9 1 (by omega)), if_neg (show ¬ x1 = 2 from q9 2 (by omega)), if_neg (show ¬ x1 = 3 from q9 3 (by omega))]
      · refine hk (if m = 0 then nI pc else if m = 1 then nI T else if m = 2 then nI F else nI sc) ?_ ?_
        · unfold fn_X9_told fn_X9_tellCount
          rw [q7, b1_so, if_neg (by decide), hp1, hT1, hF1, hs1]
          rcases (show m = 0 ∨ m = 1 ∨ m = 2 ∨ m = 3 by omega) with e1 | e1 | e1 | e1
          · subst e1; subst e; rfl
          · subst e1; subst e; rfl
          · subst e1; subst e
            rcases (show F = 0 ∨ F = 1 by omega) with e2 | e2
            · subst e2; rfl
            · subst e2; rfl
          · subst e1; subst e; rfl
        · unfold fn_X10_told
          rw [q2, b1_so, if_pos rfl, q5, b1_so, if_pos rfl, hp2, hT2, hF2, hs2]
          rcases (show m = 0 ∨ m = 1 ∨ m = 2 ∨ m = 3 by omega) with e1 | e1 | e1 | e1
          · subst e1; subst e; rfl
          · subst e1; subst e; rfl
          · subst e1; subst e; rfl
          · subst e1; subst e; rfl
    · have q7 : fn_X9_isWithin x1 0 3 = some 0 := by
        rcases rg0_ x1 3 3 3 rfl rfl with ⟨q7, -, -⟩ | ⟨m2, hm, e2, -, -⟩
        · exact q7
        · rw [e] at e2
          have := (nI_eq (a := m) (b := m2) (by omega) (by omega)).mp e2
          omega
      have e9 : ∀ r : Int32, fn_X9_tellWalker c_x_now_crowd_there c_x_now_crowd_at c_x_now_crowd_home c_x_now_crowd_light c_x_now_crowd_carries ((x1 / 10) - 1) (x1 - x1 / 10 * 10) = some r → fn_X9_told c_x_now_marsh_codes c_x_now_crowd_there c_x_now_crowd_foggy c_x_now_crowd_at c_x_now_crowd_home c_x_now_crowd_light c_x_now_crowd_carries c_x_now_sights_count c_x_pad_count x1 = some r := fun r hr => by
        unfold fn_X9_told
        rw [q7, b1_so, if_pos rfl, q4, b1_so, if_neg (by decide), hr]; rfl
      have e10 : ∀ r : Int32, fn_X10_toldOf c_m_walkers c_m_where c_m_home c_m_light c_m_carries ((x1 / 10) - 1) (x1 - x1 / 10 * 10) = some r → fn_X10_told c_m_foggy c_m_walkers c_m_sights c_m_padMany c_m_steps c_m_wet c_m_where c_m_home c_m_light c_m_carries x1 = some r := fun r hr => by
        unfold fn_X10_told
        rw [q2, b1_so, if_pos rfl, q5, b1_so, if_neg (by decide), hr]; rfl
      generalize (x1 / 10) - 1 = X at e9 e10
      generalize x1 - x1 / 10 * 10 = Y at e9 e10
      rcases hs_ hT X with ⟨r1, r2, -⟩ | ⟨j, hj, ej, hb, r1, r2⟩
      · refine hk (-2) (e9 _ ?_) (e10 _ ?_)
        · unfold fn_X9_tellWalker; rw [hT1, r1]; rfl
        · unfold fn_X10_toldOf; rw [hT2, r2]; rfl
      · obtain ⟨-, -, -, w1, w2, w3, w4, w5, w6⟩ := h5 j hj
        obtain ⟨-, -, c1, -, c2⟩ := h6 j hj
        rcases rg0_ Y 3 3 3 rfl rfl with ⟨q8, -, q9⟩ | ⟨n, hn, en, q8, -⟩
        · refine hk (-2) (e9 _ ?_) (e10 _ ?_)
          · unfold fn_X9_tellWalker; rw [hT1, r1, b1_so, if_neg (by decide), q8]; rfl
          · unfold fn_X10_toldOf
            rw [hT2, r2, b1_so, if_neg (by decide), if_neg (show ¬ Y = 0 from q9 0 (by omega)), if_neg (show ¬ Y = 1 from q9 1 (by omega)), if_neg (show ¬ Y = 2 from q9 2 (by omega)), if_neg (show ¬ Y = 3 from q9 3 (by omega))]
        · refine hk (if n = 0 then nI (a j) else if n = 1 then nI (h j) else if n = 2 then nI (li j) else enc_ (cr j)) (e9 _ ?_) (e10 _ ?_)
          · unfold fn_X9_tellWalker
            rw [hT1, r1, b1_so, if_neg (by decide), q8, b1_so, if_neg (by decide), ej, ckn_ hj (by omega), ckn_ hj (by omega), ckn_ hj (by omega), ckn_ hj (by omega), nI_clamp (by omega), w1, w2, w3, c1, en]
            rcases (show n = 0 ∨ n = 1 ∨ n = 2 ∨ n = 3 by omega) with e1 | e1 | e1 | e1 <;> subst e1 <;> rfl
          · unfold fn_X10_toldOf
            rw [hT2, r2, b1_so, if_neg (by decide), ej, ckn_ hj (by omega), ckn_ hj (by omega), ckn_ hj (by omega), ckn_ hj (by omega), nI_clamp (by omega), w4, w5, w6, c2, en]
            rcases (show n = 0 ∨ n = 1 ∨ n = 2 ∨ n = 3 by omega) with e1 | e1 | e1 | e1 <;> subst e1 <;> rfl
  · obtain ⟨k, hk1, rfl⟩ : ∃ k, k < 144 ∧ m = k + 100 := ⟨m - 100, by omega, by omega⟩
    have ek : x1 - 100 = nI k := by
      rw [e, show (100 : Int32) = nI 100 from rfl, pk_sub (by omega), Nat.add_sub_cancel]
    obtain ⟨hs, hw1, g1, g2, g3⟩ := h1 k hk1
    refine hk (nI (cd_ s w k)) ?_ ?_
    · have q7 : fn_X9_isWithin x1 0 3 = some 0 := by
        rcases rg0_ x1 3 3 3 rfl rfl with ⟨q7, -, -⟩ | ⟨m2, hm, e2, -, -⟩
        · exact q7
        · rw [e] at e2
          have := (nI_eq (a := k + 100) (b := m2) (by omega) (by omega)).mp e2
          omega
      have q4 : fn_X9_isWithin x1 10 69 = some 0 := by
        rcases rgl_ x1 10 69 10 69 10 69 rfl rfl rfl rfl with ⟨q7, -, -⟩ | ⟨m2, hm, hm3, e2, -, -⟩
        · exact q7
        · rw [e] at e2
          have := (nI_eq (a := k + 100) (b := m2) (by omega) (by omega)).mp e2
          omega
      unfold fn_X9_told fn_X2_code
      have ei : ((x1 - 100) / 12 * 12) + ((x1 - 100) - (x1 - 100) / 12 * 12) = nI k := by
        rw [ek, show (12 : Int32) = nI 12 from rfl, pk_rem (by omega) (by omega) (by omega), pk_div (by omega) (by omega) (by omega), pk_mul, nI_add, show k / 12 * 12 + k % 12 = k by omega]
      rw [q7, b1_so, if_pos rfl, q4, b1_so, if_pos rfl, q1, b1_so, if_neg (by decide), ei, ckn_ hk1 (by omega), nI_clamp (by omega), g3]
      rfl
    · unfold fn_X10_told
      rw [q2, b1_so, if_neg (by decide), ek, ckn_ hk1 (by omega), nI_clamp (by omega), g1, g2]
      dsimp only [lx_]
      unfold cd_
      by_cases h0 : s k = 0
      · rw [if_pos h0, if_pos (show nI (s k) = 0 by rw [h0]; rfl)]; rfl
      · rw [if_neg h0, if_neg (show ¬ nI (s k) = 0 from ne_nI (b := 0) (by omega) (by omega) h0), ckn_ hk1 (by omega), show (2 : Int32) = nI 2 from rfl, pk_mul, nI_add]
