/-! ===== chance ===== -/
theorem pp_chance {c_x_measured c_x_now_crowd_there c_x_now_crowd_foggy c_x_now_sights_count c_x_pad_count c_x_evening_acts c_x_evening_failedAct c_x_evening_reason c_x_evening_costs c_x_evening_walks c_x_evening_crowd_there c_x_evening_crowd_foggy c_x_tour_costs c_x_tour_firstStop c_x_odds_count c_x_odds_tenths c_m_foggy c_m_walkers c_m_sights c_m_padMany c_m_acts c_m_spent c_m_walks c_m_badAct c_m_badWhy c_m_keptAt c_m_isWriting : Int32} {c_x_now_marsh_codes c_x_now_crowd_at c_x_now_crowd_home c_x_now_crowd_light c_x_now_crowd_carries c_x_now_crowd_bearer c_x_now_sights_places c_x_now_sights_lights c_x_pad_signs c_x_evening_crowd_at c_x_evening_crowd_home c_x_evening_crowd_light c_x_evening_crowd_carries c_x_evening_crowd_bearer c_x_ways_planks c_x_ways_least c_x_ways_neighbours c_x_tour_stops c_x_tour_rest c_x_odds_planks c_m_steps c_m_wet c_m_where c_m_home c_m_light c_m_carries c_m_sightPlace c_m_sightLight c_m_pad c_m_act c_m_whose c_m_whom c_m_tens c_m_had c_m_leaves c_m_apart c_m_stop c_m_restOf c_m_group c_m_along : Nat → Int32} (hR : RR c_x_measured c_x_now_marsh_codes c_x_now_crowd_there c_x_now_crowd_foggy c_x_now_crowd_at c_x_now_crowd_home c_x_now_crowd_light c_x_now_crowd_carries c_x_now_crowd_bearer c_x_now_sights_count c_x_now_sights_places c_x_now_sights_lights c_x_pad_count c_x_pad_signs c_x_evening_acts c_x_evening_failedAct c_x_evening_reason c_x_evening_costs c_x_evening_walks c_x_evening_crowd_there c_x_evening_crowd_foggy c_x_evening_crowd_at c_x_evening_crowd_home c_x_evening_crowd_light c_x_evening_crowd_carries c_x_evening_crowd_bearer c_x_ways_planks c_x_ways_least c_x_ways_neighbours c_x_tour_costs c_x_tour_firstStop c_x_tour_stops c_x_tour_rest c_x_odds_count c_x_odds_tenths c_x_odds_planks c_m_foggy c_m_walkers c_m_sights c_m_padMany c_m_acts c_m_spent c_m_walks c_m_badAct c_m_badWhy c_m_keptAt c_m_isWriting c_m_steps c_m_wet c_m_where c_m_home c_m_light c_m_carries c_m_sightPlace c_m_sightLight c_m_pad c_m_act c_m_whose c_m_whom c_m_tens c_m_had c_m_leaves c_m_apart c_m_stop c_m_restOf c_m_group c_m_along) (x1 : Int32) (x2 : Int32) (x3 : Int32) (x4 : Int32)  : ∃ (r : Int64) (w0 : Int32) (w1 : Nat → Int32) (w2 : Nat → Int32) (w3 : Nat → Int32) (w4 : Int32) (w5 : Int32) (w6 : Nat → Int32) (v0 : Nat → Int32) (v1 : Nat → Int32), fn_X9_chance c_x_measured c_x_now_marsh_codes c_x_now_crowd_there c_x_now_crowd_foggy c_x_now_crowd_at c_x_now_crowd_home c_x_now_crowd_light c_x_ways_planks c_x_ways_least c_x_ways_neighbours c_x_odds_count c_x_odds_tenths c_x_odds_planks x1 x2 x3 x4 = some (r, w0, w1, w2, w3, w4, w5, w6) ∧ fn_X10_chance c_m_foggy c_m_walkers c_m_steps c_m_wet c_m_where c_m_home c_m_light c_m_apart c_m_along x1 x2 x3 x4 = some (r, v0, v1) ∧ RR w0 c_x_now_marsh_codes c_x_now_crowd_there c_x_now_crowd_foggy c_x_now_crowd_at c_x_now_crowd_home c_x_now_crowd_light c_x_now_crowd_carries c_x_now_crowd_bearer c_x_now_sights_count c_x_now_sights_places c_x_now_sights_lights c_x_pad_count c_x_pad_signs c_x_evening_acts c_x_evening_failedAct c_x_evening_reason c_x_evening_costs c_x_evening_walks c_x_evening_crowd_there c_x_evening_crowd_foggy c_x_evening_crowd_at c_x_evening_crowd_home c_x_evening_crowd_light c_x_evening_crowd_carries c_x_evening_crowd_bearer w1 w2 w3 c_x_tour_costs c_x_tour_firstStop c_x_tour_stops c_x_tour_rest w4 w5 w6 c_m_foggy c_m_walkers c_m_sights c_m_padMany c_m_acts c_m_spent c_m_walks c_m_badAct c_m_badWhy c_m_keptAt c_m_isWriting c_m_steps c_m_wet c_m_where c_m_home c_m_light c_m_carries c_m_sightPlace c_m_sightLight c_m_pad c_m_act c_m_whose c_m_whom c_m_tens c_m_had c_m_leaves v0 c_m_stop c_m_restOf c_m_group v1 := by
  obtain ⟨s, w, T, F, a, h, li, cr, br, sc, sp, sl, pc, g, h1, h2, ⟨hT, hT1, hT2⟩, ⟨hF, hF1, hF2⟩, h5, h6, h7, ⟨hsc, hs1, hs2⟩, h9, ⟨hpc, hp1, hp2⟩, h11, h12⟩ := id hR
  rcases hs_ hT x1 with ⟨r1, r2, -⟩ | ⟨j, hj, ej, hb, r1, r2⟩
  · refine ⟨-1000000000000000001, c_x_measured, c_x_ways_planks, c_x_ways_least, c_x_ways_neighbours, c_x_odds_count, c_x_odds_tenths, c_x_odds_planks, c_m_apart, c_m_along, ?_, ?_, hR⟩
    · unfold fn_X9_chance; rw [hT1, r1]; rfl
    · unfold fn_X10_chance; rw [hT2, r2]; rfl
  · rcases rg0_ x2 10 10 10 rfl rfl with ⟨q1, q2, -⟩ | ⟨t, ht, et, q1, q2⟩
    · refine ⟨-1000000000000000002, c_x_measured, c_x_ways_planks, c_x_ways_least, c_x_ways_neighbours, c_x_odds_count, c_x_odds_tenths, c_x_odds_planks, c_m_apart, c_m_along, ?_, ?_, hR⟩
      · unfold fn_X9_chance; rw [hT1, r1, b1_so, if_neg (by decide), q1]; rfl
      · unfold fn_X10_chance; rw [hT2, r2, b1_so, if_neg (by decide), q2]; rfl
    · rcases rg0_ x3 1 1 1 rfl rfl with ⟨q3, q4, -⟩ | ⟨m, hm, em, q3, q4⟩
      · refine ⟨-1000000000000000002, c_x_measured, c_x_ways_planks, c_x_ways_least, c_x_ways_neighbours, c_x_odds_count, c_x_odds_tenths, c_x_odds_planks, c_m_apart, c_m_along, ?_, ?_, hR⟩
        · unfold fn_X9_chance; rw [hT1, r1, b1_so, if_neg (by decide), q1, b1_so, if_neg (by decide), q3]; rfl
        · unfold fn_X10_chance; rw [hT2, r2, b1_so, if_neg (by decide), q2, b1_so, if_neg (by decide), q4]; rfl
      · rcases rg0_ x4 1 1 1 rfl rfl with ⟨q5, q6, -⟩ | ⟨m2, hm2, em2, q5, q6⟩
        · refine ⟨-1000000000000000002, c_x_measured, c_x_ways_planks, c_x_ways_least, c_x_ways_neighbours, c_x_odds_count, c_x_odds_tenths, c_x_odds_planks, c_m_apart, c_m_along, ?_, ?_, hR⟩
          · unfold fn_X9_chance; rw [hT1, r1, b1_so, if_neg (by decide), q1, b1_so, if_neg (by decide), q3, b1_so, if_neg (by decide), q5]; rfl
          · unfold fn_X10_chance; rw [hT2, r2, b1_so, if_neg (by decide), q2, b1_so, if_neg (by decide), q4, b1_so, if_neg (by decide), q6]; rfl
        · obtain ⟨P', L', N', A', e1, e2, hw, hA⟩ := mw_ h1 hF h12 c_m_apart
          obtain ⟨a1, a2, a3, a4, a5, a6, a7, a8, a9⟩ := h5 j hj
          have hd := ds_le (pl_b h1) hF (12 * a j + h j) (by omega)
          have hgo : ∀ k : Option (Int64 × Int32 × (Nat → Int32) × (Nat → Int32) × (Nat → Int32) × Int32 × Int32 × (Nat → Int32)), (b4_ (fn_X9_measure c_x_measured c_x_now_marsh_codes c_x_now_crowd_foggy c_x_ways_planks c_x_ways_least c_x_ways_neighbours) fun w9 w10 w11 w12 => if c_x_now_crowd_foggy = 0 then b1_ (fn_X0_costsHome c_x_now_crowd_at c_x_now_crowd_home w11 x1) fun r14 => if r14 < 1000000 then ck_ x1 6 (ck_ x1 6 (b3_ (fn_X3_follow c_x_odds_count c_x_odds_tenths c_x_odds_planks w10 w11 (c_x_now_crowd_at (Int32.toNatClampNeg x1)) (c_x_now_crowd_home (Int32.toNatClampNeg x1)) x2) fun w16 w17 w18 => if x3 = 0 then ck_ x1 6 (b1_ (fn_X3_partOfEnough w16 w17 w18 (c_x_now_crowd_light (Int32.toNatClampNeg x1)) x4) fun r22 => some (r22, w9, w10, w11, w12, w16, w17, w18)) else b1_ (fn_X3_partOfMean w16 w17 w18 x4) fun r20 => some (r20, w9, w10, w11, w12, w16, w17, w18))) else some ((-1000000000000000003), w9, w10, w11, w12, c_x_odds_count, c_x_odds_tenths, c_x_odds_planks) else some ((-1000000000000000003), w9, w10, w11, w12, c_x_odds_count, c_x_odds_tenths, c_x_odds_planks)) = k → fn_X9_chance c_x_measured c_x_now_marsh_codes c_x_now_crowd_there c_x_now_crowd_foggy c_x_now_crowd_at c_x_now_crowd_home c_x_now_crowd_light c_x_ways_planks c_x_ways_least c_x_ways_neighbours c_x_odds_count c_x_odds_tenths c_x_odds_planks x1 x2 x3 x4 = k := by
            intro k hk
            unfold fn_X9_chance
            rw [hT1, r1, b1_so, if_neg (by decide), q1, b1_so, if_neg (by decide), q3, b1_so, if_neg (by decide), q5, b1_so, if_neg (by decide)]
            exact hk
          by_cases ef : F = 0
          · by_cases el : ds_ s w F (12 * a j + h j) < 1000000
            · obtain ⟨n, e', al1, al2, n1, n2, n3, n4⟩ := path_l h1 hF hw hA hj a2 a8 (nI t) fu_ (a j) 0 (fun _ => 0) c_x_odds_planks c_m_along a1 (Nat.lt_of_le_of_lt (nu_le a1) (fu_lt (by omega))) (by have := nu_le (d := ds_ s w F) (q := h j) a1; omega) el (fun i hi => absurd hi (by omega))
              have hal1 : ∀ i, i < n → al1 i = nI (e' i) ∧ 0 < e' i ∧ e' i ≤ 396 := fun i hi => ⟨(n4 i hi).1, (n4 i hi).2.2.1, (n4 i hi).2.2.2⟩
              have hal2 : ∀ i, i < n → al2 i = nI (e' i) := fun i hi => (n4 i hi).2.1
              have hle : ∀ i, i < n → e' i ≤ 396 := fun i hi => (n4 i hi).2.2.2
              have hp10 := p10_ n1
              have hp0 : 0 < 10 ^ n := Nat.pow_pos (by omega)
              have hA1 := Aq_le (n := n) ht (e := e') (φ := fun x => if x ≤ li j then 1 else 0) (fun x => by split <;> omega)
              have hE := smq_le hle n (Nat.le_refl _)
              have hEt : smq_ e' n * (10 + t) ≤ 396 * 11 * 20 := Nat.mul_le_mul (by omega) (by omega)
              have hmn := Aq_mean ht e' n
              have hAm : Aq_ t e' n (fun x => x) * 10 ≤ 100000000000 * (396 * 11 * 20) := by
                rw [hmn]; exact Nat.mul_le_mul hp10 hEt
              refine ⟨lN (if m = 0 then (if m2 = 0 then Aq_ t e' n (fun x => if x ≤ li j then 1 else 0) / Nat.gcd (10 ^ n) (Aq_ t e' n (fun x => if x ≤ li j then 1 else 0)) else 10 ^ n / Nat.gcd (10 ^ n) (Aq_ t e' n (fun x => if x ≤ li j then 1 else 0))) else (if m2 = 0 then Aq_ t e' n (fun x => x) / Nat.gcd (10 ^ n) (Aq_ t e' n (fun x => x)) else 10 ^ n / Nat.gcd (10 ^ n) (Aq_ t e' n (fun x => x)))), 1, P', L', N', nI n, nI t, al1, A', al2, ?_, ?_, ⟨s, w, T, F, a, h, li, cr, br, sc, sp, sl, pc, g, h1, h2, ⟨hT, hT1, hT2⟩, ⟨hF, hF1, hF2⟩, h5, h6, h7, ⟨hsc, hs1, hs2⟩, h9, ⟨hpc, hp1, hp2⟩, h11, Or.inr ⟨rfl, hw⟩⟩⟩
              · refine hgo _ ?_
                unfold fn_X3_follow
                rw [hF1, e1, b4_so, if_pos (show nI F = 0 by rw [ef]; rfl), ej, costsHome_ hj a1 a2 a4 a5, b1_so, (hw.1 _ (by omega)).2, if_pos (show nI (ds_ s w F (12 * a j + h j)) < 1000000 from nI_lt (b := 1000000) el (by omega)), ckn_ hj (by omega), ckn_ hj (by omega), nI_clamp (by omega), a4, a5, et, show fn_X3_follow_l17 (nI t) P' L' (nI (h j)) (fun v6 v7 => some (v6, nI t, v7)) fu_ (nI (a j)) 0 0 c_x_odds_planks = _ from n2, b3_so, ckn_ hj (by omega), a6]
                rcases (show m = 0 ∨ m = 1 by omega) with em0 | em0
                · rw [if_pos (show x3 = 0 by rw [em, em0]; rfl), if_pos em0]
                  unfold fn_X3_partOfEnough fn_X3_casesOfEnough
                  rw [pe5_ n1, show fn_X3_casesOfEnough_d 13 al1 (nI n) (nI t) (nI (li j)) 0 = _ from ce_ n1 ht hal1 n 0 13 (li j) (Nat.zero_add _) (by omega) a3, b1_so, ← Aq_Cq, em2, partOf_ (by omega) hp0 (by omega) hm2, b1_so, b1_so]
                · rw [if_neg (show ¬ x3 = 0 by rw [em, em0]; decide), if_neg (show ¬ m = 0 by omega)]
                  unfold fn_X3_partOfMean
                  rw [pm5_ n1 hal1, show (10 : Int32) + nI t = nI (10 + t) from nI_add 10 t, nI_l (by omega), lN_mul, em2, show (10 : Int64) = lN 10 from rfl, partOf_ (by omega) (by omega) (by omega) hm2, b1_so, b1_so, mean_ ht e' n m2]
              · unfold fn_X10_chance fn_X10_layWay
                rw [hT2, r2, b1_so, if_neg (by decide), q2, b1_so, if_neg (by decide), q4, b1_so, if_neg (by decide), q6, b1_so, if_neg (by decide), hF2, e2, b1_so, ej, homeWay_ hj a1 a2 a7 a8, b1_so, hA _ (by omega), if_neg (show ¬ (1000000 : Int32) ≤ nI (ds_ s w F (12 * a j + h j)) from nI_ge (b := 1000000) el (by omega)), if_neg (show ¬ nI F = 1 by rw [ef]; decide), ckn_ hj (by omega), nI_clamp (by omega), a7, lx_so, show fn_X10_layWay_l9 (nI F) c_m_steps c_m_wet c_m_home A' (nI j) (fun v7 v8 => some (v7, v8)) fu_ 0 (nI (a j)) c_m_along = _ from n3, b2_so, et, ch94_ n1 ht hal2 hle hj a9 a3, Aq_one ht]
                unfold fn_X10_chance_j229
                rcases (show m = 0 ∨ m = 1 by omega) with em0 | em0
                · rw [if_pos (show x3 = 0 by rw [em, em0]; rfl), if_pos em0, em2, lowest_ (by omega) hp0 (by omega) hm2, b1_so]
                · rw [if_neg (show ¬ x3 = 0 by rw [em, em0]; decide), if_neg (show ¬ m = 0 by omega), em2, lowest_ (by omega) hp0 (by omega) hm2, b1_so]
            · refine ⟨-1000000000000000003, 1, P', L', N', c_x_odds_count, c_x_odds_tenths, c_x_odds_planks, A', c_m_along, ?_, ?_, ⟨s, w, T, F, a, h, li, cr, br, sc, sp, sl, pc, g, h1, h2, ⟨hT, hT1, hT2⟩, ⟨hF, hF1, hF2⟩, h5, h6, h7, ⟨hsc, hs1, hs2⟩, h9, ⟨hpc, hp1, hp2⟩, h11, Or.inr ⟨rfl, hw⟩⟩⟩
              · refine hgo _ ?_
                rw [hF1, e1, b4_so, if_pos (show nI F = 0 by rw [ef]; rfl), ej, costsHome_ hj a1 a2 a4 a5, b1_so, (hw.1 _ (by omega)).2, if_neg (show ¬ nI (ds_ s w F (12 * a j + h j)) < 1000000 from nI_nlt (b := 1000000) (by omega) (by omega))]
              · unfold fn_X10_chance
                rw [hT2, r2, b1_so, if_neg (by decide), q2, b1_so, if_neg (by decide), q4, b1_so, if_neg (by decide), q6, b1_so, if_neg (by decide), hF2, e2, b1_so, ej, homeWay_ hj a1 a2 a7 a8, b1_so, hA _ (by omega), if_pos (show (1000000 : Int32) ≤ nI (ds_ s w F (12 * a j + h j)) from nI_le (a := 1000000) (by omega) (by omega))]
          · have ef1 : F = 1 := by omega
            refine ⟨-1000000000000000003, 1, P', L', N', c_x_odds_count, c_x_odds_tenths, c_x_odds_planks, A', c_m_along, ?_, ?_, ⟨s, w, T, F, a, h, li, cr, br, sc, sp, sl, pc, g, h1, h2, ⟨hT, hT1, hT2⟩, ⟨hF, hF1, hF2⟩, h5, h6, h7, ⟨hsc, hs1, hs2⟩, h9, ⟨hpc, hp1, hp2⟩, h11, Or.inr ⟨rfl, hw⟩⟩⟩
            · refine hgo _ ?_
              rw [hF1, e1, b4_so, if_neg (show ¬ nI F = 0 by rw [ef1]; decide)]
            · unfold fn_X10_chance
              rw [hT2, r2, b1_so, if_neg (by decide), q2, b1_so, if_neg (by decide), q4, b1_so, if_neg (by decide), q6, b1_so, if_neg (by decide), hF2, e2, b1_so, ej, homeWay_ hj a1 a2 a7 a8, b1_so, if_pos (show nI F = 1 by rw [ef1]; rfl)]
              split <;> rfl
