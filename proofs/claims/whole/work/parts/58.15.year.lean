/-! ===== a year ===== -/
theorem drw1_ {x : Nat} (hx : x < 65537) : ((75 * nI x) + 74) - ((75 * nI x) + 74) / 65537 * 65537 = nI ((75 * x + 74) % 65537) := by
  rw [show (75 : Int32) * nI x + 74 = nI (75 * x + 74) by rw [show (75 : Int32) = nI 75 from rfl, show (74 : Int32) = nI 74 from rfl, pk_mul, nI_add]]
  exact pk_rem (d := 65537) (by omega) (by omega) (by omega)
theorem drw2_ {x : Nat} (hx : x < 65537) : Int64.toInt32 (((75 * (Int32.toInt64 (nI x))) + 74) - ((75 * (Int32.toInt64 (nI x))) + 74) / 65537 * 65537) = nI ((75 * x + 74) % 65537) := by
  rw [nI_l (by omega), show (75 : Int64) * lN x + 74 = lN (75 * x + 74) by rw [show (75 : Int64) = lN 75 from rfl, show (74 : Int64) = lN 74 from rfl, lN_mul, lN_add]]
  rw [show lN (75 * x + 74) - lN (75 * x + 74) / 65537 * 65537 = lN ((75 * x + 74) % 65537) from pk_lRem (b := 65537) (by omega) (by omega) (by omega), lN_i]
theorem year_l {T : Nat} (hT : T < 64) {codes steps wet : Nat → Int32} {s w : Nat → Nat} (h1 : pl_ codes steps wet s w) {home home2 : Nat → Int32} {h : Nat → Nat} {cr br : Nat → Nat} {ca1 be1 ca2 : Nat → Int32} {M : Nat} (hM : M ≤ 99) (K : Int32 → Int32 → Int32 → (Nat → Int32) → (Nat → Int32) → Option (Int32 × Int32 × Int32 × Int32 × Int32 × Int32 × Int32 × (Nat → Int32) × (Nat → Int32) × (Nat → Int32) × (Nat → Int32) × (Nat → Int32))) (K2 : Int32 → Int32 → Int32 → (Nat → Int32) → (Nat → Int32) → (Nat → Int32) → Option (Int32 × Int32 × Int32 × Int32 × (Nat → Int32) × (Nat → Int32) × (Nat → Int32) × (Nat → Int32))) : ∀ (e i n x F : Nat) (a li : Nat → Nat) (at1 li1 wh2 li2 : Nat → Int32) (sp wa : Int32), i + e = M → e < n → x < 65537 → evq_ T home home2 h F a li cr br at1 li1 ca1 be1 wh2 li2 ca2 → ∃ (cs ws : Int32) (F' : Nat) (a' li' : Nat → Nat) (at1' li1' wh2' li2' : Nat → Int32), fn_X1_playYear_l11 (nI T) ca1 be1 codes (nI M) K n (nI x) (nI i) sp wa (nI F) at1 li1 = K cs ws (nI F') at1' li1' ∧ fn_X10_year_l63 (nI T) steps wet (nI M) K2 n (nI x) (nI i) (nI F) sp wa wh2 li2 ca2 = K2 (nI F') cs ws wh2' li2' ca2 ∧ evq_ T home home2 h F' a' li' cr br at1' li1' ca1 be1 wh2' li2' ca2
  | 0, i, 0, x, F, a, li, at1, li1, wh2, li2, sp, wa, q1, q2, q3, hE => absurd q2 (by omega)
  | 0, i, n + 1, x, F, a, li, at1, li1, wh2, li2, sp, wa, q1, q2, q3, hE => by
    have e : i = M := by omega
    subst e
    refine ⟨sp, wa, F, a, li, at1, li1, wh2, li2, ?_, ?_, hE⟩
    · show fn_X1_playYear_b11 (nI T) ca1 be1 codes (nI i) _ K (nI x) (nI i) sp wa (nI F) at1 li1 = _
      unfold fn_X1_playYear_b11
      rw [if_pos (Int32.le_refl _)]
    · show fn_X10_year_b63 (nI T) steps wet (nI i) _ K2 (nI x) (nI i) (nI F) sp wa wh2 li2 ca2 = _
      unfold fn_X10_year_b63
      rw [if_pos (Int32.le_refl _)]
  | e + 1, i, 0, x, F, a, li, at1, li1, wh2, li2, sp, wa, q1, q2, q3, hE => absurd q2 (by omega)
  | e + 1, i, n + 1, x, F, a, li, at1, li1, wh2, li2, sp, wa, q1, q2, q3, hE => by
    have hlt : ¬ nI M ≤ nI i := nI_ge (by omega) (by omega)
    obtain ⟨y, hy, ey⟩ : ∃ y, y < 65537 ∧ (75 * x + 74) % 65537 = y := ⟨_, Nat.mod_lt _ (by omega), rfl⟩
    have d1 := drw1_ q3
    have d2 := drw2_ q3
    rw [ey] at d1 d2
    have r17 : nI y - nI y / 17 * 17 = nI (y % 17) := pk_rem (d := 17) (by omega) (by omega) (by omega)
    have v6 : nI y / 6 = nI (y / 6) := pk_div (d := 6) (by omega) (by omega) (by omega)
    have r6 : nI y - nI (y / 6) * 6 = nI (y % 6) := by rw [← v6]; exact pk_rem (d := 6) (by omega) (by omega) (by omega)
    have r12 : nI (y / 6) - nI (y / 6) / 12 * 12 = nI (y / 6 % 12) := pk_rem (d := 12) (by omega) (by omega) (by omega)
    show ∃ (cs ws : Int32) (F' : Nat) (a' li' : Nat → Nat) (at1' li1' wh2' li2' : Nat → Int32), fn_X1_playYear_b11 (nI T) ca1 be1 codes (nI M) (fn_X1_playYear_l11 (nI T) ca1 be1 codes (nI M) K n) K (nI x) (nI i) sp wa (nI F) at1 li1 = K cs ws (nI F') at1' li1' ∧ fn_X10_year_b63 (nI T) steps wet (nI M) (fn_X10_year_l63 (nI T) steps wet (nI M) K2 n) K2 (nI x) (nI i) (nI F) sp wa wh2 li2 ca2 = K2 (nI F') cs ws wh2' li2' ca2 ∧ _
    unfold fn_X1_playYear_b11 fn_X10_year_b63 fn_X10_year_j100
    simp only [if_neg hlt, d1, d2, lx_so, r17, r6, v6, r12, nI_1]
    by_cases e17 : y % 17 = 0
    · simp only [if_pos (show nI (y % 17) = 0 by rw [e17]; rfl)]
      have w0 : ∀ u v z : Int32, fn_X10_whyNot (nI F) (nI T) steps wet wh2 li2 ca2 4 u v z = some 0 := fun u v z => by
        unfold fn_X10_whyNot; rw [if_pos rfl]
      have hp0 : ∀ u v z : Int32, fn_X10_happen (nI F) sp wa steps wet wh2 li2 ca2 4 u v z = some (nI (1 - F), sp, wa, wh2, li2, ca2) := fun u v z => by
        unfold fn_X10_happen
        rw [if_neg (show ¬ (4 : Int32) = 0 by decide), if_neg (show ¬ (4 : Int32) = 1 by decide), if_neg (show ¬ (4 : Int32) = 2 by decide), if_neg (show ¬ (4 : Int32) = 3 by decide), show (1 : Int32) - nI F = nI (1 - F) from pk_sub (a := 1) hE.1]
      have ih := year_l hT h1 hM K K2 e (i + 1) n y (1 - F) a li at1 li1 wh2 li2 sp wa (by omega) (by omega) hy ⟨by omega, hE.2⟩
      obtain ⟨cs, ws, F', a', li', at1', li1', wh2', li2', i1, i2, i3⟩ := ih
      refine ⟨cs, ws, F', a', li', at1', li1', wh2', li2', ?_, ?_, i3⟩
      · rw [← i1]
        rcases (show F = 0 ∨ F = 1 by have := hE.1; omega) with ef | ef
        · subst ef; rw [if_pos (show nI 0 = 0 from rfl)]; rfl
        · subst ef; rw [if_neg (show ¬ nI 1 = 0 by decide)]; rfl
      · rw [w0, b1_so, if_pos rfl, hp0, b6_so, i2]
    · simp only [if_neg (show ¬ nI (y % 17) = 0 from nI_ne0 (by omega) (by omega))]
      obtain ⟨u, cs, ws, a', li', at1', li1', wh2', li2', y1, y2, y3, y4, y5, y6⟩ := walkq_ hT h1 hE (j := y % 6) (p := y / 6 % 12) (by omega) (by omega) sp wa 0
      obtain ⟨cs', ws', F', a2, li2', at2, li3, wh3, li4, i1, i2, i3⟩ := year_l hT h1 hM K K2 e (i + 1) n y F a' li' at1' li1' wh2' li2' cs ws (by omega) (by omega) hy y6
      refine ⟨cs', ws', F', a2, li2', at2, li3, wh3, li4, ?_, ?_, i3⟩
      · rw [y2, b5_so, i1]
      · rw [y3, b1_so]
        by_cases eu : u = 0
        · rw [if_pos (show nI u = 0 by rw [eu]; rfl)]
          unfold fn_X10_happen
          rw [if_pos rfl, y4 eu, b4_so, b6_so, i2]
        · obtain ⟨z1, z2, z3, z4⟩ := y5 eu
          rw [if_neg (nI_ne0 (by omega) (by omega)), ← i2, z1, z2, z3, z4]
def hmf_ (T : Nat) (a h : Nat → Nat) (j : Nat) (st : Int32) : Int32 := if T.testBit j = true ∧ a j = h j then st + 1 else st
theorem countAtHome_ {T : Nat} (hT : T < 64) {at1 home light at2 home2 light2 : Nat → Int32} {a h li : Nat → Nat} (h5 : wk_ at1 home light at2 home2 light2 a h li) : fn_X0_countAtHome (nI T) at1 home = some (fl_ (hmf_ T a h) 6 0 0) := by
  unfold fn_X0_countAtHome
  refine lf_ 6 (fun n x (st : Int32) => fn_X0_countAtHome_l4 (nI T) at1 home (fun v3 => some v3) n st x) (fun v3 => some v3) (hmf_ T a h) ?_ ?_ 6 0 fu_ 0 rfl (fu_lt (by omega))
  · intro n j st hj
    obtain ⟨b1, b2, b3, b4, b5, -⟩ := h5 j hj
    show fn_X0_countAtHome_b4 (nI T) at1 home (fn_X0_countAtHome_l4 (nI T) at1 home (fun v3 => some v3) n) (fun v3 => some v3) st (nI j) = _
    unfold fn_X0_countAtHome_b4 hmf_
    rw [if_neg (show ¬ (6 : Int32) ≤ nI j from nI_ge (b := 6) hj (by omega)), (has_ hT hj).1, b1_so, ckn_ hj (by omega), ckn_ hj (by omega), nI_clamp (by omega), b4, b5, nI_1]
    by_cases e1 : T.testBit j = true
    · rw [if_pos e1, if_neg (by decide)]
      by_cases e2 : a j = h j
      · rw [if_pos (by rw [e2]), if_pos ⟨e1, e2⟩]
      · rw [if_neg (ne_nI (by omega) (by omega) e2), if_neg (fun q => e2 q.2)]
    · rw [if_neg e1, if_pos rfl, if_neg (fun q => e1 q.1)]
  · intro n st
    show fn_X0_countAtHome_b4 (nI T) at1 home (fn_X0_countAtHome_l4 (nI T) at1 home (fun v3 => some v3) n) (fun v3 => some v3) st (nI 6) = _
    unfold fn_X0_countAtHome_b4
    rw [if_pos (show (6 : Int32) ≤ nI 6 by decide)]
theorem year156_ {T : Nat} (hT : T < 64) {at1 home light at2 home2 light2 : Nat → Int32} {a h li : Nat → Nat} (h5 : wk_ at1 home light at2 home2 light2 a h li) (k : Int32 → Option (Int32 × Int32 × Int32 × Int32 × (Nat → Int32) × (Nat → Int32) × (Nat → Int32) × (Nat → Int32))) : fn_X10_year_l156 (nI T) at2 home2 k fu_ 0 0 = k (fl_ (hmf_ T a h) 6 0 0) := by
  refine lf_ 6 (fun n x (st : Int32) => fn_X10_year_l156 (nI T) at2 home2 k n st x) k (hmf_ T a h) ?_ ?_ 6 0 fu_ 0 rfl (fu_lt (by omega))
  · intro n j st hj
    obtain ⟨b1, b2, b3, -, -, -, b4, b5, -⟩ := h5 j hj
    show fn_X10_year_b156 (nI T) at2 home2 (fn_X10_year_l156 (nI T) at2 home2 k n) k st (nI j) = _
    unfold fn_X10_year_b156 fn_X10_year_j195 hmf_
    rw [if_neg (show ¬ (6 : Int32) ≤ nI j from nI_ge (b := 6) hj (by omega)), (has_ hT hj).2, b1_so, ckn_ hj (by omega), ckn_ hj (by omega), nI_clamp (by omega), b4, b5, nI_1, Int32.add_zero]
    by_cases e1 : T.testBit j = true
    · rw [if_pos e1, if_neg (by decide)]
      by_cases e2 : a j = h j
      · rw [if_pos (by rw [e2]), if_pos ⟨e1, e2⟩]
      · rw [if_neg (ne_nI (by omega) (by omega) e2), if_neg (fun q => e2 q.2)]
    · rw [if_neg e1, if_pos rfl, if_neg (fun q => e1 q.1)]
  · intro n st
    show fn_X10_year_b156 (nI T) at2 home2 (fn_X10_year_l156 (nI T) at2 home2 k n) k st (nI 6) = _
    unfold fn_X10_year_b156
    rw [if_pos (show (6 : Int32) ≤ nI 6 by decide)]
theorem pp_year {c_x_measured c_x_now_crowd_there c_x_now_crowd_foggy c_x_now_sights_count c_x_pad_count c_x_evening_acts c_x_evening_failedAct c_x_evening_reason c_x_evening_costs c_x_evening_walks c_x_evening_crowd_there c_x_evening_crowd_foggy c_x_tour_costs c_x_tour_firstStop c_x_odds_count c_x_odds_tenths c_m_foggy c_m_walkers c_m_sights c_m_padMany c_m_acts c_m_spent c_m_walks c_m_badAct c_m_badWhy c_m_keptAt c_m_isWriting : Int32} {c_x_now_marsh_codes c_x_now_crowd_at c_x_now_crowd_home c_x_now_crowd_light c_x_now_crowd_carries c_x_now_crowd_bearer c_x_now_sights_places c_x_now_sights_lights c_x_pad_signs c_x_evening_crowd_at c_x_evening_crowd_home c_x_evening_crowd_light c_x_evening_crowd_carries c_x_evening_crowd_bearer c_x_ways_planks c_x_ways_least c_x_ways_neighbours c_x_tour_stops c_x_tour_rest c_x_odds_planks c_m_steps c_m_wet c_m_where c_m_home c_m_light c_m_carries c_m_sightPlace c_m_sightLight c_m_pad c_m_act c_m_whose c_m_whom c_m_tens c_m_had c_m_leaves c_m_apart c_m_stop c_m_restOf c_m_group c_m_along : Nat → Int32} (hR : RR c_x_measured c_x_now_marsh_codes c_x_now_crowd_there c_x_now_crowd_foggy c_x_now_crowd_at c_x_now_crowd_home c_x_now_crowd_light c_x_now_crowd_carries c_x_now_crowd_bearer c_x_now_sights_count c_x_now_sights_places c_x_now_sights_lights c_x_pad_count c_x_pad_signs c_x_evening_acts c_x_evening_failedAct c_x_evening_reason c_x_evening_costs c_x_evening_walks c_x_evening_crowd_there c_x_evening_crowd_foggy c_x_evening_crowd_at c_x_evening_crowd_home c_x_evening_crowd_light c_x_evening_crowd_carries c_x_evening_crowd_bearer c_x_ways_planks c_x_ways_least c_x_ways_neighbours c_x_tour_costs c_x_tour_firstStop c_x_tour_stops c_x_tour_rest c_x_odds_count c_x_odds_tenths c_x_odds_planks c_m_foggy c_m_walkers c_m_sights c_m_padMany c_m_acts c_m_spent c_m_walks c_m_badAct c_m_badWhy c_m_keptAt c_m_isWriting c_m_steps c_m_wet c_m_where c_m_home c_m_light c_m_carries c_m_sightPlace c_m_sightLight c_m_pad c_m_act c_m_whose c_m_whom c_m_tens c_m_had c_m_leaves c_m_apart c_m_stop c_m_restOf c_m_group c_m_along) (x1 : Int32) (x2 : Int32) (x3 : Int32)  : ∃ (r : Int32) (w0 : Int32) (w1 : Int32) (w2 : Int32) (w3 : Int32) (w4 : Int32) (w5 : Int32) (w6 : Int32) (w7 : Nat → Int32) (w8 : Nat → Int32) (w9 : Nat → Int32) (w10 : Nat → Int32) (w11 : Nat → Int32) (v0 : Int32) (v1 : Int32) (v2 : Int32) (v3 : Nat → Int32) (v4 : Nat → Int32) (v5 : Nat → Int32) (v6 : Nat → Int32), fn_X9_year c_x_now_marsh_codes c_x_now_crowd_there c_x_now_crowd_foggy c_x_now_crowd_at c_x_now_crowd_home c_x_now_crowd_light c_x_now_crowd_carries c_x_now_crowd_bearer c_x_evening_acts c_x_evening_failedAct c_x_evening_reason c_x_evening_costs c_x_evening_walks c_x_evening_crowd_there c_x_evening_crowd_foggy c_x_evening_crowd_at c_x_evening_crowd_home c_x_evening_crowd_light c_x_evening_crowd_carries c_x_evening_crowd_bearer x1 x2 x3 = some (r, w0, w1, w2, w3, w4, w5, w6, w7, w8, w9, w10, w11) ∧ fn_X10_year c_m_foggy c_m_walkers c_m_spent c_m_walks c_m_steps c_m_wet c_m_where c_m_home c_m_light c_m_carries c_m_had x1 x2 x3 = some (r, v0, v1, v2, v3, v4, v5, v6) ∧ RR c_x_measured c_x_now_marsh_codes c_x_now_crowd_there c_x_now_crowd_foggy c_x_now_crowd_at c_x_now_crowd_home c_x_now_crowd_light c_x_now_crowd_carries c_x_now_crowd_bearer c_x_now_sights_count c_x_now_sights_places c_x_now_sights_lights c_x_pad_count c_x_pad_signs w0 w1 w2 w3 w4 w5 w6 w7 w8 w9 w10 w11 c_x_ways_planks c_x_ways_least c_x_ways_neighbours c_x_tour_costs c_x_tour_firstStop c_x_tour_stops c_x_tour_rest c_x_odds_count c_x_odds_tenths c_x_odds_planks v0 c_m_walkers c_m_sights c_m_padMany c_m_acts v1 v2 c_m_badAct c_m_badWhy c_m_keptAt c_m_isWriting c_m_steps c_m_wet v3 c_m_home v4 v5 c_m_sightPlace c_m_sightLight c_m_pad c_m_act c_m_whose c_m_whom c_m_tens v6 c_m_leaves c_m_apart c_m_stop c_m_restOf c_m_group c_m_along := by
  obtain ⟨s, w, T, F, a, h, li, cr, br, sc, sp, sl, pc, g, h1, h2, ⟨hT, hT1, hT2⟩, ⟨hF, hF1, hF2⟩, h5, h6, h7, ⟨hsc, hs1, hs2⟩, h9, ⟨hpc, hp1, hp2⟩, h11, h12⟩ := id hR
  rcases rg0_ x1 9999 9999 9999 rfl rfl with ⟨q1, q2, -⟩ | ⟨x, hx, ex, q1, q2⟩
  · refine ⟨-2, c_x_evening_acts, c_x_evening_failedAct, c_x_evening_reason, c_x_evening_costs, c_x_evening_walks, c_x_evening_crowd_there, c_x_evening_crowd_foggy, c_x_evening_crowd_at, c_x_evening_crowd_home, c_x_evening_crowd_light, c_x_evening_crowd_carries, c_x_evening_crowd_bearer, c_m_foggy, c_m_spent, c_m_walks, c_m_where, c_m_light, c_m_carries, c_m_had, ?_, ?_, hR⟩
    · unfold fn_X9_year; rw [q1]; rfl
    · unfold fn_X10_year; rw [q2]; rfl
  · rcases rgl_ x2 1 99 1 99 1 99 rfl rfl rfl rfl with ⟨q3, q4, -⟩ | ⟨M, hM1, hM, eM, q3, q4⟩
    · refine ⟨-2, c_x_evening_acts, c_x_evening_failedAct, c_x_evening_reason, c_x_evening_costs, c_x_evening_walks, c_x_evening_crowd_there, c_x_evening_crowd_foggy, c_x_evening_crowd_at, c_x_evening_crowd_home, c_x_evening_crowd_light, c_x_evening_crowd_carries, c_x_evening_crowd_bearer, c_m_foggy, c_m_spent, c_m_walks, c_m_where, c_m_light, c_m_carries, c_m_had, ?_, ?_, hR⟩
      · unfold fn_X9_year; rw [q1, b1_so, if_neg (by decide), q3]; rfl
      · unfold fn_X10_year; rw [q2, b1_so, if_neg (by decide), q4]; rfl
    · rcases rg0_ x3 2 2 2 rfl rfl with ⟨q5, q6, -⟩ | ⟨n, hn, en, q5, q6⟩
      · refine ⟨-2, c_x_evening_acts, c_x_evening_failedAct, c_x_evening_reason, c_x_evening_costs, c_x_evening_walks, c_x_evening_crowd_there, c_x_evening_crowd_foggy, c_x_evening_crowd_at, c_x_evening_crowd_home, c_x_evening_crowd_light, c_x_evening_crowd_carries, c_x_evening_crowd_bearer, c_m_foggy, c_m_spent, c_m_walks, c_m_where, c_m_light, c_m_carries, c_m_had, ?_, ?_, hR⟩
        · unfold fn_X9_year; rw [q1, b1_so, if_neg (by decide), q3, b1_so, if_neg (by decide), q5]; rfl
        · unfold fn_X10_year; rw [q2, b1_so, if_neg (by decide), q4, b1_so, if_neg (by decide), q6]; rfl
      · obtain ⟨Q, s1, s2, s3⟩ := store_ hT (home := c_x_now_crowd_home) (home2 := c_m_home) (h := h) (a := a) (li := li) ⟨hF, h5, h6, h7⟩ c_m_had
        obtain ⟨cs, ws, F', a', li', at1', li1', wh2', li2', e1, e2, e3⟩ := year_l hT h1 hM (fun v21 v22 v23 v24 v25 => some (0, -6, -6, v21, v22, nI T, v23, v24, va_cpy c_x_now_crowd_home c_x_evening_crowd_home 0 0 6, v25, va_cpy c_x_now_crowd_carries c_x_evening_crowd_carries 0 0 6, va_cpy c_x_now_crowd_bearer c_x_evening_crowd_bearer 0 0 6)) (fun v20 v21 v22 v23 v24 v25 => fn_X10_year_l156 (nI T) v23 c_m_home (fun v28 => b4_ (fn_X10_lay v20 v23 v24 v25 Q) fun w29 w30 w31 w32 => if x3 = 0 then some (v21, w29, v21, v22, w30, w31, w32, Q) else if x3 = 1 then some (v28, w29, v21, v22, w30, w31, w32, Q) else some (v22, w29, v21, v22, w30, w31, w32, Q)) fu_ 0 0) M 0 fu_ x F a li _ _ c_m_where c_m_light 0 0 (Nat.zero_add _) (fu_lt (by omega)) (by omega) (evq_cpy hF h5 h6 h7 c_x_evening_crowd_at c_x_evening_crowd_home c_x_evening_crowd_light c_x_evening_crowd_carries c_x_evening_crowd_bearer)
        obtain ⟨W1, L1, C1, l1, l2⟩ := layq_ (nI F') wh2' li2' c_m_carries Q
        have hres : ∀ j, j < 6 → W1 j = c_m_where j ∧ L1 j = c_m_light j ∧ C1 j = c_m_carries j := fun j hj => by
          obtain ⟨t1, t2, t3⟩ := l2 j hj
          obtain ⟨u1, u2, u3, -⟩ := s2 j hj
          rw [t1, t2, t3, u1, u2, u3]
          exact ⟨rfl, rfl, rfl⟩
        refine ⟨if n = 0 then cs else if n = 1 then fl_ (hmf_ T a' h) 6 0 0 else ws, 0, -6, -6, cs, ws, nI T, nI F', at1', va_cpy c_x_now_crowd_home c_x_evening_crowd_home 0 0 6, li1', va_cpy c_x_now_crowd_carries c_x_evening_crowd_carries 0 0 6, va_cpy c_x_now_crowd_bearer c_x_evening_crowd_bearer 0 0 6, nI F, cs, ws, W1, L1, C1, Q, ?_, ?_, ?_⟩
        · rw [nI_0] at e1
          unfold fn_X9_year fn_X1_playYear fn_X1_begin
          rw [q1, b1_so, if_neg (by decide), q3, b1_so, if_neg (by decide), q5, b1_so, if_neg (by decide), hT1, hF1, copyFrom_ hF, b7_so, b12_so, ex, eM, e1, b12_so, countAtHome_ hT e3.2.1, b1_so]
          rcases (show n = 0 ∨ n = 1 ∨ n = 2 by omega) with e | e | e
          · rw [if_pos (show x3 = 0 by rw [en, e]; rfl), if_pos e]
          · rw [if_neg (show ¬ x3 = 0 by rw [en, e]; decide), if_pos (show x3 = 1 by rw [en, e]; rfl), if_neg (show ¬ n = 0 by omega), if_pos e]
          · rw [if_neg (show ¬ x3 = 0 by rw [en, e]; decide), if_neg (show ¬ x3 = 1 by rw [en, e]; decide), if_neg (show ¬ n = 0 by omega), if_neg (show ¬ n = 1 by omega)]
        · unfold fn_X10_year
          rw [q2, b1_so, if_neg (by decide), q4, b1_so, if_neg (by decide), q6, b1_so, if_neg (by decide), hT2, hF2, s1, b1_so, ex, eM]
          refine Eq.trans e2 ?_
          rw [year156_ hT e3.2.1, l1, b4_so, s3]
          rcases (show n = 0 ∨ n = 1 ∨ n = 2 by omega) with e | e | e
          · rw [if_pos (show x3 = 0 by rw [en, e]; rfl), if_pos e]
          · rw [if_neg (show ¬ x3 = 0 by rw [en, e]; decide), if_pos (show x3 = 1 by rw [en, e]; rfl), if_neg (show ¬ n = 0 by omega), if_pos e]
          · rw [if_neg (show ¬ x3 = 0 by rw [en, e]; decide), if_neg (show ¬ x3 = 1 by rw [en, e]; decide), if_neg (show ¬ n = 0 by omega), if_neg (show ¬ n = 1 by omega)]
        · refine ⟨s, w, T, F, a, h, li, cr, br, sc, sp, sl, pc, g, h1, h2, ⟨hT, hT1, hT2⟩, ⟨hF, hF1, rfl⟩, fun j hj => ?_, fun j hj => ?_, h7, ⟨hsc, hs1, hs2⟩, h9, ⟨hpc, hp1, hp2⟩, h11, h12⟩
          · obtain ⟨t1, t2, -⟩ := hres j hj
            rw [t1, t2]; exact h5 j hj
          · obtain ⟨-, -, t3⟩ := hres j hj
            rw [t3]; exact h6 j hj
