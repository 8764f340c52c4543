theorem ix1_ (p q : Nat) : nI p * 12 + nI q = nI (12 * p + q) := by rw [show (12 : Int32) = nI 12 from rfl, pk_mul, nI_add, Nat.mul_comm]
theorem ix2_ (p q : Nat) : 12 * nI p + nI q = nI (12 * p + q) := by rw [show (12 : Int32) = nI 12 from rfl, pk_mul, nI_add]
theorem up2_ {f : Nat → Int32} {x : Int32} {k1 k2 j : Nat} : upd (upd f k1 x) k2 x j = if j = k1 ∨ j = k2 then x else f j := by
  rw [up_nI, up_nI]
  by_cases e2 : j = k2
  · rw [if_pos e2, if_pos (Or.inr e2)]
  · by_cases e1 : j = k1
    · rw [if_neg e2, if_pos e1, if_pos (Or.inl e1)]
    · rw [if_neg e2, if_neg e1, if_neg (fun hh => hh.elim e1 e2)]
theorem code_ {codes : Nat → Int32} {p q : Nat} (hp : p < 12) (hq : q < 12) : fn_X2_code codes (nI p) (nI q) = some (codes (12 * p + q)) := by
  unfold fn_X2_code
  rw [ix1_, ckn_ (by omega) (by omega), nI_clamp (by omega)]
theorem lay_ {codes : Nat → Int32} {p q n b : Nat} (hp : p < 12) (hq : q < 12) (hn : n ≤ 99) (hb : b ≤ 1) : fn_X2_lay codes (nI p) (nI q) (nI n) (nI b) = some (upd (upd codes (12 * p + q) (nI (if n = 0 then 0 else 2 * n + b))) (12 * q + p) (nI (if n = 0 then 0 else 2 * n + b))) := by
  have j : ∀ v : Int32, fn_X2_lay_j22 codes (nI p) (nI q) v = some (upd (upd codes (12 * p + q) v) (12 * q + p) v) := fun v => by
    unfold fn_X2_lay_j22
    rw [ix1_, ix1_, ckn_ (show 12 * p + q < 144 by omega) (by omega)]
    dsimp only [lx_]
    rw [ckn_ (show 12 * q + p < 144 by omega) (by omega), nI_clamp (by omega), nI_clamp (by omega)]
  unfold fn_X2_lay fn_X2_lay_j21
  by_cases e : n = 0
  · subst e
    rw [if_pos (show nI 0 = 0 from rfl), j, if_pos rfl]
    rfl
  · rw [if_neg (show ¬ nI n = 0 from ne_nI (b := 0) (by omega) (by omega) e), if_neg e]
    rcases (show b = 0 ∨ b = 1 by omega) with e1 | e1
    · subst e1
      rw [if_pos (show nI 0 = 0 from rfl), j, show (2 : Int32) * nI n + 0 = nI (2 * n + 0) from by rw [show (2 : Int32) = nI 2 from rfl, pk_mul, show (0 : Int32) = nI 0 from rfl, nI_add]]
    · subst e1
      rw [if_neg (show ¬ nI 1 = 0 by decide), j, show (2 : Int32) * nI n + 1 = nI (2 * n + 1) from by rw [show (2 : Int32) = nI 2 from rfl, pk_mul, show (1 : Int32) = nI 1 from rfl, nI_add]]
theorem plm_ {steps wet : Nat → Int32} {p q n b : Nat} (hp : p < 12) (hq : q < 12) (hpq : p ≠ q) (hn : n ≤ 99) (hb : b ≤ 1) (a1 : fn_X10_isPlace (nI p) = some 1) (a2 : fn_X10_isPlace (nI q) = some 1) (a3 : fn_X10_in (Int32.toInt64 (nI n)) 0 99 = some 1) : fn_X10_plank steps wet (nI p) (nI q) (nI n) (nI b) = some (steps (12 * p + q), upd (upd steps (12 * p + q) (nI n)) (12 * q + p) (nI n), upd (upd wet (12 * p + q) (nI b)) (12 * q + p) (nI b)) := by
  unfold fn_X10_plank fn_X10_plank_j89 fn_X10_at
  rw [a1, b1_so, if_neg (by decide), a2, b1_so, if_neg (by decide), if_neg (ne_nI (by omega) (by omega) hpq), a3, b1_so, if_neg (by decide)]
  simp only [b1_so, ix2_, lx_]
  rw [ckn_ (show 12 * p + q < 144 by omega) (by omega), ckn_ (show 12 * p + q < 144 by omega) (by omega), ckn_ (show 12 * q + p < 144 by omega) (by omega), nI_clamp (by omega), nI_clamp (by omega)]
  rcases (show b = 0 ∨ b = 1 by omega) with e1 | e1
  · subst e1
    simp only [show nI 0 = 0 from rfl, if_true, ckn_ (show 12 * p + q < 144 by omega) (show 144 < 2 ^ 31 by omega), ckn_ (show 12 * q + p < 144 by omega) (show 144 < 2 ^ 31 by omega)]
  · subst e1
    simp only [show ¬ nI 1 = 0 by decide, if_false, ckn_ (show 12 * p + q < 144 by omega) (show 144 < 2 ^ 31 by omega), ckn_ (show 12 * q + p < 144 by omega) (show 144 < 2 ^ 31 by omega)]
    rfl
theorem pp_plank {c_x_measured c_x_now_crowd_there c_x_now_crowd_foggy c_x_now_sights_count c_x_pad_count c_x_evening_acts c_x_evening_failedAct c_x_evening_reason c_x_evening_costs c_x_evening_walks c_x_evening_crowd_there c_x_evening_crowd_foggy c_x_tour_costs c_x_tour_firstStop c_x_odds_count c_x_odds_tenths c_m_foggy c_m_walkers c_m_sights c_m_padMany c_m_acts c_m_spent c_m_walks c_m_badAct c_m_badWhy c_m_keptAt c_m_isWriting : Int32} {c_x_now_marsh_codes c_x_now_crowd_at c_x_now_crowd_home c_x_now_crowd_light c_x_now_crowd_carries c_x_now_crowd_bearer c_x_now_sights_places c_x_now_sights_lights c_x_pad_signs c_x_evening_crowd_at c_x_evening_crowd_home c_x_evening_crowd_light c_x_evening_crowd_carries c_x_evening_crowd_bearer c_x_ways_planks c_x_ways_least c_x_ways_neighbours c_x_tour_stops c_x_tour_rest c_x_odds_planks c_m_steps c_m_wet c_m_where c_m_home c_m_light c_m_carries c_m_sightPlace c_m_sightLight c_m_pad c_m_act c_m_whose c_m_whom c_m_tens c_m_had c_m_leaves c_m_apart c_m_stop c_m_restOf c_m_group c_m_along : Nat → Int32} (hR : RR c_x_measured c_x_now_marsh_codes c_x_now_crowd_there c_x_now_crowd_foggy c_x_now_crowd_at c_x_now_crowd_home c_x_now_crowd_light c_x_now_crowd_carries c_x_now_crowd_bearer c_x_now_sights_count c_x_now_sights_places c_x_now_sights_lights c_x_pad_count c_x_pad_signs c_x_evening_acts c_x_evening_failedAct c_x_evening_reason c_x_evening_costs c_x_evening_walks c_x_evening_crowd_there c_x_evening_crowd_foggy c_x_evening_crowd_at c_x_evening_crowd_home c_x_evening_crowd_light c_x_evening_crowd_carries c_x_evening_crowd_bearer c_x_ways_planks c_x_ways_least c_x_ways_neighbours c_x_tour_costs c_x_tour_firstStop c_x_tour_stops c_x_tour_rest c_x_odds_count c_x_odds_tenths c_x_odds_planks c_m_foggy c_m_walkers c_m_sights c_m_padMany c_m_acts c_m_spent c_m_walks c_m_badAct c_m_badWhy c_m_keptAt c_m_isWriting c_m_steps c_m_wet c_m_where c_m_home c_m_light c_m_carries c_m_sightPlace c_m_sightLight c_m_pad c_m_act c_m_whose c_m_whom c_m_tens c_m_had c_m_leaves c_m_apart c_m_stop c_m_restOf c_m_group c_m_along) (x1 : Int32) (x2 : Int32) (x3 : Int32) (x4 : Int32) (hbx4 : x4 = 0 ∨ x4 = 1) : ∃ (r : Int32) (w0 : Int32) (w1 : Nat → Int32) (v0 : Nat → Int32) (v1 : Nat → Int32), fn_X9_plank c_x_measured c_x_now_marsh_codes x1 x2 x3 x4 = some (r, w0, w1) ∧ fn_X10_plank c_m_steps c_m_wet x1 x2 x3 x4 = some (r, v0, v1) ∧ RR w0 w1 c_x_now_crowd_there c_x_now_crowd_foggy c_x_now_crowd_at c_x_now_crowd_home c_x_now_crowd_light c_x_now_crowd_carries c_x_now_crowd_bearer c_x_now_sights_count c_x_now_sights_places c_x_now_sights_lights c_x_pad_count c_x_pad_signs c_x_evening_acts c_x_evening_failedAct c_x_evening_reason c_x_evening_costs c_x_evening_walks c_x_evening_crowd_there c_x_evening_crowd_foggy c_x_evening_crowd_at c_x_evening_crowd_home c_x_evening_crowd_light c_x_evening_crowd_carries c_x_evening_crowd_bearer c_x_ways_planks c_x_ways_least c_x_ways_neighbours c_x_tour_costs c_x_tour_firstStop c_x_tour_stops c_x_tour_rest c_x_odds_count c_x_odds_tenths c_x_odds_planks c_m_foggy c_m_walkers c_m_sights c_m_padMany c_m_acts c_m_spent c_m_walks c_m_badAct c_m_badWhy c_m_keptAt c_m_isWriting v0 v1 c_m_where c_m_home c_m_light c_m_carries c_m_sightPlace c_m_sightLight c_m_pad c_m_act c_m_whose c_m_whom c_m_tens c_m_had c_m_leaves c_m_apart c_m_stop c_m_restOf c_m_group c_m_along := by
  obtain ⟨s, w, T, F, a, h, li, cr, br, sc, sp, sl, pc, g, h1, h2, ⟨hT, hT1, hT2⟩, ⟨hF, hF1, hF2⟩, h5, h6, h7, ⟨hsc, hs1, hs2⟩, h9, ⟨hpc, hp1, hp2⟩, h11, h12⟩ := id hR
  have ref : ∀ r : Int32, fn_X9_plank c_x_measured c_x_now_marsh_codes x1 x2 x3 x4 = some (r, c_x_measured, c_x_now_marsh_codes) → fn_X10_plank c_m_steps c_m_wet x1 x2 x3 x4 = some (r, c_m_steps, c_m_wet) → ∃ (r : Int32) (w0 : Int32) (w1 v0 v1 : Nat → Int32), fn_X9_plank c_x_measured c_x_now_marsh_codes x1 x2 x3 x4 = some (r, w0, w1) ∧ fn_X10_plank c_m_steps c_m_wet x1 x2 x3 x4 = some (r, v0, v1) ∧ (w0 = c_x_measured ∧ w1 = c_x_now_marsh_codes ∧ v0 = c_m_steps ∧ v1 = c_m_wet ∨ ∃ (s w : Nat → Nat), w0 = 0 ∧ pl_ w1 v0 v1 s w ∧ sy_ s w) := fun r e1 e2 => ⟨r, _, _, _, _, e1, e2, Or.inl ⟨rfl, rfl, rfl, rfl⟩⟩
  suffices hq : ∃ (r : Int32) (w0 : Int32) (w1 v0 v1 : Nat → Int32), fn_X9_plank c_x_measured c_x_now_marsh_codes x1 x2 x3 x4 = some (r, w0, w1) ∧ fn_X10_plank c_m_steps c_m_wet x1 x2 x3 x4 = some (r, v0, v1) ∧ (w0 = c_x_measured ∧ w1 = c_x_now_marsh_codes ∧ v0 = c_m_steps ∧ v1 = c_m_wet ∨ ∃ (s w : Nat → Nat), w0 = 0 ∧ pl_ w1 v0 v1 s w ∧ sy_ s w) by
    obtain ⟨r, w0, w1, v0, v1, e1, e2, e3⟩ := hq
    refine ⟨r, w0, w1, v0, v1, e1, e2, ?_⟩
    rcases e3 with ⟨rfl, rfl, rfl, rfl⟩ | ⟨s', w', rfl, b1, b2⟩
    · exact hR
    · exact ⟨s', w', T, F, a, h, li, cr, br, sc, sp, sl, pc, g, b1, b2, ⟨hT, hT1, hT2⟩, ⟨hF, hF1, hF2⟩, h5, h6, h7, ⟨hsc, hs1, hs2⟩, h9, ⟨hpc, hp1, hp2⟩, h11, Or.inl rfl⟩
  rcases pc_ x1 with ⟨q1, q2, -⟩ | ⟨p, hp, ep, q1, q2⟩
  · refine ref (-1) ?_ ?_
    · unfold fn_X9_plank; rw [q1]; rfl
    · unfold fn_X10_plank; rw [q2]; rfl
  · rcases pc_ x2 with ⟨q3, q4, -⟩ | ⟨q, hq, eq, q3, q4⟩
    · refine ref (-1) ?_ ?_
      · unfold fn_X9_plank; rw [q1, b1_so, if_neg (by decide), q3]; rfl
      · unfold fn_X10_plank; rw [q2, b1_so, if_neg (by decide), q4]; rfl
    · by_cases hpq : p = q
      · have e12 : x1 = x2 := by rw [ep, eq, hpq]
        refine ref (-1) ?_ ?_
        · unfold fn_X9_plank; rw [q1, b1_so, if_neg (by decide), q3, b1_so, if_neg (by decide), if_pos e12]
        · unfold fn_X10_plank; rw [q2, b1_so, if_neg (by decide), q4, b1_so, if_neg (by decide), if_pos e12]
      · have n12 : ¬ x1 = x2 := by rw [ep, eq]; exact ne_nI (by omega) (by omega) hpq
        rcases rg0_ x3 99 99 99 rfl rfl with ⟨q5, q6, -⟩ | ⟨n, hn, en, q5, q6⟩
        · refine ref (-2) ?_ ?_
          · unfold fn_X9_plank; rw [q1, b1_so, if_neg (by decide), q3, b1_so, if_neg (by decide), if_neg n12, q5]; rfl
          · unfold fn_X10_plank; rw [q2, b1_so, if_neg (by decide), q4, b1_so, if_neg (by decide), if_neg n12, q6]; rfl
        · obtain ⟨b, hb, eb⟩ : ∃ b, b ≤ 1 ∧ x4 = nI b := by
            rcases hbx4 with e | e
            · exact ⟨0, by omega, e⟩
            · exact ⟨1, by omega, e⟩
          subst ep; subst eq; subst en; subst eb
          obtain ⟨g1, g2, g3, g4, g5⟩ := h1 (12 * p + q) (by omega)
          refine ⟨nI (s (12 * p + q)), 0, upd (upd c_x_now_marsh_codes (12 * p + q) (nI (if n = 0 then 0 else 2 * n + b))) (12 * q + p) (nI (if n = 0 then 0 else 2 * n + b)), upd (upd c_m_steps (12 * p + q) (nI n)) (12 * q + p) (nI n), upd (upd c_m_wet (12 * p + q) (nI b)) (12 * q + p) (nI b), ?_, ?_, Or.inr ⟨fun j => if j = 12 * p + q ∨ j = 12 * q + p then n else s j, fun j => if j = 12 * p + q ∨ j = 12 * q + p then b else w j, rfl, ?_, ?_⟩⟩
          · unfold fn_X9_plank
            rw [q1, b1_so, if_neg (by decide), q3, b1_so, if_neg (by decide), if_neg n12, q5, b1_so, if_neg (by decide), code_ hp hq, b1_so, lay_ hp hq hn hb, b1_so, g5, show (2 : Int32) = nI 2 from rfl, pk_div (by unfold cd_; split <;> omega) (by omega) (by omega), show cd_ s w (12 * p + q) / 2 = s (12 * p + q) by unfold cd_; split <;> omega]
          · rw [plm_ hp hq hpq hn hb q2 q4 q6, g3]
          · intro k hk
            obtain ⟨f1, f2, f3, f4, f5⟩ := h1 k hk
            rw [up2_, up2_, up2_]
            unfold cd_
            by_cases e : k = 12 * p + q ∨ k = 12 * q + p
            · simp only [if_pos e]
              exact ⟨hn, hb, trivial, trivial, trivial⟩
            · simp only [if_neg e]
              exact ⟨f1, f2, f3, f4, f5⟩
          · refine ⟨fun p' q' hp' hq' => ?_, fun p' hp' => ?_⟩
            · obtain ⟨y1, y2⟩ := h2.1 p' q' hp' hq'
              by_cases e : 12 * p' + q' = 12 * p + q ∨ 12 * p' + q' = 12 * q + p
              · have e' : 12 * q' + p' = 12 * p + q ∨ 12 * q' + p' = 12 * q + p := by omega
                simp only [if_pos e, if_pos e', and_self]
              · have e' : ¬ (12 * q' + p' = 12 * p + q ∨ 12 * q' + p' = 12 * q + p) := by omega
                simp only [if_neg e, if_neg e']
                exact ⟨y1, y2⟩
            · have e : ¬ (12 * p' + p' = 12 * p + q ∨ 12 * p' + p' = 12 * q + p) := by omega
              simp only [if_neg e]
              exact h2.2 p' hp'
