/-! ===== judge, behind, who, done ===== -/
theorem b13_so {α1 α2 α3 α4 α5 α6 α7 α8 α9 α10 α11 α12 α13 β : Type} (x1 : α1) (x2 : α2) (x3 : α3) (x4 : α4) (x5 : α5) (x6 : α6) (x7 : α7) (x8 : α8) (x9 : α9) (x10 : α10) (x11 : α11) (x12 : α12) (x13 : α13) (k : α1 → α2 → α3 → α4 → α5 → α6 → α7 → α8 → α9 → α10 → α11 → α12 → α13 → Option β) : b13_ (some (x1, x2, x3, x4, x5, x6, x7, x8, x9, x10, x11, x12, x13)) k = k x1 x2 x3 x4 x5 x6 x7 x8 x9 x10 x11 x12 x13 := rfl
theorem b16_so {α1 α2 α3 α4 α5 α6 α7 α8 α9 α10 α11 α12 α13 α14 α15 α16 β : Type} (x1 : α1) (x2 : α2) (x3 : α3) (x4 : α4) (x5 : α5) (x6 : α6) (x7 : α7) (x8 : α8) (x9 : α9) (x10 : α10) (x11 : α11) (x12 : α12) (x13 : α13) (x14 : α14) (x15 : α15) (x16 : α16) (k : α1 → α2 → α3 → α4 → α5 → α6 → α7 → α8 → α9 → α10 → α11 → α12 → α13 → α14 → α15 → α16 → Option β) : b16_ (some (x1, x2, x3, x4, x5, x6, x7, x8, x9, x10, x11, x12, x13, x14, x15, x16)) k = k x1 x2 x3 x4 x5 x6 x7 x8 x9 x10 x11 x12 x13 x14 x15 x16 := rfl
theorem refusal_ {T : Nat} (hT : T < 64) {codes steps wet : Nat → Int32} {s w : Nat → Nat} (h1 : pl_ codes steps wet s w) {F : Nat} (hF : F ≤ 1) {a h li cr br : Nat → Nat} {at1 home li1 wh2 home2 li2 ca1 be1 ca2 : Nat → Int32} (h5 : wk_ at1 home li1 wh2 home2 li2 a h li) (h6 : cy1_ ca1 be1 ca2 cr br) (h7 : cy2_ T cr br) {signs pad : Nat → Int32} {g : Nat → Nat} (h11 : pd_ signs pad g) {pc : Nat} (hpc : pc ≤ 60) (y1 y2 y3 y4 y5 y6 y7 : Int32) (a0 h0 l0 c0 b0 : Nat → Int32) (z0 z1 z2 z3 z4 : Int32) (A0 O0 W0 T0 hd0 lv0 : Nat → Int32) :
    (∃ (M : Int32) (A O W Te : Nat → Int32), fn_X9_playEvening codes (nI T) (nI F) at1 home li1 ca1 be1 (nI pc) signs y1 y2 y3 y4 y5 y6 y7 a0 h0 l0 c0 b0 = some (-5, y1, y2, y3, y4, y5, y6, y7, a0, h0, l0, c0, b0) ∧ fn_X10_refusal (nI F) (nI T) (nI pc) z0 z1 z2 z3 z4 steps wet wh2 li2 ca2 pad A0 O0 W0 T0 hd0 lv0 = some (-5, nI F, M, z1, z2, z3, z4, wh2, li2, ca2, A, O, W, Te, hd0, lv0)) ∨
    ∃ (m : Nat) (A O W Te : Nat → Int32) (ac fa re cs ws : Int32) (F' : Nat) (a' li' cr' br' : Nat → Nat) (at1' li1' ca1' be1' W1 L1 C1 hd lv : Nat → Int32), fn_X9_playEvening codes (nI T) (nI F) at1 home li1 ca1 be1 (nI pc) signs y1 y2 y3 y4 y5 y6 y7 a0 h0 l0 c0 b0 = some (if fa = (-6) then 0 else (-3), ac, fa, re, cs, ws, nI T, nI F', at1', va_cpy home h0 0 0 6, li1', ca1', be1') ∧ fn_X10_refusal (nI F) (nI T) (nI pc) z0 z1 z2 z3 z4 steps wet wh2 li2 ca2 pad A0 O0 W0 T0 hd0 lv0 = some (if fa = (-6) then (-6) else (-3), nI F, nI m, cs, ws, fa, re, W1, L1, C1, A, O, W, Te, hd, lv) ∧ (fa = (-6) → ac = nI m) ∧ (∀ j, j < 6 → W1 j = wh2 j ∧ L1 j = li2 j ∧ C1 j = ca2 j) ∧ (∀ j, j < 6 → at1' j = nI (a' j) ∧ li1' j = nI (li' j) ∧ ca1' j = enc_ (cr' j) ∧ be1' j = enc_ (br' j) ∧ lv j = nI (a' j) ∧ lv (6 + j) = nI (li' j) ∧ lv (12 + j) = enc_ (cr' j) ∧ lv (18 + j) = enc_ (br' j) ∧ a' j < 12) ∧ ∃ (F2 : Nat) (a2 lx2 cr2 br2 : Nat → Nat) (wh3 li3 ca3 : Nat → Int32), nI F2 = nI F' ∧ (∀ q1 q2 q3 q4 : Int32, fn_X10_goEvening (nI F) (nI T) (nI m) q1 q2 q3 q4 steps wet W1 L1 C1 A O W Te = some (nI F', cs, ws, fa, re, wh3, li3, ca3)) ∧ evq_ T (va_cpy home h0 0 0 6) home2 h F2 a2 lx2 cr2 br2 at1' li1' ca1' be1' wh3 li3 ca3 := by
  obtain ⟨r, M, A, O, W, Te, f1, f2, f3⟩ := fault_ h11 hpc z0 A0 O0 W0 T0
  unfold fn_X9_playEvening fn_X10_refusal
  rw [f1, b1_so, f2, b6_so]
  rcases f3 with ⟨x, hx, rfl⟩ | ⟨rfl, m, rfl, hm, hd⟩
  · refine Or.inl ⟨M, A, O, W, Te, ?_, ?_⟩
    · rw [if_neg (n6_ne (by omega))]
    · rw [if_neg (nI_pos (by omega))]
  · refine Or.inr ?_
    obtain ⟨ac, fa, re, cs, ws, F', a', li', cr', br', at1', li1', ca1', be1', wh2', li2', ca2', e1, e2, e3, e4⟩ := evening_ hT h1 hF h5 h6 h7 h11 hpc hm hd y1 y2 y3 y4 y5 y6 y7 a0 h0 l0 c0 b0 z1 z2 z3 z4
    obtain ⟨Q, s1, s2, s3⟩ := store_ hT (home := home) (home2 := home2) (h := h) (a := a) (li := li) ⟨hF, h5, h6, h7⟩ hd0
    obtain ⟨V, v1, v2, v3⟩ := store_ hT e4 lv0
    obtain ⟨W1, L1, C1, l1, l2⟩ := layq_ (nI F') wh2' li2' ca2' Q
    have hres : ∀ j, j < 6 → W1 j = wh2 j ∧ L1 j = li2 j ∧ C1 j = ca2 j := fun j hj => by
      obtain ⟨t1, t2, t3⟩ := l2 j hj
      obtain ⟨u1, u2, u3, -⟩ := s2 j hj
      rw [t1, t2, t3, u1, u2, u3]
      exact ⟨rfl, rfl, rfl⟩
    have h5r : wk_ at1 home li1 W1 home2 L1 a h li := fun j hj => by
      obtain ⟨t1, t2, -⟩ := hres j hj
      rw [t1, t2]
      exact h5 j hj
    have h6r : cy1_ ca1 be1 C1 cr br := fun j hj => by
      obtain ⟨-, -, t3⟩ := hres j hj
      rw [t3]
      exact h6 j hj
    refine ⟨m, A, O, W, Te, ac, fa, re, cs, ws, F', a', li', cr', br', at1', li1', ca1', be1', W1, L1, C1, Q, V, ?_, ?_, ?_, hres, fun j hj => ?_, ?_⟩
    · rw [if_pos rfl, e1, b12_so]
      by_cases e : fa = (-6)
      · rw [if_pos e, if_pos e]
      · rw [if_neg e, if_neg e]
    · rw [if_pos n6_lt0, s1, b1_so, e2, b8_so, v1, b1_so, l1, b4_so, s3]
      rcases e3 with ⟨rfl, -, -⟩ | ⟨x, hx, rfl⟩
      · rw [if_pos n6_lt0, if_pos rfl]
      · rw [if_neg (nI_pos (by omega)), if_neg (n6_ne (by omega))]
    · intro q
      rcases e3 with ⟨-, -, e⟩ | ⟨x, hx, rfl⟩
      · exact e
      · exact absurd q (n6_ne (by omega))
    · obtain ⟨hF', k5, k6, k7⟩ := e4
      obtain ⟨b1, b2, b3, b4, b5, b6, b7, b8, b9⟩ := k5 j hj
      obtain ⟨c1, c2, c3, c4, c5⟩ := k6 j hj
      obtain ⟨u1, u2, u3, u4⟩ := v2 j hj
      exact ⟨b4, b6, c3, c4, by rw [u1, b7], by rw [u2, b9], by rw [u3, c5], u4, b1⟩
    · obtain ⟨ac2, fa2, re2, cs2, ws2, F2, a2, lx2, cr2, br2, at2', lj2, ca2q, be2', wh3, li3, ca3, g1, g2, g3, g4⟩ := evening_ hT h1 hF h5r h6r h7 h11 hpc hm hd y1 y2 y3 y4 y5 y6 y7 a0 h0 l0 c0 b0 0 0 0 0
      rw [e1] at g1
      simp only [Option.some.injEq, Prod.mk.injEq] at g1
      obtain ⟨rfl, rfl, rfl, rfl, rfl, -, hf, rfl, -, rfl, rfl, rfl⟩ := g1
      refine ⟨F2, a2, lx2, cr2, br2, wh3, li3, ca3, hf.symm, fun q1 q2 q3 q4 => ?_, g4⟩
      rw [hf]
      exact g2
theorem pp_judge {c_x_measured c_x_now_crowd_there c_x_now_crowd_foggy c_x_now_sights_count c_x_pad_count c_x_evening_acts c_x_evening_failedAct c_x_evening_reason c_x_evening_costs c_x_evening_walks c_x_evening_crowd_there c_x_evening_crowd_foggy c_x_tour_costs c_x_tour_firstStop c_x_odds_count c_x_odds_tenths c_m_foggy c_m_walkers c_m_sights c_m_padMany c_m_acts c_m_spent c_m_walks c_m_badAct c_m_badWhy c_m_keptAt c_m_isWriting : Int32} {c_x_now_marsh_codes c_x_now_crowd_at c_x_now_crowd_home c_x_now_crowd_light c_x_now_crowd_carries c_x_now_crowd_bearer c_x_now_sights_places c_x_now_sights_lights c_x_pad_signs c_x_evening_crowd_at c_x_evening_crowd_home c_x_evening_crowd_light c_x_evening_crowd_carries c_x_evening_crowd_bearer c_x_ways_planks c_x_ways_least c_x_ways_neighbours c_x_tour_stops c_x_tour_rest c_x_odds_planks c_m_steps c_m_wet c_m_where c_m_home c_m_light c_m_carries c_m_sightPlace c_m_sightLight c_m_pad c_m_act c_m_whose c_m_whom c_m_tens c_m_had c_m_leaves c_m_apart c_m_stop c_m_restOf c_m_group c_m_along : Nat → Int32} (hR : RR c_x_measured c_x_now_marsh_codes c_x_now_crowd_there c_x_now_crowd_foggy c_x_now_crowd_at c_x_now_crowd_home c_x_now_crowd_light c_x_now_crowd_carries c_x_now_crowd_bearer c_x_now_sights_count c_x_now_sights_places c_x_now_sights_lights c_x_pad_count c_x_pad_signs c_x_evening_acts c_x_evening_failedAct c_x_evening_reason c_x_evening_costs c_x_evening_walks c_x_evening_crowd_there c_x_evening_crowd_foggy c_x_evening_crowd_at c_x_evening_crowd_home c_x_evening_crowd_light c_x_evening_crowd_carries c_x_evening_crowd_bearer c_x_ways_planks c_x_ways_least c_x_ways_neighbours c_x_tour_costs c_x_tour_firstStop c_x_tour_stops c_x_tour_rest c_x_odds_count c_x_odds_tenths c_x_odds_planks c_m_foggy c_m_walkers c_m_sights c_m_padMany c_m_acts c_m_spent c_m_walks c_m_badAct c_m_badWhy c_m_keptAt c_m_isWriting c_m_steps c_m_wet c_m_where c_m_home c_m_light c_m_carries c_m_sightPlace c_m_sightLight c_m_pad c_m_act c_m_whose c_m_whom c_m_tens c_m_had c_m_leaves c_m_apart c_m_stop c_m_restOf c_m_group c_m_along) (x1 : Int32)  : ∃ (r : Int32) (w0 : Int32) (w1 : Int32) (w2 : Int32) (w3 : Int32) (w4 : Int32) (w5 : Int32) (w6 : Int32) (w7 : Nat → Int32) (w8 : Nat → Int32) (w9 : Nat → Int32) (w10 : Nat → Int32) (w11 : Nat → Int32) (v0 : Int32) (v1 : Int32) (v2 : Int32) (v3 : Int32) (v4 : Int32) (v5 : Int32) (v6 : Nat → Int32) (v7 : Nat → Int32) (v8 : Nat → Int32) (v9 : Nat → Int32) (v10 : Nat → Int32) (v11 : Nat → Int32) (v12 : Nat → Int32) (v13 : Nat → Int32) (v14 : Nat → Int32), fn_X9_judge c_x_now_marsh_codes c_x_now_crowd_there c_x_now_crowd_foggy c_x_now_crowd_at c_x_now_crowd_home c_x_now_crowd_light c_x_now_crowd_carries c_x_now_crowd_bearer c_x_pad_count c_x_pad_signs c_x_evening_acts c_x_evening_failedAct c_x_evening_reason c_x_evening_costs c_x_evening_walks c_x_evening_crowd_there c_x_evening_crowd_foggy c_x_evening_crowd_at c_x_evening_crowd_home c_x_evening_crowd_light c_x_evening_crowd_carries c_x_evening_crowd_bearer x1 = some (r, w0, w1, w2, w3, w4, w5, w6, w7, w8, w9, w10, w11) ∧ fn_X10_judge c_m_foggy c_m_walkers c_m_padMany c_m_acts c_m_spent c_m_walks c_m_badAct c_m_badWhy c_m_steps c_m_wet c_m_where c_m_light c_m_carries c_m_pad c_m_act c_m_whose c_m_whom c_m_tens c_m_had c_m_leaves x1 = some (r, v0, v1, v2, v3, v4, v5, v6, v7, v8, v9, v10, v11, v12, v13, v14) ∧ RR c_x_measured c_x_now_marsh_codes c_x_now_crowd_there c_x_now_crowd_foggy c_x_now_crowd_at c_x_now_crowd_home c_x_now_crowd_light c_x_now_crowd_carries c_x_now_crowd_bearer c_x_now_sights_count c_x_now_sights_places c_x_now_sights_lights c_x_pad_count c_x_pad_signs w0 w1 w2 w3 w4 w5 w6 w7 w8 w9 w10 w11 c_x_ways_planks c_x_ways_least c_x_ways_neighbours c_x_tour_costs c_x_tour_firstStop c_x_tour_stops c_x_tour_rest c_x_odds_count c_x_odds_tenths c_x_odds_planks v0 c_m_walkers c_m_sights c_m_padMany v1 v2 v3 v4 v5 c_m_keptAt c_m_isWriting c_m_steps c_m_wet v6 c_m_home v7 v8 c_m_sightPlace c_m_sightLight c_m_pad v9 v10 v11 v12 v13 v14 c_m_apart c_m_stop c_m_restOf c_m_group c_m_along := by
  obtain ⟨s, w, T, F, a, h, li, cr, br, sc, sp, sl, pc, g, h1, h2, ⟨hT, hT1, hT2⟩, ⟨hF, hF1, hF2⟩, h5, h6, h7, ⟨hsc, hs1, hs2⟩, h9, ⟨hpc, hp1, hp2⟩, h11, h12⟩ := id hR
  rcases rg0_ x1 2 2 2 rfl rfl with ⟨q1, q2, -⟩ | ⟨n, hn, en, q1, q2⟩
  · refine ⟨-2, c_x_evening_acts, c_x_evening_failedAct, c_x_evening_reason, c_x_evening_costs, c_x_evening_walks, c_x_evening_crowd_there, c_x_evening_crowd_foggy, c_x_evening_crowd_at, c_x_evening_crowd_home, c_x_evening_crowd_light, c_x_evening_crowd_carries, c_x_evening_crowd_bearer, c_m_foggy, c_m_acts, c_m_spent, c_m_walks, c_m_badAct, c_m_badWhy, c_m_where, c_m_light, c_m_carries, c_m_act, c_m_whose, c_m_whom, c_m_tens, c_m_had, c_m_leaves, ?_, ?_, hR⟩
    · unfold fn_X9_judge; rw [q1]; rfl
    · unfold fn_X10_judge; rw [q2]; rfl
  · rcases refusal_ hT h1 hF h5 h6 h7 h11 hpc c_x_evening_acts c_x_evening_failedAct c_x_evening_reason c_x_evening_costs c_x_evening_walks c_x_evening_crowd_there c_x_evening_crowd_foggy c_x_evening_crowd_at c_x_evening_crowd_home c_x_evening_crowd_light c_x_evening_crowd_carries c_x_evening_crowd_bearer c_m_acts c_m_spent c_m_walks c_m_badAct c_m_badWhy c_m_act c_m_whose c_m_whom c_m_tens c_m_had c_m_leaves with ⟨M, A, O, W, Te, e1, e2⟩ | ⟨m, A, O, W, Te, ac, fa, re, cs, ws, F', a', li', cr', br', at1', li1', ca1', be1', W1, L1, C1, hd, lv, e1, e2, e3, e4, e5, -⟩
    · refine ⟨-5, c_x_evening_acts, c_x_evening_failedAct, c_x_evening_reason, c_x_evening_costs, c_x_evening_walks, c_x_evening_crowd_there, c_x_evening_crowd_foggy, c_x_evening_crowd_at, c_x_evening_crowd_home, c_x_evening_crowd_light, c_x_evening_crowd_carries, c_x_evening_crowd_bearer, nI F, M, c_m_spent, c_m_walks, c_m_badAct, c_m_badWhy, c_m_where, c_m_light, c_m_carries, A, O, W, Te, c_m_had, c_m_leaves, ?_, ?_, ?_⟩
      · unfold fn_X9_judge
        rw [q1, b1_so, if_neg (by decide), hT1, hF1, hp1, e1, b13_so, if_pos rfl]
      · unfold fn_X10_judge
        rw [q2, b1_so, if_neg (by decide), hT2, hF2, hp2, e2, b16_so, if_pos rfl]
      · exact ⟨s, w, T, F, a, h, li, cr, br, sc, sp, sl, pc, g, h1, h2, ⟨hT, hT1, hT2⟩, ⟨hF, hF1, rfl⟩, h5, h6, h7, ⟨hsc, hs1, hs2⟩, h9, ⟨hpc, hp1, hp2⟩, h11, h12⟩
    · refine ⟨if n = 0 then fa else if n = 1 then re else if fa = (-6) then cs else (-3), ac, fa, re, cs, ws, nI T, nI F', at1', va_cpy c_x_now_crowd_home c_x_evening_crowd_home 0 0 6, li1', ca1', be1', nI F, nI m, cs, ws, fa, re, W1, L1, C1, A, O, W, Te, hd, lv, ?_, ?_, ?_⟩
      · unfold fn_X9_judge
        rw [q1, b1_so, if_neg (by decide), hT1, hF1, hp1, e1, b13_so]
        have hne : ¬ (if fa = (-6) then (0 : Int32) else (-3)) = (-5) := by split <;> decide
        rw [if_neg hne]
        rcases (show n = 0 ∨ n = 1 ∨ n = 2 by omega) with e | e | e
        · rw [if_pos (show x1 = 0 by rw [en, e]; rfl), if_pos e]
        · rw [if_neg (show ¬ x1 = 0 by rw [en, e]; decide), if_pos (show x1 = 1 by rw [en, e]; rfl), if_neg (show ¬ n = 0 by omega), if_pos e]
        · rw [if_neg (show ¬ x1 = 0 by rw [en, e]; decide), if_neg (show ¬ x1 = 1 by rw [en, e]; decide), if_neg (show ¬ n = 0 by omega), if_neg (show ¬ n = 1 by omega)]
          by_cases ef : fa = (-6)
          · rw [if_pos ef, if_pos rfl, if_pos ef]
          · rw [if_neg ef, if_neg (by decide), if_neg ef]
      · unfold fn_X10_judge fn_X10_judge_j39
        rw [q2, b1_so, if_neg (by decide), hT2, hF2, hp2, e2, b16_so]
        have hne : ¬ (if fa = (-6) then (-6 : Int32) else (-3)) = (-5) := by split <;> decide
        rw [if_neg hne]
        rcases (show n = 0 ∨ n = 1 ∨ n = 2 by omega) with e | e | e
        · rw [if_pos (show x1 ≤ 1 by rw [en, e]; decide), if_pos (show x1 = 0 by rw [en, e]; rfl), if_pos e]
        · rw [if_pos (show x1 ≤ 1 by rw [en, e]; decide), if_neg (show ¬ x1 = 0 by rw [en, e]; decide), if_pos (show x1 = 1 by rw [en, e]; rfl), if_neg (show ¬ n = 0 by omega), if_pos e]
        · rw [if_neg (show ¬ x1 ≤ 1 by rw [en, e]; decide), if_neg (show ¬ x1 = 0 by rw [en, e]; decide), if_neg (show ¬ x1 = 1 by rw [en, e]; decide), if_neg (show ¬ n = 0 by omega), if_neg (show ¬ n = 1 by omega)]
          by_cases ef : fa = (-6)
          · rw [if_pos ef, if_neg (by decide), if_pos ef]
          · rw [if_neg ef, if_pos rfl, if_neg ef]
      · refine ⟨s, w, T, F, a, h, li, cr, br, sc, sp, sl, pc, g, h1, h2, ⟨hT, hT1, hT2⟩, ⟨hF, hF1, rfl⟩, fun j hj => ?_, fun j hj => ?_, h7, ⟨hsc, hs1, hs2⟩, h9, ⟨hpc, hp1, hp2⟩, h11, h12⟩
        · obtain ⟨t1, t2, -⟩ := e4 j hj
          rw [t1, t2]; exact h5 j hj
        · obtain ⟨-, -, t3⟩ := e4 j hj
          rw [t3]; exact h6 j hj
theorem pp_behind {c_x_measured c_x_now_crowd_there c_x_now_crowd_foggy c_x_now_sights_count c_x_pad_count c_x_evening_acts c_x_evening_failedAct c_x_evening_reason c_x_evening_costs c_x_evening_walks c_x_evening_crowd_there c_x_evening_crowd_foggy c_x_tour_costs c_x_tour_firstStop c_x_odds_count c_x_odds_tenths c_m_foggy c_m_walkers c_m_sights c_m_padMany c_m_acts c_m_spent c_m_walks c_m_badAct c_m_badWhy c_m_keptAt c_m_isWriting : Int32} {c_x_now_marsh_codes c_x_now_crowd_at c_x_now_crowd_home c_x_now_crowd_light c_x_now_crowd_carries c_x_now_crowd_bearer c_x_now_sights_places c_x_now_sights_lights c_x_pad_signs c_x_evening_crowd_at c_x_evening_crowd_home c_x_evening_crowd_light c_x_evening_crowd_carries c_x_evening_crowd_bearer c_x_ways_planks c_x_ways_least c_x_ways_neighbours c_x_tour_stops c_x_tour_rest c_x_odds_planks c_m_steps c_m_wet c_m_where c_m_home c_m_light c_m_carries c_m_sightPlace c_m_sightLight c_m_pad c_m_act c_m_whose c_m_whom c_m_tens c_m_had c_m_leaves c_m_apart c_m_stop c_m_restOf c_m_group c_m_along : Nat → Int32} (hR : RR c_x_measured c_x_now_marsh_codes c_x_now_crowd_there c_x_now_crowd_foggy c_x_now_crowd_at c_x_now_crowd_home c_x_now_crowd_light c_x_now_crowd_carries c_x_now_crowd_bearer c_x_now_sights_count c_x_now_sights_places c_x_now_sights_lights c_x_pad_count c_x_pad_signs c_x_evening_acts c_x_evening_failedAct c_x_evening_reason c_x_evening_costs c_x_evening_walks c_x_evening_crowd_there c_x_evening_crowd_foggy c_x_evening_crowd_at c_x_evening_crowd_home c_x_evening_crowd_light c_x_evening_crowd_carries c_x_evening_crowd_bearer c_x_ways_planks c_x_ways_least c_x_ways_neighbours c_x_tour_costs c_x_tour_firstStop c_x_tour_stops c_x_tour_rest c_x_odds_count c_x_odds_tenths c_x_odds_planks c_m_foggy c_m_walkers c_m_sights c_m_padMany c_m_acts c_m_spent c_m_walks c_m_badAct c_m_badWhy c_m_keptAt c_m_isWriting c_m_steps c_m_wet c_m_where c_m_home c_m_light c_m_carries c_m_sightPlace c_m_sightLight c_m_pad c_m_act c_m_whose c_m_whom c_m_tens c_m_had c_m_leaves c_m_apart c_m_stop c_m_restOf c_m_group c_m_along) (x1 : Int32) (x2 : Int32)  : ∃ (r : Int32) (w0 : Int32) (w1 : Int32) (w2 : Int32) (w3 : Int32) (w4 : Int32) (w5 : Int32) (w6 : Int32) (w7 : Nat → Int32) (w8 : Nat → Int32) (w9 : Nat → Int32) (w10 : Nat → Int32) (w11 : Nat → Int32) (v0 : Int32) (v1 : Int32) (v2 : Int32) (v3 : Int32) (v4 : Int32) (v5 : Int32) (v6 : Nat → Int32) (v7 : Nat → Int32) (v8 : Nat → Int32) (v9 : Nat → Int32) (v10 : Nat → Int32) (v11 : Nat → Int32) (v12 : Nat → Int32) (v13 : Nat → Int32) (v14 : Nat → Int32), fn_X9_behind c_x_now_marsh_codes c_x_now_crowd_there c_x_now_crowd_foggy c_x_now_crowd_at c_x_now_crowd_home c_x_now_crowd_light c_x_now_crowd_carries c_x_now_crowd_bearer c_x_pad_count c_x_pad_signs c_x_evening_acts c_x_evening_failedAct c_x_evening_reason c_x_evening_costs c_x_evening_walks c_x_evening_crowd_there c_x_evening_crowd_foggy c_x_evening_crowd_at c_x_evening_crowd_home c_x_evening_crowd_light c_x_evening_crowd_carries c_x_evening_crowd_bearer x1 x2 = some (r, w0, w1, w2, w3, w4, w5, w6, w7, w8, w9, w10, w11) ∧ fn_X10_behind c_m_foggy c_m_walkers c_m_padMany c_m_acts c_m_spent c_m_walks c_m_badAct c_m_badWhy c_m_steps c_m_wet c_m_where c_m_light c_m_carries c_m_pad c_m_act c_m_whose c_m_whom c_m_tens c_m_had c_m_leaves x1 x2 = some (r, v0, v1, v2, v3, v4, v5, v6, v7, v8, v9, v10, v11, v12, v13, v14) ∧ RR c_x_measured c_x_now_marsh_codes c_x_now_crowd_there c_x_now_crowd_foggy c_x_now_crowd_at c_x_now_crowd_home c_x_now_crowd_light c_x_now_crowd_carries c_x_now_crowd_bearer c_x_now_sights_count c_x_now_sights_places c_x_now_sights_lights c_x_pad_count c_x_pad_signs w0 w1 w2 w3 w4 w5 w6 w7 w8 w9 w10 w11 c_x_ways_planks c_x_ways_least c_x_ways_neighbours c_x_tour_costs c_x_tour_firstStop c_x_tour_stops c_x_tour_rest c_x_odds_count c_x_odds_tenths c_x_odds_planks v0 c_m_walkers c_m_sights c_m_padMany v1 v2 v3 v4 v5 c_m_keptAt c_m_isWriting c_m_steps c_m_wet v6 c_m_home v7 v8 c_m_sightPlace c_m_sightLight c_m_pad v9 v10 v11 v12 v13 v14 c_m_apart c_m_stop c_m_restOf c_m_group c_m_along := by
  obtain ⟨s, w, T, F, a, h, li, cr, br, sc, sp, sl, pc, g, h1, h2, ⟨hT, hT1, hT2⟩, ⟨hF, hF1, hF2⟩, h5, h6, h7, ⟨hsc, hs1, hs2⟩, h9, ⟨hpc, hp1, hp2⟩, h11, h12⟩ := id hR
  rcases hs_ hT x1 with ⟨r1, r2, -⟩ | ⟨j, hj, ej, hb, r1, r2⟩
  · refine ⟨-1, c_x_evening_acts, c_x_evening_failedAct, c_x_evening_reason, c_x_evening_costs, c_x_evening_walks, c_x_evening_crowd_there, c_x_evening_crowd_foggy, c_x_evening_crowd_at, c_x_evening_crowd_home, c_x_evening_crowd_light, c_x_evening_crowd_carries, c_x_evening_crowd_bearer, c_m_foggy, c_m_acts, c_m_spent, c_m_walks, c_m_badAct, c_m_badWhy, c_m_where, c_m_light, c_m_carries, c_m_act, c_m_whose, c_m_whom, c_m_tens, c_m_had, c_m_leaves, ?_, ?_, hR⟩
    · unfold fn_X9_behind; rw [hT1, r1]; rfl
    · unfold fn_X10_behind; rw [hT2, r2]; rfl
  · rcases rg0_ x2 3 3 3 rfl rfl with ⟨q1, q2, -⟩ | ⟨n, hn, en, q1, q2⟩
    · refine ⟨-2, c_x_evening_acts, c_x_evening_failedAct, c_x_evening_reason, c_x_evening_costs, c_x_evening_walks, c_x_evening_crowd_there, c_x_evening_crowd_foggy, c_x_evening_crowd_at, c_x_evening_crowd_home, c_x_evening_crowd_light, c_x_evening_crowd_carries, c_x_evening_crowd_bearer, c_m_foggy, c_m_acts, c_m_spent, c_m_walks, c_m_badAct, c_m_badWhy, c_m_where, c_m_light, c_m_carries, c_m_act, c_m_whose, c_m_whom, c_m_tens, c_m_had, c_m_leaves, ?_, ?_, hR⟩
      · unfold fn_X9_behind; rw [hT1, r1, b1_so, if_neg (by decide), q1]; rfl
      · unfold fn_X10_behind; rw [hT2, r2, b1_so, if_neg (by decide), q2]; rfl
    · rcases refusal_ hT h1 hF h5 h6 h7 h11 hpc c_x_evening_acts c_x_evening_failedAct c_x_evening_reason c_x_evening_costs c_x_evening_walks c_x_evening_crowd_there c_x_evening_crowd_foggy c_x_evening_crowd_at c_x_evening_crowd_home c_x_evening_crowd_light c_x_evening_crowd_carries c_x_evening_crowd_bearer c_m_acts c_m_spent c_m_walks c_m_badAct c_m_badWhy c_m_act c_m_whose c_m_whom c_m_tens c_m_had c_m_leaves with ⟨M, A, O, W, Te, e1, e2⟩ | ⟨m, A, O, W, Te, ac, fa, re, cs, ws, F', a', li', cr', br', at1', li1', ca1', be1', W1, L1, C1, hd, lv, e1, e2, e3, e4, e5, -⟩
      · refine ⟨-5, c_x_evening_acts, c_x_evening_failedAct, c_x_evening_reason, c_x_evening_costs, c_x_evening_walks, c_x_evening_crowd_there, c_x_evening_crowd_foggy, c_x_evening_crowd_at, c_x_evening_crowd_home, c_x_evening_crowd_light, c_x_evening_crowd_carries, c_x_evening_crowd_bearer, nI F, M, c_m_spent, c_m_walks, c_m_badAct, c_m_badWhy, c_m_where, c_m_light, c_m_carries, A, O, W, Te, c_m_had, c_m_leaves, ?_, ?_, ?_⟩
        · unfold fn_X9_behind
          rw [hT1, r1, b1_so, if_neg (by decide), q1, b1_so, if_neg (by decide), hF1, hp1, e1, b13_so, if_neg (by decide)]
        · unfold fn_X10_behind
          rw [hT2, r2, b1_so, if_neg (by decide), q2, b1_so, if_neg (by decide), hF2, hp2, e2, b16_so, if_neg (by decide)]
        · exact ⟨s, w, T, F, a, h, li, cr, br, sc, sp, sl, pc, g, h1, h2, ⟨hT, hT1, hT2⟩, ⟨hF, hF1, rfl⟩, h5, h6, h7, ⟨hsc, hs1, hs2⟩, h9, ⟨hpc, hp1, hp2⟩, h11, h12⟩
      · obtain ⟨u1, u2, u3, u4, u5, u6, u7, u8, u9⟩ := e5 j hj
        refine ⟨if fa = (-6) then (if n = 0 then nI (a' j) else if n = 1 then nI (li' j) else if n = 2 then enc_ (cr' j) else enc_ (br' j)) else (-3), ac, fa, re, cs, ws, nI T, nI F', at1', va_cpy c_x_now_crowd_home c_x_evening_crowd_home 0 0 6, li1', ca1', be1', nI F, nI m, cs, ws, fa, re, W1, L1, C1, A, O, W, Te, hd, lv, ?_, ?_, ?_⟩
        · unfold fn_X9_behind
          rw [hT1, r1, b1_so, if_neg (by decide), q1, b1_so, if_neg (by decide), hF1, hp1, e1, b13_so, ej, ckn_ hj (by omega), ckn_ hj (by omega), ckn_ hj (by omega), ckn_ hj (by omega), nI_clamp (by omega), u1, u2, u3, u4]
          by_cases ef : fa = (-6)
          · rw [if_pos ef, if_pos rfl, if_pos ef]
            rcases (show n = 0 ∨ n = 1 ∨ n = 2 ∨ n = 3 by omega) with e | e | e | e <;> subst e <;> subst en <;> rfl
          · rw [if_neg ef, if_neg (by decide), if_neg ef]
        · unfold fn_X10_behind
          rw [hT2, r2, b1_so, if_neg (by decide), q2, b1_so, if_neg (by decide), hF2, hp2, e2, b16_so, ej, en, show (6 : Int32) * nI n + nI j = nI (6 * n + j) by rw [show (6 : Int32) = nI 6 from rfl, pk_mul, nI_add], ckn_ (show 6 * n + j < 25 by omega) (by omega), nI_clamp (by omega)]
          by_cases ef : fa = (-6)
          · rw [if_pos ef, if_pos rfl, if_pos ef]
            rcases (show n = 0 ∨ n = 1 ∨ n = 2 ∨ n = 3 by omega) with e | e | e | e
            · subst e; rw [if_pos rfl, show 6 * 0 + j = j by omega, u5]
            · subst e; rw [if_neg (by decide), if_pos rfl, show 6 * 1 + j = 6 + j by omega, u6]
            · subst e; rw [if_neg (by decide), if_neg (by decide), if_pos rfl, show 6 * 2 + j = 12 + j by omega, u7]
            · subst e; rw [if_neg (by decide), if_neg (by decide), if_neg (by decide), show 6 * 3 + j = 18 + j by omega, u8]
          · rw [if_neg ef, if_neg (show ¬ (-3 : Int32) = -6 by decide), if_neg ef]
        · refine ⟨s, w, T, F, a, h, li, cr, br, sc, sp, sl, pc, g, h1, h2, ⟨hT, hT1, hT2⟩, ⟨hF, hF1, rfl⟩, fun j hj => ?_, fun j hj => ?_, h7, ⟨hsc, hs1, hs2⟩, h9, ⟨hpc, hp1, hp2⟩, h11, h12⟩
          · obtain ⟨t1, t2, -⟩ := e4 j hj
            rw [t1, t2]; exact h5 j hj
          · obtain ⟨-, -, t3⟩ := e4 j hj
            rw [t3]; exact h6 j hj
def whf_ (T : Nat) (a : Nat → Nat) (p j : Nat) (st : Int32) : Int32 := if T.testBit j = true ∧ a j = p then st ||| (1 <<< (nI j &&& 31)) else st
theorem standingAt_ {T : Nat} (hT : T < 64) {at1 : Nat → Int32} {a : Nat → Nat} (ha : ∀ j, j < 6 → at1 j = nI (a j) ∧ a j < 12) {p : Nat} (hp : p < 12) : fn_X0_standingAt (nI T) at1 (nI p) = some (fl_ (whf_ T a p) 6 0 0) := by
  unfold fn_X0_standingAt
  refine lf_ 6 (fun n x (st : Int32) => fn_X0_standingAt_l4 (nI T) at1 (nI p) (fun v4 => some v4) n st x) (fun v4 => some v4) (whf_ T a p) ?_ ?_ 6 0 fu_ 0 rfl (fu_lt (by omega))
  · intro n j st hj
    obtain ⟨b1, b2⟩ := ha j hj
    show fn_X0_standingAt_b4 (nI T) at1 (nI p) (fn_X0_standingAt_l4 (nI T) at1 (nI p) (fun v4 => some v4) n) (fun v4 => some v4) st (nI j) = _
    unfold fn_X0_standingAt_b4 whf_
    rw [if_neg (show ¬ (6 : Int32) ≤ nI j from nI_ge (b := 6) hj (by omega)), (has_ hT hj).1, b1_so, ckn_ hj (by omega), nI_clamp (by omega), b1, lx_so, nI_1]
    by_cases e1 : T.testBit j = true
    · rw [if_pos e1, if_neg (by decide)]
      by_cases e2 : a j = p
      · rw [if_pos (by rw [e2]), if_pos ⟨e1, e2⟩]
      · rw [if_neg (ne_nI (by omega) (by omega) e2), if_neg (fun q => e2 q.2)]
    · rw [if_neg e1, if_pos rfl, if_neg (fun q => e1 q.1)]
  · intro n st
    show fn_X0_standingAt_b4 (nI T) at1 (nI p) (fn_X0_standingAt_l4 (nI T) at1 (nI p) (fun v4 => some v4) n) (fun v4 => some v4) st (nI 6) = _
    unfold fn_X0_standingAt_b4
    rw [if_pos (show (6 : Int32) ≤ nI 6 by decide)]
abbrev R16_ : Type := Int32 × Int32 × Int32 × Int32 × Int32 × Int32 × Int32 × (Nat → Int32) × (Nat → Int32) × (Nat → Int32) × (Nat → Int32) × (Nat → Int32) × (Nat → Int32) × (Nat → Int32) × (Nat → Int32) × (Nat → Int32)
theorem who19_ {T : Nat} (hT : T < 64) (lv : Nat → Int32) (x : Int32) (k : Int32 → Option R16_) : ∃ r, fn_X10_who_l19 (nI T) lv x k fu_ 0 0 = k r ∧ ∀ (a : Nat → Nat) (p : Nat), (∀ j, j < 6 → lv j = nI (a j) ∧ a j < 12) → p < 12 → x = nI p → r = fl_ (whf_ T a p) 6 0 0 := by
  refine ⟨fl_ (fun j (st : Int32) => if T.testBit j = true ∧ lv j = x then st ||| (1 <<< (nI j &&& 31)) else st) 6 0 0, ?_, fun a p ha hp hx => ?_⟩
  · refine lf_ 6 (fun n y (st : Int32) => fn_X10_who_l19 (nI T) lv x k n st y) k (fun j (st : Int32) => if T.testBit j = true ∧ lv j = x then st ||| (1 <<< (nI j &&& 31)) else st) ?_ ?_ 6 0 fu_ 0 rfl (fu_lt (by omega))
    · intro n j st hj
      show fn_X10_who_b19 (nI T) lv x (fn_X10_who_l19 (nI T) lv x k n) k st (nI j) = _
      unfold fn_X10_who_b19 fn_X10_who_j54
      rw [if_neg (show ¬ (6 : Int32) ≤ nI j from nI_ge (b := 6) hj (by omega)), (has_ hT hj).2, b1_so, ckn_ (show j < 25 by omega) (by omega), nI_clamp (by omega), lx_so, nI_1, Int32.or_zero]
      by_cases e1 : T.testBit j = true
      · rw [if_pos e1, if_neg (by decide)]
        by_cases e2 : lv j = x
        · rw [if_pos e2, if_pos ⟨e1, e2⟩]
        · rw [if_neg e2, if_neg (fun q => e2 q.2)]
      · rw [if_neg e1, if_pos rfl, if_neg (fun q => e1 q.1)]
    · intro n st
      show fn_X10_who_b19 (nI T) lv x (fn_X10_who_l19 (nI T) lv x k n) k st (nI 6) = _
      unfold fn_X10_who_b19
      rw [if_pos (show (6 : Int32) ≤ nI 6 by decide)]
  · refine fl_congr 6 0 0 (fun j st _ hj => ?_)
    obtain ⟨b1, b2⟩ := ha j (by omega)
    unfold whf_
    rw [b1, hx]
    by_cases e2 : a j = p
    · by_cases e1 : T.testBit j = true
      · rw [if_pos ⟨e1, by rw [e2]⟩, if_pos ⟨e1, e2⟩]
      · rw [if_neg (fun q => e1 q.1), if_neg (fun q => e1 q.1)]
    · rw [if_neg (fun q => ne_nI (by omega) (by omega) e2 q.2), if_neg (fun q => e2 q.2)]
theorem pp_who {c_x_measured c_x_now_crowd_there c_x_now_crowd_foggy c_x_now_sights_count c_x_pad_count c_x_evening_acts c_x_evening_failedAct c_x_evening_reason c_x_evening_costs c_x_evening_walks c_x_evening_crowd_there c_x_evening_crowd_foggy c_x_tour_costs c_x_tour_firstStop c_x_odds_count c_x_odds_tenths c_m_foggy c_m_walkers c_m_sights c_m_padMany c_m_acts c_m_spent c_m_walks c_m_badAct c_m_badWhy c_m_keptAt c_m_isWriting : Int32} {c_x_now_marsh_codes c_x_now_crowd_at c_x_now_crowd_home c_x_now_crowd_light c_x_now_crowd_carries c_x_now_crowd_bearer c_x_now_sights_places c_x_now_sights_lights c_x_pad_signs c_x_evening_crowd_at c_x_evening_crowd_home c_x_evening_crowd_light c_x_evening_crowd_carries c_x_evening_crowd_bearer c_x_ways_planks c_x_ways_least c_x_ways_neighbours c_x_tour_stops c_x_tour_rest c_x_odds_planks c_m_steps c_m_wet c_m_where c_m_home c_m_light c_m_carries c_m_sightPlace c_m_sightLight c_m_pad c_m_act c_m_whose c_m_whom c_m_tens c_m_had c_m_leaves c_m_apart c_m_stop c_m_restOf c_m_group c_m_along : Nat → Int32} (hR : RR c_x_measured c_x_now_marsh_codes c_x_now_crowd_there c_x_now_crowd_foggy c_x_now_crowd_at c_x_now_crowd_home c_x_now_crowd_light c_x_now_crowd_carries c_x_now_crowd_bearer c_x_now_sights_count c_x_now_sights_places c_x_now_sights_lights c_x_pad_count c_x_pad_signs c_x_evening_acts c_x_evening_failedAct c_x_evening_reason c_x_evening_costs c_x_evening_walks c_x_evening_crowd_there c_x_evening_crowd_foggy c_x_evening_crowd_at c_x_evening_crowd_home c_x_evening_crowd_light c_x_evening_crowd_carries c_x_evening_crowd_bearer c_x_ways_planks c_x_ways_least c_x_ways_neighbours c_x_tour_costs c_x_tour_firstStop c_x_tour_stops c_x_tour_rest c_x_odds_count c_x_odds_tenths c_x_odds_planks c_m_foggy c_m_walkers c_m_sights c_m_padMany c_m_acts c_m_spent c_m_walks c_m_badAct c_m_badWhy c_m_keptAt c_m_isWriting c_m_steps c_m_wet c_m_where c_m_home c_m_light c_m_carries c_m_sightPlace c_m_sightLight c_m_pad c_m_act c_m_whose c_m_whom c_m_tens c_m_had c_m_leaves c_m_apart c_m_stop c_m_restOf c_m_group c_m_along) (x1 : Int32)  : ∃ (r : Int32) (w0 : Int32) (w1 : Int32) (w2 : Int32) (w3 : Int32) (w4 : Int32) (w5 : Int32) (w6 : Int32) (w7 : Nat → Int32) (w8 : Nat → Int32) (w9 : Nat → Int32) (w10 : Nat → Int32) (w11 : Nat → Int32) (v0 : Int32) (v1 : Int32) (v2 : Int32) (v3 : Int32) (v4 : Int32) (v5 : Int32) (v6 : Nat → Int32) (v7 : Nat → Int32) (v8 : Nat → Int32) (v9 : Nat → Int32) (v10 : Nat → Int32) (v11 : Nat → Int32) (v12 : Nat → Int32) (v13 : Nat → Int32) (v14 : Nat → Int32), fn_X9_who c_x_now_marsh_codes c_x_now_crowd_there c_x_now_crowd_foggy c_x_now_crowd_at c_x_now_crowd_home c_x_now_crowd_light c_x_now_crowd_carries c_x_now_crowd_bearer c_x_pad_count c_x_pad_signs c_x_evening_acts c_x_evening_failedAct c_x_evening_reason c_x_evening_costs c_x_evening_walks c_x_evening_crowd_there c_x_evening_crowd_foggy c_x_evening_crowd_at c_x_evening_crowd_home c_x_evening_crowd_light c_x_evening_crowd_carries c_x_evening_crowd_bearer x1 = some (r, w0, w1, w2, w3, w4, w5, w6, w7, w8, w9, w10, w11) ∧ fn_X10_who c_m_foggy c_m_walkers c_m_padMany c_m_acts c_m_spent c_m_walks c_m_badAct c_m_badWhy c_m_steps c_m_wet c_m_where c_m_light c_m_carries c_m_pad c_m_act c_m_whose c_m_whom c_m_tens c_m_had c_m_leaves x1 = some (r, v0, v1, v2, v3, v4, v5, v6, v7, v8, v9, v10, v11, v12, v13, v14) ∧ RR c_x_measured c_x_now_marsh_codes c_x_now_crowd_there c_x_now_crowd_foggy c_x_now_crowd_at c_x_now_crowd_home c_x_now_crowd_light c_x_now_crowd_carries c_x_now_crowd_bearer c_x_now_sights_count c_x_now_sights_places c_x_now_sights_lights c_x_pad_count c_x_pad_signs w0 w1 w2 w3 w4 w5 w6 w7 w8 w9 w10 w11 c_x_ways_planks c_x_ways_least c_x_ways_neighbours c_x_tour_costs c_x_tour_firstStop c_x_tour_stops c_x_tour_rest c_x_odds_count c_x_odds_tenths c_x_odds_planks v0 c_m_walkers c_m_sights c_m_padMany v1 v2 v3 v4 v5 c_m_keptAt c_m_isWriting c_m_steps c_m_wet v6 c_m_home v7 v8 c_m_sightPlace c_m_sightLight c_m_pad v9 v10 v11 v12 v13 v14 c_m_apart c_m_stop c_m_restOf c_m_group c_m_along := by
  obtain ⟨s, w, T, F, a, h, li, cr, br, sc, sp, sl, pc, g, h1, h2, ⟨hT, hT1, hT2⟩, ⟨hF, hF1, hF2⟩, h5, h6, h7, ⟨hsc, hs1, hs2⟩, h9, ⟨hpc, hp1, hp2⟩, h11, h12⟩ := id hR
  rcases pc_ x1 with ⟨q1, q2, -⟩ | ⟨p, hp, ep, q1, q2⟩
  · refine ⟨-1, c_x_evening_acts, c_x_evening_failedAct, c_x_evening_reason, c_x_evening_costs, c_x_evening_walks, c_x_evening_crowd_there, c_x_evening_crowd_foggy, c_x_evening_crowd_at, c_x_evening_crowd_home, c_x_evening_crowd_light, c_x_evening_crowd_carries, c_x_evening_crowd_bearer, c_m_foggy, c_m_acts, c_m_spent, c_m_walks, c_m_badAct, c_m_badWhy, c_m_where, c_m_light, c_m_carries, c_m_act, c_m_whose, c_m_whom, c_m_tens, c_m_had, c_m_leaves, ?_, ?_, hR⟩
    · unfold fn_X9_who; rw [q1]; rfl
    · unfold fn_X10_who; rw [q2]; rfl
  · rcases refusal_ hT h1 hF h5 h6 h7 h11 hpc c_x_evening_acts c_x_evening_failedAct c_x_evening_reason c_x_evening_costs c_x_evening_walks c_x_evening_crowd_there c_x_evening_crowd_foggy c_x_evening_crowd_at c_x_evening_crowd_home c_x_evening_crowd_light c_x_evening_crowd_carries c_x_evening_crowd_bearer c_m_acts c_m_spent c_m_walks c_m_badAct c_m_badWhy c_m_act c_m_whose c_m_whom c_m_tens c_m_had c_m_leaves with ⟨M, A, O, W, Te, e1, e2⟩ | ⟨m, A, O, W, Te, ac, fa, re, cs, ws, F', a', li', cr', br', at1', li1', ca1', be1', W1, L1, C1, hd, lv, e1, e2, e3, e4, e5, -⟩
    · refine ⟨-5, c_x_evening_acts, c_x_evening_failedAct, c_x_evening_reason, c_x_evening_costs, c_x_evening_walks, c_x_evening_crowd_there, c_x_evening_crowd_foggy, c_x_evening_crowd_at, c_x_evening_crowd_home, c_x_evening_crowd_light, c_x_evening_crowd_carries, c_x_evening_crowd_bearer, nI F, M, c_m_spent, c_m_walks, c_m_badAct, c_m_badWhy, c_m_where, c_m_light, c_m_carries, A, O, W, Te, c_m_had, c_m_leaves, ?_, ?_, ?_⟩
      · unfold fn_X9_who
        rw [q1, b1_so, if_neg (by decide), hT1, hF1, hp1, e1, b13_so, if_neg (by decide)]
      · unfold fn_X10_who
        rw [q2, b1_so, if_neg (by decide), hT2, hF2, hp2, e2, b16_so]
        obtain ⟨r, z1, -⟩ := who19_ hT c_m_leaves x1 (fun v23 => if (-5 : Int32) = (-6) then some (v23, nI F, M, c_m_spent, c_m_walks, c_m_badAct, c_m_badWhy, c_m_where, c_m_light, c_m_carries, A, O, W, Te, c_m_had, c_m_leaves) else some (-5, nI F, M, c_m_spent, c_m_walks, c_m_badAct, c_m_badWhy, c_m_where, c_m_light, c_m_carries, A, O, W, Te, c_m_had, c_m_leaves))
        refine Eq.trans z1 ?_
        exact if_neg (by decide)
      · exact ⟨s, w, T, F, a, h, li, cr, br, sc, sp, sl, pc, g, h1, h2, ⟨hT, hT1, hT2⟩, ⟨hF, hF1, rfl⟩, h5, h6, h7, ⟨hsc, hs1, hs2⟩, h9, ⟨hpc, hp1, hp2⟩, h11, h12⟩
    · refine ⟨if fa = (-6) then fl_ (whf_ T a' p) 6 0 0 else (-3), ac, fa, re, cs, ws, nI T, nI F', at1', va_cpy c_x_now_crowd_home c_x_evening_crowd_home 0 0 6, li1', ca1', be1', nI F, nI m, cs, ws, fa, re, W1, L1, C1, A, O, W, Te, hd, lv, ?_, ?_, ?_⟩
      · unfold fn_X9_who
        rw [q1, b1_so, if_neg (by decide), hT1, hF1, hp1, e1, b13_so, ep, standingAt_ hT (fun j hj => ⟨(e5 j hj).1, (e5 j hj).2.2.2.2.2.2.2.2⟩) hp, b1_so]
        by_cases ef : fa = (-6)
        · rw [if_pos ef, if_pos rfl, if_pos ef]
        · rw [if_neg ef, if_neg (by decide), if_neg ef]
      · unfold fn_X10_who
        rw [q2, b1_so, if_neg (by decide), hT2, hF2, hp2, e2, b16_so]
        obtain ⟨r, z1, z2⟩ := who19_ hT lv x1 (fun v23 => if (if fa = (-6) then (-6 : Int32) else (-3)) = (-6) then some (v23, nI F, nI m, cs, ws, fa, re, W1, L1, C1, A, O, W, Te, hd, lv) else some (if fa = (-6) then (-6) else (-3), nI F, nI m, cs, ws, fa, re, W1, L1, C1, A, O, W, Te, hd, lv))
        refine Eq.trans z1 ?_
        have hr := z2 a' p (fun j hj => ⟨(e5 j hj).2.2.2.2.1, (e5 j hj).2.2.2.2.2.2.2.2⟩) hp ep
        by_cases ef : fa = (-6)
        · rw [if_pos ef, if_pos rfl, if_pos ef, hr]
        · rw [if_neg ef, if_neg (by decide), if_neg ef]
      · refine ⟨s, w, T, F, a, h, li, cr, br, sc, sp, sl, pc, g, h1, h2, ⟨hT, hT1, hT2⟩, ⟨hF, hF1, rfl⟩, fun j hj => ?_, fun j hj => ?_, h7, ⟨hsc, hs1, hs2⟩, h9, ⟨hpc, hp1, hp2⟩, h11, h12⟩
        · obtain ⟨t1, t2, -⟩ := e4 j hj
          rw [t1, t2]; exact h5 j hj
        · obtain ⟨-, -, t3⟩ := e4 j hj
          rw [t3]; exact h6 j hj
theorem pp_done {c_x_measured c_x_now_crowd_there c_x_now_crowd_foggy c_x_now_sights_count c_x_pad_count c_x_evening_acts c_x_evening_failedAct c_x_evening_reason c_x_evening_costs c_x_evening_walks c_x_evening_crowd_there c_x_evening_crowd_foggy c_x_tour_costs c_x_tour_firstStop c_x_odds_count c_x_odds_tenths c_m_foggy c_m_walkers c_m_sights c_m_padMany c_m_acts c_m_spent c_m_walks c_m_badAct c_m_badWhy c_m_keptAt c_m_isWriting : Int32} {c_x_now_marsh_codes c_x_now_crowd_at c_x_now_crowd_home c_x_now_crowd_light c_x_now_crowd_carries c_x_now_crowd_bearer c_x_now_sights_places c_x_now_sights_lights c_x_pad_signs c_x_evening_crowd_at c_x_evening_crowd_home c_x_evening_crowd_light c_x_evening_crowd_carries c_x_evening_crowd_bearer c_x_ways_planks c_x_ways_least c_x_ways_neighbours c_x_tour_stops c_x_tour_rest c_x_odds_planks c_m_steps c_m_wet c_m_where c_m_home c_m_light c_m_carries c_m_sightPlace c_m_sightLight c_m_pad c_m_act c_m_whose c_m_whom c_m_tens c_m_had c_m_leaves c_m_apart c_m_stop c_m_restOf c_m_group c_m_along : Nat → Int32} (hR : RR c_x_measured c_x_now_marsh_codes c_x_now_crowd_there c_x_now_crowd_foggy c_x_now_crowd_at c_x_now_crowd_home c_x_now_crowd_light c_x_now_crowd_carries c_x_now_crowd_bearer c_x_now_sights_count c_x_now_sights_places c_x_now_sights_lights c_x_pad_count c_x_pad_signs c_x_evening_acts c_x_evening_failedAct c_x_evening_reason c_x_evening_costs c_x_evening_walks c_x_evening_crowd_there c_x_evening_crowd_foggy c_x_evening_crowd_at c_x_evening_crowd_home c_x_evening_crowd_light c_x_evening_crowd_carries c_x_evening_crowd_bearer c_x_ways_planks c_x_ways_least c_x_ways_neighbours c_x_tour_costs c_x_tour_firstStop c_x_tour_stops c_x_tour_rest c_x_odds_count c_x_odds_tenths c_x_odds_planks c_m_foggy c_m_walkers c_m_sights c_m_padMany c_m_acts c_m_spent c_m_walks c_m_badAct c_m_badWhy c_m_keptAt c_m_isWriting c_m_steps c_m_wet c_m_where c_m_home c_m_light c_m_carries c_m_sightPlace c_m_sightLight c_m_pad c_m_act c_m_whose c_m_whom c_m_tens c_m_had c_m_leaves c_m_apart c_m_stop c_m_restOf c_m_group c_m_along)   : ∃ (r : Int32) (w0 : Int32) (w1 : Int32) (w2 : Int32) (w3 : Nat → Int32) (w4 : Nat → Int32) (w5 : Nat → Int32) (w6 : Nat → Int32) (w7 : Nat → Int32) (w8 : Int32) (w9 : Int32) (w10 : Int32) (w11 : Int32) (w12 : Int32) (w13 : Int32) (w14 : Int32) (w15 : Int32) (w16 : Nat → Int32) (w17 : Nat → Int32) (w18 : Nat → Int32) (w19 : Nat → Int32) (w20 : Nat → Int32) (v0 : Int32) (v1 : Int32) (v2 : Int32) (v3 : Int32) (v4 : Int32) (v5 : Int32) (v6 : Int32) (v7 : Nat → Int32) (v8 : Nat → Int32) (v9 : Nat → Int32) (v10 : Nat → Int32) (v11 : Nat → Int32) (v12 : Nat → Int32) (v13 : Nat → Int32) (v14 : Nat → Int32) (v15 : Nat → Int32), fn_X9_done c_x_measured c_x_now_marsh_codes c_x_now_crowd_there c_x_now_crowd_foggy c_x_now_crowd_at c_x_now_crowd_home c_x_now_crowd_light c_x_now_crowd_carries c_x_now_crowd_bearer c_x_pad_count c_x_pad_signs c_x_evening_acts c_x_evening_failedAct c_x_evening_reason c_x_evening_costs c_x_evening_walks c_x_evening_crowd_there c_x_evening_crowd_foggy c_x_evening_crowd_at c_x_evening_crowd_home c_x_evening_crowd_light c_x_evening_crowd_carries c_x_evening_crowd_bearer = some (r, w0, w1, w2, w3, w4, w5, w6, w7, w8, w9, w10, w11, w12, w13, w14, w15, w16, w17, w18, w19, w20) ∧ fn_X10_done c_m_foggy c_m_walkers c_m_padMany c_m_acts c_m_spent c_m_walks c_m_badAct c_m_badWhy c_m_steps c_m_wet c_m_where c_m_light c_m_carries c_m_pad c_m_act c_m_whose c_m_whom c_m_tens c_m_had c_m_leaves = some (r, v0, v1, v2, v3, v4, v5, v6, v7, v8, v9, v10, v11, v12, v13, v14, v15) ∧ RR w0 c_x_now_marsh_codes w1 w2 w3 w4 w5 w6 w7 c_x_now_sights_count c_x_now_sights_places c_x_now_sights_lights w8 c_x_pad_signs w9 w10 w11 w12 w13 w14 w15 w16 w17 w18 w19 w20 c_x_ways_planks c_x_ways_least c_x_ways_neighbours c_x_tour_costs c_x_tour_firstStop c_x_tour_stops c_x_tour_rest c_x_odds_count c_x_odds_tenths c_x_odds_planks v0 c_m_walkers c_m_sights v1 v2 v3 v4 v5 v6 c_m_keptAt c_m_isWriting c_m_steps c_m_wet v7 c_m_home v8 v9 c_m_sightPlace c_m_sightLight c_m_pad v10 v11 v12 v13 v14 v15 c_m_apart c_m_stop c_m_restOf c_m_group c_m_along := by
  obtain ⟨s, w, T, F, a, h, li, cr, br, sc, sp, sl, pc, g, h1, h2, ⟨hT, hT1, hT2⟩, ⟨hF, hF1, hF2⟩, h5, h6, h7, ⟨hsc, hs1, hs2⟩, h9, ⟨hpc, hp1, hp2⟩, h11, h12⟩ := id hR
  rcases refusal_ hT h1 hF h5 h6 h7 h11 hpc c_x_evening_acts c_x_evening_failedAct c_x_evening_reason c_x_evening_costs c_x_evening_walks c_x_evening_crowd_there c_x_evening_crowd_foggy c_x_evening_crowd_at c_x_evening_crowd_home c_x_evening_crowd_light c_x_evening_crowd_carries c_x_evening_crowd_bearer c_m_acts c_m_spent c_m_walks c_m_badAct c_m_badWhy c_m_act c_m_whose c_m_whom c_m_tens c_m_had c_m_leaves with ⟨M, A, O, W, Te, e1, e2⟩ | ⟨m, A, O, W, Te, ac, fa, re, cs, ws, F', a', li', cr', br', at1', li1', ca1', be1', W1, L1, C1, hd, lv, e1, e2, e3, e4, e5, F2, a2, lx2, cr2, br2, wh3, li3, ca3, g1, g2, g3⟩
  · refine ⟨-5, c_x_measured, c_x_now_crowd_there, c_x_now_crowd_foggy, c_x_now_crowd_at, c_x_now_crowd_home, c_x_now_crowd_light, c_x_now_crowd_carries, c_x_now_crowd_bearer, c_x_pad_count, c_x_evening_acts, c_x_evening_failedAct, c_x_evening_reason, c_x_evening_costs, c_x_evening_walks, c_x_evening_crowd_there, c_x_evening_crowd_foggy, c_x_evening_crowd_at, c_x_evening_crowd_home, c_x_evening_crowd_light, c_x_evening_crowd_carries, c_x_evening_crowd_bearer, nI F, nI pc, M, c_m_spent, c_m_walks, c_m_badAct, c_m_badWhy, c_m_where, c_m_light, c_m_carries, A, O, W, Te, c_m_had, c_m_leaves, ?_, ?_, ?_⟩
    · unfold fn_X9_done
      rw [hT1, hF1, hp1, e1, b13_so, if_neg (by decide)]
    · unfold fn_X10_done
      rw [hT2, hF2, hp2, e2, b16_so, if_neg (by decide)]
    · exact ⟨s, w, T, F, a, h, li, cr, br, sc, sp, sl, pc, g, h1, h2, ⟨hT, hT1, hT2⟩, ⟨hF, hF1, rfl⟩, h5, h6, h7, ⟨hsc, hs1, hs2⟩, h9, ⟨hpc, hp1, rfl⟩, h11, h12⟩
  · by_cases ef : fa = (-6)
    · rw [if_pos ef] at e1 e2
      obtain ⟨hF2', k5, k6, k7⟩ := g3
      refine ⟨nI m, 0, nI T, nI F2, va_cpy at1' c_x_now_crowd_at 0 0 6, va_cpy (va_cpy c_x_now_crowd_home c_x_evening_crowd_home 0 0 6) c_x_now_crowd_home 0 0 6, va_cpy li1' c_x_now_crowd_light 0 0 6, va_cpy ca1' c_x_now_crowd_carries 0 0 6, va_cpy be1' c_x_now_crowd_bearer 0 0 6, 0, ac, fa, re, cs, ws, nI T, nI F', at1', va_cpy c_x_now_crowd_home c_x_evening_crowd_home 0 0 6, li1', ca1', be1', nI F', 0, nI m, cs, ws, fa, re, wh3, li3, ca3, A, O, W, Te, hd, lv, ?_, ?_, ?_⟩
      · unfold fn_X9_done
        rw [hT1, hF1, hp1, e1, b13_so, if_pos rfl, ← g1, copyFrom_ hF2', b7_so, e3 ef]
        rfl
      · unfold fn_X10_done
        rw [hT2, hF2, hp2, e2, b16_so, if_pos rfl, g2, b8_so]
      · refine ⟨s, w, T, F2, a2, h, lx2, cr2, br2, sc, sp, sl, 0, g, h1, h2, ⟨hT, rfl, hT2⟩, ⟨hF2', rfl, g1.symm⟩, fun j hj => ?_, fun j hj => ?_, k7, ⟨hsc, hs1, hs2⟩, h9, ⟨by omega, rfl, rfl⟩, h11, Or.inl rfl⟩
        · have kk := k5 j hj
          rw [cpy_ hj] at kk
          rw [cpy_ hj, cpy_ hj, cpy_ hj, cpy_ hj]
          exact kk
        · rw [cpy_ hj, cpy_ hj]
          exact k6 j hj
    · rw [if_neg ef] at e1 e2
      refine ⟨-3, c_x_measured, nI T, nI F, c_x_now_crowd_at, c_x_now_crowd_home, c_x_now_crowd_light, c_x_now_crowd_carries, c_x_now_crowd_bearer, nI pc, ac, fa, re, cs, ws, nI T, nI F', at1', va_cpy c_x_now_crowd_home c_x_evening_crowd_home 0 0 6, li1', ca1', be1', nI F, nI pc, nI m, cs, ws, fa, re, W1, L1, C1, A, O, W, Te, hd, lv, ?_, ?_, ?_⟩
      · unfold fn_X9_done
        rw [hT1, hF1, hp1, e1, b13_so, if_neg (by decide)]
      · unfold fn_X10_done
        rw [hT2, hF2, hp2, e2, b16_so, if_neg (by decide)]
      · refine ⟨s, w, T, F, a, h, li, cr, br, sc, sp, sl, pc, g, h1, h2, ⟨hT, rfl, hT2⟩, ⟨hF, rfl, rfl⟩, fun j hj => ?_, fun j hj => ?_, h7, ⟨hsc, hs1, hs2⟩, h9, ⟨hpc, rfl, rfl⟩, h11, h12⟩
        · obtain ⟨t1, t2, -⟩ := e4 j hj
          rw [t1, t2]; exact h5 j hj
        · obtain ⟨-, -, t3⟩ := e4 j hj
          rw [t3]; exact h6 j hj
