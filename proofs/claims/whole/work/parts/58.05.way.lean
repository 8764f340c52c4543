/-! ===== way, far, left ===== -/
theorem lg2_ {σ α : Type} (N : Nat) (L : Nat → Int32 → σ → Option α) (k : σ → Option α) (f : Nat → σ → σ) (J : Nat → σ → Prop) (hs : ∀ n i st, i < N → J i st → L (n + 1) (nI i) st = L n (nI (i + 1)) (f i st) ∧ J (i + 1) (f i st)) (he : ∀ n st, J N st → L (n + 1) (nI N) st = k st) : ∀ (d i n : Nat) (st : σ), i + d = N → d < n → J i st → L n (nI i) st = k (fl_ f d i st) ∧ J N (fl_ f d i st)
  | 0, i, 0, st, h1, h2, h3 => absurd h2 (by omega)
  | 0, i, n + 1, st, h1, h2, h3 => by
    have e : i = N := by omega
    subst e
    exact ⟨he n st h3, h3⟩
  | d + 1, i, 0, st, h1, h2, h3 => absurd h2 (by omega)
  | d + 1, i, n + 1, st, h1, h2, h3 => by
    obtain ⟨e1, h4⟩ := hs n i st (by omega) h3
    obtain ⟨e2, h5⟩ := lg2_ N L k f J hs he d (i + 1) n (f i st) (by omega) (by omega) h4
    exact ⟨e1.trans e2, h5⟩
def fpP_ (s w : Nat → Nat) (F p q j : Nat) : Bool := decide (pk0_ s w F (12 * p + j) + ds_ s w F (12 * j + q) = ds_ s w F (12 * p + q))
/-- the first place of a way -/
def fpl_ (s w : Nat → Nat) (F p q : Nat) : Int32 := if p = q ∨ 1000000 ≤ ds_ s w F (12 * p + q) then (-6) else fs_ (fpP_ s w F p q) nI (-6) 12 0
theorem pk0_le {s w : Nat → Nat} {F k : Nat} (h : s k ≤ 99 ∧ w k ≤ 1) (hF : F ≤ 1) : pk0_ s w F k ≤ 1000000 := by
  have := co_le (F := F) h.1 h.2 hF
  unfold pk0_; split <;> omega
theorem firstPlace1_ {codes steps wet P L N : Nat → Int32} {s w : Nat → Nat} {F : Nat} (h1 : pl_ codes steps wet s w) (hF : F ≤ 1) (hw : wy_ P L N s w F) {p q : Nat} (hp : p < 12) (hq : q < 12) : fn_X8_firstPlace P L (nI p) (nI q) = some (fpl_ s w F p q) := by
  unfold fn_X8_firstPlace fpl_
  have hb := ds_le (pl_b h1) hF
  by_cases e : p = q
  · rw [if_pos (by rw [e]), if_pos (Or.inl e)]
  · have b0 := hb (12 * p + q) (by omega)
    rw [if_neg (ne_nI (by omega) (by omega) e), between_ hp hq, b1_so, (hw.1 (12 * p + q) (by omega)).2]
    by_cases e2 : 1000000 ≤ ds_ s w F (12 * p + q)
    · rw [if_neg (show ¬ nI (ds_ s w F (12 * p + q)) < 1000000 from nI_nlt (b := 1000000) e2 (by omega)), if_pos (Or.inr e2)]
    · rw [if_pos (show nI (ds_ s w F (12 * p + q)) < 1000000 from nI_lt (b := 1000000) (by omega) (by omega)), if_neg (fun hh => hh.elim e e2)]
      refine (ls_ 12 (fun n x => fn_X8_firstPlace_l21 P L (nI p) (nI q) (some (-6)) n x) (fpP_ s w F p q) (fun j => some (nI j)) (some (-6)) ?_ ?_ 12 0 fu_ rfl (fu_lt (by omega))).trans (fs_map some 12 0)
      · intro n j hj
        show fn_X8_firstPlace_b21 P L (nI p) (nI q) (fn_X8_firstPlace_l21 P L (nI p) (nI q) (some (-6)) n) (some (-6)) (nI j) = _
        unfold fn_X8_firstPlace_b21
        have c1 := pk0_le (F := F) (pl_b h1 (12 * p + j) (by omega)) hF
        have c2 := hb (12 * j + q) (by omega)
        rw [if_neg (show ¬ (12 : Int32) ≤ nI j from nI_ge (b := 12) hj (by omega)), plankCosts_ hp hj, b1_so, between_ hj hq, b1_so, between_ hp hq, b1_so, (hw.1 (12 * p + j) (by omega)).1, (hw.1 (12 * j + q) (by omega)).2, (hw.1 (12 * p + q) (by omega)).2, nI_add, nI_1]
        unfold fpP_
        by_cases e3 : pk0_ s w F (12 * p + j) + ds_ s w F (12 * j + q) = ds_ s w F (12 * p + q)
        · rw [if_pos (show nI ((if s (12 * p + j) = 0 then 1000000 else co_ s w F (12 * p + j)) + ds_ s w F (12 * j + q)) = nI (ds_ s w F (12 * p + q)) from congrArg nI e3), if_pos (decide_eq_true e3)]
        · rw [if_neg (show ¬ nI ((if s (12 * p + j) = 0 then 1000000 else co_ s w F (12 * p + j)) + ds_ s w F (12 * j + q)) = nI (ds_ s w F (12 * p + q)) from ne_nI (by unfold pk0_ at c1; omega) (by omega) e3), if_neg (by rw [decide_eq_false e3]; decide)]
      · intro n
        show fn_X8_firstPlace_b21 P L (nI p) (nI q) (fn_X8_firstPlace_l21 P L (nI p) (nI q) (some (-6)) n) (some (-6)) (nI 12) = _
        unfold fn_X8_firstPlace_b21
        rw [if_pos (show (12 : Int32) ≤ nI 12 by decide)]
theorem hasWay_ {A : Nat → Int32} {p q v : Nat} (hp : p < 12) (hq : q < 12) (hA : A (12 * p + q) = nI v) (hv : v < 2 ^ 31) : fn_X10_hasWay A (nI p) (nI q) = some (if v < 1000000 then 1 else 0) := by
  unfold fn_X10_hasWay fn_X10_at
  simp (disch := omega) only [b1_so, b2_so, b3_so, b4_so, lx_so, ckn_, nI_clamp, ix1_, ix2_, nI_1, hA]
  by_cases e : v < 1000000
  · rw [if_neg (show ¬ (1000000 : Int32) ≤ nI v from nI_ge (b := 1000000) e (by omega)), if_pos e]
  · rw [if_pos (show (1000000 : Int32) ≤ nI v from nI_le (a := 1000000) (by omega) (by omega)), if_neg e]
theorem firstPlace2_ {codes steps wet A : Nat → Int32} {s w : Nat → Nat} {F : Nat} (h1 : pl_ codes steps wet s w) (hF : F ≤ 1) (hA : ∀ k, k < 144 → A k = nI (ds_ s w F k)) {p q : Nat} (hp : p < 12) (hq : q < 12) (hd : ds_ s w F (12 * p + q) < 1000000) : fn_X10_firstPlace (nI F) steps wet A (nI p) (nI q) = some (fpl_ s w F p q) := by
  unfold fn_X10_firstPlace fpl_
  have hb := ds_le (pl_b h1) hF
  refine (ls_ 12 (fun n x => fn_X10_firstPlace_l2 (nI F) steps wet A (nI p) (nI q) (some (-6)) n x) (fun j => !decide (p = q) && fpP_ s w F p q j) (fun j => some (nI j)) (some (-6)) ?_ ?_ 12 0 fu_ rfl (fu_lt (by omega))).trans ?_
  · intro n j hj
    show fn_X10_firstPlace_b2 (nI F) steps wet A (nI p) (nI q) (fn_X10_firstPlace_l2 (nI F) steps wet A (nI p) (nI q) (some (-6)) n) (some (-6)) (nI j) = _
    unfold fn_X10_firstPlace_b2 fn_X10_at
    have c0 := pl_b h1 (12 * p + j) (by omega)
    have c1 := co_le (F := F) c0.1 c0.2 hF
    have c2 := hb (12 * j + q) (by omega)
    rw [if_neg (show ¬ (12 : Int32) ≤ nI j from nI_ge (b := 12) hj (by omega)), cost_ h1 hp hj, b1_so, hasWay_ hj hq (hA _ (by omega)) (by omega), b1_so, nI_1]
    simp (disch := omega) only [b1_so, b2_so, b3_so, b4_so, lx_so, ckn_, nI_clamp, ix1_, ix2_, nI_1, hA]
    by_cases e : p = q
    · rw [if_pos (by rw [e]), decide_eq_true e, if_neg (by simp)]
    · rw [if_neg (ne_nI (by omega) (by omega) e), decide_eq_false e]
      unfold fpP_ pk0_
      by_cases e1 : s (12 * p + j) = 0
      · rw [if_pos e1, if_pos n6_lt0, if_pos e1, decide_eq_false (by omega), if_neg (by decide)]
      · rw [if_neg e1, if_neg (nI_pos (by omega)), if_neg e1]
        by_cases e2 : ds_ s w F (12 * j + q) < 1000000
        · rw [if_pos e2, if_neg (by decide)]
          by_cases e3 : co_ s w F (12 * p + j) + ds_ s w F (12 * j + q) = ds_ s w F (12 * p + q)
          · rw [nI_add, if_pos (by rw [e3]), decide_eq_true e3, if_pos (by decide)]
          · rw [nI_add, if_neg (ne_nI (by omega) (by omega) e3), decide_eq_false e3, if_neg (by decide)]
        · rw [if_neg e2, if_pos rfl, decide_eq_false (by omega), if_neg (by decide)]
  · intro n
    show fn_X10_firstPlace_b2 (nI F) steps wet A (nI p) (nI q) (fn_X10_firstPlace_l2 (nI F) steps wet A (nI p) (nI q) (some (-6)) n) (some (-6)) (nI 12) = _
    unfold fn_X10_firstPlace_b2
    rw [if_pos (show (12 : Int32) ≤ nI 12 by decide)]
  · by_cases e : p = q
    · rw [if_pos (Or.inl e)]
      have key : ∀ d i, fs_ (fun j => !decide (p = q) && fpP_ s w F p q j) (fun j => some (nI j)) (some (-6)) d i = some (-6) := by
        intro d
        induction d with
        | zero => intro i; rfl
        | succ d ih => intro i; unfold fs_; rw [decide_eq_true e, if_neg (by simp)]; rw [← decide_eq_true e]; exact ih (i + 1)
      exact key 12 0
    · rw [if_neg (fun hh => hh.elim e (by omega)), ← fs_map some 12 0]
      refine fs_congr 12 0 (fun j _ _ => ?_)
      rw [decide_eq_false e, Bool.not_false, Bool.true_and]
theorem costsHome_ {at1 home L : Nat → Int32} {j x y : Nat} (hj : j < 6) (hx : x < 12) (hy : y < 12) (e1 : at1 j = nI x) (e2 : home j = nI y) : fn_X0_costsHome at1 home L (nI j) = some (L (12 * x + y)) := by
  unfold fn_X0_costsHome
  rw [ckn_ hj (by omega), ckn_ hj (by omega), nI_clamp (by omega), e1, e2, between_ hx hy, b1_so]
theorem homeWay_ {at1 home A : Nat → Int32} {j x y : Nat} (hj : j < 6) (hx : x < 12) (hy : y < 12) (e1 : at1 j = nI x) (e2 : home j = nI y) : fn_X10_homeWay at1 home A (nI j) = some (A (12 * x + y)) := by
  unfold fn_X10_homeWay fn_X10_at
  rw [ckn_ hj (by omega), ckn_ hj (by omega), nI_clamp (by omega), e1, e2]
  simp (disch := omega) only [b1_so, b2_so, b3_so, b4_so, lx_so, ckn_, nI_clamp, ix1_, ix2_, nI_1]
theorem pp_way {c_x_measured c_x_now_crowd_there c_x_now_crowd_foggy c_x_now_sights_count c_x_pad_count c_x_evening_acts c_x_evening_failedAct c_x_evening_reason c_x_evening_costs c_x_evening_walks c_x_evening_crowd_there c_x_evening_crowd_foggy c_x_tour_costs c_x_tour_firstStop c_x_odds_count c_x_odds_tenths c_m_foggy c_m_walkers c_m_sights c_m_padMany c_m_acts c_m_spent c_m_walks c_m_badAct c_m_badWhy c_m_keptAt c_m_isWriting : Int32} {c_x_now_marsh_codes c_x_now_crowd_at c_x_now_crowd_home c_x_now_crowd_light c_x_now_crowd_carries c_x_now_crowd_bearer c_x_now_sights_places c_x_now_sights_lights c_x_pad_signs c_x_evening_crowd_at c_x_evening_crowd_home c_x_evening_crowd_light c_x_evening_crowd_carries c_x_evening_crowd_bearer c_x_ways_planks c_x_ways_least c_x_ways_neighbours c_x_tour_stops c_x_tour_rest c_x_odds_planks c_m_steps c_m_wet c_m_where c_m_home c_m_light c_m_carries c_m_sightPlace c_m_sightLight c_m_pad c_m_act c_m_whose c_m_whom c_m_tens c_m_had c_m_leaves c_m_apart c_m_stop c_m_restOf c_m_group c_m_along : Nat → Int32} (hR : RR c_x_measured c_x_now_marsh_codes c_x_now_crowd_there c_x_now_crowd_foggy c_x_now_crowd_at c_x_now_crowd_home c_x_now_crowd_light c_x_now_crowd_carries c_x_now_crowd_bearer c_x_now_sights_count c_x_now_sights_places c_x_now_sights_lights c_x_pad_count c_x_pad_signs c_x_evening_acts c_x_evening_failedAct c_x_evening_reason c_x_evening_costs c_x_evening_walks c_x_evening_crowd_there c_x_evening_crowd_foggy c_x_evening_crowd_at c_x_evening_crowd_home c_x_evening_crowd_light c_x_evening_crowd_carries c_x_evening_crowd_bearer c_x_ways_planks c_x_ways_least c_x_ways_neighbours c_x_tour_costs c_x_tour_firstStop c_x_tour_stops c_x_tour_rest c_x_odds_count c_x_odds_tenths c_x_odds_planks c_m_foggy c_m_walkers c_m_sights c_m_padMany c_m_acts c_m_spent c_m_walks c_m_badAct c_m_badWhy c_m_keptAt c_m_isWriting c_m_steps c_m_wet c_m_where c_m_home c_m_light c_m_carries c_m_sightPlace c_m_sightLight c_m_pad c_m_act c_m_whose c_m_whom c_m_tens c_m_had c_m_leaves c_m_apart c_m_stop c_m_restOf c_m_group c_m_along) (x1 : Int32) (x2 : Int32) (x3 : Int32)  : ∃ (r : Int32) (w0 : Int32) (w1 : Nat → Int32) (w2 : Nat → Int32) (w3 : Nat → Int32) (v0 : Nat → Int32), fn_X9_way c_x_measured c_x_now_marsh_codes c_x_now_crowd_foggy c_x_ways_planks c_x_ways_least c_x_ways_neighbours x1 x2 x3 = some (r, w0, w1, w2, w3) ∧ fn_X10_way c_m_foggy c_m_steps c_m_wet c_m_apart x1 x2 x3 = some (r, v0) ∧ RR w0 c_x_now_marsh_codes c_x_now_crowd_there c_x_now_crowd_foggy c_x_now_crowd_at c_x_now_crowd_home c_x_now_crowd_light c_x_now_crowd_carries c_x_now_crowd_bearer c_x_now_sights_count c_x_now_sights_places c_x_now_sights_lights c_x_pad_count c_x_pad_signs c_x_evening_acts c_x_evening_failedAct c_x_evening_reason c_x_evening_costs c_x_evening_walks c_x_evening_crowd_there c_x_evening_crowd_foggy c_x_evening_crowd_at c_x_evening_crowd_home c_x_evening_crowd_light c_x_evening_crowd_carries c_x_evening_crowd_bearer w1 w2 w3 c_x_tour_costs c_x_tour_firstStop c_x_tour_stops c_x_tour_rest c_x_odds_count c_x_odds_tenths c_x_odds_planks c_m_foggy c_m_walkers c_m_sights c_m_padMany c_m_acts c_m_spent c_m_walks c_m_badAct c_m_badWhy c_m_keptAt c_m_isWriting c_m_steps c_m_wet c_m_where c_m_home c_m_light c_m_carries c_m_sightPlace c_m_sightLight c_m_pad c_m_act c_m_whose c_m_whom c_m_tens c_m_had c_m_leaves v0 c_m_stop c_m_restOf c_m_group c_m_along := by
  obtain ⟨s, w, T, F, a, h, li, cr, br, sc, sp, sl, pc, g, h1, h2, ⟨hT, hT1, hT2⟩, ⟨hF, hF1, hF2⟩, h5, h6, h7, ⟨hsc, hs1, hs2⟩, h9, ⟨hpc, hp1, hp2⟩, h11, h12⟩ := id hR
  rcases pc_ x1 with ⟨q1, q2, -⟩ | ⟨p, hp, ep, q1, q2⟩
  · refine ⟨-1, c_x_measured, c_x_ways_planks, c_x_ways_least, c_x_ways_neighbours, c_m_apart, ?_, ?_, hR⟩
    · unfold fn_X9_way; rw [q1]; rfl
    · unfold fn_X10_way; rw [q2]; rfl
  · rcases pc_ x2 with ⟨q3, q4, -⟩ | ⟨q, hq, eq, q3, q4⟩
    · refine ⟨-1, c_x_measured, c_x_ways_planks, c_x_ways_least, c_x_ways_neighbours, c_m_apart, ?_, ?_, hR⟩
      · unfold fn_X9_way; rw [q1, b1_so, if_neg (by decide), q3]; rfl
      · unfold fn_X10_way; rw [q2, b1_so, if_neg (by decide), q4]; rfl
    · rcases rg0_ x3 1 1 1 rfl rfl with ⟨q5, q6, -⟩ | ⟨m, hm, em, q5, q6⟩
      · refine ⟨-2, c_x_measured, c_x_ways_planks, c_x_ways_least, c_x_ways_neighbours, c_m_apart, ?_, ?_, hR⟩
        · unfold fn_X9_way; rw [q1, b1_so, if_neg (by decide), q3, b1_so, if_neg (by decide), q5]; rfl
        · unfold fn_X10_way; rw [q2, b1_so, if_neg (by decide), q4, b1_so, if_neg (by decide), q6]; rfl
      · obtain ⟨P', L', N', A', e1, e2, hw, hA⟩ := mw_ h1 hF h12 c_m_apart
        have hb := ds_le (pl_b h1) hF (12 * p + q) (by omega)
        refine ⟨if m = 0 then (if ds_ s w F (12 * p + q) < 1000000 then nI (ds_ s w F (12 * p + q)) else (-6)) else fpl_ s w F p q, 1, P', L', N', A', ?_, ?_, ⟨s, w, T, F, a, h, li, cr, br, sc, sp, sl, pc, g, h1, h2, ⟨hT, hT1, hT2⟩, ⟨hF, hF1, hF2⟩, h5, h6, h7, ⟨hsc, hs1, hs2⟩, h9, ⟨hpc, hp1, hp2⟩, h11, Or.inr ⟨rfl, hw⟩⟩⟩
        · unfold fn_X9_way fn_X9_orNone
          rw [q1, b1_so, if_neg (by decide), q3, b1_so, if_neg (by decide), q5, b1_so, if_neg (by decide), hF1, e1, b4_so, ep, eq, between_ hp hq, b1_so, firstPlace1_ h1 hF hw hp hq, b1_so, (hw.1 (12 * p + q) (by omega)).2]
          rcases (show m = 0 ∨ m = 1 by omega) with e | e
          · subst e
            rw [if_pos (show x3 = 0 from em), if_pos rfl]
            by_cases e3 : ds_ s w F (12 * p + q) < 1000000
            · rw [if_pos (show nI (ds_ s w F (12 * p + q)) < 1000000 from nI_lt (b := 1000000) e3 (by omega)), if_pos e3]; rfl
            · rw [if_neg (show ¬ nI (ds_ s w F (12 * p + q)) < 1000000 from nI_nlt (b := 1000000) (by omega) (by omega)), if_neg e3]; rfl
          · subst e
            rw [if_neg (by rw [em]; decide), if_neg (by decide)]
        · unfold fn_X10_way fn_X10_at
          rw [q2, b1_so, if_neg (by decide), q4, b1_so, if_neg (by decide), q6, b1_so, if_neg (by decide), hF2, e2, b1_so, ep, eq, hasWay_ hp hq (hA _ (by omega)) (by omega), b1_so]
          by_cases e3 : ds_ s w F (12 * p + q) < 1000000
          · rw [if_pos e3, if_neg (by decide), firstPlace2_ h1 hF hA hp hq e3, if_pos e3]
            simp (disch := omega) only [b1_so, b2_so, b3_so, b4_so, lx_so, ckn_, nI_clamp, ix1_, ix2_, nI_1, hA]
            rcases (show m = 0 ∨ m = 1 by omega) with e | e
            · subst e
              rw [if_pos (show x3 = 0 from em), if_pos rfl]
            · subst e
              rw [if_neg (by rw [em]; decide), if_neg (by decide)]
          · rw [if_neg e3, if_pos rfl, if_neg e3]
            rcases (show m = 0 ∨ m = 1 by omega) with e | e
            · rw [if_pos e]
            · rw [if_neg (by omega)]
              unfold fpl_
              rw [if_pos (Or.inr (by omega))]
theorem pp_left {c_x_measured c_x_now_crowd_there c_x_now_crowd_foggy c_x_now_sights_count c_x_pad_count c_x_evening_acts c_x_evening_failedAct c_x_evening_reason c_x_evening_costs c_x_evening_walks c_x_evening_crowd_there c_x_evening_crowd_foggy c_x_tour_costs c_x_tour_firstStop c_x_odds_count c_x_odds_tenths c_m_foggy c_m_walkers c_m_sights c_m_padMany c_m_acts c_m_spent c_m_walks c_m_badAct c_m_badWhy c_m_keptAt c_m_isWriting : Int32} {c_x_now_marsh_codes c_x_now_crowd_at c_x_now_crowd_home c_x_now_crowd_light c_x_now_crowd_carries c_x_now_crowd_bearer c_x_now_sights_places c_x_now_sights_lights c_x_pad_signs c_x_evening_crowd_at c_x_evening_crowd_home c_x_evening_crowd_light c_x_evening_crowd_carries c_x_evening_crowd_bearer c_x_ways_planks c_x_ways_least c_x_ways_neighbours c_x_tour_stops c_x_tour_rest c_x_odds_planks c_m_steps c_m_wet c_m_where c_m_home c_m_light c_m_carries c_m_sightPlace c_m_sightLight c_m_pad c_m_act c_m_whose c_m_whom c_m_tens c_m_had c_m_leaves c_m_apart c_m_stop c_m_restOf c_m_group c_m_along : Nat → Int32} (hR : RR c_x_measured c_x_now_marsh_codes c_x_now_crowd_there c_x_now_crowd_foggy c_x_now_crowd_at c_x_now_crowd_home c_x_now_crowd_light c_x_now_crowd_carries c_x_now_crowd_bearer c_x_now_sights_count c_x_now_sights_places c_x_now_sights_lights c_x_pad_count c_x_pad_signs c_x_evening_acts c_x_evening_failedAct c_x_evening_reason c_x_evening_costs c_x_evening_walks c_x_evening_crowd_there c_x_evening_crowd_foggy c_x_evening_crowd_at c_x_evening_crowd_home c_x_evening_crowd_light c_x_evening_crowd_carries c_x_evening_crowd_bearer c_x_ways_planks c_x_ways_least c_x_ways_neighbours c_x_tour_costs c_x_tour_firstStop c_x_tour_stops c_x_tour_rest c_x_odds_count c_x_odds_tenths c_x_odds_planks c_m_foggy c_m_walkers c_m_sights c_m_padMany c_m_acts c_m_spent c_m_walks c_m_badAct c_m_badWhy c_m_keptAt c_m_isWriting c_m_steps c_m_wet c_m_where c_m_home c_m_light c_m_carries c_m_sightPlace c_m_sightLight c_m_pad c_m_act c_m_whose c_m_whom c_m_tens c_m_had c_m_leaves c_m_apart c_m_stop c_m_restOf c_m_group c_m_along) (x1 : Int32)  : ∃ (r : Int32) (w0 : Int32) (w1 : Nat → Int32) (w2 : Nat → Int32) (w3 : Nat → Int32) (v0 : Nat → Int32), fn_X9_left c_x_measured c_x_now_marsh_codes c_x_now_crowd_there c_x_now_crowd_foggy c_x_now_crowd_at c_x_now_crowd_home c_x_now_crowd_light c_x_ways_planks c_x_ways_least c_x_ways_neighbours x1 = some (r, w0, w1, w2, w3) ∧ fn_X10_left c_m_foggy c_m_walkers c_m_steps c_m_wet c_m_where c_m_home c_m_light c_m_apart x1 = some (r, v0) ∧ RR w0 c_x_now_marsh_codes c_x_now_crowd_there c_x_now_crowd_foggy c_x_now_crowd_at c_x_now_crowd_home c_x_now_crowd_light c_x_now_crowd_carries c_x_now_crowd_bearer c_x_now_sights_count c_x_now_sights_places c_x_now_sights_lights c_x_pad_count c_x_pad_signs c_x_evening_acts c_x_evening_failedAct c_x_evening_reason c_x_evening_costs c_x_evening_walks c_x_evening_crowd_there c_x_evening_crowd_foggy c_x_evening_crowd_at c_x_evening_crowd_home c_x_evening_crowd_light c_x_evening_crowd_carries c_x_evening_crowd_bearer w1 w2 w3 c_x_tour_costs c_x_tour_firstStop c_x_tour_stops c_x_tour_rest c_x_odds_count c_x_odds_tenths c_x_odds_planks c_m_foggy c_m_walkers c_m_sights c_m_padMany c_m_acts c_m_spent c_m_walks c_m_badAct c_m_badWhy c_m_keptAt c_m_isWriting c_m_steps c_m_wet c_m_where c_m_home c_m_light c_m_carries c_m_sightPlace c_m_sightLight c_m_pad c_m_act c_m_whose c_m_whom c_m_tens c_m_had c_m_leaves v0 c_m_stop c_m_restOf c_m_group c_m_along := by
  obtain ⟨s, w, T, F, a, h, li, cr, br, sc, sp, sl, pc, g, h1, h2, ⟨hT, hT1, hT2⟩, ⟨hF, hF1, hF2⟩, h5, h6, h7, ⟨hsc, hs1, hs2⟩, h9, ⟨hpc, hp1, hp2⟩, h11, h12⟩ := id hR
  rcases hs_ hT x1 with ⟨r1, r2, -⟩ | ⟨j, hj, ej, hb, r1, r2⟩
  · refine ⟨-1, c_x_measured, c_x_ways_planks, c_x_ways_least, c_x_ways_neighbours, c_m_apart, ?_, ?_, hR⟩
    · unfold fn_X9_left; rw [hT1, r1]; rfl
    · unfold fn_X10_left; rw [hT2, r2]; rfl
  · obtain ⟨P', L', N', A', e1, e2, hw, hA⟩ := mw_ h1 hF h12 c_m_apart
    obtain ⟨a1, a2, a3, a4, a5, a6, a7, a8, a9⟩ := h5 j hj
    have hb := ds_le (pl_b h1) hF (12 * a j + h j) (by omega)
    refine ⟨if ds_ s w F (12 * a j + h j) < 1000000 then (nI (li j) - nI (ds_ s w F (12 * a j + h j))) + 10000 else (-6), 1, P', L', N', A', ?_, ?_, ⟨s, w, T, F, a, h, li, cr, br, sc, sp, sl, pc, g, h1, h2, ⟨hT, hT1, hT2⟩, ⟨hF, hF1, hF2⟩, h5, h6, h7, ⟨hsc, hs1, hs2⟩, h9, ⟨hpc, hp1, hp2⟩, h11, Or.inr ⟨rfl, hw⟩⟩⟩
    · unfold fn_X9_left
      rw [hT1, r1, b1_so, if_neg (by decide), hF1, e1, b4_so, ej, costsHome_ hj a1 a2 a4 a5, b1_so, (hw.1 _ (by omega)).2, ckn_ hj (by omega), nI_clamp (by omega), a6]
      by_cases e3 : ds_ s w F (12 * a j + h j) < 1000000
      · rw [if_pos (show nI (ds_ s w F (12 * a j + h j)) < 1000000 from nI_lt (b := 1000000) e3 (by omega)), if_pos e3]
      · rw [if_neg (show ¬ nI (ds_ s w F (12 * a j + h j)) < 1000000 from nI_nlt (b := 1000000) (by omega) (by omega)), if_neg e3]
    · unfold fn_X10_left
      rw [hT2, r2, b1_so, if_neg (by decide), hF2, e2, b1_so, ej, homeWay_ hj a1 a2 a7 a8, b1_so, b1_so, hA _ (by omega), ckn_ hj (by omega), nI_clamp (by omega), a9]
      by_cases e3 : ds_ s w F (12 * a j + h j) < 1000000
      · rw [if_pos (show nI (ds_ s w F (12 * a j + h j)) < 1000000 from nI_lt (b := 1000000) e3 (by omega)), if_pos e3]
      · rw [if_neg (show ¬ nI (ds_ s w F (12 * a j + h j)) < 1000000 from nI_nlt (b := 1000000) (by omega) (by omega)), if_neg e3]
/-- what light he has left at a place -/
def la_ (d a li : Nat → Nat) (j p : Nat) : Int32 := if d (12 * a j + p) ≤ li j then nI (li j - d (12 * a j + p)) else (-6)
theorem lightAfter_ {at1 light L : Nat → Int32} {d a li : Nat → Nat} {j p : Nat} (hj : j < 6) (hp : p < 12) (ha : a j < 12) (hl : li j ≤ 999) (e1 : at1 j = nI (a j)) (e2 : light j = nI (li j)) (hL : ∀ k, k < 144 → L k = nI (d k)) (hd : ∀ k, k < 144 → d k ≤ 1000000) : fn_X0_lightAfter at1 light L (nI j) (nI p) = some (la_ d a li j p) := by
  unfold fn_X0_lightAfter la_
  have hb := hd (12 * a j + p) (by omega)
  rw [ckn_ hj (by omega), nI_clamp (by omega), e1, e2, between_ ha hp, b1_so, ckn_ hj (by omega), ckn_ hj (by omega), hL _ (by omega)]
  by_cases e : d (12 * a j + p) ≤ li j
  · rw [if_pos (nI_le e (by omega)), if_pos e, pk_sub e]
  · rw [if_neg (nI_ge (by omega) (by omega)), if_neg e]
theorem leftAt_ {at1 light A : Nat → Int32} {d a li : Nat → Nat} {j p : Nat} (hj : j < 6) (hp : p < 12) (ha : a j < 12) (hl : li j ≤ 999) (e1 : at1 j = nI (a j)) (e2 : light j = nI (li j)) (hA : ∀ k, k < 144 → A k = nI (d k)) (hd : ∀ k, k < 144 → d k ≤ 1000000) : fn_X10_leftAt at1 light A (nI j) (nI p) = some (la_ d a li j p) := by
  unfold fn_X10_leftAt fn_X10_at la_
  have hb := hd (12 * a j + p) (by omega)
  rw [ckn_ hj (by omega), ckn_ hj (by omega), nI_clamp (by omega), e1, e2, b1_so, ix2_, ckn_ (by omega) (by omega), nI_clamp (by omega), hA _ (by omega), lx_so]
  by_cases e : d (12 * a j + p) ≤ li j
  · rw [pk_sub e, if_pos (nI_pos' (by omega)), if_pos e]
  · rw [if_neg (Int32.not_le.mpr (pk_sneg (by omega) (by omega))), if_neg e]
theorem la_ne {d a li : Nat → Nat} {j p : Nat} (hl : li j ≤ 999) : la_ d a li j p = (-6) ↔ ¬ d (12 * a j + p) ≤ li j := by
  unfold la_
  by_cases e : d (12 * a j + p) ≤ li j
  · rw [if_pos e]; exact ⟨fun q => absurd q (n6_ne (by omega)), fun q => absurd e q⟩
  · rw [if_neg e]; exact ⟨fun _ => e, fun _ => rfl⟩
theorem pp_far {c_x_measured c_x_now_crowd_there c_x_now_crowd_foggy c_x_now_sights_count c_x_pad_count c_x_evening_acts c_x_evening_failedAct c_x_evening_reason c_x_evening_costs c_x_evening_walks c_x_evening_crowd_there c_x_evening_crowd_foggy c_x_tour_costs c_x_tour_firstStop c_x_odds_count c_x_odds_tenths c_m_foggy c_m_walkers c_m_sights c_m_padMany c_m_acts c_m_spent c_m_walks c_m_badAct c_m_badWhy c_m_keptAt c_m_isWriting : Int32} {c_x_now_marsh_codes c_x_now_crowd_at c_x_now_crowd_home c_x_now_crowd_light c_x_now_crowd_carries c_x_now_crowd_bearer c_x_now_sights_places c_x_now_sights_lights c_x_pad_signs c_x_evening_crowd_at c_x_evening_crowd_home c_x_evening_crowd_light c_x_evening_crowd_carries c_x_evening_crowd_bearer c_x_ways_planks c_x_ways_least c_x_ways_neighbours c_x_tour_stops c_x_tour_rest c_x_odds_planks c_m_steps c_m_wet c_m_where c_m_home c_m_light c_m_carries c_m_sightPlace c_m_sightLight c_m_pad c_m_act c_m_whose c_m_whom c_m_tens c_m_had c_m_leaves c_m_apart c_m_stop c_m_restOf c_m_group c_m_along : Nat → Int32} (hR : RR c_x_measured c_x_now_marsh_codes c_x_now_crowd_there c_x_now_crowd_foggy c_x_now_crowd_at c_x_now_crowd_home c_x_now_crowd_light c_x_now_crowd_carries c_x_now_crowd_bearer c_x_now_sights_count c_x_now_sights_places c_x_now_sights_lights c_x_pad_count c_x_pad_signs c_x_evening_acts c_x_evening_failedAct c_x_evening_reason c_x_evening_costs c_x_evening_walks c_x_evening_crowd_there c_x_evening_crowd_foggy c_x_evening_crowd_at c_x_evening_crowd_home c_x_evening_crowd_light c_x_evening_crowd_carries c_x_evening_crowd_bearer c_x_ways_planks c_x_ways_least c_x_ways_neighbours c_x_tour_costs c_x_tour_firstStop c_x_tour_stops c_x_tour_rest c_x_odds_count c_x_odds_tenths c_x_odds_planks c_m_foggy c_m_walkers c_m_sights c_m_padMany c_m_acts c_m_spent c_m_walks c_m_badAct c_m_badWhy c_m_keptAt c_m_isWriting c_m_steps c_m_wet c_m_where c_m_home c_m_light c_m_carries c_m_sightPlace c_m_sightLight c_m_pad c_m_act c_m_whose c_m_whom c_m_tens c_m_had c_m_leaves c_m_apart c_m_stop c_m_restOf c_m_group c_m_along) (x1 : Int32)  : ∃ (r : Int32) (w0 : Int32) (w1 : Nat → Int32) (w2 : Nat → Int32) (w3 : Nat → Int32) (v0 : Nat → Int32), fn_X9_far c_x_measured c_x_now_marsh_codes c_x_now_crowd_there c_x_now_crowd_foggy c_x_now_crowd_at c_x_now_crowd_light c_x_ways_planks c_x_ways_least c_x_ways_neighbours x1 = some (r, w0, w1, w2, w3) ∧ fn_X10_far c_m_foggy c_m_walkers c_m_steps c_m_wet c_m_where c_m_light c_m_apart x1 = some (r, v0) ∧ RR w0 c_x_now_marsh_codes c_x_now_crowd_there c_x_now_crowd_foggy c_x_now_crowd_at c_x_now_crowd_home c_x_now_crowd_light c_x_now_crowd_carries c_x_now_crowd_bearer c_x_now_sights_count c_x_now_sights_places c_x_now_sights_lights c_x_pad_count c_x_pad_signs c_x_evening_acts c_x_evening_failedAct c_x_evening_reason c_x_evening_costs c_x_evening_walks c_x_evening_crowd_there c_x_evening_crowd_foggy c_x_evening_crowd_at c_x_evening_crowd_home c_x_evening_crowd_light c_x_evening_crowd_carries c_x_evening_crowd_bearer w1 w2 w3 c_x_tour_costs c_x_tour_firstStop c_x_tour_stops c_x_tour_rest c_x_odds_count c_x_odds_tenths c_x_odds_planks c_m_foggy c_m_walkers c_m_sights c_m_padMany c_m_acts c_m_spent c_m_walks c_m_badAct c_m_badWhy c_m_keptAt c_m_isWriting c_m_steps c_m_wet c_m_where c_m_home c_m_light c_m_carries c_m_sightPlace c_m_sightLight c_m_pad c_m_act c_m_whose c_m_whom c_m_tens c_m_had c_m_leaves v0 c_m_stop c_m_restOf c_m_group c_m_along := by
  obtain ⟨s, w, T, F, a, h, li, cr, br, sc, sp, sl, pc, g, h1, h2, ⟨hT, hT1, hT2⟩, ⟨hF, hF1, hF2⟩, h5, h6, h7, ⟨hsc, hs1, hs2⟩, h9, ⟨hpc, hp1, hp2⟩, h11, h12⟩ := id hR
  rcases hs_ hT x1 with ⟨r1, r2, -⟩ | ⟨j, hj, ej, hb, r1, r2⟩
  · refine ⟨-1, c_x_measured, c_x_ways_planks, c_x_ways_least, c_x_ways_neighbours, c_m_apart, ?_, ?_, hR⟩
    · unfold fn_X9_far; rw [hT1, r1]; rfl
    · unfold fn_X10_far; rw [hT2, r2]; rfl
  · obtain ⟨P', L', N', A', e1, e2, hw, hA⟩ := mw_ h1 hF h12 c_m_apart
    obtain ⟨a1, a2, a3, a4, a5, a6, a7, a8, a9⟩ := h5 j hj
    have hd := ds_le (pl_b h1) hF
    refine ⟨fl_ (fun p (st : Int32) => if ds_ s w F (12 * a j + p) ≤ li j then st ||| (1 <<< (nI p &&& 31)) else st) 12 0 0, 1, P', L', N', A', ?_, ?_, ⟨s, w, T, F, a, h, li, cr, br, sc, sp, sl, pc, g, h1, h2, ⟨hT, hT1, hT2⟩, ⟨hF, hF1, hF2⟩, h5, h6, h7, ⟨hsc, hs1, hs2⟩, h9, ⟨hpc, hp1, hp2⟩, h11, Or.inr ⟨rfl, hw⟩⟩⟩
    · unfold fn_X9_far
      rw [hT1, r1, b1_so, if_neg (by decide), hF1, e1, b4_so, ej]
      refine lf_ 12 (fun n x (st : Int32) => fn_X9_far_l24 c_x_now_crowd_at c_x_now_crowd_light L' (nI j) (fun v11 => some (v11, 1, P', L', N')) n st x) (fun v11 => some (v11, 1, P', L', N')) _ ?_ ?_ 12 0 fu_ 0 rfl (fu_lt (by omega))
      · intro n p st hp
        show fn_X9_far_b24 c_x_now_crowd_at c_x_now_crowd_light L' (nI j) (fn_X9_far_l24 c_x_now_crowd_at c_x_now_crowd_light L' (nI j) (fun v11 => some (v11, 1, P', L', N')) n) (fun v11 => some (v11, 1, P', L', N')) st (nI p) = _
        unfold fn_X9_far_b24
        rw [if_neg (show ¬ (12 : Int32) ≤ nI p from nI_ge (b := 12) hp (by omega)), lightAfter_ hj hp a1 a3 a4 a6 (fun k hk => (hw.1 k hk).2) hd, b1_so, nI_1]
        by_cases e3 : ds_ s w F (12 * a j + p) ≤ li j
        · rw [if_neg (fun q => (la_ne a3).mp q e3), if_pos e3]; rfl
        · rw [if_pos ((la_ne a3).mpr e3), if_neg e3]
      · intro n st
        show fn_X9_far_b24 c_x_now_crowd_at c_x_now_crowd_light L' (nI j) (fn_X9_far_l24 c_x_now_crowd_at c_x_now_crowd_light L' (nI j) (fun v11 => some (v11, 1, P', L', N')) n) (fun v11 => some (v11, 1, P', L', N')) st (nI 12) = _
        unfold fn_X9_far_b24
        rw [if_pos (show (12 : Int32) ≤ nI 12 by decide)]
    · unfold fn_X10_far
      rw [hT2, r2, b1_so, if_neg (by decide), hF2, e2, b1_so, ej]
      refine lf_ 12 (fun n x (st : Int32) => fn_X10_far_l18 c_m_where c_m_light A' (nI j) (fun v8 => some (v8, A')) n st x) (fun v8 => some (v8, A')) _ ?_ ?_ 12 0 fu_ 0 rfl (fu_lt (by omega))
      · intro n p st hp
        show fn_X10_far_b18 c_m_where c_m_light A' (nI j) (fn_X10_far_l18 c_m_where c_m_light A' (nI j) (fun v8 => some (v8, A')) n) (fun v8 => some (v8, A')) st (nI p) = _
        unfold fn_X10_far_b18 fn_X10_at
        have hb := hd (12 * a j + p) (by omega)
        rw [if_neg (show ¬ (12 : Int32) ≤ nI p from nI_ge (b := 12) hp (by omega)), ckn_ hj (by omega), nI_clamp (by omega), a7, a9, b1_so, ix2_, ckn_ (show 12 * a j + p < 144 by omega) (by omega), ckn_ hj (by omega), nI_clamp (by omega), hA _ (by omega), nI_1, Int32.or_zero]
        by_cases e3 : ds_ s w F (12 * a j + p) ≤ li j
        · rw [if_neg (nI_nlt e3 (by omega)), if_pos e3]; rfl
        · rw [if_pos (nI_lt (by omega) (by omega)), if_neg e3]
      · intro n st
        show fn_X10_far_b18 c_m_where c_m_light A' (nI j) (fn_X10_far_l18 c_m_where c_m_light A' (nI j) (fun v8 => some (v8, A')) n) (fun v8 => some (v8, A')) st (nI 12) = _
        unfold fn_X10_far_b18
        rw [if_pos (show (12 : Int32) ≤ nI 12 by decide)]
