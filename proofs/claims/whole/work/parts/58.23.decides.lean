theorem scK_add {α : Type} (D : Nat → Bool) (x : Int32) (f : Nat → Int32 → Option α) (k : Int32 → Option α) : ∀ (a b i : Nat) (c : Int32), scK_ D x f k (a + b) i c = scK_ D x f (fun c' => scK_ D x f k b (i + a) c') a i c
  | 0, b, i, c => by rw [Nat.zero_add]; rfl
  | a + 1, b, i, c => by
    rw [show a + 1 + b = (a + b) + 1 by omega]
    show (if D i = true then (if c = x then f i c else scK_ D x f k (a + b) (i + 1) (c + 1)) else scK_ D x f k (a + b) (i + 1) c) = (if D i = true then (if c = x then f i c else scK_ D x f (fun c' => scK_ D x f k b (i + (a + 1)) c') a (i + 1) (c + 1)) else scK_ D x f (fun c' => scK_ D x f k b (i + (a + 1)) c') a (i + 1) c)
    rw [scK_add D x f k a b (i + 1) c, scK_add D x f k a b (i + 1) (c + 1), show i + 1 + a = i + (a + 1) by omega]
theorem scK_skip {α : Type} {D : Nat → Bool} {x : Int32} {f : Nat → Int32 → Option α} {k : Int32 → Option α} : ∀ (a i : Nat) (c : Int32), (∀ j, i ≤ j → j < i + a → ¬ D j = true) → scK_ D x f k a i c = k c
  | 0, _, _, _ => rfl
  | a + 1, i, c, h => by
    show (if D i = true then (if c = x then f i c else scK_ D x f k a (i + 1) (c + 1)) else scK_ D x f k a (i + 1) c) = k c
    rw [if_neg (h i (by omega) (by omega))]
    exact scK_skip a (i + 1) c (fun j h1 h2 => h j (by omega) (by omega))
theorem dec15_ {codes steps wet : Nat → Int32} {s w : Nat → Nat} (h1 : pl_ codes steps wet s w) (h2 : sy_ s w) (x : Int32) {p : Nat} (hp : p < 12) (k : Int32 → (Nat → Int32) → Option (Int32 × (Nat → Int32))) : ∀ (e q n : Nat) (c : Int32) (G : Nat → Int32), q + e = 12 → e < n → p < q → ∃ z : Bool × Int32, (∀ {α : Type} (g k' : Int32 → Option α), scK_ (Dk_ s) x (fun i _ => g (nI i)) k' e (12 * p + q) c = if z.1 = true then g z.2 else k' z.2) ∧ ∃ G', fn_X10_decides_l15 steps x (nI p) k n c (nI q) G = if z.1 = true then some (z.2, G') else k z.2 G'
  | 0, q, 0, c, G, q1, q2, q3 => absurd q2 (by omega)
  | 0, q, n + 1, c, G, q1, q2, q3 => by
    have e : q = 12 := by omega
    subst e
    refine ⟨(false, c), fun g k' => rfl, G, ?_⟩
    show fn_X10_decides_b15 steps x (nI p) _ k c (nI 12) G = _
    unfold fn_X10_decides_b15
    rw [if_pos (show (12 : Int32) ≤ nI 12 by decide)]
    rfl
  | e + 1, q, 0, c, G, q1, q2, q3 => absurd q2 (by omega)
  | e + 1, q, n + 1, c, G, q1, q2, q3 => by
    have hq : q < 12 := by omega
    obtain ⟨G1, d1⟩ := isDeciding2_ h1 h2 G hp hq
    have hD : Dk_ s (12 * p + q) = true ↔ dq_ s p q = true := by
      rw [Dk_t, show (12 * p + q) / 12 = p by omega, show (12 * p + q) % 12 = q by omega]
      exact ⟨fun h => h.2, fun h => ⟨q3, h⟩⟩
    have hb : fn_X10_decides_l15 steps x (nI p) k (n + 1) c (nI q) G = if dq_ s p q = true then (if c = x then some (nI (12 * p + q), G1) else fn_X10_decides_l15 steps x (nI p) k n (c + 1) (nI (q + 1)) G1) else fn_X10_decides_l15 steps x (nI p) k n c (nI (q + 1)) G1 := by
      show fn_X10_decides_b15 steps x (nI p) (fn_X10_decides_l15 steps x (nI p) k n) k c (nI q) G = _
      unfold fn_X10_decides_b15 fn_X10_at
      rw [if_neg (show ¬ (12 : Int32) ≤ nI q from nI_ge (b := 12) hq (by omega)), d1, b2_so, b1_so, ix2_, nI_1]
      by_cases e1 : dq_ s p q = true
      · rw [if_pos e1, if_neg (show ¬ (1 : Int32) = 0 by decide), if_pos e1]
      · rw [if_neg e1, if_pos rfl, if_neg e1]
    have hs : ∀ {α : Type} (g k' : Int32 → Option α), scK_ (Dk_ s) x (fun i _ => g (nI i)) k' (e + 1) (12 * p + q) c = if dq_ s p q = true then (if c = x then g (nI (12 * p + q)) else scK_ (Dk_ s) x (fun i _ => g (nI i)) k' e (12 * p + (q + 1)) (c + 1)) else scK_ (Dk_ s) x (fun i _ => g (nI i)) k' e (12 * p + (q + 1)) c := by
      intro α g k'
      show (if Dk_ s (12 * p + q) = true then (if c = x then g (nI (12 * p + q)) else scK_ (Dk_ s) x (fun i _ => g (nI i)) k' e (12 * p + q + 1) (c + 1)) else scK_ (Dk_ s) x (fun i _ => g (nI i)) k' e (12 * p + q + 1) c) = _
      by_cases e1 : dq_ s p q = true
      · rw [if_pos (hD.mpr e1), if_pos e1]; rfl
      · rw [if_neg (fun hh => e1 (hD.mp hh)), if_neg e1]; rfl
    by_cases e1 : dq_ s p q = true
    · by_cases e2 : c = x
      · refine ⟨(true, nI (12 * p + q)), fun g k' => ?_, G1, ?_⟩
        · rw [hs, if_pos e1, if_pos e2]; rfl
        · rw [hb, if_pos e1, if_pos e2]; rfl
      · obtain ⟨z, z1, G', z2⟩ := dec15_ h1 h2 x hp k e (q + 1) n (c + 1) G1 (by omega) (by omega) (by omega)
        refine ⟨z, fun g k' => ?_, G', ?_⟩
        · rw [hs, if_pos e1, if_neg e2, z1]
        · rw [hb, if_pos e1, if_neg e2, z2]
    · obtain ⟨z, z1, G', z2⟩ := dec15_ h1 h2 x hp k e (q + 1) n c G1 (by omega) (by omega) (by omega)
      refine ⟨z, fun g k' => ?_, G', ?_⟩
      · rw [hs, if_neg e1, z1]
      · rw [hb, if_neg e1, z2]
theorem dec4_ {codes steps wet : Nat → Int32} {s w : Nat → Nat} (h1 : pl_ codes steps wet s w) (h2 : sy_ s w) (x : Int32) (k : Int32 → (Nat → Int32) → Option (Int32 × (Nat → Int32))) : ∀ (e p n : Nat) (c : Int32) (G : Nat → Int32), p + e = 12 → e < n → ∃ z : Bool × Int32, (∀ {α : Type} (g k' : Int32 → Option α), scK_ (Dk_ s) x (fun i _ => g (nI i)) k' (12 * e) (12 * p) c = if z.1 = true then g z.2 else k' z.2) ∧ ∃ G', fn_X10_decides_l4 steps x k n c (nI p) G = if z.1 = true then some (z.2, G') else k z.2 G'
  | 0, p, 0, c, G, q1, q2 => absurd q2 (by omega)
  | 0, p, n + 1, c, G, q1, q2 => by
    have e : p = 12 := by omega
    subst e
    refine ⟨(false, c), fun g k' => rfl, G, ?_⟩
    show fn_X10_decides_b4 steps x _ k c (nI 12) G = _
    unfold fn_X10_decides_b4
    rw [if_pos (show (12 : Int32) ≤ nI 12 by decide)]
    rfl
  | e + 1, p, 0, c, G, q1, q2 => absurd q2 (by omega)
  | e + 1, p, n + 1, c, G, q1, q2 => by
    have hp : p < 12 := by omega
    obtain ⟨z, z1, G1, z2⟩ := dec15_ h1 h2 x hp (fun v6 v7 => fn_X10_decides_l4 steps x k n v6 (nI (p + 1)) v7) (11 - p) (p + 1) fu_ c G (by omega) (fu_lt (by omega)) (by omega)
    have hb : fn_X10_decides_l4 steps x k (n + 1) c (nI p) G = if z.1 = true then some (z.2, G1) else fn_X10_decides_l4 steps x k n z.2 (nI (p + 1)) G1 := by
      show fn_X10_decides_b4 steps x (fn_X10_decides_l4 steps x k n) k c (nI p) G = _
      unfold fn_X10_decides_b4
      rw [if_neg (show ¬ (12 : Int32) ≤ nI p from nI_ge (b := 12) hp (by omega)), nI_1]
      exact z2
    have hs : ∀ {α : Type} (g k' : Int32 → Option α), scK_ (Dk_ s) x (fun i _ => g (nI i)) k' (12 * (e + 1)) (12 * p) c = if z.1 = true then g z.2 else scK_ (Dk_ s) x (fun i _ => g (nI i)) k' (12 * e) (12 * (p + 1)) z.2 := by
      intro α g k'
      rw [show 12 * (e + 1) = (p + 1) + ((11 - p) + 12 * e) by omega, scK_add, scK_skip (p + 1) (12 * p) c (fun j j1 j2 hj => by have := (Dk_t.mp hj).1; omega), scK_add, show 12 * p + (p + 1) + (11 - p) = 12 * (p + 1) by omega]
      exact z1 g _
    by_cases ez : z.1 = true
    · refine ⟨z, fun g k' => ?_, G1, ?_⟩
      · rw [hs, if_pos ez, if_pos ez]
      · rw [hb, if_pos ez, if_pos ez]
    · obtain ⟨z', y1, G', y2⟩ := dec4_ h1 h2 x k e (p + 1) n z.2 G1 (by omega) (by omega)
      refine ⟨z', fun g k' => ?_, G', ?_⟩
      · rw [hs, if_neg ez, y1]
      · rw [hb, if_neg ez, y2]
theorem pp_decides {c_x_measured c_x_now_crowd_there c_x_now_crowd_foggy c_x_now_sights_count c_x_pad_count c_x_evening_acts c_x_evening_failedAct c_x_evening_reason c_x_evening_costs c_x_evening_walks c_x_evening_crowd_there c_x_evening_crowd_foggy c_x_tour_costs c_x_tour_firstStop c_x_odds_count c_x_odds_tenths c_m_foggy c_m_walkers c_m_sights c_m_padMany c_m_acts c_m_spent c_m_walks c_m_badAct c_m_badWhy c_m_keptAt c_m_isWriting : Int32} {c_x_now_marsh_codes c_x_now_crowd_at c_x_now_crowd_home c_x_now_crowd_light c_x_now_crowd_carries c_x_now_crowd_bearer c_x_now_sights_places c_x_now_sights_lights c_x_pad_signs c_x_evening_crowd_at c_x_evening_crowd_home c_x_evening_crowd_light c_x_evening_crowd_carries c_x_evening_crowd_bearer c_x_ways_planks c_x_ways_least c_x_ways_neighbours c_x_tour_stops c_x_tour_rest c_x_odds_planks c_m_steps c_m_wet c_m_where c_m_home c_m_light c_m_carries c_m_sightPlace c_m_sightLight c_m_pad c_m_act c_m_whose c_m_whom c_m_tens c_m_had c_m_leaves c_m_apart c_m_stop c_m_restOf c_m_group c_m_along : Nat → Int32} (hR : RR c_x_measured c_x_now_marsh_codes c_x_now_crowd_there c_x_now_crowd_foggy c_x_now_crowd_at c_x_now_crowd_home c_x_now_crowd_light c_x_now_crowd_carries c_x_now_crowd_bearer c_x_now_sights_count c_x_now_sights_places c_x_now_sights_lights c_x_pad_count c_x_pad_signs c_x_evening_acts c_x_evening_failedAct c_x_evening_reason c_x_evening_costs c_x_evening_walks c_x_evening_crowd_there c_x_evening_crowd_foggy c_x_evening_crowd_at c_x_evening_crowd_home c_x_evening_crowd_light c_x_evening_crowd_carries c_x_evening_crowd_bearer c_x_ways_planks c_x_ways_least c_x_ways_neighbours c_x_tour_costs c_x_tour_firstStop c_x_tour_stops c_x_tour_rest c_x_odds_count c_x_odds_tenths c_x_odds_planks c_m_foggy c_m_walkers c_m_sights c_m_padMany c_m_acts c_m_spent c_m_walks c_m_badAct c_m_badWhy c_m_keptAt c_m_isWriting c_m_steps c_m_wet c_m_where c_m_home c_m_light c_m_carries c_m_sightPlace c_m_sightLight c_m_pad c_m_act c_m_whose c_m_whom c_m_tens c_m_had c_m_leaves c_m_apart c_m_stop c_m_restOf c_m_group c_m_along) (x1 : Int32)  : ∃ (r : Int32) (w0 : Int32) (w1 : Nat → Int32) (w2 : Nat → Int32) (w3 : Nat → Int32) (v0 : Nat → Int32), fn_X9_decides c_x_measured c_x_now_marsh_codes c_x_now_crowd_foggy c_x_ways_planks c_x_ways_least c_x_ways_neighbours x1 = some (r, w0, w1, w2, w3) ∧ fn_X10_decides c_m_steps c_m_group x1 = some (r, v0) ∧ RR w0 c_x_now_marsh_codes c_x_now_crowd_there c_x_now_crowd_foggy c_x_now_crowd_at c_x_now_crowd_home c_x_now_crowd_light c_x_now_crowd_carries c_x_now_crowd_bearer c_x_now_sights_count c_x_now_sights_places c_x_now_sights_lights c_x_pad_count c_x_pad_signs c_x_evening_acts c_x_evening_failedAct c_x_evening_reason c_x_evening_costs c_x_evening_walks c_x_evening_crowd_there c_x_evening_crowd_foggy c_x_evening_crowd_at c_x_evening_crowd_home c_x_evening_crowd_light c_x_evening_crowd_carries c_x_evening_crowd_bearer w1 w2 w3 c_x_tour_costs c_x_tour_firstStop c_x_tour_stops c_x_tour_rest c_x_odds_count c_x_odds_tenths c_x_odds_planks c_m_foggy c_m_walkers c_m_sights c_m_padMany c_m_acts c_m_spent c_m_walks c_m_badAct c_m_badWhy c_m_keptAt c_m_isWriting c_m_steps c_m_wet c_m_where c_m_home c_m_light c_m_carries c_m_sightPlace c_m_sightLight c_m_pad c_m_act c_m_whose c_m_whom c_m_tens c_m_had c_m_leaves c_m_apart c_m_stop c_m_restOf v0 c_m_along := by
  obtain ⟨s, w, T, F, a, h, li, cr, br, sc, sp, sl, pc, g, h1, h2, ⟨hT, hT1, hT2⟩, ⟨hF, hF1, hF2⟩, h5, h6, h7, ⟨hsc, hs1, hs2⟩, h9, ⟨hpc, hp1, hp2⟩, h11, h12⟩ := id hR
  obtain ⟨P', L', N', A', e1, -, hw, -⟩ := mw_ h1 hF h12 c_m_apart
  obtain ⟨z, z1, G', z2⟩ := dec4_ h1 h2 x1 (fun v8 v9 => if x1 = (-1) then some (v8, v9) else some ((-6), v9)) 12 0 fu_ 0 c_m_group rfl (fu_lt (by omega))
  have hN := hw.2
  by_cases ex : x1 = (-1)
  · obtain ⟨c', k1, k2, k3⟩ := countDeciding_ hN 144 0 fu_ 0 rfl (fu_lt (by omega)) (Nat.le_refl _)
    have hz : z = (false, nI c') := by
      have q1 := z1 (α := Bool × Int32) (fun v => some (true, v)) (fun v => some (false, v))
      have q2 := k3 (α := Bool × Int32) (fun i _ => some (true, nI i)) (fun v => some (false, v))
      rw [← ex] at q2
      have q3 := q1.symm.trans q2
      obtain ⟨b, v⟩ := z
      cases b
      · rw [if_neg (show ¬ (false, v).1 = true from Bool.false_ne_true)] at q3
        exact Option.some.inj q3
      · rw [if_pos rfl] at q3
        exact Option.some.inj q3
    refine ⟨nI c', 1, P', L', N', G', ?_, ?_, ⟨s, w, T, F, a, h, li, cr, br, sc, sp, sl, pc, g, h1, h2, ⟨hT, hT1, hT2⟩, ⟨hF, hF1, hF2⟩, h5, h6, h7, ⟨hsc, hs1, hs2⟩, h9, ⟨hpc, hp1, hp2⟩, h11, Or.inr ⟨rfl, hw⟩⟩⟩
    · unfold fn_X9_decides fn_X8_countDeciding
      rw [hF1, e1, b4_so, if_pos ex, show fn_X8_countDeciding_l4 N' (fun v3 => some v3) fu_ 0 0 = some (nI c') from k2, b1_so]
    · unfold fn_X10_decides
      refine Eq.trans z2 ?_
      rw [hz, if_neg (show ¬ (false, nI c').1 = true from Bool.false_ne_true), if_pos ex]
  · refine ⟨if z.1 = true then z.2 else (-6), 1, P', L', N', G', ?_, ?_, ⟨s, w, T, F, a, h, li, cr, br, sc, sp, sl, pc, g, h1, h2, ⟨hT, hT1, hT2⟩, ⟨hF, hF1, hF2⟩, h5, h6, h7, ⟨hsc, hs1, hs2⟩, h9, ⟨hpc, hp1, hp2⟩, h11, Or.inr ⟨rfl, hw⟩⟩⟩
    · unfold fn_X9_decides fn_X8_nthDeciding
      rw [hF1, e1, b4_so, if_neg ex, show fn_X8_nthDeciding_l4 N' x1 (some (-6)) fu_ 0 0 = _ from nthDeciding_ hN x1 144 0 fu_ 0 rfl (fu_lt (by omega)), show scK_ (Dk_ s) x1 (fun i _ => some (nI i)) (fun _ => some (-6)) 144 0 0 = _ from z1 (fun v => some v) (fun _ => some (-6))]
      by_cases ez : z.1 = true
      · rw [if_pos ez, if_pos ez, b1_so]
      · rw [if_neg ez, if_neg ez, b1_so]
    · unfold fn_X10_decides
      refine Eq.trans z2 ?_
      by_cases ez : z.1 = true
      · rw [if_pos ez, if_pos ez]
      · rw [if_neg ez, if_neg ez, if_neg ex]
