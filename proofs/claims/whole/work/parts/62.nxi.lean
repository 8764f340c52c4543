/-- the law's next round, whatever has changed -/
def nxi_ (p : Program) (l : Launch) (e : Env) (s : State) (m : MethodId) (below : List Frame) (meth : Method) (c : Code) (cells slots : Nat) (Q : State → Prop) (G : gw_) (b : Nat) (x3 : Int32) (A_x : Nat) (A_x_now : Nat) (A_x_now_marsh : Nat) (A_x_now_marsh_codes : Nat) (A_x_now_crowd : Nat) (A_x_now_crowd_at : Nat) (A_x_now_crowd_home : Nat) (A_x_now_crowd_light : Nat) (A_x_now_crowd_carries : Nat) (A_x_now_crowd_bearer : Nat) (A_x_now_sights : Nat) (A_x_now_sights_places : Nat) (A_x_now_sights_lights : Nat) (A_x_images : Nat) (A_x_pad : Nat) (A_x_pad_signs : Nat) (A_x_evening : Nat) (A_x_evening_crowd : Nat) (A_x_evening_crowd_at : Nat) (A_x_evening_crowd_home : Nat) (A_x_evening_crowd_light : Nat) (A_x_evening_crowd_carries : Nat) (A_x_evening_crowd_bearer : Nat) (A_x_ways : Nat) (A_x_ways_planks : Nat) (A_x_ways_least : Nat) (A_x_ways_neighbours : Nat) (A_x_tour : Nat) (A_x_tour_stops : Nat) (A_x_tour_rest : Nat) (A_x_odds : Nat) (A_x_odds_planks : Nat) (A_m : Nat) (A_m_steps : Nat) (A_m_wet : Nat) (A_m_where : Nat) (A_m_home : Nat) (A_m_light : Nat) (A_m_carries : Nat) (A_m_sightPlace : Nat) (A_m_sightLight : Nat) (A_m_pad : Nat) (A_m_act : Nat) (A_m_whose : Nat) (A_m_whom : Nat) (A_m_tens : Nat) (A_m_had : Nat) (A_m_leaves : Nat) (A_m_apart : Nat) (A_m_stop : Nat) (A_m_restOf : Nat) (A_m_group : Nat) (A_m_along : Nat) (A_m_kept : Nat) (A_m_isKept : Nat) : Prop :=
  ∀ (c_x_measured c_x_now_crowd_there c_x_now_crowd_foggy c_x_now_sights_count c_x_pad_count c_x_evening_acts c_x_evening_failedAct c_x_evening_reason c_x_evening_costs c_x_evening_walks c_x_evening_crowd_there c_x_evening_crowd_foggy c_x_tour_costs c_x_tour_firstStop c_x_odds_count c_x_odds_tenths c_m_foggy c_m_walkers c_m_sights c_m_padMany c_m_acts c_m_spent c_m_walks c_m_badAct c_m_badWhy c_m_keptAt c_m_isWriting : Int32) (c_x_now_marsh_codes c_x_now_crowd_at c_x_now_crowd_home c_x_now_crowd_light c_x_now_crowd_carries c_x_now_crowd_bearer c_x_now_sights_places c_x_now_sights_lights c_x_pad_signs c_x_evening_crowd_at c_x_evening_crowd_home c_x_evening_crowd_light c_x_evening_crowd_carries c_x_evening_crowd_bearer c_x_ways_planks c_x_ways_least c_x_ways_neighbours c_x_tour_stops c_x_tour_rest c_x_odds_planks c_m_steps c_m_wet c_m_where c_m_home c_m_light c_m_carries c_m_sightPlace c_m_sightLight c_m_pad c_m_act c_m_whose c_m_whom c_m_tens c_m_had c_m_leaves c_m_apart c_m_stop c_m_restOf c_m_group c_m_along c_m_kept c_m_isKept : Nat → Int32) (c_x_images : Nat → Option Nat) (i0 i1 : Option Im_) (t0 t1 : va_W) (H : Heap) (locs : List Loc) (ls : Array Slot), RR c_x_measured c_x_now_marsh_codes c_x_now_crowd_there c_x_now_crowd_foggy c_x_now_crowd_at c_x_now_crowd_home c_x_now_crowd_light c_x_now_crowd_carries c_x_now_crowd_bearer c_x_now_sights_count c_x_now_sights_places c_x_now_sights_lights c_x_pad_count c_x_pad_signs c_x_evening_acts c_x_evening_failedAct c_x_evening_reason c_x_evening_costs c_x_evening_walks c_x_evening_crowd_there c_x_evening_crowd_foggy c_x_evening_crowd_at c_x_evening_crowd_home c_x_evening_crowd_light c_x_evening_crowd_carries c_x_evening_crowd_bearer c_x_ways_planks c_x_ways_least c_x_ways_neighbours c_x_tour_costs c_x_tour_firstStop c_x_tour_stops c_x_tour_rest c_x_odds_count c_x_odds_tenths c_x_odds_planks c_m_foggy c_m_walkers c_m_sights c_m_padMany c_m_acts c_m_spent c_m_walks c_m_badAct c_m_badWhy c_m_keptAt c_m_isWriting c_m_steps c_m_wet c_m_where c_m_home c_m_light c_m_carries c_m_sightPlace c_m_sightLight c_m_pad c_m_act c_m_whose c_m_whom c_m_tens c_m_had c_m_leaves c_m_apart c_m_stop c_m_restOf c_m_group c_m_along → KK c_m_kept c_m_isKept i0 i1 → im_ G (c_x_images 0) i0 t0 → im_ G (c_x_images 1) i1 t1 → lv_has ls 4 [(0, .ref b), (1, .ref A_x), (2, .ref A_m), (3, .int x3)] → wd_ G (fun q : Nat => s.heap.size ≤ q) s.heap (wl_law G A_x A_x_now A_x_now_marsh A_x_now_marsh_codes A_x_now_crowd A_x_now_crowd_at A_x_now_crowd_home A_x_now_crowd_light A_x_now_crowd_carries A_x_now_crowd_bearer A_x_now_sights A_x_now_sights_places A_x_now_sights_lights A_x_images A_x_pad A_x_pad_signs A_x_evening A_x_evening_crowd A_x_evening_crowd_at A_x_evening_crowd_home A_x_evening_crowd_light A_x_evening_crowd_carries A_x_evening_crowd_bearer A_x_ways A_x_ways_planks A_x_ways_least A_x_ways_neighbours A_x_tour A_x_tour_stops A_x_tour_rest A_x_odds A_x_odds_planks A_m A_m_steps A_m_wet A_m_where A_m_home A_m_light A_m_carries A_m_sightPlace A_m_sightLight A_m_pad A_m_act A_m_whose A_m_whom A_m_tens A_m_had A_m_leaves A_m_apart A_m_stop A_m_restOf A_m_group A_m_along A_m_kept A_m_isKept c_x_measured c_x_now_marsh_codes c_x_now_crowd_there c_x_now_crowd_foggy c_x_now_crowd_at c_x_now_crowd_home c_x_now_crowd_light c_x_now_crowd_carries c_x_now_crowd_bearer c_x_now_sights_count c_x_now_sights_places c_x_now_sights_lights c_x_images c_x_pad_count c_x_pad_signs c_x_evening_acts c_x_evening_failedAct c_x_evening_reason c_x_evening_costs c_x_evening_walks c_x_evening_crowd_there c_x_evening_crowd_foggy c_x_evening_crowd_at c_x_evening_crowd_home c_x_evening_crowd_light c_x_evening_crowd_carries c_x_evening_crowd_bearer c_x_ways_planks c_x_ways_least c_x_ways_neighbours c_x_tour_costs c_x_tour_firstStop c_x_tour_stops c_x_tour_rest c_x_odds_count c_x_odds_tenths c_x_odds_planks c_m_foggy c_m_walkers c_m_sights c_m_padMany c_m_acts c_m_spent c_m_walks c_m_badAct c_m_badWhy c_m_keptAt c_m_isWriting c_m_steps c_m_wet c_m_where c_m_home c_m_light c_m_carries c_m_sightPlace c_m_sightLight c_m_pad c_m_act c_m_whose c_m_whom c_m_tens c_m_had c_m_leaves c_m_apart c_m_stop c_m_restOf c_m_group c_m_along c_m_kept c_m_isKept (t0 ++ t1)) H locs → W p l e room_1 s m #[Value.ref b] below meth c H locs (cells + 12) (slots + 204) Q (F0 m 1021 ls [])
theorem rp_joinN {A : Nat → Prop} {G : gw_} {ws wc wc1 wn : va_W} {H H1 : Heap} {is : List Nat} (hP : va_P G.1 cl_ ws H) (hD : va_D A ws) (hI : is.map (fun i => ws[i]?) = wc.map some) (had : wc1.map (·.1) = wc.map (·.1)) (hF : ∀ q, va_A wc H.size q → A q)
    (hk : ∀ q : Nat, q < H.size → ¬ va_A wc H.size q → H1[q]? = H[q]?) (hP1 : va_P G.1 cl_ (wc1 ++ wn) H1) (hD1 : va_D (va_A wc H.size) (wc1 ++ wn)) : va_P G.1 cl_ (rp_ ws is wc1 ++ wn) H1 ∧ va_D A (rp_ ws is wc1 ++ wn) := by
  have at1 : ∀ (k : Nat) (q : Nat × va_E), wc1[k]? = some q → (wc1 ++ wn)[k]? = some q := fun k q h => by
    rw [List.getElem?_append_left (List.getElem?_eq_some_iff.mp h).1]; exact h
  have at2 : ∀ (k : Nat) (q : Nat × va_E), wn[k]? = some q → (wc1 ++ wn)[wc1.length + k]? = some q := fun k q h => by
    rw [List.getElem?_append_right (by omega), Nat.add_sub_cancel_left]; exact h
  have hPc : va_P G.1 cl_ wc1 H1 := fun k q h => hP1 k q (at1 k q h)
  have hPn : va_P G.1 cl_ wn H1 := fun k q h => hP1 _ q (at2 k q h)
  obtain ⟨j1, j2⟩ := rp_join hP hD hI had hk hPc
  have hlen : is.length = wc1.length := by
    have h1 := congrArg List.length hI
    have h2 := congrArg List.length had
    simp only [List.length_map] at h1 h2
    omega
  have hDn : va_D A wn := ⟨fun i j x y hi hj hxy => by
      have := hD1.1 _ _ x y (at2 i x hi) (at2 j y hj) hxy
      omega, fun k q h => hF _ (hD1.2 _ q (at2 k q h))⟩
  have hnew : ∀ (k : Nat) (q : Nat × va_E), wn[k]? = some q → H.size ≤ q.1 := by
    intro k q h
    rcases hD1.2 _ q (at2 k q h) with ⟨j, e, h3⟩ | h3
    · exfalso
      have e2 : (wc.map (·.1))[j]? = some q.1 := by rw [List.getElem?_map, h3]; rfl
      rw [← had, List.getElem?_map] at e2
      cases hq : wc1[j]? with
      | none => rw [hq] at e2; cases e2
      | some y =>
        rw [hq] at e2
        have e3 : y.1 = q.1 := Option.some.inj e2
        have hl := (List.getElem?_eq_some_iff.mp hq).1
        have := hD1.1 _ _ y q (at1 j y hq) (at2 k q h) e3
        omega
    · exact h3
  refine ⟨j1.app hPn, va_D.app j2 hDn (fun i j x y hx hy hxy => ?_)⟩
  have hx2 : ∃ q0, ws[i]? = some q0 ∧ q0.1 = x.1 := by
    rcases rp_get is wc1 ws i x hlen hx with ⟨-, h2⟩ | ⟨k, h1, h2⟩
    · exact ⟨x, h2, rfl⟩
    · obtain ⟨q0, h3, h4⟩ := rp_at2 hI h1
      refine ⟨q0, h4, ?_⟩
      have e1 : (wc1.map (·.1))[k]? = some x.1 := by rw [List.getElem?_map, h2]; rfl
      have e2 : (wc.map (·.1))[k]? = some q0.1 := by rw [List.getElem?_map, h3]; rfl
      rw [had, e2] at e1
      exact Option.some.inj e1
  obtain ⟨q0, h1, h2⟩ := hx2
  have h3 := (hP i q0 h1).lt
  have h4 := hnew j y hy
  omega
theorem wd_swap {G : gw_} {A : Nat → Prop} {H0 H : Heap} {a t0 t1 : va_W} {locs : List Loc} (hw : wd_ G A H0 (a ++ (t0 ++ t1)) H locs) : wd_ G A H0 (a ++ (t1 ++ t0)) H locs := by
  have mem : ∀ (k : Nat) (q : Nat × va_E), (a ++ (t1 ++ t0))[k]? = some q → ∃ j, (a ++ (t0 ++ t1))[j]? = some q ∧ ((k < a.length ∧ j = k) ∨ (a.length ≤ k ∧ k < a.length + t1.length ∧ j = k + t0.length) ∨ (a.length + t1.length ≤ k ∧ j + t1.length = k)) := by
    intro k q h
    by_cases h1 : k < a.length
    · rw [List.getElem?_append_left h1] at h
      exact ⟨k, by rw [List.getElem?_append_left h1]; exact h, Or.inl ⟨h1, rfl⟩⟩
    · rw [List.getElem?_append_right (by omega)] at h
      by_cases h2 : k - a.length < t1.length
      · rw [List.getElem?_append_left h2] at h
        refine ⟨k + t0.length, ?_, Or.inr (Or.inl ⟨by omega, by omega, rfl⟩)⟩
        rw [List.getElem?_append_right (by omega), List.getElem?_append_right (by omega), show k + t0.length - a.length - t0.length = k - a.length by omega]
        exact h
      · rw [List.getElem?_append_right (by omega)] at h
        have h3 := (List.getElem?_eq_some_iff.mp h).1
        refine ⟨k - t1.length, ?_, Or.inr (Or.inr ⟨by omega, by omega⟩)⟩
        rw [List.getElem?_append_right (by omega), List.getElem?_append_left (by omega), show k - t1.length - a.length = k - a.length - t1.length by omega]
        exact h
  refine ⟨fun k q h => ?_, ⟨fun i j x y hi hj hxy => ?_, fun k q h => ?_⟩, hw.2.2⟩
  · obtain ⟨j, h1, -⟩ := mem k q h
    exact hw.1 j q h1
  · obtain ⟨i', h1, h2⟩ := mem i x hi
    obtain ⟨j', h3, h4⟩ := mem j y hj
    have h5 := hw.2.1.1 i' j' x y h1 h3 hxy
    have b1 : i < a.length + (t1.length + t0.length) := by have := (List.getElem?_eq_some_iff.mp hi).1; simpa using this
    have b2 : j < a.length + (t1.length + t0.length) := by have := (List.getElem?_eq_some_iff.mp hj).1; simpa using this
    omega
  · obtain ⟨j, h1, -⟩ := mem k q h
    exact hw.2.1.2 j q h1
section OWN7
variable {p : Program} {l : Launch} {e : Env} {R : Room} {s : State} {m : MethodId} {args : Array Value} {below : List Frame} {meth : Method} {c : Code} {H : Heap} {locs : List Loc} {cells slots : Nat} {Q : State → Prop} {cc : ByteArray} {pc nL : Nat} {ls : Array Slot} {rest st0 : List Value} {G : gw_} {A : Nat → Prop} {ws wc : va_W} {own : String}
theorem g_cVk {y : MethodName} {bytes : ByteArray} {maxL fr lo mc ms n index : Nat} {C : String} {b : Addr} {As : List Value} {P : Int32 → va_W → Prop} (hC : cx_ p s m c G cc nL own) (hw : wd_ G A s.heap ws H locs) (hk : mv_ own index y bytes maxL (some .int) C n) (hM : ki_ l G y bytes maxL fr lo mc ms wc (.ref b :: As) P) (is : List Nat) (hI : is.map (fun i => ws[i]?) = wc.map some) (hnd : va_nd is = true) (q0 : Nat) {ci N : Nat} {T : u_T} {fs : List Value} (he : ws[q0]? = some (b, .inr (ci, fs))) (hc : cl_[ci]? = some (C, T, N)) (hn : As.length = n) (hsz : ls.size = nL) (hst : st0 = As.reverse ++ .ref b :: rest) (hro : (rest.map fun v => v.category).sum ≤ 8) (hR : fr + 1 ≤ R.frames ∧ 8 + (maxL + 11) + lo ≤ R.locals) (hcs : cells + mc ≤ R.cells ∧ slots + ms ≤ R.slots) (hdg : decode cc pc = .ok (.invokevirtual index, 3))
    (kk : ∀ (r : Int32) (ws1 : va_W) (H1 : Heap) (locs1 : List Loc), P r ws1 → (∀ wc1 wn : va_W, ws1 = wc1 ++ wn → wc1.map (·.1) = wc.map (·.1) → wd_ G A s.heap (rp_ ws is wc1 ++ wn) H1 locs1) → W p l e R s m args below meth c H1 locs1 (cells + mc) (slots + ms) Q (F0 m (pc + 3) ls (.int r :: rest))) : W p l e R s m args below meth c H locs cells slots Q (F0 m pc ls st0) := by
  subst hst
  have hF := wd_free hw is hI
  refine va_calli (g_runV hC hk (hM H.size) hR ⟨pre_blind _ _ _ _, gw_recv hC hw he hc, pre_of hC hw is hnd hI⟩ rfl hn hsz rfl (lv_room hro) hdg hcs) hw.2.2.1 (fun q _ h => hF q h) hF (fun r' u t H1 locs1 ht hvm hpo hB hz1 hk1 hS => ?_)
  obtain ⟨hP1, hD1⟩ := hB
  rw [ht] at hP1
  refine kk r' u H1 locs1 hpo (fun wc1 wn e1 e2 => ?_)
  subst e1
  obtain ⟨j1, j2⟩ := rp_joinN hw.1 hw.2.1 hI e2 hF hk1 hP1 hD1
  exact ⟨j1, j2, hS, hw.2.2.2⟩
end OWN7
set_option maxRecDepth 100000 in
theorem mvL_129 : mv_ RL 129 yX9_image cX9_image 2 (some .int) RX9 1 := ⟨Or.inl (tb3 201 rfl rfl), (tb3 202 rfl rfl), (tb3 203 rfl rfl), (tb1 1 rfl rfl), (tb3 204 rfl rfl), by decide +kernel⟩
set_option maxRecDepth 100000 in
theorem mvL_132 : mv_ RL 132 yX10_image cX10_image 2 (some .int) RX10 1 := ⟨Or.inl (tb5 147 rfl rfl), (tb5 148 rfl rfl), (tb5 149 rfl rfl), (tb1 12 rfl rfl), (tb5 150 rfl rfl), by decide +kernel⟩
set_option maxRecDepth 100000 in
theorem mvL_133 : mv_ RL 133 yX9_restore cX9_restore 2 (some .int) RX9 1 := ⟨Or.inl (tb3 220 rfl rfl), (tb3 221 rfl rfl), (tb3 222 rfl rfl), (tb1 1 rfl rfl), (tb3 223 rfl rfl), by decide +kernel⟩
set_option maxRecDepth 100000 in
theorem mvL_136 : mv_ RL 136 yX10_restore cX10_restore 2 (some .int) RX10 1 := ⟨Or.inl (tb5 159 rfl rfl), (tb5 160 rfl rfl), (tb5 161 rfl rfl), (tb1 12 rfl rfl), (tb5 162 rfl rfl), by decide +kernel⟩
