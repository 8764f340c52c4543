/-! ===== whose, ask ===== -/
def okq_ (d a li sp sl : Nat → Nat) (j k : Nat) : Bool := decide (la_ d a li j (sp k) = nI (sl k))
def fit_ (d a li sp sl : Nat → Nat) (sc j : Nat) : Int32 := fs_ (fun k => !okq_ d a li sp sl j k) (fun _ => (0 : Int32)) 1 sc 0
theorem fits_ {at1 home light at2 home2 light2 L : Nat → Int32} {a h li d : Nat → Nat} (h5 : wk_ at1 home light at2 home2 light2 a h li) {p1 l1 p2 l2 : Nat → Int32} {sp sl : Nat → Nat} (h9 : sg_ p1 l1 p2 l2 sp sl) {sc : Nat} (hsc : sc ≤ 8) (hL : ∀ k, k < 144 → L k = nI (d k)) (hd : ∀ k, k < 144 → d k ≤ 1000000) {j : Nat} (hj : j < 6) : fn_X6_fits (nI sc) p1 l1 at1 light L (nI j) = some (fit_ d a li sp sl sc j) := by
  obtain ⟨b1, b2, b3, b4, b5, b6, -⟩ := h5 j hj
  unfold fn_X6_fits fit_
  refine (ls_ sc (fun n x => fn_X6_fits_l3 (nI sc) p1 l1 at1 light L (nI j) (some 1) n x) (fun k => !okq_ d a li sp sl j k) (fun _ => some 0) (some 1) ?_ ?_ sc 0 fu_ (Nat.zero_add _) (fu_lt (by omega))).trans (fs_map some sc 0)
  · intro n k hk
    obtain ⟨g1, g2, g3, g4, -⟩ := h9 k (by omega)
    show fn_X6_fits_b3 (nI sc) p1 l1 at1 light L (nI j) (fn_X6_fits_l3 (nI sc) p1 l1 at1 light L (nI j) (some 1) n) (some 1) (nI k) = _
    unfold fn_X6_fits_b3 okq_
    rw [if_neg (nI_ge hk (by omega)), ckn_ (show k < 8 by omega) (by omega), nI_clamp (by omega), g3, lightAfter_ hj g1 b1 b3 b4 b6 hL hd, b1_so, ckn_ (show k < 8 by omega) (by omega), g4, nI_1]
    by_cases e : la_ d a li j (sp k) = nI (sl k)
    · rw [if_pos e, decide_eq_true e, if_neg (by decide)]
    · rw [if_neg e, decide_eq_false e, if_pos (by decide)]
  · intro n
    show fn_X6_fits_b3 (nI sc) p1 l1 at1 light L (nI j) (fn_X6_fits_l3 (nI sc) p1 l1 at1 light L (nI j) (some 1) n) (some 1) (nI sc) = _
    unfold fn_X6_fits_b3
    rw [if_pos (Int32.le_refl _)]
def zf_ (d a li sp sl : Nat → Nat) (j k : Nat) (z : Int32) : Int32 := if z = 0 then 0 else if okq_ d a li sp sl j k = true then 1 else 0
theorem zf_0 (d a li sp sl : Nat → Nat) (j : Nat) : ∀ e i, fl_ (zf_ d a li sp sl j) e i 0 = 0
  | 0, _ => rfl
  | e + 1, i => by
    show fl_ (zf_ d a li sp sl j) e (i + 1) (zf_ d a li sp sl j i 0) = 0
    rw [show zf_ d a li sp sl j i 0 = 0 from if_pos rfl]
    exact zf_0 d a li sp sl j e (i + 1)
theorem zf_1 (d a li sp sl : Nat → Nat) (j : Nat) : ∀ e i, fl_ (zf_ d a li sp sl j) e i 1 = fs_ (fun k => !okq_ d a li sp sl j k) (fun _ => (0 : Int32)) 1 e i
  | 0, _ => rfl
  | e + 1, i => by
    show fl_ (zf_ d a li sp sl j) e (i + 1) (zf_ d a li sp sl j i 1) = (if (!okq_ d a li sp sl j i) = true then (0 : Int32) else fs_ (fun k => !okq_ d a li sp sl j k) (fun _ => (0 : Int32)) 1 e (i + 1))
    unfold zf_
    rw [if_neg (show ¬ (1 : Int32) = 0 by decide)]
    by_cases h : okq_ d a li sp sl j i = true
    · rw [if_pos h, h, if_neg (by decide)]
      exact zf_1 d a li sp sl j e (i + 1)
    · rw [if_neg h, if_pos (by rw [Bool.not_eq_true] at h; rw [h]; decide)]
      exact zf_0 d a li sp sl j e (i + 1)
theorem wh23_ {at1 home light at2 home2 light2 A : Nat → Int32} {a h li d : Nat → Nat} (h5 : wk_ at1 home light at2 home2 light2 a h li) {p1 l1 p2 l2 : Nat → Int32} {sp sl : Nat → Nat} (h9 : sg_ p1 l1 p2 l2 sp sl) {sc : Nat} (hsc : sc ≤ 8) (hA : ∀ k, k < 144 → A k = nI (d k)) (hd : ∀ k, k < 144 → d k ≤ 1000000) {j : Nat} (hj : j < 6) (k : Int32 → Option (Int32 × (Nat → Int32))) (z : Int32) : fn_X10_whose_l23 (nI sc) at2 light2 p2 l2 A (nI j) k fu_ z 0 = k (fl_ (zf_ d a li sp sl j) sc 0 z) := by
  obtain ⟨b1, b2, b3, -, -, -, b4, b5, b6⟩ := h5 j hj
  refine lf_ sc (fun n x (z : Int32) => fn_X10_whose_l23 (nI sc) at2 light2 p2 l2 A (nI j) k n z x) k (zf_ d a li sp sl j) ?_ ?_ sc 0 fu_ z (Nat.zero_add _) (fu_lt (by omega))
  · intro n i z hi
    obtain ⟨g1, g2, -, -, g3, g4⟩ := h9 i (by omega)
    show fn_X10_whose_b23 (nI sc) at2 light2 p2 l2 A (nI j) (fn_X10_whose_l23 (nI sc) at2 light2 p2 l2 A (nI j) k n) k z (nI i) = _
    unfold fn_X10_whose_b23 zf_ okq_
    rw [if_neg (nI_ge hi (by omega)), ckn_ (show i < 8 by omega) (by omega), nI_clamp (by omega), g3, leftAt_ hj g1 b1 b3 b4 b6 hA hd, b1_so, ckn_ (show i < 8 by omega) (by omega), g4, nI_1]
    by_cases e0 : z = 0
    · rw [if_pos e0, if_pos e0]
    · rw [if_neg e0, if_neg e0]
      by_cases e : la_ d a li j (sp i) = nI (sl i)
      · rw [if_pos e, decide_eq_true e, if_pos rfl]
      · rw [if_neg e, decide_eq_false e, if_neg (by decide)]
  · intro n z
    show fn_X10_whose_b23 (nI sc) at2 light2 p2 l2 A (nI j) (fn_X10_whose_l23 (nI sc) at2 light2 p2 l2 A (nI j) k n) k z (nI sc) = _
    unfold fn_X10_whose_b23
    rw [if_pos (Int32.le_refl _)]
def wf_ (T : Nat) (d a li sp sl : Nat → Nat) (sc j : Nat) (st : Int32) : Int32 := if T.testBit j = true ∧ ¬ fit_ d a li sp sl sc j = 0 then st ||| (1 <<< (nI j &&& 31)) else st
def ws_ (T : Nat) (d a li sp sl : Nat → Nat) (sc : Nat) : Int32 := fl_ (wf_ T d a li sp sl sc) 6 0 0
theorem fitting_ {T : Nat} (hT : T < 64) {at1 home light at2 home2 light2 L : Nat → Int32} {a h li d : Nat → Nat} (h5 : wk_ at1 home light at2 home2 light2 a h li) {p1 l1 p2 l2 : Nat → Int32} {sp sl : Nat → Nat} (h9 : sg_ p1 l1 p2 l2 sp sl) {sc : Nat} (hsc : sc ≤ 8) (hL : ∀ k, k < 144 → L k = nI (d k)) (hd : ∀ k, k < 144 → d k ≤ 1000000) : fn_X6_fitting (nI sc) p1 l1 (nI T) at1 light L = some (ws_ T d a li sp sl sc) := by
  unfold fn_X6_fitting ws_
  refine lf_ 6 (fun n x (st : Int32) => fn_X6_fitting_l5 (nI sc) p1 l1 (nI T) at1 light L (fun v6 => some v6) n st x) (fun v6 => some v6) (wf_ T d a li sp sl sc) ?_ ?_ 6 0 fu_ 0 rfl (fu_lt (by omega))
  · intro n j st hj
    show fn_X6_fitting_b5 (nI sc) p1 l1 (nI T) at1 light L (fn_X6_fitting_l5 (nI sc) p1 l1 (nI T) at1 light L (fun v6 => some v6) n) (fun v6 => some v6) st (nI j) = _
    unfold fn_X6_fitting_b5 wf_
    rw [if_neg (show ¬ (6 : Int32) ≤ nI j from nI_ge (b := 6) hj (by omega)), (has_ hT hj).1, b1_so, fits_ h5 h9 hsc hL hd hj, b1_so, lx_so, nI_1]
    by_cases e1 : T.testBit j = true
    · rw [if_pos e1, if_neg (by decide)]
      by_cases e2 : fit_ d a li sp sl sc j = 0
      · rw [if_pos e2, if_neg (fun z => z.2 e2)]
      · rw [if_neg e2, if_pos ⟨e1, e2⟩]
    · rw [if_neg e1, if_pos rfl, if_neg (fun z => e1 z.1)]
  · intro n st
    show fn_X6_fitting_b5 (nI sc) p1 l1 (nI T) at1 light L (fn_X6_fitting_l5 (nI sc) p1 l1 (nI T) at1 light L (fun v6 => some v6) n) (fun v6 => some v6) st (nI 6) = _
    unfold fn_X6_fitting_b5
    rw [if_pos (show (6 : Int32) ≤ nI 6 by decide)]
theorem whose8_ {T : Nat} (hT : T < 64) {at1 home light at2 home2 light2 A : Nat → Int32} {a h li d : Nat → Nat} (h5 : wk_ at1 home light at2 home2 light2 a h li) {p1 l1 p2 l2 : Nat → Int32} {sp sl : Nat → Nat} (h9 : sg_ p1 l1 p2 l2 sp sl) {sc : Nat} (hsc : sc ≤ 8) (hA : ∀ k, k < 144 → A k = nI (d k)) (hd : ∀ k, k < 144 → d k ≤ 1000000) (k : Int32 → Option (Int32 × (Nat → Int32))) : fn_X10_whose_l8 (nI T) (nI sc) at2 light2 p2 l2 A k fu_ 0 0 = k (ws_ T d a li sp sl sc) := by
  unfold ws_
  refine lf_ 6 (fun n x (st : Int32) => fn_X10_whose_l8 (nI T) (nI sc) at2 light2 p2 l2 A k n st x) k (wf_ T d a li sp sl sc) ?_ ?_ 6 0 fu_ 0 rfl (fu_lt (by omega))
  · intro n j st hj
    show fn_X10_whose_b8 (nI T) (nI sc) at2 light2 p2 l2 A (fn_X10_whose_l8 (nI T) (nI sc) at2 light2 p2 l2 A k n) k st (nI j) = _
    unfold fn_X10_whose_b8 wf_
    rw [if_neg (show ¬ (6 : Int32) ≤ nI j from nI_ge (b := 6) hj (by omega)), (has_ hT hj).2, b1_so, wh23_ h5 h9 hsc hA hd hj, lx_so, nI_1, Int32.or_zero]
    by_cases e1 : T.testBit j = true
    · rw [if_pos e1, show fl_ (zf_ d a li sp sl j) sc 0 1 = fit_ d a li sp sl sc j from zf_1 d a li sp sl j sc 0]
      by_cases e2 : fit_ d a li sp sl sc j = 0
      · rw [if_pos e2, if_neg (fun z => z.2 e2)]
      · rw [if_neg e2, if_pos ⟨e1, e2⟩]
    · rw [if_neg e1, zf_0, if_pos rfl, if_neg (fun z => e1 z.1)]
  · intro n st
    show fn_X10_whose_b8 (nI T) (nI sc) at2 light2 p2 l2 A (fn_X10_whose_l8 (nI T) (nI sc) at2 light2 p2 l2 A k n) k st (nI 6) = _
    unfold fn_X10_whose_b8
    rw [if_pos (show (6 : Int32) ≤ nI 6 by decide)]
theorem pp_whose {c_x_measured c_x_now_crowd_there c_x_now_crowd_foggy c_x_now_sights_count c_x_pad_count c_x_evening_acts c_x_evening_failedAct c_x_evening_reason c_x_evening_costs c_x_evening_walks c_x_evening_crowd_there c_x_evening_crowd_foggy c_x_tour_costs c_x_tour_firstStop c_x_odds_count c_x_odds_tenths c_m_foggy c_m_walkers c_m_sights c_m_padMany c_m_acts c_m_spent c_m_walks c_m_badAct c_m_badWhy c_m_keptAt c_m_isWriting : Int32} {c_x_now_marsh_codes c_x_now_crowd_at c_x_now_crowd_home c_x_now_crowd_light c_x_now_crowd_carries c_x_now_crowd_bearer c_x_now_sights_places c_x_now_sights_lights c_x_pad_signs c_x_evening_crowd_at c_x_evening_crowd_home c_x_evening_crowd_light c_x_evening_crowd_carries c_x_evening_crowd_bearer c_x_ways_planks c_x_ways_least c_x_ways_neighbours c_x_tour_stops c_x_tour_rest c_x_odds_planks c_m_steps c_m_wet c_m_where c_m_home c_m_light c_m_carries c_m_sightPlace c_m_sightLight c_m_pad c_m_act c_m_whose c_m_whom c_m_tens c_m_had c_m_leaves c_m_apart c_m_stop c_m_restOf c_m_group c_m_along : Nat → Int32} (hR : RR c_x_measured c_x_now_marsh_codes c_x_now_crowd_there c_x_now_crowd_foggy c_x_now_crowd_at c_x_now_crowd_home c_x_now_crowd_light c_x_now_crowd_carries c_x_now_crowd_bearer c_x_now_sights_count c_x_now_sights_places c_x_now_sights_lights c_x_pad_count c_x_pad_signs c_x_evening_acts c_x_evening_failedAct c_x_evening_reason c_x_evening_costs c_x_evening_walks c_x_evening_crowd_there c_x_evening_crowd_foggy c_x_evening_crowd_at c_x_evening_crowd_home c_x_evening_crowd_light c_x_evening_crowd_carries c_x_evening_crowd_bearer c_x_ways_planks c_x_ways_least c_x_ways_neighbours c_x_tour_costs c_x_tour_firstStop c_x_tour_stops c_x_tour_rest c_x_odds_count c_x_odds_tenths c_x_odds_planks c_m_foggy c_m_walkers c_m_sights c_m_padMany c_m_acts c_m_spent c_m_walks c_m_badAct c_m_badWhy c_m_keptAt c_m_isWriting c_m_steps c_m_wet c_m_where c_m_home c_m_light c_m_carries c_m_sightPlace c_m_sightLight c_m_pad c_m_act c_m_whose c_m_whom c_m_tens c_m_had c_m_leaves c_m_apart c_m_stop c_m_restOf c_m_group c_m_along)   : ∃ (r : Int32) (w0 : Int32) (w1 : Nat → Int32) (w2 : Nat → Int32) (w3 : Nat → Int32) (v0 : Nat → Int32), fn_X9_whose c_x_measured c_x_now_marsh_codes c_x_now_crowd_there c_x_now_crowd_foggy c_x_now_crowd_at c_x_now_crowd_light c_x_now_sights_count c_x_now_sights_places c_x_now_sights_lights c_x_ways_planks c_x_ways_least c_x_ways_neighbours = some (r, w0, w1, w2, w3) ∧ fn_X10_whose c_m_foggy c_m_walkers c_m_sights c_m_steps c_m_wet c_m_where c_m_light c_m_sightPlace c_m_sightLight c_m_apart = some (r, v0) ∧ RR w0 c_x_now_marsh_codes c_x_now_crowd_there c_x_now_crowd_foggy c_x_now_crowd_at c_x_now_crowd_home c_x_now_crowd_light c_x_now_crowd_carries c_x_now_crowd_bearer c_x_now_sights_count c_x_now_sights_places c_x_now_sights_lights c_x_pad_count c_x_pad_signs c_x_evening_acts c_x_evening_failedAct c_x_evening_reason c_x_evening_costs c_x_evening_walks c_x_evening_crowd_there c_x_evening_crowd_foggy c_x_evening_crowd_at c_x_evening_crowd_home c_x_evening_crowd_light c_x_evening_crowd_carries c_x_evening_crowd_bearer w1 w2 w3 c_x_tour_costs c_x_tour_firstStop c_x_tour_stops c_x_tour_rest c_x_odds_count c_x_odds_tenths c_x_odds_planks c_m_foggy c_m_walkers c_m_sights c_m_padMany c_m_acts c_m_spent c_m_walks c_m_badAct c_m_badWhy c_m_keptAt c_m_isWriting c_m_steps c_m_wet c_m_where c_m_home c_m_light c_m_carries c_m_sightPlace c_m_sightLight c_m_pad c_m_act c_m_whose c_m_whom c_m_tens c_m_had c_m_leaves v0 c_m_stop c_m_restOf c_m_group c_m_along := by
  obtain ⟨s, w, T, F, a, h, li, cr, br, sc, sp, sl, pc, g, h1, h2, ⟨hT, hT1, hT2⟩, ⟨hF, hF1, hF2⟩, h5, h6, h7, ⟨hsc, hs1, hs2⟩, h9, ⟨hpc, hp1, hp2⟩, h11, h12⟩ := id hR
  obtain ⟨P', L', N', A', e1, e2, hw, hA⟩ := mw_ h1 hF h12 c_m_apart
  have hd := ds_le (pl_b h1) hF
  refine ⟨ws_ T (ds_ s w F) a li sp sl sc, 1, P', L', N', A', ?_, ?_, ⟨s, w, T, F, a, h, li, cr, br, sc, sp, sl, pc, g, h1, h2, ⟨hT, hT1, hT2⟩, ⟨hF, hF1, hF2⟩, h5, h6, h7, ⟨hsc, hs1, hs2⟩, h9, ⟨hpc, hp1, hp2⟩, h11, Or.inr ⟨rfl, hw⟩⟩⟩
  · unfold fn_X9_whose
    rw [hF1, e1, b4_so, hs1, hT1, fitting_ hT h5 h9 hsc (fun k hk => (hw.1 k hk).2) hd, b1_so]
  · unfold fn_X10_whose
    rw [hF2, e2, b1_so, hs2, hT2, whose8_ hT h5 h9 hsc hA hd]
/-! ask -/
def Bt_ (S : Int32) (j : Nat) : Bool := decide (((S >>> (nI j &&& 31)) &&& 1) = 1)
theorem Bt_t {S : Int32} {j : Nat} (h : Bt_ S j = true) : ((S >>> (nI j &&& 31)) &&& 1) = 1 := of_decide_eq_true h
theorem Bt_f {S : Int32} {j : Nat} (h : ¬ Bt_ S j = true) : ¬ ((S >>> (nI j &&& 31)) &&& 1) = 1 := fun e => h (decide_eq_true e)
theorem isIn2_ (S : Int32) (j : Nat) : fn_X9_isIn S (nI j) = some (if Bt_ S j = true then 1 else 0) := by
  unfold fn_X9_isIn
  by_cases e : Bt_ S j = true
  · rw [if_pos (Bt_t e), if_pos e]
  · rw [if_neg (Bt_f e), if_neg e]
def cA_ (S : Int32) (d a li : Nat → Nat) (p : Nat) (z : Int32) (k c : Nat) : Nat := if Bt_ S k = true ∧ la_ d a li k p = z then c + 1 else c
theorem cA_le (S : Int32) (d a li : Nat → Nat) (p : Nat) (z : Int32) : ∀ e i c, fl_ (cA_ S d a li p z) e i c ≤ c + e
  | 0, i, c => Nat.le_refl _
  | e + 1, i, c => by
    have h := cA_le S d a li p z e (i + 1) (cA_ S d a li p z i c)
    show fl_ (cA_ S d a li p z) e (i + 1) (cA_ S d a li p z i c) ≤ c + (e + 1)
    have h2 : cA_ S d a li p z i c ≤ c + 1 := by unfold cA_; split <;> omega
    omega
theorem countAlike_ {at1 home light at2 home2 light2 L : Nat → Int32} {a h li d : Nat → Nat} (h5 : wk_ at1 home light at2 home2 light2 a h li) (hL : ∀ k, k < 144 → L k = nI (d k)) (hd : ∀ k, k < 144 → d k ≤ 1000000) (S : Int32) {p : Nat} (hp : p < 12) (z : Int32) : fn_X6_countAlike at1 light L S (nI p) z = some (nI (fl_ (cA_ S d a li p z) 6 0 0)) := by
  unfold fn_X6_countAlike
  refine lf_ 6 (fun n x (c : Nat) => fn_X6_countAlike_l6 at1 light L S (nI p) z (fun v5 => some v5) n (nI c) x) (fun c => some (nI c)) (cA_ S d a li p z) ?_ ?_ 6 0 fu_ 0 rfl (fu_lt (by omega))
  · intro n k c hk
    obtain ⟨b1, b2, b3, b4, b5, b6, -⟩ := h5 k hk
    show fn_X6_countAlike_b6 at1 light L S (nI p) z (fn_X6_countAlike_l6 at1 light L S (nI p) z (fun v5 => some v5) n) (fun v5 => some v5) (nI c) (nI k) = _
    unfold fn_X6_countAlike_b6 cA_
    rw [if_neg (show ¬ (6 : Int32) ≤ nI k from nI_ge (b := 6) hk (by omega)), isIn2_, b1_so, lightAfter_ hk hp b1 b3 b4 b6 hL hd, b1_so, nI_1, nI_1]
    by_cases e1 : Bt_ S k = true
    · rw [if_pos e1, if_neg (by decide)]
      by_cases e2 : la_ d a li k p = z
      · rw [if_pos e2, if_pos ⟨e1, e2⟩]
      · rw [if_neg e2, if_neg (fun q => e2 q.2)]
    · rw [if_neg e1, if_pos rfl, if_neg (fun q => e1 q.1)]
  · intro n c
    show fn_X6_countAlike_b6 at1 light L S (nI p) z (fn_X6_countAlike_l6 at1 light L S (nI p) z (fun v5 => some v5) n) (fun v5 => some v5) (nI c) (nI 6) = _
    unfold fn_X6_countAlike_b6
    rw [if_pos (show (6 : Int32) ≤ nI 6 by decide)]
def mA_ (S : Int32) (d a li : Nat → Nat) (p w m : Nat) : Nat := if Bt_ S w = true ∧ m < fl_ (cA_ S d a li p (la_ d a li w p)) 6 0 0 then fl_ (cA_ S d a li p (la_ d a li w p)) 6 0 0 else m
def ma_ (S : Int32) (d a li : Nat → Nat) (p : Nat) : Nat := fl_ (mA_ S d a li p) 6 0 0
theorem mostAlike1_ {at1 home light at2 home2 light2 L : Nat → Int32} {a h li d : Nat → Nat} (h5 : wk_ at1 home light at2 home2 light2 a h li) (hL : ∀ k, k < 144 → L k = nI (d k)) (hd : ∀ k, k < 144 → d k ≤ 1000000) (S : Int32) {p : Nat} (hp : p < 12) : fn_X6_mostAlike at1 light L S (nI p) = some (nI (ma_ S d a li p)) ∧ ma_ S d a li p ≤ 6 := by
  unfold fn_X6_mostAlike ma_
  refine lg2_ 6 (fun n x (m : Nat) => fn_X6_mostAlike_l6 at1 light L S (nI p) (fun v8 => some v8) n (nI m) x) (fun m => some (nI m)) (mA_ S d a li p) (fun _ m => m ≤ 6) ?_ ?_ 6 0 fu_ 0 rfl (fu_lt (by omega)) (by omega)
  · intro n w m hw hm
    have hc := cA_le S d a li p (la_ d a li w p) 6 0 0
    obtain ⟨b1, b2, b3, b4, b5, b6, -⟩ := h5 w hw
    refine ⟨?_, by unfold mA_; split <;> omega⟩
    show fn_X6_mostAlike_b6 at1 light L S (nI p) (fn_X6_mostAlike_l6 at1 light L S (nI p) (fun v8 => some v8) n) (fun v8 => some v8) (nI m) (nI w) = _
    unfold fn_X6_mostAlike_b6 mA_
    rw [if_neg (show ¬ (6 : Int32) ≤ nI w from nI_ge (b := 6) hw (by omega)), isIn2_, b1_so, lightAfter_ hw hp b1 b3 b4 b6 hL hd, b1_so, countAlike_ h5 hL hd S hp, b1_so, lx_so, nI_1]
    by_cases e1 : Bt_ S w = true
    · rw [if_pos e1, if_neg (by decide)]
      by_cases e2 : m < fl_ (cA_ S d a li p (la_ d a li w p)) 6 0 0
      · rw [if_pos (nI_lt e2 (by omega)), if_pos ⟨e1, e2⟩]
      · rw [if_neg (nI_nlt (by omega) (by omega)), if_neg (fun q => e2 q.2)]
    · rw [if_neg e1, if_pos rfl, if_neg (fun q => e1 q.1)]
  · intro n m _
    show fn_X6_mostAlike_b6 at1 light L S (nI p) (fn_X6_mostAlike_l6 at1 light L S (nI p) (fun v8 => some v8) n) (fun v8 => some v8) (nI m) (nI 6) = _
    unfold fn_X6_mostAlike_b6
    rw [if_pos (show (6 : Int32) ≤ nI 6 by decide)]
theorem ma18_ {at1 home light at2 home2 light2 A : Nat → Int32} {a h li d : Nat → Nat} (h5 : wk_ at1 home light at2 home2 light2 a h li) (hA : ∀ k, k < 144 → A k = nI (d k)) (hd : ∀ k, k < 144 → d k ≤ 1000000) (S : Int32) {p w : Nat} (hp : p < 12) (hw : w < 6) (k : Int32 → Option Int32) : fn_X10_mostAlike_l18 at2 light2 A S (nI p) (nI w) k fu_ 0 0 = k (nI (if Bt_ S w = true then fl_ (cA_ S d a li p (la_ d a li w p)) 6 0 0 else 0)) := by
  obtain ⟨a1, a2, a3, -, -, -, a4, a5, a6⟩ := h5 w hw
  have key : fn_X10_mostAlike_l18 at2 light2 A S (nI p) (nI w) k fu_ 0 0 = k (nI (fl_ (fun j c => if Bt_ S w = true then cA_ S d a li p (la_ d a li w p) j c else c) 6 0 0)) := by
    refine lf_ 6 (fun n x (c : Nat) => fn_X10_mostAlike_l18 at2 light2 A S (nI p) (nI w) k n (nI c) x) (fun c => k (nI c)) (fun j c => if Bt_ S w = true then cA_ S d a li p (la_ d a li w p) j c else c) ?_ ?_ 6 0 fu_ 0 rfl (fu_lt (by omega))
    · intro n j c hj
      obtain ⟨b1, b2, b3, -, -, -, b4, b5, b6⟩ := h5 j hj
      show fn_X10_mostAlike_b18 at2 light2 A S (nI p) (nI w) (fn_X10_mostAlike_l18 at2 light2 A S (nI p) (nI w) k n) k (nI c) (nI j) = _
      unfold fn_X10_mostAlike_b18 fn_X10_mostAlike_j49 fn_X10_mostAlike_j50 fn_X10_mostAlike_j80
      rw [if_neg (show ¬ (6 : Int32) ≤ nI j from nI_ge (b := 6) hj (by omega)), if_neg (show ¬ (1 : Int32) = 0 by decide), if_pos (show (0 : Int32) = 0 from rfl), leftAt_ hw hp a1 a3 a4 a6 hA hd, b1_so, leftAt_ hj hp b1 b3 b4 b6 hA hd, b1_so, Int32.add_zero, nI_1, nI_1]
      by_cases e1 : Bt_ S w = true
      · rw [if_pos (Bt_t e1)]
        show _ = fn_X10_mostAlike_l18 at2 light2 A S (nI p) (nI w) k n (nI (if Bt_ S w = true then cA_ S d a li p (la_ d a li w p) j c else c)) (nI (j + 1))
        rw [if_pos e1]
        unfold cA_
        by_cases e2 : Bt_ S j = true
        · rw [if_pos (Bt_t e2)]
          by_cases e3 : la_ d a li j p = la_ d a li w p
          · rw [if_pos e3.symm, if_pos ⟨e2, e3⟩]
          · rw [if_neg (fun q => e3 q.symm), if_neg (fun q => e3 q.2)]
        · rw [if_neg (Bt_f e2), if_neg (fun q => e2 q.1)]
      · rw [if_neg (Bt_f e1)]
        show _ = fn_X10_mostAlike_l18 at2 light2 A S (nI p) (nI w) k n (nI (if Bt_ S w = true then cA_ S d a li p (la_ d a li w p) j c else c)) (nI (j + 1))
        rw [if_neg e1]
    · intro n c
      show fn_X10_mostAlike_b18 at2 light2 A S (nI p) (nI w) (fn_X10_mostAlike_l18 at2 light2 A S (nI p) (nI w) k n) k (nI c) (nI 6) = _
      unfold fn_X10_mostAlike_b18
      rw [if_pos (show (6 : Int32) ≤ nI 6 by decide)]
  rw [key]
  by_cases e1 : Bt_ S w = true
  · rw [if_pos e1]
    refine congrArg (fun z => k (nI z)) (fl_congr 6 0 0 (fun j c _ _ => ?_))
    rw [if_pos e1]
  · rw [if_neg e1]
    have z : ∀ e i, fl_ (fun j c => if Bt_ S w = true then cA_ S d a li p (la_ d a li w p) j c else c) e i 0 = 0 := by
      intro e
      induction e with
      | zero => intro i; rfl
      | succ e ih =>
        intro i
        show fl_ (fun j c => if Bt_ S w = true then cA_ S d a li p (la_ d a li w p) j c else c) e (i + 1) (if Bt_ S w = true then cA_ S d a li p (la_ d a li w p) i 0 else 0) = 0
        rw [if_neg e1]
        exact ih (i + 1)
    rw [z]
theorem mostAlike2_ {at1 home light at2 home2 light2 A : Nat → Int32} {a h li d : Nat → Nat} (h5 : wk_ at1 home light at2 home2 light2 a h li) (hA : ∀ k, k < 144 → A k = nI (d k)) (hd : ∀ k, k < 144 → d k ≤ 1000000) (S : Int32) {p : Nat} (hp : p < 12) : fn_X10_mostAlike at2 light2 A S (nI p) = some (nI (ma_ S d a li p)) := by
  unfold fn_X10_mostAlike ma_
  refine (lg2_ 6 (fun n x (m : Nat) => fn_X10_mostAlike_l5 at2 light2 A S (nI p) (fun v6 => some v6) n (nI m) x) (fun m => some (nI m)) (mA_ S d a li p) (fun _ m => m ≤ 6) ?_ ?_ 6 0 fu_ 0 rfl (fu_lt (by omega)) (by omega)).1
  · intro n w m hw hm
    have hc := cA_le S d a li p (la_ d a li w p) 6 0 0
    refine ⟨?_, by unfold mA_; split <;> omega⟩
    show fn_X10_mostAlike_b5 at2 light2 A S (nI p) (fn_X10_mostAlike_l5 at2 light2 A S (nI p) (fun v6 => some v6) n) (fun v6 => some v6) (nI m) (nI w) = _
    unfold fn_X10_mostAlike_b5 mA_
    rw [if_neg (show ¬ (6 : Int32) ≤ nI w from nI_ge (b := 6) hw (by omega)), ma18_ h5 hA hd S hp hw, nI_1]
    by_cases e1 : Bt_ S w = true
    · rw [if_pos e1]
      by_cases e2 : m < fl_ (cA_ S d a li p (la_ d a li w p)) 6 0 0
      · rw [if_neg (nI_ge e2 (by omega)), if_pos ⟨e1, e2⟩]
      · rw [if_pos (nI_le (by omega) (by omega)), if_neg (fun q => e2 q.2)]
    · rw [if_neg e1, if_pos (nI_le (by omega) (by omega)), if_neg (fun q => e1 q.1)]
  · intro n m _
    show fn_X10_mostAlike_b5 at2 light2 A S (nI p) (fn_X10_mostAlike_l5 at2 light2 A S (nI p) (fun v6 => some v6) n) (fun v6 => some v6) (nI m) (nI 6) = _
    unfold fn_X10_mostAlike_b5
    rw [if_pos (show (6 : Int32) ≤ nI 6 by decide)]
theorem bestQuestion_ {at1 home light at2 home2 light2 L : Nat → Int32} {a h li d : Nat → Nat} (h5 : wk_ at1 home light at2 home2 light2 a h li) (hL : ∀ k, k < 144 → L k = nI (d k)) (hd : ∀ k, k < 144 → d k ≤ 1000000) (S : Int32) : fn_X6_bestQuestion at1 light L S = some (nI (am_ (ma_ S d a li) 12)) := by
  have hap : am_ (ma_ S d a li) 12 < 12 := am_lt2 _ 12 (by omega)
  have hm := (mostAlike1_ h5 hL hd S hap).2
  have key := best1_ (ma_ S d a li) 7 (by omega) (fun p hp => by have := (mostAlike1_ h5 hL hd S hp).2; omega) (fun n x (st : Int32 × Int32) => fn_X6_bestQuestion_l10 at1 light L S (fun v3 => some v3) n st.1 st.2 x) (fun v3 => some v3) (by
    intro n p st hp
    show fn_X6_bestQuestion_b10 at1 light L S (fn_X6_bestQuestion_l10 at1 light L S (fun v3 => some v3) n) (fun v3 => some v3) st.1 st.2 (nI p) = _
    unfold fn_X6_bestQuestion_b10
    rw [if_neg (show ¬ (12 : Int32) ≤ nI p from nI_ge (b := 12) hp (by omega)), (mostAlike1_ h5 hL hd S hp).1, b1_so, nI_1]) (by
    intro n st
    show fn_X6_bestQuestion_b10 at1 light L S (fn_X6_bestQuestion_l10 at1 light L S (fun v3 => some v3) n) (fun v3 => some v3) st.1 st.2 (nI 12) = _
    unfold fn_X6_bestQuestion_b10
    rw [if_pos (show (12 : Int32) ≤ nI 12 by decide)])
  rw [if_neg (by omega)] at key
  exact key
theorem ask30_ {at1 home light at2 home2 light2 A : Nat → Int32} {a h li d : Nat → Nat} (h5 : wk_ at1 home light at2 home2 light2 a h li) (hA : ∀ k, k < 144 → A k = nI (d k)) (hd : ∀ k, k < 144 → d k ≤ 1000000) (S : Int32) (k : Int32 → Option (Int32 × (Nat → Int32))) : fn_X10_ask_l30 at2 light2 A S k fu_ 0 1 = k (nI (am_ (ma_ S d a li) 12)) := by
  refine best2_ (ma_ S d a li) (fun n x (st : Int32) => fn_X10_ask_l30 at2 light2 A S k n st x) k ?_ ?_
  · intro n p b hp hb
    show fn_X10_ask_b30 at2 light2 A S (fn_X10_ask_l30 at2 light2 A S k n) k (nI b) (nI p) = _
    unfold fn_X10_ask_b30
    have b1 := (mostAlike1_ h5 (L := A) hA hd S hb).2
    have b2 := (mostAlike1_ h5 (L := A) hA hd S hp).2
    rw [if_neg (show ¬ (12 : Int32) ≤ nI p from nI_ge (b := 12) hp (by omega)), mostAlike2_ h5 hA hd S hp, b1_so, mostAlike2_ h5 hA hd S hb, b1_so, nI_1]
    by_cases e : ma_ S d a li b ≤ ma_ S d a li p
    · rw [if_pos (nI_le e (by omega)), if_pos e]
    · rw [if_neg (nI_ge (by omega) (by omega)), if_neg e]
  · intro n st
    show fn_X10_ask_b30 at2 light2 A S (fn_X10_ask_l30 at2 light2 A S k n) k st (nI 12) = _
    unfold fn_X10_ask_b30
    rw [if_pos (show (12 : Int32) ≤ nI 12 by decide)]
theorem pp_ask {c_x_measured c_x_now_crowd_there c_x_now_crowd_foggy c_x_now_sights_count c_x_pad_count c_x_evening_acts c_x_evening_failedAct c_x_evening_reason c_x_evening_costs c_x_evening_walks c_x_evening_crowd_there c_x_evening_crowd_foggy c_x_tour_costs c_x_tour_firstStop c_x_odds_count c_x_odds_tenths c_m_foggy c_m_walkers c_m_sights c_m_padMany c_m_acts c_m_spent c_m_walks c_m_badAct c_m_badWhy c_m_keptAt c_m_isWriting : Int32} {c_x_now_marsh_codes c_x_now_crowd_at c_x_now_crowd_home c_x_now_crowd_light c_x_now_crowd_carries c_x_now_crowd_bearer c_x_now_sights_places c_x_now_sights_lights c_x_pad_signs c_x_evening_crowd_at c_x_evening_crowd_home c_x_evening_crowd_light c_x_evening_crowd_carries c_x_evening_crowd_bearer c_x_ways_planks c_x_ways_least c_x_ways_neighbours c_x_tour_stops c_x_tour_rest c_x_odds_planks c_m_steps c_m_wet c_m_where c_m_home c_m_light c_m_carries c_m_sightPlace c_m_sightLight c_m_pad c_m_act c_m_whose c_m_whom c_m_tens c_m_had c_m_leaves c_m_apart c_m_stop c_m_restOf c_m_group c_m_along : Nat → Int32} (hR : RR c_x_measured c_x_now_marsh_codes c_x_now_crowd_there c_x_now_crowd_foggy c_x_now_crowd_at c_x_now_crowd_home c_x_now_crowd_light c_x_now_crowd_carries c_x_now_crowd_bearer c_x_now_sights_count c_x_now_sights_places c_x_now_sights_lights c_x_pad_count c_x_pad_signs c_x_evening_acts c_x_evening_failedAct c_x_evening_reason c_x_evening_costs c_x_evening_walks c_x_evening_crowd_there c_x_evening_crowd_foggy c_x_evening_crowd_at c_x_evening_crowd_home c_x_evening_crowd_light c_x_evening_crowd_carries c_x_evening_crowd_bearer c_x_ways_planks c_x_ways_least c_x_ways_neighbours c_x_tour_costs c_x_tour_firstStop c_x_tour_stops c_x_tour_rest c_x_odds_count c_x_odds_tenths c_x_odds_planks c_m_foggy c_m_walkers c_m_sights c_m_padMany c_m_acts c_m_spent c_m_walks c_m_badAct c_m_badWhy c_m_keptAt c_m_isWriting c_m_steps c_m_wet c_m_where c_m_home c_m_light c_m_carries c_m_sightPlace c_m_sightLight c_m_pad c_m_act c_m_whose c_m_whom c_m_tens c_m_had c_m_leaves c_m_apart c_m_stop c_m_restOf c_m_group c_m_along) (x1 : Int32)  : ∃ (r : Int32) (w0 : Int32) (w1 : Nat → Int32) (w2 : Nat → Int32) (w3 : Nat → Int32) (v0 : Nat → Int32), fn_X9_ask c_x_measured c_x_now_marsh_codes c_x_now_crowd_there c_x_now_crowd_foggy c_x_now_crowd_at c_x_now_crowd_light c_x_now_sights_count c_x_now_sights_places c_x_now_sights_lights c_x_ways_planks c_x_ways_least c_x_ways_neighbours x1 = some (r, w0, w1, w2, w3) ∧ fn_X10_ask c_m_foggy c_m_walkers c_m_sights c_m_steps c_m_wet c_m_where c_m_light c_m_sightPlace c_m_sightLight c_m_apart x1 = some (r, v0) ∧ RR w0 c_x_now_marsh_codes c_x_now_crowd_there c_x_now_crowd_foggy c_x_now_crowd_at c_x_now_crowd_home c_x_now_crowd_light c_x_now_crowd_carries c_x_now_crowd_bearer c_x_now_sights_count c_x_now_sights_places c_x_now_sights_lights c_x_pad_count c_x_pad_signs c_x_evening_acts c_x_evening_failedAct c_x_evening_reason c_x_evening_costs c_x_evening_walks c_x_evening_crowd_there c_x_evening_crowd_foggy c_x_evening_crowd_at c_x_evening_crowd_home c_x_evening_crowd_light c_x_evening_crowd_carries c_x_evening_crowd_bearer w1 w2 w3 c_x_tour_costs c_x_tour_firstStop c_x_tour_stops c_x_tour_rest c_x_odds_count c_x_odds_tenths c_x_odds_planks c_m_foggy c_m_walkers c_m_sights c_m_padMany c_m_acts c_m_spent c_m_walks c_m_badAct c_m_badWhy c_m_keptAt c_m_isWriting c_m_steps c_m_wet c_m_where c_m_home c_m_light c_m_carries c_m_sightPlace c_m_sightLight c_m_pad c_m_act c_m_whose c_m_whom c_m_tens c_m_had c_m_leaves v0 c_m_stop c_m_restOf c_m_group c_m_along := by
  obtain ⟨s, w, T, F, a, h, li, cr, br, sc, sp, sl, pc, g, h1, h2, ⟨hT, hT1, hT2⟩, ⟨hF, hF1, hF2⟩, h5, h6, h7, ⟨hsc, hs1, hs2⟩, h9, ⟨hpc, hp1, hp2⟩, h11, h12⟩ := id hR
  rcases rg0_ x1 1 1 1 rfl rfl with ⟨q1, q2, -⟩ | ⟨m, hm, em, q1, q2⟩
  · refine ⟨-2, c_x_measured, c_x_ways_planks, c_x_ways_least, c_x_ways_neighbours, c_m_apart, ?_, ?_, hR⟩
    · unfold fn_X9_ask; rw [q1]; rfl
    · unfold fn_X10_ask; rw [q2]; rfl
  · obtain ⟨P', L', N', A', e1, e2, hw, hA⟩ := mw_ h1 hF h12 c_m_apart
    have hd := ds_le (pl_b h1) hF
    have hap : am_ (ma_ (ws_ T (ds_ s w F) a li sp sl sc) (ds_ s w F) a li) 12 < 12 := am_lt2 _ 12 (by omega)
    refine ⟨if ws_ T (ds_ s w F) a li sp sl sc = 0 then (-6) else if m = 0 then nI (am_ (ma_ (ws_ T (ds_ s w F) a li sp sl sc) (ds_ s w F) a li) 12) else nI (ma_ (ws_ T (ds_ s w F) a li sp sl sc) (ds_ s w F) a li (am_ (ma_ (ws_ T (ds_ s w F) a li sp sl sc) (ds_ s w F) a li) 12)), 1, P', L', N', A', ?_, ?_, ⟨s, w, T, F, a, h, li, cr, br, sc, sp, sl, pc, g, h1, h2, ⟨hT, hT1, hT2⟩, ⟨hF, hF1, hF2⟩, h5, h6, h7, ⟨hsc, hs1, hs2⟩, h9, ⟨hpc, hp1, hp2⟩, h11, Or.inr ⟨rfl, hw⟩⟩⟩
    · unfold fn_X9_ask
      rw [q1, b1_so, if_neg (by decide), hF1, e1, b4_so, hs1, hT1, fitting_ hT h5 h9 hsc (fun k hk => (hw.1 k hk).2) hd, b1_so, bestQuestion_ h5 (fun k hk => (hw.1 k hk).2) hd, b1_so, (mostAlike1_ h5 (fun k hk => (hw.1 k hk).2) hd _ hap).1, b1_so]
      by_cases e3 : ws_ T (ds_ s w F) a li sp sl sc = 0
      · rw [if_pos e3, if_pos e3]
      · rw [if_neg e3, if_neg e3]
        rcases (show m = 0 ∨ m = 1 by omega) with e5 | e5
        · rw [if_pos (show x1 = 0 by rw [em, e5]; rfl), if_pos e5]
        · rw [if_neg (show ¬ x1 = 0 by rw [em, e5]; decide), if_neg (by omega)]
    · unfold fn_X10_ask fn_X10_whose
      rw [q2, b1_so, if_neg (by decide), hF2, e2, b1_so, hs2, hT2, whose8_ hT h5 h9 hsc hA hd, b2_so, ask30_ h5 hA hd, mostAlike2_ h5 hA hd _ hap, b1_so]
      by_cases e3 : ws_ T (ds_ s w F) a li sp sl sc = 0
      · rw [if_pos e3, if_pos e3]
      · rw [if_neg e3, if_neg e3]
        rcases (show m = 0 ∨ m = 1 by omega) with e5 | e5
        · rw [if_pos (show x1 = 0 by rw [em, e5]; rfl), if_pos e5]
        · rw [if_neg (show ¬ x1 = 0 by rw [em, e5]; decide), if_neg (by omega)]
