/-- what an image holds: planks; who is there, fog, at, home, light, carries, bearer; sights: how many, places, lights -/
abbrev Im_ : Type := (Nat → Int32) × Int32 × Int32 × (Nat → Int32) × (Nat → Int32) × (Nat → Int32) × (Nat → Int32) × (Nat → Int32) × Int32 × (Nat → Int32) × (Nat → Int32)
abbrev wl_im (G : gw_) (a0 a1 a2 a3 a4 a5 a6 a7 a8 a9 a10 a11 : Nat) (i : Im_) : va_W := [ob_ a0 5 [.ref a1, .ref a3, .ref a9], ob_ a1 2 [.ref a2], ia_ G a2 144 i.1, ob_ a3 0 [.int i.2.1, .int i.2.2.1, .ref a4, .ref a5, .ref a6, .ref a7, .ref a8], ia_ G a4 6 i.2.2.2.1, ia_ G a5 6 i.2.2.2.2.1, ia_ G a6 6 i.2.2.2.2.2.1, ia_ G a7 6 i.2.2.2.2.2.2.1, ia_ G a8 6 i.2.2.2.2.2.2.2.1, ob_ a9 6 [.int i.2.2.2.2.2.2.2.2.1, .ref a10, .ref a11], ia_ G a10 8 i.2.2.2.2.2.2.2.2.2.1, ia_ G a11 8 i.2.2.2.2.2.2.2.2.2.2]
/-- an image's cells: none, or a Scene's twelve -/
def im_ (G : gw_) (img : Option Nat) (i : Option Im_) (t : va_W) : Prop := (i = none ∧ img = none ∧ t = []) ∨ ∃ (c : Im_) (a0 a1 a2 a3 a4 a5 a6 a7 a8 a9 a10 a11 : Nat), i = some c ∧ img = some a0 ∧ t = wl_im G a0 a1 a2 a3 a4 a5 a6 a7 a8 a9 a10 a11 c
/-! ===== the relation between class and reference, by one abstract state ===== -/
def enc_ (n : Nat) : Int32 := if n < 6 then nI n else (-6)
/-- twice the steps, and 1 if it is wet; 0: none -/
def cd_ (s w : Nat → Nat) (k : Nat) : Nat := if s k = 0 then 0 else 2 * s k + w k
/-- what a plank costs; 0: there is none -/
def co_ (s w : Nat → Nat) (F k : Nat) : Nat := s k * (w k + 1) * (F + 1)
def fw0_ (s w : Nat → Nat) (F : Nat) : Nat → Nat := fun k => if k / 12 = k % 12 then 0 else if s k = 0 then 1000000 else co_ s w F k
/-- one place more that ways may go by -/
def fw1_ (d : Nat → Nat) (m : Nat) : Nat → Nat := fun k => if d (12 * (k / 12) + m) + d (12 * m + k % 12) < d k then d (12 * (k / 12) + m) + d (12 * m + k % 12) else d k
def fwn_ (d : Nat → Nat) : Nat → Nat → Nat
  | 0 => d
  | n + 1 => fw1_ (fwn_ d n) n
/-- the least costs of ways -/
def ds_ (s w : Nat → Nat) (F : Nat) : Nat → Nat := fwn_ (fw0_ s w F) 12
def pl_ (codes steps wet : Nat → Int32) (s w : Nat → Nat) : Prop := ∀ k, k < 144 → s k ≤ 99 ∧ w k ≤ 1 ∧ steps k = nI (s k) ∧ wet k = nI (w k) ∧ codes k = nI (cd_ s w k)
def sy_ (s w : Nat → Nat) : Prop := (∀ p q, p < 12 → q < 12 → s (12 * p + q) = s (12 * q + p) ∧ w (12 * p + q) = w (12 * q + p)) ∧ ∀ p, p < 12 → s (12 * p + p) = 0
def wk_ (at1 home light at2 home2 light2 : Nat → Int32) (a h li : Nat → Nat) : Prop := ∀ j, j < 6 → a j < 12 ∧ h j < 12 ∧ li j ≤ 999 ∧ at1 j = nI (a j) ∧ home j = nI (h j) ∧ light j = nI (li j) ∧ at2 j = nI (a j) ∧ home2 j = nI (h j) ∧ light2 j = nI (li j)
def cy1_ (carries bearer carries2 : Nat → Int32) (cr br : Nat → Nat) : Prop := ∀ j, j < 6 → cr j ≤ 6 ∧ br j ≤ 6 ∧ carries j = enc_ (cr j) ∧ bearer j = enc_ (br j) ∧ carries2 j = enc_ (cr j)
def cy2_ (T : Nat) (cr br : Nat → Nat) : Prop := (∀ j v, j < 6 → v < 6 → (cr j = v ↔ br v = j)) ∧ ∀ j, j < 6 → cr j < 6 → cr j ≠ j ∧ T.testBit j = true ∧ T.testBit (cr j) = true
def sg_ (p1 l1 p2 l2 : Nat → Int32) (sp sl : Nat → Nat) : Prop := ∀ k, k < 8 → sp k < 12 ∧ sl k ≤ 999 ∧ p1 k = nI (sp k) ∧ l1 k = nI (sl k) ∧ p2 k = nI (sp k) ∧ l2 k = nI (sl k)
def pd_ (signs pad : Nat → Int32) (g : Nat → Nat) : Prop := ∀ k, k < 60 → g k ≤ 126 ∧ signs k = nI (g k) ∧ pad k = nI (g k)
/-- the set of places to which there is a plank, among the first n -/
def nb_ (s : Nat → Nat) (p : Nat) : Nat → Nat
  | 0 => 0
  | n + 1 => nb_ s p n + (if s (12 * p + n) = 0 then 0 else 2 ^ n)
def wy_ (planks least neighbours : Nat → Int32) (s w : Nat → Nat) (F : Nat) : Prop := (∀ k, k < 144 → planks k = nI (if s k = 0 then 1000000 else co_ s w F k) ∧ least k = nI (ds_ s w F k)) ∧ ∀ p, p < 12 → neighbours p = nI (nb_ s p 12)
def RR (c_x_measured : Int32) (c_x_now_marsh_codes : Nat → Int32) (c_x_now_crowd_there : Int32) (c_x_now_crowd_foggy : Int32) (c_x_now_crowd_at : Nat → Int32) (c_x_now_crowd_home : Nat → Int32) (c_x_now_crowd_light : Nat → Int32) (c_x_now_crowd_carries : Nat → Int32) (c_x_now_crowd_bearer : Nat → Int32) (c_x_now_sights_count : Int32) (c_x_now_sights_places : Nat → Int32) (c_x_now_sights_lights : Nat → Int32) (c_x_pad_count : Int32) (c_x_pad_signs : Nat → Int32) (c_x_evening_acts : Int32) (c_x_evening_failedAct : Int32) (c_x_evening_reason : Int32) (c_x_evening_costs : Int32) (c_x_evening_walks : Int32) (c_x_evening_crowd_there : Int32) (c_x_evening_crowd_foggy : Int32) (c_x_evening_crowd_at : Nat → Int32) (c_x_evening_crowd_home : Nat → Int32) (c_x_evening_crowd_light : Nat → Int32) (c_x_evening_crowd_carries : Nat → Int32) (c_x_evening_crowd_bearer : Nat → Int32) (c_x_ways_planks : Nat → Int32) (c_x_ways_least : Nat → Int32) (c_x_ways_neighbours : Nat → Int32) (c_x_tour_costs : Int32) (c_x_tour_firstStop : Int32) (c_x_tour_stops : Nat → Int32) (c_x_tour_rest : Nat → Int32) (c_x_odds_count : Int32) (c_x_odds_tenths : Int32) (c_x_odds_planks : Nat → Int32) (c_m_foggy : Int32) (c_m_walkers : Int32) (c_m_sights : Int32) (c_m_padMany : Int32) (c_m_acts : Int32) (c_m_spent : Int32) (c_m_walks : Int32) (c_m_badAct : Int32) (c_m_badWhy : Int32) (c_m_keptAt : Int32) (c_m_isWriting : Int32) (c_m_steps : Nat → Int32) (c_m_wet : Nat → Int32) (c_m_where : Nat → Int32) (c_m_home : Nat → Int32) (c_m_light : Nat → Int32) (c_m_carries : Nat → Int32) (c_m_sightPlace : Nat → Int32) (c_m_sightLight : Nat → Int32) (c_m_pad : Nat → Int32) (c_m_act : Nat → Int32) (c_m_whose : Nat → Int32) (c_m_whom : Nat → Int32) (c_m_tens : Nat → Int32) (c_m_had : Nat → Int32) (c_m_leaves : Nat → Int32) (c_m_apart : Nat → Int32) (c_m_stop : Nat → Int32) (c_m_restOf : Nat → Int32) (c_m_group : Nat → Int32) (c_m_along : Nat → Int32) : Prop :=
  ∃ (s w : Nat → Nat) (T F : Nat) (a h li cr br : Nat → Nat) (sc : Nat) (sp sl : Nat → Nat) (pc : Nat) (g : Nat → Nat),
    pl_ c_x_now_marsh_codes c_m_steps c_m_wet s w ∧ sy_ s w ∧ (T < 64 ∧ c_x_now_crowd_there = nI T ∧ c_m_walkers = nI T) ∧ (F ≤ 1 ∧ c_x_now_crowd_foggy = nI F ∧ c_m_foggy = nI F) ∧ wk_ c_x_now_crowd_at c_x_now_crowd_home c_x_now_crowd_light c_m_where c_m_home c_m_light a h li ∧ cy1_ c_x_now_crowd_carries c_x_now_crowd_bearer c_m_carries cr br ∧ cy2_ T cr br ∧ (sc ≤ 8 ∧ c_x_now_sights_count = nI sc ∧ c_m_sights = nI sc) ∧ sg_ c_x_now_sights_places c_x_now_sights_lights c_m_sightPlace c_m_sightLight sp sl ∧ (pc ≤ 60 ∧ c_x_pad_count = nI pc ∧ c_m_padMany = nI pc) ∧ pd_ c_x_pad_signs c_m_pad g ∧ (c_x_measured = 0 ∨ (c_x_measured = 1 ∧ wy_ c_x_ways_planks c_x_ways_least c_x_ways_neighbours s w F))
/-- an image against the row of what is kept, from base b on -/
def ki1_ (kept : Nat → Int32) (b : Nat) (i : Im_) : Prop :=
  ∃ (s w : Nat → Nat) (T F : Nat) (a h li cr br : Nat → Nat) (sc : Nat) (sp sl : Nat → Nat),
    pl_ i.1 (fun k => kept (b + 3 + 2 * k)) (fun k => kept (b + 4 + 2 * k)) s w ∧ sy_ s w ∧ (T < 64 ∧ i.2.1 = nI T ∧ kept (b + 1) = nI T) ∧ (F ≤ 1 ∧ i.2.2.1 = nI F ∧ kept b = nI F) ∧ wk_ i.2.2.2.1 i.2.2.2.2.1 i.2.2.2.2.2.1 (fun j => kept (b + 291 + 4 * j)) (fun j => kept (b + 292 + 4 * j)) (fun j => kept (b + 293 + 4 * j)) a h li ∧ cy1_ i.2.2.2.2.2.2.1 i.2.2.2.2.2.2.2.1 (fun j => kept (b + 294 + 4 * j)) cr br ∧ cy2_ T cr br ∧ (sc ≤ 8 ∧ i.2.2.2.2.2.2.2.2.1 = nI sc ∧ kept (b + 2) = nI sc) ∧ sg_ i.2.2.2.2.2.2.2.2.2.1 i.2.2.2.2.2.2.2.2.2.2 (fun k => kept (b + 315 + 2 * k)) (fun k => kept (b + 316 + 2 * k)) sp sl
def KK (kept isKept : Nat → Int32) (i0 i1 : Option Im_) : Prop :=
  ((i0 = none ∧ isKept 0 = 0) ∨ ∃ i, i0 = some i ∧ isKept 0 = 1 ∧ ki1_ kept 0 i) ∧ ((i1 = none ∧ isKept 1 = 0) ∨ ∃ i, i1 = some i ∧ isKept 1 = 1 ∧ ki1_ kept 350 i)
