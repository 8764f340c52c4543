/-! ===== groups, what is joined ===== -/
def conn_ (E : Nat → Nat → Prop) (x y : Nat) : Prop := ∀ P : Nat → Prop, P x → (∀ u v, P u → E u v → P v) → P y
theorem conn_refl (E : Nat → Nat → Prop) (x : Nat) : conn_ E x x := fun _ h _ => h
theorem conn_edge {E : Nat → Nat → Prop} {x y z : Nat} (h : conn_ E x y) (e : E y z) : conn_ E x z := fun P h1 h2 => h2 y z (h P h1 h2) e
theorem conn_trans {E : Nat → Nat → Prop} {x y z : Nat} (h : conn_ E x y) (h' : conn_ E y z) : conn_ E x z := fun P h1 h2 => h' P (h P h1 h2) h2
theorem conn_symm {E : Nat → Nat → Prop} (hE : ∀ u v, E u v → E v u) {x y : Nat} (h : conn_ E x y) : conn_ E y x := h (fun z => conn_ E z x) (conn_refl E x) (fun u v hu he => conn_trans (conn_edge (conn_refl E v) (hE u v he)) hu)
theorem beginGroups_ (G0 : Nat → Int32) : ∃ G, fn_X10_beginGroups G0 = some G ∧ ∀ k, k < 12 → G k = nI k := by
  unfold fn_X10_beginGroups
  refine lp_ 12 (fun n x st => fn_X10_beginGroups_l2 (fun v2 => some v2) n x st) (fun v2 => some v2) (fun i G => ∀ k, k < i → G k = nI k) ?_ ?_ 12 0 fu_ G0 rfl (fu_lt (by omega)) (fun k hk => absurd hk (by omega))
  · intro n i G hi hG
    show ∃ st', fn_X10_beginGroups_b2 (fn_X10_beginGroups_l2 (fun v2 => some v2) n) (fun v2 => some v2) (nI i) G = fn_X10_beginGroups_l2 (fun v2 => some v2) n (nI (i + 1)) st' ∧ _
    unfold fn_X10_beginGroups_b2
    rw [if_neg (show ¬ (12 : Int32) ≤ nI i from nI_ge (b := 12) hi (by omega)), ckn_ hi (by omega), nI_clamp (by omega), lx_so, nI_1]
    refine ⟨_, rfl, fun k hk => ?_⟩
    by_cases e : k = i
    · rw [e, up_eq]
    · rw [up_ne e]; exact hG k (by omega)
  · intro n G hG
    show fn_X10_beginGroups_b2 (fn_X10_beginGroups_l2 (fun v2 => some v2) n) (fun v2 => some v2) (nI 12) G = some G
    unfold fn_X10_beginGroups_b2
    rw [if_pos (show (12 : Int32) ≤ nI 12 by decide)]
def jn_ (gr : Nat → Nat) (a b k : Nat) : Nat := if gr k = gr b then gr a else gr k
theorem join_ {G : Nat → Int32} {gr : Nat → Nat} (hG : ∀ k, k < 12 → G k = nI (gr k) ∧ gr k < 12) {a b : Nat} (ha : a < 12) (hb : b < 12) : ∃ G', fn_X10_join G (nI a) (nI b) = some (if gr a = gr b then 0 else 1, G') ∧ ∀ k, k < 12 → G' k = nI (jn_ gr a b k) ∧ jn_ gr a b k < 12 := by
  obtain ⟨a1, a2⟩ := hG a ha
  obtain ⟨b1, b2⟩ := hG b hb
  have hj : ∀ k, k < 12 → jn_ gr a b k < 12 := fun k hk => by
    have := (hG k hk).2
    unfold jn_; split <;> omega
  unfold fn_X10_join
  rw [ckn_ ha (by omega), nI_clamp (by omega), lx_so, ckn_ hb (by omega), nI_clamp (by omega), lx_so, a1, b1]
  obtain ⟨G', e1, e2⟩ := lp_ 12 (fun n x st => fn_X10_join_l18 (nI (gr a)) (nI (gr b)) (fun v5 => if nI (gr a) = nI (gr b) then some (0, v5) else some (1, v5)) n x st) (fun v5 => if nI (gr a) = nI (gr b) then some (0, v5) else some (1, v5)) (fun i G => ∀ k, k < 12 → G k = nI (if k < i then jn_ gr a b k else gr k)) (by
    intro n i G hi hI
    show ∃ st', fn_X10_join_b18 (nI (gr a)) (nI (gr b)) (fn_X10_join_l18 (nI (gr a)) (nI (gr b)) (fun v5 => if nI (gr a) = nI (gr b) then some (0, v5) else some (1, v5)) n) (fun v5 => if nI (gr a) = nI (gr b) then some (0, v5) else some (1, v5)) (nI i) G = fn_X10_join_l18 (nI (gr a)) (nI (gr b)) (fun v5 => if nI (gr a) = nI (gr b) then some (0, v5) else some (1, v5)) n (nI (i + 1)) st' ∧ _
    have gi : G i = nI (gr i) := by rw [hI i hi, if_neg (by omega)]
    have gl := (hG i hi).2
    have fin : ∀ v : Int32, v = nI (jn_ gr a b i) → ∀ k, k < 12 → upd G i v k = nI (if k < i + 1 then jn_ gr a b k else gr k) := by
      intro v hv k hk
      by_cases e : k = i
      · subst e; rw [up_eq, if_pos (by omega), hv]
      · rw [up_ne e, hI k hk]
        by_cases e2 : k < i
        · rw [if_pos e2, if_pos (by omega)]
        · rw [if_neg e2, if_neg (by omega)]
    unfold fn_X10_join_b18
    rw [if_neg (show ¬ (12 : Int32) ≤ nI i from nI_ge (b := 12) hi (by omega))]
    simp only [ckn_ hi (show 12 < 2 ^ 31 by omega), nI_clamp (show i < 2 ^ 31 by omega), lx_so, nI_1, gi]
    by_cases e : gr i = gr b
    · rw [if_pos (by rw [e])]
      exact ⟨_, rfl, fin _ (by unfold jn_; rw [if_pos e])⟩
    · rw [if_neg (ne_nI (by omega) (by omega) e)]
      exact ⟨_, rfl, fin _ (by unfold jn_; rw [if_neg e])⟩) (by
    intro n G hI
    show fn_X10_join_b18 (nI (gr a)) (nI (gr b)) (fn_X10_join_l18 (nI (gr a)) (nI (gr b)) (fun v5 => if nI (gr a) = nI (gr b) then some (0, v5) else some (1, v5)) n) (fun v5 => if nI (gr a) = nI (gr b) then some (0, v5) else some (1, v5)) (nI 12) G = _
    unfold fn_X10_join_b18
    rw [if_pos (show (12 : Int32) ≤ nI 12 by decide)]) 12 0 fu_ G rfl (fu_lt (by omega)) (fun k hk => by rw [if_neg (by omega)]; exact (hG k hk).1)
  refine ⟨G', Eq.trans e1 ?_, fun k hk => ⟨by rw [e2 k hk, if_pos hk], hj k hk⟩⟩
  by_cases e : gr a = gr b
  · rw [if_pos (by rw [e]), if_pos e]
  · rw [if_neg (ne_nI (by omega) (by omega) e), if_neg e]
/-- what groups say of what is joined -/
def grs_ (E : Nat → Nat → Prop) (gr : Nat → Nat) : Prop := ∀ a b, a < 12 → b < 12 → gr a = gr b → conn_ E a b
theorem grs_id (E : Nat → Nat → Prop) {gr : Nat → Nat} (h : ∀ k, k < 12 → gr k = k) : grs_ E gr := fun a b ha hb e => by
  rw [h a ha, h b hb] at e
  subst e
  exact conn_refl E a
theorem grs_jn {E : Nat → Nat → Prop} (hE : ∀ u v, E u v → E v u) {gr : Nat → Nat} (h : grs_ E gr) {a b : Nat} (ha : a < 12) (hb : b < 12) (e : conn_ E a b) : grs_ E (jn_ gr a b) := by
  intro x y hx hy exy
  unfold jn_ at exy
  by_cases e1 : gr x = gr b
  · by_cases e2 : gr y = gr b
    · exact h x y hx hy (e1.trans e2.symm)
    · rw [if_pos e1, if_neg e2] at exy
      exact conn_trans (h x b hx hb e1) (conn_trans (conn_symm hE e) (h a y ha hy exy))
  · by_cases e2 : gr y = gr b
    · rw [if_neg e1, if_pos e2] at exy
      exact conn_trans (h x a hx ha exy) (conn_trans e (h b y hb hy e2.symm))
    · rw [if_neg e1, if_neg e2] at exy
      exact h x y hx hy exy
theorem jn_keep {gr : Nat → Nat} {a b x y : Nat} (e : gr x = gr y) : jn_ gr a b x = jn_ gr a b y := by
  unfold jn_; rw [e]
theorem jn_new {gr : Nat → Nat} {a b : Nat} : jn_ gr a b a = jn_ gr a b b := by
  unfold jn_
  rw [if_pos rfl]
  split <;> rfl
/-- planks but the one between p and q -/
def Ed_ (s : Nat → Nat) (p q u v : Nat) : Prop := u < 12 ∧ v < 12 ∧ s (12 * u + v) ≠ 0 ∧ ¬ (u = p ∧ v = q) ∧ ¬ (u = q ∧ v = p)
theorem Ed_symm {s w : Nat → Nat} (h2 : sy_ s w) {p q : Nat} (u v : Nat) (h : Ed_ s p q u v) : Ed_ s p q v u := by
  obtain ⟨h1, h3, h4, h5, h6⟩ := h
  refine ⟨h3, h1, ?_, by omega, by omega⟩
  rw [(h2.1 v u h3 h1).1]; exact h4
noncomputable def dq_ (s : Nat → Nat) (p q : Nat) : Bool := @decide (s (12 * p + q) ≠ 0 ∧ ¬ conn_ (Ed_ s p q) p q) (Classical.propDecidable _)
theorem dq_t {s : Nat → Nat} {p q : Nat} (h1 : s (12 * p + q) ≠ 0) (h2 : ¬ conn_ (Ed_ s p q) p q) : dq_ s p q = true := @decide_eq_true _ (Classical.propDecidable _) ⟨h1, h2⟩
theorem dq_f {s : Nat → Nat} {p q : Nat} (h : s (12 * p + q) = 0 ∨ conn_ (Ed_ s p q) p q) : dq_ s p q = false := @decide_eq_false _ (Classical.propDecidable _) (fun hh => h.elim hh.1 hh.2)
theorem isd144_ (steps : Nat → Int32) (p q : Int32) (k : (Nat → Int32) → Option (Int32 × (Nat → Int32))) (n : Nat) (G : Nat → Int32) : fn_X10_isDeciding_l6 steps p q k (n + 1) (nI 144) G = k G := by
  show fn_X10_isDeciding_b6 steps p q (fn_X10_isDeciding_l6 steps p q k n) k (nI 144) G = k G
  unfold fn_X10_isDeciding_b6
  rw [if_pos (show (144 : Int32) ≤ nI 144 by decide)]
theorem isDeciding2_ {codes steps wet : Nat → Int32} {s w : Nat → Nat} (h1 : pl_ codes steps wet s w) (h2 : sy_ s w) (G0 : Nat → Int32) {p q : Nat} (hp : p < 12) (hq : q < 12) : ∃ G, fn_X10_isDeciding steps G0 (nI p) (nI q) = some (if dq_ s p q = true then 1 else 0, G) := by
  unfold fn_X10_isDeciding
  obtain ⟨G1, b1, b2⟩ := beginGroups_ G0
  rw [b1, b1_so]
  have hE := Ed_symm (p := p) (q := q) h2
  obtain ⟨G, e1, gr, i1, i2, i3⟩ := lp_ 144 (fun n x st => fn_X10_isDeciding_l6 steps (nI p) (nI q) (fun v6 => b1_ (fn_X10_at (nI p) (nI q)) fun r7 => ck_ r7 144 (if (steps (Int32.toNatClampNeg r7)) ≤ 0 then some (0, v6) else ck_ (nI p) 12 (ck_ (nI q) 12 (if (v6 (Int32.toNatClampNeg (nI p))) = (v6 (Int32.toNatClampNeg (nI q))) then some (0, v6) else some (1, v6))))) n x st) (fun v6 => b1_ (fn_X10_at (nI p) (nI q)) fun r7 => ck_ r7 144 (if (steps (Int32.toNatClampNeg r7)) ≤ 0 then some (0, v6) else ck_ (nI p) 12 (ck_ (nI q) 12 (if (v6 (Int32.toNatClampNeg (nI p))) = (v6 (Int32.toNatClampNeg (nI q))) then some (0, v6) else some (1, v6))))) (fun k G => ∃ gr : Nat → Nat, (∀ j, j < 12 → G j = nI (gr j) ∧ gr j < 12) ∧ grs_ (Ed_ s p q) gr ∧ ∀ i, i < k → Ed_ s p q (i / 12) (i % 12) → gr (i / 12) = gr (i % 12)) (by
    intro n i G hi hI
    obtain ⟨gr, i1, i2, i3⟩ := hI
    obtain ⟨a1, a2, a3, -⟩ := h1 i hi
    generalize hk : (fun v6 : Nat → Int32 => b1_ (fn_X10_at (nI p) (nI q)) fun r7 => ck_ r7 144 (if (steps (Int32.toNatClampNeg r7)) ≤ 0 then some ((0 : Int32), v6) else ck_ (nI p) 12 (ck_ (nI q) 12 (if (v6 (Int32.toNatClampNeg (nI p))) = (v6 (Int32.toNatClampNeg (nI q))) then some (0, v6) else some (1, v6))))) = k
    show ∃ st', fn_X10_isDeciding_b6 steps (nI p) (nI q) (fn_X10_isDeciding_l6 steps (nI p) (nI q) k n) k (nI i) G = fn_X10_isDeciding_l6 steps (nI p) (nI q) k n (nI (i + 1)) st' ∧ _
    have hu : i / 12 < 12 := by omega
    have hv : i % 12 < 12 := by omega
    have ei : 12 * (i / 12) + i % 12 = i := by omega
    obtain ⟨G', j1, j2⟩ := join_ i1 hu hv
    have skip : ¬ Ed_ s p q (i / 12) (i % 12) → ∃ gr : Nat → Nat, (∀ j, j < 12 → G j = nI (gr j) ∧ gr j < 12) ∧ grs_ (Ed_ s p q) gr ∧ ∀ t, t < i + 1 → Ed_ s p q (t / 12) (t % 12) → gr (t / 12) = gr (t % 12) := by
      intro hne
      refine ⟨gr, i1, i2, fun t ht he => ?_⟩
      by_cases et : t = i
      · subst et; exact absurd he hne
      · exact i3 t (by omega) he
    have j54 : ∀ z : Int32, (z = 0 ∨ z = 1) → (z = 0 ↔ ¬ ((i / 12 = p ∧ i % 12 = q) ∨ (i / 12 = q ∧ i % 12 = p))) → ∃ st', fn_X10_isDeciding_j54 steps G (nI i) (nI (i / 12)) (nI (i % 12)) z (fn_X10_isDeciding_l6 steps (nI p) (nI q) k n) k = fn_X10_isDeciding_l6 steps (nI p) (nI q) k n (nI (i + 1)) st' ∧ ∃ gr : Nat → Nat, (∀ j, j < 12 → st' j = nI (gr j) ∧ gr j < 12) ∧ grs_ (Ed_ s p q) gr ∧ ∀ t, t < i + 1 → Ed_ s p q (t / 12) (t % 12) → gr (t / 12) = gr (t % 12) := by
      intro z hz hzi
      unfold fn_X10_isDeciding_j54
      rw [ckn_ hi (by omega), nI_clamp (by omega), a3, nI_1]
      by_cases e0 : s i = 0
      · rw [if_pos (show nI (s i) ≤ 0 by rw [e0]; decide)]
        exact ⟨G, rfl, skip (fun hh => hh.2.2.1 (by rw [ei]; exact e0))⟩
      · rw [if_neg (nI_nle (by omega) (by omega))]
        by_cases ez : z = 0
        · rw [if_pos ez, j1, b2_so]
          have hed : Ed_ s p q (i / 12) (i % 12) := ⟨hu, hv, by rw [ei]; exact e0, fun hh => hzi.mp ez (Or.inl hh), fun hh => hzi.mp ez (Or.inr hh)⟩
          refine ⟨G', rfl, jn_ gr (i / 12) (i % 12), j2, grs_jn hE i2 hu hv (conn_edge (conn_refl _ _) hed), fun t ht he => ?_⟩
          by_cases et : t = i
          · subst et; exact jn_new
          · exact jn_keep (i3 t (by omega) he)
        · rw [if_neg ez]
          refine ⟨G, rfl, skip (fun hh => ez (hzi.mpr (fun h3 => h3.elim hh.2.2.2.1 hh.2.2.2.2)))⟩
    unfold fn_X10_isDeciding_b6 fn_X10_isDeciding_j37 fn_X10_isDeciding_j49 fn_X10_isDeciding_j53
    rw [if_neg (show ¬ (144 : Int32) ≤ nI i from nI_ge (b := 144) hi (by omega)), dv12_ (by omega), md12_ (by omega)]
    by_cases c1 : i / 12 = p
    · rw [if_pos (by rw [c1])]
      by_cases c2 : i % 12 = q
      · rw [if_pos (by rw [c2])]
        exact j54 1 (Or.inr rfl) ⟨fun hh => absurd hh (by decide), fun hh => absurd (Or.inl ⟨c1, c2⟩) hh⟩
      · rw [if_neg (ne_nI (by omega) (by omega) c2)]
        by_cases c3 : i / 12 = q
        · rw [if_pos (by rw [c3])]
          by_cases c4 : i % 12 = p
          · rw [if_pos (by rw [c4])]
            exact j54 1 (Or.inr rfl) ⟨fun hh => absurd hh (by decide), fun hh => absurd (Or.inr ⟨c3, c4⟩) hh⟩
          · rw [if_neg (ne_nI (by omega) (by omega) c4)]
            exact j54 0 (Or.inl rfl) ⟨fun _ => by omega, fun _ => rfl⟩
        · rw [if_neg (ne_nI (by omega) (by omega) c3)]
          exact j54 0 (Or.inl rfl) ⟨fun _ => by omega, fun _ => rfl⟩
    · rw [if_neg (ne_nI (by omega) (by omega) c1)]
      by_cases c3 : i / 12 = q
      · rw [if_pos (by rw [c3])]
        by_cases c4 : i % 12 = p
        · rw [if_pos (by rw [c4])]
          exact j54 1 (Or.inr rfl) ⟨fun hh => absurd hh (by decide), fun hh => absurd (Or.inr ⟨c3, c4⟩) hh⟩
        · rw [if_neg (ne_nI (by omega) (by omega) c4)]
          exact j54 0 (Or.inl rfl) ⟨fun _ => by omega, fun _ => rfl⟩
      · rw [if_neg (ne_nI (by omega) (by omega) c3)]
        exact j54 0 (Or.inl rfl) ⟨fun _ => by omega, fun _ => rfl⟩) (by
    intro n G hI
    exact isd144_ steps (nI p) (nI q) _ n G) 144 0 fu_ G1 rfl (fu_lt (by omega)) ⟨fun k => k, fun j hj => ⟨b2 j hj, hj⟩, grs_id _ (fun k _ => rfl), fun i hi => absurd hi (by omega)⟩
  refine ⟨G, Eq.trans e1 ?_⟩
  obtain ⟨a1, a2, a3, -⟩ := h1 (12 * p + q) (by omega)
  unfold fn_X10_at
  rw [b1_so, ix2_, ckn_ (show 12 * p + q < 144 by omega) (by omega), ckn_ hp (by omega), ckn_ hq (by omega), nI_clamp (by omega), nI_clamp (by omega), nI_clamp (by omega), a3, (i1 p hp).1, (i1 q hq).1]
  have gp := (i1 p hp).2
  have gq := (i1 q hq).2
  by_cases e0 : s (12 * p + q) = 0
  · rw [if_pos (show nI (s (12 * p + q)) ≤ 0 by rw [e0]; decide), dq_f (Or.inl e0), if_neg (by decide)]
  · rw [if_neg (nI_nle (by omega) (by omega))]
    by_cases eg : gr p = gr q
    · rw [if_pos (by rw [eg]), dq_f (Or.inr (i2 p q hp hq eg)), if_neg (by decide)]
    · rw [if_neg (ne_nI (by omega) (by omega) eg), dq_t e0 (fun hc => ?_), if_pos rfl]
      have hg := hc (fun z => z < 12 ∧ gr p = gr z) ⟨hp, rfl⟩ (fun u v hu he => ?_)
      · exact eg hg.2
      · have := i3 (12 * u + v) (by have := he.1; have := he.2.1; omega) (by
          rw [show (12 * u + v) / 12 = u by have := he.2.1; omega, show (12 * u + v) % 12 = v by have := he.2.1; omega]; exact he)
        rw [show (12 * u + v) / 12 = u by have := he.2.1; omega, show (12 * u + v) % 12 = v by have := he.2.1; omega] at this
        exact ⟨he.2.1, hu.2.trans this⟩
