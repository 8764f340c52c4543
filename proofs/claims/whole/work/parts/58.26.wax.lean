/-! ===== wax ===== -/
def enp_ (b : Nat) : Int32 := if b = 144 then (-6) else nI b
theorem pkf_le {c : Nat → Nat} {V : Nat → Bool} (hc : ∀ k, k < 144 → c k ≤ 396) {k : Nat} (hk : k < 144) {st : Nat × Nat} (h : st.1 ≤ 144 ∧ st.2 ≤ 396) : (pkf_ c V k st).1 ≤ 144 ∧ (pkf_ c V k st).2 ≤ 396 := by
  unfold pkf_
  split
  · exact ⟨by show k ≤ 144; omega, hc k hk⟩
  · exact h
theorem cheapestBetween_ {codes steps wet : Nat → Int32} {s w : Nat → Nat} (h1 : pl_ codes steps wet s w) {F : Nat} (hF : F ≤ 1) {G : Nat → Int32} {gr : Nat → Nat} (hG : ∀ k, k < 12 → G k = nI (gr k) ∧ gr k < 12) : fn_X10_cheapestBetween (nI F) steps wet G = some (enp_ (pick_ (co_ s w F) (Vk_ s gr))) := by
  have hc : ∀ k, k < 144 → co_ s w F k ≤ 396 := fun k hk => co_le (pl_b h1 k hk).1 (pl_b h1 k hk).2 hF
  unfold fn_X10_cheapestBetween pick_
  refine (lg2_ 144 (fun n x (st : Nat × Nat) => fn_X10_cheapestBetween_l7 (nI F) steps wet G (fun v3 => some v3) n (enp_ st.1) (nI st.2) x) (fun st => some (enp_ st.1)) (pkf_ (co_ s w F) (Vk_ s gr)) (fun _ st => st.1 ≤ 144 ∧ st.2 ≤ 396) ?_ ?_ 144 0 fu_ (144, 0) rfl (fu_lt (by omega)) ⟨Nat.le_refl _, Nat.zero_le _⟩).1
  · intro n k st hk hJ
    refine ⟨?_, pkf_le hc hk hJ⟩
    show fn_X10_cheapestBetween_b7 (nI F) steps wet G (fn_X10_cheapestBetween_l7 (nI F) steps wet G (fun v3 => some v3) n) (fun v3 => some v3) (enp_ st.1) (nI st.2) (nI k) = _
    unfold fn_X10_cheapestBetween_b7 fn_X10_cheapestBetween_j58 fn_X10_cheapestBetween_j59 fn_X10_cheapestBetween_j76
    have hu : k / 12 < 12 := by omega
    have hv : k % 12 < 12 := by omega
    have ei : 12 * (k / 12) + k % 12 = k := by omega
    have hck := hc k hk
    have gu := hG _ hu
    have gv := hG _ hv
    rw [if_neg (show ¬ (144 : Int32) ≤ nI k from nI_ge (b := 144) hk (by omega)), dv12_ (by omega), md12_ (by omega), cost_ h1 hu hv, b1_so, ei, ckn_ hu (by omega), ckn_ hv (by omega), nI_clamp (by omega), nI_clamp (by omega), gu.1, gv.1, nI_1, if_pos (show (0 : Int32) = 0 from rfl), if_neg (show ¬ (1 : Int32) = 0 by decide)]
    unfold pkf_
    by_cases e0 : s k = 0
    · rw [if_pos e0, if_pos (show (-6 : Int32) ≤ 0 by decide), if_neg (fun hh => (Vk_t.mp hh.1).1 e0)]
    · have hcp := co_pos (w := w) (F := F) e0
      rw [if_neg e0, if_neg (nI_nle hcp (by omega))]
      by_cases eg : gr (k / 12) = gr (k % 12)
      · rw [if_pos (by rw [eg]), if_neg (fun hh => (Vk_t.mp hh.1).2 eg)]
      · have hV : Vk_ s gr k = true := Vk_t.mpr ⟨e0, eg⟩
        rw [if_neg (ne_nI (by omega) (by omega) eg)]
        by_cases eb : st.1 = 144
        · rw [if_pos (show enp_ st.1 < 0 by rw [eb]; decide), if_pos ⟨hV, Or.inl eb⟩]
          show _ = fn_X10_cheapestBetween_l7 (nI F) steps wet G (fun v3 => some v3) n (enp_ k) (nI (co_ s w F k)) (nI (k + 1))
          rw [show enp_ k = nI k from if_neg (by omega)]
        · rw [if_neg (show ¬ enp_ st.1 < 0 by rw [show enp_ st.1 = nI st.1 from if_neg eb]; exact nI_pos (by omega))]
          by_cases el : co_ s w F k < st.2
          · rw [if_neg (nI_ge el (by omega)), if_pos ⟨hV, Or.inr el⟩]
            show _ = fn_X10_cheapestBetween_l7 (nI F) steps wet G (fun v3 => some v3) n (enp_ k) (nI (co_ s w F k)) (nI (k + 1))
            rw [show enp_ k = nI k from if_neg (by omega)]
          · rw [if_pos (nI_le (by omega) (by omega)), if_neg (fun hh => hh.2.elim eb el)]
  · intro n st hJ
    show fn_X10_cheapestBetween_b7 (nI F) steps wet G (fn_X10_cheapestBetween_l7 (nI F) steps wet G (fun v3 => some v3) n) (fun v3 => some v3) (enp_ st.1) (nI st.2) (nI 144) = _
    unfold fn_X10_cheapestBetween_b7
    rw [if_pos (show (144 : Int32) ≤ nI 144 by decide)]
theorem wax27_ {codes steps wet : Nat → Int32} {s w : Nat → Nat} (h1 : pl_ codes steps wet s w) {F : Nat} (hF : F ≤ 1) (k : Int32 → Int32 → (Nat → Int32) → Option (Int32 × (Nat → Int32))) : ∀ (n : Nat) (gr : Nat → Nat) (G : Nat → Int32) (S C : Nat), mu_ s gr < n → (∀ j, j < 12 → G j = nI (gr j) ∧ gr j < 12) → ∃ G', fn_X10_wax_l27 (nI F) steps wet k n (nI S) (nI C) (enp_ (pick_ (co_ s w F) (Vk_ s gr))) G = k (nI (S + (Kr_ s (co_ s w F) gr).1)) (nI (C + (Kr_ s (co_ s w F) gr).2)) G' := by
  intro n
  induction n with
  | zero => intro gr G S C h; exact absurd h (Nat.not_lt_zero _)
  | succ n ih =>
    intro gr G S C hm hG
    have hkr := Kr_eq s (co_ s w F) gr
    show ∃ G', fn_X10_wax_b27 (nI F) steps wet (fn_X10_wax_l27 (nI F) steps wet k n) k (nI S) (nI C) (enp_ (pick_ (co_ s w F) (Vk_ s gr))) G = _
    unfold fn_X10_wax_b27
    rcases pick_spec (co_ s w F) (Vk_ s gr) with ⟨e1, -⟩ | ⟨e1, e2, -⟩
    · rw [if_pos e1] at hkr
      rw [if_pos (show enp_ (pick_ (co_ s w F) (Vk_ s gr)) < 0 by rw [e1]; decide), hkr]
      exact ⟨G, rfl⟩
    · have hmj := mu_jn e1 e2
      generalize pick_ (co_ s w F) (Vk_ s gr) = p at *
      rw [if_neg (show ¬ p = 144 by omega)] at hkr
      obtain ⟨ks, kg⟩ := Vk_t.mp e2
      have hu : p / 12 < 12 := by omega
      have hv : p % 12 < 12 := by omega
      have ei : 12 * (p / 12) + p % 12 = p := by omega
      obtain ⟨G1, j1, j2⟩ := join_ hG hu hv
      obtain ⟨G', z⟩ := ih (jn_ gr (p / 12) (p % 12)) G1 (S + co_ s w F p) (C + 1) (Nat.lt_of_lt_of_le hmj (Nat.le_of_lt_succ hm)) j2
      refine ⟨G', ?_⟩
      rw [show enp_ p = nI p from if_neg (by omega), if_neg (nI_pos (by omega)), dv12_ (by omega), md12_ (by omega), cost_ h1 hu hv, b1_so, ei, if_neg ks, j1, b2_so, cheapestBetween_ h1 hF j2, b1_so, nI_add, nI_1, z, hkr]
      show k (nI (S + co_ s w F p + (Kr_ s (co_ s w F) (jn_ gr (p / 12) (p % 12))).1)) (nI (C + 1 + (Kr_ s (co_ s w F) (jn_ gr (p / 12) (p % 12))).2)) G' = k (nI (S + (co_ s w F p + (Kr_ s (co_ s w F) (jn_ gr (p / 12) (p % 12))).1))) (nI (C + (1 + (Kr_ s (co_ s w F) (jn_ gr (p / 12) (p % 12))).2))) G'
      rw [Nat.add_assoc, Nat.add_assoc]
/-! the class -/
def out_ (s : Nat → Nat) (J k : Nat) : Prop := s k ≠ 0 ∧ J.testBit (k / 12) = true ∧ ¬ J.testBit (k % 12) = true
theorem cheapestOutOf_ {P : Nat → Int32} {s w : Nat → Nat} (hs : ∀ k, k < 144 → s k ≤ 99 ∧ w k ≤ 1) {F : Nat} (hF : F ≤ 1) (hP : ∀ k, k < 144 → P k = nI (pk0_ s w F k)) {J : Nat} (hJ : J < 4096) : ∃ r, fn_X8_cheapestOutOf P (nI J) = some r ∧ ((r = (-6) ∧ ∀ k, k < 144 → ¬ out_ s J k) ∨ ∃ k, k < 144 ∧ r = nI k ∧ out_ s J k ∧ ∀ k', k' < 144 → out_ s J k' → co_ s w F k ≤ co_ s w F k') := by
  unfold fn_X8_cheapestOutOf
  obtain ⟨st, e1, e2⟩ := lp_ 144 (fun n x (st : Int32 × Int32) => fn_X8_cheapestOutOf_l9 P (nI J) (fun v6 => some v6) n st.1 st.2 x) (fun st => some st.1) (fun i st => (st = (-6, nI 1000000) ∧ ∀ k, k < i → ¬ out_ s J k) ∨ ∃ k, k < i ∧ st = (nI k, nI (co_ s w F k)) ∧ out_ s J k ∧ ∀ k', k' < i → out_ s J k' → co_ s w F k ≤ co_ s w F k') (by
    intro n i st hi hI
    show ∃ st' : Int32 × Int32, fn_X8_cheapestOutOf_b9 P (nI J) (fn_X8_cheapestOutOf_l9 P (nI J) (fun v6 => some v6) n) (fun v6 => some v6) st.1 st.2 (nI i) = fn_X8_cheapestOutOf_l9 P (nI J) (fun v6 => some v6) n st'.1 st'.2 (nI (i + 1)) ∧ _
    have hci := co_le (F := F) (hs i hi).1 (hs i hi).2 hF
    have hpk := pk0_le (F := F) (hs i hi) hF
    -- what it holds: a cost
    obtain ⟨l, hl, hst, hnew⟩ : ∃ l, l ≤ 1000000 ∧ st.2 = nI l ∧ ((out_ s J i → co_ s w F i < l → ((nI i, nI (co_ s w F i)) = ((-6, nI 1000000) : Int32 × Int32) ∧ ∀ k, k < i + 1 → ¬ out_ s J k) ∨ ∃ k, k < i + 1 ∧ ((nI i, nI (co_ s w F i)) : Int32 × Int32) = (nI k, nI (co_ s w F k)) ∧ out_ s J k ∧ ∀ k', k' < i + 1 → out_ s J k' → co_ s w F k ≤ co_ s w F k') ∧ ((out_ s J i → l ≤ co_ s w F i) → (st = (-6, nI 1000000) ∧ ∀ k, k < i + 1 → ¬ out_ s J k) ∨ ∃ k, k < i + 1 ∧ st = (nI k, nI (co_ s w F k)) ∧ out_ s J k ∧ ∀ k', k' < i + 1 → out_ s J k' → co_ s w F k ≤ co_ s w F k')) := by
      rcases hI with ⟨rfl, h2⟩ | ⟨k, h2, rfl, h4, h5⟩
      · refine ⟨1000000, Nat.le_refl _, rfl, fun ho _ => Or.inr ⟨i, by omega, rfl, ho, fun k' hk' ho' => ?_⟩, fun hno => Or.inl ⟨rfl, fun k hk ho => ?_⟩⟩
        · rcases (show k' < i ∨ k' = i by omega) with q | q
          · exact absurd ho' (h2 k' q)
          · subst q; exact Nat.le_refl _
        · rcases (show k < i ∨ k = i by omega) with q | q
          · exact h2 k q ho
          · subst q; have := hno ho; omega
      · have hck := co_le (F := F) (hs k (by omega)).1 (hs k (by omega)).2 hF
        refine ⟨co_ s w F k, by omega, rfl, fun ho hlt => Or.inr ⟨i, by omega, rfl, ho, fun k' hk' ho' => ?_⟩, fun hno => Or.inr ⟨k, by omega, rfl, h4, fun k' hk' ho' => ?_⟩⟩
        · rcases (show k' < i ∨ k' = i by omega) with q | q
          · have := h5 k' q ho'; omega
          · subst q; exact Nat.le_refl _
        · rcases (show k' < i ∨ k' = i by omega) with q | q
          · exact h5 k' q ho'
          · subst q; exact hno ho'
    unfold fn_X8_cheapestOutOf_b9
    rw [if_neg (show ¬ (144 : Int32) ≤ nI i from nI_ge (b := 144) hi (by omega)), ckn_ hi (by omega), nI_clamp (by omega), hP i hi, dv12_ (by omega), md12_ (by omega), isIn_ (by omega) (by omega), b1_so, isIn_ (by omega) (by omega), b1_so, hst, nI_1]
    by_cases ec : pk0_ s w F i < l
    · have hs0 : s i ≠ 0 := by
        intro e
        unfold pk0_ at ec
        rw [if_pos e] at ec
        omega
      have hpe : pk0_ s w F i = co_ s w F i := by unfold pk0_; rw [if_neg hs0]
      rw [if_neg (nI_ge ec (by omega)), hpe]
      rw [hpe] at ec
      by_cases b1 : J.testBit (i / 12) = true
      · rw [if_pos b1, if_neg (show ¬ (1 : Int32) = 0 by decide)]
        by_cases b2 : J.testBit (i % 12) = true
        · rw [if_pos b2, if_neg (show ¬ (1 : Int32) = 0 by decide), ← hst]
          exact ⟨st, rfl, hnew.2 (fun ho => absurd b2 ho.2.2)⟩
        · rw [if_neg b2, if_pos rfl, ckn_ hi (by omega), lx_so]
          exact ⟨(nI i, nI (co_ s w F i)), rfl, hnew.1 ⟨hs0, b1, b2⟩ ec⟩
      · rw [if_neg b1, if_pos rfl, ← hst]
        exact ⟨st, rfl, hnew.2 (fun ho => absurd ho.2.1 b1)⟩
    · rw [if_pos (nI_le (by omega) (by omega)), ← hst]
      refine ⟨st, rfl, hnew.2 (fun ho => ?_)⟩
      have hpe : pk0_ s w F i = co_ s w F i := by unfold pk0_; rw [if_neg ho.1]
      omega) (by
    intro n st hI
    show fn_X8_cheapestOutOf_b9 P (nI J) (fn_X8_cheapestOutOf_l9 P (nI J) (fun v6 => some v6) n) (fun v6 => some v6) st.1 st.2 (nI 144) = _
    unfold fn_X8_cheapestOutOf_b9
    rw [if_pos (show (144 : Int32) ≤ nI 144 by decide)]) 144 0 fu_ (-6, nI 1000000) rfl (fu_lt (by omega)) (Or.inl ⟨rfl, fun k hk => absurd hk (by omega)⟩)
  refine ⟨st.1, e1, ?_⟩
  rcases e2 with ⟨rfl, h2⟩ | ⟨k, h2, rfl, h4, h5⟩
  · exact Or.inl ⟨rfl, h2⟩
  · exact Or.inr ⟨k, h2, rfl, h4, h5⟩
def PrI_ (s gr : Nat → Nat) (J : Nat) : Prop := (∀ x y, x < 12 → y < 12 → J.testBit x = true → gr x = gr y → J.testBit y = true) ∧ (∀ x y, x < 12 → y < 12 → ¬ J.testBit x = true → gr x = gr y → x = y) ∧ (∀ x y, x < 12 → y < 12 → J.testBit x = true → J.testBit y = true → s (12 * x + y) ≠ 0 → gr x = gr y) ∧ ∃ r, ∀ x y, x < 12 → y < 12 → J.testBit x = true → ¬ J.testBit y = true → s (12 * x + y) ≠ 0 → gr x = r
theorem orb_ {J v x : Nat} : (J ||| 2 ^ v).testBit x = true ↔ J.testBit x = true ∨ x = v := by
  rw [Nat.testBit_or, Bool.or_eq_true, Nat.testBit_two_pow, decide_eq_true_iff]
  exact ⟨fun h => h.elim Or.inl (fun q => Or.inr q.symm), fun h => h.elim Or.inl (fun q => Or.inr q.symm)⟩
theorem cb_or {J v : Nat} (h : ¬ J.testBit v = true) : ∀ n, cb_ (J ||| 2 ^ v) n = cb_ J n + (if v < n then 1 else 0)
  | 0 => rfl
  | n + 1 => by
    have ih := cb_or h n
    show cb_ (J ||| 2 ^ v) n + (if (J ||| 2 ^ v).testBit n = true then 1 else 0) = cb_ J n + (if J.testBit n = true then 1 else 0) + (if v < n + 1 then 1 else 0)
    rw [ih]
    by_cases e : n = v
    · subst e
      rw [if_pos (orb_.mpr (Or.inr rfl)), if_neg h, if_neg (Nat.lt_irrefl _), if_pos (Nat.lt_succ_self _)]
    · by_cases eb : J.testBit n = true
      · rw [if_pos (orb_.mpr (Or.inl eb)), if_pos eb]
        by_cases e2 : v < n
        · rw [if_pos e2, if_pos (by omega)]
        · rw [if_neg e2, if_neg (by omega)]
      · rw [if_neg (fun q => (orb_.mp q).elim eb e), if_neg eb]
        by_cases e2 : v < n
        · rw [if_pos e2, if_pos (by omega)]
        · rw [if_neg e2, if_neg (by omega)]
theorem cb_all {S : Nat} : ∀ n, cb_ S n = n → ∀ i, i < n → S.testBit i = true
  | 0, _, i, hi => absurd hi (by omega)
  | n + 1, h, i, hi => by
    have hl := cb_le S n
    have hs : cb_ S (n + 1) = cb_ S n + (if S.testBit n = true then 1 else 0) := rfl
    by_cases e : S.testBit n = true
    · rw [if_pos e] at hs
      by_cases ei : i = n
      · rw [ei]; exact e
      · exact cb_all n (by omega) i (by omega)
    · rw [if_neg e] at hs
      omega
theorem PrI_v {s gr : Nat → Nat} (hsy : ∀ u v, u < 12 → v < 12 → s (12 * u + v) = s (12 * v + u)) {J v : Nat} (hv : v < 12) (hb : ¬ J.testBit v = true) (hI : PrI_ s gr J) (hno : ∀ k, k < 144 → ¬ out_ s J k) : PrI_ s gr (J ||| 2 ^ v) := by
  obtain ⟨i1, i2, i3, r, i4⟩ := hI
  have no : ∀ x y, x < 12 → y < 12 → J.testBit x = true → ¬ J.testBit y = true → ¬ s (12 * x + y) ≠ 0 := by
    intro x y hx hy jx jy hs
    refine hno (12 * x + y) (by omega) ⟨hs, ?_, ?_⟩
    · rw [show (12 * x + y) / 12 = x by omega]; exact jx
    · rw [show (12 * x + y) % 12 = y by omega]; exact jy
  refine ⟨fun x y hx hy jx he => ?_, fun x y hx hy jx he => ?_, fun x y hx hy jx jy hs => ?_, gr v, fun x y hx hy jx jy hs => ?_⟩
  · rcases orb_.mp jx with q | q
    · exact orb_.mpr (Or.inl (i1 x y hx hy q he))
    · subst q
      exact orb_.mpr (Or.inr (i2 x y hx hy hb he).symm)
  · exact i2 x y hx hy (fun q => jx (orb_.mpr (Or.inl q))) he
  · rcases orb_.mp jx with q | q
    · rcases orb_.mp jy with q' | q'
      · exact i3 x y hx hy q q' hs
      · subst q'; exact absurd hs (no x y hx hy q hb)
    · subst q
      rcases orb_.mp jy with q' | q'
      · exact absurd (by rw [hsy y x hy hx]; exact hs) (no y x hy hx q' hb)
      · subst q'; rfl
  · rcases orb_.mp jx with q | q
    · exact absurd hs (no x y hx hy q (fun h => jy (orb_.mpr (Or.inl h))))
    · subst q; rfl
theorem PrI_e {s gr : Nat → Nat} (hsy : ∀ u v, u < 12 → v < 12 → s (12 * u + v) = s (12 * v + u)) {J a b : Nat} (ha : a < 12) (hb : b < 12) (ja : J.testBit a = true) (jb : ¬ J.testBit b = true) (hs : s (12 * a + b) ≠ 0) (hI : PrI_ s gr J) : PrI_ s (jn_ gr a b) (J ||| 2 ^ b) := by
  obtain ⟨i1, i2, i3, r, i4⟩ := hI
  have ra := i4 a b ha hb ja jb hs
  refine ⟨fun x y hx hy jx he => ?_, fun x y hx hy jx he => ?_, fun x y hx hy jx jy he => ?_, jn_ gr a b b, fun x y hx hy jx jy he => ?_⟩
  · rw [jn_ker] at he
    rcases he with q | ⟨q1, q2⟩ | ⟨q1, q2⟩
    · rcases orb_.mp jx with z | z
      · exact orb_.mpr (Or.inl (i1 x y hx hy z q))
      · subst z; exact orb_.mpr (Or.inr (i2 x y hx hy jb q).symm)
    · exact orb_.mpr (Or.inr (i2 b y hb hy jb q2.symm).symm)
    · exact orb_.mpr (Or.inl (i1 a y ha hy ja q2.symm))
  · have jx' : ¬ J.testBit x = true := fun q => jx (orb_.mpr (Or.inl q))
    have xb : x ≠ b := fun q => jx (orb_.mpr (Or.inr q))
    rw [jn_ker] at he
    rcases he with q | ⟨q1, q2⟩ | ⟨q1, q2⟩
    · exact i2 x y hx hy jx' q
    · exact absurd (i1 a x ha hx ja q1.symm) jx'
    · exact absurd (i2 x b hx hb jx' q1) xb
  · rw [jn_ker]
    rcases orb_.mp jx with q | q
    · rcases orb_.mp jy with q' | q'
      · exact Or.inl (i3 x y hx hy q q' he)
      · subst q'; exact Or.inr (Or.inl ⟨(i4 x y hx hy q jb he).trans ra.symm, rfl⟩)
    · subst q
      rcases orb_.mp jy with q' | q'
      · exact Or.inr (Or.inr ⟨rfl, (i4 y x hy hx q' jb (by rw [hsy y x hy hx]; exact he)).trans ra.symm⟩)
      · subst q'; exact Or.inl rfl
  · rcases orb_.mp jx with q | q
    · rw [jn_ker]
      exact Or.inr (Or.inl ⟨(i4 x y hx hy q (fun h => jy (orb_.mpr (Or.inl h))) he).trans ra.symm, rfl⟩)
    · subst q; rfl
theorem frame10_ {P : Nat → Int32} {s w : Nat → Nat} (h2 : sy_ s w) (hs : ∀ k, k < 144 → s k ≤ 99 ∧ w k ≤ 1) {F : Nat} (hF : F ≤ 1) (hP : ∀ k, k < 144 → P k = nI (pk0_ s w F k)) (k : Int32 → Int32 → Option Int32) : fn_X8_leastFrame_l10 P k fu_ 0 0 0 0 = k (nI (Kr_ s (co_ s w F) (fun j => j)).1) (nI (Kr_ s (co_ s w F) (fun j => j)).2) := by
  have hsy1 : ∀ u v, u < 12 → v < 12 → s (12 * u + v) = s (12 * v + u) := fun u v hu hv => (h2.1 u v hu hv).1
  have hsy : ∀ u v, u < 12 → v < 12 → s (12 * u + v) = s (12 * v + u) ∧ co_ s w F (12 * u + v) = co_ s w F (12 * v + u) := fun u v hu hv => by
    obtain ⟨q1, q2⟩ := h2.1 u v hu hv
    refine ⟨q1, ?_⟩
    unfold co_
    rw [q1, q2]
  obtain ⟨st, e1, S, C, J, gr, rfl, j1, j2, j3, j4, j5⟩ := lp_ 12 (fun n x (st : Int32 × Int32 × Int32) => fn_X8_leastFrame_l10 P k n st.1 st.2.1 st.2.2 x) (fun st => k st.1 st.2.1) (fun i st => ∃ (S C J : Nat) (gr : Nat → Nat), st = (nI S, nI C, nI J) ∧ J < 4096 ∧ cb_ J 12 = i ∧ PrI_ s gr J ∧ S + (Kr_ s (co_ s w F) gr).1 = (Kr_ s (co_ s w F) (fun j => j)).1 ∧ C + (Kr_ s (co_ s w F) gr).2 = (Kr_ s (co_ s w F) (fun j => j)).2) (by
    intro n i st hi hI
    obtain ⟨S, C, J, gr, rfl, j1, j2, j3, j4, j5⟩ := hI
    show ∃ st' : Int32 × Int32 × Int32, fn_X8_leastFrame_b10 P (fn_X8_leastFrame_l10 P k n) k (nI S) (nI C) (nI J) (nI i) = fn_X8_leastFrame_l10 P k n st'.1 st'.2.1 st'.2.2 (nI (i + 1)) ∧ _
    unfold fn_X8_leastFrame_b10
    obtain ⟨r, c1, c2⟩ := cheapestOutOf_ hs hF hP j1
    rw [if_neg (show ¬ (12 : Int32) ≤ nI i from nI_ge (b := 12) hi (by omega)), c1, b1_so, nI_1, nI_1]
    rcases c2 with ⟨rfl, hno⟩ | ⟨e, he, rfl, ho, hmin⟩
    · have hJ : J < 4095 := by
        rcases (show J < 4095 ∨ J = 4095 by omega) with q | q
        · exact q
        · subst q
          have : cb_ 4095 12 = 12 := by decide
          omega
      obtain ⟨v, v1, v2, v3⟩ := low_ hJ
      rw [if_pos rfl, v3, b1_so, nor_]
      refine ⟨(nI S, nI C, nI (J ||| 2 ^ v)), rfl, S, C, J ||| 2 ^ v, gr, rfl, Nat.or_lt_two_pow (n := 12) j1 (p2lt v1), ?_, PrI_v hsy1 v1 v2 j3 hno, j4, j5⟩
      rw [cb_or v2, if_pos v1, j2]
    · obtain ⟨o1, o2, o3⟩ := ho
      have ha : e / 12 < 12 := by omega
      have hb : e % 12 < 12 := by omega
      have ee : 12 * (e / 12) + e % 12 = e := by omega
      have hab : gr (e / 12) ≠ gr (e % 12) := fun q => o3 (j3.1 _ _ ha hb o2 q)
      have hcut := cut_ hsy 144 gr (mu_le s gr) (e / 12) (e % 12) ha hb (by rw [ee]; exact o1) hab (fun z => J.testBit z = true) (fun x y hx hy q1 q2 => j3.1 x y hx hy q1 q2) o2 o3 (fun u v hu hv hs q1 q2 => by
        rw [ee]
        refine hmin (12 * u + v) (by omega) ⟨hs, ?_, ?_⟩
        · rw [show (12 * u + v) / 12 = u by omega]; exact q1
        · rw [show (12 * u + v) % 12 = v by omega]; exact q2)
      rw [ee] at hcut
      have hpe : pk0_ s w F e = co_ s w F e := by unfold pk0_; rw [if_neg o1]
      rw [if_neg (n6_ne (by omega)), ckn_ he (by omega), nI_clamp (by omega), hP e he, hpe, nI_add, lx_so, dv12_ (by omega), md12_ (by omega), sh1_ (by omega), nor_, lx_so]
      refine ⟨(nI (S + co_ s w F e), nI (C + 1), nI (J ||| 2 ^ (e % 12))), rfl, S + co_ s w F e, C + 1, J ||| 2 ^ (e % 12), jn_ gr (e / 12) (e % 12), rfl, Nat.or_lt_two_pow (n := 12) j1 (p2lt hb), ?_, PrI_e hsy1 ha hb o2 o3 (by rw [ee]; exact o1) j3, ?_, ?_⟩
      · rw [cb_or o3, if_pos hb, j2]
      · rw [← j4, hcut]
        show S + co_ s w F e + _ = S + (co_ s w F e + _)
        omega
      · rw [← j5, hcut]
        show C + 1 + _ = C + (1 + _)
        omega) (by
    intro n st hI
    show fn_X8_leastFrame_b10 P (fn_X8_leastFrame_l10 P k n) k st.1 st.2.1 st.2.2 (nI 12) = _
    unfold fn_X8_leastFrame_b10
    rw [if_pos (show (12 : Int32) ≤ nI 12 by decide)]) 12 0 fu_ (0, 0, 0) rfl (fu_lt (by omega)) ⟨0, 0, 0, fun j => j, rfl, by omega, by decide, ⟨fun x y _ _ q => absurd q (by rw [Nat.zero_testBit]; decide), fun x y _ _ _ q => q, fun x y _ _ q => absurd q (by rw [Nat.zero_testBit]; decide), 0, fun x y _ _ q => absurd q (by rw [Nat.zero_testBit]; decide)⟩, Nat.zero_add _, Nat.zero_add _⟩
  have hall := cb_all 12 j2
  have hz : Kr_ s (co_ s w F) gr = (0, 0) := by
    rw [Kr_eq]
    rcases pick_spec (co_ s w F) (Vk_ s gr) with ⟨q1, -⟩ | ⟨q1, q2, -⟩
    · rw [if_pos q1]
    · obtain ⟨k1, k2⟩ := Vk_t.mp q2
      refine absurd (j3.2.2.1 _ _ (show pick_ (co_ s w F) (Vk_ s gr) / 12 < 12 by omega) (show pick_ (co_ s w F) (Vk_ s gr) % 12 < 12 by omega) (hall _ (by omega)) (hall _ (by omega)) ?_) k2
      rw [show 12 * (pick_ (co_ s w F) (Vk_ s gr) / 12) + pick_ (co_ s w F) (Vk_ s gr) % 12 = pick_ (co_ s w F) (Vk_ s gr) by omega]
      exact k1
  rw [hz] at j4 j5
  refine Eq.trans e1 ?_
  show k (nI S) (nI C) = _
  rw [← j4, ← j5]
  rfl
theorem pp_wax {c_x_measured c_x_now_crowd_there c_x_now_crowd_foggy c_x_now_sights_count c_x_pad_count c_x_evening_acts c_x_evening_failedAct c_x_evening_reason c_x_evening_costs c_x_evening_walks c_x_evening_crowd_there c_x_evening_crowd_foggy c_x_tour_costs c_x_tour_firstStop c_x_odds_count c_x_odds_tenths c_m_foggy c_m_walkers c_m_sights c_m_padMany c_m_acts c_m_spent c_m_walks c_m_badAct c_m_badWhy c_m_keptAt c_m_isWriting : Int32} {c_x_now_marsh_codes c_x_now_crowd_at c_x_now_crowd_home c_x_now_crowd_light c_x_now_crowd_carries c_x_now_crowd_bearer c_x_now_sights_places c_x_now_sights_lights c_x_pad_signs c_x_evening_crowd_at c_x_evening_crowd_home c_x_evening_crowd_light c_x_evening_crowd_carries c_x_evening_crowd_bearer c_x_ways_planks c_x_ways_least c_x_ways_neighbours c_x_tour_stops c_x_tour_rest c_x_odds_planks c_m_steps c_m_wet c_m_where c_m_home c_m_light c_m_carries c_m_sightPlace c_m_sightLight c_m_pad c_m_act c_m_whose c_m_whom c_m_tens c_m_had c_m_leaves c_m_apart c_m_stop c_m_restOf c_m_group c_m_along : Nat → Int32} (hR : RR c_x_measured c_x_now_marsh_codes c_x_now_crowd_there c_x_now_crowd_foggy c_x_now_crowd_at c_x_now_crowd_home c_x_now_crowd_light c_x_now_crowd_carries c_x_now_crowd_bearer c_x_now_sights_count c_x_now_sights_places c_x_now_sights_lights c_x_pad_count c_x_pad_signs c_x_evening_acts c_x_evening_failedAct c_x_evening_reason c_x_evening_costs c_x_evening_walks c_x_evening_crowd_there c_x_evening_crowd_foggy c_x_evening_crowd_at c_x_evening_crowd_home c_x_evening_crowd_light c_x_evening_crowd_carries c_x_evening_crowd_bearer c_x_ways_planks c_x_ways_least c_x_ways_neighbours c_x_tour_costs c_x_tour_firstStop c_x_tour_stops c_x_tour_rest c_x_odds_count c_x_odds_tenths c_x_odds_planks c_m_foggy c_m_walkers c_m_sights c_m_padMany c_m_acts c_m_spent c_m_walks c_m_badAct c_m_badWhy c_m_keptAt c_m_isWriting c_m_steps c_m_wet c_m_where c_m_home c_m_light c_m_carries c_m_sightPlace c_m_sightLight c_m_pad c_m_act c_m_whose c_m_whom c_m_tens c_m_had c_m_leaves c_m_apart c_m_stop c_m_restOf c_m_group c_m_along) (x1 : Int32)  : ∃ (r : Int32) (w0 : Int32) (w1 : Nat → Int32) (w2 : Nat → Int32) (w3 : Nat → Int32) (v0 : Nat → Int32), fn_X9_wax c_x_measured c_x_now_marsh_codes c_x_now_crowd_foggy c_x_ways_planks c_x_ways_least c_x_ways_neighbours x1 = some (r, w0, w1, w2, w3) ∧ fn_X10_wax c_m_foggy c_m_steps c_m_wet c_m_group x1 = some (r, v0) ∧ RR w0 c_x_now_marsh_codes c_x_now_crowd_there c_x_now_crowd_foggy c_x_now_crowd_at c_x_now_crowd_home c_x_now_crowd_light c_x_now_crowd_carries c_x_now_crowd_bearer c_x_now_sights_count c_x_now_sights_places c_x_now_sights_lights c_x_pad_count c_x_pad_signs c_x_evening_acts c_x_evening_failedAct c_x_evening_reason c_x_evening_costs c_x_evening_walks c_x_evening_crowd_there c_x_evening_crowd_foggy c_x_evening_crowd_at c_x_evening_crowd_home c_x_evening_crowd_light c_x_evening_crowd_carries c_x_evening_crowd_bearer w1 w2 w3 c_x_tour_costs c_x_tour_firstStop c_x_tour_stops c_x_tour_rest c_x_odds_count c_x_odds_tenths c_x_odds_planks c_m_foggy c_m_walkers c_m_sights c_m_padMany c_m_acts c_m_spent c_m_walks c_m_badAct c_m_badWhy c_m_keptAt c_m_isWriting c_m_steps c_m_wet c_m_where c_m_home c_m_light c_m_carries c_m_sightPlace c_m_sightLight c_m_pad c_m_act c_m_whose c_m_whom c_m_tens c_m_had c_m_leaves c_m_apart c_m_stop c_m_restOf v0 c_m_along := by
  obtain ⟨s, w, T, F, a, h, li, cr, br, sc, sp, sl, pc, g, h1, h2, ⟨hT, hT1, hT2⟩, ⟨hF, hF1, hF2⟩, h5, h6, h7, ⟨hsc, hs1, hs2⟩, h9, ⟨hpc, hp1, hp2⟩, h11, h12⟩ := id hR
  rcases rg0_ x1 1 1 1 rfl rfl with ⟨q1, q2, -⟩ | ⟨m, hm, em, q1, q2⟩
  · refine ⟨-2, c_x_measured, c_x_ways_planks, c_x_ways_least, c_x_ways_neighbours, c_m_group, ?_, ?_, hR⟩
    · unfold fn_X9_wax; rw [q1]; rfl
    · unfold fn_X10_wax; rw [q2]; rfl
  · obtain ⟨P', L', N', A', e1, -, hw, -⟩ := mw_ h1 hF h12 c_m_apart
    obtain ⟨G1, b1, b2⟩ := beginGroups_ c_m_group
    obtain ⟨G', z⟩ := wax27_ h1 hF (fun v14 v15 v16 => if x1 = 0 then some (v14, v16) else some (v15, v16)) fu_ (fun j => j) G1 0 0 (Nat.lt_of_le_of_lt (mu_le s _) (fu_lt (by omega))) (fun j hj => ⟨b2 j hj, hj⟩)
    rw [Nat.zero_add, Nat.zero_add] at z
    have hfr := frame10_ h2 (pl_b h1) hF (fun k hk => (hw.1 k hk).1)
    refine ⟨if m = 0 then nI (Kr_ s (co_ s w F) (fun j => j)).1 else nI (Kr_ s (co_ s w F) (fun j => j)).2, 1, P', L', N', G', ?_, ?_, ⟨s, w, T, F, a, h, li, cr, br, sc, sp, sl, pc, g, h1, h2, ⟨hT, hT1, hT2⟩, ⟨hF, hF1, hF2⟩, h5, h6, h7, ⟨hsc, hs1, hs2⟩, h9, ⟨hpc, hp1, hp2⟩, h11, Or.inr ⟨rfl, hw⟩⟩⟩
    · unfold fn_X9_wax fn_X9_wax_j29 fn_X8_leastFrame
      rw [q1, b1_so, if_neg (by decide), hF1, e1, b4_so, hfr, hfr]
      rcases (show m = 0 ∨ m = 1 by omega) with e | e
      · rw [if_pos (show x1 = 0 by rw [em, e]; rfl), if_neg (show ¬ (1 : Int32) = 0 by decide), if_pos e, b1_so]
      · rw [if_neg (show ¬ x1 = 0 by rw [em, e]; decide), if_pos (show (0 : Int32) = 0 from rfl), if_neg (show ¬ m = 0 by omega), b1_so]
    · unfold fn_X10_wax
      rw [q2, b1_so, if_neg (by decide), b1, b1_so, hF2, cheapestBetween_ h1 hF (gr := fun j => j) (fun j hj => ⟨b2 j hj, hj⟩), b1_so]
      refine Eq.trans z ?_
      rcases (show m = 0 ∨ m = 1 by omega) with e | e
      · rw [if_pos (show x1 = 0 by rw [em, e]; rfl), if_pos e]
      · rw [if_neg (show ¬ x1 = 0 by rw [em, e]; decide), if_neg (show ¬ m = 0 by omega)]
