/-! ===== stops ===== -/
theorem stops_l {S : Nat} (hS : S < 4096) (hc : cb_ S 12 ≤ 6) : ∀ (e p n : Nat) (σ : Nat → Nat) (s1 s2 : Nat → Int32), p + e = 12 → e < n → (∀ i, i < cb_ S p → σ i < 12 ∧ s1 i = nI (σ i) ∧ s2 i = nI (σ i)) → ∃ (σ' : Nat → Nat) (s1' s2' : Nat → Int32), fn_X7_listStops_l4 (nI S) (fun v4 v5 => some (v4, v5)) n (nI (cb_ S p)) (nI p) s1 = some (nI (cb_ S 12), s1') ∧ fn_X10_layStops_l4 (nI S) (fun v2 v3 => some (v2, v3)) n (nI (cb_ S p)) (nI p) s2 = some (nI (cb_ S 12), s2') ∧ ∀ i, i < cb_ S 12 → σ' i < 12 ∧ s1' i = nI (σ' i) ∧ s2' i = nI (σ' i)
  | 0, p, 0, σ, s1, s2, q1, q2, q3 => absurd q2 (by omega)
  | 0, p, n + 1, σ, s1, s2, q1, q2, q3 => by
    have e : p = 12 := by omega
    subst e
    refine ⟨σ, s1, s2, ?_, ?_, q3⟩
    · show fn_X7_listStops_b4 (nI S) _ (fun v4 v5 => some (v4, v5)) (nI (cb_ S 12)) (nI 12) s1 = _
      unfold fn_X7_listStops_b4
      rw [if_pos (show (12 : Int32) ≤ nI 12 by decide)]
    · show fn_X10_layStops_b4 (nI S) _ (fun v2 v3 => some (v2, v3)) (nI (cb_ S 12)) (nI 12) s2 = _
      unfold fn_X10_layStops_b4
      rw [if_pos (show (12 : Int32) ≤ nI 12 by decide)]
  | e + 1, p, 0, σ, s1, s2, q1, q2, q3 => absurd q2 (by omega)
  | e + 1, p, n + 1, σ, s1, s2, q1, q2, q3 => by
    have hp : p < 12 := by omega
    have hm := cb_mono S (p + 1) e
    rw [show p + 1 + e = 12 by omega] at hm
    have hs : cb_ S (p + 1) = cb_ S p + (if S.testBit p = true then 1 else 0) := rfl
    show ∃ (σ' : Nat → Nat) (s1' s2' : Nat → Int32), fn_X7_listStops_b4 (nI S) (fn_X7_listStops_l4 (nI S) (fun v4 v5 => some (v4, v5)) n) (fun v4 v5 => some (v4, v5)) (nI (cb_ S p)) (nI p) s1 = some (nI (cb_ S 12), s1') ∧ fn_X10_layStops_b4 (nI S) (fn_X10_layStops_l4 (nI S) (fun v2 v3 => some (v2, v3)) n) (fun v2 v3 => some (v2, v3)) (nI (cb_ S p)) (nI p) s2 = some (nI (cb_ S 12), s2') ∧ _
    unfold fn_X7_listStops_b4 fn_X10_layStops_b4
    have h12 : ¬ (12 : Int32) ≤ nI p := nI_ge (b := 12) hp (by omega)
    rw [if_neg h12, isIn_ (by omega) (by omega), b1_so, nI_1]
    simp only [if_neg h12]
    by_cases eb : S.testBit p = true
    · rw [if_pos eb] at hs
      have hlt : cb_ S p < 6 := by omega
      rw [if_pos eb, if_neg (show ¬ (1 : Int32) = 0 by decide), if_neg (show ¬ (6 : Int32) ≤ nI (cb_ S p) from nI_ge (b := 6) hlt (by omega)), ckn_ hlt (by omega), nI_clamp (by omega), lx_so, nI_1]
      simp only [if_pos ((bts_ (show S < 2 ^ 31 by omega) (show p < 32 by omega)).mpr eb), ckn_ hlt (show 6 < 2 ^ 31 by omega), nI_clamp (show cb_ S p < 2 ^ 31 by omega), lx_so, nI_1]
      rw [← hs]
      refine stops_l hS hc e (p + 1) n (upn_ σ (cb_ S p) p) _ _ (by omega) (by omega) (fun i hi => ?_)
      unfold upn_
      rw [up_nI, up_nI]
      by_cases ei : i = cb_ S p
      · rw [if_pos ei, if_pos ei, if_pos ei]; exact ⟨hp, rfl, rfl⟩
      · rw [if_neg ei, if_neg ei, if_neg ei]; exact q3 i (by omega)
    · rw [if_neg eb] at hs
      have hs' : cb_ S (p + 1) = cb_ S p := by omega
      rw [if_neg eb, if_pos rfl]
      simp only [if_neg (fun q => eb ((bts_ (show S < 2 ^ 31 by omega) (show p < 32 by omega)).mp q)), nI_1]
      rw [← hs']
      exact stops_l hS hc e (p + 1) n σ s1 s2 (by omega) (by omega) (fun i hi => q3 i (by omega))
theorem stops_ {S : Nat} (hS : S < 4096) (hc : cb_ S 12 ≤ 6) (s1 s2 : Nat → Int32) : ∃ (σ : Nat → Nat) (s1' s2' : Nat → Int32), fn_X7_listStops s1 (nI S) = some (nI (cb_ S 12), s1') ∧ fn_X10_layStops s2 (nI S) = some (nI (cb_ S 12), s2') ∧ ∀ i, i < cb_ S 12 → σ i < 12 ∧ s1' i = nI (σ i) ∧ s2' i = nI (σ i) := by
  unfold fn_X7_listStops fn_X10_layStops
  exact stops_l hS hc 12 0 fu_ (fun _ => 0) s1 s2 rfl (fu_lt (by omega)) (fun i hi => absurd hi (Nat.not_lt_zero _))
/-! what is to walk still: C the stops that are to come -/
def ro_ (d σ : Nat → Nat) (pl n : Nat) : Nat → Nat → Nat → Nat
  | 0, _, _ => 0
  | f + 1, C, x => if C = 0 then d (12 * x + pl) else fl_ (fun i acc => if C.testBit i = true then (if d (12 * x + σ i) + ro_ d σ pl n f (C - 2 ^ i) (σ i) < acc then d (12 * x + σ i) + ro_ d σ pl n f (C - 2 ^ i) (σ i) else acc) else acc) n 0 1000000
theorem tbge_ {C i : Nat} (hC : C < 64) (hi : i < 6) (h : C.testBit i = true) : 2 ^ i ≤ C := by
  have key : ∀ (c : Fin 64) (j : Fin 6), c.val.testBit j.val = true → 2 ^ j.val ≤ c.val := by decide +kernel
  exact key ⟨C, hC⟩ ⟨i, hi⟩ h
theorem p2pos (i : Nat) : 0 < 2 ^ i := Nat.two_pow_pos i
theorem ro_st {d σ : Nat → Nat} {pl n : Nat} (hn : n ≤ 6) : ∀ (f f' C x : Nat), C < 64 → C < f → C < f' → ro_ d σ pl n f C x = ro_ d σ pl n f' C x
  | 0, f', C, x, h0, h1, h2 => absurd h1 (by omega)
  | f + 1, 0, C, x, h0, h1, h2 => absurd h2 (by omega)
  | f + 1, f' + 1, C, x, h0, h1, h2 => by
    show (if C = 0 then d (12 * x + pl) else fl_ (fun i acc => if C.testBit i = true then (if d (12 * x + σ i) + ro_ d σ pl n f (C - 2 ^ i) (σ i) < acc then d (12 * x + σ i) + ro_ d σ pl n f (C - 2 ^ i) (σ i) else acc) else acc) n 0 1000000) = (if C = 0 then d (12 * x + pl) else fl_ (fun i acc => if C.testBit i = true then (if d (12 * x + σ i) + ro_ d σ pl n f' (C - 2 ^ i) (σ i) < acc then d (12 * x + σ i) + ro_ d σ pl n f' (C - 2 ^ i) (σ i) else acc) else acc) n 0 1000000)
    by_cases e : C = 0
    · rw [if_pos e, if_pos e]
    · rw [if_neg e, if_neg e]
      refine fl_congr n 0 1000000 (fun i t _ hi => ?_)
      by_cases eb : C.testBit i = true
      · have hg := tbge_ h0 (by omega) eb
        have hp := p2pos i
        rw [if_pos eb, if_pos eb, ro_st hn f f' (C - 2 ^ i) (σ i) (by omega) (by omega) (by omega)]
      · rw [if_neg eb, if_neg eb]
theorem fl_le {f : Nat → Nat → Nat} {B : Nat} : ∀ (e i t : Nat), t ≤ B → (∀ j u, u ≤ B → f j u ≤ B) → fl_ f e i t ≤ B
  | 0, _, _, h, _ => h
  | e + 1, i, t, h, hf => fl_le e (i + 1) (f i t) (hf i t h) hf
theorem ro_le {d σ : Nat → Nat} (hd : ∀ k, k < 144 → d k ≤ 1000000) {pl n : Nat} (hpl : pl < 12) : ∀ (f C x : Nat), x < 12 → ro_ d σ pl n f C x ≤ 1000000
  | 0, C, x, hx => Nat.zero_le _
  | f + 1, C, x, hx => by
    show (if C = 0 then d (12 * x + pl) else fl_ (fun i acc => if C.testBit i = true then (if d (12 * x + σ i) + ro_ d σ pl n f (C - 2 ^ i) (σ i) < acc then d (12 * x + σ i) + ro_ d σ pl n f (C - 2 ^ i) (σ i) else acc) else acc) n 0 1000000) ≤ 1000000
    by_cases e : C = 0
    · rw [if_pos e]; exact hd _ (by omega)
    · rw [if_neg e]
      refine fl_le n 0 1000000 (Nat.le_refl _) (fun j u hu => ?_)
      (repeat' split) <;> omega
/-- what is to walk by stop i -/
def rb_ (d σ : Nat → Nat) (pl n C x i : Nat) : Nat := d (12 * x + σ i) + ro_ d σ pl n (C - 2 ^ i + 1) (C - 2 ^ i) (σ i)
theorem ro_eq {d σ : Nat → Nat} {pl n : Nat} (hn : n ≤ 6) {C x : Nat} (hC : C < 64) (h0 : C ≠ 0) : ro_ d σ pl n (C + 1) C x = fl_ (fun i acc => if C.testBit i = true then (if rb_ d σ pl n C x i < acc then rb_ d σ pl n C x i else acc) else acc) n 0 1000000 := by
  show (if C = 0 then d (12 * x + pl) else fl_ (fun i acc => if C.testBit i = true then (if d (12 * x + σ i) + ro_ d σ pl n C (C - 2 ^ i) (σ i) < acc then d (12 * x + σ i) + ro_ d σ pl n C (C - 2 ^ i) (σ i) else acc) else acc) n 0 1000000) = _
  rw [if_neg h0]
  refine fl_congr n 0 1000000 (fun i t _ hi => ?_)
  by_cases eb : C.testBit i = true
  · have hg := tbge_ hC (by omega) eb
    have hp := p2pos i
    rw [if_pos eb, if_pos eb]
    unfold rb_
    rw [ro_st hn C (C - 2 ^ i + 1) (C - 2 ^ i) (σ i) (by omega) (by omega) (by omega)]
  · rw [if_neg eb, if_neg eb]
/-! the class -/
theorem ix6_ (p q : Nat) : nI p * 6 + nI q = nI (6 * p + q) := by rw [show (6 : Int32) = nI 6 from rfl, pk_mul, nI_add, Nat.mul_comm]
theorem ix6b_ (p q : Nat) : 6 * nI p + nI q = nI (6 * p + q) := by rw [show (6 : Int32) = nI 6 from rfl, pk_mul, nI_add]
theorem restBy_ {L : Nat → Int32} {d σ : Nat → Nat} (hL : ∀ k, k < 144 → L k = nI (d k)) {n : Nat} (hn : n ≤ 6) {stops rest : Nat → Int32} (hs : ∀ i, i < n → σ i < 12 ∧ stops i = nI (σ i)) {pl C x i : Nat} (hC : C < 64) (hx : x < 12) (hi : i < n) (hb : C.testBit i = true) (hr : rest (6 * (C - 2 ^ i) + i) = nI (ro_ d σ pl n (C - 2 ^ i + 1) (C - 2 ^ i) (σ i))) : fn_X7_restBy stops rest L (nI x) (nI C) (nI i) = some (nI (rb_ d σ pl n C x i)) := by
  unfold fn_X7_restBy
  obtain ⟨s1, s2⟩ := hs i hi
  have hle : C - 2 ^ i ≤ C := Nat.sub_le _ _
  have hm := (rm_b hC (show i < 6 by omega)).1
  rw [show rm_ C i = C - 2 ^ i from if_pos hb] at hm
  rw [ckn_ (show i < 6 by omega) (by omega), nI_clamp (by omega), s2, between_ hx s1, b1_so, hm, ix6_, ckn_ (show 6 * (C - 2 ^ i) + i < 384 by omega) (by omega), nI_clamp (by omega), hr, hL _ (by omega), nI_add]
  rfl
theorem restFrom_ {L : Nat → Int32} {d σ : Nat → Nat} (hL : ∀ k, k < 144 → L k = nI (d k)) (hd : ∀ k, k < 144 → d k ≤ 1000000) {n : Nat} (hn : n ≤ 6) {stops rest : Nat → Int32} (hs : ∀ i, i < n → σ i < 12 ∧ stops i = nI (σ i)) {pl C x : Nat} (hpl : pl < 12) (hC : C < 64) (hx : x < 12) (hr : ∀ i, i < n → C.testBit i = true → rest (6 * (C - 2 ^ i) + i) = nI (ro_ d σ pl n (C - 2 ^ i + 1) (C - 2 ^ i) (σ i))) : fn_X7_restFrom stops rest L (nI x) (nI C) (nI n) (nI pl) = some (nI (ro_ d σ pl n (C + 1) C x)) := by
  unfold fn_X7_restFrom
  by_cases e : C = 0
  · rw [if_pos (show nI C = 0 by rw [e]; rfl), between_ hx hpl, b1_so, hL _ (by omega)]
    subst e
    rfl
  · rw [if_neg (nI_ne0 (by omega) (by omega)), ro_eq hn hC e]
    refine (lg2_ n (fun m y (acc : Nat) => fn_X7_restFrom_l19 stops rest L (nI x) (nI C) (nI n) (fun v6 => some v6) m (nI acc) y) (fun acc => some (nI acc)) (fun i acc => if C.testBit i = true then (if rb_ d σ pl n C x i < acc then rb_ d σ pl n C x i else acc) else acc) (fun _ acc => acc ≤ 1000000) ?_ ?_ n 0 fu_ 1000000 (Nat.zero_add _) (fu_lt (by omega)) (Nat.le_refl _)).1
    · intro m i acc hi ha
      obtain ⟨s1, -⟩ := hs i hi
      refine ⟨?_, by (repeat' split) <;> omega⟩
      show fn_X7_restFrom_b19 stops rest L (nI x) (nI C) (nI n) (fn_X7_restFrom_l19 stops rest L (nI x) (nI C) (nI n) (fun v6 => some v6) m) (fun v6 => some v6) (nI acc) (nI i) = fn_X7_restFrom_l19 stops rest L (nI x) (nI C) (nI n) (fun v6 => some v6) m (nI (if C.testBit i = true then (if rb_ d σ pl n C x i < acc then rb_ d σ pl n C x i else acc) else acc)) (nI (i + 1))
      unfold fn_X7_restFrom_b19
      rw [if_neg (nI_ge hi (by omega)), isIn_ (by omega) (by omega), b1_so, nI_1]
      by_cases eb : C.testBit i = true
      · have k1 := hd (12 * x + σ i) (by omega)
        have k2 := ro_le (σ := σ) hd hpl (n := n) (C - 2 ^ i + 1) (C - 2 ^ i) (σ i) s1
        have k3 : rb_ d σ pl n C x i ≤ 2000000 := by unfold rb_; omega
        rw [if_pos eb, if_neg (show ¬ (1 : Int32) = 0 by decide), restBy_ hL hn hs hC hx hi eb (hr i hi eb), b1_so, lx_so, if_pos eb]
        by_cases e2 : rb_ d σ pl n C x i < acc
        · rw [if_pos (nI_lt e2 (by omega)), if_pos e2]
        · rw [if_neg (nI_nlt (by omega) (by omega)), if_neg e2]
      · rw [if_neg eb, if_pos rfl, if_neg eb]
    · intro m acc ha
      show fn_X7_restFrom_b19 stops rest L (nI x) (nI C) (nI n) (fn_X7_restFrom_l19 stops rest L (nI x) (nI C) (nI n) (fun v6 => some v6) m) (fun v6 => some v6) (nI acc) (nI n) = _
      unfold fn_X7_restFrom_b19
      rw [if_pos (Int32.le_refl _)]
def TB_ (d σ : Nat → Nat) (pl n : Nat) (C : Nat) (rest : Nat → Int32) : Prop := ∀ C', C' < C → ∀ j, j < n → ¬ C'.testBit j = true → rest (6 * C' + j) = nI (ro_ d σ pl n (C' + 1) C' (σ j))
theorem tbcl_ {C i : Nat} (hC : C < 64) (hi : i < 6) (h : C.testBit i = true) : ¬ (C - 2 ^ i).testBit i = true := by
  have key : ∀ (c : Fin 64) (j : Fin 6), c.val.testBit j.val = true → ¬ (c.val - 2 ^ j.val).testBit j.val = true := by decide +kernel
  exact key ⟨C, hC⟩ ⟨i, hi⟩ h
theorem plan22_ {L : Nat → Int32} {d σ : Nat → Nat} (hL : ∀ k, k < 144 → L k = nI (d k)) (hd : ∀ k, k < 144 → d k ≤ 1000000) {n : Nat} (hn : n ≤ 6) {stops rest : Nat → Int32} (hs : ∀ i, i < n → σ i < 12 ∧ stops i = nI (σ i)) {pl C : Nat} (hpl : pl < 12) (hC : C < 64) (hT : TB_ d σ pl n C rest) (k : (Nat → Int32) → Option (Int32 × Int32 × (Nat → Int32) × (Nat → Int32))) : ∃ rest', fn_X7_plan_l22 stops L (nI pl) (nI n) (nI C) k fu_ 0 rest = k rest' ∧ TB_ d σ pl n (C + 1) rest' := by
  obtain ⟨R, e1, e2, e3⟩ := lp_ n (fun m y (R : Nat → Int32) => fn_X7_plan_l22 stops L (nI pl) (nI n) (nI C) k m y R) k (fun i R => TB_ d σ pl n C R ∧ ∀ j, j < i → ¬ C.testBit j = true → R (6 * C + j) = nI (ro_ d σ pl n (C + 1) C (σ j))) (by
    intro m i R hi hI
    obtain ⟨s1, s2⟩ := hs i hi
    obtain ⟨i1, i2⟩ := hI
    show ∃ st', fn_X7_plan_b22 stops L (nI pl) (nI n) (nI C) (fn_X7_plan_l22 stops L (nI pl) (nI n) (nI C) k m) k (nI i) R = fn_X7_plan_l22 stops L (nI pl) (nI n) (nI C) k m (nI (i + 1)) st' ∧ _
    unfold fn_X7_plan_b22
    rw [if_neg (nI_ge hi (by omega)), isIn_ (by omega) (by omega), b1_so, nI_1]
    by_cases eb : C.testBit i = true
    · rw [if_pos eb, if_neg (show ¬ (1 : Int32) = 0 by decide)]
      refine ⟨R, rfl, i1, fun j hj hb => i2 j ?_ hb⟩
      rcases (show j < i ∨ j = i by omega) with q | q
      · exact q
      · subst q; exact absurd eb hb
    · rw [if_neg eb, if_pos rfl, ckn_ (show i < 6 by omega) (by omega), nI_clamp (by omega), s2, restFrom_ hL hd hn hs hpl hC s1 (fun j hj hb => i1 (C - 2 ^ j) (by have := tbge_ hC (show j < 6 by omega) hb; have := p2pos j; omega) j hj (tbcl_ hC (by omega) hb)), b1_so, ix6_, ckn_ (show 6 * C + i < 384 by omega) (by omega), nI_clamp (by omega), lx_so]
      refine ⟨_, rfl, fun C' hC' j hj hb => ?_, fun j hj hb => ?_⟩
      · rw [up_ne (by omega)]; exact i1 C' hC' j hj hb
      · by_cases ej : j = i
        · subst ej; rw [up_eq]
        · rw [up_ne (by omega)]; exact i2 j (by omega) hb) (by
    intro m R hI
    show fn_X7_plan_b22 stops L (nI pl) (nI n) (nI C) (fn_X7_plan_l22 stops L (nI pl) (nI n) (nI C) k m) k (nI n) R = _
    unfold fn_X7_plan_b22
    rw [if_pos (Int32.le_refl _)]) n 0 fu_ rest (Nat.zero_add _) (fu_lt (by omega)) ⟨hT, fun j hj => absurd hj (by omega)⟩
  refine ⟨R, e1, fun C' hC' j hj hb => ?_⟩
  by_cases ec : C' = C
  · subst ec; exact e3 j hj hb
  · exact e2 C' (by omega) j hj hb
theorem p2le {n : Nat} (h : n ≤ 6) : 2 ^ n ≤ 64 := Nat.pow_le_pow_right (n := 2) (by omega) h
theorem plan10_ {L : Nat → Int32} {d σ : Nat → Nat} (hL : ∀ k, k < 144 → L k = nI (d k)) (hd : ∀ k, k < 144 → d k ≤ 1000000) {n : Nat} (hn : n ≤ 6) {stops : Nat → Int32} (hs : ∀ i, i < n → σ i < 12 ∧ stops i = nI (σ i)) {pl : Nat} (hpl : pl < 12) (rest : Nat → Int32) (k : (Nat → Int32) → Option (Int32 × Int32 × (Nat → Int32) × (Nat → Int32))) : ∃ rest', fn_X7_plan_l10 stops L (nI pl) (nI n) k fu_ 0 rest = k rest' ∧ TB_ d σ pl n (2 ^ n) rest' := by
  have h64 := p2le hn
  refine lp_ (2 ^ n) (fun m y (R : Nat → Int32) => fn_X7_plan_l10 stops L (nI pl) (nI n) k m y R) k (fun C R => TB_ d σ pl n C R) ?_ ?_ (2 ^ n) 0 fu_ rest (Nat.zero_add _) (fu_lt (by omega)) (fun C' hC' => absurd hC' (by omega))
  · intro m C R hC hI
    show ∃ st', fn_X7_plan_b10 stops L (nI pl) (nI n) (fn_X7_plan_l10 stops L (nI pl) (nI n) k m) k (nI C) R = fn_X7_plan_l10 stops L (nI pl) (nI n) k m (nI (C + 1)) st' ∧ _
    unfold fn_X7_plan_b10
    rw [sh1_ (by omega), if_neg (nI_ge hC (by omega)), nI_1]
    exact plan22_ hL hd hn hs hpl (by omega) hI _
  · intro m R hI
    show fn_X7_plan_b10 stops L (nI pl) (nI n) (fn_X7_plan_l10 stops L (nI pl) (nI n) k m) k (nI (2 ^ n)) R = _
    unfold fn_X7_plan_b10
    rw [sh1_ (by omega), if_pos (Int32.le_refl _)]
/-! the reference -/
theorem bts0_ {S j : Nat} (hS : S < 2 ^ 31) (hj : j < 32) : (((nI S >>> (nI j &&& 31)) &&& 1) = 0) ↔ ¬ S.testBit j = true := by
  have h2 : S / 2 ^ j ≤ S := Nat.div_le_self _ _
  rw [pk_shrN hS (nI j &&& 31) j (sl_ j hj), pk_andN (n := S / 2 ^ j) (by omega) 1 rfl, show (0 : Int32) = nI 0 from rfl, nI_eq (by omega) (by omega), Nat.testBit_eq_decide_div_mod_eq, decide_eq_true_iff]
  omega
theorem cmpl_ {n M j : Nat} (hn : n ≤ 6) (hM : M < 2 ^ n) (hj : j < n) : ((2 ^ n - 1 - M).testBit j = true ↔ ¬ M.testBit j = true) := by
  have key : ∀ (n : Fin 7) (M : Fin 64) (j : Fin 6), M.val < 2 ^ n.val → j.val < n.val → ((2 ^ n.val - 1 - M.val).testBit j.val = true ↔ ¬ M.val.testBit j.val = true) := by decide +kernel
  have h64 := p2le hn
  exact key ⟨n, by omega⟩ ⟨M, by omega⟩ ⟨j, by omega⟩ hM hj
theorem orad_ {M j : Nat} (hM : M < 64) (hj : j < 6) (h : ¬ M.testBit j = true) : M ||| 2 ^ j = M + 2 ^ j := by
  have key : ∀ (M : Fin 64) (j : Fin 6), ¬ M.val.testBit j.val = true → M.val ||| 2 ^ j.val = M.val + 2 ^ j.val := by decide +kernel
  exact key ⟨M, hM⟩ ⟨j, hj⟩ h
theorem adlt_ {n M j : Nat} (hn : n ≤ 6) (hM : M < 2 ^ n) (hj : j < n) (h : ¬ M.testBit j = true) : M + 2 ^ j < 2 ^ n := by
  have key : ∀ (n : Fin 7) (M : Fin 64) (j : Fin 6), M.val < 2 ^ n.val → j.val < n.val → ¬ M.val.testBit j.val = true → M.val + 2 ^ j.val < 2 ^ n.val := by decide +kernel
  have h64 := p2le hn
  exact key ⟨n, by omega⟩ ⟨M, by omega⟩ ⟨j, by omega⟩ hM hj h
def TR_ (d σ : Nat → Nat) (pl n : Nat) (M0 : Nat) (R : Nat → Int32) : Prop := ∀ M, M0 < M → M < 2 ^ n → ∀ k, k < n → R (6 * M + k) = nI (ro_ d σ pl n (2 ^ n - 1 - M + 1) (2 ^ n - 1 - M) (σ k))
theorem bestStep_ {A : Nat → Int32} {d σ : Nat → Nat} (hA : ∀ k, k < 144 → A k = nI (d k)) (hd : ∀ k, k < 144 → d k ≤ 1000000) {n : Nat} (hn : n ≤ 6) {stop R : Nat → Int32} (hs : ∀ i, i < n → σ i < 12 ∧ stop i = nI (σ i)) {pl M x : Nat} (hpl : pl < 12) (hM : M < 2 ^ n) (h0 : M ≠ 2 ^ n - 1) (hx : x < 12) (hT : TR_ d σ pl n M R) : fn_X10_bestStep A stop R (nI x) (nI M) (nI n) = some (nI (ro_ d σ pl n (2 ^ n - 1 - M + 1) (2 ^ n - 1 - M) x)) := by
  have h64 := p2le hn
  unfold fn_X10_bestStep
  rw [ro_eq hn (by omega) (by omega)]
  refine (lg2_ n (fun m y (acc : Nat) => fn_X10_bestStep_l7 A stop R (nI x) (nI M) (nI n) (fun v4 => some v4) m (nI acc) y) (fun acc => some (nI acc)) (fun i acc => if (2 ^ n - 1 - M).testBit i = true then (if rb_ d σ pl n (2 ^ n - 1 - M) x i < acc then rb_ d σ pl n (2 ^ n - 1 - M) x i else acc) else acc) (fun _ acc => acc ≤ 1000000) ?_ ?_ n 0 fu_ 1000000 (Nat.zero_add _) (fu_lt (by omega)) (Nat.le_refl _)).1
  · intro m i acc hi ha
    obtain ⟨s1, s2⟩ := hs i hi
    refine ⟨?_, by (repeat' split) <;> omega⟩
    show fn_X10_bestStep_b7 A stop R (nI x) (nI M) (nI n) (fn_X10_bestStep_l7 A stop R (nI x) (nI M) (nI n) (fun v4 => some v4) m) (fun v4 => some v4) (nI acc) (nI i) = fn_X10_bestStep_l7 A stop R (nI x) (nI M) (nI n) (fun v4 => some v4) m (nI (if (2 ^ n - 1 - M).testBit i = true then (if rb_ d σ pl n (2 ^ n - 1 - M) x i < acc then rb_ d σ pl n (2 ^ n - 1 - M) x i else acc) else acc)) (nI (i + 1))
    unfold fn_X10_bestStep_b7 fn_X10_at
    rw [if_neg (nI_ge hi (by omega)), nI_1]
    by_cases eb : M.testBit i = true
    · rw [if_neg (fun q => (bts0_ (by omega) (by omega)).mp q eb), if_neg (fun q => (cmpl_ hn hM hi).mp q eb)]
    · have hb := (cmpl_ hn hM hi).mpr eb
      have hlt := adlt_ hn hM hi eb
      have hp := p2pos i
      have k1 := hd (12 * x + σ i) (by omega)
      have k2 := ro_le (σ := σ) hd hpl (n := n) (2 ^ n - 1 - M - 2 ^ i + 1) (2 ^ n - 1 - M - 2 ^ i) (σ i) s1
      have k3 : rb_ d σ pl n (2 ^ n - 1 - M) x i ≤ 2000000 := by unfold rb_; omega
      have k4 := hT (M + 2 ^ i) (by omega) hlt i hi
      rw [show 2 ^ n - 1 - (M + 2 ^ i) = 2 ^ n - 1 - M - 2 ^ i by omega] at k4
      have kor : nI M ||| ((1 : Int32) <<< (nI i &&& 31)) = nI (M + 2 ^ i) := by rw [(or_b (show M < 64 by omega) (show i < 6 by omega)).1, orad_ (by omega) (by omega) eb]
      rw [if_pos ((bts0_ (by omega) (by omega)).mpr eb), if_pos hb, ckn_ (show i < 6 by omega) (by omega), nI_clamp (by omega), s2, b1_so, ix2_, ckn_ (show 12 * x + σ i < 144 by omega) (by omega), kor, ix6b_, ckn_ (show 6 * (M + 2 ^ i) + i < 384 by omega) (by omega), lx_so, nI_clamp (by omega), nI_clamp (by omega), hA _ (by omega), k4, nI_add]
      show (if nI acc ≤ nI (rb_ d σ pl n (2 ^ n - 1 - M) x i) then _ else fn_X10_bestStep_l7 A stop R (nI x) (nI M) (nI n) (fun v4 => some v4) m (nI (rb_ d σ pl n (2 ^ n - 1 - M) x i)) (nI (i + 1))) = _
      by_cases e2 : rb_ d σ pl n (2 ^ n - 1 - M) x i < acc
      · rw [if_neg (nI_ge e2 (by omega)), if_pos e2]
      · rw [if_pos (nI_le (by omega) (by omega)), if_neg e2]
  · intro m acc ha
    show fn_X10_bestStep_b7 A stop R (nI x) (nI M) (nI n) (fn_X10_bestStep_l7 A stop R (nI x) (nI M) (nI n) (fun v4 => some v4) m) (fun v4 => some v4) (nI acc) (nI n) = _
    unfold fn_X10_bestStep_b7
    rw [if_pos (Int32.le_refl _)]
theorem fr17_ {A : Nat → Int32} {d σ : Nat → Nat} (hA : ∀ k, k < 144 → A k = nI (d k)) (hd : ∀ k, k < 144 → d k ≤ 1000000) {n : Nat} (hn : n ≤ 6) {stop R : Nat → Int32} (hs : ∀ i, i < n → σ i < 12 ∧ stop i = nI (σ i)) {pl M : Nat} (hpl : pl < 12) (hM : M < 2 ^ n) (hT : TR_ d σ pl n M R) (k : (Nat → Int32) → Option (Nat → Int32)) : ∃ R', fn_X10_findRests_l17 A stop (nI pl) (nI n) (nI (2 ^ n - 1)) (nI M) k fu_ 0 R = k R' ∧ ∀ M', M ≤ M' → M' < 2 ^ n → ∀ k, k < n → R' (6 * M' + k) = nI (ro_ d σ pl n (2 ^ n - 1 - M' + 1) (2 ^ n - 1 - M') (σ k)) := by
  have h64 := p2le hn
  obtain ⟨R', e1, e2, e3⟩ := lp_ n (fun m y (R : Nat → Int32) => fn_X10_findRests_l17 A stop (nI pl) (nI n) (nI (2 ^ n - 1)) (nI M) k m y R) k (fun i R => TR_ d σ pl n M R ∧ ∀ j, j < i → R (6 * M + j) = nI (ro_ d σ pl n (2 ^ n - 1 - M + 1) (2 ^ n - 1 - M) (σ j))) (by
    intro m i R hi hI
    obtain ⟨s1, s2⟩ := hs i hi
    obtain ⟨i1, i2⟩ := hI
    show ∃ st', fn_X10_findRests_b17 A stop (nI pl) (nI n) (nI (2 ^ n - 1)) (nI M) (fn_X10_findRests_l17 A stop (nI pl) (nI n) (nI (2 ^ n - 1)) (nI M) k m) k (nI i) R = fn_X10_findRests_l17 A stop (nI pl) (nI n) (nI (2 ^ n - 1)) (nI M) k m (nI (i + 1)) st' ∧ _
    unfold fn_X10_findRests_b17 fn_X10_at
    have fin : ∀ v : Int32, v = nI (ro_ d σ pl n (2 ^ n - 1 - M + 1) (2 ^ n - 1 - M) (σ i)) → (TR_ d σ pl n M (upd R (6 * M + i) v) ∧ ∀ j, j < i + 1 → upd R (6 * M + i) v (6 * M + j) = nI (ro_ d σ pl n (2 ^ n - 1 - M + 1) (2 ^ n - 1 - M) (σ j))) := by
      intro v hv
      refine ⟨fun M' h1 h2 j hj => ?_, fun j hj => ?_⟩
      · rw [up_ne (by omega)]; exact i1 M' h1 h2 j hj
      · by_cases ej : j = i
        · subst ej; rw [up_eq, hv]
        · rw [up_ne (by omega)]; exact i2 j (by omega)
    rw [if_neg (nI_ge hi (by omega)), ckn_ (show i < 6 by omega) (by omega), nI_clamp (by omega), s2, nI_1, ix6b_]
    by_cases e : M = 2 ^ n - 1
    · rw [if_pos (by rw [e]), b1_so, ix2_, ckn_ (show 12 * σ i + pl < 144 by omega) (by omega), ckn_ (show 6 * M + i < 384 by omega) (by omega), lx_so, nI_clamp (by omega), nI_clamp (by omega), hA _ (by omega)]
      refine ⟨_, rfl, fin _ ?_⟩
      rw [show 2 ^ n - 1 - M = 0 by omega]
      rfl
    · rw [if_neg (ne_nI (by omega) (by omega) e), ckn_ (show i < 6 by omega) (by omega), bestStep_ hA hd hn hs hpl hM e s1 i1, b1_so, ckn_ (show 6 * M + i < 384 by omega) (by omega), lx_so, nI_clamp (by omega)]
      exact ⟨_, rfl, fin _ rfl⟩) (by
    intro m R hI
    show fn_X10_findRests_b17 A stop (nI pl) (nI n) (nI (2 ^ n - 1)) (nI M) (fn_X10_findRests_l17 A stop (nI pl) (nI n) (nI (2 ^ n - 1)) (nI M) k m) k (nI n) R = _
    unfold fn_X10_findRests_b17
    rw [if_pos (Int32.le_refl _)]) n 0 fu_ R (Nat.zero_add _) (fu_lt (by omega)) ⟨hT, fun j hj => absurd hj (by omega)⟩
  refine ⟨R', e1, fun M' h1 h2 j hj => ?_⟩
  by_cases ec : M' = M
  · subst ec; exact e3 j hj
  · exact e2 M' (by omega) h2 j hj
theorem fr9_ {A : Nat → Int32} {d σ : Nat → Nat} (hA : ∀ k, k < 144 → A k = nI (d k)) (hd : ∀ k, k < 144 → d k ≤ 1000000) {n : Nat} (hn : n ≤ 6) {stop : Nat → Int32} (hs : ∀ i, i < n → σ i < 12 ∧ stop i = nI (σ i)) {pl : Nat} (hpl : pl < 12) (k : (Nat → Int32) → Option (Nat → Int32)) : ∀ (M m : Nat) (R : Nat → Int32), M < 2 ^ n → M < m → TR_ d σ pl n M R → ∃ R', fn_X10_findRests_l9 A stop (nI pl) (nI n) (nI (2 ^ n - 1)) k m (nI M) R = k R' ∧ TR_ d σ pl n 0 R'
  | 0, 0, R, h1, h2, h3 => absurd h2 (by omega)
  | 0, m + 1, R, h1, h2, h3 => by
    refine ⟨R, ?_, h3⟩
    show fn_X10_findRests_b9 A stop (nI pl) (nI n) (nI (2 ^ n - 1)) _ k (nI 0) R = _
    unfold fn_X10_findRests_b9
    rw [if_pos (show nI 0 ≤ 0 by decide)]
  | M + 1, 0, R, h1, h2, h3 => absurd h2 (by omega)
  | M + 1, m + 1, R, h1, h2, h3 => by
    have h64 := p2le hn
    show ∃ R', fn_X10_findRests_b9 A stop (nI pl) (nI n) (nI (2 ^ n - 1)) (fn_X10_findRests_l9 A stop (nI pl) (nI n) (nI (2 ^ n - 1)) k m) k (nI (M + 1)) R = k R' ∧ _
    unfold fn_X10_findRests_b9
    rw [if_neg (nI_nle (by omega) (by omega)), pk_m1]
    obtain ⟨R1, e1, e2⟩ := fr17_ hA hd hn hs hpl h1 h3 (fun v8 => fn_X10_findRests_l9 A stop (nI pl) (nI n) (nI (2 ^ n - 1)) k m (nI M) v8)
    rw [e1]
    exact fr9_ hA hd hn hs hpl k M m R1 (by omega) (by omega) (fun M' q1 q2 j hj => e2 M' (by omega) q2 j hj)
theorem findRests_ {A : Nat → Int32} {d σ : Nat → Nat} (hA : ∀ k, k < 144 → A k = nI (d k)) (hd : ∀ k, k < 144 → d k ≤ 1000000) {n : Nat} (hn : n ≤ 6) {stop : Nat → Int32} (hs : ∀ i, i < n → σ i < 12 ∧ stop i = nI (σ i)) {pl : Nat} (hpl : pl < 12) (R : Nat → Int32) : ∃ R', fn_X10_findRests A stop R (nI pl) (nI n) = some R' ∧ TR_ d σ pl n 0 R' := by
  have h64 := p2le hn
  have hp := p2pos n
  unfold fn_X10_findRests
  rw [sh1_ (by omega), lx_so, show nI (2 ^ n) - 1 = nI (2 ^ n - 1) from pk_sub (b := 1) (by omega)]
  exact fr9_ hA hd hn hs hpl (fun v9 => some v9) (2 ^ n - 1) fu_ R (by omega) (fu_lt (by omega)) (fun M q1 q2 => absurd q2 (by omega))
/-! the first of them -/
def ffq_ (P : Nat → Bool) (f : Nat → Int32) : Nat → Int32 → Int32
  | 0, z => z
  | i + 1, z => ffq_ P f i (if P i = true then f i else z)
theorem am1_ (x : Int32) : x + (-1) = x - 1 := by grind
theorem down_ {α : Type} (n : Nat) (hn : n ≤ 6) (L : Nat → Int32 → Int32 → Option α) (P : Nat → Bool) (f : Nat → Int32) (k : Int32 → Option α) (hs : ∀ m i z, i < n → L (m + 1) (nI i) z = L m (nI i - 1) (if P i = true then f i else z)) (he : ∀ m z, L (m + 1) (-1) z = k z) : ∀ (i m : Nat) (z : Int32), i ≤ n → i < m → L m (nI i - 1) z = k (ffq_ P f i z)
  | 0, 0, z, h1, h2 => absurd h2 (by omega)
  | 0, m + 1, z, h1, h2 => he m z
  | i + 1, 0, z, h1, h2 => absurd h2 (by omega)
  | i + 1, m + 1, z, h1, h2 => by
    rw [nI_pred, hs m i z (by omega)]
    exact down_ n hn L P f k hs he i m _ (by omega) (by omega)
theorem ds_diag {s w : Nat → Nat} {F : Nat} {p : Nat} (hp : p < 12) : ds_ s w F (12 * p + p) = 0 := by
  have key : ∀ n, fwn_ (fw0_ s w F) n (12 * p + p) = 0 := by
    intro n
    induction n with
    | zero =>
      show fw0_ s w F (12 * p + p) = 0
      unfold fw0_
      rw [if_pos (by omega)]
    | succ n ih =>
      show fw1_ (fwn_ (fw0_ s w F) n) n (12 * p + p) = 0
      unfold fw1_
      rw [ih]
      split <;> omega
  exact key 12
