/-! ===== ways, step by step ===== -/
theorem fwn_dec {d : Nat → Nat} : ∀ n m k, fwn_ d (n + m) k ≤ fwn_ d n k
  | n, 0, k => Nat.le_refl _
  | n, m + 1, k => by
    have ih := fwn_dec (d := d) n m k
    show fw1_ (fwn_ d (n + m)) (n + m) k ≤ fwn_ d n k
    unfold fw1_
    split <;> omega
theorem fwn_diag {d : Nat → Nat} (h0 : ∀ p, p < 12 → d (12 * p + p) = 0) {p : Nat} (hp : p < 12) (n : Nat) : fwn_ d n (12 * p + p) = 0 := by
  have := fwn_dec (d := d) 0 n (12 * p + p)
  rw [Nat.zero_add] at this
  have h := h0 p hp
  show fwn_ d n (12 * p + p) = 0
  have h3 : fwn_ d 0 (12 * p + p) = d (12 * p + p) := rfl
  omega
theorem tri_ {d : Nat → Nat} : ∀ n, n ≤ 12 → ∀ k p q, k < n → p < 12 → q < 12 → fwn_ d n (12 * p + q) ≤ fwn_ d n (12 * p + k) + fwn_ d n (12 * k + q)
  | 0, _, k, p, q, hk, hp, hq => absurd hk (by omega)
  | n + 1, hn, k, p, q, hk, hp, hq => by
    have hm : n < 12 := by omega
    show fw1_ (fwn_ d n) n (12 * p + q) ≤ fw1_ (fwn_ d n) n (12 * p + k) + fw1_ (fwn_ d n) n (12 * k + q)
    by_cases e : k = n
    · subst e
      rw [fw1_c hm hp, fw1_r hm hq, fw1_e hp hq]
      split <;> omega
    · have hk2 : k < 12 := by omega
      have i1 := tri_ (d := d) n (by omega) k p q (by omega) hp hq
      have i2 := tri_ (d := d) n (by omega) k p n (by omega) hp hm
      have i3 := tri_ (d := d) n (by omega) k n q (by omega) hm hq
      rw [fw1_e hp hq, fw1_e hp hk2, fw1_e hk2 hq]
      (repeat' split) <;> omega
theorem fw0_diag {s w : Nat → Nat} {F p : Nat} (hp : p < 12) : fw0_ s w F (12 * p + p) = 0 := by
  unfold fw0_; rw [if_pos (by omega)]
theorem ds_tri {s w : Nat → Nat} {F p k q : Nat} (hp : p < 12) (hk : k < 12) (hq : q < 12) : ds_ s w F (12 * p + q) ≤ ds_ s w F (12 * p + k) + ds_ s w F (12 * k + q) := tri_ 12 (Nat.le_refl _) k p q hk hp hq
theorem ds_edge {s w : Nat → Nat} {F p r q : Nat} (hp : p < 12) (hr : r < 12) (hq : q < 12) (hs : s (12 * p + r) ≠ 0) : ds_ s w F (12 * p + q) ≤ co_ s w F (12 * p + r) + ds_ s w F (12 * r + q) := by
  have h1 := ds_tri (s := s) (w := w) (F := F) hp hr hq
  have h2 := fwn_dec (d := fw0_ s w F) 0 12 (12 * p + r)
  rw [Nat.zero_add] at h2
  have h3 : fwn_ (fw0_ s w F) 0 (12 * p + r) ≤ co_ s w F (12 * p + r) := by
    show fw0_ s w F (12 * p + r) ≤ _
    unfold fw0_
    rw [if_neg hs]
    split
    · exact Nat.zero_le _
    · exact Nat.le_refl _
  have h4 : ds_ s w F (12 * p + r) = fwn_ (fw0_ s w F) 12 (12 * p + r) := rfl
  omega
theorem ds_first {s w : Nat → Nat} {F : Nat} : ∀ n, n ≤ 12 → ∀ p q, p < 12 → q < 12 → p ≠ q → fwn_ (fw0_ s w F) n (12 * p + q) < 1000000 → ∃ r, r < 12 ∧ s (12 * p + r) ≠ 0 ∧ co_ s w F (12 * p + r) + ds_ s w F (12 * r + q) ≤ fwn_ (fw0_ s w F) n (12 * p + q)
  | 0, _, p, q, hp, hq, hpq, hl => by
    have h0 : fwn_ (fw0_ s w F) 0 (12 * p + q) = fw0_ s w F (12 * p + q) := rfl
    rw [h0] at hl ⊢
    unfold fw0_ at hl ⊢
    rw [if_neg (by omega)] at hl ⊢
    by_cases e : s (12 * p + q) = 0
    · rw [if_pos e] at hl; omega
    · rw [if_neg e]
      refine ⟨q, hq, e, ?_⟩
      rw [ds_diag hq]
      exact Nat.le_refl _
  | n + 1, hn, p, q, hp, hq, hpq, hl => by
    have hm : n < 12 := by omega
    have hs : fwn_ (fw0_ s w F) (n + 1) (12 * p + q) = fw1_ (fwn_ (fw0_ s w F) n) n (12 * p + q) := rfl
    rw [hs, fw1_e hp hq] at hl ⊢
    by_cases e : fwn_ (fw0_ s w F) n (12 * p + n) + fwn_ (fw0_ s w F) n (12 * n + q) < fwn_ (fw0_ s w F) n (12 * p + q)
    · rw [if_pos e] at hl ⊢
      have hpm : p ≠ n := by intro h; subst h; omega
      obtain ⟨r, r1, r2, r3⟩ := ds_first (s := s) (w := w) (F := F) n (by omega) p n hp hm hpm (by omega)
      refine ⟨r, r1, r2, ?_⟩
      have t := ds_tri (s := s) (w := w) (F := F) r1 hm hq
      have t2 := fwn_dec (d := fw0_ s w F) n (12 - n) (12 * n + q)
      rw [show n + (12 - n) = 12 by omega] at t2
      have h4 : ds_ s w F (12 * n + q) = fwn_ (fw0_ s w F) 12 (12 * n + q) := rfl
      omega
    · rw [if_neg e] at hl ⊢
      exact ds_first n (by omega) p q hp hq hpq hl
theorem fs_some {P : Nat → Bool} : ∀ (d i j : Nat), i ≤ j → j < i + d → P j = true → ∃ r, i ≤ r ∧ r < i + d ∧ P r = true ∧ fs_ P nI (-6) d i = nI r
  | 0, i, j, h1, h2, h3 => absurd h2 (by omega)
  | d + 1, i, j, h1, h2, h3 => by
    show ∃ r, i ≤ r ∧ r < i + (d + 1) ∧ P r = true ∧ (if P i = true then nI i else fs_ P nI (-6) d (i + 1)) = nI r
    by_cases e : P i = true
    · rw [if_pos e]; exact ⟨i, by omega, by omega, e, rfl⟩
    · rw [if_neg e]
      have hij : i ≠ j := by intro h; subst h; exact e h3
      obtain ⟨r, r1, r2, r3, r4⟩ := fs_some d (i + 1) j (by omega) (by omega) h3
      exact ⟨r, by omega, by omega, r3, r4⟩
/-- the first place of a way, where there is one -/
theorem fpl_some {s w : Nat → Nat} (hs : ∀ k, k < 144 → s k ≤ 99 ∧ w k ≤ 1) {F : Nat} (hF : F ≤ 1) {p q : Nat} (hp : p < 12) (hq : q < 12) (hpq : p ≠ q) (hl : ds_ s w F (12 * p + q) < 1000000) : ∃ r, r < 12 ∧ fpl_ s w F p q = nI r ∧ s (12 * p + r) ≠ 0 ∧ ds_ s w F (12 * r + q) < ds_ s w F (12 * p + q) := by
  obtain ⟨r, r1, r2, r3⟩ := ds_first (s := s) (w := w) (F := F) 12 (Nat.le_refl _) p q hp hq hpq hl
  have hd : ds_ s w F (12 * p + q) = fwn_ (fw0_ s w F) 12 (12 * p + q) := rfl
  have he := ds_edge (w := w) (F := F) hp r1 hq r2
  have hP : fpP_ s w F p q r = true := by
    unfold fpP_ pk0_
    rw [if_neg r2]
    exact decide_eq_true (by omega)
  obtain ⟨r', t1, t2, t3, t4⟩ := fs_some (P := fpP_ s w F p q) 12 0 r (by omega) (by omega) hP
  have hr' : r' < 12 := by omega
  have h3 := of_decide_eq_true t3
  have hs' : s (12 * p + r') ≠ 0 := by
    intro e
    unfold pk0_ at h3
    rw [if_pos e] at h3
    omega
  unfold pk0_ at h3
  rw [if_neg hs'] at h3
  have hc := co_pos (w := w) (F := F) hs'
  refine ⟨r', hr', ?_, hs', by omega⟩
  unfold fpl_
  rw [if_neg (show ¬ (p = q ∨ 1000000 ≤ ds_ s w F (12 * p + q)) by omega), t4]
def nuq_ (d : Nat → Nat) (q p : Nat) : Nat := cnq_ (fun x => decide (d (12 * x + q) < d (12 * p + q))) 12
theorem nu_lt {d : Nat → Nat} {q p r : Nat} (hr : r < 12) (h : d (12 * r + q) < d (12 * p + q)) : nuq_ d q r < nuq_ d q p := by
  refine cnq_lt (k0 := r) (decide_eq_true h) (by rw [decide_eq_false (Nat.lt_irrefl _)]; decide) 12 hr (fun k hk hv => ?_)
  have := of_decide_eq_true hv
  exact decide_eq_true (by omega)
theorem nu_le {d : Nat → Nat} {q p : Nat} (hp : p < 12) : nuq_ d q p ≤ 11 := by
  have h1 := cnq_lt (V := fun _ => true) (V' := fun x => decide (d (12 * x + q) < d (12 * p + q))) (k0 := p) rfl (by rw [decide_eq_false (Nat.lt_irrefl _)]; decide) 12 hp (fun _ _ _ => rfl)
  have h2 := cnq_le (fun _ => true) 12
  show cnq_ _ 12 ≤ 11
  omega
theorem path_l {codes steps wet P L N A : Nat → Int32} {s w : Nat → Nat} (h1 : pl_ codes steps wet s w) {F : Nat} (hF : F ≤ 1) (hw : wy_ P L N s w F) (hA : ∀ k, k < 144 → A k = nI (ds_ s w F k)) {home2 : Nat → Int32} {j q : Nat} (hj : j < 6) (hq : q < 12) (hh : home2 j = nI q) (t : Int32) : ∀ (n p c : Nat) (e : Nat → Nat) (a1 a2 : Nat → Int32), p < 12 → nuq_ (ds_ s w F) q p < n → c + nuq_ (ds_ s w F) q p ≤ 11 → ds_ s w F (12 * p + q) < 1000000 → (∀ i, i < c → a1 i = nI (e i) ∧ a2 i = nI (e i) ∧ 0 < e i ∧ e i ≤ 396) → ∃ (m : Nat) (e' : Nat → Nat) (a1' a2' : Nat → Int32), m ≤ 11 ∧ fn_X3_follow_l17 t P L (nI q) (fun v6 v7 => some (v6, t, v7)) n (nI p) (nI c) (nI c) a1 = some (nI m, t, a1') ∧ fn_X10_layWay_l9 (nI F) steps wet home2 A (nI j) (fun v7 v8 => some (v7, v8)) n (nI c) (nI p) a2 = some (nI m, a2') ∧ ∀ i, i < m → a1' i = nI (e' i) ∧ a2' i = nI (e' i) ∧ 0 < e' i ∧ e' i ≤ 396 := by
  intro n
  induction n with
  | zero => intro p c e a1 a2 hp q1; exact absurd q1 (Nat.not_lt_zero _)
  | succ n ih =>
    intro p c e a1 a2 hp q1 q2 q3 q4
    show ∃ (m : Nat) (e' : Nat → Nat) (a1' a2' : Nat → Int32), m ≤ 11 ∧ fn_X3_follow_b17 t P L (nI q) (fn_X3_follow_l17 t P L (nI q) (fun v6 v7 => some (v6, t, v7)) n) (fun v6 v7 => some (v6, t, v7)) (nI p) (nI c) (nI c) a1 = some (nI m, t, a1') ∧ fn_X10_layWay_b9 (nI F) steps wet home2 A (nI j) (fn_X10_layWay_l9 (nI F) steps wet home2 A (nI j) (fun v7 v8 => some (v7, v8)) n) (fun v7 v8 => some (v7, v8)) (nI c) (nI p) a2 = some (nI m, a2') ∧ _
    unfold fn_X3_follow_b17 fn_X10_layWay_b9
    rw [if_neg (show ¬ (12 : Int32) ≤ nI c from nI_ge (b := 12) (by omega) (by omega))]
    simp only [ckn_ hj (show 6 < 2 ^ 31 by omega), nI_clamp (show j < 2 ^ 31 by omega), hh]
    by_cases epq : p = q
    · rw [if_pos (by rw [epq]), if_pos (by rw [epq])]
      exact ⟨c, e, a1, a2, by omega, rfl, rfl, q4⟩
    · obtain ⟨r, r1, r2, r3, r4⟩ := fpl_some (pl_b h1) hF hp hq epq q3
      have hnu := nu_lt (p := p) r1 r4
      have hpe : pk0_ s w F (12 * p + r) = co_ s w F (12 * p + r) := by unfold pk0_; rw [if_neg r3]
      have hcp := co_pos (w := w) (F := F) r3
      have hcl := co_le (F := F) (pl_b h1 (12 * p + r) (by omega)).1 (pl_b h1 (12 * p + r) (by omega)).2 hF
      rw [if_neg (ne_nI (by omega) (by omega) epq), if_neg (ne_nI (by omega) (by omega) epq), firstPlace1_ h1 hF hw hp hq, b1_so, firstPlace2_ h1 hF hA hp hq q3, b1_so, r2, if_neg (n6_ne (by omega)), plankCosts_ hp r1, b1_so, cost_ h1 hp r1, b1_so, if_neg r3, show P (12 * p + r) = nI (co_ s w F (12 * p + r)) from ((hw.1 _ (by omega)).1).trans (congrArg nI hpe), ckn_ (show c < 12 by omega) (by omega), ckn_ (show c < 12 by omega) (by omega), nI_clamp (by omega), lx_so, lx_so, nI_1]
      refine ih r (c + 1) (upn_ e c (co_ s w F (12 * p + r))) _ _ r1 (by omega) (by omega) (by omega) (fun i hi => ?_)
      unfold upn_
      rw [up_nI, up_nI]
      by_cases ei : i = c
      · rw [if_pos ei, if_pos ei, if_pos ei]; exact ⟨rfl, rfl, hcp, hcl⟩
      · rw [if_neg ei, if_neg ei, if_neg ei]; exact q4 i (by omega)
