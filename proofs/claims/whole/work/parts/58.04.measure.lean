/-! ===== the class's ways ===== -/
def pk0_ (s w : Nat → Nat) (F k : Nat) : Nat := if s k = 0 then 1000000 else co_ s w F k
theorem nb_lt (s : Nat → Nat) (p : Nat) : ∀ n, nb_ s p n < 2 ^ n
  | 0 => by show 0 < 1; omega
  | n + 1 => by
    have h := nb_lt s p n
    show nb_ s p n + (if s (12 * p + n) = 0 then 0 else 2 ^ n) < 2 ^ (n + 1)
    rw [Nat.pow_succ]
    split <;> omega
theorem j76_ {P L N : Nat → Int32} {i j : Nat} (hi : i < 12) (hj : j < 12) (v : Int32) (rc : Int32 → (Nat → Int32) → (Nat → Int32) → (Nat → Int32) → Option ((Nat → Int32) × (Nat → Int32) × (Nat → Int32))) (k : (Nat → Int32) → (Nat → Int32) → (Nat → Int32) → Option ((Nat → Int32) × (Nat → Int32) × (Nat → Int32))) : fn_X8_measure_j76 P L N (nI i) (nI j) (nI i * 12 + nI j) v rc k = rc (nI (j + 1)) (upd P (12 * i + j) v) (upd L (12 * i + j) (if i = j then 0 else v)) N := by
  unfold fn_X8_measure_j76
  simp (disch := omega) only [b1_so, b2_so, b3_so, b4_so, lx_so, ckn_, nI_clamp, ix1_, ix2_, nI_1]
  by_cases e : i = j
  · rw [if_pos (by rw [e]), if_pos e]
  · rw [if_neg (ne_nI (by omega) (by omega) e), if_neg e, up_nI, if_pos rfl]
theorem j53_ {P L N : Nat → Int32} {i j c : Nat} (hi : i < 12) (hj : j < 12) (hc : c < 2 ^ 31) (rc : Int32 → (Nat → Int32) → (Nat → Int32) → (Nat → Int32) → Option ((Nat → Int32) × (Nat → Int32) × (Nat → Int32))) (k : (Nat → Int32) → (Nat → Int32) → (Nat → Int32) → Option ((Nat → Int32) × (Nat → Int32) × (Nat → Int32))) : fn_X8_measure_j53 P L N (nI i) (nI j) (nI c) rc k = rc (nI (j + 1)) (upd P (12 * i + j) (nI (if c = 0 then 1000000 else c))) (upd L (12 * i + j) (if i = j then 0 else (nI (if c = 0 then 1000000 else c)))) N := by
  unfold fn_X8_measure_j53
  by_cases e : c = 0
  · rw [if_pos (by rw [e]; rfl), j76_ hi hj, if_pos e]; rfl
  · rw [if_neg (nI_ne0 (by omega) hc), j76_ hi hj, if_neg e]
def msq_ (s w : Nat → Nat) (F i j : Nat) (st : (Nat → Int32) × (Nat → Int32) × (Nat → Int32)) : Prop := (∀ k, k < 12 * i + j → st.1 k = nI (pk0_ s w F k) ∧ st.2.1 k = nI (fw0_ s w F k)) ∧ (∀ p, p < i → st.2.2 p = nI (nb_ s p 12)) ∧ st.2.2 i = nI (nb_ s i j)
theorem ms18_ {codes steps wet : Nat → Int32} {s w : Nat → Nat} (h1 : pl_ codes steps wet s w) {F : Nat} (hF : F ≤ 1) {i : Nat} (hi : i < 12) (k : (Nat → Int32) → (Nat → Int32) → (Nat → Int32) → Option ((Nat → Int32) × (Nat → Int32) × (Nat → Int32))) {P L N : Nat → Int32} (h0 : msq_ s w F i 0 (P, L, N)) : ∃ st : (Nat → Int32) × (Nat → Int32) × (Nat → Int32), fn_X8_measure_l18 codes (nI F) (nI i) k fu_ 0 P L N = k st.1 st.2.1 st.2.2 ∧ msq_ s w F i 12 st := by
  refine lp_ 12 (fun n x (st : (Nat → Int32) × (Nat → Int32) × (Nat → Int32)) => fn_X8_measure_l18 codes (nI F) (nI i) k n x st.1 st.2.1 st.2.2) (fun st => k st.1 st.2.1 st.2.2) (fun j st => msq_ s w F i j st) ?_ ?_ 12 0 fu_ (P, L, N) rfl (fu_lt (by omega)) h0
  · intro n j st hj hI
    obtain ⟨P, L, N⟩ := st
    obtain ⟨i1, i2, i3⟩ := hI
    dsimp only at i1 i2 i3
    show ∃ st' : (Nat → Int32) × (Nat → Int32) × (Nat → Int32), fn_X8_measure_b18 codes (nI F) (nI i) (fn_X8_measure_l18 codes (nI F) (nI i) k n) k (nI j) P L N = fn_X8_measure_l18 codes (nI F) (nI i) k n (nI (j + 1)) st'.1 st'.2.1 st'.2.2 ∧ _
    unfold fn_X8_measure_b18
    obtain ⟨a1, a2, -⟩ := h1 (12 * i + j) (by omega)
    have hc := co_le (F := F) a1 a2 hF
    rw [if_neg (show ¬ (12 : Int32) ≤ nI j from nI_ge (b := 12) hj (by omega)), costs_ h1 hF hi hj, b1_so]
    have hpt : ∀ q, q < 12 * i + (j + 1) → upd P (12 * i + j) (nI (if co_ s w F (12 * i + j) = 0 then 1000000 else co_ s w F (12 * i + j))) q = nI (pk0_ s w F q) ∧ upd L (12 * i + j) (if i = j then 0 else (nI (if co_ s w F (12 * i + j) = 0 then 1000000 else co_ s w F (12 * i + j)))) q = nI (fw0_ s w F q) := by
      intro q hq
      rw [up_nI, up_nI]
      by_cases e : q = 12 * i + j
      · have hce : (if co_ s w F (12 * i + j) = 0 then 1000000 else co_ s w F (12 * i + j)) = pk0_ s w F (12 * i + j) := by
          unfold pk0_
          by_cases e2 : s (12 * i + j) = 0
          · rw [if_pos (co_0 e2), if_pos e2]
          · rw [if_neg (by have := co_pos (w := w) (F := F) e2; omega), if_neg e2]
        rw [if_pos e, if_pos e, hce, e]
        refine ⟨rfl, ?_⟩
        unfold fw0_
        rw [show (12 * i + j) / 12 = i by omega, show (12 * i + j) % 12 = j by omega]
        by_cases e3 : i = j
        · rw [if_pos e3, if_pos e3]; rfl
        · rw [if_neg e3, if_neg e3]; rfl
      · rw [if_neg e, if_neg e]
        exact i1 q (by omega)
    by_cases e : s (12 * i + j) = 0
    · rw [if_pos (show nI (co_ s w F (12 * i + j)) = 0 by rw [co_0 e]; rfl), j53_ hi hj (by omega)]
      refine ⟨(_, _, _), rfl, hpt, i2, ?_⟩
      show N i = nI (nb_ s i j + (if s (12 * i + j) = 0 then 0 else 2 ^ j))
      rw [i3, if_pos e]
      rfl
    · have e4 := co_pos (w := w) (F := F) e
      rw [if_neg (show ¬ nI (co_ s w F (12 * i + j)) = 0 from ne_nI (b := 0) (by omega) (by omega) (by omega))]
      simp (disch := omega) only [b1_so, b2_so, b3_so, b4_so, lx_so, ckn_, nI_clamp, ix1_, ix2_, nI_1, i3]
      rw [or1_ (by omega) (nb_lt s i j), j53_ hi hj (by omega)]
      refine ⟨(_, _, _), rfl, hpt, fun p hp => ?_, ?_⟩
      · show upd N i _ p = _
        rw [up_nI, if_neg (by omega)]
        exact i2 p hp
      · show upd N i _ i = nI (nb_ s i j + (if s (12 * i + j) = 0 then 0 else 2 ^ j))
        rw [up_nI, if_pos rfl, if_neg e]
  · intro n st hI
    show fn_X8_measure_b18 codes (nI F) (nI i) (fn_X8_measure_l18 codes (nI F) (nI i) k n) k (nI 12) st.1 st.2.1 st.2.2 = _
    unfold fn_X8_measure_b18
    rw [if_pos (show (12 : Int32) ≤ nI 12 by decide)]
def mt_ (s w : Nat → Nat) (F i : Nat) (st : (Nat → Int32) × (Nat → Int32) × (Nat → Int32)) : Prop := (∀ k, k < 12 * i → st.1 k = nI (pk0_ s w F k) ∧ st.2.1 k = nI (fw0_ s w F k)) ∧ (∀ p, p < i → st.2.2 p = nI (nb_ s p 12))
theorem ms2_ {codes steps wet : Nat → Int32} {s w : Nat → Nat} (h1 : pl_ codes steps wet s w) {F : Nat} (hF : F ≤ 1) (k : (Nat → Int32) → (Nat → Int32) → (Nat → Int32) → Option ((Nat → Int32) × (Nat → Int32) × (Nat → Int32))) (P L N : Nat → Int32) : ∃ st : (Nat → Int32) × (Nat → Int32) × (Nat → Int32), fn_X8_measure_l2 codes (nI F) k fu_ 0 P L N = k st.1 st.2.1 st.2.2 ∧ mt_ s w F 12 st := by
  refine lp_ 12 (fun n x (st : (Nat → Int32) × (Nat → Int32) × (Nat → Int32)) => fn_X8_measure_l2 codes (nI F) k n x st.1 st.2.1 st.2.2) (fun st => k st.1 st.2.1 st.2.2) (fun j st => mt_ s w F j st) ?_ ?_ 12 0 fu_ (P, L, N) rfl (fu_lt (by omega)) ⟨fun _ hk => absurd hk (by omega), fun _ hk => absurd hk (by omega)⟩
  · intro n i st hi hI
    obtain ⟨P, L, N⟩ := st
    obtain ⟨i1, i2⟩ := hI
    dsimp only at i1 i2
    show ∃ st' : (Nat → Int32) × (Nat → Int32) × (Nat → Int32), fn_X8_measure_b2 codes (nI F) (fn_X8_measure_l2 codes (nI F) k n) k (nI i) P L N = fn_X8_measure_l2 codes (nI F) k n (nI (i + 1)) st'.1 st'.2.1 st'.2.2 ∧ _
    unfold fn_X8_measure_b2
    rw [if_neg (show ¬ (12 : Int32) ≤ nI i from nI_ge (b := 12) hi (by omega))]
    simp (disch := omega) only [b1_so, b2_so, b3_so, b4_so, lx_so, ckn_, nI_clamp, ix1_, ix2_, nI_1]
    obtain ⟨st', e1, j1, j2, j3⟩ := ms18_ h1 hF hi (fun v8 v9 v10 => fn_X8_measure_l2 codes (nI F) k n (nI (i + 1)) v8 v9 v10) (P := P) (L := L) (N := upd N i 0) ⟨fun q hq => i1 q (by omega), fun p hp => by show upd N i 0 p = _; rw [up_nI, if_neg (by omega)]; exact i2 p hp, by show upd N i 0 i = _; rw [up_nI, if_pos rfl]; rfl⟩
    refine ⟨st', e1, fun q hq => j1 q (by omega), fun p hp => ?_⟩
    by_cases e : p = i
    · rw [e]; exact j3
    · exact j2 p (by omega)
  · intro n st hI
    show fn_X8_measure_b2 codes (nI F) (fn_X8_measure_l2 codes (nI F) k n) k (nI 12) st.1 st.2.1 st.2.2 = _
    unfold fn_X8_measure_b2
    rw [if_pos (show (12 : Int32) ≤ nI 12 by decide)]
theorem sb24_ {d : Nat → Nat} (hd : ∀ k, k < 144 → d k ≤ 1000000) {m p : Nat} (hm : m < 12) (hp : p < 12) (k : (Nat → Int32) → Option (Nat → Int32)) {A : Nat → Int32} (hA : st_ A d m (12 * p)) : ∃ A', fn_X8_shortenBy_l24 (nI m) (nI p) (nI (d (12 * p + m))) k fu_ 0 A = k A' ∧ st_ A' d m (12 * p + 12) := by
  refine lp_ 12 (fun n x st => fn_X8_shortenBy_l24 (nI m) (nI p) (nI (d (12 * p + m))) k n x st) k (fun q A => st_ A d m (12 * p + q)) ?_ ?_ 12 0 fu_ A rfl (fu_lt (by omega)) hA
  · intro n q A hq hA
    have c2 := st_r hA hm hq
    have c3 : A (12 * p + q) = nI (d (12 * p + q)) := by rw [hA _ (by omega), if_neg (by omega)]
    have b1 := hd (12 * p + m) (by omega)
    have b2 := hd (12 * m + q) (by omega)
    have b3 := hd (12 * p + q) (by omega)
    show ∃ st', fn_X8_shortenBy_b24 (nI m) (nI p) (nI (d (12 * p + m))) (fn_X8_shortenBy_l24 (nI m) (nI p) (nI (d (12 * p + m))) k n) k (nI q) A = fn_X8_shortenBy_l24 (nI m) (nI p) (nI (d (12 * p + m))) k n (nI (q + 1)) st' ∧ _
    unfold fn_X8_shortenBy_b24
    rw [if_neg (show ¬ (12 : Int32) ≤ nI q from nI_ge (b := 12) hq (by omega)), between_ hm hq, b1_so, between_ hp hq, b1_so]
    simp (disch := omega) only [b1_so, b2_so, b3_so, b4_so, lx_so, ckn_, nI_clamp, ix1_, ix2_, nI_1, c2, c3, nI_add]
    by_cases e : d (12 * p + q) ≤ d (12 * p + m) + d (12 * m + q)
    · rw [if_pos (nI_le e (by omega))]
      refine ⟨_, rfl, st_id hA ?_⟩
      show fw1_ d m (12 * p + q) = d (12 * p + q)
      rw [fw1_e hp hq, if_neg (by omega)]
    · rw [if_neg (nI_ge (show d (12 * p + m) + d (12 * m + q) < d (12 * p + q) by omega) (by omega))]
      refine ⟨_, rfl, st_up hA ?_⟩
      rw [fw1_e hp hq, if_pos (by omega)]
  · intro n A hA
    show fn_X8_shortenBy_b24 (nI m) (nI p) (nI (d (12 * p + m))) (fn_X8_shortenBy_l24 (nI m) (nI p) (nI (d (12 * p + m))) k n) k (nI 12) A = k A
    unfold fn_X8_shortenBy_b24
    rw [if_pos (show (12 : Int32) ≤ nI 12 by decide)]
theorem shortenBy_ {d : Nat → Nat} (hd : ∀ k, k < 144 → d k ≤ 1000000) {m : Nat} (hm : m < 12) {A : Nat → Int32} (hA : st_ A d m 0) : ∃ A', fn_X8_shortenBy A (nI m) = some A' ∧ st_ A' d m 144 := by
  unfold fn_X8_shortenBy
  refine lp_ 12 (fun n x st => fn_X8_shortenBy_l2 (nI m) (fun v9 => some v9) n x st) (fun v9 => some v9) (fun p A => st_ A d m (12 * p)) ?_ ?_ 12 0 fu_ A rfl (fu_lt (by omega)) hA
  · intro n p A hp hA
    show ∃ st', fn_X8_shortenBy_b2 (nI m) (fn_X8_shortenBy_l2 (nI m) (fun v9 => some v9) n) (fun v9 => some v9) (nI p) A = fn_X8_shortenBy_l2 (nI m) (fun v9 => some v9) n (nI (p + 1)) st' ∧ _
    unfold fn_X8_shortenBy_b2
    have c1 := st_c hA hm hp
    have b1 := hd (12 * p + m) (by omega)
    rw [if_neg (show ¬ (12 : Int32) ≤ nI p from nI_ge (b := 12) hp (by omega)), between_ hp hm, b1_so, nI_1, c1]
    by_cases e : d (12 * p + m) < 1000000
    · rw [if_neg (show ¬ (1000000 : Int32) ≤ nI (d (12 * p + m)) from nI_ge (b := 1000000) e (by omega))]
      exact sb24_ hd hm hp _ hA
    · rw [if_pos (show (1000000 : Int32) ≤ nI (d (12 * p + m)) from nI_le (a := 1000000) (by omega) (by omega))]
      refine ⟨A, rfl, fun q hq => ?_⟩
      rw [hA q hq]
      by_cases e1 : q < 12 * p
      · rw [if_pos e1, if_pos (by omega)]
      · rw [if_neg e1]
        by_cases e2 : q < 12 * (p + 1)
        · rw [if_pos e2]
          obtain ⟨r, hr, rfl⟩ : ∃ r, r < 12 ∧ q = 12 * p + r := ⟨q - 12 * p, by omega, by omega⟩
          have b3 := hd (12 * p + r) (by omega)
          rw [fw1_e hp hr, if_neg (by omega)]
        · rw [if_neg e2]
  · intro n A hA
    show fn_X8_shortenBy_b2 (nI m) (fn_X8_shortenBy_l2 (nI m) (fun v9 => some v9) n) (fun v9 => some v9) (nI 12) A = some A
    unfold fn_X8_shortenBy_b2
    rw [if_pos (show (12 : Int32) ≤ nI 12 by decide)]
theorem ms125_ {d : Nat → Nat} (hd : ∀ k, k < 144 → d k ≤ 1000000) (k : (Nat → Int32) → Option ((Nat → Int32) × (Nat → Int32) × (Nat → Int32))) {A : Nat → Int32} (hA : ∀ i, i < 144 → A i = nI (d i)) : ∃ A', fn_X8_measure_l125 k fu_ 0 A = k A' ∧ ∀ i, i < 144 → A' i = nI (fwn_ d 12 i) := by
  refine lp_ 12 (fun n x st => fn_X8_measure_l125 k n x st) k (fun m A => ∀ i, i < 144 → A i = nI (fwn_ d m i)) ?_ ?_ 12 0 fu_ A rfl (fu_lt (by omega)) hA
  · intro n m A hm hA
    show ∃ st', fn_X8_measure_b125 (fn_X8_measure_l125 k n) k (nI m) A = fn_X8_measure_l125 k n (nI (m + 1)) st' ∧ _
    unfold fn_X8_measure_b125
    obtain ⟨A', e1, e2⟩ := shortenBy_ (fwn_le hd m) hm (A := A) (fun i hi => by rw [if_neg (by omega)]; exact hA i hi)
    rw [if_neg (show ¬ (12 : Int32) ≤ nI m from nI_ge (b := 12) hm (by omega)), nI_1, e1, b1_so]
    refine ⟨A', rfl, fun i hi => ?_⟩
    rw [e2 i hi, if_pos hi]
    rfl
  · intro n A hA
    show fn_X8_measure_b125 (fn_X8_measure_l125 k n) k (nI 12) A = k A
    unfold fn_X8_measure_b125
    rw [if_pos (show (12 : Int32) ≤ nI 12 by decide)]
theorem measure_ {codes steps wet : Nat → Int32} {s w : Nat → Nat} (h1 : pl_ codes steps wet s w) {F : Nat} (hF : F ≤ 1) (P L N : Nat → Int32) : ∃ P' L' N', fn_X8_measure P L N codes (nI F) = some (P', L', N') ∧ wy_ P' L' N' s w F := by
  unfold fn_X8_measure
  obtain ⟨st, e1, i1, i2⟩ := ms2_ h1 hF (fun v11 v12 v13 => fn_X8_measure_l125 (fun v16 => some (v11, v16, v13)) fu_ 0 v12) P L N
  obtain ⟨A, e2, i3⟩ := ms125_ (fw0_le (pl_b h1) hF) (fun v16 => some (st.1, v16, st.2.2)) (fun i hi => (i1 i hi).2)
  exact ⟨st.1, A, st.2.2, e1.trans e2, fun k hk => ⟨(i1 k hk).1, i3 k hk⟩, i2⟩
/-- the ways as they are then, of both -/
theorem mw_ {m0 : Int32} {codes steps wet P L N : Nat → Int32} {s w : Nat → Nat} {F : Nat} (h1 : pl_ codes steps wet s w) (hF : F ≤ 1) (h12 : m0 = 0 ∨ (m0 = 1 ∧ wy_ P L N s w F)) (A : Nat → Int32) : ∃ P' L' N' A', fn_X9_measure m0 codes (nI F) P L N = some (1, P', L', N') ∧ fn_X10_findWays (nI F) steps wet A = some A' ∧ wy_ P' L' N' s w F ∧ ∀ k, k < 144 → A' k = nI (ds_ s w F k) := by
  obtain ⟨A', e1, i1⟩ := findWays_ h1 hF A
  unfold fn_X9_measure
  rcases h12 with e | ⟨e, hw⟩
  · obtain ⟨P', L', N', e2, i2⟩ := measure_ h1 hF P L N
    refine ⟨P', L', N', A', ?_, e1, i2, i1⟩
    rw [if_pos e, e2]
    rfl
  · refine ⟨P, L, N, A', ?_, e1, hw, i1⟩
    rw [if_neg (by rw [e]; decide), e]
