/-! ===== decides: the class ===== -/
theorem nxor_ (a b : Nat) : nI a ^^^ nI b = nI (a ^^^ b) := by
  apply Int32.toBitVec_inj.1
  show BitVec.ofNat 32 a ^^^ BitVec.ofNat 32 b = BitVec.ofNat 32 (a ^^^ b)
  apply BitVec.eq_of_getLsbD_eq
  intro i hi
  rw [BitVec.getLsbD_xor, BitVec.getLsbD_ofNat, BitVec.getLsbD_ofNat, BitVec.getLsbD_ofNat, Nat.testBit_xor, decide_eq_true hi, Bool.true_and, Bool.true_and, Bool.true_and]
theorem nand_ (a b : Nat) : nI a &&& nI b = nI (a &&& b) := by
  apply Int32.toBitVec_inj.1
  show BitVec.ofNat 32 a &&& BitVec.ofNat 32 b = BitVec.ofNat 32 (a &&& b)
  apply BitVec.eq_of_getLsbD_eq
  intro i hi
  rw [BitVec.getLsbD_and, BitVec.getLsbD_ofNat, BitVec.getLsbD_ofNat, BitVec.getLsbD_ofNat, Nat.testBit_and, decide_eq_true hi, Bool.true_and, Bool.true_and, Bool.true_and]
theorem nb_bit (s : Nat → Nat) (p i : Nat) : ∀ n, (nb_ s p n).testBit i = true ↔ i < n ∧ s (12 * p + i) ≠ 0
  | 0 => by
    show (0 : Nat).testBit i = true ↔ _
    rw [Nat.zero_testBit]
    exact ⟨fun h => absurd h (by decide), fun h => absurd h.1 (by omega)⟩
  | n + 1 => by
    have ih := nb_bit s p i n
    have hl := nb_lt s p n
    show (nb_ s p n + (if s (12 * p + n) = 0 then 0 else 2 ^ n)).testBit i = true ↔ _
    by_cases e : s (12 * p + n) = 0
    · rw [if_pos e, Nat.add_zero, ih]
      constructor
      · intro h; exact ⟨by omega, h.2⟩
      · intro h
        refine ⟨?_, h.2⟩
        rcases (show i < n ∨ i = n by omega) with q | q
        · exact q
        · subst q; exact absurd e h.2
    · rw [if_neg e, ← nor2_ hl, Nat.testBit_or, Bool.or_eq_true, ih, Nat.testBit_two_pow, decide_eq_true_iff]
      constructor
      · rintro (h | h)
        · exact ⟨by omega, h.2⟩
        · subst h; exact ⟨by omega, e⟩
      · intro h
        rcases (show i < n ∨ n = i by omega) with q | q
        · exact Or.inl ⟨q, h.2⟩
        · exact Or.inr q
theorem nb_4096 (s : Nat → Nat) (p : Nat) : nb_ s p 12 < 4096 := nb_lt s p 12
theorem bit12_ {S i : Nat} (hS : S < 4096) (h : S.testBit i = true) : i < 12 := by
  rcases Nat.lt_or_ge i 12 with q | q
  · exact q
  · have : S < 2 ^ i := Nat.lt_of_lt_of_le hS (Nat.pow_le_pow_right (n := 2) (by omega) q)
    rw [Nat.testBit_lt_two_pow this] at h
    exact absurd h (by decide)
def fqr_ (s : Nat → Nat) (p x S : Nat) : Nat := if x ≠ p ∧ S.testBit x = true then S ||| nb_ s x 12 else S
theorem fqr_lt {s : Nat → Nat} {p x S : Nat} (h : S < 4096) : fqr_ s p x S < 4096 := by
  unfold fqr_
  split
  · exact Nat.or_lt_two_pow (n := 12) h (nb_4096 s x)
  · exact h
theorem fqr_mono {s : Nat → Nat} {p i : Nat} : ∀ (d x S : Nat), S.testBit i = true → (fl_ (fqr_ s p) d x S).testBit i = true
  | 0, _, _, h => h
  | d + 1, x, S, h => by
    refine fqr_mono d (x + 1) (fqr_ s p x S) ?_
    unfold fqr_
    split
    · rw [Nat.testBit_or, h, Bool.true_or]
    · exact h
theorem fqr_cl {s : Nat → Nat} {p y z : Nat} (hz : z ≠ p) (hn : (nb_ s z 12).testBit y = true) : ∀ (d x S : Nat), S.testBit z = true → x ≤ z → z < x + d → (fl_ (fqr_ s p) d x S).testBit y = true
  | 0, x, S, h1, h2, h3 => absurd h3 (by omega)
  | d + 1, x, S, h1, h2, h3 => by
    show (fl_ (fqr_ s p) d (x + 1) (fqr_ s p x S)).testBit y = true
    by_cases e : x = z
    · refine fqr_mono d (x + 1) _ ?_
      subst e
      unfold fqr_
      rw [if_pos ⟨hz, h1⟩, Nat.testBit_or, hn, Bool.or_true]
    · refine fqr_cl hz hn d (x + 1) _ ?_ (by omega) (by omega)
      exact fqr_mono (s := s) (p := p) 1 x S h1
theorem fqr_sd {s : Nat → Nat} {p : Nat} {P : Nat → Prop} (hP : ∀ x y, x < 12 → x ≠ p → P x → (nb_ s x 12).testBit y = true → P y) : ∀ (d x S : Nat), x + d ≤ 12 → (∀ i, S.testBit i = true → P i) → ∀ i, (fl_ (fqr_ s p) d x S).testBit i = true → P i
  | 0, _, _, _, h => h
  | d + 1, x, S, hd, h => by
    refine fqr_sd hP d (x + 1) (fqr_ s p x S) (by omega) (fun i hi => ?_)
    unfold fqr_ at hi
    by_cases e : x ≠ p ∧ S.testBit x = true
    · rw [if_pos e, Nat.testBit_or, Bool.or_eq_true] at hi
      rcases hi with q | q
      · exact h i q
      · exact hP x i (by omega) e.1 (h x e.2) q
    · rw [if_neg e] at hi
      exact h i hi
def inq_ (s : Nat → Nat) (p S : Nat) : Nat := fl_ (fqr_ s p) 12 0 S
def woq_ (s : Nat → Nat) (p q : Nat) : Nat → Nat → Nat
  | 0, S => S
  | r + 1, S => if S.testBit q = true then S else if inq_ s p S = S then S else woq_ s p q r (inq_ s p S)
theorem reach41_ {N : Nat → Int32} {s : Nat → Nat} (hN : ∀ p, p < 12 → N p = nI (nb_ s p 12)) {p : Nat} (hp : p < 12) (k : Int32 → Option Int32) {S : Nat} (hS : S < 4096) : fn_X8_reachWithout_l41 N (nI p) k fu_ (nI S) 0 = k (nI (inq_ s p S)) ∧ inq_ s p S < 4096 := by
  refine lg2_ 12 (fun n x (S : Nat) => fn_X8_reachWithout_l41 N (nI p) k n (nI S) x) (fun S => k (nI S)) (fqr_ s p) (fun _ S => S < 4096) ?_ ?_ 12 0 fu_ S rfl (fu_lt (by omega)) hS
  · intro n x S hx hS
    refine ⟨?_, fqr_lt hS⟩
    show fn_X8_reachWithout_b41 N (nI p) (fn_X8_reachWithout_l41 N (nI p) k n) k (nI S) (nI x) = _
    unfold fn_X8_reachWithout_b41 fqr_
    rw [if_neg (show ¬ (12 : Int32) ≤ nI x from nI_ge (b := 12) hx (by omega)), isIn_ (by omega) (by omega), b1_so, ckn_ hx (by omega), nI_clamp (by omega), hN x hx, nor_, lx_so, nI_1]
    by_cases e1 : x = p
    · rw [if_pos (by rw [e1]), if_neg (fun q => q.1 e1)]
    · rw [if_neg (ne_nI (by omega) (by omega) e1)]
      by_cases e2 : S.testBit x = true
      · rw [if_pos e2, if_neg (by decide), if_pos ⟨e1, e2⟩]
      · rw [if_neg e2, if_pos rfl, if_neg (fun q => e2 q.2)]
  · intro n S _
    show fn_X8_reachWithout_b41 N (nI p) (fn_X8_reachWithout_l41 N (nI p) k n) k (nI S) (nI 12) = _
    unfold fn_X8_reachWithout_b41
    rw [if_pos (show (12 : Int32) ≤ nI 12 by decide)]
theorem reach20_ {N : Nat → Int32} {s : Nat → Nat} (hN : ∀ p, p < 12 → N p = nI (nb_ s p 12)) {p q : Nat} (hp : p < 12) (hq : q < 12) : ∀ (e i n S : Nat), i + e = 12 → e < n → S < 4096 → fn_X8_reachWithout_l20 N (nI p) (nI q) (fun v8 => some v8) n (nI S) (nI i) = some (nI (woq_ s p q e S))
  | 0, i, 0, S, h1, h2, h3 => absurd h2 (by omega)
  | 0, i, n + 1, S, h1, h2, h3 => by
    have e : i = 12 := by omega
    subst e
    show fn_X8_reachWithout_b20 N (nI p) (nI q) _ (fun v8 => some v8) (nI S) (nI 12) = some (nI S)
    unfold fn_X8_reachWithout_b20
    rw [if_pos (show (12 : Int32) ≤ nI 12 by decide)]
  | e + 1, i, 0, S, h1, h2, h3 => absurd h2 (by omega)
  | e + 1, i, n + 1, S, h1, h2, h3 => by
    show fn_X8_reachWithout_b20 N (nI p) (nI q) (fn_X8_reachWithout_l20 N (nI p) (nI q) (fun v8 => some v8) n) (fun v8 => some v8) (nI S) (nI i) = some (nI (if S.testBit q = true then S else if inq_ s p S = S then S else woq_ s p q e (inq_ s p S)))
    unfold fn_X8_reachWithout_b20
    obtain ⟨r1, r2⟩ := reach41_ hN hp (fun v7 => if v7 = nI S then some v7 else fn_X8_reachWithout_l20 N (nI p) (nI q) (fun v8 => some v8) n v7 (nI i + 1)) h3
    rw [if_neg (show ¬ (12 : Int32) ≤ nI i from nI_ge (b := 12) (by omega) (by omega)), isIn_ (by omega) (by omega), b1_so, r1, nI_1]
    by_cases e1 : S.testBit q = true
    · rw [if_pos e1, if_neg (by decide), if_pos e1]
    · rw [if_neg e1, if_pos rfl, if_neg e1]
      by_cases e2 : inq_ s p S = S
      · rw [if_pos (by rw [e2]), if_pos e2, e2]
      · rw [if_neg (ne_nI (by omega) (by omega) e2), if_neg e2]
        exact reach20_ hN hp hq e (i + 1) n (inq_ s p S) (by omega) (by omega) r2
theorem cb_sub {S S' : Nat} (h : ∀ i, S.testBit i = true → S'.testBit i = true) : ∀ n, cb_ S n ≤ cb_ S' n ∧ (cb_ S n = cb_ S' n → ∀ i, i < n → S.testBit i = S'.testBit i)
  | 0 => ⟨Nat.le_refl _, fun _ i hi => absurd hi (by omega)⟩
  | n + 1 => by
    obtain ⟨h1, h2⟩ := cb_sub h n
    show cb_ S n + (if S.testBit n = true then 1 else 0) ≤ cb_ S' n + (if S'.testBit n = true then 1 else 0) ∧ (cb_ S n + (if S.testBit n = true then 1 else 0) = cb_ S' n + (if S'.testBit n = true then 1 else 0) → _)
    by_cases e1 : S.testBit n = true
    · have e2 := h n e1
      rw [if_pos e1, if_pos e2]
      refine ⟨by omega, fun he i hi => ?_⟩
      by_cases ei : i = n
      · rw [ei, e1, e2]
      · exact h2 (by omega) i (by omega)
    · rw [if_neg e1]
      by_cases e2 : S'.testBit n = true
      · rw [if_pos e2]
        exact ⟨by omega, fun he => absurd he (by omega)⟩
      · rw [if_neg e2]
        refine ⟨by omega, fun he i hi => ?_⟩
        by_cases ei : i = n
        · rw [Bool.not_eq_true] at e1 e2
          rw [ei, e1, e2]
        · exact h2 (by omega) i (by omega)
theorem cb_lt {S S' : Nat} (hS : S < 4096) (hS' : S' < 4096) (h : ∀ i, S.testBit i = true → S'.testBit i = true) (hne : S' ≠ S) : cb_ S 12 < cb_ S' 12 := by
  obtain ⟨h1, h2⟩ := cb_sub h 12
  rcases Nat.lt_or_ge (cb_ S 12) (cb_ S' 12) with q | q
  · exact q
  · exfalso
    apply hne
    apply Nat.eq_of_testBit_eq
    intro i
    rcases Nat.lt_or_ge i 12 with hi | hi
    · exact (h2 (by omega) i hi).symm
    · have hp : 4096 ≤ 2 ^ i := Nat.pow_le_pow_right (n := 2) (by omega) hi
      rw [Nat.testBit_lt_two_pow (by omega), Nat.testBit_lt_two_pow (by omega)]
theorem cb_le (S : Nat) : ∀ p, cb_ S p ≤ p
  | 0 => Nat.le_refl _
  | p + 1 => by
    have := cb_le S p
    show cb_ S p + (if S.testBit p = true then 1 else 0) ≤ p + 1
    split <;> omega
theorem wo_spec {s : Nat → Nat} {p q : Nat} : ∀ (r S : Nat), S < 4096 → 12 < r + cb_ S 12 → woq_ s p q r S < 4096 ∧ ((woq_ s p q r S).testBit q = true ∨ inq_ s p (woq_ s p q r S) = woq_ s p q r S) ∧ (∀ i, S.testBit i = true → (woq_ s p q r S).testBit i = true) ∧ ∀ P : Nat → Prop, (∀ x y, x < 12 → x ≠ p → P x → (nb_ s x 12).testBit y = true → P y) → (∀ i, S.testBit i = true → P i) → ∀ i, (woq_ s p q r S).testBit i = true → P i
  | 0, S, h1, h2 => absurd h2 (by have := cb_le S 12; omega)
  | r + 1, S, h1, h2 => by
    have hw : woq_ s p q (r + 1) S = if S.testBit q = true then S else if inq_ s p S = S then S else woq_ s p q r (inq_ s p S) := rfl
    rw [hw]
    by_cases e1 : S.testBit q = true
    · rw [if_pos e1]
      exact ⟨h1, Or.inl e1, fun i hi => hi, fun P _ h => h⟩
    · rw [if_neg e1]
      by_cases e2 : inq_ s p S = S
      · rw [if_pos e2]
        exact ⟨h1, Or.inr e2, fun i hi => hi, fun P _ h => h⟩
      · rw [if_neg e2]
        have hm : ∀ i, S.testBit i = true → (inq_ s p S).testBit i = true := fun i hi => fqr_mono 12 0 S hi
        have hl : inq_ s p S < 4096 := by
          have key : ∀ d x S, S < 4096 → fl_ (fqr_ s p) d x S < 4096 := by
            intro d
            induction d with
            | zero => intro x S h; exact h
            | succ d ih => intro x S h; exact ih (x + 1) _ (fqr_lt h)
          exact key 12 0 S h1
        have hc := cb_lt h1 hl hm e2
        obtain ⟨k1, k2, k3, k4⟩ := wo_spec (q := q) r (inq_ s p S) hl (by omega)
        exact ⟨k1, k2, fun i hi => k3 i (hm i hi), fun P hP h => k4 P hP (fqr_sd hP 12 0 S (by omega) h)⟩
/-- where the search begins -/
theorem start_ {A p q : Nat} (hA : A < 4096) (hp : p < 12) (hq : q < 12) : ∃ S, (((1 : Int32) <<< (nI p &&& 31)) ||| (nI A &&& (((1 : Int32) <<< (nI q &&& 31)) ^^^ (-1)))) = nI S ∧ S < 4096 ∧ ∀ i, S.testBit i = true ↔ i = p ∨ (A.testBit i = true ∧ i ≠ q) := by
  refine ⟨2 ^ p ||| (A &&& (2 ^ q ^^^ (2 ^ 32 - 1))), ?_, ?_, fun i => ?_⟩
  · rw [sh1_ (by omega), sh1_ (by omega), show (-1 : Int32) = nI (2 ^ 32 - 1) by decide, nxor_, nand_, nor_]
  · refine Nat.or_lt_two_pow (n := 12) (p2lt hp) ?_
    exact Nat.lt_of_le_of_lt Nat.and_le_left hA
  · rw [Nat.testBit_or, Bool.or_eq_true, Nat.testBit_two_pow, decide_eq_true_iff, Nat.testBit_and, Bool.and_eq_true, Nat.testBit_xor, Nat.testBit_two_pow, Nat.testBit_two_pow_sub_one]
    constructor
    · rintro (h | ⟨h, h3⟩)
      · exact Or.inl h.symm
      · refine Or.inr ⟨h, fun e => ?_⟩
        subst e
        rw [decide_eq_true rfl, decide_eq_true (show i < 32 by omega)] at h3
        exact absurd h3 (by decide)
    · rintro (h | ⟨h, h3⟩)
      · exact Or.inl h.symm
      · refine Or.inr ⟨h, ?_⟩
        rw [decide_eq_false (fun e => h3 e.symm), decide_eq_true (show i < 32 by have := bit12_ hA h; omega)]
        rfl
theorem isDeciding1_ {N : Nat → Int32} {s : Nat → Nat} (hN : ∀ p, p < 12 → N p = nI (nb_ s p 12)) {p q : Nat} (hp : p < 12) (hq : q < 12) : fn_X8_isDeciding N (nI p) (nI q) = some (if p < q ∧ dq_ s p q = true then 1 else 0) := by
  unfold fn_X8_isDeciding
  by_cases e0 : p < q
  · have hnl := nb_4096 s p
    rw [if_neg (nI_ge e0 (by omega)), ckn_ hp (by omega), nI_clamp (by omega), hN p hp, isIn_ (by omega) (by omega), b1_so]
    have hbit := nb_bit s p q 12
    by_cases e1 : s (12 * p + q) = 0
    · rw [if_neg (fun hh => (hbit.mp hh).2 e1), if_pos rfl, dq_f (Or.inl e1), if_neg (fun hh => absurd hh.2 (by decide))]
    · rw [if_pos (hbit.mpr ⟨hq, e1⟩), if_neg (show ¬ (1 : Int32) = 0 by decide)]
      unfold fn_X8_reachWithout
      obtain ⟨S, s1, s2, s3⟩ := start_ hnl hp hq
      rw [ckn_ hp (by omega), nI_clamp (by omega), hN p hp, s1, lx_so, show fn_X8_reachWithout_l20 N (nI p) (nI q) (fun v8 => some v8) fu_ (nI S) 0 = some (nI (woq_ s p q 12 S)) from reach20_ hN hp hq 12 0 fu_ S rfl (fu_lt (by omega)) s2, b1_so]
      have hcb : 1 ≤ cb_ S 12 := by
        have hm := cb_mono S (p + 1) (11 - p)
        rw [show p + 1 + (11 - p) = 12 by omega] at hm
        have : cb_ S (p + 1) = cb_ S p + (if S.testBit p = true then 1 else 0) := rfl
        rw [if_pos ((s3 p).mpr (Or.inl rfl))] at this
        omega
      obtain ⟨k1, k2, k3, k4⟩ := wo_spec (s := s) (p := p) (q := q) 12 S s2 (by omega)
      rw [isIn_ (by omega) (by omega), b1_so]
      by_cases e2 : (woq_ s p q 12 S).testBit q = true
      · have hc : conn_ (Ed_ s p q) p q := by
          refine k4 (fun z => conn_ (Ed_ s p q) p z) (fun x y hx hxp hcx hb => ?_) (fun i hi => ?_) q e2
          · obtain ⟨b1, b2⟩ := (nb_bit s x y 12).mp hb
            by_cases ey : y = p
            · subst ey; exact conn_refl _ _
            · exact conn_edge hcx ⟨hx, b1, b2, fun hh => hxp hh.1, fun hh => ey hh.2⟩
          · rcases (s3 i).mp hi with hh | ⟨hh, hn⟩
            · subst hh; exact conn_refl _ _
            · obtain ⟨b1, b2⟩ := (nb_bit s p i 12).mp hh
              exact conn_edge (conn_refl _ _) ⟨hp, b1, b2, fun hx => hn hx.2, fun hx => by omega⟩
        rw [if_pos e2, if_neg (show ¬ (1 : Int32) = 0 by decide), dq_f (Or.inr hc), if_neg (fun hh => absurd hh.2 (by decide))]
      · have hc : ¬ conn_ (Ed_ s p q) p q := by
          intro hcc
          refine e2 (hcc (fun z => (woq_ s p q 12 S).testBit z = true) (k3 p ((s3 p).mpr (Or.inl rfl))) (fun u v hu he => ?_))
          obtain ⟨g1, g2, g3, g4, g5⟩ := he
          have hnb : (nb_ s u 12).testBit v = true := (nb_bit s u v 12).mpr ⟨g2, g3⟩
          by_cases eu : u = p
          · subst eu
            exact k3 v ((s3 v).mpr (Or.inr ⟨hnb, fun ev => g4 ⟨rfl, ev⟩⟩))
          · rcases k2 with kq | kq
            · exact absurd kq e2
            · show (woq_ s p q 12 S).testBit v = true
              rw [← kq]
              exact fqr_cl eu hnb 12 0 _ hu (by omega) (by omega)
        rw [if_neg e2, if_pos rfl, dq_t e1 hc, if_pos ⟨e0, rfl⟩]
  · rw [if_pos (nI_le (by omega) (by omega)), if_neg (fun hh => e0 hh.1)]
/-! the i-th -/
def scK_ {α : Type} (D : Nat → Bool) (x : Int32) (f : Nat → Int32 → Option α) (k : Int32 → Option α) : Nat → Nat → Int32 → Option α
  | 0, _, c => k c
  | d + 1, i, c => if D i = true then (if c = x then f i c else scK_ D x f k d (i + 1) (c + 1)) else scK_ D x f k d (i + 1) c
noncomputable def Dk_ (s : Nat → Nat) (k : Nat) : Bool := decide (k / 12 < k % 12) && dq_ s (k / 12) (k % 12)
theorem Dk_t {s : Nat → Nat} {k : Nat} : Dk_ s k = true ↔ k / 12 < k % 12 ∧ dq_ s (k / 12) (k % 12) = true := by
  unfold Dk_; rw [Bool.and_eq_true, decide_eq_true_iff]
theorem nthDeciding_ {N : Nat → Int32} {s : Nat → Nat} (hN : ∀ p, p < 12 → N p = nI (nb_ s p 12)) (x : Int32) : ∀ (d i n : Nat) (c : Int32), i + d = 144 → d < n → fn_X8_nthDeciding_l4 N x (some (-6)) n c (nI i) = scK_ (Dk_ s) x (fun i _ => some (nI i)) (fun _ => some (-6)) d i c
  | 0, i, 0, c, h1, h2 => absurd h2 (by omega)
  | 0, i, n + 1, c, h1, h2 => by
    have e : i = 144 := by omega
    subst e
    show fn_X8_nthDeciding_b4 N x _ (some (-6)) c (nI 144) = _
    unfold fn_X8_nthDeciding_b4
    rw [if_pos (show (144 : Int32) ≤ nI 144 by decide)]
    rfl
  | d + 1, i, 0, c, h1, h2 => absurd h2 (by omega)
  | d + 1, i, n + 1, c, h1, h2 => by
    show fn_X8_nthDeciding_b4 N x (fn_X8_nthDeciding_l4 N x (some (-6)) n) (some (-6)) c (nI i) = (if Dk_ s i = true then (if c = x then some (nI i) else scK_ (Dk_ s) x (fun i _ => some (nI i)) (fun _ => some (-6)) d (i + 1) (c + 1)) else scK_ (Dk_ s) x (fun i _ => some (nI i)) (fun _ => some (-6)) d (i + 1) c)
    unfold fn_X8_nthDeciding_b4
    rw [if_neg (show ¬ (144 : Int32) ≤ nI i from nI_ge (b := 144) (by omega) (by omega)), dv12_ (by omega), md12_ (by omega), isDeciding1_ hN (by omega) (by omega), b1_so, nI_1, nthDeciding_ hN x d (i + 1) n c (by omega) (by omega), nthDeciding_ hN x d (i + 1) n (c + 1) (by omega) (by omega)]
    by_cases e : i / 12 < i % 12 ∧ dq_ s (i / 12) (i % 12) = true
    · rw [if_pos e, if_neg (by decide), if_pos (Dk_t.mpr e)]
    · rw [if_neg e, if_pos rfl, if_neg (fun q => e (Dk_t.mp q))]
theorem countDeciding_ {N : Nat → Int32} {s : Nat → Nat} (hN : ∀ p, p < 12 → N p = nI (nb_ s p 12)) : ∀ (d i n c : Nat), i + d = 144 → d < n → c ≤ i → ∃ c', c' ≤ 144 ∧ fn_X8_countDeciding_l4 N (fun v3 => some v3) n (nI c) (nI i) = some (nI c') ∧ ∀ {α : Type} (f : Nat → Int32 → Option α) (k : Int32 → Option α), scK_ (Dk_ s) (-1) f k d i (nI c) = k (nI c')
  | 0, i, 0, c, h1, h2, h3 => absurd h2 (by omega)
  | 0, i, n + 1, c, h1, h2, h3 => by
    have e : i = 144 := by omega
    subst e
    refine ⟨c, h3, ?_, fun f k => rfl⟩
    show fn_X8_countDeciding_b4 N _ (fun v3 => some v3) (nI c) (nI 144) = _
    unfold fn_X8_countDeciding_b4
    rw [if_pos (show (144 : Int32) ≤ nI 144 by decide)]
  | d + 1, i, 0, c, h1, h2, h3 => absurd h2 (by omega)
  | d + 1, i, n + 1, c, h1, h2, h3 => by
    have hb : fn_X8_countDeciding_l4 N (fun v3 => some v3) (n + 1) (nI c) (nI i) = if Dk_ s i = true then fn_X8_countDeciding_l4 N (fun v3 => some v3) n (nI (c + 1)) (nI (i + 1)) else fn_X8_countDeciding_l4 N (fun v3 => some v3) n (nI c) (nI (i + 1)) := by
      show fn_X8_countDeciding_b4 N (fn_X8_countDeciding_l4 N (fun v3 => some v3) n) (fun v3 => some v3) (nI c) (nI i) = _
      unfold fn_X8_countDeciding_b4
      rw [if_neg (show ¬ (144 : Int32) ≤ nI i from nI_ge (b := 144) (by omega) (by omega)), dv12_ (by omega), md12_ (by omega), isDeciding1_ hN (by omega) (by omega), b1_so, nI_1, nI_1]
      by_cases e : i / 12 < i % 12 ∧ dq_ s (i / 12) (i % 12) = true
      · rw [if_pos e, if_neg (by decide), if_pos (Dk_t.mpr e)]
      · rw [if_neg e, if_pos rfl, if_neg (fun q => e (Dk_t.mp q))]
    by_cases e : Dk_ s i = true
    · obtain ⟨c', k1, k2, k3⟩ := countDeciding_ hN d (i + 1) n (c + 1) (by omega) (by omega) (by omega)
      refine ⟨c', k1, by rw [hb, if_pos e, k2], fun f k => ?_⟩
      show (if Dk_ s i = true then (if nI c = (-1) then f i (nI c) else scK_ (Dk_ s) (-1) f k d (i + 1) (nI c + 1)) else scK_ (Dk_ s) (-1) f k d (i + 1) (nI c)) = _
      rw [if_pos e, if_neg (nm1_ (by omega)), nI_1, k3]
    · obtain ⟨c', k1, k2, k3⟩ := countDeciding_ hN d (i + 1) n c (by omega) (by omega) (by omega)
      refine ⟨c', k1, by rw [hb, if_neg e, k2], fun f k => ?_⟩
      show (if Dk_ s i = true then (if nI c = (-1) then f i (nI c) else scK_ (Dk_ s) (-1) f k d (i + 1) (nI c + 1)) else scK_ (Dk_ s) (-1) f k d (i + 1) (nI c)) = _
      rw [if_neg e, k3]
