/-! ===== sums over sets of planks ===== -/
def smq_ (f : Nat → Nat) : Nat → Nat
  | 0 => 0
  | n + 1 => smq_ f n + f n
theorem smq_congr {f g : Nat → Nat} : ∀ n, (∀ j, j < n → f j = g j) → smq_ f n = smq_ g n
  | 0, _ => rfl
  | n + 1, h => by
    show smq_ f n + f n = smq_ g n + g n
    rw [smq_congr n (fun j hj => h j (by omega)), h n (by omega)]
theorem smq_add (f : Nat → Nat) (a : Nat) : ∀ b, smq_ f (a + b) = smq_ f a + smq_ (fun j => f (a + j)) b
  | 0 => rfl
  | b + 1 => by
    show smq_ f (a + b) + f (a + b) = smq_ f a + (smq_ (fun j => f (a + j)) b + f (a + b))
    rw [smq_add f a b]; omega
theorem smq_mul (c : Nat) (f : Nat → Nat) : ∀ n, smq_ (fun j => c * f j) n = c * smq_ f n
  | 0 => rfl
  | n + 1 => by
    show smq_ (fun j => c * f j) n + c * f n = c * (smq_ f n + f n)
    rw [smq_mul c f n, Nat.mul_add]
theorem smq_plus (f g : Nat → Nat) : ∀ n, smq_ (fun j => f j + g j) n = smq_ f n + smq_ g n
  | 0 => rfl
  | n + 1 => by
    show smq_ (fun j => f j + g j) n + (f n + g n) = smq_ f n + f n + (smq_ g n + g n)
    rw [smq_plus f g n]; omega
def Wt_ (t S : Nat) : Nat → Nat
  | 0 => 1
  | k + 1 => Wt_ t S k * (if S.testBit k = true then t else 10 - t)
def Ct_ (e : Nat → Nat) (S : Nat) : Nat → Nat
  | 0 => 0
  | k + 1 => Ct_ e S k + e k * (if S.testBit k = true then 2 else 1)
theorem ab_lo {n S k : Nat} (hS : S < 2 ^ n) (hk : k < n) : (2 ^ n + S).testBit k = S.testBit k := by
  rw [Nat.add_comm, ← nor2_ hS, Nat.testBit_or, Nat.testBit_two_pow, decide_eq_false (by omega), Bool.or_false]
theorem ab_hi {n S : Nat} (hS : S < 2 ^ n) : (2 ^ n + S).testBit n = true := by
  rw [Nat.add_comm, ← nor2_ hS, Nat.testBit_or, Nat.testBit_two_pow, decide_eq_true rfl, Bool.or_true]
theorem Wt_lo {t n S : Nat} (hS : S < 2 ^ n) : ∀ k, k ≤ n → Wt_ t (2 ^ n + S) k = Wt_ t S k
  | 0, _ => rfl
  | k + 1, h => by
    show Wt_ t (2 ^ n + S) k * (if (2 ^ n + S).testBit k = true then t else 10 - t) = Wt_ t S k * (if S.testBit k = true then t else 10 - t)
    rw [Wt_lo hS k (by omega), ab_lo hS (by omega)]
theorem Ct_lo {e : Nat → Nat} {n S : Nat} (hS : S < 2 ^ n) : ∀ k, k ≤ n → Ct_ e (2 ^ n + S) k = Ct_ e S k
  | 0, _ => rfl
  | k + 1, h => by
    show Ct_ e (2 ^ n + S) k + e k * (if (2 ^ n + S).testBit k = true then 2 else 1) = Ct_ e S k + e k * (if S.testBit k = true then 2 else 1)
    rw [Ct_lo hS k (by omega), ab_lo hS (by omega)]
/-- all sets, each with its weight -/
def Aq_ (t : Nat) (e : Nat → Nat) (n : Nat) (φ : Nat → Nat) : Nat := smq_ (fun S => Wt_ t S n * φ (Ct_ e S n)) (2 ^ n)
theorem Aq_succ (t : Nat) (e : Nat → Nat) (n : Nat) (φ : Nat → Nat) : Aq_ t e (n + 1) φ = (10 - t) * Aq_ t e n (fun x => φ (x + e n)) + t * Aq_ t e n (fun x => φ (x + e n * 2)) := by
  show smq_ (fun S => Wt_ t S (n + 1) * φ (Ct_ e S (n + 1))) (2 ^ (n + 1)) = _
  rw [Nat.pow_succ, Nat.mul_two, smq_add]
  unfold Aq_
  rw [← smq_mul, ← smq_mul]
  congr 1
  · refine smq_congr _ (fun S hS => ?_)
    have hb : ¬ S.testBit n = true := by rw [Nat.testBit_lt_two_pow hS]; decide
    show Wt_ t S n * (if S.testBit n = true then t else 10 - t) * φ (Ct_ e S n + e n * (if S.testBit n = true then 2 else 1)) = (10 - t) * (Wt_ t S n * φ (Ct_ e S n + e n))
    rw [if_neg hb, if_neg hb, Nat.mul_one, Nat.mul_right_comm, Nat.mul_comm (10 - t)]
  · refine smq_congr _ (fun S hS => ?_)
    have hb := ab_hi hS
    show Wt_ t (2 ^ n + S) n * (if (2 ^ n + S).testBit n = true then t else 10 - t) * φ (Ct_ e (2 ^ n + S) n + e n * (if (2 ^ n + S).testBit n = true then 2 else 1)) = t * (Wt_ t S n * φ (Ct_ e S n + e n * 2))
    rw [if_pos hb, if_pos hb, Wt_lo hS n (Nat.le_refl _), Ct_lo hS n (Nat.le_refl _), Nat.mul_right_comm, Nat.mul_comm t]
/-- plank by plank, from the first on -/
def Cq_ (t : Nat) (e : Nat → Nat) : Nat → Nat → (Nat → Nat) → Nat
  | 0, _, φ => φ 0
  | m + 1, i, φ => (10 - t) * Cq_ t e m (i + 1) (fun x => φ (x + e i)) + t * Cq_ t e m (i + 1) (fun x => φ (x + e i * 2))
theorem alg4_ (p t A B C D : Nat) : p * (p * A + t * B) + t * (p * C + t * D) = p * (p * A + t * C) + t * (p * B + t * D) := by
  simp only [Nat.mul_add]
  rw [Nat.mul_left_comm p t B, Nat.mul_left_comm t p C]
  omega
theorem Cq_last (t : Nat) (e : Nat → Nat) : ∀ (m i : Nat) (φ : Nat → Nat), Cq_ t e (m + 1) i φ = (10 - t) * Cq_ t e m i (fun x => φ (x + e (i + m))) + t * Cq_ t e m i (fun x => φ (x + e (i + m) * 2))
  | 0, i, φ => rfl
  | m + 1, i, φ => by
    show (10 - t) * Cq_ t e (m + 1) (i + 1) (fun x => φ (x + e i)) + t * Cq_ t e (m + 1) (i + 1) (fun x => φ (x + e i * 2)) = (10 - t) * ((10 - t) * Cq_ t e m (i + 1) (fun x => φ (x + e i + e (i + (m + 1)))) + t * Cq_ t e m (i + 1) (fun x => φ (x + e i * 2 + e (i + (m + 1))))) + t * ((10 - t) * Cq_ t e m (i + 1) (fun x => φ (x + e i + e (i + (m + 1)) * 2)) + t * Cq_ t e m (i + 1) (fun x => φ (x + e i * 2 + e (i + (m + 1)) * 2)))
    rw [Cq_last t e m (i + 1) (fun x => φ (x + e i)), Cq_last t e m (i + 1) (fun x => φ (x + e i * 2)), show i + 1 + m = i + (m + 1) by omega]
    have f1 : (fun x => φ (x + e (i + (m + 1)) + e i)) = (fun x => φ (x + e i + e (i + (m + 1)))) := funext fun x => by rw [Nat.add_right_comm]
    have f2 : (fun x => φ (x + e (i + (m + 1)) * 2 + e i)) = (fun x => φ (x + e i + e (i + (m + 1)) * 2)) := funext fun x => by rw [Nat.add_right_comm]
    have f3 : (fun x => φ (x + e (i + (m + 1)) + e i * 2)) = (fun x => φ (x + e i * 2 + e (i + (m + 1)))) := funext fun x => by rw [Nat.add_right_comm]
    have f4 : (fun x => φ (x + e (i + (m + 1)) * 2 + e i * 2)) = (fun x => φ (x + e i * 2 + e (i + (m + 1)) * 2)) := funext fun x => by rw [Nat.add_right_comm]
    rw [f1, f2, f3, f4]
    exact alg4_ _ _ _ _ _ _
theorem Aq_Cq (t : Nat) (e : Nat → Nat) : ∀ (n : Nat) (φ : Nat → Nat), Aq_ t e n φ = Cq_ t e n 0 φ
  | 0, φ => by
    show 0 + 1 * φ 0 = φ 0
    omega
  | n + 1, φ => by rw [Aq_succ, Cq_last, Aq_Cq t e n, Aq_Cq t e n, Nat.zero_add]
theorem Aq_one {t : Nat} (ht : t ≤ 10) (e : Nat → Nat) : ∀ n, Aq_ t e n (fun _ => 1) = 10 ^ n
  | 0 => rfl
  | n + 1 => by
    rw [Aq_succ, Aq_one ht e n, ← Nat.add_mul, show 10 - t + t = 10 by omega, Nat.pow_succ, Nat.mul_comm]
theorem Aq_shift {t : Nat} (ht : t ≤ 10) (e : Nat → Nat) (n c : Nat) : Aq_ t e n (fun x => x + c) = Aq_ t e n (fun x => x) + c * 10 ^ n := by
  rw [← Aq_one ht e n]
  unfold Aq_
  rw [← smq_mul, ← smq_plus]
  refine smq_congr _ (fun S _ => ?_)
  show Wt_ t S n * (Ct_ e S n + c) = Wt_ t S n * Ct_ e S n + c * (Wt_ t S n * 1)
  rw [Nat.mul_add, Nat.mul_one, Nat.mul_comm c]
theorem alg5_ (p t A T E x : Nat) (h : p + t = 10) (ih : A * 10 = T * (E * (10 + t))) : (p * (A + x * T) + t * (A + x * 2 * T)) * 10 = T * 10 * ((E + x) * (10 + t)) := by
  have q1 : p * A + t * A = 10 * A := by rw [← Nat.add_mul, h]
  have q2 : p * (x * T) + t * (x * T) = 10 * (x * T) := by rw [← Nat.add_mul, h]
  have q3 : t * (x * 2 * T) = 2 * (t * (x * T)) := by rw [Nat.mul_assoc x 2 T, Nat.mul_left_comm x 2 T, Nat.mul_left_comm t 2]
  have q4 : T * 10 * ((E + x) * (10 + t)) = 10 * (T * (E * (10 + t))) + 10 * (T * (x * (10 + t))) := by
    rw [Nat.add_mul E x (10 + t), Nat.mul_comm T 10, Nat.mul_assoc 10 T, Nat.mul_add T, Nat.mul_add 10]
  have q5 : T * (x * (10 + t)) = 10 * (x * T) + t * (x * T) := by
    rw [← Nat.add_mul, Nat.mul_left_comm T x, ← Nat.mul_assoc, Nat.mul_comm (x * T)]
  rw [q4, q5, ← ih, Nat.mul_add p, Nat.mul_add t, q3]
  omega
theorem Aq_mean {t : Nat} (ht : t ≤ 10) (e : Nat → Nat) : ∀ n, Aq_ t e n (fun x => x) * 10 = 10 ^ n * (smq_ e n * (10 + t))
  | 0 => by
    show 0 * 10 = 10 ^ 0 * (0 * (10 + t))
    rw [Nat.zero_mul, Nat.zero_mul, Nat.mul_zero]
  | n + 1 => by
    have ih := Aq_mean ht e n
    rw [Aq_succ, Aq_shift ht, Aq_shift ht, Nat.pow_succ]
    show _ = 10 ^ n * 10 * ((smq_ e n + e n) * (10 + t))
    generalize Aq_ t e n (fun x => x) = A at *
    generalize 10 ^ n = T at *
    generalize smq_ e n = E at *
    generalize e n = x at *
    exact alg5_ (10 - t) t A T E x (by omega) ih
theorem Cq_0 (t : Nat) (e : Nat → Nat) : ∀ (m i : Nat), Cq_ t e m i (fun _ => 0) = 0
  | 0, _ => rfl
  | m + 1, i => by
    show (10 - t) * Cq_ t e m (i + 1) (fun _ => 0) + t * Cq_ t e m (i + 1) (fun _ => 0) = 0
    rw [Cq_0 t e m (i + 1), Nat.mul_zero, Nat.mul_zero]
theorem ten_sub {t : Nat} (ht : t ≤ 10) : (10 : Int32) - nI t = nI (10 - t) := pk_sub (a := 10) ht
theorem ce_ {al : Nat → Int32} {e : Nat → Nat} {n t : Nat} (hn : n ≤ 11) (ht : t ≤ 10) (hal : ∀ i, i < n → al i = nI (e i) ∧ 0 < e i ∧ e i ≤ 396) : ∀ (m i d L : Nat), i + m = n → m < d → L ≤ 999 → fn_X3_casesOfEnough_d d al (nI n) (nI t) (nI L) (nI i) = some (lN (Cq_ t e m i (fun x => if x ≤ L then 1 else 0)))
  | m, i, 0, L, h1, h2, h3 => absurd h2 (by omega)
  | 0, i, d + 1, L, h1, h2, h3 => by
    have e1 : i = n := by omega
    subst e1
    show fn_X3_casesOfEnough_r (fn_X3_casesOfEnough_d d) al (nI i) (nI t) (nI L) (nI i) = some (lN (if 0 ≤ L then 1 else 0))
    unfold fn_X3_casesOfEnough_r
    rw [if_pos (nI_pos' (by omega)), if_pos (Int32.le_refl _), if_pos (Nat.zero_le _)]
    rfl
  | m + 1, i, d + 1, L, h1, h2, h3 => by
    obtain ⟨a1, a2, a3⟩ := hal i (by omega)
    have sub : ∀ c, 0 < c → c ≤ 792 → fn_X3_casesOfEnough_d d al (nI n) (nI t) (nI L - nI c) (nI (i + 1)) = some (lN (Cq_ t e m (i + 1) (fun x => if x + c ≤ L then 1 else 0))) := by
      intro c c1 c2
      by_cases ec : c ≤ L
      · rw [pk_sub ec, ce_ hn ht hal m (i + 1) d (L - c) (by omega) (by omega) (by omega)]
        have hf : (fun x => if x ≤ L - c then 1 else 0) = (fun x => if x + c ≤ L then 1 else 0) := funext fun x => by
          by_cases ex : x + c ≤ L
          · rw [if_pos ex, if_pos (by omega)]
          · rw [if_neg ex, if_neg (by omega)]
        rw [hf]
      · obtain ⟨d', rfl⟩ : ∃ d', d = d' + 1 := ⟨d - 1, by omega⟩
        have hf : (fun x => if x + c ≤ L then 1 else 0) = (fun _ => 0) := funext fun x => by rw [if_neg (by omega)]
        rw [hf, Cq_0]
        show fn_X3_casesOfEnough_r (fn_X3_casesOfEnough_d d') al (nI n) (nI t) (nI L - nI c) (nI (i + 1)) = some (lN 0)
        unfold fn_X3_casesOfEnough_r
        rw [if_neg (Int32.not_le.mpr (pk_sneg (by omega) (by omega)))]
        rfl
    show fn_X3_casesOfEnough_r (fn_X3_casesOfEnough_d d) al (nI n) (nI t) (nI L) (nI i) = some (lN ((10 - t) * Cq_ t e m (i + 1) (fun x => if x + e i ≤ L then 1 else 0) + t * Cq_ t e m (i + 1) (fun x => if x + e i * 2 ≤ L then 1 else 0)))
    unfold fn_X3_casesOfEnough_r
    rw [if_pos (nI_pos' (by omega)), if_neg (nI_ge (by omega) (by omega)), if_pos (show nI i < 12 from nI_lt (b := 12) (by omega) (by omega)), ckn_ (show i < 12 by omega) (by omega), nI_clamp (by omega), a1, nI_1, sub (e i) a2 (by omega), b1_so, ckn_ (show i < 12 by omega) (by omega), show (2 : Int32) * nI (e i) = nI (e i * 2) by rw [show (2 : Int32) = nI 2 from rfl, pk_mul, Nat.mul_comm], sub (e i * 2) (by omega) (by omega), b1_so, ten_sub ht, nI_l (by omega), nI_l (by omega), lN_mul, lN_mul, lN_add]
