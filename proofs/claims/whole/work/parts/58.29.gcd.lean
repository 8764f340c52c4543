/-! ===== lowest terms ===== -/
theorem lz0_ {b : Nat} (hb : b < 2 ^ 63) : (lg_cmp (lN b) 0 = 0) ↔ b = 0 := by
  rw [lg_cmp_eq, show (0 : Int64) = lN 0 from rfl, pk_lEQ hb (by omega)]
theorem dl0_ {α : Type} {b : Nat} (h0 : 0 < b) (hb : b < 2 ^ 63) (k : Option α) : dl_ (lN b) k = k := by
  unfold dl_
  rw [if_neg]
  intro e
  rw [show (0 : Int64) = lN 0 from rfl, pk_lEQ hb (by omega)] at e
  omega
theorem gcd_st (a b : Nat) : Nat.gcd a b = Nat.gcd b (a % b) := by
  rw [Nat.gcd_comm a b, Nat.gcd_rec b a, Nat.gcd_comm]
theorem half_ {b r : Nat} (h0 : 0 < r) (h1 : r < b) : 2 * (b % r) < b := by
  have e := Nat.mod_add_div b r
  have l := Nat.mod_lt b h0
  have m : r ≤ r * (b / r) := Nat.le_mul_of_pos_right r (Nat.div_pos (by omega) h0)
  omega
theorem eu1_ (k : Int64 → Option Int64) : ∀ (m a b i n : Nat), b < 2 ^ m → a < 2 ^ 62 → b < 2 ^ 62 → i + 2 * m < 199 → 2 * m + 1 < n → fn_X3_sharedDivisor_l9 k n (lN a) (lN b) (nI i) = k (lN (Nat.gcd a b))
  | m, a, b, i, 0, h1, h2, h3, h4, h5 => absurd h5 (by omega)
  | 0, a, b, i, n + 1, h1, h2, h3, h4, h5 => by
    have e : b = 0 := by
      have : (2 : Nat) ^ 0 = 1 := rfl
      omega
    subst e
    show fn_X3_sharedDivisor_b9 (fn_X3_sharedDivisor_l9 k n) k (lN a) (lN 0) (nI i) = _
    unfold fn_X3_sharedDivisor_b9
    rw [if_neg (show ¬ (200 : Int32) ≤ nI i from nI_ge (b := 200) (by omega) (by omega)), if_pos ((lz0_ (by omega)).mpr rfl), Nat.gcd_zero_right]
  | m + 1, a, b, i, 1, h1, h2, h3, h4, h5 => absurd h5 (by omega)
  | m + 1, a, b, i, n + 2, h1, h2, h3, h4, h5 => by
    show fn_X3_sharedDivisor_b9 (fn_X3_sharedDivisor_l9 k (n + 1)) k (lN a) (lN b) (nI i) = _
    unfold fn_X3_sharedDivisor_b9
    rw [if_neg (show ¬ (200 : Int32) ≤ nI i from nI_ge (b := 200) (by omega) (by omega))]
    by_cases e0 : b = 0
    · rw [if_pos ((lz0_ (by omega)).mpr e0), e0, Nat.gcd_zero_right]
    · have hr := Nat.mod_lt a (show 0 < b by omega)
      rw [if_neg (fun q => e0 ((lz0_ (by omega)).mp q)), dl0_ (by omega) (by omega), pk_lRem (by omega) (by omega) (by omega), nI_1, gcd_st a b]
      show fn_X3_sharedDivisor_b9 (fn_X3_sharedDivisor_l9 k n) k (lN b) (lN (a % b)) (nI (i + 1)) = _
      unfold fn_X3_sharedDivisor_b9
      rw [if_neg (show ¬ (200 : Int32) ≤ nI (i + 1) from nI_ge (b := 200) (by omega) (by omega))]
      by_cases e1 : a % b = 0
      · rw [if_pos ((lz0_ (by omega)).mpr e1), e1, Nat.gcd_zero_right]
      · have hh := half_ (show 0 < a % b by omega) hr
        have hp : 2 ^ (m + 1) = 2 ^ m * 2 := Nat.pow_succ 2 m
        have hr2 := Nat.mod_lt b (show 0 < a % b by omega)
        rw [if_neg (fun q => e1 ((lz0_ (by omega)).mp q)), dl0_ (by omega) (by omega), pk_lRem (by omega) (by omega) (by omega), nI_1, gcd_st b (a % b)]
        exact eu1_ k m (a % b) (b % (a % b)) (i + 1 + 1) n (by omega) (by omega) (by omega) (by omega) (by omega)
theorem eu2_ (k : Int64 → Option Int64) : ∀ (m a b n : Nat), b < 2 ^ m → a < 2 ^ 62 → b < 2 ^ 62 → 2 * m + 1 < n → fn_X10_lowest_l6 k n (lN a) (lN b) = k (lN (Nat.gcd a b))
  | m, a, b, 0, h1, h2, h3, h5 => absurd h5 (by omega)
  | 0, a, b, n + 1, h1, h2, h3, h5 => by
    have e : b = 0 := by
      have : (2 : Nat) ^ 0 = 1 := rfl
      omega
    subst e
    show fn_X10_lowest_b6 (fn_X10_lowest_l6 k n) k (lN a) (lN 0) = _
    unfold fn_X10_lowest_b6
    rw [if_pos ((lz0_ (by omega)).mpr rfl), Nat.gcd_zero_right]
  | m + 1, a, b, 1, h1, h2, h3, h5 => absurd h5 (by omega)
  | m + 1, a, b, n + 2, h1, h2, h3, h5 => by
    show fn_X10_lowest_b6 (fn_X10_lowest_l6 k (n + 1)) k (lN a) (lN b) = _
    unfold fn_X10_lowest_b6
    by_cases e0 : b = 0
    · rw [if_pos ((lz0_ (by omega)).mpr e0), e0, Nat.gcd_zero_right]
    · have hr := Nat.mod_lt a (show 0 < b by omega)
      rw [if_neg (fun q => e0 ((lz0_ (by omega)).mp q)), dl0_ (by omega) (by omega), pk_lRem (by omega) (by omega) (by omega), gcd_st a b]
      show fn_X10_lowest_b6 (fn_X10_lowest_l6 k n) k (lN b) (lN (a % b)) = _
      unfold fn_X10_lowest_b6
      by_cases e1 : a % b = 0
      · rw [if_pos ((lz0_ (by omega)).mpr e1), e1, Nat.gcd_zero_right]
      · have hh := half_ (show 0 < a % b by omega) hr
        have hp : 2 ^ (m + 1) = 2 ^ m * 2 := Nat.pow_succ 2 m
        have hr2 := Nat.mod_lt b (show 0 < a % b by omega)
        rw [if_neg (fun q => e1 ((lz0_ (by omega)).mp q)), dl0_ (by omega) (by omega), pk_lRem (by omega) (by omega) (by omega), gcd_st b (a % b)]
        exact eu2_ k m (a % b) (b % (a % b)) n (by omega) (by omega) (by omega) (by omega)
theorem partOf_ {u l m : Nat} (hu : u < 2 ^ 55) (hl0 : 0 < l) (hl : l < 2 ^ 55) (hm : m ≤ 1) : fn_X3_partOf (lN u) (lN l) (nI m) = some (lN (if m = 0 then u / Nat.gcd l u else l / Nat.gcd l u)) := by
  unfold fn_X3_partOf fn_X3_sharedDivisor
  have hg : 0 < Nat.gcd l u := Nat.gcd_pos_of_pos_left u hl0
  have hgl : Nat.gcd l u ≤ l := Nat.gcd_le_left u hl0
  rw [show fn_X3_sharedDivisor_l9 (fun v1 => some v1) fu_ (lN l) (lN u) 0 = some (lN (Nat.gcd l u)) from eu1_ (fun v1 => some v1) 55 l u 0 fu_ hu (by omega) (by omega) (by omega) (fu_lt (by omega)), b1_so, if_pos ((lg_cmp_gt _ _).mpr (by rw [show (0 : Int64) = lN 0 from rfl, pk_lLT (by omega) (by omega)]; exact hg)), dl0_ hg (by omega), dl0_ hg (by omega), pk_lDiv (by omega) hg (by omega), pk_lDiv (by omega) hg (by omega)]
  rcases (show m = 0 ∨ m = 1 by omega) with e | e
  · rw [if_pos (show nI m = 0 by rw [e]; rfl), if_pos e]
  · rw [if_neg (show ¬ nI m = 0 by rw [e]; decide), if_neg (by omega)]
theorem lowest_ {u l m : Nat} (hu : u < 2 ^ 55) (hl0 : 0 < l) (hl : l < 2 ^ 55) (hm : m ≤ 1) : fn_X10_lowest (lN u) (lN l) (nI m) = some (lN (if m = 0 then u / Nat.gcd l u else l / Nat.gcd l u)) := by
  unfold fn_X10_lowest
  have hg : 0 < Nat.gcd l u := Nat.gcd_pos_of_pos_left u hl0
  have hgl : Nat.gcd l u ≤ l := Nat.gcd_le_left u hl0
  rw [eu2_ _ 55 l u fu_ hu (by omega) (by omega) (fu_lt (by omega)), dl0_ hg (by omega), dl0_ hg (by omega), pk_lDiv (by omega) hg (by omega), pk_lDiv (by omega) hg (by omega)]
  rcases (show m = 0 ∨ m = 1 by omega) with e | e
  · rw [if_pos (show nI m = 0 by rw [e]; rfl), if_pos e]
  · rw [if_neg (show ¬ nI m = 0 by rw [e]; decide), if_neg (by omega)]
/-! the reference's sums -/
theorem Ct_le {e : Nat → Nat} {n S : Nat} (he : ∀ i, i < n → e i ≤ 396) : ∀ k, k ≤ n → Ct_ e S k ≤ 792 * k
  | 0, _ => Nat.le_refl _
  | k + 1, h => by
    have ih := Ct_le (S := S) he k (by omega)
    have h1 := he k (by omega)
    show Ct_ e S k + e k * (if S.testBit k = true then 2 else 1) ≤ 792 * (k + 1)
    split <;> omega
theorem ch112_ {al : Nat → Int32} {e : Nat → Nat} {n t S : Nat} (hn : n ≤ 11) (ht : t ≤ 10) (hal : ∀ i, i < n → al i = nI (e i)) (hS : S < 2 ^ 31) (k : Int64 → Int32 → Option (Int64 × (Nat → Int32) × (Nat → Int32))) : fn_X10_chance_l112 al (nI t) (nI n) (nI S) k fu_ 1 0 0 = k (lN (Wt_ t S n)) (nI (Ct_ e S n)) := by
  obtain ⟨st, e1, e2⟩ := lp_ n (fun m x (st : Int64 × Int32) => fn_X10_chance_l112 al (nI t) (nI n) (nI S) k m st.1 st.2 x) (fun st => k st.1 st.2) (fun i st => st = (lN (Wt_ t S i), nI (Ct_ e S i))) (by
    intro m i st hi hI
    subst hI
    show ∃ st' : Int64 × Int32, fn_X10_chance_b112 al (nI t) (nI n) (nI S) (fn_X10_chance_l112 al (nI t) (nI n) (nI S) k m) k (lN (Wt_ t S i)) (nI (Ct_ e S i)) (nI i) = fn_X10_chance_l112 al (nI t) (nI n) (nI S) k m st'.1 st'.2 (nI (i + 1)) ∧ st' = (lN (Wt_ t S i * (if S.testBit i = true then t else 10 - t)), nI (Ct_ e S i + e i * (if S.testBit i = true then 2 else 1)))
    unfold fn_X10_chance_b112
    rw [if_neg (nI_ge hi (by omega)), lx_so, ckn_ (show i < 12 by omega) (by omega), nI_clamp (by omega), hal i hi, lx_so, nI_1, ten_sub ht, nI_l (by omega), nI_l (by omega), lx_so, lx_so, lN_mul, lN_mul]
    by_cases eb : S.testBit i = true
    · rw [(bts_ hS (by omega)).mpr eb, if_pos rfl, if_pos eb, if_pos eb, show (1 : Int32) + 1 = nI 2 from rfl, pk_mul, nI_add]
      exact ⟨(_, _), rfl, rfl⟩
    · rw [(bts0_ hS (by omega)).mpr eb, if_neg (show ¬ (0 : Int32) = 1 by decide), if_neg eb, if_neg eb, show (1 : Int32) + 0 = nI 1 from rfl, pk_mul, nI_add]
      exact ⟨(_, _), rfl, rfl⟩) (by
    intro m st hI
    show fn_X10_chance_b112 al (nI t) (nI n) (nI S) (fn_X10_chance_l112 al (nI t) (nI n) (nI S) k m) k st.1 st.2 (nI n) = _
    unfold fn_X10_chance_b112
    rw [if_pos (Int32.le_refl _)]) n 0 fu_ (1, 0) (Nat.zero_add _) (fu_lt (by omega)) rfl
  refine Eq.trans e1 ?_
  rw [e2]
theorem ch94_ {al light : Nat → Int32} {e : Nat → Nat} {n t j L : Nat} (hn : n ≤ 11) (ht : t ≤ 10) (hal : ∀ i, i < n → al i = nI (e i)) (he : ∀ i, i < n → e i ≤ 396) (hj : j < 6) (hl : light j = nI L) (hL : L ≤ 999) (k : Int64 → Int64 → Int64 → Option (Int64 × (Nat → Int32) × (Nat → Int32))) : fn_X10_chance_l94 light al (nI j) (nI t) (nI n) k fu_ 0 0 0 0 = k (lN (Aq_ t e n (fun x => if x ≤ L then 1 else 0))) (lN (Aq_ t e n (fun _ => 1))) (lN (Aq_ t e n (fun x => x))) := by
  have h2 : 2 ^ n ≤ 2048 := Nat.pow_le_pow_right (n := 2) (by omega) hn
  obtain ⟨st, e1, e2⟩ := lp_ (2 ^ n) (fun m x (st : Int64 × Int64 × Int64) => fn_X10_chance_l94 light al (nI j) (nI t) (nI n) k m st.1 st.2.1 st.2.2 x) (fun st => k st.1 st.2.1 st.2.2) (fun i st => st = (lN (smq_ (fun S => Wt_ t S n * (if Ct_ e S n ≤ L then 1 else 0)) i), lN (smq_ (fun S => Wt_ t S n * 1) i), lN (smq_ (fun S => Wt_ t S n * Ct_ e S n) i))) (by
    intro m S st hS hI
    subst hI
    show ∃ st' : Int64 × Int64 × Int64, fn_X10_chance_b94 light al (nI j) (nI t) (nI n) (fn_X10_chance_l94 light al (nI j) (nI t) (nI n) k m) k (lN (smq_ (fun S => Wt_ t S n * (if Ct_ e S n ≤ L then 1 else 0)) S)) (lN (smq_ (fun S => Wt_ t S n * 1) S)) (lN (smq_ (fun S => Wt_ t S n * Ct_ e S n) S)) (nI S) = fn_X10_chance_l94 light al (nI j) (nI t) (nI n) k m st'.1 st'.2.1 st'.2.2 (nI (S + 1)) ∧ st' = (lN (smq_ (fun S => Wt_ t S n * (if Ct_ e S n ≤ L then 1 else 0)) S + Wt_ t S n * (if Ct_ e S n ≤ L then 1 else 0)), lN (smq_ (fun S => Wt_ t S n * 1) S + Wt_ t S n * 1), lN (smq_ (fun S => Wt_ t S n * Ct_ e S n) S + Wt_ t S n * Ct_ e S n))
    unfold fn_X10_chance_b94 fn_X10_chance_j198
    have hc := Ct_le (S := S) he n (Nat.le_refl _)
    rw [sh1_ (by omega), if_neg (nI_ge hS (by omega)), ch112_ hn ht hal (by omega), ckn_ hj (by omega), nI_clamp (by omega), hl, nI_1, lx_so, nI_l (show Ct_ e S n < 2 ^ 31 by omega), lN_mul, lN_add, lN_add, lN_add, Int64.add_zero, Nat.mul_one]
    by_cases el : Ct_ e S n ≤ L
    · rw [if_neg (nI_nlt el (by omega)), if_pos el, Nat.mul_one]
      exact ⟨(_, _, _), rfl, rfl⟩
    · rw [if_pos (nI_lt (by omega) (by omega)), if_neg el, Nat.mul_zero, Nat.add_zero]
      exact ⟨(_, _, _), rfl, rfl⟩) (by
    intro m st hI
    show fn_X10_chance_b94 light al (nI j) (nI t) (nI n) (fn_X10_chance_l94 light al (nI j) (nI t) (nI n) k m) k st.1 st.2.1 st.2.2 (nI (2 ^ n)) = _
    unfold fn_X10_chance_b94
    rw [sh1_ (by omega), if_pos (Int32.le_refl _)]) (2 ^ n) 0 fu_ (0, 0, 0) (Nat.zero_add _) (fu_lt (by omega)) rfl
  refine Eq.trans e1 ?_
  rw [e2]
  rfl
/-! the class's sums -/
theorem pm5_ {al : Nat → Int32} {e : Nat → Nat} {n : Nat} (hn : n ≤ 11) (hal : ∀ i, i < n → al i = nI (e i) ∧ 0 < e i ∧ e i ≤ 396) (k : Int64 → Option Int64) : fn_X3_partOfMean_l5 (nI n) al k fu_ 0 0 = k (lN (smq_ e n)) := by
  obtain ⟨st, e1, e2⟩ := lp_ n (fun m x (st : Int64) => fn_X3_partOfMean_l5 (nI n) al k m st x) k (fun i st => st = lN (smq_ e i)) (by
    intro m i st hi hI
    subst hI
    obtain ⟨a1, a2, a3⟩ := hal i hi
    show ∃ st', fn_X3_partOfMean_b5 (nI n) al (fn_X3_partOfMean_l5 (nI n) al k m) k (lN (smq_ e i)) (nI i) = fn_X3_partOfMean_l5 (nI n) al k m st' (nI (i + 1)) ∧ st' = lN (smq_ e i + e i)
    unfold fn_X3_partOfMean_b5
    rw [if_neg (nI_ge hi (by omega)), ckn_ (show i < 12 by omega) (by omega), nI_clamp (by omega), a1, nI_l (by omega), lN_add, lx_so, nI_1]
    exact ⟨_, rfl, rfl⟩) (by
    intro m st hI
    show fn_X3_partOfMean_b5 (nI n) al (fn_X3_partOfMean_l5 (nI n) al k m) k st (nI n) = _
    unfold fn_X3_partOfMean_b5
    rw [if_pos (Int32.le_refl _)]) n 0 fu_ 0 (Nat.zero_add _) (fu_lt (by omega)) rfl
  refine Eq.trans e1 ?_
  rw [e2]
theorem pe5_ {n : Nat} (hn : n ≤ 11) (k : Int64 → Option Int64) : fn_X3_partOfEnough_l5 (nI n) k fu_ 1 0 = k (lN (10 ^ n)) := by
  obtain ⟨st, e1, e2⟩ := lp_ n (fun m x (st : Int64) => fn_X3_partOfEnough_l5 (nI n) k m st x) k (fun i st => st = lN (10 ^ i)) (by
    intro m i st hi hI
    subst hI
    show ∃ st', fn_X3_partOfEnough_b5 (nI n) (fn_X3_partOfEnough_l5 (nI n) k m) k (lN (10 ^ i)) (nI i) = fn_X3_partOfEnough_l5 (nI n) k m st' (nI (i + 1)) ∧ st' = lN (10 ^ (i + 1))
    unfold fn_X3_partOfEnough_b5
    rw [if_neg (nI_ge hi (by omega)), show (10 : Int64) = lN 10 from rfl, lN_mul, nI_1, Nat.pow_succ]
    exact ⟨_, rfl, rfl⟩) (by
    intro m st hI
    show fn_X3_partOfEnough_b5 (nI n) (fn_X3_partOfEnough_l5 (nI n) k m) k st (nI n) = _
    unfold fn_X3_partOfEnough_b5
    rw [if_pos (Int32.le_refl _)]) n 0 fu_ 1 (Nat.zero_add _) (fu_lt (by omega)) rfl
  refine Eq.trans e1 ?_
  rw [e2]
theorem smq_le {e : Nat → Nat} {n : Nat} (he : ∀ i, i < n → e i ≤ 396) : ∀ k, k ≤ n → smq_ e k ≤ 396 * k
  | 0, _ => Nat.le_refl _
  | k + 1, h => by
    have ih := smq_le he k (by omega)
    have h1 := he k (by omega)
    show smq_ e k + e k ≤ 396 * (k + 1)
    omega
theorem smq_lef {f g : Nat → Nat} : ∀ n, (∀ j, j < n → f j ≤ g j) → smq_ f n ≤ smq_ g n
  | 0, _ => Nat.le_refl _
  | n + 1, h => Nat.add_le_add (smq_lef n (fun j hj => h j (by omega))) (h n (by omega))
theorem Aq_le {t : Nat} (ht : t ≤ 10) {e : Nat → Nat} {n : Nat} {φ : Nat → Nat} (h : ∀ x, φ x ≤ 1) : Aq_ t e n φ ≤ 10 ^ n := by
  rw [← Aq_one ht e n]
  unfold Aq_
  exact smq_lef _ (fun S _ => Nat.mul_le_mul_left _ (h _))
/-- the mean, in lowest terms, of both -/
theorem mean_ {t : Nat} (ht : t ≤ 10) (e : Nat → Nat) (n m : Nat) : (if m = 0 then (smq_ e n * (10 + t)) / Nat.gcd 10 (smq_ e n * (10 + t)) else 10 / Nat.gcd 10 (smq_ e n * (10 + t))) = (if m = 0 then Aq_ t e n (fun x => x) / Nat.gcd (10 ^ n) (Aq_ t e n (fun x => x)) else 10 ^ n / Nat.gcd (10 ^ n) (Aq_ t e n (fun x => x))) := by
  have hm := Aq_mean ht e n
  cases n with
  | zero =>
    show (if m = 0 then (0 * (10 + t)) / Nat.gcd 10 (0 * (10 + t)) else 10 / Nat.gcd 10 (0 * (10 + t))) = (if m = 0 then 0 / Nat.gcd 1 0 else 1 / Nat.gcd 1 0)
    rw [Nat.zero_mul]
    split <;> rfl
  | succ n =>
    generalize smq_ e (n + 1) * (10 + t) = Y at *
    generalize Aq_ t e (n + 1) (fun x => x) = X at *
    have hX : X = 10 ^ n * Y := by
      rw [Nat.pow_succ, Nat.mul_right_comm] at hm
      exact Nat.eq_of_mul_eq_mul_right (by omega) hm
    have hq : 0 < 10 ^ n := Nat.pow_pos (by omega)
    rw [hX, Nat.pow_succ, Nat.gcd_mul_left, Nat.mul_div_mul_left _ _ hq, Nat.mul_div_mul_left _ _ hq]
theorem p10_ {n : Nat} (hn : n ≤ 11) : 10 ^ n ≤ 100000000000 := Nat.pow_le_pow_right (n := 10) (by omega) hn
