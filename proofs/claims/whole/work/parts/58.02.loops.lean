/-! ===== loops ===== -/
theorem lp_ {σ α : Type} (N : Nat) (L : Nat → Int32 → σ → Option α) (k : σ → Option α) (I : Nat → σ → Prop) (hs : ∀ n i st, i < N → I i st → ∃ st', L (n + 1) (nI i) st = L n (nI (i + 1)) st' ∧ I (i + 1) st') (he : ∀ n st, I N st → L (n + 1) (nI N) st = k st) : ∀ (d i n : Nat) (st : σ), i + d = N → d < n → I i st → ∃ st', L n (nI i) st = k st' ∧ I N st'
  | 0, i, 0, st, h1, h2, h3 => absurd h2 (by omega)
  | 0, i, n + 1, st, h1, h2, h3 => by
    have e : i = N := by omega
    subst e
    exact ⟨st, he n st h3, h3⟩
  | d + 1, i, 0, st, h1, h2, h3 => absurd h2 (by omega)
  | d + 1, i, n + 1, st, h1, h2, h3 => by
    obtain ⟨st1, e1, h4⟩ := hs n i st (by omega) h3
    obtain ⟨st2, e2, h5⟩ := lp_ N L k I hs he d (i + 1) n st1 (by omega) (by omega) h4
    exact ⟨st2, e1.trans e2, h5⟩
def fl_ {σ : Type} (f : Nat → σ → σ) : Nat → Nat → σ → σ
  | 0, _, s => s
  | d + 1, i, s => fl_ f d (i + 1) (f i s)
theorem lf_ {σ α : Type} (N : Nat) (L : Nat → Int32 → σ → Option α) (k : σ → Option α) (f : Nat → σ → σ) (hs : ∀ n i st, i < N → L (n + 1) (nI i) st = L n (nI (i + 1)) (f i st)) (he : ∀ n st, L (n + 1) (nI N) st = k st) : ∀ (d i n : Nat) (st : σ), i + d = N → d < n → L n (nI i) st = k (fl_ f d i st)
  | 0, i, 0, st, h1, h2 => absurd h2 (by omega)
  | 0, i, n + 1, st, h1, h2 => by
    have e : i = N := by omega
    subst e
    exact he n st
  | d + 1, i, 0, st, h1, h2 => absurd h2 (by omega)
  | d + 1, i, n + 1, st, h1, h2 => (hs n i st (by omega)).trans (lf_ N L k f hs he d (i + 1) n (f i st) (by omega) (by omega))
theorem fl_congr {σ : Type} {f g : Nat → σ → σ} : ∀ (d i : Nat) (s : σ), (∀ j t, i ≤ j → j < i + d → f j t = g j t) → fl_ f d i s = fl_ g d i s
  | 0, _, _, _ => rfl
  | d + 1, i, s, h => by
    show fl_ f d (i + 1) (f i s) = fl_ g d (i + 1) (g i s)
    rw [h i s (Nat.le_refl _) (by omega)]
    exact fl_congr d (i + 1) _ (fun j t h1 h2 => h j t (by omega) (by omega))
def fs_ {α : Type} (P : Nat → Bool) (f : Nat → α) (z : α) : Nat → Nat → α
  | 0, _ => z
  | d + 1, i => if P i = true then f i else fs_ P f z d (i + 1)
theorem ls_ {α : Type} (N : Nat) (L : Nat → Int32 → Option α) (P : Nat → Bool) (f : Nat → Option α) (k : Option α) (hs : ∀ n i, i < N → L (n + 1) (nI i) = if P i = true then f i else L n (nI (i + 1))) (he : ∀ n, L (n + 1) (nI N) = k) : ∀ (d i n : Nat), i + d = N → d < n → L n (nI i) = fs_ P f k d i
  | 0, i, 0, h1, h2 => absurd h2 (by omega)
  | 0, i, n + 1, h1, h2 => by
    have e : i = N := by omega
    subst e
    exact he n
  | d + 1, i, 0, h1, h2 => absurd h2 (by omega)
  | d + 1, i, n + 1, h1, h2 => by
    rw [hs n i (by omega), ls_ N L P f k hs he d (i + 1) n (by omega) (by omega)]
    rfl
theorem fs_congr {α : Type} {P Q : Nat → Bool} {f : Nat → α} {z : α} : ∀ (d i : Nat), (∀ j, i ≤ j → j < i + d → P j = Q j) → fs_ P f z d i = fs_ Q f z d i
  | 0, _, _ => rfl
  | d + 1, i, h => by
    show (if P i = true then f i else fs_ P f z d (i + 1)) = (if Q i = true then f i else fs_ Q f z d (i + 1))
    rw [h i (Nat.le_refl _) (by omega), fs_congr d (i + 1) (fun j h1 h2 => h j (by omega) (by omega))]
theorem fs_map {α β : Type} {P : Nat → Bool} {f : Nat → α} {z : α} (m : α → β) : ∀ (d i : Nat), fs_ P (fun j => m (f j)) (m z) d i = m (fs_ P f z d i)
  | 0, _ => rfl
  | d + 1, i => by
    show (if P i = true then m (f i) else fs_ P (fun j => m (f j)) (m z) d (i + 1)) = m (if P i = true then f i else fs_ P f z d (i + 1))
    rw [fs_map m d (i + 1)]
    by_cases e : P i = true
    · rw [if_pos e, if_pos e]
    · rw [if_neg e, if_neg e]
theorem lx_so {α β : Type} (e : α) (k : α → β) : lx_ e k = k e := Eq.trans rfl rfl
theorem fu_lt {d : Nat} (h : d < 5000) : d < fu_ := h
theorem b2_so {α1 α2 β : Type} (x : α1) (y : α2) (k : α1 → α2 → Option β) : b2_ (some (x, y)) k = k x y := rfl
theorem b3_so {α1 α2 α3 β : Type} (x : α1) (y : α2) (z : α3) (k : α1 → α2 → α3 → Option β) : b3_ (some (x, y, z)) k = k x y z := rfl
theorem b4_so {α1 α2 α3 α4 β : Type} (x : α1) (y : α2) (z : α3) (u : α4) (k : α1 → α2 → α3 → α4 → Option β) : b4_ (some (x, y, z, u)) k = k x y z u := rfl
theorem b6_so {α1 α2 α3 α4 α5 α6 β : Type} (x : α1) (y : α2) (z : α3) (u : α4) (v : α5) (t : α6) (k : α1 → α2 → α3 → α4 → α5 → α6 → Option β) : b6_ (some (x, y, z, u, v, t)) k = k x y z u v t := rfl
/-! ===== bits ===== -/
theorem sl_ : ∀ n, n < 32 → ((nI n &&& 31).toBitVec.smod 32).toNat = n := by decide +kernel
theorem nor_ (a b : Nat) : nI a ||| nI b = nI (a ||| b) := by
  apply Int32.toBitVec_inj.1
  show BitVec.ofNat 32 a ||| BitVec.ofNat 32 b = BitVec.ofNat 32 (a ||| b)
  apply BitVec.eq_of_getLsbD_eq
  intro i hi
  rw [BitVec.getLsbD_or, BitVec.getLsbD_ofNat, BitVec.getLsbD_ofNat, BitVec.getLsbD_ofNat, Nat.testBit_or, decide_eq_true hi, Bool.true_and, Bool.true_and, Bool.true_and]
theorem sh1_ {j : Nat} (hj : j < 31) : (1 : Int32) <<< (nI j &&& 31) = nI (2 ^ j) := by
  have h : 2 ^ j < 2 ^ 32 := Nat.pow_lt_pow_right (by omega) (by omega)
  have e := pk_shlN (n := 1) (nI j &&& 31) j (sl_ j (by omega)) (by rw [Nat.one_mul]; exact h)
  rw [Nat.one_mul] at e
  exact e
theorem nor2_ {n j : Nat} (h : n < 2 ^ j) : n ||| 2 ^ j = n + 2 ^ j := by
  have e := Nat.two_pow_add_eq_or_of_lt h 1
  rw [Nat.mul_one] at e
  rw [Nat.or_comm, ← e, Nat.add_comm]
theorem or1_ {n j : Nat} (hj : j < 31) (hn : n < 2 ^ j) : nI n ||| ((1 : Int32) <<< (nI j &&& 31)) = nI (n + 2 ^ j) := by
  rw [sh1_ hj, nor_, nor2_ hn]
theorem bts_ {S j : Nat} (hS : S < 2 ^ 31) (hj : j < 32) : (((nI S >>> (nI j &&& 31)) &&& 1) = 1) ↔ S.testBit j = true := by
  have h2 : S / 2 ^ j ≤ S := Nat.div_le_self _ _
  rw [pk_shrN hS (nI j &&& 31) j (sl_ j hj), pk_andN (n := S / 2 ^ j) (by omega) 1 rfl, show (1 : Int32) = nI 1 from rfl, nI_eq (by omega) (by omega), Nat.testBit_eq_decide_div_mod_eq, decide_eq_true_iff]
theorem isIn_ {S j : Nat} (hS : S < 2 ^ 31) (hj : j < 32) : fn_X9_isIn (nI S) (nI j) = some (if S.testBit j = true then 1 else 0) := by
  unfold fn_X9_isIn
  by_cases e : S.testBit j = true
  · rw [if_pos e, if_pos ((bts_ hS hj).mpr e)]
  · rw [if_neg e, if_neg (fun q => e ((bts_ hS hj).mp q))]
theorem has_ {T j : Nat} (hT : T < 64) (hj : j < 6) : fn_X0_has (nI T) (nI j) = some (if T.testBit j = true then 1 else 0) ∧ fn_X10_isWalker (nI T) (nI j) = some (if T.testBit j = true then 1 else 0) := by
  rcases hs_ hT (nI j) with ⟨r1, r2, r3⟩ | ⟨i, hi, e, hb, r1, r2⟩
  · have e := r3 j hj rfl
    rw [if_neg (by rw [e]; decide)]
    exact ⟨r1, r2⟩
  · have e2 := (nI_eq (a := j) (b := i) (by omega) (by omega)).mp e
    subst e2
    rw [if_pos hb]
    exact ⟨r1, r2⟩
/-! ===== numbers ===== -/
theorem dv12_ {k : Nat} (h : k < 2 ^ 31) : nI k / 12 = nI (k / 12) := pk_div (d := 12) h (by omega) (by omega)
theorem md12_ {k : Nat} (h : k < 2 ^ 31) : nI k - nI (k / 12) * 12 = nI (k % 12) := by
  rw [← dv12_ h]
  exact pk_rem (d := 12) h (by omega) (by omega)
theorem l12_ : (12 : Int32) = nI 12 := rfl
theorem l6_ : (6 : Int32) = nI 6 := rfl
theorem l144_ : (144 : Int32) = nI 144 := rfl
theorem lfar_ : (1000000 : Int32) = nI 1000000 := rfl
theorem n6_ne {n : Nat} (h : n < 2 ^ 31) : ¬ nI n = (-6) := fun e => by
  have h2 := congrArg Int32.toInt e
  rw [nI_toInt h] at h2
  have : (-6 : Int32).toInt = -6 := rfl
  omega
theorem n6_lt0 : (-6 : Int32) < 0 := by decide
theorem co_le {s w : Nat → Nat} {F k : Nat} (h1 : s k ≤ 99) (h2 : w k ≤ 1) (hF : F ≤ 1) : co_ s w F k ≤ 396 := by
  have := Nat.mul_le_mul (Nat.mul_le_mul h1 (show w k + 1 ≤ 2 by omega)) (show F + 1 ≤ 2 by omega)
  exact this
theorem co_pos {s w : Nat → Nat} {F k : Nat} (h : s k ≠ 0) : 0 < co_ s w F k := Nat.mul_pos (Nat.mul_pos (by omega) (by omega)) (by omega)
theorem co_0 {s w : Nat → Nat} {F k : Nat} (h : s k = 0) : co_ s w F k = 0 := by
  unfold co_; rw [h, Nat.zero_mul, Nat.zero_mul]
theorem cost_ {codes steps wet : Nat → Int32} {s w : Nat → Nat} (h1 : pl_ codes steps wet s w) {F : Nat} {p q : Nat} (hp : p < 12) (hq : q < 12) : fn_X10_cost (nI F) steps wet (nI p) (nI q) = some (if s (12 * p + q) = 0 then (-6) else nI (co_ s w F (12 * p + q))) := by
  obtain ⟨a1, a2, a3, a4, a5⟩ := h1 (12 * p + q) (by omega)
  unfold fn_X10_cost fn_X10_costIn fn_X10_at
  simp (disch := omega) only [b1_so, b2_so, b3_so, b4_so, lx_so, ckn_, nI_clamp, ix1_, ix2_, nI_1, a3, a4, pk_mul]
  by_cases e : s (12 * p + q) = 0
  · rw [if_pos e, if_pos (show nI (s (12 * p + q)) = 0 by rw [e]; rfl)]
    rfl
  · rw [if_neg e, if_neg (show ¬ nI (s (12 * p + q)) = 0 from ne_nI (b := 0) (by omega) (by omega) e)]
    rfl
theorem costs_ {codes steps wet : Nat → Int32} {s w : Nat → Nat} (h1 : pl_ codes steps wet s w) {F : Nat} (hF : F ≤ 1) {p q : Nat} (hp : p < 12) (hq : q < 12) : fn_X2_costs codes (nI p) (nI q) (nI F) = some (nI (co_ s w F (12 * p + q))) := by
  obtain ⟨a1, a2, a3, a4, a5⟩ := h1 (12 * p + q) (by omega)
  unfold fn_X2_costs fn_X2_costs_j28
  rw [code_ hp hq, b1_so, a5]
  by_cases e : s (12 * p + q) = 0
  · rw [show cd_ s w (12 * p + q) = 0 from if_pos e, co_0 e]
    rcases (show F = 0 ∨ F = 1 by omega) with e1 | e1 <;> subst e1 <;> rfl
  · rw [show cd_ s w (12 * p + q) = 2 * s (12 * p + q) + w (12 * p + q) from if_neg e]
    have d2 : nI (2 * s (12 * p + q) + w (12 * p + q)) / 2 = nI (s (12 * p + q)) := by
      rw [show (2 : Int32) = nI 2 from rfl, pk_div (by omega) (by omega) (by omega), show (2 * s (12 * p + q) + w (12 * p + q)) / 2 = s (12 * p + q) by omega]
    rw [d2, show (2 : Int32) = nI 2 from rfl, pk_mul, pk_sub (by omega), show 2 * s (12 * p + q) + w (12 * p + q) - s (12 * p + q) * 2 = w (12 * p + q) by omega]
    unfold co_
    rcases (show w (12 * p + q) = 0 ∨ w (12 * p + q) = 1 by omega) with e1 | e1
    · rw [e1, if_neg (show ¬ nI 0 = 1 by decide)]
      rcases (show F = 0 ∨ F = 1 by omega) with e2 | e2
      · subst e2
        rw [if_pos (show nI 0 = 0 from rfl), Nat.zero_add, Nat.mul_one, Nat.mul_one]
      · subst e2
        rw [if_neg (show ¬ nI 1 = 0 by decide), pk_mul, Nat.zero_add, Nat.mul_one, Nat.mul_comm]
    · rw [e1, if_pos (show nI 1 = 1 from rfl)]
      rcases (show F = 0 ∨ F = 1 by omega) with e2 | e2
      · subst e2
        rw [if_pos (show nI 0 = 0 from rfl), Nat.zero_add, Nat.mul_one]
      · subst e2
        rw [if_neg (show ¬ nI 1 = 0 by decide), pk_mul, Nat.mul_comm]
theorem between_ {L : Nat → Int32} {p q : Nat} (hp : p < 12) (hq : q < 12) : fn_X8_between L (nI p) (nI q) = some (L (12 * p + q)) := by
  unfold fn_X8_between
  simp (disch := omega) only [b1_so, b2_so, b3_so, b4_so, lx_so, ckn_, nI_clamp, ix1_, ix2_, nI_1]
theorem plankCosts_ {L : Nat → Int32} {p q : Nat} (hp : p < 12) (hq : q < 12) : fn_X8_plankCosts L (nI p) (nI q) = some (L (12 * p + q)) := by
  unfold fn_X8_plankCosts
  simp (disch := omega) only [b1_so, b2_so, b3_so, b4_so, lx_so, ckn_, nI_clamp, ix1_, ix2_, nI_1]
