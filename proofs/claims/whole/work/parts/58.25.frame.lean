/-! ===== the least that joins: the reference's way, and any cut's least plank ===== -/
def cnq_ (V : Nat → Bool) : Nat → Nat
  | 0 => 0
  | n + 1 => cnq_ V n + (if V n = true then 1 else 0)
theorem cnq_le (V : Nat → Bool) : ∀ n, cnq_ V n ≤ n
  | 0 => Nat.le_refl _
  | n + 1 => by
    have := cnq_le V n
    show cnq_ V n + (if V n = true then 1 else 0) ≤ n + 1
    split <;> omega
theorem cnq_mono {V V' : Nat → Bool} : ∀ n, (∀ k, k < n → V' k = true → V k = true) → cnq_ V' n ≤ cnq_ V n
  | 0, _ => Nat.le_refl _
  | n + 1, h => by
    have ih := cnq_mono n (fun k hk => h k (by omega))
    have hn := h n (by omega)
    show cnq_ V' n + (if V' n = true then 1 else 0) ≤ cnq_ V n + (if V n = true then 1 else 0)
    by_cases e : V' n = true
    · rw [if_pos e, if_pos (hn e)]; omega
    · rw [if_neg e]; omega
theorem cnq_lt {V V' : Nat → Bool} {k0 : Nat} (h1 : V k0 = true) (h2 : ¬ V' k0 = true) : ∀ n, k0 < n → (∀ k, k < n → V' k = true → V k = true) → cnq_ V' n < cnq_ V n
  | 0, h, _ => absurd h (by omega)
  | n + 1, h, hk => by
    have hn := hk n (by omega)
    show cnq_ V' n + (if V' n = true then 1 else 0) < cnq_ V n + (if V n = true then 1 else 0)
    by_cases e : k0 = n
    · subst e
      have := cnq_mono k0 (fun k hk' => hk k (by omega))
      rw [if_neg h2, if_pos h1]; omega
    · have ih := cnq_lt h1 h2 n (by omega) (fun k hk' => hk k (by omega))
      by_cases e2 : V' n = true
      · rw [if_pos e2, if_pos (hn e2)]; omega
      · rw [if_neg e2]; omega
def pkf_ (c : Nat → Nat) (V : Nat → Bool) (k : Nat) (st : Nat × Nat) : Nat × Nat := if V k = true ∧ (st.1 = 144 ∨ c k < st.2) then (k, c k) else st
/-- the first of the least; 144: there is none -/
def pick_ (c : Nat → Nat) (V : Nat → Bool) : Nat := (fl_ (pkf_ c V) 144 0 (144, 0)).1
theorem fl_inv {σ : Type} {f : Nat → σ → σ} {I : Nat → σ → Prop} (h : ∀ j st, I j st → I (j + 1) (f j st)) : ∀ (d i : Nat) (st : σ), I i st → I (i + d) (fl_ f d i st)
  | 0, i, st, hi => hi
  | d + 1, i, st, hi => by
    have := fl_inv h d (i + 1) (f i st) (h i st hi)
    rw [show i + 1 + d = i + (d + 1) by omega] at this
    exact this
theorem pick_spec (c : Nat → Nat) (V : Nat → Bool) : (pick_ c V = 144 ∧ ∀ k, k < 144 → ¬ V k = true) ∨ (pick_ c V < 144 ∧ V (pick_ c V) = true ∧ ∀ k, k < 144 → V k = true → c (pick_ c V) ≤ c k) := by
  have key := fl_inv (f := pkf_ c V) (I := fun i st => (st.1 = 144 ∧ ∀ k, k < i → ¬ V k = true) ∨ (st.1 < i ∧ st.1 ≠ 144 ∧ V st.1 = true ∧ st.2 = c st.1 ∧ ∀ k, k < i → V k = true → c st.1 ≤ c k) ∨ 144 < i) (by
    intro j st hI
    rcases Nat.lt_or_ge j 144 with hj | hj
    · unfold pkf_
      rcases hI with ⟨e1, e2⟩ | ⟨e1, e2, e3, e4, e5⟩ | e
      · by_cases ev : V j = true
        · rw [if_pos ⟨ev, Or.inl e1⟩]
          refine Or.inr (Or.inl ⟨by show j < j + 1; omega, by show j ≠ 144; omega, ev, rfl, fun k hk hv => ?_⟩)
          rcases (show k < j ∨ k = j by omega) with q | q
          · exact absurd hv (e2 k q)
          · subst q; exact Nat.le_refl _
        · rw [if_neg (fun hh => ev hh.1)]
          refine Or.inl ⟨e1, fun k hk => ?_⟩
          rcases (show k < j ∨ k = j by omega) with q | q
          · exact e2 k q
          · subst q; exact ev
      · by_cases ev : V j = true ∧ c j < st.2
        · rw [if_pos ⟨ev.1, Or.inr ev.2⟩]
          refine Or.inr (Or.inl ⟨by show j < j + 1; omega, by show j ≠ 144; omega, ev.1, rfl, fun k hk hv => ?_⟩)
          rcases (show k < j ∨ k = j by omega) with q | q
          · have := e5 k q hv
            show c j ≤ c k
            omega
          · subst q; exact Nat.le_refl _
        · rw [if_neg (fun hh => hh.2.elim e2 (fun q => ev ⟨hh.1, q⟩))]
          refine Or.inr (Or.inl ⟨by omega, e2, e3, e4, fun k hk hv => ?_⟩)
          rcases (show k < j ∨ k = j by omega) with q | q
          · exact e5 k q hv
          · subst q
            rcases Nat.lt_or_ge (c k) st.2 with q | q
            · exact absurd ⟨hv, q⟩ ev
            · omega
      · exact absurd e (by omega)
    · exact Or.inr (Or.inr (by omega))) 144 0 (144, 0) (Or.inl ⟨rfl, fun k hk => absurd hk (by omega)⟩)
  rw [Nat.zero_add] at key
  rcases key with ⟨e1, e2⟩ | ⟨e1, e2, e3, e4, e5⟩ | e
  · exact Or.inl ⟨e1, e2⟩
  · exact Or.inr ⟨e1, e3, e5⟩
  · exact absurd e (by omega)
/-- planks between two groups -/
def Vk_ (s gr : Nat → Nat) (k : Nat) : Bool := decide (s k ≠ 0) && decide (gr (k / 12) ≠ gr (k % 12))
theorem Vk_t {s gr : Nat → Nat} {k : Nat} : Vk_ s gr k = true ↔ s k ≠ 0 ∧ gr (k / 12) ≠ gr (k % 12) := by
  unfold Vk_; rw [Bool.and_eq_true, decide_eq_true_iff, decide_eq_true_iff]
def adw_ (c : Nat) (r : Nat × Nat) : Nat × Nat := (c + r.1, 1 + r.2)
theorem adw_comm (a b : Nat) (r : Nat × Nat) : adw_ a (adw_ b r) = adw_ b (adw_ a r) := by
  unfold adw_
  show (a + (b + r.1), 1 + (1 + r.2)) = (b + (a + r.1), 1 + (1 + r.2))
  rw [show a + (b + r.1) = b + (a + r.1) by omega]
def krq_ (s c : Nat → Nat) : Nat → (Nat → Nat) → Nat × Nat
  | 0, _ => (0, 0)
  | f + 1, gr => if pick_ c (Vk_ s gr) = 144 then (0, 0) else adw_ (c (pick_ c (Vk_ s gr))) (krq_ s c f (jn_ gr (pick_ c (Vk_ s gr) / 12) (pick_ c (Vk_ s gr) % 12)))
def mu_ (s gr : Nat → Nat) : Nat := cnq_ (Vk_ s gr) 144
theorem mu_jn {s gr : Nat → Nat} {k : Nat} (hk : k < 144) (hv : Vk_ s gr k = true) : mu_ s (jn_ gr (k / 12) (k % 12)) < mu_ s gr := by
  refine cnq_lt hv (fun hh => (Vk_t.mp hh).2 jn_new) 144 hk (fun i hi hvi => ?_)
  obtain ⟨h1, h2⟩ := Vk_t.mp hvi
  exact Vk_t.mpr ⟨h1, fun e => h2 (jn_keep e)⟩
theorem krq_st {s c : Nat → Nat} : ∀ (f f' : Nat) (gr : Nat → Nat), mu_ s gr < f → mu_ s gr < f' → krq_ s c f gr = krq_ s c f' gr := by
  intro f
  induction f with
  | zero => intro f' gr h1 h2; exact absurd h1 (Nat.not_lt_zero _)
  | succ f ih =>
    intro f' gr h1 h2
    cases f' with
    | zero => exact absurd h2 (Nat.not_lt_zero _)
    | succ f' =>
      show (if pick_ c (Vk_ s gr) = 144 then (0, 0) else adw_ (c (pick_ c (Vk_ s gr))) (krq_ s c f (jn_ gr (pick_ c (Vk_ s gr) / 12) (pick_ c (Vk_ s gr) % 12)))) = (if pick_ c (Vk_ s gr) = 144 then (0, 0) else adw_ (c (pick_ c (Vk_ s gr))) (krq_ s c f' (jn_ gr (pick_ c (Vk_ s gr) / 12) (pick_ c (Vk_ s gr) % 12))))
      rcases pick_spec c (Vk_ s gr) with ⟨e1, -⟩ | ⟨e1, e2, -⟩
      · rw [if_pos e1, if_pos e1]
      · have hm := mu_jn e1 e2
        rw [if_neg (Nat.ne_of_lt e1), if_neg (Nat.ne_of_lt e1), ih f' _ (Nat.lt_of_lt_of_le hm (Nat.le_of_lt_succ h1)) (Nat.lt_of_lt_of_le hm (Nat.le_of_lt_succ h2))]
/-- what the reference's way costs from groups on, and how many planks it takes -/
def Kr_ (s c gr : Nat → Nat) : Nat × Nat := krq_ s c 200 gr
theorem mu_le (s gr : Nat → Nat) : mu_ s gr ≤ 144 := cnq_le _ 144
theorem Kr_eq (s c gr : Nat → Nat) : Kr_ s c gr = if pick_ c (Vk_ s gr) = 144 then (0, 0) else adw_ (c (pick_ c (Vk_ s gr))) (Kr_ s c (jn_ gr (pick_ c (Vk_ s gr) / 12) (pick_ c (Vk_ s gr) % 12))) := by
  show (if pick_ c (Vk_ s gr) = 144 then (0, 0) else adw_ (c (pick_ c (Vk_ s gr))) (krq_ s c 199 (jn_ gr (pick_ c (Vk_ s gr) / 12) (pick_ c (Vk_ s gr) % 12)))) = _
  rw [krq_st 199 200 _ (by have := mu_le s (jn_ gr (pick_ c (Vk_ s gr) / 12) (pick_ c (Vk_ s gr) % 12)); omega) (by have := mu_le s (jn_ gr (pick_ c (Vk_ s gr) / 12) (pick_ c (Vk_ s gr) % 12)); omega)]
  rfl
theorem jn_ker {gr : Nat → Nat} {a b x y : Nat} : jn_ gr a b x = jn_ gr a b y ↔ gr x = gr y ∨ (gr x = gr a ∧ gr y = gr b) ∨ (gr x = gr b ∧ gr y = gr a) := by
  unfold jn_
  by_cases e1 : gr x = gr b
  · by_cases e2 : gr y = gr b
    · rw [if_pos e1, if_pos e2]; omega
    · rw [if_pos e1, if_neg e2]; omega
  · by_cases e2 : gr y = gr b
    · rw [if_neg e1, if_pos e2]; omega
    · rw [if_neg e1, if_neg e2]; omega
theorem jn_swp (A B U V X Y : Nat) : (((X = Y ∨ (X = U ∧ Y = V) ∨ (X = V ∧ Y = U)) ∨ ((X = A ∨ (X = U ∧ A = V) ∨ (X = V ∧ A = U)) ∧ (Y = B ∨ (Y = U ∧ B = V) ∨ (Y = V ∧ B = U))) ∨ ((X = B ∨ (X = U ∧ B = V) ∨ (X = V ∧ B = U)) ∧ (Y = A ∨ (Y = U ∧ A = V) ∨ (Y = V ∧ A = U)))) → ((X = Y ∨ (X = A ∧ Y = B) ∨ (X = B ∧ Y = A)) ∨ ((X = U ∨ (X = A ∧ U = B) ∨ (X = B ∧ U = A)) ∧ (Y = V ∨ (Y = A ∧ V = B) ∨ (Y = B ∧ V = A))) ∨ ((X = V ∨ (X = A ∧ V = B) ∨ (X = B ∧ V = A)) ∧ (Y = U ∨ (Y = A ∧ U = B) ∨ (Y = B ∧ U = A))))) := by
  rintro ((h | ⟨h1, h2⟩ | ⟨h1, h2⟩) | ⟨h1 | ⟨h1, h2⟩ | ⟨h1, h2⟩, h3 | ⟨h3, h4⟩ | ⟨h3, h4⟩⟩ | ⟨h1 | ⟨h1, h2⟩ | ⟨h1, h2⟩, h3 | ⟨h3, h4⟩ | ⟨h3, h4⟩⟩) <;> subst_vars <;> simp
theorem jn_swap (gr : Nat → Nat) (a b u v x y : Nat) : jn_ (jn_ gr u v) a b x = jn_ (jn_ gr u v) a b y ↔ jn_ (jn_ gr a b) u v x = jn_ (jn_ gr a b) u v y := by
  simp only [jn_ker]
  exact ⟨jn_swp _ _ _ _ _ _, jn_swp _ _ _ _ _ _⟩
def ekq_ (gr gr' : Nat → Nat) : Prop := ∀ x y, x < 12 → y < 12 → (gr x = gr y ↔ gr' x = gr' y)
theorem ekq_jn {gr gr' : Nat → Nat} (h : ekq_ gr gr') {a b : Nat} (ha : a < 12) (hb : b < 12) : ekq_ (jn_ gr a b) (jn_ gr' a b) := by
  intro x y hx hy
  rw [jn_ker, jn_ker, h x y hx hy, h x a hx ha, h y b hy hb, h x b hx hb, h y a hy ha]
theorem fl_pkc {c : Nat → Nat} {V V' : Nat → Bool} (h : ∀ k, k < 144 → V k = V' k) : pick_ c V = pick_ c V' := by
  unfold pick_
  rw [fl_congr (g := pkf_ c V') 144 0 (144, 0) (fun j t _ hj => by unfold pkf_; rw [h j (by omega)])]
theorem Kr_congr {s c : Nat → Nat} : ∀ (f : Nat) (gr gr' : Nat → Nat), ekq_ gr gr' → krq_ s c f gr = krq_ s c f gr'
  | 0, _, _, _ => rfl
  | f + 1, gr, gr', h => by
    have hp : pick_ c (Vk_ s gr) = pick_ c (Vk_ s gr') := fl_pkc (fun k hk => by
      have hh := h (k / 12) (k % 12) (by omega) (by omega)
      unfold Vk_
      rw [show decide (gr (k / 12) ≠ gr (k % 12)) = decide (gr' (k / 12) ≠ gr' (k % 12)) from decide_eq_decide.mpr ⟨fun h e => h (hh.mpr e), fun h e => h (hh.mp e)⟩])
    show (if pick_ c (Vk_ s gr) = 144 then (0, 0) else adw_ (c (pick_ c (Vk_ s gr))) (krq_ s c f (jn_ gr (pick_ c (Vk_ s gr) / 12) (pick_ c (Vk_ s gr) % 12)))) = (if pick_ c (Vk_ s gr') = 144 then (0, 0) else adw_ (c (pick_ c (Vk_ s gr'))) (krq_ s c f (jn_ gr' (pick_ c (Vk_ s gr') / 12) (pick_ c (Vk_ s gr') % 12))))
    rw [← hp]
    rcases pick_spec c (Vk_ s gr) with ⟨e1, -⟩ | ⟨e1, e2, -⟩
    · rw [if_pos e1, if_pos e1]
    · rw [if_neg (by omega), if_neg (by omega), Kr_congr f _ _ (ekq_jn h (by omega) (by omega))]
/-- a plank that is least of all that leave a set of groups may be taken first -/
theorem cut_ {s c : Nat → Nat} (hsy : ∀ u v, u < 12 → v < 12 → s (12 * u + v) = s (12 * v + u) ∧ c (12 * u + v) = c (12 * v + u)) : ∀ (n : Nat) (gr : Nat → Nat), mu_ s gr ≤ n → ∀ (a b : Nat), a < 12 → b < 12 → s (12 * a + b) ≠ 0 → gr a ≠ gr b → ∀ J : Nat → Prop, (∀ x y, x < 12 → y < 12 → J x → gr x = gr y → J y) → J a → ¬ J b → (∀ u v, u < 12 → v < 12 → s (12 * u + v) ≠ 0 → J u → ¬ J v → c (12 * a + b) ≤ c (12 * u + v)) → Kr_ s c gr = adw_ (c (12 * a + b)) (Kr_ s c (jn_ gr a b)) := by
  intro n
  induction n with
  | zero =>
    intro gr hn a b ha hb hs hab J hJ hJa hJb hmin
    have hva : Vk_ s gr (12 * a + b) = true := Vk_t.mpr ⟨hs, by rw [show (12 * a + b) / 12 = a by omega, show (12 * a + b) % 12 = b by omega]; exact hab⟩
    exact absurd (Nat.lt_of_lt_of_le (mu_jn (show 12 * a + b < 144 by omega) hva) hn) (Nat.not_lt_zero _)
  | succ n' ih =>
    intro gr hn a b ha hb hs hab J hJ hJa hJb hmin
    have hkr := Kr_eq s c gr
    have hva : Vk_ s gr (12 * a + b) = true := Vk_t.mpr ⟨hs, by rw [show (12 * a + b) / 12 = a by omega, show (12 * a + b) % 12 = b by omega]; exact hab⟩
    rcases pick_spec c (Vk_ s gr) with ⟨-, e2⟩ | ⟨e1, e2, e3⟩
    · exact absurd hva (e2 _ (by omega))
    · generalize hk : pick_ c (Vk_ s gr) = k at hkr e1 e2 e3
      rw [if_neg (show ¬ k = 144 by omega)] at hkr
      obtain ⟨u, v, hu, hv, huv⟩ : ∃ u v, u < 12 ∧ v < 12 ∧ k = 12 * u + v := ⟨k / 12, k % 12, by omega, by omega, by omega⟩
      have ku : k / 12 = u := by omega
      have kv : k % 12 = v := by omega
      rw [ku, kv] at hkr
      obtain ⟨ks, kg⟩ := Vk_t.mp e2
      rw [ku, kv] at kg
      have hca : c k ≤ c (12 * a + b) := e3 _ (by omega) hva
      have hmu : mu_ s (jn_ gr u v) < mu_ s gr := by
        have := mu_jn e1 e2
        rw [ku, kv] at this
        exact this
      have hmu2 : mu_ s (jn_ gr a b) < mu_ s gr := by
        have := mu_jn (show 12 * a + b < 144 by omega) hva
        rw [show (12 * a + b) / 12 = a by omega, show (12 * a + b) % 12 = b by omega] at this
        exact this
      rw [hkr]
      -- does the plank that is taken cross the cut
      have cross : (J u ∧ ¬ J v) ∨ (J v ∧ ¬ J u) → c (12 * a + b) ≤ c k := by
        rintro (⟨q1, q2⟩ | ⟨q1, q2⟩)
        · rw [huv]; exact hmin u v hu hv (by rw [← huv]; exact ks) q1 q2
        · rw [huv, (hsy u v hu hv).2]
          exact hmin v u hv hu (by rw [← (hsy u v hu hv).1, ← huv]; exact ks) q1 q2
      by_cases same : (gr u = gr a ∧ gr v = gr b) ∨ (gr u = gr b ∧ gr v = gr a)
      · have hc : c (12 * a + b) ≤ c k := by
          rcases same with ⟨q1, q2⟩ | ⟨q1, q2⟩
          · exact cross (Or.inl ⟨hJ a u ha hu hJa q1.symm, fun h => hJb (hJ v b hv hb h q2)⟩)
          · exact cross (Or.inr ⟨hJ a v ha hv hJa q2.symm, fun h => hJb (hJ u b hu hb h q1)⟩)
        rw [show c k = c (12 * a + b) by omega]
        congr 1
        refine Kr_congr 200 _ _ (fun x y hx hy => ?_)
        rw [jn_ker, jn_ker]
        omega
      · -- the other plank is taken later
        have hab1 : jn_ gr u v a ≠ jn_ gr u v b := by
          intro hh
          rw [jn_ker] at hh
          omega
        have huv2 : jn_ gr a b u ≠ jn_ gr a b v := by
          intro hh
          rw [jn_ker] at hh
          omega
        have ih1 : Kr_ s c (jn_ gr u v) = adw_ (c (12 * a + b)) (Kr_ s c (jn_ (jn_ gr u v) a b)) := by
          by_cases hcr : (J u ∧ ¬ J v) ∨ (J v ∧ ¬ J u)
          · have hce := cross hcr
            refine ih (jn_ gr u v) (Nat.le_of_lt_succ (Nat.lt_of_lt_of_le hmu hn)) a b ha hb hs hab1 (fun z => jn_ gr u v a = jn_ gr u v z) (fun x y _ _ h1 h2 => h1.trans h2) rfl hab1 (fun p q hp hq hpq h1 h2 => ?_)
            refine Nat.le_trans hce (e3 _ (by omega) (Vk_t.mpr ⟨hpq, ?_⟩))
            rw [show (12 * p + q) / 12 = p by omega, show (12 * p + q) % 12 = q by omega]
            intro hh
            exact h2 (h1.trans (jn_keep hh))
          · refine ih (jn_ gr u v) (Nat.le_of_lt_succ (Nat.lt_of_lt_of_le hmu hn)) a b ha hb hs hab1 J (fun x y hx hy h1 h2 => ?_) hJa hJb hmin
            rw [jn_ker] at h2
            rcases h2 with q | ⟨q1, q2⟩ | ⟨q1, q2⟩
            · exact hJ x y hx hy h1 q
            · have ju := hJ x u hx hu h1 q1
              have jv : J v := Classical.byContradiction (fun h => hcr (Or.inl ⟨ju, h⟩))
              exact hJ v y hv hy jv q2.symm
            · have jv := hJ x v hx hv h1 q1
              have ju : J u := Classical.byContradiction (fun h => hcr (Or.inr ⟨jv, h⟩))
              exact hJ u y hu hy ju q2.symm
        have ih2 : Kr_ s c (jn_ gr a b) = adw_ (c k) (Kr_ s c (jn_ (jn_ gr a b) u v)) := by
          rw [huv]
          refine ih (jn_ gr a b) (Nat.le_of_lt_succ (Nat.lt_of_lt_of_le hmu2 hn)) u v hu hv (by rw [← huv]; exact ks) huv2 (fun z => jn_ gr a b u = jn_ gr a b z) (fun x y _ _ h1 h2 => h1.trans h2) rfl huv2 (fun p q hp hq hpq h1 h2 => ?_)
          rw [← huv]
          refine e3 _ (by omega) (Vk_t.mpr ⟨hpq, ?_⟩)
          rw [show (12 * p + q) / 12 = p by omega, show (12 * p + q) % 12 = q by omega]
          intro hh
          exact h2 (h1.trans (jn_keep hh))
        have hsame : Kr_ s c (jn_ (jn_ gr u v) a b) = Kr_ s c (jn_ (jn_ gr a b) u v) := by
          exact Kr_congr 200 _ _ (fun x y hx hy => jn_swap gr a b u v x y)
        rw [ih1, ih2, hsame, adw_comm]
