/-! ===== images of the reference ===== -/
abbrev A4_ : Type := Int32 × (Nat → Int32) × (Nat → Int32) × (Nat → Int32)
abbrev R13_ : Type := Int32 × Int32 × Int32 × Int32 × (Nat → Int32) × (Nat → Int32) × (Nat → Int32) × (Nat → Int32) × (Nat → Int32) × (Nat → Int32) × (Nat → Int32) × (Nat → Int32) × (Nat → Int32)
theorem pass_ {p : Nat} (hp : p < 700) (Z : Int32) (K : Nat → Int32) (v : Int32) : fn_X10_pass (nI p) Z K v = some (if Z = 0 then K p else v, nI (p + 1), upd K p (if Z = 0 then K p else v)) := by
  unfold fn_X10_pass fn_X10_pass_j20
  simp only [ckn_ hp (show 700 < 2 ^ 31 by omega), nI_clamp (show p < 2 ^ 31 by omega), lx_so, nI_1]
  by_cases e : Z = 0
  · rw [if_pos e, if_pos e]
  · rw [if_neg e, if_neg e]
/-- two rows, passed from p0 on: what is so when the first k are -/
def psI_ (Z : Int32) (p0 : Nat) (S0 W0 K0 : Nat → Int32) (k : Nat) (st : A4_) : Prop := st.1 = nI (p0 + 2 * k) ∧ (∀ q, q < k → st.2.1 q = st.2.2.2 (p0 + 2 * q) ∧ st.2.2.1 q = st.2.2.2 (p0 + 2 * q + 1)) ∧ (∀ q, k ≤ q → st.2.1 q = S0 q ∧ st.2.2.1 q = W0 q) ∧ (∀ i, i < p0 ∨ p0 + 2 * k ≤ i → st.2.2.2 i = K0 i) ∧ (Z = 0 → ∀ i, st.2.2.2 i = K0 i) ∧ (Z ≠ 0 → ∀ q, q < k → st.2.2.2 (p0 + 2 * q) = S0 q ∧ st.2.2.2 (p0 + 2 * q + 1) = W0 q)
theorem psI_st {Z : Int32} {p0 : Nat} {S0 W0 K0 : Nat → Int32} {k : Nat} {at0 : Int32} {S W K : Nat → Int32} (h : psI_ Z p0 S0 W0 K0 k (at0, S, W, K)) : psI_ Z p0 S0 W0 K0 (k + 1) (nI (p0 + 2 * k + 1 + 1), upd S k (if Z = 0 then K (p0 + 2 * k) else S k), upd W k (if Z = 0 then upd K (p0 + 2 * k) (if Z = 0 then K (p0 + 2 * k) else S k) (p0 + 2 * k + 1) else W k), upd (upd K (p0 + 2 * k) (if Z = 0 then K (p0 + 2 * k) else S k)) (p0 + 2 * k + 1) (if Z = 0 then upd K (p0 + 2 * k) (if Z = 0 then K (p0 + 2 * k) else S k) (p0 + 2 * k + 1) else W k)) := by
  obtain ⟨-, h2, h3, h4, h5, h6⟩ := h
  dsimp only at h2 h3 h4 h5 h6
  by_cases e : Z = 0
  · simp only [if_pos e, up_ne (show p0 + 2 * k + 1 ≠ p0 + 2 * k by omega)]
    have hk : ∀ i, upd (upd K (p0 + 2 * k) (K (p0 + 2 * k))) (p0 + 2 * k + 1) (K (p0 + 2 * k + 1)) i = K i := by
      intro i
      rw [up_nI, up_nI]
      by_cases e1 : i = p0 + 2 * k + 1
      · rw [if_pos e1, e1]
      · rw [if_neg e1]
        by_cases e2 : i = p0 + 2 * k
        · rw [if_pos e2, e2]
        · rw [if_neg e2]
    refine ⟨rfl, fun q hq => ?_, fun q hq => ?_, fun i hi => ?_, fun _ i => ?_, fun n => absurd e n⟩
    · show upd S k (K (p0 + 2 * k)) q = upd (upd K (p0 + 2 * k) (K (p0 + 2 * k))) (p0 + 2 * k + 1) (K (p0 + 2 * k + 1)) (p0 + 2 * q) ∧ upd W k (K (p0 + 2 * k + 1)) q = upd (upd K (p0 + 2 * k) (K (p0 + 2 * k))) (p0 + 2 * k + 1) (K (p0 + 2 * k + 1)) (p0 + 2 * q + 1)
      rw [hk, hk]
      by_cases eq : q = k
      · rw [eq, up_eq, up_eq]; exact ⟨rfl, rfl⟩
      · rw [up_ne eq, up_ne eq]; exact h2 q (by omega)
    · show upd S k _ q = _ ∧ upd W k _ q = _
      rw [up_ne (by omega), up_ne (by omega)]; exact h3 q (by omega)
    · exact (hk i).trans (h4 i (by omega))
    · exact (hk i).trans (h5 e i)
  · simp only [if_neg e]
    refine ⟨rfl, fun q hq => ?_, fun q hq => ?_, fun i hi => ?_, fun n => absurd n e, fun _ q hq => ?_⟩
    · show upd S k (S k) q = upd (upd K (p0 + 2 * k) (S k)) (p0 + 2 * k + 1) (W k) (p0 + 2 * q) ∧ upd W k (W k) q = upd (upd K (p0 + 2 * k) (S k)) (p0 + 2 * k + 1) (W k) (p0 + 2 * q + 1)
      by_cases eq : q = k
      · rw [eq, up_eq, up_eq, up_ne (by omega), up_eq, up_eq]; exact ⟨rfl, rfl⟩
      · rw [up_ne eq, up_ne eq, up_ne (by omega), up_ne (by omega), up_ne (by omega), up_ne (by omega)]; exact h2 q (by omega)
    · show upd S k _ q = _ ∧ upd W k _ q = _
      rw [up_ne (by omega), up_ne (by omega)]; exact h3 q (by omega)
    · show upd (upd K _ _) _ _ i = _
      rw [up_ne (by omega), up_ne (by omega)]; exact h4 i (by omega)
    · show upd (upd K _ _) _ _ (p0 + 2 * q) = _ ∧ upd (upd K _ _) _ _ (p0 + 2 * q + 1) = _
      by_cases eq : q = k
      · rw [eq, up_ne (by omega), up_eq, up_eq]; exact h3 k (Nat.le_refl _)
      · rw [up_ne (by omega), up_ne (by omega), up_ne (by omega), up_ne (by omega)]; exact h6 e q (by omega)
theorem ps38_ (Z : Int32) {p0 : Nat} (hp : p0 + 288 ≤ 700) (k : Int32 → (Nat → Int32) → (Nat → Int32) → (Nat → Int32) → Option R13_) (S0 W0 K0 : Nat → Int32) : ∃ S W K : Nat → Int32, fn_X10_passAll_l38 Z k fu_ 0 (nI p0) S0 W0 K0 = k (nI (p0 + 288)) S W K ∧ psI_ Z p0 S0 W0 K0 144 (nI (p0 + 288), S, W, K) := by
  obtain ⟨st, e1, e2⟩ := lp_ 144 (fun n x (st : A4_) => fn_X10_passAll_l38 Z k n x st.1 st.2.1 st.2.2.1 st.2.2.2) (fun st => k st.1 st.2.1 st.2.2.1 st.2.2.2) (psI_ Z p0 S0 W0 K0) (by
    intro n i st hi hI
    obtain ⟨at0, S, W, K⟩ := st
    have ea : at0 = nI (p0 + 2 * i) := hI.1
    show ∃ st' : A4_, fn_X10_passAll_b38 Z (fn_X10_passAll_l38 Z k n) k (nI i) at0 S W K = fn_X10_passAll_l38 Z k n (nI (i + 1)) st'.1 st'.2.1 st'.2.2.1 st'.2.2.2 ∧ _
    unfold fn_X10_passAll_b38
    rw [if_neg (show ¬ (144 : Int32) ≤ nI i from nI_ge (b := 144) hi (by omega)), ea]
    simp only [ckn_ hi (show 144 < 2 ^ 31 by omega), nI_clamp (show i < 2 ^ 31 by omega), lx_so, nI_1, pass_ (show p0 + 2 * i < 700 by omega), pass_ (show p0 + 2 * i + 1 < 700 by omega), b3_so]
    exact ⟨(_, _, _, _), rfl, psI_st hI⟩) (by
    intro n st hI
    show fn_X10_passAll_b38 Z (fn_X10_passAll_l38 Z k n) k (nI 144) st.1 st.2.1 st.2.2.1 st.2.2.2 = _
    unfold fn_X10_passAll_b38
    rw [if_pos (show (144 : Int32) ≤ nI 144 by decide)]) 144 0 fu_ (nI p0, S0, W0, K0) rfl (fu_lt (by omega)) ⟨rfl, fun q hq => absurd hq (by omega), fun q _ => ⟨rfl, rfl⟩, fun _ _ => rfl, fun _ _ => rfl, fun _ q hq => absurd hq (by omega)⟩
  obtain ⟨at0, S, W, K⟩ := st
  have ea : at0 = nI (p0 + 288) := e2.1
  subst ea
  exact ⟨S, W, K, e1, e2⟩
theorem ps163_ (Z : Int32) {p0 : Nat} (hp : p0 + 16 ≤ 700) (k : Int32 → (Nat → Int32) → (Nat → Int32) → (Nat → Int32) → Option R13_) (S0 W0 K0 : Nat → Int32) : ∃ S W K : Nat → Int32, fn_X10_passAll_l163 Z k fu_ 0 (nI p0) S0 W0 K0 = k (nI (p0 + 16)) S W K ∧ psI_ Z p0 S0 W0 K0 8 (nI (p0 + 16), S, W, K) := by
  obtain ⟨st, e1, e2⟩ := lp_ 8 (fun n x (st : A4_) => fn_X10_passAll_l163 Z k n x st.1 st.2.1 st.2.2.1 st.2.2.2) (fun st => k st.1 st.2.1 st.2.2.1 st.2.2.2) (psI_ Z p0 S0 W0 K0) (by
    intro n i st hi hI
    obtain ⟨at0, S, W, K⟩ := st
    have ea : at0 = nI (p0 + 2 * i) := hI.1
    show ∃ st' : A4_, fn_X10_passAll_b163 Z (fn_X10_passAll_l163 Z k n) k (nI i) at0 S W K = fn_X10_passAll_l163 Z k n (nI (i + 1)) st'.1 st'.2.1 st'.2.2.1 st'.2.2.2 ∧ _
    unfold fn_X10_passAll_b163
    rw [if_neg (show ¬ (8 : Int32) ≤ nI i from nI_ge (b := 8) hi (by omega)), ea]
    simp only [ckn_ hi (show 8 < 2 ^ 31 by omega), nI_clamp (show i < 2 ^ 31 by omega), lx_so, nI_1, pass_ (show p0 + 2 * i < 700 by omega), pass_ (show p0 + 2 * i + 1 < 700 by omega), b3_so]
    exact ⟨(_, _, _, _), rfl, psI_st hI⟩) (by
    intro n st hI
    show fn_X10_passAll_b163 Z (fn_X10_passAll_l163 Z k n) k (nI 8) st.1 st.2.1 st.2.2.1 st.2.2.2 = _
    unfold fn_X10_passAll_b163
    rw [if_pos (show (8 : Int32) ≤ nI 8 by decide)]) 8 0 fu_ (nI p0, S0, W0, K0) rfl (fu_lt (by omega)) ⟨rfl, fun q hq => absurd hq (by omega), fun q _ => ⟨rfl, rfl⟩, fun _ _ => rfl, fun _ _ => rfl, fun _ q hq => absurd hq (by omega)⟩
  obtain ⟨at0, S, W, K⟩ := st
  have ea : at0 = nI (p0 + 16) := e2.1
  subst ea
  exact ⟨S, W, K, e1, e2⟩
abbrev A6_ : Type := Int32 × (Nat → Int32) × (Nat → Int32) × (Nat → Int32) × (Nat → Int32) × (Nat → Int32)
def pqI_ (Z : Int32) (p0 : Nat) (A0 B0 C0 D0 K0 : Nat → Int32) (k : Nat) (st : A6_) : Prop := st.1 = nI (p0 + 4 * k) ∧ (∀ q, q < k → st.2.1 q = st.2.2.2.2.2 (p0 + 4 * q) ∧ st.2.2.1 q = st.2.2.2.2.2 (p0 + 4 * q + 1) ∧ st.2.2.2.1 q = st.2.2.2.2.2 (p0 + 4 * q + 2) ∧ st.2.2.2.2.1 q = st.2.2.2.2.2 (p0 + 4 * q + 3)) ∧ (∀ q, k ≤ q → st.2.1 q = A0 q ∧ st.2.2.1 q = B0 q ∧ st.2.2.2.1 q = C0 q ∧ st.2.2.2.2.1 q = D0 q) ∧ (∀ i, i < p0 ∨ p0 + 4 * k ≤ i → st.2.2.2.2.2 i = K0 i) ∧ (Z = 0 → ∀ i, st.2.2.2.2.2 i = K0 i) ∧ (Z ≠ 0 → ∀ q, q < k → st.2.2.2.2.2 (p0 + 4 * q) = A0 q ∧ st.2.2.2.2.2 (p0 + 4 * q + 1) = B0 q ∧ st.2.2.2.2.2 (p0 + 4 * q + 2) = C0 q ∧ st.2.2.2.2.2 (p0 + 4 * q + 3) = D0 q)
theorem up_id {f : Nat → Int32} {k i : Nat} : upd f k (f k) i = f i := by
  rw [up_nI]
  by_cases e : i = k
  · rw [if_pos e, e]
  · rw [if_neg e]
theorem up_fid {f : Nat → Int32} {k : Nat} : upd f k (f k) = f := funext fun _ => up_id
theorem ps85_ (Z : Int32) {p0 : Nat} (hp : p0 + 24 ≤ 700) (k : Int32 → (Nat → Int32) → (Nat → Int32) → (Nat → Int32) → (Nat → Int32) → (Nat → Int32) → Option R13_) (A0 B0 C0 D0 K0 : Nat → Int32) : ∃ A B C D K : Nat → Int32, fn_X10_passAll_l85 Z k fu_ 0 (nI p0) A0 B0 C0 D0 K0 = k (nI (p0 + 24)) A B C D K ∧ pqI_ Z p0 A0 B0 C0 D0 K0 6 (nI (p0 + 24), A, B, C, D, K) := by
  obtain ⟨st, e1, e2⟩ := lp_ 6 (fun n x (st : A6_) => fn_X10_passAll_l85 Z k n x st.1 st.2.1 st.2.2.1 st.2.2.2.1 st.2.2.2.2.1 st.2.2.2.2.2) (fun st => k st.1 st.2.1 st.2.2.1 st.2.2.2.1 st.2.2.2.2.1 st.2.2.2.2.2) (pqI_ Z p0 A0 B0 C0 D0 K0) (by
    intro n i st hi hI
    obtain ⟨at0, A, B, C, D, K⟩ := st
    obtain ⟨ea, h2, h3, h4, h5, h6⟩ := hI
    dsimp only at ea h2 h3 h4 h5 h6
    show ∃ st' : A6_, fn_X10_passAll_b85 Z (fn_X10_passAll_l85 Z k n) k (nI i) at0 A B C D K = fn_X10_passAll_l85 Z k n (nI (i + 1)) st'.1 st'.2.1 st'.2.2.1 st'.2.2.2.1 st'.2.2.2.2.1 st'.2.2.2.2.2 ∧ _
    unfold fn_X10_passAll_b85
    rw [if_neg (show ¬ (6 : Int32) ≤ nI i from nI_ge (b := 6) hi (by omega)), ea]
    simp only [ckn_ hi (show 6 < 2 ^ 31 by omega), nI_clamp (show i < 2 ^ 31 by omega), lx_so, nI_1, pass_ (show p0 + 4 * i < 700 by omega), pass_ (show p0 + 4 * i + 1 < 700 by omega), pass_ (show p0 + 4 * i + 1 + 1 < 700 by omega), pass_ (show p0 + 4 * i + 1 + 1 + 1 < 700 by omega), b3_so]
    by_cases e : Z = 0
    · simp only [if_pos e, up_fid]
      refine ⟨(_, _, _, _, _, _), rfl, rfl, fun q hq => ?_, fun q hq => ?_, fun j hj => ?_, fun _ => h5 e, fun n => absurd e n⟩
      · show upd A i (K (p0 + 4 * i)) q = K (p0 + 4 * q) ∧ upd B i (K (p0 + 4 * i + 1)) q = K (p0 + 4 * q + 1) ∧ upd C i (K (p0 + 4 * i + 2)) q = K (p0 + 4 * q + 2) ∧ upd D i (K (p0 + 4 * i + 3)) q = K (p0 + 4 * q + 3)
        by_cases eq : q = i
        · rw [eq, up_eq, up_eq, up_eq, up_eq]; exact ⟨rfl, rfl, rfl, rfl⟩
        · rw [up_ne eq, up_ne eq, up_ne eq, up_ne eq]; exact h2 q (by omega)
      · show upd A i _ q = _ ∧ upd B i _ q = _ ∧ upd C i _ q = _ ∧ upd D i _ q = _
        rw [up_ne (by omega), up_ne (by omega), up_ne (by omega), up_ne (by omega)]; exact h3 q (by omega)
      · exact h4 j (by omega)
    · simp only [if_neg e, up_fid]
      refine ⟨(_, _, _, _, _, _), rfl, rfl, fun q hq => ?_, fun q hq => ?_, fun j hj => ?_, fun n => absurd n e, fun _ q hq => ?_⟩
      · show A q = upd (upd (upd (upd K (p0 + 4 * i) (A i)) (p0 + 4 * i + 1) (B i)) (p0 + 4 * i + 1 + 1) (C i)) (p0 + 4 * i + 1 + 1 + 1) (D i) (p0 + 4 * q) ∧ B q = upd (upd (upd (upd K (p0 + 4 * i) (A i)) (p0 + 4 * i + 1) (B i)) (p0 + 4 * i + 1 + 1) (C i)) (p0 + 4 * i + 1 + 1 + 1) (D i) (p0 + 4 * q + 1) ∧ C q = upd (upd (upd (upd K (p0 + 4 * i) (A i)) (p0 + 4 * i + 1) (B i)) (p0 + 4 * i + 1 + 1) (C i)) (p0 + 4 * i + 1 + 1 + 1) (D i) (p0 + 4 * q + 2) ∧ D q = upd (upd (upd (upd K (p0 + 4 * i) (A i)) (p0 + 4 * i + 1) (B i)) (p0 + 4 * i + 1 + 1) (C i)) (p0 + 4 * i + 1 + 1 + 1) (D i) (p0 + 4 * q + 3)
        simp only [up_nI]
        by_cases eq : q = i
        · subst eq
          refine ⟨?_, ?_, ?_, ?_⟩
          · rw [if_neg (by omega), if_neg (by omega), if_neg (by omega), if_pos rfl]
          · rw [if_neg (by omega), if_neg (by omega), if_pos rfl]
          · rw [if_neg (by omega), if_pos (by omega)]
          · rw [if_pos (by omega)]
        · obtain ⟨t1, t2, t3, t4⟩ := h2 q (by omega)
          refine ⟨?_, ?_, ?_, ?_⟩
          · rw [if_neg (by omega), if_neg (by omega), if_neg (by omega), if_neg (by omega), t1]
          · rw [if_neg (by omega), if_neg (by omega), if_neg (by omega), if_neg (by omega), t2]
          · rw [if_neg (by omega), if_neg (by omega), if_neg (by omega), if_neg (by omega), t3]
          · rw [if_neg (by omega), if_neg (by omega), if_neg (by omega), if_neg (by omega), t4]
      · exact h3 q (by omega)
      · show upd (upd (upd (upd K _ _) _ _) _ _) _ _ j = _
        rw [up_ne (by omega), up_ne (by omega), up_ne (by omega), up_ne (by omega)]; exact h4 j (by omega)
      · show upd (upd (upd (upd K (p0 + 4 * i) (A i)) (p0 + 4 * i + 1) (B i)) (p0 + 4 * i + 1 + 1) (C i)) (p0 + 4 * i + 1 + 1 + 1) (D i) (p0 + 4 * q) = A0 q ∧ upd (upd (upd (upd K (p0 + 4 * i) (A i)) (p0 + 4 * i + 1) (B i)) (p0 + 4 * i + 1 + 1) (C i)) (p0 + 4 * i + 1 + 1 + 1) (D i) (p0 + 4 * q + 1) = B0 q ∧ upd (upd (upd (upd K (p0 + 4 * i) (A i)) (p0 + 4 * i + 1) (B i)) (p0 + 4 * i + 1 + 1) (C i)) (p0 + 4 * i + 1 + 1 + 1) (D i) (p0 + 4 * q + 2) = C0 q ∧ upd (upd (upd (upd K (p0 + 4 * i) (A i)) (p0 + 4 * i + 1) (B i)) (p0 + 4 * i + 1 + 1) (C i)) (p0 + 4 * i + 1 + 1 + 1) (D i) (p0 + 4 * q + 3) = D0 q
        simp only [up_nI]
        by_cases eq : q = i
        · subst eq
          obtain ⟨t1, t2, t3, t4⟩ := h3 q (Nat.le_refl _)
          refine ⟨?_, ?_, ?_, ?_⟩
          · rw [if_neg (by omega), if_neg (by omega), if_neg (by omega), if_pos rfl, t1]
          · rw [if_neg (by omega), if_neg (by omega), if_pos rfl, t2]
          · rw [if_neg (by omega), if_pos (by omega), t3]
          · rw [if_pos (by omega), t4]
        · obtain ⟨t1, t2, t3, t4⟩ := h6 e q (by omega)
          refine ⟨?_, ?_, ?_, ?_⟩
          · rw [if_neg (by omega), if_neg (by omega), if_neg (by omega), if_neg (by omega), t1]
          · rw [if_neg (by omega), if_neg (by omega), if_neg (by omega), if_neg (by omega), t2]
          · rw [if_neg (by omega), if_neg (by omega), if_neg (by omega), if_neg (by omega), t3]
          · rw [if_neg (by omega), if_neg (by omega), if_neg (by omega), if_neg (by omega), t4]) (by
    intro n st hI
    show fn_X10_passAll_b85 Z (fn_X10_passAll_l85 Z k n) k (nI 6) st.1 st.2.1 st.2.2.1 st.2.2.2.1 st.2.2.2.2.1 st.2.2.2.2.2 = _
    unfold fn_X10_passAll_b85
    rw [if_pos (show (6 : Int32) ≤ nI 6 by decide)]) 6 0 fu_ (nI p0, A0, B0, C0, D0, K0) rfl (fu_lt (by omega)) ⟨rfl, fun q hq => absurd hq (by omega), fun q _ => ⟨rfl, rfl, rfl, rfl⟩, fun _ _ => rfl, fun _ _ => rfl, fun _ q hq => absurd hq (by omega)⟩
  obtain ⟨at0, A, B, C, D, K⟩ := st
  have ea : at0 = nI (p0 + 24) := e2.1
  subst ea
  exact ⟨A, B, C, D, K, e1, e2⟩
/-- all of it, from base b on -/
theorem passAll_ (Z : Int32) {b : Nat} (hb : b ≤ 350) (fo wa si : Int32) (S0 W0 A0 B0 C0 D0 P0 L0 K0 : Nat → Int32) : ∃ (S W A B C D P L K : Nat → Int32), fn_X10_passAll fo wa si (nI b) Z S0 W0 A0 B0 C0 D0 P0 L0 K0 = some (K b, K (b + 1), K (b + 2), nI (b + 331), S, W, A, B, C, D, P, L, K) ∧ (∀ q, q < 144 → S q = K (b + 3 + 2 * q) ∧ W q = K (b + 4 + 2 * q)) ∧ (∀ q, q < 6 → A q = K (b + 291 + 4 * q) ∧ B q = K (b + 292 + 4 * q) ∧ C q = K (b + 293 + 4 * q) ∧ D q = K (b + 294 + 4 * q)) ∧ (∀ q, q < 8 → P q = K (b + 315 + 2 * q) ∧ L q = K (b + 316 + 2 * q)) ∧ (∀ i, i < b ∨ b + 331 ≤ i → K i = K0 i) ∧ (Z = 0 → ∀ i, K i = K0 i) ∧ (Z ≠ 0 → K b = fo ∧ K (b + 1) = wa ∧ K (b + 2) = si ∧ (∀ q, q < 144 → K (b + 3 + 2 * q) = S0 q ∧ K (b + 4 + 2 * q) = W0 q) ∧ (∀ q, q < 6 → K (b + 291 + 4 * q) = A0 q ∧ K (b + 292 + 4 * q) = B0 q ∧ K (b + 293 + 4 * q) = C0 q ∧ K (b + 294 + 4 * q) = D0 q) ∧ (∀ q, q < 8 → K (b + 315 + 2 * q) = P0 q ∧ K (b + 316 + 2 * q) = L0 q)) := by
  unfold fn_X10_passAll
  rw [pass_ (show b < 700 by omega), b3_so, pass_ (show b + 1 < 700 by omega), b3_so, pass_ (show b + 1 + 1 < 700 by omega), b3_so]
  obtain ⟨K1, hK1⟩ : ∃ K1, upd K0 b (if Z = 0 then K0 b else fo) = K1 := ⟨_, rfl⟩
  obtain ⟨K2, hK2⟩ : ∃ K2, upd K1 (b + 1) (if Z = 0 then K1 (b + 1) else wa) = K2 := ⟨_, rfl⟩
  obtain ⟨K3, hK3⟩ : ∃ K3, upd K2 (b + 1 + 1) (if Z = 0 then K2 (b + 1 + 1) else si) = K3 := ⟨_, rfl⟩
  rw [hK1, hK2, hK3]
  have o1 : (if Z = 0 then K0 b else fo) = K3 b := by
    rw [← hK3, up_ne (by omega), ← hK2, up_ne (by omega), ← hK1, up_eq]
  have o2 : (if Z = 0 then K1 (b + 1) else wa) = K3 (b + 1) := by
    rw [← hK3, up_ne (by omega), ← hK2, up_eq]
  have o3 : (if Z = 0 then K2 (b + 1 + 1) else si) = K3 (b + 2) := by
    rw [← hK3, up_eq]
  have z0 : Z = 0 → ∀ i, K3 i = K0 i := by
    intro e i
    rw [← hK3, if_pos e, up_id, ← hK2, if_pos e, up_id, ← hK1, if_pos e, up_id]
  have z1 : ∀ i, i < b ∨ b + 3 ≤ i → K3 i = K0 i := by
    intro i hi
    rw [← hK3, up_ne (by omega), ← hK2, up_ne (by omega), ← hK1, up_ne (by omega)]
  obtain ⟨S, W, K4, e4, f4⟩ := ps38_ Z (p0 := b + 3) (by omega) (fun v23 v24 v25 v26 => fn_X10_passAll_l85 Z (fun v47 v48 v49 v50 v51 v52 => fn_X10_passAll_l163 Z (fun v63 v64 v65 v66 => some (K3 b, K3 (b + 1), K3 (b + 2), v63, v24, v25, v48, v49, v50, v51, v64, v65, v66)) fu_ 0 v47 P0 L0 v52) fu_ 0 v23 A0 B0 C0 D0 v26) S0 W0 K3
  obtain ⟨A, B, C, D, K5, e5, f5⟩ := ps85_ Z (p0 := b + 3 + 288) (by omega) (fun v47 v48 v49 v50 v51 v52 => fn_X10_passAll_l163 Z (fun v63 v64 v65 v66 => some (K3 b, K3 (b + 1), K3 (b + 2), v63, S, W, v48, v49, v50, v51, v64, v65, v66)) fu_ 0 v47 P0 L0 v52) A0 B0 C0 D0 K4
  obtain ⟨P, L, K, e6, f6⟩ := ps163_ Z (p0 := b + 3 + 288 + 24) (by omega) (fun v63 v64 v65 v66 => some (K3 b, K3 (b + 1), K3 (b + 2), v63, S, W, A, B, C, D, v64, v65, v66)) P0 L0 K5
  obtain ⟨-, m2, -, m4, m5, m6⟩ := f4
  obtain ⟨-, n2, -, n4, n5, n6⟩ := f5
  obtain ⟨-, r2, -, r4, r5, r6⟩ := f6
  dsimp only at m2 m4 m5 m6 n2 n4 n5 n6 r2 r4 r5 r6
  have k54 : ∀ i, i < b + 291 → K i = K4 i := fun i hi => by rw [r4 i (by omega), n4 i (by omega)]
  have k5 : ∀ i, i < b + 315 → K i = K5 i := fun i hi => r4 i (by omega)
  have k3 : ∀ i, i < b + 3 → K i = K3 i := fun i hi => by rw [k54 i (by omega), m4 i (by omega)]
  refine ⟨S, W, A, B, C, D, P, L, K, ?_, fun q hq => ?_, fun q hq => ?_, fun q hq => ?_, fun i hi => ?_, fun e i => ?_, fun e => ⟨?_, ?_, ?_, fun q hq => ?_, fun q hq => ?_, fun q hq => ?_⟩⟩
  · rw [o1, o2, o3]
    refine Eq.trans e4 (Eq.trans e5 (Eq.trans e6 ?_))
    rw [k3 b (by omega), k3 (b + 1) (by omega), k3 (b + 2) (by omega)]
  · obtain ⟨t1, t2⟩ := m2 q hq
    rw [k54 _ (by omega), k54 _ (by omega), t1, t2, show b + 3 + 2 * q + 1 = b + 4 + 2 * q by omega]
    exact ⟨rfl, rfl⟩
  · obtain ⟨t1, t2, t3, t4⟩ := n2 q hq
    rw [k5 _ (by omega), k5 _ (by omega), k5 _ (by omega), k5 _ (by omega), t1, t2, t3, t4, show b + 3 + 288 + 4 * q = b + 291 + 4 * q by omega, show b + 291 + 4 * q + 1 = b + 292 + 4 * q by omega, show b + 291 + 4 * q + 2 = b + 293 + 4 * q by omega, show b + 291 + 4 * q + 3 = b + 294 + 4 * q by omega]
    exact ⟨rfl, rfl, rfl, rfl⟩
  · obtain ⟨t1, t2⟩ := r2 q hq
    rw [t1, t2, show b + 3 + 288 + 24 + 2 * q = b + 315 + 2 * q by omega, show b + 315 + 2 * q + 1 = b + 316 + 2 * q by omega]
    exact ⟨rfl, rfl⟩
  · rw [r4 i (by omega), n4 i (by omega), m4 i (by omega), z1 i (by omega)]
  · rw [r5 e i, n5 e i, m5 e i, z0 e i]
  · rw [k3 b (by omega), ← o1, if_neg e]
  · rw [k3 (b + 1) (by omega), ← o2, if_neg e]
  · rw [k3 (b + 2) (by omega), ← o3, if_neg e]
  · obtain ⟨t1, t2⟩ := m6 e q hq
    rw [k54 _ (by omega), k54 _ (by omega), show b + 4 + 2 * q = b + 3 + 2 * q + 1 by omega]
    exact ⟨t1, t2⟩
  · obtain ⟨t1, t2, t3, t4⟩ := n6 e q hq
    rw [k5 _ (by omega), k5 _ (by omega), k5 _ (by omega), k5 _ (by omega), show b + 291 + 4 * q = b + 3 + 288 + 4 * q by omega, show b + 292 + 4 * q = b + 3 + 288 + 4 * q + 1 by omega, show b + 293 + 4 * q = b + 3 + 288 + 4 * q + 2 by omega, show b + 294 + 4 * q = b + 3 + 288 + 4 * q + 3 by omega]
    exact ⟨t1, t2, t3, t4⟩
  · obtain ⟨t1, t2⟩ := r6 e q hq
    rw [show b + 315 + 2 * q = b + 3 + 288 + 24 + 2 * q by omega, show b + 316 + 2 * q = b + 3 + 288 + 24 + 2 * q + 1 by omega]
    exact ⟨t1, t2⟩
