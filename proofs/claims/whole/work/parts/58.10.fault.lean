/-! ===== the text of an evening: its faults, its acts ===== -/
def lnq_ (g : Nat → Nat) (s : Nat) : Nat := if g s = 126 then 1 else if g (s + 1) = 43 ∨ (49 ≤ g (s + 1) ∧ g (s + 1) ≤ 57) then 3 else 2
/-- where the k-th act begins -/
def sqq_ (g : Nat → Nat) : Nat → Nat
  | 0 => 0
  | k + 1 => sqq_ g k + lnq_ g (sqq_ g k)
theorem sqq_ge (g : Nat → Nat) : ∀ k, k ≤ sqq_ g k
  | 0 => Nat.le_refl _
  | k + 1 => by
    have h := sqq_ge g k
    show k + 1 ≤ sqq_ g k + lnq_ g (sqq_ g k)
    have h2 : 1 ≤ lnq_ g (sqq_ g k) := by unfold lnq_; (repeat' split) <;> omega
    omega
theorem sqq_mono (g : Nat → Nat) : ∀ k d, sqq_ g k + d ≤ sqq_ g (k + d)
  | k, 0 => Nat.le_refl _
  | k, d + 1 => by
    have h := sqq_mono g k d
    show sqq_ g k + (d + 1) ≤ sqq_ g (k + d) + lnq_ g (sqq_ g (k + d))
    have h2 : 1 ≤ lnq_ g (sqq_ g (k + d)) := by unfold lnq_; (repeat' split) <;> omega
    omega
def dcq_ (g : Nat → Nat) (s : Nat) (A O M Te : Int32) : Prop := (g s = 126 ∧ A = 4) ∨ (65 ≤ g s ∧ g s ≤ 70 ∧ O = nI (g s - 65) ∧ ((97 ≤ g (s + 1) ∧ g (s + 1) ≤ 108 ∧ A = 0 ∧ M = nI (g (s + 1) - 97)) ∨ (g (s + 1) = 45 ∧ A = 2) ∨ (g (s + 1) = 43 ∧ A = 1 ∧ 65 ≤ g (s + 2) ∧ g (s + 2) ≤ 70 ∧ M = nI (g (s + 2) - 65)) ∨ (49 ≤ g (s + 1) ∧ g (s + 1) ≤ 57 ∧ A = 3 ∧ 65 ≤ g (s + 2) ∧ g (s + 2) ≤ 70 ∧ M = nI (g (s + 2) - 65) ∧ Te = nI (g (s + 1) - 48))))
def sbf_ (q c : Nat) : Nat := if q = 1 then (if c = 45 ∨ (97 ≤ c ∧ c ≤ 108) then 0 else if c = 43 ∨ (49 ≤ c ∧ c ≤ 57) then 2 else 3) else if q = 2 then (if 65 ≤ c ∧ c ≤ 70 then 0 else 3) else (if c = 126 then 0 else if 65 ≤ c ∧ c ≤ 70 then 1 else 3)
theorem sbf0_ (c : Nat) : sbf_ 0 c = if c = 126 then 0 else if 65 ≤ c ∧ c ≤ 70 then 1 else 3 := rfl
theorem sbf1_ (c : Nat) : sbf_ 1 c = if c = 45 ∨ (97 ≤ c ∧ c ≤ 108) then 0 else if c = 43 ∨ (49 ≤ c ∧ c ≤ 57) then 2 else 3 := rfl
theorem sbf2_ (c : Nat) : sbf_ 2 c = if 65 ≤ c ∧ c ≤ 70 then 0 else 3 := rfl
set_option maxRecDepth 100000 in
theorem sb_ {q c : Nat} (hq : q < 3) (hc : c ≤ 126) : fn_X4_stateBehind (nI q) (nI c) = some (nI (sbf_ q c)) := by
  have key : ∀ (q : Fin 3) (c : Fin 127), fn_X4_stateBehind (nI q.val) (nI c.val) = some (nI (sbf_ q.val c.val)) := by decide +kernel
  exact key ⟨q, hq⟩ ⟨c, by omega⟩
set_option maxRecDepth 100000 in
theorem isLet_ {c : Nat} (hc : c ≤ 126) : fn_X10_isLetter (nI c) = some (if 65 ≤ c ∧ c ≤ 70 then 1 else 0) := by
  have key : ∀ (c : Fin 127), fn_X10_isLetter (nI c.val) = some (if 65 ≤ c.val ∧ c.val ≤ 70 then 1 else 0) := by decide +kernel
  exact key ⟨c, by omega⟩
set_option maxRecDepth 100000 in
theorem in97_ {c : Nat} (hc : c ≤ 126) : fn_X10_in (Int32.toInt64 (nI c)) 97 108 = some (if 97 ≤ c ∧ c ≤ 108 then 1 else 0) ∧ fn_X9_isWithin (nI c) 97 108 = some (if 97 ≤ c ∧ c ≤ 108 then 1 else 0) := by
  have key : ∀ (c : Fin 127), fn_X10_in (Int32.toInt64 (nI c.val)) 97 108 = some (if 97 ≤ c.val ∧ c.val ≤ 108 then 1 else 0) ∧ fn_X9_isWithin (nI c.val) 97 108 = some (if 97 ≤ c.val ∧ c.val ≤ 108 then 1 else 0) := by decide +kernel
  exact key ⟨c, by omega⟩
set_option maxRecDepth 100000 in
theorem in49_ {c : Nat} (hc : c ≤ 126) : fn_X10_in (Int32.toInt64 (nI c)) 49 57 = some (if 49 ≤ c ∧ c ≤ 57 then 1 else 0) ∧ fn_X4_takesOther (nI c) = some (if c = 43 ∨ (49 ≤ c ∧ c ≤ 57) then 1 else 0) := by
  have key : ∀ (c : Fin 127), fn_X10_in (Int32.toInt64 (nI c.val)) 49 57 = some (if 49 ≤ c.val ∧ c.val ≤ 57 then 1 else 0) ∧ fn_X4_takesOther (nI c.val) = some (if c.val = 43 ∨ (49 ≤ c.val ∧ c.val ≤ 57) then 1 else 0) := by decide +kernel
  exact key ⟨c, by omega⟩
theorem close_ {m : Nat} (hm : m < 60) (act whom : Nat → Int32) (x y : Int32) : fn_X10_close (nI m) act whom x y = some (0, nI (m + 1), upd act m x, upd whom m y) := by
  unfold fn_X10_close
  rw [ckn_ hm (by omega), nI_clamp (by omega), lx_so, ckn_ hm (by omega), lx_so, nI_1]
theorem sub65_ {c : Nat} (h : 65 ≤ c) : nI c - 65 = nI (c - 65) := pk_sub (b := 65) h
theorem sub97_ {c : Nat} (h : 97 ≤ c) : nI c - 97 = nI (c - 97) := pk_sub (b := 97) h
theorem sub48_ {c : Nat} (h : 48 ≤ c) : nI c - 48 = nI (c - 48) := pk_sub (b := 48) h
theorem nel_ {c d : Nat} (hc : c ≤ 126) (hd : d ≤ 126) (h : c ≠ d) : ¬ nI c = nI d := ne_nI (by omega) (by omega) h
theorem rd0_ {m c : Nat} (hm : m < 60) (hc : c ≤ 126) (act whose whom tens : Nat → Int32) : fn_X10_readOn (nI m) act whose whom tens 0 (nI c) = some (if 65 ≤ c ∧ c ≤ 70 then ((1 : Int32), nI m, act, upd whose m (nI (c - 65)), whom, upd tens m 0) else if c = 126 then (0, nI (m + 1), upd act m 4, upd whose m 0, upd whom m 0, upd tens m 0) else (-6, nI m, act, upd whose m 0, whom, upd tens m 0)) := by
  unfold fn_X10_readOn fn_X10_begin fn_X10_begin_j23
  rw [if_pos rfl, isLet_ hc, b1_so]
  simp only [ckn_ hm (show 60 < 2 ^ 31 by omega), nI_clamp (show m < 2 ^ 31 by omega), lx_so, b1_so, close_ hm, b4_so]
  by_cases e1 : 65 ≤ c ∧ c ≤ 70
  · rw [if_pos e1, if_pos e1, if_neg (show ¬ (1 : Int32) = 0 by decide), if_neg (show ¬ (1 : Int32) = 0 by decide), sub65_ e1.1]
    rfl
  · rw [if_neg e1, if_neg e1, if_pos rfl, if_pos rfl]
    by_cases e2 : c = 126
    · rw [if_pos (show nI c = 126 by rw [e2]; rfl), if_pos e2]
      rfl
    · rw [if_neg (show ¬ nI c = 126 from nel_ (d := 126) hc (by omega) e2), if_neg e2]
      rfl
theorem rd1_ {m c : Nat} (hm : m < 60) (hc : c ≤ 126) (act whose whom tens : Nat → Int32) : fn_X10_readOn (nI m) act whose whom tens 1 (nI c) = some (if 97 ≤ c ∧ c ≤ 108 then ((0 : Int32), nI (m + 1), upd act m 0, whose, upd whom m (nI (c - 97)), tens) else if c = 45 then (0, nI (m + 1), upd act m 2, whose, upd whom m 0, tens) else if c = 43 then (2, nI m, act, whose, whom, upd tens m (nI c - 48)) else if 49 ≤ c ∧ c ≤ 57 then (3, nI m, act, whose, whom, upd tens m (nI c - 48)) else (-6, nI m, act, whose, whom, upd tens m (nI c - 48))) := by
  unfold fn_X10_readOn
  rw [if_neg (show ¬ (1 : Int32) = 0 by decide), if_pos (show (1 : Int32) ≤ 1 by decide), (in97_ hc).1, b1_so, (in49_ hc).1]
  simp only [ckn_ hm (show 60 < 2 ^ 31 by omega), nI_clamp (show m < 2 ^ 31 by omega), lx_so, b1_so, close_ hm, b4_so]
  by_cases e1 : 97 ≤ c ∧ c ≤ 108
  · rw [if_pos e1, if_pos e1, if_neg (show ¬ (1 : Int32) = 0 by decide), sub97_ e1.1]
  · rw [if_neg e1, if_neg e1, if_pos rfl]
    by_cases e2 : c = 45
    · rw [if_pos (show nI c = 45 by rw [e2]; rfl), if_pos e2]
    · rw [if_neg (show ¬ nI c = 45 from nel_ (d := 45) hc (by omega) e2), if_neg e2]
      by_cases e3 : c = 43
      · rw [if_pos (show nI c = 43 by rw [e3]; rfl), if_pos e3]
      · rw [if_neg (show ¬ nI c = 43 from nel_ (d := 43) hc (by omega) e3), if_neg e3]
        by_cases e4 : 49 ≤ c ∧ c ≤ 57
        · rw [if_pos e4, if_pos e4, if_neg (show ¬ (1 : Int32) = 0 by decide)]
        · rw [if_neg e4, if_neg e4, if_pos rfl]
theorem rd2_ {m c d : Nat} (hm : m < 60) (hc : c ≤ 126) (hd : d = 2 ∨ d = 3) (act whose whom tens : Nat → Int32) : fn_X10_readOn (nI m) act whose whom tens (nI d) (nI c) = some (if 65 ≤ c ∧ c ≤ 70 then ((0 : Int32), nI (m + 1), upd act m (if d = 2 then 1 else 3), whose, upd whom m (nI (c - 65)), tens) else (-6, nI m, act, whose, whom, tens)) := by
  unfold fn_X10_readOn fn_X10_readOn_j33
  rw [isLet_ hc, b1_so]
  simp only [close_ hm, b4_so]
  rcases hd with e | e
  · subst e
    rw [if_neg (show ¬ nI 2 = 0 by decide), if_neg (show ¬ nI 2 ≤ 1 by decide), if_pos (show nI 2 = 2 from rfl)]
    by_cases e1 : 65 ≤ c ∧ c ≤ 70
    · rw [if_pos e1, if_pos e1, if_neg (show ¬ (1 : Int32) = 0 by decide), sub65_ e1.1]
      rfl
    · rw [if_neg e1, if_neg e1, if_pos rfl]
  · subst e
    rw [if_neg (show ¬ nI 3 = 0 by decide), if_neg (show ¬ nI 3 ≤ 1 by decide), if_neg (show ¬ nI 3 = 2 by decide)]
    by_cases e1 : 65 ≤ c ∧ c ≤ 70
    · rw [if_pos e1, if_pos e1, if_neg (show ¬ (1 : Int32) = 0 by decide), sub65_ e1.1]
      rfl
    · rw [if_neg e1, if_neg e1, if_pos rfl]
/-- what has been read, d signs of an act m at last (3: a digit's) -/
def pIq_ (g : Nat → Nat) (i d m q : Nat) (act whose whom tens : Nat → Int32) : Prop := m ≤ i ∧ (∀ k, k < m → dcq_ g (sqq_ g k) (act k) (whose k) (whom k) (tens k)) ∧ ((d = 0 ∧ q = 0 ∧ i = sqq_ g m) ∨ (d = 1 ∧ q = 1 ∧ i = sqq_ g m + 1 ∧ 65 ≤ g (sqq_ g m) ∧ g (sqq_ g m) ≤ 70 ∧ whose m = nI (g (sqq_ g m) - 65)) ∨ (d = 2 ∧ q = 2 ∧ i = sqq_ g m + 2 ∧ 65 ≤ g (sqq_ g m) ∧ g (sqq_ g m) ≤ 70 ∧ whose m = nI (g (sqq_ g m) - 65) ∧ g (sqq_ g m + 1) = 43) ∨ (d = 3 ∧ q = 2 ∧ i = sqq_ g m + 2 ∧ 65 ≤ g (sqq_ g m) ∧ g (sqq_ g m) ≤ 70 ∧ whose m = nI (g (sqq_ g m) - 65) ∧ 49 ≤ g (sqq_ g m + 1) ∧ g (sqq_ g m + 1) ≤ 57 ∧ tens m = nI (g (sqq_ g m + 1) - 48)))
theorem dcq_up {g : Nat → Nat} {m : Nat} {act whose whom tens : Nat → Int32} (h : ∀ k, k < m → dcq_ g (sqq_ g k) (act k) (whose k) (whom k) (tens k)) {act' whose' whom' tens' : Nat → Int32} (e : ∀ k, k < m → act' k = act k ∧ whose' k = whose k ∧ whom' k = whom k ∧ tens' k = tens k) : ∀ k, k < m → dcq_ g (sqq_ g k) (act' k) (whose' k) (whom' k) (tens' k) := by
  intro k hk
  obtain ⟨e1, e2, e3, e4⟩ := e k hk
  rw [e1, e2, e3, e4]
  exact h k hk
theorem up_ne {f : Nat → Int32} {k j : Nat} {x : Int32} (h : j ≠ k) : upd f k x j = f j := by rw [up_nI, if_neg h]
theorem up_eq {f : Nat → Int32} {k : Nat} {x : Int32} : upd f k x k = x := by rw [up_nI, if_pos rfl]
theorem fault_l {signs pad : Nat → Int32} {g : Nat → Nat} (h11 : pd_ signs pad g) {pc : Nat} (hpc : pc ≤ 60) : ∀ (e i n d m q : Nat) (act whose whom tens : Nat → Int32), i + e = pc → e < n → pIq_ g i d m q act whose whom tens → ∃ (r M : Int32) (A O W Te : Nat → Int32), fn_X4_firstFault_l4 (nI pc) signs (fun v3 => if v3 = 0 then some (-6) else some (nI pc)) n (nI q) (nI i) = some r ∧ fn_X10_fault_l9 (nI pc) pad (fun v8 v9 v10 v11 v12 v13 => if v8 = 0 then some ((-6), v9, v10, v11, v12, v13) else some (nI pc, v9, v10, v11, v12, v13)) n (nI d) (nI i) (nI m) act whose whom tens = some (r, M, A, O, W, Te) ∧ ((∃ x, x ≤ 60 ∧ r = nI x) ∨ (r = (-6) ∧ ∃ m, M = nI m ∧ sqq_ g m = pc ∧ ∀ k, k < m → dcq_ g (sqq_ g k) (A k) (O k) (W k) (Te k)))
  | 0, i, 0, d, m, q, act, whose, whom, tens, h1, h2, h3 => absurd h2 (by omega)
  | 0, i, n + 1, d, m, q, act, whose, whom, tens, h1, h2, h3 => by
    have e : i = pc := by omega
    subst e
    show ∃ (r M : Int32) (A O W Te : Nat → Int32), fn_X4_firstFault_b4 (nI i) signs _ (fun v3 => if v3 = 0 then some (-6) else some (nI i)) (nI q) (nI i) = some r ∧ fn_X10_fault_b9 (nI i) pad _ (fun v8 v9 v10 v11 v12 v13 => if v8 = 0 then some ((-6), v9, v10, v11, v12, v13) else some (nI i, v9, v10, v11, v12, v13)) (nI d) (nI i) (nI m) act whose whom tens = some (r, M, A, O, W, Te) ∧ _
    unfold fn_X4_firstFault_b4 fn_X10_fault_b9
    rw [if_pos (Int32.le_refl _)]
    simp only [if_pos (Int32.le_refl (nI i))]
    obtain ⟨j1, j2, j3⟩ := h3
    rcases j3 with ⟨rfl, rfl, j4⟩ | ⟨rfl, rfl, -⟩ | ⟨rfl, rfl, -⟩ | ⟨rfl, rfl, -⟩
    · exact ⟨-6, nI m, act, whose, whom, tens, if_pos rfl, if_pos rfl, Or.inr ⟨rfl, m, rfl, j4.symm, j2⟩⟩
    · exact ⟨nI i, nI m, act, whose, whom, tens, if_neg (by decide), if_neg (by decide), Or.inl ⟨i, hpc, rfl⟩⟩
    · exact ⟨nI i, nI m, act, whose, whom, tens, if_neg (by decide), if_neg (by decide), Or.inl ⟨i, hpc, rfl⟩⟩
    · exact ⟨nI i, nI m, act, whose, whom, tens, if_neg (by decide), if_neg (by decide), Or.inl ⟨i, hpc, rfl⟩⟩
  | e + 1, i, 0, d, m, q, act, whose, whom, tens, h1, h2, h3 => absurd h2 (by omega)
  | e + 1, i, n + 1, d, m, q, act, whose, whom, tens, h1, h2, h3 => by
    have hi : i < 60 := by omega
    obtain ⟨g1, g2, g3⟩ := h11 i hi
    obtain ⟨j1, j2, j3⟩ := h3
    have hm : m < 60 := by omega
    have hq : q < 3 := by omega
    have hd : d < 4 := by omega
    show ∃ (r M : Int32) (A O W Te : Nat → Int32), fn_X4_firstFault_b4 (nI pc) signs (fn_X4_firstFault_l4 (nI pc) signs (fun v3 => if v3 = 0 then some (-6) else some (nI pc)) n) (fun v3 => if v3 = 0 then some (-6) else some (nI pc)) (nI q) (nI i) = some r ∧ fn_X10_fault_b9 (nI pc) pad (fn_X10_fault_l9 (nI pc) pad (fun v8 v9 v10 v11 v12 v13 => if v8 = 0 then some ((-6), v9, v10, v11, v12, v13) else some (nI pc, v9, v10, v11, v12, v13)) n) (fun v8 v9 v10 v11 v12 v13 => if v8 = 0 then some ((-6), v9, v10, v11, v12, v13) else some (nI pc, v9, v10, v11, v12, v13)) (nI d) (nI i) (nI m) act whose whom tens = some (r, M, A, O, W, Te) ∧ _
    unfold fn_X4_firstFault_b4 fn_X10_fault_b9
    have hge : ¬ nI pc ≤ nI i := nI_ge (by omega) (by omega)
    rw [if_neg hge, ckn_ hi (by omega), nI_clamp (by omega), g2, sb_ hq g1, b1_so, nI_1]
    simp only [if_neg hge, ckn_ hi (show 60 < 2 ^ 31 by omega), nI_clamp (show i < 2 ^ 31 by omega), g3]
    have nxt := fun d' m' q' act' whose' whom' tens' => fault_l h11 hpc e (i + 1) n d' m' q' act' whose' whom' tens' (by omega) (by omega)
    have bad : ∀ (M : Int32) (A O W Te : Nat → Int32), ∃ (r M' : Int32) (A' O' W' Te' : Nat → Int32), some (nI i) = some r ∧ some (nI i, M, A, O, W, Te) = some (r, M', A', O', W', Te') ∧ ((∃ x, x ≤ 60 ∧ r = nI x) ∨ (r = (-6) ∧ ∃ m, M' = nI m ∧ sqq_ g m = pc ∧ ∀ k, k < m → dcq_ g (sqq_ g k) (A' k) (O' k) (W' k) (Te' k))) := fun M A O W Te => ⟨nI i, M, A, O, W, Te, rfl, rfl, Or.inl ⟨i, by omega, rfl⟩⟩
    have hsq : sqq_ g (m + 1) = sqq_ g m + lnq_ g (sqq_ g m) := rfl
    rcases j3 with ⟨rfl, rfl, j4⟩ | ⟨rfl, rfl, j4, j5, j6, j7⟩ | ⟨rfl, rfl, j4, j5, j6, j7, j8⟩ | ⟨rfl, rfl, j4, j5, j6, j7, j8, j9, j10⟩
    · rw [show nI 0 = 0 from rfl, rd0_ hm g1]
      rw [sbf0_]
      by_cases e1 : 65 ≤ g i ∧ g i ≤ 70
      · rw [if_pos e1, if_pos e1, if_neg (show ¬ g i = 126 by omega), if_neg (show ¬ nI 1 = 3 by decide), b6_so, if_pos (show (0 : Int32) ≤ 1 by decide)]
        refine nxt 1 m 1 _ _ _ _ ⟨by omega, dcq_up j2 (fun k hk => ⟨rfl, up_ne (by omega), rfl, up_ne (by omega)⟩), Or.inr (Or.inl ⟨rfl, rfl, by omega, ?_, ?_, ?_⟩)⟩
        · rw [← j4]; exact e1.1
        · rw [← j4]; exact e1.2
        · rw [up_eq, ← j4]
      · rw [if_neg e1, if_neg e1]
        by_cases e2 : g i = 126
        · rw [if_pos e2, if_pos e2, if_neg (show ¬ nI 0 = 3 by decide), b6_so, if_pos (show (0 : Int32) ≤ 0 by decide)]
          have hl : lnq_ g (sqq_ g m) = 1 := by unfold lnq_; rw [← j4, if_pos e2]
          refine nxt 0 (m + 1) 0 _ _ _ _ ⟨by omega, fun k hk => ?_, Or.inl ⟨rfl, rfl, by omega⟩⟩
          by_cases ek : k = m
          · subst ek
            exact Or.inl ⟨by rw [← j4]; exact e2, up_eq⟩
          · exact dcq_up j2 (fun k hk => ⟨up_ne (by omega), up_ne (by omega), up_ne (by omega), up_ne (by omega)⟩) k (by omega)
        · rw [if_neg e2, if_neg e2, if_pos (show nI 3 = 3 from rfl), b6_so, if_neg (show ¬ (0 : Int32) ≤ -6 by decide)]
          exact bad _ _ _ _ _
    · rw [show nI 1 = 1 from rfl, rd1_ hm g1]
      have ei : g (sqq_ g m + 1) = g i := by rw [j4]
      have hn126 : ¬ g (sqq_ g m) = 126 := by omega
      rw [sbf1_]
      by_cases e1 : 97 ≤ g i ∧ g i ≤ 108
      · rw [if_pos e1, if_pos (Or.inr e1), if_neg (show ¬ nI 0 = 3 by decide), b6_so, if_pos (show (0 : Int32) ≤ 0 by decide)]
        have hl : lnq_ g (sqq_ g m) = 2 := by unfold lnq_; rw [if_neg hn126, if_neg (by omega)]
        refine nxt 0 (m + 1) 0 _ _ _ _ ⟨by omega, fun k hk => ?_, Or.inl ⟨rfl, rfl, by omega⟩⟩
        by_cases ek : k = m
        · subst ek
          exact Or.inr ⟨j5, j6, j7, Or.inl ⟨by omega, by omega, up_eq, by rw [up_eq, ei]⟩⟩
        · exact dcq_up j2 (fun k hk => ⟨up_ne (by omega), rfl, up_ne (by omega), rfl⟩) k (by omega)
      · rw [if_neg e1]
        by_cases e2 : g i = 45
        · rw [if_pos e2, if_pos (Or.inl e2), if_neg (show ¬ nI 0 = 3 by decide), b6_so, if_pos (show (0 : Int32) ≤ 0 by decide)]
          have hl : lnq_ g (sqq_ g m) = 2 := by unfold lnq_; rw [if_neg hn126, if_neg (by omega)]
          refine nxt 0 (m + 1) 0 _ _ _ _ ⟨by omega, fun k hk => ?_, Or.inl ⟨rfl, rfl, by omega⟩⟩
          by_cases ek : k = m
          · subst ek
            exact Or.inr ⟨j5, j6, j7, Or.inr (Or.inl ⟨by omega, up_eq⟩)⟩
          · exact dcq_up j2 (fun k hk => ⟨up_ne (by omega), rfl, up_ne (by omega), rfl⟩) k (by omega)
        · rw [if_neg e2, if_neg (show ¬ (g i = 45 ∨ 97 ≤ g i ∧ g i ≤ 108) from fun hh => hh.elim e2 e1)]
          by_cases e3 : g i = 43
          · rw [if_pos e3, if_pos (Or.inl e3), if_neg (show ¬ nI 2 = 3 by decide), b6_so, if_pos (show (0 : Int32) ≤ 2 by decide)]
            refine nxt 2 m 2 _ _ _ _ ⟨by omega, dcq_up j2 (fun k hk => ⟨rfl, rfl, rfl, up_ne (by omega)⟩), Or.inr (Or.inr (Or.inl ⟨rfl, rfl, by omega, j5, j6, j7, by omega⟩))⟩
          · rw [if_neg e3]
            by_cases e4 : 49 ≤ g i ∧ g i ≤ 57
            · rw [if_pos e4, if_pos (Or.inr e4), if_neg (show ¬ nI 2 = 3 by decide), b6_so, if_pos (show (0 : Int32) ≤ 3 by decide)]
              refine nxt 3 m 2 _ _ _ _ ⟨by omega, dcq_up j2 (fun k hk => ⟨rfl, rfl, rfl, up_ne (by omega)⟩), Or.inr (Or.inr (Or.inr ⟨rfl, rfl, by omega, j5, j6, j7, by omega, by omega, ?_⟩))⟩
              rw [up_eq, ei, sub48_ (by omega)]
            · rw [if_neg e4, if_neg (show ¬ (g i = 43 ∨ 49 ≤ g i ∧ g i ≤ 57) from fun hh => hh.elim e3 e4), if_pos (show nI 3 = 3 from rfl), b6_so, if_neg (show ¬ (0 : Int32) ≤ -6 by decide)]
              exact bad _ _ _ _ _
    · rw [rd2_ hm g1 (Or.inl rfl)]
      have ei : g (sqq_ g m + 2) = g i := by rw [j4]
      have hn126 : ¬ g (sqq_ g m) = 126 := by omega
      rw [sbf2_]
      by_cases e1 : 65 ≤ g i ∧ g i ≤ 70
      · rw [if_pos e1, if_pos e1, if_neg (show ¬ nI 0 = 3 by decide), b6_so, if_pos (show (0 : Int32) ≤ 0 by decide)]
        have hl : lnq_ g (sqq_ g m) = 3 := by unfold lnq_; rw [if_neg hn126, if_pos (by omega)]
        refine nxt 0 (m + 1) 0 _ _ _ _ ⟨by omega, fun k hk => ?_, Or.inl ⟨rfl, rfl, by omega⟩⟩
        by_cases ek : k = m
        · subst ek
          exact Or.inr ⟨j5, j6, j7, Or.inr (Or.inr (Or.inl ⟨j8, up_eq, by omega, by omega, by rw [up_eq, ei]⟩))⟩
        · exact dcq_up j2 (fun k hk => ⟨up_ne (by omega), rfl, up_ne (by omega), rfl⟩) k (by omega)
      · rw [if_neg e1, if_neg e1, if_pos (show nI 3 = 3 from rfl), b6_so, if_neg (show ¬ (0 : Int32) ≤ -6 by decide)]
        exact bad _ _ _ _ _
    · rw [rd2_ hm g1 (Or.inr rfl)]
      have ei : g (sqq_ g m + 2) = g i := by rw [j4]
      have hn126 : ¬ g (sqq_ g m) = 126 := by omega
      rw [sbf2_]
      by_cases e1 : 65 ≤ g i ∧ g i ≤ 70
      · rw [if_pos e1, if_pos e1, if_neg (show ¬ nI 0 = 3 by decide), b6_so, if_pos (show (0 : Int32) ≤ 0 by decide)]
        have hl : lnq_ g (sqq_ g m) = 3 := by unfold lnq_; rw [if_neg hn126, if_pos (by omega)]
        refine nxt 0 (m + 1) 0 _ _ _ _ ⟨by omega, fun k hk => ?_, Or.inl ⟨rfl, rfl, by omega⟩⟩
        by_cases ek : k = m
        · subst ek
          exact Or.inr ⟨j5, j6, j7, Or.inr (Or.inr (Or.inr ⟨j8, j9, up_eq, by omega, by omega, by rw [up_eq, ei], j10⟩))⟩
        · exact dcq_up j2 (fun k hk => ⟨up_ne (by omega), rfl, up_ne (by omega), rfl⟩) k (by omega)
      · rw [if_neg e1, if_neg e1, if_pos (show nI 3 = 3 from rfl), b6_so, if_neg (show ¬ (0 : Int32) ≤ -6 by decide)]
        exact bad _ _ _ _ _
theorem fault_ {signs pad : Nat → Int32} {g : Nat → Nat} (h11 : pd_ signs pad g) {pc : Nat} (hpc : pc ≤ 60) (M0 : Int32) (act whose whom tens : Nat → Int32) : ∃ (r M : Int32) (A O W Te : Nat → Int32), fn_X4_firstFault (nI pc) signs = some r ∧ fn_X10_fault (nI pc) M0 pad act whose whom tens = some (r, M, A, O, W, Te) ∧ ((∃ x, x ≤ 60 ∧ r = nI x) ∨ (r = (-6) ∧ ∃ m, M = nI m ∧ sqq_ g m = pc ∧ ∀ k, k < m → dcq_ g (sqq_ g k) (A k) (O k) (W k) (Te k))) := by
  unfold fn_X4_firstFault fn_X10_fault
  exact fault_l h11 hpc pc 0 fu_ 0 0 0 act whose whom tens (Nat.zero_add _) (fu_lt (by omega)) ⟨Nat.le_refl _, fun k hk => absurd hk (by omega), Or.inl ⟨rfl, rfl, rfl⟩⟩
theorem pp_fault {c_x_measured c_x_now_crowd_there c_x_now_crowd_foggy c_x_now_sights_count c_x_pad_count c_x_evening_acts c_x_evening_failedAct c_x_evening_reason c_x_evening_costs c_x_evening_walks c_x_evening_crowd_there c_x_evening_crowd_foggy c_x_tour_costs c_x_tour_firstStop c_x_odds_count c_x_odds_tenths c_m_foggy c_m_walkers c_m_sights c_m_padMany c_m_acts c_m_spent c_m_walks c_m_badAct c_m_badWhy c_m_keptAt c_m_isWriting : Int32} {c_x_now_marsh_codes c_x_now_crowd_at c_x_now_crowd_home c_x_now_crowd_light c_x_now_crowd_carries c_x_now_crowd_bearer c_x_now_sights_places c_x_now_sights_lights c_x_pad_signs c_x_evening_crowd_at c_x_evening_crowd_home c_x_evening_crowd_light c_x_evening_crowd_carries c_x_evening_crowd_bearer c_x_ways_planks c_x_ways_least c_x_ways_neighbours c_x_tour_stops c_x_tour_rest c_x_odds_planks c_m_steps c_m_wet c_m_where c_m_home c_m_light c_m_carries c_m_sightPlace c_m_sightLight c_m_pad c_m_act c_m_whose c_m_whom c_m_tens c_m_had c_m_leaves c_m_apart c_m_stop c_m_restOf c_m_group c_m_along : Nat → Int32} (hR : RR c_x_measured c_x_now_marsh_codes c_x_now_crowd_there c_x_now_crowd_foggy c_x_now_crowd_at c_x_now_crowd_home c_x_now_crowd_light c_x_now_crowd_carries c_x_now_crowd_bearer c_x_now_sights_count c_x_now_sights_places c_x_now_sights_lights c_x_pad_count c_x_pad_signs c_x_evening_acts c_x_evening_failedAct c_x_evening_reason c_x_evening_costs c_x_evening_walks c_x_evening_crowd_there c_x_evening_crowd_foggy c_x_evening_crowd_at c_x_evening_crowd_home c_x_evening_crowd_light c_x_evening_crowd_carries c_x_evening_crowd_bearer c_x_ways_planks c_x_ways_least c_x_ways_neighbours c_x_tour_costs c_x_tour_firstStop c_x_tour_stops c_x_tour_rest c_x_odds_count c_x_odds_tenths c_x_odds_planks c_m_foggy c_m_walkers c_m_sights c_m_padMany c_m_acts c_m_spent c_m_walks c_m_badAct c_m_badWhy c_m_keptAt c_m_isWriting c_m_steps c_m_wet c_m_where c_m_home c_m_light c_m_carries c_m_sightPlace c_m_sightLight c_m_pad c_m_act c_m_whose c_m_whom c_m_tens c_m_had c_m_leaves c_m_apart c_m_stop c_m_restOf c_m_group c_m_along)   : ∃ (r : Int32) (v0 : Int32) (v1 : Nat → Int32) (v2 : Nat → Int32) (v3 : Nat → Int32) (v4 : Nat → Int32), fn_X9_fault c_x_pad_count c_x_pad_signs = some r ∧ fn_X10_fault c_m_padMany c_m_acts c_m_pad c_m_act c_m_whose c_m_whom c_m_tens = some (r, v0, v1, v2, v3, v4) ∧ RR c_x_measured c_x_now_marsh_codes c_x_now_crowd_there c_x_now_crowd_foggy c_x_now_crowd_at c_x_now_crowd_home c_x_now_crowd_light c_x_now_crowd_carries c_x_now_crowd_bearer c_x_now_sights_count c_x_now_sights_places c_x_now_sights_lights c_x_pad_count c_x_pad_signs c_x_evening_acts c_x_evening_failedAct c_x_evening_reason c_x_evening_costs c_x_evening_walks c_x_evening_crowd_there c_x_evening_crowd_foggy c_x_evening_crowd_at c_x_evening_crowd_home c_x_evening_crowd_light c_x_evening_crowd_carries c_x_evening_crowd_bearer c_x_ways_planks c_x_ways_least c_x_ways_neighbours c_x_tour_costs c_x_tour_firstStop c_x_tour_stops c_x_tour_rest c_x_odds_count c_x_odds_tenths c_x_odds_planks c_m_foggy c_m_walkers c_m_sights c_m_padMany v0 c_m_spent c_m_walks c_m_badAct c_m_badWhy c_m_keptAt c_m_isWriting c_m_steps c_m_wet c_m_where c_m_home c_m_light c_m_carries c_m_sightPlace c_m_sightLight c_m_pad v1 v2 v3 v4 c_m_had c_m_leaves c_m_apart c_m_stop c_m_restOf c_m_group c_m_along := by
  obtain ⟨s, w, T, F, a, h, li, cr, br, sc, sp, sl, pc, g, h1, h2, ⟨hT, hT1, hT2⟩, ⟨hF, hF1, hF2⟩, h5, h6, h7, ⟨hsc, hs1, hs2⟩, h9, ⟨hpc, hp1, hp2⟩, h11, h12⟩ := id hR
  obtain ⟨r, M, A, O, W, Te, e1, e2, -⟩ := fault_ h11 hpc c_m_acts c_m_act c_m_whose c_m_whom c_m_tens
  refine ⟨r, M, A, O, W, Te, ?_, ?_, hR⟩
  · unfold fn_X9_fault
    rw [hp1, e1]; rfl
  · rw [hp2, e2]
