/-! ===== an evening ===== -/
theorem perform_ {T : Nat} (hT : T < 64) {codes steps wet : Nat → Int32} {s w : Nat → Nat} (h1 : pl_ codes steps wet s w) {home home2 : Nat → Int32} {h : Nat → Nat} {F : Nat} {a li cr br : Nat → Nat} {at1 li1 ca1 be1 wh2 li2 ca2 : Nat → Int32} (hE : evq_ T home home2 h F a li cr br at1 li1 ca1 be1 wh2 li2 ca2) {signs pad : Nat → Int32} {g : Nat → Nat} (h11 : pd_ signs pad g) {pc : Nat} (hpc : pc ≤ 60) {i : Nat} (hi : i + lnq_ g i ≤ pc) {A O W Te : Int32} (hd : dcq_ g i A O W Te) (sp wa : Int32) : acn_ T home home2 h steps wet F sp wa wh2 li2 ca2 A O W Te (fn_X1_perform sp wa (nI T) (nI F) at1 li1 ca1 be1 codes (nI pc) signs (nI i)) := by
  have hi1 : i < pc := by
    have h2 : 1 ≤ lnq_ g i := by unfold lnq_; (repeat' split) <;> omega
    omega
  have g0 := (h11 i (by omega)).1
  unfold fn_X1_perform
  rw [signAt_ h11 hpc hi1, b1_so]
  rcases hd with ⟨q1, rfl⟩ | ⟨q1, q2, rfl, hd⟩
  · rw [if_pos (show nI (g i) = 126 by rw [q1]; rfl)]
    refine ⟨0, sp, wa, 1 - F, a, li, cr, br, at1, li1, ca1, be1, wh2, li2, ca2, by omega, ?_, ?_, fun _ => ?_, fun q => absurd rfl q, by omega, hE.2⟩
    · rcases (show F = 0 ∨ F = 1 by have := hE.1; omega) with e | e
      · subst e; rfl
      · subst e; rfl
    · unfold fn_X10_whyNot
      rw [if_pos rfl]
      rfl
    · unfold fn_X10_happen
      rw [if_neg (show ¬ (4 : Int32) = 0 by decide), if_neg (show ¬ (4 : Int32) = 1 by decide), if_neg (show ¬ (4 : Int32) = 2 by decide), if_neg (show ¬ (4 : Int32) = 3 by decide), show (1 : Int32) - nI F = nI (1 - F) from pk_sub (a := 1) hE.1]
  · have hn : ¬ g i = 126 := by omega
    have hi2 : i + 1 < pc := by
      have h2 : 2 ≤ lnq_ g i := by unfold lnq_; rw [if_neg hn]; split <;> omega
      omega
    have g1 := (h11 (i + 1) (by omega)).1
    rw [if_neg (show ¬ nI (g i) = 126 from nel_ (d := 126) g0 (by omega) hn), nI_1, signAt_ h11 hpc hi2, b1_so, (in97_ g1).2, b1_so, sub65_ q1]
    rcases hd with ⟨q3, q4, rfl, rfl⟩ | ⟨q3, rfl⟩ | ⟨q3, rfl, q4, q5, rfl⟩ | ⟨q3, q4, rfl, q5, q6, rfl, rfl⟩
    · rw [if_neg (show ¬ nI (g (i + 1)) = 45 from nel_ (d := 45) g1 (by omega) (by omega)), if_pos (show 97 ≤ g (i + 1) ∧ g (i + 1) ≤ 108 from ⟨q3, q4⟩), if_neg (show ¬ (1 : Int32) = 0 by decide), sub97_ q3]
      obtain ⟨y, cs, ws, a', li', at1', li1', wh2', li2', y1, y2, y3, y4, y5, y6⟩ := walkq_ hT h1 hE (j := g i - 65) (p := g (i + 1) - 97) (by omega) (by omega) sp wa Te
      refine ⟨y, cs, ws, F, a', li', cr, br, at1', li1', ca1, be1, wh2', li2', ca2, y1, ?_, y3, fun q => ?_, fun q => ?_, y6⟩
      · rw [y2, b5_so]
      · unfold fn_X10_happen
        rw [if_pos rfl, y4 q, b4_so]
      · obtain ⟨z1, z2, z3, z4⟩ := y5 q
        exact ⟨z1, z2, rfl, z3, z4, rfl⟩
    · rw [if_pos (show nI (g (i + 1)) = 45 by rw [q3]; rfl)]
      exact setq_ hT hE (by omega) sp wa W Te
    · have hi3 : i + 2 < pc := by
        have h2 : 3 ≤ lnq_ g i := by unfold lnq_; rw [if_neg hn, if_pos (Or.inl q3)]; omega
        omega
      rw [if_neg (show ¬ nI (g (i + 1)) = 45 from nel_ (d := 45) g1 (by omega) (by omega)), if_neg (show ¬ (97 ≤ g (i + 1) ∧ g (i + 1) ≤ 108) by omega), if_pos (show (0 : Int32) = 0 from rfl), nI_2, signAt_ h11 hpc hi3, b1_so, if_pos (show nI (g (i + 1)) = 43 by rw [q3]; rfl), sub65_ q4]
      exact takeq_ hT hE (by omega) (by omega) sp wa Te
    · have hi3 : i + 2 < pc := by
        have h2 : 3 ≤ lnq_ g i := by unfold lnq_; rw [if_neg hn, if_pos (Or.inr ⟨q3, q4⟩)]; omega
        omega
      rw [if_neg (show ¬ nI (g (i + 1)) = 45 from nel_ (d := 45) g1 (by omega) (by omega)), if_neg (show ¬ (97 ≤ g (i + 1) ∧ g (i + 1) ≤ 108) by omega), if_pos (show (0 : Int32) = 0 from rfl), nI_2, signAt_ h11 hpc hi3, b1_so, if_neg (show ¬ nI (g (i + 1)) = 43 from nel_ (d := 43) g1 (by omega) (by omega)), sub65_ q5, sub48_ (by omega)]
      exact giveq_ hT hE (by omega) (by omega) (by omega) sp wa
theorem even_l {T : Nat} (hT : T < 64) {codes steps wet : Nat → Int32} {s w : Nat → Nat} (h1 : pl_ codes steps wet s w) {home home2 : Nat → Int32} {h : Nat → Nat} {signs pad : Nat → Int32} {g : Nat → Nat} (h11 : pd_ signs pad g) {pc : Nat} (hpc : pc ≤ 60) {m : Nat} (hm : sqq_ g m = pc) {A O W Te : Nat → Int32} (hd : ∀ k, k < m → dcq_ g (sqq_ g k) (A k) (O k) (W k) (Te k)) : ∀ (e k n F : Nat) (a li cr br : Nat → Nat) (at1 li1 ca1 be1 wh2 li2 ca2 : Nat → Int32) (sp wa : Int32), k + e = m → e + 1 < n → evq_ T home home2 h F a li cr br at1 li1 ca1 be1 wh2 li2 ca2 → ∃ (ac fa re cs ws : Int32) (F' : Nat) (a' li' cr' br' : Nat → Nat) (at1' li1' ca1' be1' wh2' li2' ca2' : Nat → Int32), fn_X1_play_l10 (nI T) home codes (nI pc) signs (fun v25 v26 v27 v28 v29 v30 v31 v32 v33 v34 => some (v25, v26, v27, v28, v29, nI T, v30, v31, home, v32, v33, v34)) n (nI (sqq_ g k)) (nI k) (nI k) (-6) (-6) sp wa (nI F) at1 li1 ca1 be1 = some (ac, fa, re, cs, ws, nI T, nI F', at1', home, li1', ca1', be1') ∧ fn_X10_goEvening_l24 (nI T) (nI m) steps wet A O W Te (fun v10 v11 v12 v13 v14 v15 v16 v17 => some (v10, v11, v12, v13, v14, v15, v16, v17)) n (nI k) (nI F) sp wa (-6) (-6) wh2 li2 ca2 = some (nI F', cs, ws, fa, re, wh2', li2', ca2') ∧ ((fa = (-6) ∧ re = (-6) ∧ ac = nI m) ∨ ∃ x, x < 60 ∧ fa = nI x) ∧ evq_ T home home2 h F' a' li' cr' br' at1' li1' ca1' be1' wh2' li2' ca2'
  | 0, k, 0, F, a, li, cr, br, at1, li1, ca1, be1, wh2, li2, ca2, sp, wa, q1, q2, hE => absurd q2 (by omega)
  | 0, k, n + 1, F, a, li, cr, br, at1, li1, ca1, be1, wh2, li2, ca2, sp, wa, q1, q2, hE => by
    have e : k = m := by omega
    subst e
    refine ⟨nI k, -6, -6, sp, wa, F, a, li, cr, br, at1, li1, ca1, be1, wh2, li2, ca2, ?_, ?_, Or.inl ⟨rfl, rfl, rfl⟩, hE⟩
    · show fn_X1_play_b10 (nI T) home codes (nI pc) signs _ (fun v25 v26 v27 v28 v29 v30 v31 v32 v33 v34 => some (v25, v26, v27, v28, v29, nI T, v30, v31, home, v32, v33, v34)) (nI (sqq_ g k)) (nI k) (nI k) (-6) (-6) sp wa (nI F) at1 li1 ca1 be1 = _
      unfold fn_X1_play_b10
      rw [hm, if_pos (Int32.le_refl (nI pc))]
      split <;> rfl
    · show fn_X10_goEvening_b24 (nI T) (nI k) steps wet A O W Te _ (fun v10 v11 v12 v13 v14 v15 v16 v17 => some (v10, v11, v12, v13, v14, v15, v16, v17)) (nI k) (nI F) sp wa (-6) (-6) wh2 li2 ca2 = _
      unfold fn_X10_goEvening_b24
      rw [if_pos (Int32.le_refl (nI k))]
  | e + 1, k, 0, F, a, li, cr, br, at1, li1, ca1, be1, wh2, li2, ca2, sp, wa, q1, q2, hE => absurd q2 (by omega)
  | e + 1, k, n + 1, F, a, li, cr, br, at1, li1, ca1, be1, wh2, li2, ca2, sp, wa, q1, q2, hE => by
    have hk : k < m := by omega
    have hmono := sqq_mono g (k + 1) e
    rw [show k + 1 + e = m by omega, hm] at hmono
    have hs1 : sqq_ g (k + 1) = sqq_ g k + lnq_ g (sqq_ g k) := rfl
    have hge := sqq_ge g k
    have hln : 1 ≤ lnq_ g (sqq_ g k) := by unfold lnq_; (repeat' split) <;> omega
    have hk60 : k < 60 := by omega
    obtain ⟨y, cs, ws, F', a', li', cr', br', at1', li1', ca1', be1', wh2', li2', ca2', y1, y2, y3, y4, y5, y6⟩ := perform_ hT h1 hE h11 hpc (i := sqq_ g k) (by omega) (hd k hk) sp wa
    have cl : fn_X1_play_l10 (nI T) home codes (nI pc) signs (fun v25 v26 v27 v28 v29 v30 v31 v32 v33 v34 => some (v25, v26, v27, v28, v29, nI T, v30, v31, home, v32, v33, v34)) (n + 1) (nI (sqq_ g k)) (nI k) (nI k) (-6) (-6) sp wa (nI F) at1 li1 ca1 be1 = if y = 0 then fn_X1_play_l10 (nI T) home codes (nI pc) signs (fun v25 v26 v27 v28 v29 v30 v31 v32 v33 v34 => some (v25, v26, v27, v28, v29, nI T, v30, v31, home, v32, v33, v34)) n (nI (sqq_ g (k + 1))) (nI (k + 1)) (nI (k + 1)) (-6) (-6) cs ws (nI F') at1' li1' ca1' be1' else some (nI k, nI k, nI y, cs, ws, nI T, nI F', at1', home, li1', ca1', be1') := by
      show fn_X1_play_b10 (nI T) home codes (nI pc) signs (fn_X1_play_l10 (nI T) home codes (nI pc) signs (fun v25 v26 v27 v28 v29 v30 v31 v32 v33 v34 => some (v25, v26, v27, v28, v29, nI T, v30, v31, home, v32, v33, v34)) n) (fun v25 v26 v27 v28 v29 v30 v31 v32 v33 v34 => some (v25, v26, v27, v28, v29, nI T, v30, v31, home, v32, v33, v34)) (nI (sqq_ g k)) (nI k) (nI k) (-6) (-6) sp wa (nI F) at1 li1 ca1 be1 = _
      unfold fn_X1_play_b10
      rw [if_neg (show ¬ (60 : Int32) ≤ nI k from nI_ge (b := 60) hk60 (by omega)), if_neg (nI_ge (by omega) (by omega)), y2, b8_so, actLength_ h11 hpc (by omega), b1_so, nI_add, ← hs1, nI_1]
      by_cases ey : y = 0
      · rw [if_pos ey, if_pos (show nI y = 0 by rw [ey]; rfl)]
      · rw [if_neg ey, if_neg (nI_ne0 (by omega) (by omega))]
    have rf : fn_X10_goEvening_l24 (nI T) (nI m) steps wet A O W Te (fun v10 v11 v12 v13 v14 v15 v16 v17 => some (v10, v11, v12, v13, v14, v15, v16, v17)) (n + 1) (nI k) (nI F) sp wa (-6) (-6) wh2 li2 ca2 = if y = 0 then fn_X10_goEvening_l24 (nI T) (nI m) steps wet A O W Te (fun v10 v11 v12 v13 v14 v15 v16 v17 => some (v10, v11, v12, v13, v14, v15, v16, v17)) n (nI (k + 1)) (nI F') cs ws (-6) (-6) wh2' li2' ca2' else fn_X10_goEvening_l24 (nI T) (nI m) steps wet A O W Te (fun v10 v11 v12 v13 v14 v15 v16 v17 => some (v10, v11, v12, v13, v14, v15, v16, v17)) n (nI (k + 1)) (nI F) sp wa (nI k) (nI y) wh2 li2 ca2 := by
      show fn_X10_goEvening_b24 (nI T) (nI m) steps wet A O W Te (fn_X10_goEvening_l24 (nI T) (nI m) steps wet A O W Te (fun v10 v11 v12 v13 v14 v15 v16 v17 => some (v10, v11, v12, v13, v14, v15, v16, v17)) n) (fun v10 v11 v12 v13 v14 v15 v16 v17 => some (v10, v11, v12, v13, v14, v15, v16, v17)) (nI k) (nI F) sp wa (-6) (-6) wh2 li2 ca2 = _
      have hmm := sqq_ge g m
      unfold fn_X10_goEvening_b24 fn_X10_goEvening_j79 fn_X10_goEvening_j93
      rw [if_neg (nI_ge hk (by omega)), if_neg (show ¬ (0 : Int32) ≤ -6 by decide)]
      simp only [ckn_ hk60 (show 60 < 2 ^ 31 by omega), nI_clamp (show k < 2 ^ 31 by omega), y3, b1_so, nI_1]
      by_cases ey : y = 0
      · subst ey
        rw [if_pos rfl, if_pos (show nI 0 ≤ 0 by decide), if_pos (show nI 0 ≤ 0 by decide), if_pos (show nI 0 = 0 from rfl), y4 rfl, b6_so]
      · rw [if_neg ey, if_neg (nI_nle (by omega) (by omega)), if_neg (nI_nle (by omega) (by omega)), if_neg (nI_ne0 (by omega) (by omega))]
    rw [cl, rf]
    by_cases ey : y = 0
    · rw [if_pos ey, if_pos ey]
      exact even_l hT h1 h11 hpc hm hd e (k + 1) n F' a' li' cr' br' at1' li1' ca1' be1' wh2' li2' ca2' cs ws (by omega) (by omega) y6
    · rw [if_neg ey, if_neg ey]
      obtain ⟨z1, z2, z3, z4, z5, z6⟩ := y5 ey
      obtain ⟨n', rfl⟩ : ∃ n', n = n' + 1 := ⟨n - 1, by omega⟩
      refine ⟨nI k, nI k, nI y, sp, wa, F, a', li', cr', br', at1', li1', ca1', be1', wh2, li2, ca2, ?_, ?_, Or.inr ⟨k, hk60, rfl⟩, ?_⟩
      · rw [z1, z2, z3]
      · show fn_X10_goEvening_b24 (nI T) (nI m) steps wet A O W Te _ (fun v10 v11 v12 v13 v14 v15 v16 v17 => some (v10, v11, v12, v13, v14, v15, v16, v17)) (nI (k + 1)) (nI F) sp wa (nI k) (nI y) wh2 li2 ca2 = _
        unfold fn_X10_goEvening_b24
        rw [if_pos (show (0 : Int32) ≤ nI k from nI_pos' (by omega))]
        split <;> rfl
      · rw [← z4, ← z5, ← z6, ← z3]
        exact y6
theorem cpy_ {f g : Nat → Int32} {i n : Nat} (h : i < n) : va_cpy f g 0 0 n i = f i := by
  unfold va_cpy
  rw [if_pos ⟨by omega, by omega⟩]
  congr 1
  omega
theorem copyFrom_ {F : Nat} (hF : F ≤ 1) (t0 f0 : Int32) (a0 h0 l0 c0 b0 : Nat → Int32) (t : Int32) (a1 h1 l1 c1 b1 : Nat → Int32) : fn_X0_copyFrom t0 f0 a0 h0 l0 c0 b0 t (nI F) a1 h1 l1 c1 b1 = some (t, nI F, va_cpy a1 a0 0 0 6, va_cpy h1 h0 0 0 6, va_cpy l1 l0 0 0 6, va_cpy c1 c0 0 0 6, va_cpy b1 b0 0 0 6) := by
  unfold fn_X0_copyFrom
  rcases (show F = 0 ∨ F = 1 by omega) with e | e
  · subst e; rw [show nI 0 = 0 from rfl, bz0_]; rfl
  · subst e; rw [show nI 1 = 1 from rfl, bz1_]; rfl
theorem b7_so {α1 α2 α3 α4 α5 α6 α7 β : Type} (x1 : α1) (x2 : α2) (x3 : α3) (x4 : α4) (x5 : α5) (x6 : α6) (x7 : α7) (k : α1 → α2 → α3 → α4 → α5 → α6 → α7 → Option β) : b7_ (some (x1, x2, x3, x4, x5, x6, x7)) k = k x1 x2 x3 x4 x5 x6 x7 := rfl
theorem b12_so {α1 α2 α3 α4 α5 α6 α7 α8 α9 α10 α11 α12 β : Type} (x1 : α1) (x2 : α2) (x3 : α3) (x4 : α4) (x5 : α5) (x6 : α6) (x7 : α7) (x8 : α8) (x9 : α9) (x10 : α10) (x11 : α11) (x12 : α12) (k : α1 → α2 → α3 → α4 → α5 → α6 → α7 → α8 → α9 → α10 → α11 → α12 → Option β) : b12_ (some (x1, x2, x3, x4, x5, x6, x7, x8, x9, x10, x11, x12)) k = k x1 x2 x3 x4 x5 x6 x7 x8 x9 x10 x11 x12 := rfl
theorem evq_cpy {T : Nat} {F : Nat} (hF : F ≤ 1) {a h li cr br : Nat → Nat} {at1 home li1 wh2 home2 li2 ca1 be1 ca2 : Nat → Int32} (h5 : wk_ at1 home li1 wh2 home2 li2 a h li) (h6 : cy1_ ca1 be1 ca2 cr br) (h7 : cy2_ T cr br) (a0 h0 l0 c0 b0 : Nat → Int32) : evq_ T (va_cpy home h0 0 0 6) home2 h F a li cr br (va_cpy at1 a0 0 0 6) (va_cpy li1 l0 0 0 6) (va_cpy ca1 c0 0 0 6) (va_cpy be1 b0 0 0 6) wh2 li2 ca2 := by
  refine ⟨hF, fun i hi => ?_, fun i hi => ?_, h7⟩
  · rw [cpy_ hi, cpy_ hi, cpy_ hi]; exact h5 i hi
  · rw [cpy_ hi, cpy_ hi]; exact h6 i hi
/-- an evening without a fault in its text, of both; E0: the rows that the class had -/
theorem evening_ {T : Nat} (hT : T < 64) {codes steps wet : Nat → Int32} {s w : Nat → Nat} (h1 : pl_ codes steps wet s w) {F : Nat} (hF : F ≤ 1) {a h li cr br : Nat → Nat} {at1 home li1 wh2 home2 li2 ca1 be1 ca2 : Nat → Int32} (h5 : wk_ at1 home li1 wh2 home2 li2 a h li) (h6 : cy1_ ca1 be1 ca2 cr br) (h7 : cy2_ T cr br) {signs pad : Nat → Int32} {g : Nat → Nat} (h11 : pd_ signs pad g) {pc : Nat} (hpc : pc ≤ 60) {m : Nat} (hm : sqq_ g m = pc) {A O W Te : Nat → Int32} (hd : ∀ k, k < m → dcq_ g (sqq_ g k) (A k) (O k) (W k) (Te k)) (y1 y2 y3 y4 y5 y6 y7 : Int32) (a0 h0 l0 c0 b0 : Nat → Int32) (z1 z2 z3 z4 : Int32) : ∃ (ac fa re cs ws : Int32) (F' : Nat) (a' li' cr' br' : Nat → Nat) (at1' li1' ca1' be1' wh2' li2' ca2' : Nat → Int32), fn_X1_play y1 y2 y3 y4 y5 y6 y7 a0 h0 l0 c0 b0 codes (nI T) (nI F) at1 home li1 ca1 be1 (nI pc) signs = some (ac, fa, re, cs, ws, nI T, nI F', at1', va_cpy home h0 0 0 6, li1', ca1', be1') ∧ fn_X10_goEvening (nI F) (nI T) (nI m) z1 z2 z3 z4 steps wet wh2 li2 ca2 A O W Te = some (nI F', cs, ws, fa, re, wh2', li2', ca2') ∧ ((fa = (-6) ∧ re = (-6) ∧ ac = nI m) ∨ ∃ x, x < 60 ∧ fa = nI x) ∧ evq_ T (va_cpy home h0 0 0 6) home2 h F' a' li' cr' br' at1' li1' ca1' be1' wh2' li2' ca2' := by
  have hmm := sqq_ge g m
  obtain ⟨ac, fa, re, cs, ws, F', a', li', cr', br', at1', li1', ca1', be1', wh2', li2', ca2', e1, e2, e3, e4⟩ := even_l hT h1 h11 hpc hm hd m 0 fu_ F a li cr br (va_cpy at1 a0 0 0 6) (va_cpy li1 l0 0 0 6) (va_cpy ca1 c0 0 0 6) (va_cpy be1 b0 0 0 6) wh2 li2 ca2 0 0 (Nat.zero_add _) (fu_lt (by omega)) (evq_cpy hF h5 h6 h7 a0 h0 l0 c0 b0)
  refine ⟨ac, fa, re, cs, ws, F', a', li', cr', br', at1', li1', ca1', be1', wh2', li2', ca2', ?_, e2, e3, e4⟩
  unfold fn_X1_play fn_X1_begin
  rw [copyFrom_ hF, b7_so, b12_so]
  exact e1
/-! what is stored, and laid back -/
theorem store_ {T : Nat} (hT : T < 64) {home home2 : Nat → Int32} {h : Nat → Nat} {F : Nat} {a li cr br : Nat → Nat} {at1 li1 ca1 be1 wh2 li2 ca2 : Nat → Int32} (hE : evq_ T home home2 h F a li cr br at1 li1 ca1 be1 wh2 li2 ca2) (Q : Nat → Int32) : ∃ Q' : Nat → Int32, fn_X10_store (nI F) (nI T) wh2 li2 ca2 Q = some Q' ∧ (∀ j, j < 6 → Q' j = wh2 j ∧ Q' (6 + j) = li2 j ∧ Q' (12 + j) = ca2 j ∧ Q' (18 + j) = enc_ (br j)) ∧ Q' 24 = nI F := by
  obtain ⟨hF, h5, h6, h7⟩ := hE
  unfold fn_X10_store
  obtain ⟨Q1, e1, e2⟩ := lp_ 6 (fun n x (st : Nat → Int32) => fn_X10_store_l2 (nI T) wh2 li2 ca2 (fun v10 => ck_ 24 25 (lx_ (upd v10 (Int32.toNatClampNeg 24) (nI F)) fun f11 => some f11)) n x st) (fun v10 => ck_ 24 25 (lx_ (upd v10 (Int32.toNatClampNeg 24) (nI F)) fun f11 => some f11)) (fun i Q => ∀ j, j < i → Q j = wh2 j ∧ Q (6 + j) = li2 j ∧ Q (12 + j) = ca2 j ∧ Q (18 + j) = enc_ (br j)) (by
    intro n i Q hi hQ
    obtain ⟨c1, c2, c3, c4, c5⟩ := h6 i hi
    show ∃ st', fn_X10_store_b2 (nI T) wh2 li2 ca2 (fn_X10_store_l2 (nI T) wh2 li2 ca2 (fun v10 => ck_ 24 25 (lx_ (upd v10 (Int32.toNatClampNeg 24) (nI F)) fun f11 => some f11)) n) (fun v10 => ck_ 24 25 (lx_ (upd v10 (Int32.toNatClampNeg 24) (nI F)) fun f11 => some f11)) (nI i) Q = fn_X10_store_l2 (nI T) wh2 li2 ca2 (fun v10 => ck_ 24 25 (lx_ (upd v10 (Int32.toNatClampNeg 24) (nI F)) fun f11 => some f11)) n (nI (i + 1)) st' ∧ _
    unfold fn_X10_store_b2
    rw [if_neg (show ¬ (6 : Int32) ≤ nI i from nI_ge (b := 6) hi (by omega)), (has_ hT hi).2, carrierOf_ hT h6 h7 hi]
    simp only [ckn_ (show i < 6 by omega) (show 6 < 2 ^ 31 by omega), ckn_ (show i < 25 by omega) (show 25 < 2 ^ 31 by omega), show (6 : Int32) = nI 6 from rfl, show (12 : Int32) = nI 12 from rfl, show (18 : Int32) = nI 18 from rfl, nI_add, ckn_ (show 6 + i < 25 by omega) (show 25 < 2 ^ 31 by omega), ckn_ (show 12 + i < 25 by omega) (show 25 < 2 ^ 31 by omega), ckn_ (show 18 + i < 25 by omega) (show 25 < 2 ^ 31 by omega), nI_clamp (show i < 2 ^ 31 by omega), nI_clamp (show 6 + i < 2 ^ 31 by omega), nI_clamp (show 12 + i < 2 ^ 31 by omega), nI_clamp (show 18 + i < 2 ^ 31 by omega), lx_so, b1_so, nI_1]
    have fin : ∀ j, j < i + 1 → upd (upd (upd (upd Q i (wh2 i)) (6 + i) (li2 i)) (12 + i) (ca2 i)) (18 + i) (enc_ (br i)) j = wh2 j ∧ upd (upd (upd (upd Q i (wh2 i)) (6 + i) (li2 i)) (12 + i) (ca2 i)) (18 + i) (enc_ (br i)) (6 + j) = li2 j ∧ upd (upd (upd (upd Q i (wh2 i)) (6 + i) (li2 i)) (12 + i) (ca2 i)) (18 + i) (enc_ (br i)) (12 + j) = ca2 j ∧ upd (upd (upd (upd Q i (wh2 i)) (6 + i) (li2 i)) (12 + i) (ca2 i)) (18 + i) (enc_ (br i)) (18 + j) = enc_ (br j) := by
      intro j hj
      simp only [up_nI]
      by_cases e : j = i
      · subst e
        refine ⟨?_, ?_, ?_, ?_⟩
        · rw [if_neg (by omega), if_neg (by omega), if_neg (by omega), if_pos rfl]
        · rw [if_neg (by omega), if_neg (by omega), if_pos rfl]
        · rw [if_neg (by omega), if_pos rfl]
        · rw [if_pos rfl]
      · obtain ⟨k1, k2, k3, k4⟩ := hQ j (by omega)
        refine ⟨?_, ?_, ?_, ?_⟩
        · rw [if_neg (by omega), if_neg (by omega), if_neg (by omega), if_neg (by omega), k1]
        · rw [if_neg (by omega), if_neg (by omega), if_neg (by omega), if_neg (by omega), k2]
        · rw [if_neg (by omega), if_neg (by omega), if_neg (by omega), if_neg (by omega), k3]
        · rw [if_neg (by omega), if_neg (by omega), if_neg (by omega), if_neg (by omega), k4]
    by_cases e : T.testBit i = true
    · rw [if_pos e, if_neg (by decide)]
      exact ⟨_, rfl, fin⟩
    · rw [if_neg e, if_pos rfl]
      have hb : br i = 6 := by
        rcases Nat.lt_or_ge (br i) 6 with hlt | hge
        · have hc := (h7.1 (br i) i hlt hi).mpr rfl
          have ht := (h7.2 (br i) hlt (by omega)).2.2
          rw [hc] at ht
          exact absurd ht e
        · omega
      rw [show -nI 6 = enc_ (br i) by rw [hb]; rfl]
      exact ⟨_, rfl, fin⟩) (by
    intro n Q hQ
    show fn_X10_store_b2 (nI T) wh2 li2 ca2 (fn_X10_store_l2 (nI T) wh2 li2 ca2 (fun v10 => ck_ 24 25 (lx_ (upd v10 (Int32.toNatClampNeg 24) (nI F)) fun f11 => some f11)) n) (fun v10 => ck_ 24 25 (lx_ (upd v10 (Int32.toNatClampNeg 24) (nI F)) fun f11 => some f11)) (nI 6) Q = _
    unfold fn_X10_store_b2
    rw [if_pos (show (6 : Int32) ≤ nI 6 by decide)]) 6 0 fu_ Q rfl (fu_lt (by omega)) (fun j hj => absurd hj (by omega))
  refine ⟨upd Q1 24 (nI F), ?_, fun j hj => ?_, ?_⟩
  · refine Eq.trans e1 ?_
    show ck_ (nI 24) 25 (lx_ (upd Q1 (Int32.toNatClampNeg (nI 24)) (nI F)) fun f11 => some f11) = _
    rw [ckn_ (by omega) (by omega), nI_clamp (by omega), lx_so]
  · rw [up_ne (by omega), up_ne (by omega), up_ne (by omega), up_ne (by omega)]
    exact e2 j hj
  · exact up_eq
theorem layq_ (f : Int32) (wh li ca Q : Nat → Int32) : ∃ W L C : Nat → Int32, fn_X10_lay f wh li ca Q = some (Q 24, W, L, C) ∧ ∀ j, j < 6 → W j = Q j ∧ L j = Q (6 + j) ∧ C j = Q (12 + j) := by
  unfold fn_X10_lay
  obtain ⟨st, e1, e2⟩ := lp_ 6 (fun n x (st : (Nat → Int32) × (Nat → Int32) × (Nat → Int32)) => fn_X10_lay_l2 Q (fun v4 v5 v6 => ck_ 24 25 (lx_ (Q (Int32.toNatClampNeg 24)) fun y7 => some (y7, v4, v5, v6))) n x st.1 st.2.1 st.2.2) (fun st => ck_ 24 25 (lx_ (Q (Int32.toNatClampNeg 24)) fun y7 => some (y7, st.1, st.2.1, st.2.2))) (fun i st => ∀ j, j < i → st.1 j = Q j ∧ st.2.1 j = Q (6 + j) ∧ st.2.2 j = Q (12 + j)) (by
    intro n i st hi hI
    obtain ⟨W, L, C⟩ := st
    show ∃ st' : (Nat → Int32) × (Nat → Int32) × (Nat → Int32), fn_X10_lay_b2 Q (fn_X10_lay_l2 Q (fun v4 v5 v6 => ck_ 24 25 (lx_ (Q (Int32.toNatClampNeg 24)) fun y7 => some (y7, v4, v5, v6))) n) (fun v4 v5 v6 => ck_ 24 25 (lx_ (Q (Int32.toNatClampNeg 24)) fun y7 => some (y7, v4, v5, v6))) (nI i) W L C = fn_X10_lay_l2 Q (fun v4 v5 v6 => ck_ 24 25 (lx_ (Q (Int32.toNatClampNeg 24)) fun y7 => some (y7, v4, v5, v6))) n (nI (i + 1)) st'.1 st'.2.1 st'.2.2 ∧ _
    unfold fn_X10_lay_b2
    rw [if_neg (show ¬ (6 : Int32) ≤ nI i from nI_ge (b := 6) hi (by omega))]
    simp only [ckn_ (show i < 6 by omega) (show 6 < 2 ^ 31 by omega), ckn_ (show i < 25 by omega) (show 25 < 2 ^ 31 by omega), show (6 : Int32) = nI 6 from rfl, show (12 : Int32) = nI 12 from rfl, nI_add, ckn_ (show 6 + i < 25 by omega) (show 25 < 2 ^ 31 by omega), ckn_ (show 12 + i < 25 by omega) (show 25 < 2 ^ 31 by omega), nI_clamp (show i < 2 ^ 31 by omega), nI_clamp (show 6 + i < 2 ^ 31 by omega), nI_clamp (show 12 + i < 2 ^ 31 by omega), lx_so, nI_1]
    refine ⟨(upd W i (Q i), upd L i (Q (6 + i)), upd C i (Q (12 + i))), rfl, fun j hj => ?_⟩
    show upd W i (Q i) j = Q j ∧ upd L i (Q (6 + i)) j = Q (6 + j) ∧ upd C i (Q (12 + i)) j = Q (12 + j)
    by_cases e : j = i
    · subst e
      rw [up_eq, up_eq, up_eq]
      exact ⟨rfl, rfl, rfl⟩
    · rw [up_ne e, up_ne e, up_ne e]
      exact hI j (by omega)) (by
    intro n st hI
    show fn_X10_lay_b2 Q (fn_X10_lay_l2 Q (fun v4 v5 v6 => ck_ 24 25 (lx_ (Q (Int32.toNatClampNeg 24)) fun y7 => some (y7, v4, v5, v6))) n) (fun v4 v5 v6 => ck_ 24 25 (lx_ (Q (Int32.toNatClampNeg 24)) fun y7 => some (y7, v4, v5, v6))) (nI 6) st.1 st.2.1 st.2.2 = _
    unfold fn_X10_lay_b2
    rw [if_pos (show (6 : Int32) ≤ nI 6 by decide)]) 6 0 fu_ (wh, li, ca) rfl (fu_lt (by omega)) (fun j hj => absurd hj (by omega))
  refine ⟨st.1, st.2.1, st.2.2, Eq.trans e1 ?_, e2⟩
  show ck_ (nI 24) 25 (lx_ (Q (Int32.toNatClampNeg (nI 24))) fun y7 => some (y7, st.1, st.2.1, st.2.2)) = _
  rw [ckn_ (by omega) (by omega), nI_clamp (by omega), lx_so]
