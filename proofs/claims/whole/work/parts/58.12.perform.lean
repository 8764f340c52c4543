/-! ===== the acts of an evening ===== -/
theorem signAt_ {signs pad : Nat → Int32} {g : Nat → Nat} (h11 : pd_ signs pad g) {pc : Nat} (hpc : pc ≤ 60) {i : Nat} (hi : i < pc) : fn_X4_signAt (nI pc) signs (nI i) = some (nI (g i)) := by
  unfold fn_X4_signAt fn_X9_isWithin
  rw [show nI pc - 1 = nI (pc - 1) from pk_sub (b := 1) (by omega), if_neg (nI_pos (by omega)), if_neg (nI_nlt (by omega) (by omega)), b1_so, if_neg (by decide), ckn_ (by omega) (by omega), nI_clamp (by omega), (h11 i (by omega)).2.1]
theorem nI_2 (a : Nat) : nI a + 2 = nI (a + 2) := nI_add a 2
theorem actLength_ {signs pad : Nat → Int32} {g : Nat → Nat} (h11 : pd_ signs pad g) {pc : Nat} (hpc : pc ≤ 60) {i : Nat} (hi : i + lnq_ g i ≤ pc) : fn_X4_actLength (nI pc) signs (nI i) = some (nI (lnq_ g i)) := by
  unfold fn_X4_actLength
  unfold lnq_ at hi ⊢
  by_cases e : g i = 126
  · rw [if_pos e] at hi ⊢
    rw [signAt_ h11 hpc (by omega), b1_so, if_pos (show nI (g i) = 126 by rw [e]; rfl)]
    rfl
  · rw [if_neg e] at hi ⊢
    have h2 : i + 2 ≤ pc := by split at hi <;> omega
    have g1 := (h11 i (by omega)).1
    rw [signAt_ h11 hpc (by omega), b1_so, if_neg (show ¬ nI (g i) = 126 from nel_ (d := 126) g1 (by omega) e), nI_1, signAt_ h11 hpc (by omega), b1_so, (in49_ (h11 (i + 1) (by omega)).1).2, b1_so]
    by_cases e2 : g (i + 1) = 43 ∨ (49 ≤ g (i + 1) ∧ g (i + 1) ≤ 57)
    · rw [if_pos e2, if_pos e2, if_neg (show ¬ (1 : Int32) = 0 by decide)]
      rfl
    · rw [if_neg e2, if_neg e2, if_pos rfl]
      rfl
def acn_ (T : Nat) (home home2 : Nat → Int32) (h : Nat → Nat) (steps wet : Nat → Int32) (F : Nat) (sp wa : Int32) (wh2 li2 ca2 : Nat → Int32) (A O W Te : Int32) (P : Option (Int32 × Int32 × Int32 × Int32 × (Nat → Int32) × (Nat → Int32) × (Nat → Int32) × (Nat → Int32))) : Prop := ∃ (y : Nat) (cs ws : Int32) (F' : Nat) (a' li' cr' br' : Nat → Nat) (at1' li1' ca1' be1' wh2' li2' ca2' : Nat → Int32), y ≤ 7 ∧ P = some (nI y, cs, ws, nI F', at1', li1', ca1', be1') ∧ fn_X10_whyNot (nI F) (nI T) steps wet wh2 li2 ca2 A O W Te = some (nI y) ∧ (y = 0 → fn_X10_happen (nI F) sp wa steps wet wh2 li2 ca2 A O W Te = some (nI F', cs, ws, wh2', li2', ca2')) ∧ (y ≠ 0 → cs = sp ∧ ws = wa ∧ F' = F ∧ wh2' = wh2 ∧ li2' = li2 ∧ ca2' = ca2) ∧ evq_ T home home2 h F' a' li' cr' br' at1' li1' ca1' be1' wh2' li2' ca2'
theorem mtq_le {T : Nat} {a br : Nat → Nat} {j v : Nat} : mtq_ T a br j v ≤ 4 ∧ (mtq_ T a br j v = 0 → T.testBit j = true ∧ T.testBit v = true ∧ j ≠ v ∧ br j = 6 ∧ br v = 6 ∧ a j = a v) := by
  unfold mtq_
  by_cases e1 : T.testBit j = true
  · rw [if_pos e1]
    by_cases e2 : T.testBit v = true
    · rw [if_pos e2]
      by_cases e3 : j = v
      · rw [if_pos e3]; exact ⟨by omega, fun q => absurd q (by omega)⟩
      · rw [if_neg e3]
        by_cases e4 : br j = 6
        · rw [if_pos e4]
          by_cases e5 : br v = 6
          · rw [if_pos e5]
            by_cases e6 : a j = a v
            · rw [if_pos e6]; exact ⟨by omega, fun _ => ⟨e1, e2, e3, e4, e5, e6⟩⟩
            · rw [if_neg e6]; exact ⟨by omega, fun q => absurd q (by omega)⟩
          · rw [if_neg e5]; exact ⟨by omega, fun q => absurd q (by omega)⟩
        · rw [if_neg e4]; exact ⟨by omega, fun q => absurd q (by omega)⟩
    · rw [if_neg e2]; exact ⟨by omega, fun q => absurd q (by omega)⟩
  · rw [if_neg e1]; exact ⟨by omega, fun q => absurd q (by omega)⟩
theorem takeq_ {T : Nat} (hT : T < 64) {steps wet : Nat → Int32} {home home2 : Nat → Int32} {h : Nat → Nat} {F : Nat} {a li cr br : Nat → Nat} {at1 li1 ca1 be1 wh2 li2 ca2 : Nat → Int32} (hE : evq_ T home home2 h F a li cr br at1 li1 ca1 be1 wh2 li2 ca2) {j v : Nat} (hj : j < 6) (hv : v < 6) (sp wa x : Int32) : acn_ T home home2 h steps wet F sp wa wh2 li2 ca2 1 (nI j) (nI v) x (b3_ (fn_X0_takeUp (nI T) at1 ca1 be1 (nI j) (nI v)) fun r12 w13 w14 => some (r12, sp, wa, nI F, at1, li1, w13, w14)) := by
  have hm := mtq_le (T := T) (a := a) (br := br) (j := j) (v := v)
  have m1 := meet1_ hT hE hj hv
  have m2 := meet2_ hT hE hj hv 1 (t := 0) (by omega)
  obtain ⟨hF, h5, h6, h7⟩ := id hE
  obtain ⟨c1, c2, c3, c4, c5⟩ := h6 j hj
  obtain ⟨f1, f2, f3, f4, f5⟩ := h6 v hv
  have mx : fn_X10_whyNot (nI F) (nI T) steps wet wh2 li2 ca2 1 (nI j) (nI v) x = some (nI (if mtq_ T a br j v = 0 then (if cr j = 6 ∧ cr v = 6 then 0 else 7) else mtq_ T a br j v)) := by
    unfold fn_X10_whyNot fn_X10_whyNot_j17
    rw [if_neg (show ¬ (1 : Int32) = 4 by decide), if_pos rfl]
    have e : fn_X10_whyNotBoth (nI T) wh2 li2 ca2 1 (nI j) (nI v) x = fn_X10_whyNotBoth (nI T) wh2 li2 ca2 1 (nI j) (nI v) (nI 0) := by
      unfold fn_X10_whyNotBoth
      simp only [if_neg (show ¬ (1 : Int32) = 3 by decide)]
    rw [e, m2, b1_so, if_neg (show ¬ (1 : Int32) = 3 by decide)]
  unfold acn_
  rw [mx]
  unfold fn_X0_takeUp
  rw [m1, b1_so]
  simp only [ckn_ hj (show 6 < 2 ^ 31 by omega), nI_clamp (show j < 2 ^ 31 by omega), ckn_ hv (show 6 < 2 ^ 31 by omega), nI_clamp (show v < 2 ^ 31 by omega), c3, f3, lx_so]
  have bad : ∀ y : Nat, y ≤ 7 → y ≠ 0 → ∃ (y' : Nat) (cs ws : Int32) (F' : Nat) (a' li' cr' br' : Nat → Nat) (at1' li1' ca1' be1' wh2' li2' ca2' : Nat → Int32), y' ≤ 7 ∧ (some (nI y, sp, wa, nI F, at1, li1, ca1, be1) : Option (Int32 × Int32 × Int32 × Int32 × (Nat → Int32) × (Nat → Int32) × (Nat → Int32) × (Nat → Int32))) = some (nI y', cs, ws, nI F', at1', li1', ca1', be1') ∧ some (nI y) = some (nI y') ∧ (y' = 0 → fn_X10_happen (nI F) sp wa steps wet wh2 li2 ca2 1 (nI j) (nI v) x = some (nI F', cs, ws, wh2', li2', ca2')) ∧ (y' ≠ 0 → cs = sp ∧ ws = wa ∧ F' = F ∧ wh2' = wh2 ∧ li2' = li2 ∧ ca2' = ca2) ∧ evq_ T home home2 h F' a' li' cr' br' at1' li1' ca1' be1' wh2' li2' ca2' := fun y hy h0 => ⟨y, sp, wa, F, a, li, cr, br, at1, li1, ca1, be1, wh2, li2, ca2, hy, rfl, rfl, fun q => absurd q h0, fun _ => ⟨rfl, rfl, rfl, rfl, rfl, rfl⟩, hE⟩
  by_cases e0 : mtq_ T a br j v = 0
  · rw [if_pos (show nI (mtq_ T a br j v) = 0 by rw [e0]; rfl), if_pos e0]
    obtain ⟨t1, t2, t3, t4, t5, t6⟩ := hm.2 e0
    by_cases e8 : cr j = 6
    · rw [if_pos ((enc_no c1).mpr e8)]
      by_cases e9 : cr v = 6
      · rw [if_pos ((enc_no f1).mpr e9), if_pos ⟨e8, e9⟩]
        refine ⟨0, sp, wa, F, a, li, upn_ cr j v, upn_ br v j, at1, li1, upd ca1 j (nI v), upd be1 v (nI j), wh2, li2, upd ca2 j (nI v), by omega, rfl, rfl, fun _ => ?_, fun q => absurd rfl q, hF, h5, fun i hi => ?_, fun i u hi hu => ?_, fun i hi hl => ?_⟩
        · unfold fn_X10_happen
          rw [if_neg (show ¬ (1 : Int32) = 0 by decide), if_pos rfl, ckn_ hj (by omega), nI_clamp (by omega), lx_so]
        · obtain ⟨g1, g2, g3, g4, g5⟩ := h6 i hi
          rw [up_nI, up_nI, up_nI]
          unfold upn_
          refine ⟨by split <;> omega, by split <;> omega, ?_, ?_, ?_⟩
          · by_cases e : i = j
            · rw [if_pos e, if_pos e, enc_lt hv]
            · rw [if_neg e, if_neg e]; exact g3
          · by_cases e : i = v
            · rw [if_pos e, if_pos e, enc_lt hj]
            · rw [if_neg e, if_neg e]; exact g4
          · by_cases e : i = j
            · rw [if_pos e, if_pos e, enc_lt hv]
            · rw [if_neg e, if_neg e]; exact g5
        · have k1 := h7.1 j u hj hu
          have k2 := h7.1 i v hi hv
          have k3 := h7.1 i u hi hu
          unfold upn_
          by_cases e1 : i = j
          · by_cases e2 : u = v
            · rw [if_pos e1, if_pos e2]; omega
            · rw [if_pos e1, if_neg e2]; omega
          · by_cases e2 : u = v
            · rw [if_neg e1, if_pos e2]; omega
            · rw [if_neg e1, if_neg e2]; exact k3
        · unfold upn_ at hl ⊢
          by_cases e1 : i = j
          · rw [if_pos e1]
            subst e1
            exact ⟨fun q => t3 q.symm, t1, t2⟩
          · rw [if_neg e1] at hl ⊢
            exact h7.2 i hi hl
      · rw [if_neg (fun q => e9 ((enc_no f1).mp q)), if_neg (fun q => e9 q.2)]
        exact bad 7 (by omega) (by omega)
    · rw [if_neg (fun q => e8 ((enc_no c1).mp q)), if_neg (fun q => e8 q.1)]
      exact bad 7 (by omega) (by omega)
  · rw [if_neg (nI_ne0 (by omega) (by omega)), if_neg e0]
    exact bad _ (by omega) e0
theorem giveq_ {T : Nat} (hT : T < 64) {steps wet : Nat → Int32} {home home2 : Nat → Int32} {h : Nat → Nat} {F : Nat} {a li cr br : Nat → Nat} {at1 li1 ca1 be1 wh2 li2 ca2 : Nat → Int32} (hE : evq_ T home home2 h F a li cr br at1 li1 ca1 be1 wh2 li2 ca2) {j v t : Nat} (hj : j < 6) (hv : v < 6) (ht : t ≤ 9) (sp wa : Int32) : acn_ T home home2 h steps wet F sp wa wh2 li2 ca2 3 (nI j) (nI v) (nI t) (b2_ (fn_X0_give (nI T) at1 li1 be1 (nI j) (nI v) (10 * nI t)) fun r9 w10 => some (r9, sp, wa, nI F, at1, w10, ca1, be1)) := by
  have hm := mtq_le (T := T) (a := a) (br := br) (j := j) (v := v)
  have m1 := meet1_ hT hE hj hv
  have m2 := meet2_ hT hE hj hv 3 ht
  obtain ⟨hF, h5, h6, h7⟩ := id hE
  obtain ⟨b1, b2, b3, b4, b5, b6, b7, b8, b9⟩ := h5 j hj
  obtain ⟨d1, d2, d3, d4, d5, d6, d7, d8, d9⟩ := h5 v hv
  have mx : fn_X10_whyNot (nI F) (nI T) steps wet wh2 li2 ca2 3 (nI j) (nI v) (nI t) = some (nI (if mtq_ T a br j v = 0 then (if 10 * t ≤ li j then 0 else 6) else mtq_ T a br j v)) := by
    unfold fn_X10_whyNot fn_X10_whyNot_j17
    rw [if_neg (show ¬ (3 : Int32) = 4 by decide), if_neg (show ¬ (3 : Int32) = 1 by decide), if_pos rfl, m2, b1_so, if_pos rfl]
  unfold acn_
  rw [mx]
  unfold fn_X0_give
  rw [m1, b1_so]
  simp only [ckn_ hj (show 6 < 2 ^ 31 by omega), nI_clamp (show j < 2 ^ 31 by omega), ckn_ hv (show 6 < 2 ^ 31 by omega), nI_clamp (show v < 2 ^ 31 by omega), b6, lx_so, show (10 : Int32) = nI 10 from rfl, pk_mul]
  have bad : ∀ y : Nat, y ≤ 7 → y ≠ 0 → ∃ (y' : Nat) (cs ws : Int32) (F' : Nat) (a' li' cr' br' : Nat → Nat) (at1' li1' ca1' be1' wh2' li2' ca2' : Nat → Int32), y' ≤ 7 ∧ (some (nI y, sp, wa, nI F, at1, li1, ca1, be1) : Option (Int32 × Int32 × Int32 × Int32 × (Nat → Int32) × (Nat → Int32) × (Nat → Int32) × (Nat → Int32))) = some (nI y', cs, ws, nI F', at1', li1', ca1', be1') ∧ some (nI y) = some (nI y') ∧ (y' = 0 → fn_X10_happen (nI F) sp wa steps wet wh2 li2 ca2 3 (nI j) (nI v) (nI t) = some (nI F', cs, ws, wh2', li2', ca2')) ∧ (y' ≠ 0 → cs = sp ∧ ws = wa ∧ F' = F ∧ wh2' = wh2 ∧ li2' = li2 ∧ ca2' = ca2) ∧ evq_ T home home2 h F' a' li' cr' br' at1' li1' ca1' be1' wh2' li2' ca2' := fun y hy h0 => ⟨y, sp, wa, F, a, li, cr, br, at1, li1, ca1, be1, wh2, li2, ca2, hy, rfl, rfl, fun q => absurd q h0, fun _ => ⟨rfl, rfl, rfl, rfl, rfl, rfl⟩, hE⟩
  by_cases e0 : mtq_ T a br j v = 0
  · rw [if_pos (show nI (mtq_ T a br j v) = 0 by rw [e0]; rfl), if_pos e0]
    obtain ⟨t1, t2, t3, t4, t5, t6⟩ := hm.2 e0
    by_cases e8 : 10 * t ≤ li j
    · rw [if_pos (nI_le e8 (by omega)), if_pos e8, pk_sub e8, up_ne (fun q => t3 q.symm), d6, nI_add]
      have e10 : (if nI (li v + 10 * t) < 999 then nI (li v + 10 * t) else 999) = nI (if li v + 10 * t < 999 then li v + 10 * t else 999) := by
        by_cases e : li v + 10 * t < 999
        · rw [if_pos (show nI (li v + 10 * t) < 999 from nI_lt (b := 999) e (by omega)), if_pos e]
        · rw [if_neg (show ¬ nI (li v + 10 * t) < 999 from nI_nlt (b := 999) (by omega) (by omega)), if_neg e]; rfl
      rw [e10, b2_so]
      refine ⟨0, sp, wa, F, a, upn_ (upn_ li j (li j - 10 * t)) v (if li v + 10 * t < 999 then li v + 10 * t else 999), cr, br, at1, _, ca1, be1, wh2, upd (upd li2 j (nI (li j - 10 * t))) v (nI (if li v + 10 * t < 999 then li v + 10 * t else 999)), ca2, by omega, rfl, rfl, fun _ => ?_, fun q => absurd rfl q, hF, fun i hi => ?_, h6, h7⟩
      · unfold fn_X10_happen fn_X10_give
        rw [if_neg (show ¬ (3 : Int32) = 0 by decide), if_neg (show ¬ (3 : Int32) = 1 by decide), if_neg (show ¬ (3 : Int32) = 2 by decide), if_pos rfl]
        simp only [ckn_ hj (show 6 < 2 ^ 31 by omega), nI_clamp (show j < 2 ^ 31 by omega), ckn_ hv (show 6 < 2 ^ 31 by omega), nI_clamp (show v < 2 ^ 31 by omega), b9, lx_so, show (10 : Int32) = nI 10 from rfl, pk_mul, pk_sub e8, up_ne (fun q => t3 (Eq.symm q)), d9, nI_add]
        by_cases e : li v + 10 * t ≤ 999
        · rw [if_pos (show nI (li v + 10 * t) ≤ 999 from nI_le (b := 999) e (by omega)), b1_so]
          have e11 : (if li v + 10 * t < 999 then li v + 10 * t else 999) = li v + 10 * t := by split <;> omega
          rw [e11]
        · rw [if_neg (show ¬ nI (li v + 10 * t) ≤ 999 from nI_ge (a := 999) (by omega) (by omega)), b1_so, if_neg (by omega)]
          rfl
      · obtain ⟨g1, g2, g3, g4, g5, g6, g7, g8, g9⟩ := h5 i hi
        rw [up_nI, up_nI, up_nI, up_nI]
        unfold upn_
        refine ⟨g1, g2, ?_, g4, g5, ?_, g7, g8, ?_⟩
        · (repeat' split) <;> omega
        · by_cases e : i = v
          · rw [if_pos e, if_pos e]
          · rw [if_neg e, if_neg e]
            by_cases e2 : i = j
            · rw [if_pos e2, if_pos e2]
            · rw [if_neg e2, if_neg e2]; exact g6
        · by_cases e : i = v
          · rw [if_pos e, if_pos e]
          · rw [if_neg e, if_neg e]
            by_cases e2 : i = j
            · rw [if_pos e2, if_pos e2]
            · rw [if_neg e2, if_neg e2]; exact g9
    · rw [if_neg (nI_ge (by omega) (by omega)), if_neg e8]
      exact bad 6 (by omega) (by omega)
  · rw [if_neg (nI_ne0 (by omega) (by omega)), if_neg e0]
    exact bad _ (by omega) e0
theorem setq_ {T : Nat} (hT : T < 64) {steps wet : Nat → Int32} {home home2 : Nat → Int32} {h : Nat → Nat} {F : Nat} {a li cr br : Nat → Nat} {at1 li1 ca1 be1 wh2 li2 ca2 : Nat → Int32} (hE : evq_ T home home2 h F a li cr br at1 li1 ca1 be1 wh2 li2 ca2) {j : Nat} (hj : j < 6) (sp wa u x : Int32) : acn_ T home home2 h steps wet F sp wa wh2 li2 ca2 2 (nI j) u x (b3_ (fn_X0_setDown (nI T) ca1 be1 (nI j)) fun r22 w23 w24 => some (r22, sp, wa, nI F, at1, li1, w23, w24)) := by
  obtain ⟨hF, h5, h6, h7⟩ := id hE
  obtain ⟨c1, c2, c3, c4, c5⟩ := h6 j hj
  unfold acn_ fn_X10_whyNot fn_X0_setDown
  rw [if_neg (show ¬ (2 : Int32) = 4 by decide), if_neg (show ¬ (2 : Int32) = 1 by decide), if_neg (show ¬ (2 : Int32) = 3 by decide), (has_ hT hj).2, b1_so, (has_ hT hj).1, b1_so, isCarried_ hT h6 h7 hj, b1_so, if_pos (show (2 : Int32) = 2 from rfl)]
  simp only [ckn_ hj (show 6 < 2 ^ 31 by omega), nI_clamp (show j < 2 ^ 31 by omega), c3, c4, c5, lx_so]
  have bad : ∀ y : Nat, y ≤ 7 → y ≠ 0 → ∃ (y' : Nat) (cs ws : Int32) (F' : Nat) (a' li' cr' br' : Nat → Nat) (at1' li1' ca1' be1' wh2' li2' ca2' : Nat → Int32), y' ≤ 7 ∧ (some (nI y, sp, wa, nI F, at1, li1, ca1, be1) : Option (Int32 × Int32 × Int32 × Int32 × (Nat → Int32) × (Nat → Int32) × (Nat → Int32) × (Nat → Int32))) = some (nI y', cs, ws, nI F', at1', li1', ca1', be1') ∧ some (nI y) = some (nI y') ∧ (y' = 0 → fn_X10_happen (nI F) sp wa steps wet wh2 li2 ca2 2 (nI j) u x = some (nI F', cs, ws, wh2', li2', ca2')) ∧ (y' ≠ 0 → cs = sp ∧ ws = wa ∧ F' = F ∧ wh2' = wh2 ∧ li2' = li2 ∧ ca2' = ca2) ∧ evq_ T home home2 h F' a' li' cr' br' at1' li1' ca1' be1' wh2' li2' ca2' := fun y hy h0 => ⟨y, sp, wa, F, a, li, cr, br, at1, li1, ca1, be1, wh2, li2, ca2, hy, rfl, rfl, fun q => absurd q h0, fun _ => ⟨rfl, rfl, rfl, rfl, rfl, rfl⟩, hE⟩
  by_cases e1 : T.testBit j = true
  · simp only [if_pos e1, if_neg (show ¬ (1 : Int32) = 0 by decide)]
    by_cases e2 : br j = 6
    · rw [if_pos ((enc_no c2).mpr e2)]
      simp only [if_pos e2, if_true]
      by_cases e3 : cr j = 6
      · rw [if_pos ((enc_no c1).mpr e3), if_neg (fun q => (enc_sg c1).2.mp q e3)]
        exact bad 7 (by omega) (by omega)
      · have hv : cr j < 6 := by omega
        have hne := (h7.2 j hj hv).1
        have hcb := (h7.1 j (cr j) hj hv).mp rfl
        rw [if_neg (fun q => e3 ((enc_no c1).mp q)), if_pos ((enc_sg c1).2.mpr e3), putDown_ hj hv (by rw [c3, enc_lt hv]), b2_so, b3_so]
        refine ⟨0, sp, wa, F, a, li, upn_ cr j 6, upn_ br (cr j) 6, at1, li1, upd ca1 j (-6), upd be1 (cr j) (-6), wh2, li2, upd ca2 j (-6), by omega, rfl, rfl, fun _ => ?_, fun q => absurd rfl q, hF, h5, fun i hi => ?_, fun i z hi hz => ?_, fun i hi hl => ?_⟩
        · unfold fn_X10_happen
          rw [if_neg (show ¬ (2 : Int32) = 0 by decide), if_neg (show ¬ (2 : Int32) = 1 by decide), if_pos rfl, ckn_ hj (by omega), nI_clamp (by omega), lx_so]
        · obtain ⟨g1, g2, g3, g4, g5⟩ := h6 i hi
          rw [up_nI, up_nI, up_nI]
          unfold upn_
          refine ⟨by split <;> omega, by split <;> omega, ?_, ?_, ?_⟩
          · by_cases e : i = j
            · rw [if_pos e, if_pos e, enc_6]
            · rw [if_neg e, if_neg e]; exact g3
          · by_cases e : i = cr j
            · rw [if_pos e, if_pos e, enc_6]
            · rw [if_neg e, if_neg e]; exact g4
          · by_cases e : i = j
            · rw [if_pos e, if_pos e, enc_6]
            · rw [if_neg e, if_neg e]; exact g5
        · have k1 := h7.1 j z hj hz
          have k2 := h7.1 i (cr j) hi hv
          have k3 := h7.1 i z hi hz
          unfold upn_
          by_cases q1 : i = j
          · by_cases q2 : z = cr j
            · rw [if_pos q1, if_pos q2]; omega
            · rw [if_pos q1, if_neg q2]; omega
          · by_cases q2 : z = cr j
            · rw [if_neg q1, if_pos q2]
              rw [q2] at k3
              omega
            · rw [if_neg q1, if_neg q2]; exact k3
        · unfold upn_ at hl ⊢
          by_cases q1 : i = j
          · rw [if_pos q1] at hl; omega
          · rw [if_neg q1] at hl ⊢
            exact h7.2 i hi hl
    · rw [if_neg (fun q => e2 ((enc_no c2).mp q))]
      simp only [if_neg e2, if_neg (show ¬ (1 : Int32) = 0 by decide)]
      exact bad 3 (by omega) (by omega)
  · simp only [if_neg e1, if_true]
    exact bad 1 (by omega) (by omega)
