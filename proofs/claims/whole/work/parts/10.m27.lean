set_option maxRecDepth 100000 in
theorem fkX9_51 : fk_ RX9 51 9 6 := ⟨_, _, _, rfl, by decide, Or.inl (tb1 220 rfl rfl)⟩
set_option maxRecDepth 100000 in
theorem mvX9_251 : mv_ RX9 251 yX3_follow cX3_follow 8 none RX3 4 := ⟨Or.inl (tb3 164 rfl rfl), (tb3 165 rfl rfl), (tb3 166 rfl rfl), (tb1 11 rfl rfl), (tb3 167 rfl rfl), by decide +kernel⟩
set_option maxRecDepth 100000 in
theorem mvX9_255 : mv_ RX9 255 yX3_partOfEnough cX3_partOfEnough 6 (some .long) RX3 2 := ⟨Or.inl (tb3 170 rfl rfl), (tb3 171 rfl rfl), (tb3 172 rfl rfl), (tb1 11 rfl rfl), (tb3 173 rfl rfl), by decide +kernel⟩
set_option maxRecDepth 100000 in
theorem mvX9_259 : mv_ RX9 259 yX3_partOfMean cX3_partOfMean 5 (some .long) RX3 1 := ⟨Or.inl (tb3 184 rfl rfl), (tb3 185 rfl rfl), (tb3 186 rfl rfl), (tb1 11 rfl rfl), (tb3 187 rfl rfl), by decide +kernel⟩
set_option maxRecDepth 100000 in
theorem msX3_33 : ms_ RX3 33 yX3_casesOfEnough cX3_casesOfEnough 9 (some .long) 5 := ⟨Or.inl (tb3 175 rfl rfl), (tb3 176 rfl rfl), (tb1 11 rfl rfl), (tb3 177 rfl rfl), by decide +kernel⟩
theorem dX3_casesOfEnough_0 : decode cX3_casesOfEnough 0 = .ok (.iload_n 3, 1) := by decide +kernel
theorem dX3_casesOfEnough_1 : decode cX3_casesOfEnough 1 = .ok (.ifCond .ge 5, 3) := by decide +kernel
theorem dX3_casesOfEnough_4 : decode cX3_casesOfEnough 4 = .ok (.lconst 0, 1) := by decide +kernel
theorem dX3_casesOfEnough_5 : decode cX3_casesOfEnough 5 = .ok (.lreturn, 1) := by decide +kernel
theorem dX3_casesOfEnough_6 : decode cX3_casesOfEnough 6 = .ok (.iload 4, 2) := by decide +kernel
theorem dX3_casesOfEnough_8 : decode cX3_casesOfEnough 8 = .ok (.iload_n 1, 1) := by decide +kernel
theorem dX3_casesOfEnough_9 : decode cX3_casesOfEnough 9 = .ok (.if_icmp .ge 10, 3) := by decide +kernel
theorem dX3_casesOfEnough_12 : decode cX3_casesOfEnough 12 = .ok (.iload 4, 2) := by decide +kernel
theorem dX3_casesOfEnough_14 : decode cX3_casesOfEnough 14 = .ok (.aload_n 0, 1) := by decide +kernel
theorem dX3_casesOfEnough_15 : decode cX3_casesOfEnough 15 = .ok (.arraylength, 1) := by decide +kernel
theorem dX3_casesOfEnough_16 : decode cX3_casesOfEnough 16 = .ok (.if_icmp .lt 5, 3) := by decide +kernel
theorem dX3_casesOfEnough_19 : decode cX3_casesOfEnough 19 = .ok (.lconst 1, 1) := by decide +kernel
theorem dX3_casesOfEnough_20 : decode cX3_casesOfEnough 20 = .ok (.lreturn, 1) := by decide +kernel
theorem dX3_casesOfEnough_21 : decode cX3_casesOfEnough 21 = .ok (.aload_n 0, 1) := by decide +kernel
theorem dX3_casesOfEnough_22 : decode cX3_casesOfEnough 22 = .ok (.iload_n 1, 1) := by decide +kernel
theorem dX3_casesOfEnough_23 : decode cX3_casesOfEnough 23 = .ok (.iload_n 2, 1) := by decide +kernel
theorem dX3_casesOfEnough_24 : decode cX3_casesOfEnough 24 = .ok (.iload_n 3, 1) := by decide +kernel
theorem dX3_casesOfEnough_25 : decode cX3_casesOfEnough 25 = .ok (.aload_n 0, 1) := by decide +kernel
theorem dX3_casesOfEnough_26 : decode cX3_casesOfEnough 26 = .ok (.iload 4, 2) := by decide +kernel
theorem dX3_casesOfEnough_28 : decode cX3_casesOfEnough 28 = .ok (.iaload, 1) := by decide +kernel
theorem dX3_casesOfEnough_29 : decode cX3_casesOfEnough 29 = .ok (.isub, 1) := by decide +kernel
theorem dX3_casesOfEnough_30 : decode cX3_casesOfEnough 30 = .ok (.iload 4, 2) := by decide +kernel
theorem dX3_casesOfEnough_32 : decode cX3_casesOfEnough 32 = .ok (.iconst 1, 1) := by decide +kernel
theorem dX3_casesOfEnough_33 : decode cX3_casesOfEnough 33 = .ok (.iadd, 1) := by decide +kernel
theorem dX3_casesOfEnough_34 : decode cX3_casesOfEnough 34 = .ok (.invokestatic 33, 3) := by decide +kernel
theorem dX3_casesOfEnough_37 : decode cX3_casesOfEnough 37 = .ok (.lstore 5, 2) := by decide +kernel
theorem dX3_casesOfEnough_39 : decode cX3_casesOfEnough 39 = .ok (.aload_n 0, 1) := by decide +kernel
theorem dX3_casesOfEnough_40 : decode cX3_casesOfEnough 40 = .ok (.iload_n 1, 1) := by decide +kernel
theorem dX3_casesOfEnough_41 : decode cX3_casesOfEnough 41 = .ok (.iload_n 2, 1) := by decide +kernel
theorem dX3_casesOfEnough_42 : decode cX3_casesOfEnough 42 = .ok (.iload_n 3, 1) := by decide +kernel
theorem dX3_casesOfEnough_43 : decode cX3_casesOfEnough 43 = .ok (.iconst 2, 1) := by decide +kernel
theorem dX3_casesOfEnough_44 : decode cX3_casesOfEnough 44 = .ok (.aload_n 0, 1) := by decide +kernel
theorem dX3_casesOfEnough_45 : decode cX3_casesOfEnough 45 = .ok (.iload 4, 2) := by decide +kernel
theorem dX3_casesOfEnough_47 : decode cX3_casesOfEnough 47 = .ok (.iaload, 1) := by decide +kernel
theorem dX3_casesOfEnough_48 : decode cX3_casesOfEnough 48 = .ok (.imul, 1) := by decide +kernel
theorem dX3_casesOfEnough_49 : decode cX3_casesOfEnough 49 = .ok (.isub, 1) := by decide +kernel
theorem dX3_casesOfEnough_50 : decode cX3_casesOfEnough 50 = .ok (.iload 4, 2) := by decide +kernel
theorem dX3_casesOfEnough_52 : decode cX3_casesOfEnough 52 = .ok (.iconst 1, 1) := by decide +kernel
theorem dX3_casesOfEnough_53 : decode cX3_casesOfEnough 53 = .ok (.iadd, 1) := by decide +kernel
theorem dX3_casesOfEnough_54 : decode cX3_casesOfEnough 54 = .ok (.invokestatic 33, 3) := by decide +kernel
theorem dX3_casesOfEnough_57 : decode cX3_casesOfEnough 57 = .ok (.lstore 7, 2) := by decide +kernel
theorem dX3_casesOfEnough_59 : decode cX3_casesOfEnough 59 = .ok (.bipush 10, 2) := by decide +kernel
theorem dX3_casesOfEnough_61 : decode cX3_casesOfEnough 61 = .ok (.iload_n 2, 1) := by decide +kernel
theorem dX3_casesOfEnough_62 : decode cX3_casesOfEnough 62 = .ok (.isub, 1) := by decide +kernel
theorem dX3_casesOfEnough_63 : decode cX3_casesOfEnough 63 = .ok (.i2l, 1) := by decide +kernel
theorem dX3_casesOfEnough_64 : decode cX3_casesOfEnough 64 = .ok (.lload 5, 2) := by decide +kernel
theorem dX3_casesOfEnough_66 : decode cX3_casesOfEnough 66 = .ok (.lmul, 1) := by decide +kernel
theorem dX3_casesOfEnough_67 : decode cX3_casesOfEnough 67 = .ok (.iload_n 2, 1) := by decide +kernel
theorem dX3_casesOfEnough_68 : decode cX3_casesOfEnough 68 = .ok (.i2l, 1) := by decide +kernel
theorem dX3_casesOfEnough_69 : decode cX3_casesOfEnough 69 = .ok (.lload 7, 2) := by decide +kernel
theorem dX3_casesOfEnough_71 : decode cX3_casesOfEnough 71 = .ok (.lmul, 1) := by decide +kernel
theorem dX3_casesOfEnough_72 : decode cX3_casesOfEnough 72 = .ok (.ladd, 1) := by decide +kernel
theorem dX3_casesOfEnough_73 : decode cX3_casesOfEnough 73 = .ok (.lreturn, 1) := by decide +kernel
abbrev wl_X3_casesOfEnough (G : gw_) (A_q0 : Nat) (c_q0 : Nat → Int32) : va_W := [ia_ G A_q0 12 c_q0]
def fn_X3_casesOfEnough_r (rf : (Nat → Int32) → Int32 → Int32 → Int32 → Int32 → Option (Int64)) (c_q0 : Nat → Int32) (x1 : Int32) (x2 : Int32) (x3 : Int32) (x4 : Int32) : Option (Int64) :=
  if 0 ≤ x3 then
    if x1 ≤ x4 then
      some 1
    else
      if x4 < 12 then
        ck_ x4 12 <|
        b1_ (rf c_q0 x1 x2 (x3 - (c_q0 (Int32.toNatClampNeg x4))) (x4 + 1)) fun r1 =>
        ck_ x4 12 <|
        b1_ (rf c_q0 x1 x2 (x3 - (2 * (c_q0 (Int32.toNatClampNeg x4)))) (x4 + 1)) fun r3 =>
        some (((Int32.toInt64 (10 - x2)) * r1) + ((Int32.toInt64 x2) * r3))
      else
        some 1
  else
    some 0
def fn_X3_casesOfEnough_d : Nat → (Nat → Int32) → Int32 → Int32 → Int32 → Int32 → Option (Int64)
  | 0 => fun _ _ _ _ _ => none
  | d + 1 => fun c_q0 x1 x2 x3 x4 => fn_X3_casesOfEnough_r (fn_X3_casesOfEnough_d d) c_q0 x1 x2 x3 x4
def fn_X3_casesOfEnough (c_q0 : Nat → Int32) (x1 : Int32) (x2 : Int32) (x3 : Int32) (x4 : Int32) : Option (Int64) := fn_X3_casesOfEnough_d 13 c_q0 x1 x2 x3 x4
set_option maxHeartbeats 4000000 in
set_option maxRecDepth 100000 in
theorem wn_X3_casesOfEnough {p : Program} {l : Launch} {e : Env} {s : State} {m : MethodId} {args : Array Value} {below : List Frame} {meth : Method} {c : Code} {G : gw_} {A : Nat → Prop} {Q : State → Prop} {A_q0 : Nat} {c_q0 : Nat → Int32} {r : Int64} {x1 : Int32} {x2 : Int32} {x3 : Int32} {x4 : Int32} {d : Nat} {rf : (Nat → Int32) → Int32 → Int32 → Int32 → Int32 → Option (Int64)} (hC : cx_ p s m c G cX3_casesOfEnough 9 RX3) (hrf : ∀ (A_q0 : Nat) (c_q0 : Nat → Int32) (x1 : Int32) (x2 : Int32) (x3 : Int32) (x4 : Int32) (r : Int64), rf c_q0 x1 x2 x3 x4 = some r → cj_ l G yX3_casesOfEnough cX3_casesOfEnough 9 (some .long) d (d * 28) (wl_X3_casesOfEnough G A_q0 c_q0) [.ref A_q0, .int x1, .int x2, .int x3, .int x4] r (wl_X3_casesOfEnough G A_q0 c_q0))(hret : ∀ (pc : Nat) (H : Heap) (locs : List Loc) (ls : Array Slot), decode cX3_casesOfEnough pc = .ok (.lreturn, 1) → wd_ G A s.heap (wl_X3_casesOfEnough G A_q0 c_q0) H locs → W p l e { frames := d + 1, cells := 0, slots := 0, locals := (d + 1) * 28 } s m args below meth c H locs 0 0 Q (F0 m pc ls [.long r])) (hf : fn_X3_casesOfEnough_r rf c_q0 x1 x2 x3 x4 = some r) {H : Heap} {locs : List Loc} {ls : Array Slot} (hl : lv_has ls 9 [(0, .ref A_q0), (1, .int x1), (2, .int x2), (3, .int x3), (4, .int x4)]) (hw : wd_ G A s.heap (wl_X3_casesOfEnough G A_q0 c_q0) H locs) : W p l e { frames := d + 1, cells := 0, slots := 0, locals := (d + 1) * 28 } s m args below meth c H locs 0 0 Q (F0 m 0 ls []) := by
  have hx := hC.1
  have hb := hC.2.1
  unfold fn_X3_casesOfEnough_r at hf
  refine lv_iload_n hx hb dX3_casesOfEnough_0 rfl (lv_at hl 3 rfl) ?_
  refine lv_if_ge (tgt := 6) hx hb dX3_casesOfEnough_1 (by decide) (fun hc => ?_) (fun hc => ?_)
  · replace hf := it_t hc hf
    refine lv_iload hx hb dX3_casesOfEnough_6 (lv_at hl 4 rfl) ?_
    refine lv_iload_n hx hb dX3_casesOfEnough_8 rfl (lv_at hl 1 rfl) ?_
    refine lv_icmp_ge (tgt := 19) hx hb dX3_casesOfEnough_9 (by decide) (fun hc => ?_) (fun hc => ?_)
    · replace hf := it_t hc hf
      refine lv_lconst (v := 1) hx hb dX3_casesOfEnough_19 (by decide) ?_
      have h1_ := t1_ hf
      subst h1_
      exact hret _ _ _ _ dX3_casesOfEnough_20 hw
    · replace hf := it_f hc hf
      refine lv_iload hx hb dX3_casesOfEnough_12 (lv_at hl 4 rfl) ?_
      refine lv_aload_n hx hb dX3_casesOfEnough_14 rfl (lv_at hl 0 rfl) ?_
      refine g_alen (v := 12) hC hw 0 rfl (by decide) dX3_casesOfEnough_15 ?_
      refine lv_icmp_lt (tgt := 21) hx hb dX3_casesOfEnough_16 (by decide) (fun hc => ?_) (fun hc => ?_)
      · replace hf := it_t hc hf
        refine lv_aload_n hx hb dX3_casesOfEnough_21 rfl (lv_at hl 0 rfl) ?_
        refine lv_iload_n hx hb dX3_casesOfEnough_22 rfl (lv_at hl 1 rfl) ?_
        refine lv_iload_n hx hb dX3_casesOfEnough_23 rfl (lv_at hl 2 rfl) ?_
        refine lv_iload_n hx hb dX3_casesOfEnough_24 rfl (lv_at hl 3 rfl) ?_
        refine lv_aload_n hx hb dX3_casesOfEnough_25 rfl (lv_at hl 0 rfl) ?_
        refine lv_iload hx hb dX3_casesOfEnough_26 (lv_at hl 4 rfl) ?_
        obtain ⟨hi, hf⟩ := ck_s hf
        refine g_iald hC hw 0 rfl hi dX3_casesOfEnough_28 ?_
        refine lv_isub hx hb dX3_casesOfEnough_29 ?_
        refine lv_iload hx hb dX3_casesOfEnough_30 (lv_at hl 4 rfl) ?_
        refine lv_iconst (v := 1) hx hb dX3_casesOfEnough_32 (by decide) ?_
        refine lv_iadd hx hb dX3_casesOfEnough_33 ?_
        obtain ⟨r1, hq2, hf⟩ := b1_s hf
        refine h_cSj hC hw msX3_33 (hrf A_q0 c_q0 x1 x2 (x3 - (c_q0 (Int32.toNatClampNeg x4))) (x4 + 1) r1 hq2) [0] rfl (by decide) rfl hl.1 rfl (Nat.le_of_ble_eq_true rfl) ⟨Nat.le_refl _, by show 8 + (9 + 11) + d * 28 ≤ (d + 1) * 28; omega⟩ ⟨Nat.le_refl _, Nat.le_refl _⟩ dX3_casesOfEnough_34 (fun H locs hw => ?_)
        refine lv_lstore (lv' := [(5, .long r1), (0, .ref A_q0), (1, .int x1), (2, .int x2), (3, .int x3), (4, .int x4)]) hx hb dX3_casesOfEnough_37 hl (by decide) rfl (fun ls hl => ?_)
        refine lv_aload_n hx hb dX3_casesOfEnough_39 rfl (lv_at hl 1 rfl) ?_
        refine lv_iload_n hx hb dX3_casesOfEnough_40 rfl (lv_at hl 2 rfl) ?_
        refine lv_iload_n hx hb dX3_casesOfEnough_41 rfl (lv_at hl 3 rfl) ?_
        refine lv_iload_n hx hb dX3_casesOfEnough_42 rfl (lv_at hl 4 rfl) ?_
        refine lv_iconst (v := 2) hx hb dX3_casesOfEnough_43 (by decide) ?_
        refine lv_aload_n hx hb dX3_casesOfEnough_44 rfl (lv_at hl 1 rfl) ?_
        refine lv_iload hx hb dX3_casesOfEnough_45 (lv_at hl 5 rfl) ?_
        obtain ⟨hi, hf⟩ := ck_s hf
        refine g_iald hC hw 0 rfl hi dX3_casesOfEnough_47 ?_
        refine lv_imul hx hb dX3_casesOfEnough_48 ?_
        refine lv_isub hx hb dX3_casesOfEnough_49 ?_
        refine lv_iload hx hb dX3_casesOfEnough_50 (lv_at hl 5 rfl) ?_
        refine lv_iconst (v := 1) hx hb dX3_casesOfEnough_52 (by decide) ?_
        refine lv_iadd hx hb dX3_casesOfEnough_53 ?_
        obtain ⟨r3, hq4, hf⟩ := b1_s hf
        refine h_cSj hC hw msX3_33 (hrf A_q0 c_q0 x1 x2 (x3 - (2 * (c_q0 (Int32.toNatClampNeg x4)))) (x4 + 1) r3 hq4) [0] rfl (by decide) rfl hl.1 rfl (Nat.le_of_ble_eq_true rfl) ⟨Nat.le_refl _, by show 8 + (9 + 11) + d * 28 ≤ (d + 1) * 28; omega⟩ ⟨Nat.le_refl _, Nat.le_refl _⟩ dX3_casesOfEnough_54 (fun H locs hw => ?_)
        refine lv_lstore (lv' := [(7, .long r3), (5, .long r1), (0, .ref A_q0), (1, .int x1), (2, .int x2), (3, .int x3), (4, .int x4)]) hx hb dX3_casesOfEnough_57 hl (by decide) rfl (fun ls hl => ?_)
        refine lv_bipush (v := 10) hx hb dX3_casesOfEnough_59 (by decide) ?_
        refine lv_iload_n hx hb dX3_casesOfEnough_61 rfl (lv_at hl 4 rfl) ?_
        refine lv_isub hx hb dX3_casesOfEnough_62 ?_
        refine lv_i2l hx hb dX3_casesOfEnough_63 rfl ?_
        refine lv_lload hx hb dX3_casesOfEnough_64 (lv_at hl 1 rfl) ?_
        refine lv_lmul hx hb dX3_casesOfEnough_66 ?_
        refine lv_iload_n hx hb dX3_casesOfEnough_67 rfl (lv_at hl 4 rfl) ?_
        refine lv_i2l hx hb dX3_casesOfEnough_68 rfl ?_
        refine lv_lload hx hb dX3_casesOfEnough_69 (lv_at hl 0 rfl) ?_
        refine lv_lmul hx hb dX3_casesOfEnough_71 ?_
        refine lv_ladd hx hb dX3_casesOfEnough_72 ?_
        have h1_ := t1_ hf
        subst h1_
        exact hret _ _ _ _ dX3_casesOfEnough_73 hw
      · replace hf := it_f hc hf
        refine lv_lconst (v := 1) hx hb dX3_casesOfEnough_19 (by decide) ?_
        have h1_ := t1_ hf
        subst h1_
        exact hret _ _ _ _ dX3_casesOfEnough_20 hw
  · replace hf := it_f hc hf
    refine lv_lconst (v := 0) hx hb dX3_casesOfEnough_4 (by decide) ?_
    have h1_ := t1_ hf
    subst h1_
    exact hret _ _ _ _ dX3_casesOfEnough_5 hw
set_option maxHeartbeats 4000000 in
set_option maxRecDepth 100000 in
theorem cn_X3_casesOfEnough_d (l : Launch) (G : gw_) : ∀ (d : Nat) (A_q0 : Nat) (c_q0 : Nat → Int32) (x1 : Int32) (x2 : Int32) (x3 : Int32) (x4 : Int32) (r : Int64), fn_X3_casesOfEnough_d d c_q0 x1 x2 x3 x4 = some r → cj_ l G yX3_casesOfEnough cX3_casesOfEnough 9 (some .long) d (d * 28) (wl_X3_casesOfEnough G A_q0 c_q0) [.ref A_q0, .int x1, .int x2, .int x3, .int x4] r (wl_X3_casesOfEnough G A_q0 c_q0) := by
  intro d
  induction d with
  | zero =>
    intro A_q0 c_q0 x1 x2 x3 x4 r hf
    cases (show (none : Option (Int64)) = some _ from hf)
  | succ d ih =>
    intro A_q0 c_q0 x1 x2 x3 x4 r hf sz
    exact met_intro (by decide) (Nat.le_of_ble_eq_true rfl) (fun p e s m args below meth c ls hsz hC hr hlk hnm hl hw => wn_X3_casesOfEnough hC ih (fun pc H locs ls hd hw => g_lret hC hr hlk hw hd) hf hl hw)
set_option maxHeartbeats 4000000 in
set_option maxRecDepth 100000 in
theorem cn_X3_casesOfEnough (l : Launch) (G : gw_) (A_q0 : Nat) (c_q0 : Nat → Int32) (x1 : Int32) (x2 : Int32) (x3 : Int32) (x4 : Int32) (r : Int64) (hf : fn_X3_casesOfEnough c_q0 x1 x2 x3 x4 = some r) : cj_ l G yX3_casesOfEnough cX3_casesOfEnough 9 (some .long) 13 364 (wl_X3_casesOfEnough G A_q0 c_q0) [.ref A_q0, .int x1, .int x2, .int x3, .int x4] r (wl_X3_casesOfEnough G A_q0 c_q0) := cn_X3_casesOfEnough_d l G 13 A_q0 c_q0 x1 x2 x3 x4 r hf

theorem dX3_partOfEnough_0 : decode cX3_partOfEnough 0 = .ok (.lconst 1, 1) := by decide +kernel
theorem dX3_partOfEnough_1 : decode cX3_partOfEnough 1 = .ok (.lstore_n 3, 1) := by decide +kernel
theorem dX3_partOfEnough_2 : decode cX3_partOfEnough 2 = .ok (.iconst 0, 1) := by decide +kernel
theorem dX3_partOfEnough_3 : decode cX3_partOfEnough 3 = .ok (.istore 5, 2) := by decide +kernel
theorem dX3_partOfEnough_5 : decode cX3_partOfEnough 5 = .ok (.iload 5, 2) := by decide +kernel
theorem dX3_partOfEnough_7 : decode cX3_partOfEnough 7 = .ok (.aload_n 0, 1) := by decide +kernel
theorem dX3_partOfEnough_8 : decode cX3_partOfEnough 8 = .ok (.getfield 15, 3) := by decide +kernel
theorem dX3_partOfEnough_11 : decode cX3_partOfEnough 11 = .ok (.if_icmp .ge 15, 3) := by decide +kernel
theorem dX3_partOfEnough_14 : decode cX3_partOfEnough 14 = .ok (.lload_n 3, 1) := by decide +kernel
theorem dX3_partOfEnough_15 : decode cX3_partOfEnough 15 = .ok (.ldc2_w 31, 3) := by decide +kernel
theorem dX3_partOfEnough_18 : decode cX3_partOfEnough 18 = .ok (.lmul, 1) := by decide +kernel
theorem dX3_partOfEnough_19 : decode cX3_partOfEnough 19 = .ok (.lstore_n 3, 1) := by decide +kernel
theorem dX3_partOfEnough_20 : decode cX3_partOfEnough 20 = .ok (.iinc 5 1, 3) := by decide +kernel
theorem dX3_partOfEnough_23 : decode cX3_partOfEnough 23 = .ok (.goto (-18), 3) := by decide +kernel
theorem dX3_partOfEnough_26 : decode cX3_partOfEnough 26 = .ok (.aload_n 0, 1) := by decide +kernel
theorem dX3_partOfEnough_27 : decode cX3_partOfEnough 27 = .ok (.getfield 9, 3) := by decide +kernel
theorem dX3_partOfEnough_30 : decode cX3_partOfEnough 30 = .ok (.aload_n 0, 1) := by decide +kernel
theorem dX3_partOfEnough_31 : decode cX3_partOfEnough 31 = .ok (.getfield 15, 3) := by decide +kernel
theorem dX3_partOfEnough_34 : decode cX3_partOfEnough 34 = .ok (.aload_n 0, 1) := by decide +kernel
theorem dX3_partOfEnough_35 : decode cX3_partOfEnough 35 = .ok (.getfield 19, 3) := by decide +kernel
theorem dX3_partOfEnough_38 : decode cX3_partOfEnough 38 = .ok (.iload_n 1, 1) := by decide +kernel
theorem dX3_partOfEnough_39 : decode cX3_partOfEnough 39 = .ok (.iconst 0, 1) := by decide +kernel
theorem dX3_partOfEnough_40 : decode cX3_partOfEnough 40 = .ok (.invokestatic 33, 3) := by decide +kernel
theorem dX3_partOfEnough_43 : decode cX3_partOfEnough 43 = .ok (.lload_n 3, 1) := by decide +kernel
theorem dX3_partOfEnough_44 : decode cX3_partOfEnough 44 = .ok (.iload_n 2, 1) := by decide +kernel
theorem dX3_partOfEnough_45 : decode cX3_partOfEnough 45 = .ok (.invokestatic 37, 3) := by decide +kernel
theorem dX3_partOfEnough_48 : decode cX3_partOfEnough 48 = .ok (.lreturn, 1) := by decide +kernel
abbrev wl_X3_partOfEnough (G : gw_) (A_t : Nat) (A_t_planks : Nat) (c_t_count : Int32) (c_t_tenths : Int32) (c_t_planks : Nat → Int32) : va_W := [ob_ A_t 3 [.ref A_t_planks, .int c_t_count, .int c_t_tenths], ia_ G A_t_planks 12 c_t_planks]
def fn_X3_partOfEnough_b5 (c_t_count : Int32) (rc : Int64 → Int32 → Option (Int64)) (k : Int64 → Option (Int64)) (x3 : Int64) (x5 : Int32) : Option (Int64) :=
  if c_t_count ≤ x5 then
    k x3
  else
    rc (x3 * 10) (x5 + 1)
def fn_X3_partOfEnough_l5 (c_t_count : Int32) (k : Int64 → Option (Int64)) : Nat → Int64 → Int32 → Option (Int64)
  | 0 => fun _ _ => none
  | n + 1 => fun x3 x5 => fn_X3_partOfEnough_b5 c_t_count (fn_X3_partOfEnough_l5 c_t_count k n) k x3 x5
def fn_X3_partOfEnough (c_t_count : Int32) (c_t_tenths : Int32) (c_t_planks : Nat → Int32) (x1 : Int32) (x2 : Int32) : Option (Int64) :=
  fn_X3_partOfEnough_l5 c_t_count (fun v1 =>
    b1_ (fn_X3_casesOfEnough c_t_planks c_t_count c_t_tenths x1 0) fun r2 =>
    b1_ (fn_X3_partOf r2 v1 x2) fun r4 =>
    some r4) fu_ 1 0
set_option maxHeartbeats 4000000 in
set_option maxRecDepth 100000 in
theorem wn_X3_partOfEnough_l5 {p : Program} {l : Launch} {e : Env} {s : State} {m : MethodId} {args : Array Value} {below : List Frame} {meth : Method} {c : Code} {G : gw_} {A : Nat → Prop} {Q : State → Prop} {A_t : Nat} {A_t_planks : Nat} {c_t_count : Int32} {c_t_tenths : Int32} {c_t_planks : Nat → Int32} {r : Int64} {x1 : Int32} {x2 : Int32} {k : Int64 → Option (Int64)} (hC : cx_ p s m c G cX3_partOfEnough 6 RX3) (hret : ∀ (pc : Nat) (H : Heap) (locs : List Loc) (ls : Array Slot), decode cX3_partOfEnough pc = .ok (.lreturn, 1) → wd_ G A s.heap (wl_X3_partOfEnough G A_t A_t_planks c_t_count c_t_tenths c_t_planks) H locs → W p l e { frames := 14, cells := 0, slots := 0, locals := 392 } s m args below meth c H locs 0 0 Q (F0 m pc ls [.long r])) (hk : ∀ (x3 : Int64) (H : Heap) (locs : List Loc) (ls : Array Slot), k x3 = some r → lv_has ls 6 [(0, .ref A_t), (1, .int x1), (2, .int x2), (3, .long x3)] → wd_ G A s.heap (wl_X3_partOfEnough G A_t A_t_planks c_t_count c_t_tenths c_t_planks) H locs → W p l e { frames := 14, cells := 0, slots := 0, locals := 392 } s m args below meth c H locs 0 0 Q (F0 m 26 ls [])) : ∀ (n : Nat) (x3 : Int64) (x5 : Int32) (H : Heap) (locs : List Loc) (ls : Array Slot), fn_X3_partOfEnough_l5 c_t_count k n x3 x5 = some r → lv_has ls 6 [(0, .ref A_t), (1, .int x1), (2, .int x2), (3, .long x3), (5, .int x5)] → wd_ G A s.heap (wl_X3_partOfEnough G A_t A_t_planks c_t_count c_t_tenths c_t_planks) H locs → W p l e { frames := 14, cells := 0, slots := 0, locals := 392 } s m args below meth c H locs 0 0 Q (F0 m 5 ls []) := by
  have hx := hC.1
  have hb := hC.2.1
  intro n
  induction n with
  | zero =>
    intro x3 x5 H locs ls hf
    cases (show (none : Option (Int64)) = some _ from hf)
  | succ n hrc =>
    intro x3 x5 H locs ls hf hl hw
    replace hf : fn_X3_partOfEnough_b5 c_t_count (fn_X3_partOfEnough_l5 c_t_count k n) k x3 x5 = some r := hf
    unfold fn_X3_partOfEnough_b5 at hf
    refine lv_iload hx hb dX3_partOfEnough_5 (lv_at hl 4 rfl) ?_
    refine lv_aload_n hx hb dX3_partOfEnough_7 rfl (lv_at hl 0 rfl) ?_
    refine g_get hC hw fkX3_15 0 rfl rfl dX3_partOfEnough_8 ?_
    refine lv_icmp_ge (tgt := 26) hx hb dX3_partOfEnough_11 (by decide) (fun hc => ?_) (fun hc => ?_)
    · replace hf := it_t hc hf
      exact hk x3 _ _ _ hf (lv_sub hl [0, 1, 2, 3] rfl) hw
    · replace hf := it_f hc hf
      refine lv_lload_n hx hb dX3_partOfEnough_14 rfl (lv_at hl 3 rfl) ?_
      refine g_ldc2 (v := 10) hC (tb3 174 rfl rfl) dX3_partOfEnough_15 ?_
      refine lv_lmul hx hb dX3_partOfEnough_18 ?_
      refine lv_lstore_n (lv' := [(3, .long (x3 * 10)), (0, .ref A_t), (1, .int x1), (2, .int x2), (5, .int x5)]) hx hb dX3_partOfEnough_19 rfl hl (by decide) rfl (fun ls hl => ?_)
      refine lv_iinc (v := x5 + 1) (lv' := [(5, .int (x5 + 1)), (3, .long (x3 * 10)), (0, .ref A_t), (1, .int x1), (2, .int x2)]) hx hb dX3_partOfEnough_20 hl (k := 4) rfl rfl (by decide) rfl (fun ls hl => ?_)
      refine lv_goto (tgt := 5) hx hb dX3_partOfEnough_23 (by decide) ?_
      exact hrc (x3 * 10) (x5 + 1) _ _ _ hf (lv_sub hl [2, 3, 4, 1, 0] rfl) hw
set_option maxHeartbeats 4000000 in
set_option maxRecDepth 100000 in
theorem wn_X3_partOfEnough {p : Program} {l : Launch} {e : Env} {s : State} {m : MethodId} {args : Array Value} {below : List Frame} {meth : Method} {c : Code} {G : gw_} {A : Nat → Prop} {Q : State → Prop} {A_t : Nat} {A_t_planks : Nat} {c_t_count : Int32} {c_t_tenths : Int32} {c_t_planks : Nat → Int32} {r : Int64} {x1 : Int32} {x2 : Int32} (hC : cx_ p s m c G cX3_partOfEnough 6 RX3) (hret : ∀ (pc : Nat) (H : Heap) (locs : List Loc) (ls : Array Slot), decode cX3_partOfEnough pc = .ok (.lreturn, 1) → wd_ G A s.heap (wl_X3_partOfEnough G A_t A_t_planks c_t_count c_t_tenths c_t_planks) H locs → W p l e { frames := 14, cells := 0, slots := 0, locals := 392 } s m args below meth c H locs 0 0 Q (F0 m pc ls [.long r])) (hf : fn_X3_partOfEnough c_t_count c_t_tenths c_t_planks x1 x2 = some r) {H : Heap} {locs : List Loc} {ls : Array Slot} (hl : lv_has ls 6 [(0, .ref A_t), (1, .int x1), (2, .int x2)]) (hw : wd_ G A s.heap (wl_X3_partOfEnough G A_t A_t_planks c_t_count c_t_tenths c_t_planks) H locs) : W p l e { frames := 14, cells := 0, slots := 0, locals := 392 } s m args below meth c H locs 0 0 Q (F0 m 0 ls []) := by
  have hx := hC.1
  have hb := hC.2.1
  unfold fn_X3_partOfEnough at hf
  refine lv_lconst (v := 1) hx hb dX3_partOfEnough_0 (by decide) ?_
  refine lv_lstore_n (lv' := [(3, .long 1), (0, .ref A_t), (1, .int x1), (2, .int x2)]) hx hb dX3_partOfEnough_1 rfl hl (by decide) rfl (fun ls hl => ?_)
  refine lv_iconst (v := 0) hx hb dX3_partOfEnough_2 (by decide) ?_
  refine lv_istore (lv' := [(5, .int 0), (3, .long 1), (0, .ref A_t), (1, .int x1), (2, .int x2)]) hx hb dX3_partOfEnough_3 hl (by decide) rfl (fun ls hl => ?_)
  refine wn_X3_partOfEnough_l5 hC hret (fun v1 H locs ls hf hl hw => ?_) fu_ 1 0 _ _ _ hf (lv_sub hl [2, 3, 4, 1, 0] rfl) hw
  refine lv_aload_n hx hb dX3_partOfEnough_26 rfl (lv_at hl 0 rfl) ?_
  refine g_get hC hw fkX3_9 0 rfl rfl dX3_partOfEnough_27 ?_
  refine lv_aload_n hx hb dX3_partOfEnough_30 rfl (lv_at hl 0 rfl) ?_
  refine g_get hC hw fkX3_15 0 rfl rfl dX3_partOfEnough_31 ?_
  refine lv_aload_n hx hb dX3_partOfEnough_34 rfl (lv_at hl 0 rfl) ?_
  refine g_get hC hw fkX3_19 0 rfl rfl dX3_partOfEnough_35 ?_
  refine lv_iload_n hx hb dX3_partOfEnough_38 rfl (lv_at hl 1 rfl) ?_
  refine lv_iconst (v := 0) hx hb dX3_partOfEnough_39 (by decide) ?_
  obtain ⟨r2, hq3, hf⟩ := b1_s hf
  refine h_cSj hC hw msX3_33 (cn_X3_casesOfEnough l G A_t_planks c_t_planks c_t_count c_t_tenths x1 0 r2 hq3) [1] rfl (by decide) rfl hl.1 rfl (Nat.le_of_ble_eq_true rfl) ⟨Nat.le_of_ble_eq_true rfl, Nat.le_of_ble_eq_true rfl⟩ ⟨Nat.le_refl _, Nat.le_refl _⟩ dX3_partOfEnough_40 (fun H locs hw => ?_)
  refine lv_lload_n hx hb dX3_partOfEnough_43 rfl (lv_at hl 3 rfl) ?_
  refine lv_iload_n hx hb dX3_partOfEnough_44 rfl (lv_at hl 2 rfl) ?_
  obtain ⟨r4, hq5, hf⟩ := b1_s hf
  refine h_cSj hC hw msX3_37 (cn_X3_partOf l G r2 v1 x2 r4 hq5) [] rfl (by decide) rfl hl.1 rfl (Nat.le_of_ble_eq_true rfl) ⟨Nat.le_of_ble_eq_true rfl, Nat.le_of_ble_eq_true rfl⟩ ⟨Nat.le_refl _, Nat.le_refl _⟩ dX3_partOfEnough_45 (fun H locs hw => ?_)
  have h1_ := t1_ hf
  subst h1_
  exact hret _ _ _ _ dX3_partOfEnough_48 hw
set_option maxHeartbeats 4000000 in
set_option maxRecDepth 100000 in
theorem cn_X3_partOfEnough (l : Launch) (G : gw_) (A_t : Nat) (A_t_planks : Nat) (c_t_count : Int32) (c_t_tenths : Int32) (c_t_planks : Nat → Int32) (x1 : Int32) (x2 : Int32) (r : Int64) (hf : fn_X3_partOfEnough c_t_count c_t_tenths c_t_planks x1 x2 = some r) : cj_ l G yX3_partOfEnough cX3_partOfEnough 6 (some .long) 14 392 (wl_X3_partOfEnough G A_t A_t_planks c_t_count c_t_tenths c_t_planks) [.ref A_t, .int x1, .int x2] r (wl_X3_partOfEnough G A_t A_t_planks c_t_count c_t_tenths c_t_planks) := fun sz => met_intro (by decide) (Nat.le_of_ble_eq_true rfl) (fun p e s m args below meth c ls hsz hC hr hlk hnm hl hw => wn_X3_partOfEnough hC (fun pc H locs ls hd hw => g_lret hC hr hlk hw hd) hf hl hw)

theorem dX9_chance_0 : decode cX9_chance 0 = .ok (.aload_n 0, 1) := by decide +kernel
theorem dX9_chance_1 : decode cX9_chance 1 = .ok (.getfield 12, 3) := by decide +kernel
theorem dX9_chance_4 : decode cX9_chance 4 = .ok (.getfield 81, 3) := by decide +kernel
theorem dX9_chance_7 : decode cX9_chance 7 = .ok (.iload_n 1, 1) := by decide +kernel
theorem dX9_chance_8 : decode cX9_chance 8 = .ok (.invokevirtual 95, 3) := by decide +kernel
theorem dX9_chance_11 : decode cX9_chance 11 = .ok (.ifCond .ne 7, 3) := by decide +kernel
theorem dX9_chance_14 : decode cX9_chance 14 = .ok (.ldc2_w 242, 3) := by decide +kernel
theorem dX9_chance_17 : decode cX9_chance 17 = .ok (.lreturn, 1) := by decide +kernel
theorem dX9_chance_18 : decode cX9_chance 18 = .ok (.iload_n 2, 1) := by decide +kernel
theorem dX9_chance_19 : decode cX9_chance 19 = .ok (.iconst 0, 1) := by decide +kernel
theorem dX9_chance_20 : decode cX9_chance 20 = .ok (.bipush 10, 2) := by decide +kernel
theorem dX9_chance_22 : decode cX9_chance 22 = .ok (.invokestatic 63, 3) := by decide +kernel
theorem dX9_chance_25 : decode cX9_chance 25 = .ok (.ifCond .eq 22, 3) := by decide +kernel
theorem dX9_chance_28 : decode cX9_chance 28 = .ok (.iload_n 3, 1) := by decide +kernel
theorem dX9_chance_29 : decode cX9_chance 29 = .ok (.iconst 0, 1) := by decide +kernel
theorem dX9_chance_30 : decode cX9_chance 30 = .ok (.iconst 1, 1) := by decide +kernel
theorem dX9_chance_31 : decode cX9_chance 31 = .ok (.invokestatic 63, 3) := by decide +kernel
theorem dX9_chance_34 : decode cX9_chance 34 = .ok (.ifCond .eq 13, 3) := by decide +kernel
theorem dX9_chance_37 : decode cX9_chance 37 = .ok (.iload 4, 2) := by decide +kernel
theorem dX9_chance_39 : decode cX9_chance 39 = .ok (.iconst 0, 1) := by decide +kernel
theorem dX9_chance_40 : decode cX9_chance 40 = .ok (.iconst 1, 1) := by decide +kernel
theorem dX9_chance_41 : decode cX9_chance 41 = .ok (.invokestatic 63, 3) := by decide +kernel
theorem dX9_chance_44 : decode cX9_chance 44 = .ok (.ifCond .ne 7, 3) := by decide +kernel
theorem dX9_chance_47 : decode cX9_chance 47 = .ok (.ldc2_w 244, 3) := by decide +kernel
theorem dX9_chance_50 : decode cX9_chance 50 = .ok (.lreturn, 1) := by decide +kernel
theorem dX9_chance_51 : decode cX9_chance 51 = .ok (.aload_n 0, 1) := by decide +kernel
theorem dX9_chance_52 : decode cX9_chance 52 = .ok (.invokevirtual 155, 3) := by decide +kernel
theorem dX9_chance_55 : decode cX9_chance 55 = .ok (.aload_n 0, 1) := by decide +kernel
theorem dX9_chance_56 : decode cX9_chance 56 = .ok (.getfield 12, 3) := by decide +kernel
theorem dX9_chance_59 : decode cX9_chance 59 = .ok (.getfield 81, 3) := by decide +kernel
theorem dX9_chance_62 : decode cX9_chance 62 = .ok (.getfield 102, 3) := by decide +kernel
theorem dX9_chance_65 : decode cX9_chance 65 = .ok (.ifCond .ne 23, 3) := by decide +kernel
theorem dX9_chance_68 : decode cX9_chance 68 = .ok (.aload_n 0, 1) := by decide +kernel
theorem dX9_chance_69 : decode cX9_chance 69 = .ok (.getfield 12, 3) := by decide +kernel
theorem dX9_chance_72 : decode cX9_chance 72 = .ok (.getfield 81, 3) := by decide +kernel
theorem dX9_chance_75 : decode cX9_chance 75 = .ok (.aload_n 0, 1) := by decide +kernel
theorem dX9_chance_76 : decode cX9_chance 76 = .ok (.getfield 37, 3) := by decide +kernel
theorem dX9_chance_79 : decode cX9_chance 79 = .ok (.iload_n 1, 1) := by decide +kernel
theorem dX9_chance_80 : decode cX9_chance 80 = .ok (.invokevirtual 171, 3) := by decide +kernel
theorem dX9_chance_83 : decode cX9_chance 83 = .ok (.ldc 175, 2) := by decide +kernel
theorem dX9_chance_85 : decode cX9_chance 85 = .ok (.if_icmp .lt 7, 3) := by decide +kernel
theorem dX9_chance_88 : decode cX9_chance 88 = .ok (.ldc2_w 246, 3) := by decide +kernel
theorem dX9_chance_91 : decode cX9_chance 91 = .ok (.lreturn, 1) := by decide +kernel
theorem dX9_chance_92 : decode cX9_chance 92 = .ok (.aload_n 0, 1) := by decide +kernel
theorem dX9_chance_93 : decode cX9_chance 93 = .ok (.getfield 51, 3) := by decide +kernel
theorem dX9_chance_96 : decode cX9_chance 96 = .ok (.aload_n 0, 1) := by decide +kernel
theorem dX9_chance_97 : decode cX9_chance 97 = .ok (.getfield 37, 3) := by decide +kernel
theorem dX9_chance_100 : decode cX9_chance 100 = .ok (.aload_n 0, 1) := by decide +kernel
theorem dX9_chance_101 : decode cX9_chance 101 = .ok (.getfield 12, 3) := by decide +kernel
theorem dX9_chance_104 : decode cX9_chance 104 = .ok (.getfield 81, 3) := by decide +kernel
theorem dX9_chance_107 : decode cX9_chance 107 = .ok (.getfield 131, 3) := by decide +kernel
theorem dX9_chance_110 : decode cX9_chance 110 = .ok (.iload_n 1, 1) := by decide +kernel
theorem dX9_chance_111 : decode cX9_chance 111 = .ok (.iaload, 1) := by decide +kernel
theorem dX9_chance_112 : decode cX9_chance 112 = .ok (.aload_n 0, 1) := by decide +kernel
theorem dX9_chance_113 : decode cX9_chance 113 = .ok (.getfield 12, 3) := by decide +kernel
theorem dX9_chance_116 : decode cX9_chance 116 = .ok (.getfield 81, 3) := by decide +kernel
theorem dX9_chance_119 : decode cX9_chance 119 = .ok (.getfield 248, 3) := by decide +kernel
theorem dX9_chance_122 : decode cX9_chance 122 = .ok (.iload_n 1, 1) := by decide +kernel
theorem dX9_chance_123 : decode cX9_chance 123 = .ok (.iaload, 1) := by decide +kernel
theorem dX9_chance_124 : decode cX9_chance 124 = .ok (.iload_n 2, 1) := by decide +kernel
theorem dX9_chance_125 : decode cX9_chance 125 = .ok (.invokevirtual 251, 3) := by decide +kernel
theorem dX9_chance_128 : decode cX9_chance 128 = .ok (.iload_n 3, 1) := by decide +kernel
theorem dX9_chance_129 : decode cX9_chance 129 = .ok (.ifCond .ne 25, 3) := by decide +kernel
theorem dX9_chance_132 : decode cX9_chance 132 = .ok (.aload_n 0, 1) := by decide +kernel
theorem dX9_chance_133 : decode cX9_chance 133 = .ok (.getfield 51, 3) := by decide +kernel
theorem dX9_chance_136 : decode cX9_chance 136 = .ok (.aload_n 0, 1) := by decide +kernel
theorem dX9_chance_137 : decode cX9_chance 137 = .ok (.getfield 12, 3) := by decide +kernel
theorem dX9_chance_140 : decode cX9_chance 140 = .ok (.getfield 81, 3) := by decide +kernel
theorem dX9_chance_143 : decode cX9_chance 143 = .ok (.getfield 135, 3) := by decide +kernel
theorem dX9_chance_146 : decode cX9_chance 146 = .ok (.iload_n 1, 1) := by decide +kernel
theorem dX9_chance_147 : decode cX9_chance 147 = .ok (.iaload, 1) := by decide +kernel
theorem dX9_chance_148 : decode cX9_chance 148 = .ok (.iload 4, 2) := by decide +kernel
theorem dX9_chance_150 : decode cX9_chance 150 = .ok (.invokevirtual 255, 3) := by decide +kernel
theorem dX9_chance_153 : decode cX9_chance 153 = .ok (.lreturn, 1) := by decide +kernel
theorem dX9_chance_154 : decode cX9_chance 154 = .ok (.aload_n 0, 1) := by decide +kernel
theorem dX9_chance_155 : decode cX9_chance 155 = .ok (.getfield 51, 3) := by decide +kernel
theorem dX9_chance_158 : decode cX9_chance 158 = .ok (.iload 4, 2) := by decide +kernel
theorem dX9_chance_160 : decode cX9_chance 160 = .ok (.invokevirtual 259, 3) := by decide +kernel
theorem dX9_chance_163 : decode cX9_chance 163 = .ok (.lreturn, 1) := by decide +kernel
abbrev wl_X9_chance (G : gw_) (A_t : Nat) (A_t_now : Nat) (A_t_images : Nat) (A_t_pad : Nat) (A_t_evening : Nat) (A_t_ways : Nat) (A_t_tour : Nat) (A_t_odds : Nat) (A_t_now_marsh : Nat) (A_t_now_crowd : Nat) (A_t_now_sights : Nat) (A_t_now_marsh_codes : Nat) (A_t_now_crowd_at : Nat) (A_t_now_crowd_home : Nat) (A_t_now_crowd_light : Nat) (A_t_now_crowd_carries : Nat) (A_t_now_crowd_bearer : Nat) (A_t_ways_planks : Nat) (A_t_ways_least : Nat) (A_t_ways_neighbours : Nat) (A_t_odds_planks : Nat) (c_t_measured : Int32) (c_t_now_marsh_codes : Nat → Int32) (c_t_now_crowd_there : Int32) (c_t_now_crowd_foggy : Int32) (c_t_now_crowd_at : Nat → Int32) (c_t_now_crowd_home : Nat → Int32) (c_t_now_crowd_light : Nat → Int32) (c_t_ways_planks : Nat → Int32) (c_t_ways_least : Nat → Int32) (c_t_ways_neighbours : Nat → Int32) (c_t_odds_count : Int32) (c_t_odds_tenths : Int32) (c_t_odds_planks : Nat → Int32) : va_W := [ob_ A_t 9 [.ref A_t_now, .ref A_t_images, .ref A_t_pad, .ref A_t_evening, .ref A_t_ways, .ref A_t_tour, .ref A_t_odds, .int c_t_measured], ob_ A_t_now 5 [.ref A_t_now_marsh, .ref A_t_now_crowd, .ref A_t_now_sights], ob_ A_t_now_marsh 2 [.ref A_t_now_marsh_codes], ia_ G A_t_now_marsh_codes 144 c_t_now_marsh_codes, ob_ A_t_now_crowd 0 [.int c_t_now_crowd_there, .int c_t_now_crowd_foggy, .ref A_t_now_crowd_at, .ref A_t_now_crowd_home, .ref A_t_now_crowd_light, .ref A_t_now_crowd_carries, .ref A_t_now_crowd_bearer], ia_ G A_t_now_crowd_at 6 c_t_now_crowd_at, ia_ G A_t_now_crowd_home 6 c_t_now_crowd_home, ia_ G A_t_now_crowd_light 6 c_t_now_crowd_light, ob_ A_t_ways 8 [.ref A_t_ways_planks, .ref A_t_ways_least, .ref A_t_ways_neighbours], ia_ G A_t_ways_planks 144 c_t_ways_planks, ia_ G A_t_ways_least 144 c_t_ways_least, ia_ G A_t_ways_neighbours 12 c_t_ways_neighbours, ob_ A_t_odds 3 [.ref A_t_odds_planks, .int c_t_odds_count, .int c_t_odds_tenths], ia_ G A_t_odds_planks 12 c_t_odds_planks]
def fn_X9_chance (c_t_measured : Int32) (c_t_now_marsh_codes : Nat → Int32) (c_t_now_crowd_there : Int32) (c_t_now_crowd_foggy : Int32) (c_t_now_crowd_at : Nat → Int32) (c_t_now_crowd_home : Nat → Int32) (c_t_now_crowd_light : Nat → Int32) (c_t_ways_planks : Nat → Int32) (c_t_ways_least : Nat → Int32) (c_t_ways_neighbours : Nat → Int32) (c_t_odds_count : Int32) (c_t_odds_tenths : Int32) (c_t_odds_planks : Nat → Int32) (x1 : Int32) (x2 : Int32) (x3 : Int32) (x4 : Int32) : Option (Int64 × Int32 × (Nat → Int32) × (Nat → Int32) × (Nat → Int32) × Int32 × Int32 × (Nat → Int32)) :=
  b1_ (fn_X0_has c_t_now_crowd_there x1) fun r1 =>
  if r1 = 0 then
    some ((-1000000000000000001), c_t_measured, c_t_ways_planks, c_t_ways_least, c_t_ways_neighbours, c_t_odds_count, c_t_odds_tenths, c_t_odds_planks)
  else
    b1_ (fn_X9_isWithin x2 0 10) fun r3 =>
    if r3 = 0 then
      some ((-1000000000000000002), c_t_measured, c_t_ways_planks, c_t_ways_least, c_t_ways_neighbours, c_t_odds_count, c_t_odds_tenths, c_t_odds_planks)
    else
      b1_ (fn_X9_isWithin x3 0 1) fun r5 =>
      if r5 = 0 then
        some ((-1000000000000000002), c_t_measured, c_t_ways_planks, c_t_ways_least, c_t_ways_neighbours, c_t_odds_count, c_t_odds_tenths, c_t_odds_planks)
      else
        b1_ (fn_X9_isWithin x4 0 1) fun r7 =>
        if r7 = 0 then
          some ((-1000000000000000002), c_t_measured, c_t_ways_planks, c_t_ways_least, c_t_ways_neighbours, c_t_odds_count, c_t_odds_tenths, c_t_odds_planks)
        else
          b4_ (fn_X9_measure c_t_measured c_t_now_marsh_codes c_t_now_crowd_foggy c_t_ways_planks c_t_ways_least c_t_ways_neighbours) fun w9 w10 w11 w12 =>
          if c_t_now_crowd_foggy = 0 then
            b1_ (fn_X0_costsHome c_t_now_crowd_at c_t_now_crowd_home w11 x1) fun r14 =>
            if r14 < 1000000 then
              ck_ x1 6 <|
              ck_ x1 6 <|
              b3_ (fn_X3_follow c_t_odds_count c_t_odds_tenths c_t_odds_planks w10 w11 (c_t_now_crowd_at (Int32.toNatClampNeg x1)) (c_t_now_crowd_home (Int32.toNatClampNeg x1)) x2) fun w16 w17 w18 =>
              if x3 = 0 then
                ck_ x1 6 <|
                b1_ (fn_X3_partOfEnough w16 w17 w18 (c_t_now_crowd_light (Int32.toNatClampNeg x1)) x4) fun r22 =>
                some (r22, w9, w10, w11, w12, w16, w17, w18)
              else
                b1_ (fn_X3_partOfMean w16 w17 w18 x4) fun r20 =>
                some (r20, w9, w10, w11, w12, w16, w17, w18)
            else
              some ((-1000000000000000003), w9, w10, w11, w12, c_t_odds_count, c_t_odds_tenths, c_t_odds_planks)
          else
            some ((-1000000000000000003), w9, w10, w11, w12, c_t_odds_count, c_t_odds_tenths, c_t_odds_planks)
set_option maxHeartbeats 4000000 in
set_option maxRecDepth 100000 in
theorem wn_X9_chance {p : Program} {l : Launch} {e : Env} {s : State} {m : MethodId} {args : Array Value} {below : List Frame} {meth : Method} {c : Code} {G : gw_} {A : Nat → Prop} {Q : State → Prop} {A_t : Nat} {A_t_now : Nat} {A_t_images : Nat} {A_t_pad : Nat} {A_t_evening : Nat} {A_t_ways : Nat} {A_t_tour : Nat} {A_t_odds : Nat} {A_t_now_marsh : Nat} {A_t_now_crowd : Nat} {A_t_now_sights : Nat} {A_t_now_marsh_codes : Nat} {A_t_now_crowd_at : Nat} {A_t_now_crowd_home : Nat} {A_t_now_crowd_light : Nat} {A_t_now_crowd_carries : Nat} {A_t_now_crowd_bearer : Nat} {A_t_ways_planks : Nat} {A_t_ways_least : Nat} {A_t_ways_neighbours : Nat} {A_t_odds_planks : Nat} {c_t_measured : Int32} {z_t_measured : Int32} {c_t_now_marsh_codes : Nat → Int32} {c_t_now_crowd_there : Int32} {c_t_now_crowd_foggy : Int32} {c_t_now_crowd_at : Nat → Int32} {c_t_now_crowd_home : Nat → Int32} {c_t_now_crowd_light : Nat → Int32} {c_t_ways_planks : Nat → Int32} {z_t_ways_planks : Nat → Int32} {c_t_ways_least : Nat → Int32} {z_t_ways_least : Nat → Int32} {c_t_ways_neighbours : Nat → Int32} {z_t_ways_neighbours : Nat → Int32} {c_t_odds_count : Int32} {z_t_odds_count : Int32} {c_t_odds_tenths : Int32} {z_t_odds_tenths : Int32} {c_t_odds_planks : Nat → Int32} {z_t_odds_planks : Nat → Int32} {r : Int64} {x1 : Int32} {x2 : Int32} {x3 : Int32} {x4 : Int32} (hC : cx_ p s m c G cX9_chance 5 RX9) (hret : ∀ (pc : Nat) (H : Heap) (locs : List Loc) (ls : Array Slot), decode cX9_chance pc = .ok (.lreturn, 1) → wd_ G A s.heap (wl_X9_chance G A_t A_t_now A_t_images A_t_pad A_t_evening A_t_ways A_t_tour A_t_odds A_t_now_marsh A_t_now_crowd A_t_now_sights A_t_now_marsh_codes A_t_now_crowd_at A_t_now_crowd_home A_t_now_crowd_light A_t_now_crowd_carries A_t_now_crowd_bearer A_t_ways_planks A_t_ways_least A_t_ways_neighbours A_t_odds_planks z_t_measured c_t_now_marsh_codes c_t_now_crowd_there c_t_now_crowd_foggy c_t_now_crowd_at c_t_now_crowd_home c_t_now_crowd_light z_t_ways_planks z_t_ways_least z_t_ways_neighbours z_t_odds_count z_t_odds_tenths z_t_odds_planks) H locs → W p l e { frames := 15, cells := 0, slots := 0, locals := 417 } s m args below meth c H locs 0 0 Q (F0 m pc ls [.long r])) (hf : fn_X9_chance c_t_measured c_t_now_marsh_codes c_t_now_crowd_there c_t_now_crowd_foggy c_t_now_crowd_at c_t_now_crowd_home c_t_now_crowd_light c_t_ways_planks c_t_ways_least c_t_ways_neighbours c_t_odds_count c_t_odds_tenths c_t_odds_planks x1 x2 x3 x4 = some (r, z_t_measured, z_t_ways_planks, z_t_ways_least, z_t_ways_neighbours, z_t_odds_count, z_t_odds_tenths, z_t_odds_planks)) {H : Heap} {locs : List Loc} {ls : Array Slot} (hl : lv_has ls 5 [(0, .ref A_t), (1, .int x1), (2, .int x2), (3, .int x3), (4, .int x4)]) (hw : wd_ G A s.heap (wl_X9_chance G A_t A_t_now A_t_images A_t_pad A_t_evening A_t_ways A_t_tour A_t_odds A_t_now_marsh A_t_now_crowd A_t_now_sights A_t_now_marsh_codes A_t_now_crowd_at A_t_now_crowd_home A_t_now_crowd_light A_t_now_crowd_carries A_t_now_crowd_bearer A_t_ways_planks A_t_ways_least A_t_ways_neighbours A_t_odds_planks c_t_measured c_t_now_marsh_codes c_t_now_crowd_there c_t_now_crowd_foggy c_t_now_crowd_at c_t_now_crowd_home c_t_now_crowd_light c_t_ways_planks c_t_ways_least c_t_ways_neighbours c_t_odds_count c_t_odds_tenths c_t_odds_planks) H locs) : W p l e { frames := 15, cells := 0, slots := 0, locals := 417 } s m args below meth c H locs 0 0 Q (F0 m 0 ls []) := by
  have hx := hC.1
  have hb := hC.2.1
  unfold fn_X9_chance at hf
  refine lv_aload_n hx hb dX9_chance_0 rfl (lv_at hl 0 rfl) ?_
  refine g_get hC hw fkX9_12 0 rfl rfl dX9_chance_1 ?_
  refine g_get hC hw fkX9_81 1 rfl rfl dX9_chance_4 ?_
  refine lv_iload_n hx hb dX9_chance_7 rfl (lv_at hl 1 rfl) ?_
  obtain ⟨r1, hq2, hf⟩ := b1_s hf
  refine h_cVi hC hw mvX9_95 (cn_X0_has l G A_t_now_crowd A_t_now_crowd_at A_t_now_crowd_home A_t_now_crowd_light A_t_now_crowd_carries A_t_now_crowd_bearer c_t_now_crowd_there c_t_now_crowd_foggy x1 r1 hq2) [4] rfl (by decide) 4 rfl rfl rfl hl.1 rfl (Nat.le_of_ble_eq_true rfl) ⟨Nat.le_of_ble_eq_true rfl, Nat.le_of_ble_eq_true rfl⟩ ⟨Nat.le_refl _, Nat.le_refl _⟩ dX9_chance_8 (fun H locs hw => ?_)
  refine lv_if_ne (tgt := 18) hx hb dX9_chance_11 (by decide) (fun hc => ?_) (fun hc => ?_)
  · replace hf := it_f hc hf
    refine lv_iload_n hx hb dX9_chance_18 rfl (lv_at hl 2 rfl) ?_
    refine lv_iconst (v := 0) hx hb dX9_chance_19 (by decide) ?_
    refine lv_bipush (v := 10) hx hb dX9_chance_20 (by decide) ?_
    obtain ⟨r3, hq4, hf⟩ := b1_s hf
    refine h_cSi hC hw msX9_63 (cn_X9_isWithin l G x2 0 10 r3 hq4) [] rfl (by decide) rfl hl.1 rfl (Nat.le_of_ble_eq_true rfl) ⟨Nat.le_of_ble_eq_true rfl, Nat.le_of_ble_eq_true rfl⟩ ⟨Nat.le_refl _, Nat.le_refl _⟩ dX9_chance_22 (fun H locs hw => ?_)
    refine lv_if_eq (tgt := 47) hx hb dX9_chance_25 (by decide) (fun hc => ?_) (fun hc => ?_)
    · replace hf := it_t hc hf
      refine g_ldc2 (v := (-1000000000000000002)) hC (tb3 162 rfl rfl) dX9_chance_47 ?_
      obtain ⟨h1_, h2_, h3_, h4_, h5_, h6_, h7_, h8_⟩ := t8_ hf
      subst h1_
      subst h2_
      subst h3_
      subst h4_
      subst h5_
      subst h6_
      subst h7_
      subst h8_
      exact hret _ _ _ _ dX9_chance_50 hw
    · replace hf := it_f hc hf
      refine lv_iload_n hx hb dX9_chance_28 rfl (lv_at hl 3 rfl) ?_
      refine lv_iconst (v := 0) hx hb dX9_chance_29 (by decide) ?_
      refine lv_iconst (v := 1) hx hb dX9_chance_30 (by decide) ?_
      obtain ⟨r5, hq6, hf⟩ := b1_s hf
      refine h_cSi hC hw msX9_63 (cn_X9_isWithin l G x3 0 1 r5 hq6) [] rfl (by decide) rfl hl.1 rfl (Nat.le_of_ble_eq_true rfl) ⟨Nat.le_of_ble_eq_true rfl, Nat.le_of_ble_eq_true rfl⟩ ⟨Nat.le_refl _, Nat.le_refl _⟩ dX9_chance_31 (fun H locs hw => ?_)
      refine lv_if_eq (tgt := 47) hx hb dX9_chance_34 (by decide) (fun hc => ?_) (fun hc => ?_)
      · replace hf := it_t hc hf
        refine g_ldc2 (v := (-1000000000000000002)) hC (tb3 162 rfl rfl) dX9_chance_47 ?_
        obtain ⟨h1_, h2_, h3_, h4_, h5_, h6_, h7_, h8_⟩ := t8_ hf
        subst h1_
        subst h2_
        subst h3_
        subst h4_
        subst h5_
        subst h6_
        subst h7_
        subst h8_
        exact hret _ _ _ _ dX9_chance_50 hw
      · replace hf := it_f hc hf
        refine lv_iload hx hb dX9_chance_37 (lv_at hl 4 rfl) ?_
        refine lv_iconst (v := 0) hx hb dX9_chance_39 (by decide) ?_
        refine lv_iconst (v := 1) hx hb dX9_chance_40 (by decide) ?_
        obtain ⟨r7, hq8, hf⟩ := b1_s hf
        refine h_cSi hC hw msX9_63 (cn_X9_isWithin l G x4 0 1 r7 hq8) [] rfl (by decide) rfl hl.1 rfl (Nat.le_of_ble_eq_true rfl) ⟨Nat.le_of_ble_eq_true rfl, Nat.le_of_ble_eq_true rfl⟩ ⟨Nat.le_refl _, Nat.le_refl _⟩ dX9_chance_41 (fun H locs hw => ?_)
        refine lv_if_ne (tgt := 51) hx hb dX9_chance_44 (by decide) (fun hc => ?_) (fun hc => ?_)
        · replace hf := it_f hc hf
          refine lv_aload_n hx hb dX9_chance_51 rfl (lv_at hl 0 rfl) ?_
          obtain ⟨w9, w10, w11, w12, hq13, hf⟩ := b4_s hf
          refine g_cVv hC hw mvX9_155 (cn_X9_measure l G A_t A_t_now A_t_images A_t_pad A_t_evening A_t_ways A_t_tour A_t_odds A_t_now_marsh A_t_now_crowd A_t_now_sights A_t_now_marsh_codes A_t_now_crowd_at A_t_now_crowd_home A_t_now_crowd_light A_t_now_crowd_carries A_t_now_crowd_bearer A_t_ways_planks A_t_ways_least A_t_ways_neighbours c_t_measured c_t_now_marsh_codes c_t_now_crowd_there c_t_now_crowd_foggy c_t_ways_planks c_t_ways_least c_t_ways_neighbours w9 w10 w11 w12 hq13) [0, 1, 2, 3, 4, 8, 9, 10, 11] rfl (by decide) rfl 0 rfl rfl rfl hl.1 rfl (Nat.le_of_ble_eq_true rfl) ⟨Nat.le_of_ble_eq_true rfl, Nat.le_of_ble_eq_true rfl⟩ ⟨Nat.le_refl _, Nat.le_refl _⟩ dX9_chance_52 (fun H locs hw => ?_)
          have hw : wd_ G A s.heap (wl_X9_chance G A_t A_t_now A_t_images A_t_pad A_t_evening A_t_ways A_t_tour A_t_odds A_t_now_marsh A_t_now_crowd A_t_now_sights A_t_now_marsh_codes A_t_now_crowd_at A_t_now_crowd_home A_t_now_crowd_light A_t_now_crowd_carries A_t_now_crowd_bearer A_t_ways_planks A_t_ways_least A_t_ways_neighbours A_t_odds_planks w9 c_t_now_marsh_codes c_t_now_crowd_there c_t_now_crowd_foggy c_t_now_crowd_at c_t_now_crowd_home c_t_now_crowd_light w10 w11 w12 c_t_odds_count c_t_odds_tenths c_t_odds_planks) H locs := hw
          refine lv_aload_n hx hb dX9_chance_55 rfl (lv_at hl 0 rfl) ?_
          refine g_get hC hw fkX9_12 0 rfl rfl dX9_chance_56 ?_
          refine g_get hC hw fkX9_81 1 rfl rfl dX9_chance_59 ?_
          refine g_get hC hw fkX9_102 4 rfl rfl dX9_chance_62 ?_
          refine lv_if_ne (tgt := 88) hx hb dX9_chance_65 (by decide) (fun hc => ?_) (fun hc => ?_)
          · replace hf := it_f hc hf
            refine g_ldc2 (v := (-1000000000000000003)) hC (tb3 163 rfl rfl) dX9_chance_88 ?_
            obtain ⟨h1_, h2_, h3_, h4_, h5_, h6_, h7_, h8_⟩ := t8_ hf
            subst h1_
            subst h2_
            subst h3_
            subst h4_
            subst h5_
            subst h6_
            subst h7_
            subst h8_
            exact hret _ _ _ _ dX9_chance_91 hw
          · replace hf := it_t hc hf
            refine lv_aload_n hx hb dX9_chance_68 rfl (lv_at hl 0 rfl) ?_
            refine g_get hC hw fkX9_12 0 rfl rfl dX9_chance_69 ?_
            refine g_get hC hw fkX9_81 1 rfl rfl dX9_chance_72 ?_
            refine lv_aload_n hx hb dX9_chance_75 rfl (lv_at hl 0 rfl) ?_
            refine g_get hC hw fkX9_37 0 rfl rfl dX9_chance_76 ?_
            refine lv_iload_n hx hb dX9_chance_79 rfl (lv_at hl 1 rfl) ?_
            obtain ⟨r14, hq15, hf⟩ := b1_s hf
            refine h_cVi hC hw mvX9_171 (cn_X0_costsHome l G A_t_now_crowd A_t_now_crowd_at A_t_now_crowd_home A_t_now_crowd_light A_t_now_crowd_carries A_t_now_crowd_bearer A_t_ways A_t_ways_planks A_t_ways_least A_t_ways_neighbours c_t_now_crowd_there c_t_now_crowd_foggy c_t_now_crowd_at c_t_now_crowd_home w11 x1 r14 hq15) [4, 5, 6, 8, 10] rfl (by decide) 4 rfl rfl rfl hl.1 rfl (Nat.le_of_ble_eq_true rfl) ⟨Nat.le_of_ble_eq_true rfl, Nat.le_of_ble_eq_true rfl⟩ ⟨Nat.le_refl _, Nat.le_refl _⟩ dX9_chance_80 (fun H locs hw => ?_)
            refine g_ldc (v := 1000000) hC (tb2 211 rfl rfl) dX9_chance_83 ?_
            refine lv_icmp_lt (tgt := 92) hx hb dX9_chance_85 (by decide) (fun hc => ?_) (fun hc => ?_)
            · replace hf := it_t hc hf
              refine lv_aload_n hx hb dX9_chance_92 rfl (lv_at hl 0 rfl) ?_
              refine g_get hC hw fkX9_51 0 rfl rfl dX9_chance_93 ?_
              refine lv_aload_n hx hb dX9_chance_96 rfl (lv_at hl 0 rfl) ?_
              refine g_get hC hw fkX9_37 0 rfl rfl dX9_chance_97 ?_
              refine lv_aload_n hx hb dX9_chance_100 rfl (lv_at hl 0 rfl) ?_
              refine g_get hC hw fkX9_12 0 rfl rfl dX9_chance_101 ?_
              refine g_get hC hw fkX9_81 1 rfl rfl dX9_chance_104 ?_
              refine g_get hC hw fkX9_131 4 rfl rfl dX9_chance_107 ?_
              refine lv_iload_n hx hb dX9_chance_110 rfl (lv_at hl 1 rfl) ?_
              obtain ⟨hi, hf⟩ := ck_s hf
              refine g_iald hC hw 5 rfl hi dX9_chance_111 ?_
              refine lv_aload_n hx hb dX9_chance_112 rfl (lv_at hl 0 rfl) ?_
              refine g_get hC hw fkX9_12 0 rfl rfl dX9_chance_113 ?_
              refine g_get hC hw fkX9_81 1 rfl rfl dX9_chance_116 ?_
              refine g_get hC hw fkX9_248 4 rfl rfl dX9_chance_119 ?_
              refine lv_iload_n hx hb dX9_chance_122 rfl (lv_at hl 1 rfl) ?_
              obtain ⟨hi, hf⟩ := ck_s hf
              refine g_iald hC hw 6 rfl hi dX9_chance_123 ?_
              refine lv_iload_n hx hb dX9_chance_124 rfl (lv_at hl 2 rfl) ?_
              obtain ⟨w16, w17, w18, hq19, hf⟩ := b3_s hf
              refine g_cVv hC hw mvX9_251 (cn_X3_follow l G A_t_odds A_t_odds_planks A_t_ways A_t_ways_planks A_t_ways_least A_t_ways_neighbours c_t_odds_count c_t_odds_tenths c_t_odds_planks w10 w11 (c_t_now_crowd_at (Int32.toNatClampNeg x1)) (c_t_now_crowd_home (Int32.toNatClampNeg x1)) x2 w16 w17 w18 hq19) [12, 13, 8, 9, 10] rfl (by decide) rfl 12 rfl rfl rfl hl.1 rfl (Nat.le_of_ble_eq_true rfl) ⟨Nat.le_of_ble_eq_true rfl, Nat.le_of_ble_eq_true rfl⟩ ⟨Nat.le_refl _, Nat.le_refl _⟩ dX9_chance_125 (fun H locs hw => ?_)
              have hw : wd_ G A s.heap (wl_X9_chance G A_t A_t_now A_t_images A_t_pad A_t_evening A_t_ways A_t_tour A_t_odds A_t_now_marsh A_t_now_crowd A_t_now_sights A_t_now_marsh_codes A_t_now_crowd_at A_t_now_crowd_home A_t_now_crowd_light A_t_now_crowd_carries A_t_now_crowd_bearer A_t_ways_planks A_t_ways_least A_t_ways_neighbours A_t_odds_planks w9 c_t_now_marsh_codes c_t_now_crowd_there c_t_now_crowd_foggy c_t_now_crowd_at c_t_now_crowd_home c_t_now_crowd_light w10 w11 w12 w16 w17 w18) H locs := hw
              refine lv_iload_n hx hb dX9_chance_128 rfl (lv_at hl 3 rfl) ?_
              refine lv_if_ne (tgt := 154) hx hb dX9_chance_129 (by decide) (fun hc => ?_) (fun hc => ?_)
              · replace hf := it_f hc hf
                refine lv_aload_n hx hb dX9_chance_154 rfl (lv_at hl 0 rfl) ?_
                refine g_get hC hw fkX9_51 0 rfl rfl dX9_chance_155 ?_
                refine lv_iload hx hb dX9_chance_158 (lv_at hl 4 rfl) ?_
                obtain ⟨r20, hq21, hf⟩ := b1_s hf
                refine h_cVj hC hw mvX9_259 (cn_X3_partOfMean l G A_t_odds A_t_odds_planks w16 w17 w18 x4 r20 hq21) [12, 13] rfl (by decide) 12 rfl rfl rfl hl.1 rfl (Nat.le_of_ble_eq_true rfl) ⟨Nat.le_of_ble_eq_true rfl, Nat.le_of_ble_eq_true rfl⟩ ⟨Nat.le_refl _, Nat.le_refl _⟩ dX9_chance_160 (fun H locs hw => ?_)
                obtain ⟨h1_, h2_, h3_, h4_, h5_, h6_, h7_, h8_⟩ := t8_ hf
                subst h1_
                subst h2_
                subst h3_
                subst h4_
                subst h5_
                subst h6_
                subst h7_
                subst h8_
                exact hret _ _ _ _ dX9_chance_163 hw
              · replace hf := it_t hc hf
                refine lv_aload_n hx hb dX9_chance_132 rfl (lv_at hl 0 rfl) ?_
                refine g_get hC hw fkX9_51 0 rfl rfl dX9_chance_133 ?_
                refine lv_aload_n hx hb dX9_chance_136 rfl (lv_at hl 0 rfl) ?_
                refine g_get hC hw fkX9_12 0 rfl rfl dX9_chance_137 ?_
                refine g_get hC hw fkX9_81 1 rfl rfl dX9_chance_140 ?_
                refine g_get hC hw fkX9_135 4 rfl rfl dX9_chance_143 ?_
                refine lv_iload_n hx hb dX9_chance_146 rfl (lv_at hl 1 rfl) ?_
                obtain ⟨hi, hf⟩ := ck_s hf
                refine g_iald hC hw 7 rfl hi dX9_chance_147 ?_
                refine lv_iload hx hb dX9_chance_148 (lv_at hl 4 rfl) ?_
                obtain ⟨r22, hq23, hf⟩ := b1_s hf
                refine h_cVj hC hw mvX9_255 (cn_X3_partOfEnough l G A_t_odds A_t_odds_planks w16 w17 w18 (c_t_now_crowd_light (Int32.toNatClampNeg x1)) x4 r22 hq23) [12, 13] rfl (by decide) 12 rfl rfl rfl hl.1 rfl (Nat.le_of_ble_eq_true rfl) ⟨Nat.le_of_ble_eq_true rfl, Nat.le_of_ble_eq_true rfl⟩ ⟨Nat.le_refl _, Nat.le_refl _⟩ dX9_chance_150 (fun H locs hw => ?_)
                obtain ⟨h1_, h2_, h3_, h4_, h5_, h6_, h7_, h8_⟩ := t8_ hf
                subst h1_
                subst h2_
                subst h3_
                subst h4_
                subst h5_
                subst h6_
                subst h7_
                subst h8_
                exact hret _ _ _ _ dX9_chance_153 hw
            · replace hf := it_f hc hf
              refine g_ldc2 (v := (-1000000000000000003)) hC (tb3 163 rfl rfl) dX9_chance_88 ?_
              obtain ⟨h1_, h2_, h3_, h4_, h5_, h6_, h7_, h8_⟩ := t8_ hf
              subst h1_
              subst h2_
              subst h3_
              subst h4_
              subst h5_
              subst h6_
              subst h7_
              subst h8_
              exact hret _ _ _ _ dX9_chance_91 hw
        · replace hf := it_t hc hf
          refine g_ldc2 (v := (-1000000000000000002)) hC (tb3 162 rfl rfl) dX9_chance_47 ?_
          obtain ⟨h1_, h2_, h3_, h4_, h5_, h6_, h7_, h8_⟩ := t8_ hf
          subst h1_
          subst h2_
          subst h3_
          subst h4_
          subst h5_
          subst h6_
          subst h7_
          subst h8_
          exact hret _ _ _ _ dX9_chance_50 hw
  · replace hf := it_t hc hf
    refine g_ldc2 (v := (-1000000000000000001)) hC (tb3 161 rfl rfl) dX9_chance_14 ?_
    obtain ⟨h1_, h2_, h3_, h4_, h5_, h6_, h7_, h8_⟩ := t8_ hf
    subst h1_
    subst h2_
    subst h3_
    subst h4_
    subst h5_
    subst h6_
    subst h7_
    subst h8_
    exact hret _ _ _ _ dX9_chance_17 hw
set_option maxHeartbeats 4000000 in
set_option maxRecDepth 100000 in
theorem cn_X9_chance (l : Launch) (G : gw_) (A_t : Nat) (A_t_now : Nat) (A_t_images : Nat) (A_t_pad : Nat) (A_t_evening : Nat) (A_t_ways : Nat) (A_t_tour : Nat) (A_t_odds : Nat) (A_t_now_marsh : Nat) (A_t_now_crowd : Nat) (A_t_now_sights : Nat) (A_t_now_marsh_codes : Nat) (A_t_now_crowd_at : Nat) (A_t_now_crowd_home : Nat) (A_t_now_crowd_light : Nat) (A_t_now_crowd_carries : Nat) (A_t_now_crowd_bearer : Nat) (A_t_ways_planks : Nat) (A_t_ways_least : Nat) (A_t_ways_neighbours : Nat) (A_t_odds_planks : Nat) (c_t_measured : Int32) (c_t_now_marsh_codes : Nat → Int32) (c_t_now_crowd_there : Int32) (c_t_now_crowd_foggy : Int32) (c_t_now_crowd_at : Nat → Int32) (c_t_now_crowd_home : Nat → Int32) (c_t_now_crowd_light : Nat → Int32) (c_t_ways_planks : Nat → Int32) (c_t_ways_least : Nat → Int32) (c_t_ways_neighbours : Nat → Int32) (c_t_odds_count : Int32) (c_t_odds_tenths : Int32) (c_t_odds_planks : Nat → Int32) (x1 : Int32) (x2 : Int32) (x3 : Int32) (x4 : Int32) (r : Int64) (z_t_measured : Int32) (z_t_ways_planks : Nat → Int32) (z_t_ways_least : Nat → Int32) (z_t_ways_neighbours : Nat → Int32) (z_t_odds_count : Int32) (z_t_odds_tenths : Int32) (z_t_odds_planks : Nat → Int32) (hf : fn_X9_chance c_t_measured c_t_now_marsh_codes c_t_now_crowd_there c_t_now_crowd_foggy c_t_now_crowd_at c_t_now_crowd_home c_t_now_crowd_light c_t_ways_planks c_t_ways_least c_t_ways_neighbours c_t_odds_count c_t_odds_tenths c_t_odds_planks x1 x2 x3 x4 = some (r, z_t_measured, z_t_ways_planks, z_t_ways_least, z_t_ways_neighbours, z_t_odds_count, z_t_odds_tenths, z_t_odds_planks)) : cj_ l G yX9_chance cX9_chance 5 (some .long) 15 417 (wl_X9_chance G A_t A_t_now A_t_images A_t_pad A_t_evening A_t_ways A_t_tour A_t_odds A_t_now_marsh A_t_now_crowd A_t_now_sights A_t_now_marsh_codes A_t_now_crowd_at A_t_now_crowd_home A_t_now_crowd_light A_t_now_crowd_carries A_t_now_crowd_bearer A_t_ways_planks A_t_ways_least A_t_ways_neighbours A_t_odds_planks c_t_measured c_t_now_marsh_codes c_t_now_crowd_there c_t_now_crowd_foggy c_t_now_crowd_at c_t_now_crowd_home c_t_now_crowd_light c_t_ways_planks c_t_ways_least c_t_ways_neighbours c_t_odds_count c_t_odds_tenths c_t_odds_planks) [.ref A_t, .int x1, .int x2, .int x3, .int x4] r (wl_X9_chance G A_t A_t_now A_t_images A_t_pad A_t_evening A_t_ways A_t_tour A_t_odds A_t_now_marsh A_t_now_crowd A_t_now_sights A_t_now_marsh_codes A_t_now_crowd_at A_t_now_crowd_home A_t_now_crowd_light A_t_now_crowd_carries A_t_now_crowd_bearer A_t_ways_planks A_t_ways_least A_t_ways_neighbours A_t_odds_planks z_t_measured c_t_now_marsh_codes c_t_now_crowd_there c_t_now_crowd_foggy c_t_now_crowd_at c_t_now_crowd_home c_t_now_crowd_light z_t_ways_planks z_t_ways_least z_t_ways_neighbours z_t_odds_count z_t_odds_tenths z_t_odds_planks) := fun sz => met_intro (by decide) (Nat.le_of_ble_eq_true rfl) (fun p e s m args below meth c ls hsz hC hr hlk hnm hl hw => wn_X9_chance hC (fun pc H locs ls hd hw => g_lret hC hr hlk hw hd) hf hl hw)
