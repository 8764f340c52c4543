theorem dX9_isWithin_0 : decode cX9_isWithin 0 = .ok (.iload_n 0, 1) := by decide +kernel
theorem dX9_isWithin_1 : decode cX9_isWithin 1 = .ok (.iload_n 1, 1) := by decide +kernel
theorem dX9_isWithin_2 : decode cX9_isWithin 2 = .ok (.if_icmp .lt 12, 3) := by decide +kernel
theorem dX9_isWithin_5 : decode cX9_isWithin 5 = .ok (.iload_n 0, 1) := by decide +kernel
theorem dX9_isWithin_6 : decode cX9_isWithin 6 = .ok (.iload_n 2, 1) := by decide +kernel
theorem dX9_isWithin_7 : decode cX9_isWithin 7 = .ok (.if_icmp .gt 7, 3) := by decide +kernel
theorem dX9_isWithin_10 : decode cX9_isWithin 10 = .ok (.iconst 1, 1) := by decide +kernel
theorem dX9_isWithin_11 : decode cX9_isWithin 11 = .ok (.goto 4, 3) := by decide +kernel
theorem dX9_isWithin_14 : decode cX9_isWithin 14 = .ok (.iconst 0, 1) := by decide +kernel
theorem dX9_isWithin_15 : decode cX9_isWithin 15 = .ok (.ireturn, 1) := by decide +kernel
def fn_X9_isWithin (x0 : Int32) (x1 : Int32) (x2 : Int32) : Option (Int32) :=
  if x0 < x1 then
    some 0
  else
    if x2 < x0 then
      some 0
    else
      some 1
set_option maxHeartbeats 4000000 in
set_option maxRecDepth 100000 in
theorem wn_X9_isWithin {p : Program} {l : Launch} {e : Env} {s : State} {m : MethodId} {args : Array Value} {below : List Frame} {meth : Method} {c : Code} {G : gw_} {A : Nat → Prop} {Q : State → Prop} {r : Int32} {x0 : Int32} {x1 : Int32} {x2 : Int32} (hC : cx_ p s m c G cX9_isWithin 3 RX9) (hret : ∀ (pc : Nat) (H : Heap) (locs : List Loc) (ls : Array Slot), narrow .boolean (.int r) = .int r → decode cX9_isWithin pc = .ok (.ireturn, 1) → wd_ G A s.heap [] H locs → W p l e { frames := 0, cells := 0, slots := 0, locals := 0 } s m args below meth c H locs 0 0 Q (F0 m pc ls [.int r])) (hf : fn_X9_isWithin x0 x1 x2 = some r) {H : Heap} {locs : List Loc} {ls : Array Slot} (hl : lv_has ls 3 [(0, .int x0), (1, .int x1), (2, .int x2)]) (hw : wd_ G A s.heap [] H locs) : W p l e { frames := 0, cells := 0, slots := 0, locals := 0 } s m args below meth c H locs 0 0 Q (F0 m 0 ls []) := by
  have hx := hC.1
  have hb := hC.2.1
  unfold fn_X9_isWithin at hf
  refine lv_iload_n hx hb dX9_isWithin_0 rfl (lv_at hl 0 rfl) ?_
  refine lv_iload_n hx hb dX9_isWithin_1 rfl (lv_at hl 1 rfl) ?_
  refine lv_icmp_lt (tgt := 14) hx hb dX9_isWithin_2 (by decide) (fun hc => ?_) (fun hc => ?_)
  · replace hf := it_t hc hf
    refine lv_iconst (v := 0) hx hb dX9_isWithin_14 (by decide) ?_
    have h1_ := t1_ hf
    subst h1_
    exact hret _ _ _ _ rfl dX9_isWithin_15 hw
  · replace hf := it_f hc hf
    refine lv_iload_n hx hb dX9_isWithin_5 rfl (lv_at hl 0 rfl) ?_
    refine lv_iload_n hx hb dX9_isWithin_6 rfl (lv_at hl 2 rfl) ?_
    refine lv_icmp_gt (tgt := 14) hx hb dX9_isWithin_7 (by decide) (fun hc => ?_) (fun hc => ?_)
    · replace hf := it_t hc hf
      refine lv_iconst (v := 0) hx hb dX9_isWithin_14 (by decide) ?_
      have h1_ := t1_ hf
      subst h1_
      exact hret _ _ _ _ rfl dX9_isWithin_15 hw
    · replace hf := it_f hc hf
      refine lv_iconst (v := 1) hx hb dX9_isWithin_10 (by decide) ?_
      refine lv_goto (tgt := 15) hx hb dX9_isWithin_11 (by decide) ?_
      have h1_ := t1_ hf
      subst h1_
      exact hret _ _ _ _ rfl dX9_isWithin_15 hw
set_option maxHeartbeats 4000000 in
set_option maxRecDepth 100000 in
theorem cn_X9_isWithin (l : Launch) (G : gw_) (x0 : Int32) (x1 : Int32) (x2 : Int32) (r : Int32) (hf : fn_X9_isWithin x0 x1 x2 = some r) : ci_ l G yX9_isWithin cX9_isWithin 3 (some .boolean) 0 0 [] [.int x0, .int x1, .int x2] r [] := fun sz => met_intro (by decide) (Nat.le_of_ble_eq_true rfl) (fun p e s m args below meth c ls hsz hC hr hlk hnm hl hw => wn_X9_isWithin hC (fun pc H locs ls hn hd hw => g_iret hC hr hlk hw rfl hn hd) hf hl hw)

theorem dX9_isIn_0 : decode cX9_isIn 0 = .ok (.iload_n 0, 1) := by decide +kernel
theorem dX9_isIn_1 : decode cX9_isIn 1 = .ok (.iload_n 1, 1) := by decide +kernel
theorem dX9_isIn_2 : decode cX9_isIn 2 = .ok (.ishr, 1) := by decide +kernel
theorem dX9_isIn_3 : decode cX9_isIn 3 = .ok (.iconst 1, 1) := by decide +kernel
theorem dX9_isIn_4 : decode cX9_isIn 4 = .ok (.iand, 1) := by decide +kernel
theorem dX9_isIn_5 : decode cX9_isIn 5 = .ok (.iconst 1, 1) := by decide +kernel
theorem dX9_isIn_6 : decode cX9_isIn 6 = .ok (.if_icmp .ne 7, 3) := by decide +kernel
theorem dX9_isIn_9 : decode cX9_isIn 9 = .ok (.iconst 1, 1) := by decide +kernel
theorem dX9_isIn_10 : decode cX9_isIn 10 = .ok (.goto 4, 3) := by decide +kernel
theorem dX9_isIn_13 : decode cX9_isIn 13 = .ok (.iconst 0, 1) := by decide +kernel
theorem dX9_isIn_14 : decode cX9_isIn 14 = .ok (.ireturn, 1) := by decide +kernel
def fn_X9_isIn (x0 : Int32) (x1 : Int32) : Option (Int32) :=
  if ((x0 >>> (x1 &&& 31)) &&& 1) = 1 then
    some 1
  else
    some 0
set_option maxHeartbeats 4000000 in
set_option maxRecDepth 100000 in
theorem wn_X9_isIn {p : Program} {l : Launch} {e : Env} {s : State} {m : MethodId} {args : Array Value} {below : List Frame} {meth : Method} {c : Code} {G : gw_} {A : Nat → Prop} {Q : State → Prop} {r : Int32} {x0 : Int32} {x1 : Int32} (hC : cx_ p s m c G cX9_isIn 2 RX9) (hret : ∀ (pc : Nat) (H : Heap) (locs : List Loc) (ls : Array Slot), narrow .boolean (.int r) = .int r → decode cX9_isIn pc = .ok (.ireturn, 1) → wd_ G A s.heap [] H locs → W p l e { frames := 0, cells := 0, slots := 0, locals := 0 } s m args below meth c H locs 0 0 Q (F0 m pc ls [.int r])) (hf : fn_X9_isIn x0 x1 = some r) {H : Heap} {locs : List Loc} {ls : Array Slot} (hl : lv_has ls 2 [(0, .int x0), (1, .int x1)]) (hw : wd_ G A s.heap [] H locs) : W p l e { frames := 0, cells := 0, slots := 0, locals := 0 } s m args below meth c H locs 0 0 Q (F0 m 0 ls []) := by
  have hx := hC.1
  have hb := hC.2.1
  unfold fn_X9_isIn at hf
  refine lv_iload_n hx hb dX9_isIn_0 rfl (lv_at hl 0 rfl) ?_
  refine lv_iload_n hx hb dX9_isIn_1 rfl (lv_at hl 1 rfl) ?_
  refine lv_ishr hx hb dX9_isIn_2 ?_
  refine lv_iconst (v := 1) hx hb dX9_isIn_3 (by decide) ?_
  refine lv_iand hx hb dX9_isIn_4 ?_
  refine lv_iconst (v := 1) hx hb dX9_isIn_5 (by decide) ?_
  refine lv_icmp_ne (tgt := 13) hx hb dX9_isIn_6 (by decide) (fun hc => ?_) (fun hc => ?_)
  · replace hf := it_f hc hf
    refine lv_iconst (v := 0) hx hb dX9_isIn_13 (by decide) ?_
    have h1_ := t1_ hf
    subst h1_
    exact hret _ _ _ _ rfl dX9_isIn_14 hw
  · replace hf := it_t hc hf
    refine lv_iconst (v := 1) hx hb dX9_isIn_9 (by decide) ?_
    refine lv_goto (tgt := 14) hx hb dX9_isIn_10 (by decide) ?_
    have h1_ := t1_ hf
    subst h1_
    exact hret _ _ _ _ rfl dX9_isIn_14 hw
set_option maxHeartbeats 4000000 in
set_option maxRecDepth 100000 in
theorem cn_X9_isIn (l : Launch) (G : gw_) (x0 : Int32) (x1 : Int32) (r : Int32) (hf : fn_X9_isIn x0 x1 = some r) : ci_ l G yX9_isIn cX9_isIn 2 (some .boolean) 0 0 [] [.int x0, .int x1] r [] := fun sz => met_intro (by decide) (Nat.le_of_ble_eq_true rfl) (fun p e s m args below meth c ls hsz hC hr hlk hnm hl hw => wn_X9_isIn hC (fun pc H locs ls hn hd hw => g_iret hC hr hlk hw rfl hn hd) hf hl hw)

theorem dX0_has_0 : decode cX0_has 0 = .ok (.iload_n 1, 1) := by decide +kernel
theorem dX0_has_1 : decode cX0_has 1 = .ok (.iconst 0, 1) := by decide +kernel
theorem dX0_has_2 : decode cX0_has 2 = .ok (.iconst 5, 1) := by decide +kernel
theorem dX0_has_3 : decode cX0_has 3 = .ok (.invokestatic 41, 3) := by decide +kernel
theorem dX0_has_6 : decode cX0_has 6 = .ok (.ifCond .eq 18, 3) := by decide +kernel
theorem dX0_has_9 : decode cX0_has 9 = .ok (.aload_n 0, 1) := by decide +kernel
theorem dX0_has_10 : decode cX0_has 10 = .ok (.getfield 9, 3) := by decide +kernel
theorem dX0_has_13 : decode cX0_has 13 = .ok (.iload_n 1, 1) := by decide +kernel
theorem dX0_has_14 : decode cX0_has 14 = .ok (.invokestatic 45, 3) := by decide +kernel
theorem dX0_has_17 : decode cX0_has 17 = .ok (.ifCond .eq 7, 3) := by decide +kernel
theorem dX0_has_20 : decode cX0_has 20 = .ok (.iconst 1, 1) := by decide +kernel
theorem dX0_has_21 : decode cX0_has 21 = .ok (.goto 4, 3) := by decide +kernel
theorem dX0_has_24 : decode cX0_has 24 = .ok (.iconst 0, 1) := by decide +kernel
theorem dX0_has_25 : decode cX0_has 25 = .ok (.ireturn, 1) := by decide +kernel
abbrev wl_X0_has (G : gw_) (A_t : Nat) (A_t_at : Nat) (A_t_home : Nat) (A_t_light : Nat) (A_t_carries : Nat) (A_t_bearer : Nat) (c_t_there : Int32) (c_t_foggy : Int32) : va_W := [ob_ A_t 0 [.int c_t_there, .int c_t_foggy, .ref A_t_at, .ref A_t_home, .ref A_t_light, .ref A_t_carries, .ref A_t_bearer]]
def fn_X0_has (c_t_there : Int32) (x1 : Int32) : Option (Int32) :=
  b1_ (fn_X9_isWithin x1 0 5) fun r1 =>
  if r1 = 0 then
    some 0
  else
    b1_ (fn_X9_isIn c_t_there x1) fun r3 =>
    if r3 = 0 then
      some 0
    else
      some 1
set_option maxHeartbeats 4000000 in
set_option maxRecDepth 100000 in
theorem wn_X0_has {p : Program} {l : Launch} {e : Env} {s : State} {m : MethodId} {args : Array Value} {below : List Frame} {meth : Method} {c : Code} {G : gw_} {A : Nat → Prop} {Q : State → Prop} {A_t : Nat} {A_t_at : Nat} {A_t_home : Nat} {A_t_light : Nat} {A_t_carries : Nat} {A_t_bearer : Nat} {c_t_there : Int32} {c_t_foggy : Int32} {r : Int32} {x1 : Int32} (hC : cx_ p s m c G cX0_has 2 RX0) (hret : ∀ (pc : Nat) (H : Heap) (locs : List Loc) (ls : Array Slot), narrow .boolean (.int r) = .int r → decode cX0_has pc = .ok (.ireturn, 1) → wd_ G A s.heap (wl_X0_has G A_t A_t_at A_t_home A_t_light A_t_carries A_t_bearer c_t_there c_t_foggy) H locs → W p l e { frames := 1, cells := 0, slots := 0, locals := 22 } s m args below meth c H locs 0 0 Q (F0 m pc ls [.int r])) (hf : fn_X0_has c_t_there x1 = some r) {H : Heap} {locs : List Loc} {ls : Array Slot} (hl : lv_has ls 2 [(0, .ref A_t), (1, .int x1)]) (hw : wd_ G A s.heap (wl_X0_has G A_t A_t_at A_t_home A_t_light A_t_carries A_t_bearer c_t_there c_t_foggy) H locs) : W p l e { frames := 1, cells := 0, slots := 0, locals := 22 } s m args below meth c H locs 0 0 Q (F0 m 0 ls []) := by
  have hx := hC.1
  have hb := hC.2.1
  unfold fn_X0_has at hf
  refine lv_iload_n hx hb dX0_has_0 rfl (lv_at hl 1 rfl) ?_
  refine lv_iconst (v := 0) hx hb dX0_has_1 (by decide) ?_
  refine lv_iconst (v := 5) hx hb dX0_has_2 (by decide) ?_
  obtain ⟨r1, hq2, hf⟩ := b1_s hf
  refine h_cSi hC hw msX0_41 (cn_X9_isWithin l G x1 0 5 r1 hq2) [] rfl (by decide) rfl hl.1 rfl (Nat.le_of_ble_eq_true rfl) ⟨Nat.le_of_ble_eq_true rfl, Nat.le_of_ble_eq_true rfl⟩ ⟨Nat.le_refl _, Nat.le_refl _⟩ dX0_has_3 (fun H locs hw => ?_)
  refine lv_if_eq (tgt := 24) hx hb dX0_has_6 (by decide) (fun hc => ?_) (fun hc => ?_)
  · replace hf := it_t hc hf
    refine lv_iconst (v := 0) hx hb dX0_has_24 (by decide) ?_
    have h1_ := t1_ hf
    subst h1_
    exact hret _ _ _ _ rfl dX0_has_25 hw
  · replace hf := it_f hc hf
    refine lv_aload_n hx hb dX0_has_9 rfl (lv_at hl 0 rfl) ?_
    refine g_get hC hw fkX0_9 0 rfl rfl dX0_has_10 ?_
    refine lv_iload_n hx hb dX0_has_13 rfl (lv_at hl 1 rfl) ?_
    obtain ⟨r3, hq4, hf⟩ := b1_s hf
    refine h_cSi hC hw msX0_45 (cn_X9_isIn l G c_t_there x1 r3 hq4) [] rfl (by decide) rfl hl.1 rfl (Nat.le_of_ble_eq_true rfl) ⟨Nat.le_of_ble_eq_true rfl, Nat.le_of_ble_eq_true rfl⟩ ⟨Nat.le_refl _, Nat.le_refl _⟩ dX0_has_14 (fun H locs hw => ?_)
    refine lv_if_eq (tgt := 24) hx hb dX0_has_17 (by decide) (fun hc => ?_) (fun hc => ?_)
    · replace hf := it_t hc hf
      refine lv_iconst (v := 0) hx hb dX0_has_24 (by decide) ?_
      have h1_ := t1_ hf
      subst h1_
      exact hret _ _ _ _ rfl dX0_has_25 hw
    · replace hf := it_f hc hf
      refine lv_iconst (v := 1) hx hb dX0_has_20 (by decide) ?_
      refine lv_goto (tgt := 25) hx hb dX0_has_21 (by decide) ?_
      have h1_ := t1_ hf
      subst h1_
      exact hret _ _ _ _ rfl dX0_has_25 hw
set_option maxHeartbeats 4000000 in
set_option maxRecDepth 100000 in
theorem cn_X0_has (l : Launch) (G : gw_) (A_t : Nat) (A_t_at : Nat) (A_t_home : Nat) (A_t_light : Nat) (A_t_carries : Nat) (A_t_bearer : Nat) (c_t_there : Int32) (c_t_foggy : Int32) (x1 : Int32) (r : Int32) (hf : fn_X0_has c_t_there x1 = some r) : ci_ l G yX0_has cX0_has 2 (some .boolean) 1 22 (wl_X0_has G A_t A_t_at A_t_home A_t_light A_t_carries A_t_bearer c_t_there c_t_foggy) [.ref A_t, .int x1] r (wl_X0_has G A_t A_t_at A_t_home A_t_light A_t_carries A_t_bearer c_t_there c_t_foggy) := fun sz => met_intro (by decide) (Nat.le_of_ble_eq_true rfl) (fun p e s m args below meth c ls hsz hC hr hlk hnm hl hw => wn_X0_has hC (fun pc H locs ls hn hd hw => g_iret hC hr hlk hw rfl hn hd) hf hl hw)

theorem dJ6_bitCount_0f7a4_0 : decode cJ6_bitCount_0f7a4 0 = .ok (.iload_n 0, 1) := by decide +kernel
theorem dJ6_bitCount_0f7a4_1 : decode cJ6_bitCount_0f7a4 1 = .ok (.iload_n 0, 1) := by decide +kernel
theorem dJ6_bitCount_0f7a4_2 : decode cJ6_bitCount_0f7a4 2 = .ok (.iconst 1, 1) := by decide +kernel
theorem dJ6_bitCount_0f7a4_3 : decode cJ6_bitCount_0f7a4 3 = .ok (.iushr, 1) := by decide +kernel
theorem dJ6_bitCount_0f7a4_4 : decode cJ6_bitCount_0f7a4 4 = .ok (.ldc_w 265, 3) := by decide +kernel
theorem dJ6_bitCount_0f7a4_7 : decode cJ6_bitCount_0f7a4 7 = .ok (.iand, 1) := by decide +kernel
theorem dJ6_bitCount_0f7a4_8 : decode cJ6_bitCount_0f7a4 8 = .ok (.isub, 1) := by decide +kernel
theorem dJ6_bitCount_0f7a4_9 : decode cJ6_bitCount_0f7a4 9 = .ok (.istore_n 0, 1) := by decide +kernel
theorem dJ6_bitCount_0f7a4_10 : decode cJ6_bitCount_0f7a4 10 = .ok (.iload_n 0, 1) := by decide +kernel
theorem dJ6_bitCount_0f7a4_11 : decode cJ6_bitCount_0f7a4 11 = .ok (.ldc_w 266, 3) := by decide +kernel
theorem dJ6_bitCount_0f7a4_14 : decode cJ6_bitCount_0f7a4 14 = .ok (.iand, 1) := by decide +kernel
theorem dJ6_bitCount_0f7a4_15 : decode cJ6_bitCount_0f7a4 15 = .ok (.iload_n 0, 1) := by decide +kernel
theorem dJ6_bitCount_0f7a4_16 : decode cJ6_bitCount_0f7a4 16 = .ok (.iconst 2, 1) := by decide +kernel
theorem dJ6_bitCount_0f7a4_17 : decode cJ6_bitCount_0f7a4 17 = .ok (.iushr, 1) := by decide +kernel
theorem dJ6_bitCount_0f7a4_18 : decode cJ6_bitCount_0f7a4 18 = .ok (.ldc_w 266, 3) := by decide +kernel
theorem dJ6_bitCount_0f7a4_21 : decode cJ6_bitCount_0f7a4 21 = .ok (.iand, 1) := by decide +kernel
theorem dJ6_bitCount_0f7a4_22 : decode cJ6_bitCount_0f7a4 22 = .ok (.iadd, 1) := by decide +kernel
theorem dJ6_bitCount_0f7a4_23 : decode cJ6_bitCount_0f7a4 23 = .ok (.istore_n 0, 1) := by decide +kernel
theorem dJ6_bitCount_0f7a4_24 : decode cJ6_bitCount_0f7a4 24 = .ok (.iload_n 0, 1) := by decide +kernel
theorem dJ6_bitCount_0f7a4_25 : decode cJ6_bitCount_0f7a4 25 = .ok (.iload_n 0, 1) := by decide +kernel
theorem dJ6_bitCount_0f7a4_26 : decode cJ6_bitCount_0f7a4 26 = .ok (.iconst 4, 1) := by decide +kernel
theorem dJ6_bitCount_0f7a4_27 : decode cJ6_bitCount_0f7a4 27 = .ok (.iushr, 1) := by decide +kernel
theorem dJ6_bitCount_0f7a4_28 : decode cJ6_bitCount_0f7a4 28 = .ok (.iadd, 1) := by decide +kernel
theorem dJ6_bitCount_0f7a4_29 : decode cJ6_bitCount_0f7a4 29 = .ok (.ldc_w 267, 3) := by decide +kernel
theorem dJ6_bitCount_0f7a4_32 : decode cJ6_bitCount_0f7a4 32 = .ok (.iand, 1) := by decide +kernel
theorem dJ6_bitCount_0f7a4_33 : decode cJ6_bitCount_0f7a4 33 = .ok (.istore_n 0, 1) := by decide +kernel
theorem dJ6_bitCount_0f7a4_34 : decode cJ6_bitCount_0f7a4 34 = .ok (.iload_n 0, 1) := by decide +kernel
theorem dJ6_bitCount_0f7a4_35 : decode cJ6_bitCount_0f7a4 35 = .ok (.iload_n 0, 1) := by decide +kernel
theorem dJ6_bitCount_0f7a4_36 : decode cJ6_bitCount_0f7a4 36 = .ok (.bipush 8, 2) := by decide +kernel
theorem dJ6_bitCount_0f7a4_38 : decode cJ6_bitCount_0f7a4 38 = .ok (.iushr, 1) := by decide +kernel
theorem dJ6_bitCount_0f7a4_39 : decode cJ6_bitCount_0f7a4 39 = .ok (.iadd, 1) := by decide +kernel
theorem dJ6_bitCount_0f7a4_40 : decode cJ6_bitCount_0f7a4 40 = .ok (.istore_n 0, 1) := by decide +kernel
theorem dJ6_bitCount_0f7a4_41 : decode cJ6_bitCount_0f7a4 41 = .ok (.iload_n 0, 1) := by decide +kernel
theorem dJ6_bitCount_0f7a4_42 : decode cJ6_bitCount_0f7a4 42 = .ok (.iload_n 0, 1) := by decide +kernel
theorem dJ6_bitCount_0f7a4_43 : decode cJ6_bitCount_0f7a4 43 = .ok (.bipush 16, 2) := by decide +kernel
theorem dJ6_bitCount_0f7a4_45 : decode cJ6_bitCount_0f7a4 45 = .ok (.iushr, 1) := by decide +kernel
theorem dJ6_bitCount_0f7a4_46 : decode cJ6_bitCount_0f7a4 46 = .ok (.iadd, 1) := by decide +kernel
theorem dJ6_bitCount_0f7a4_47 : decode cJ6_bitCount_0f7a4 47 = .ok (.istore_n 0, 1) := by decide +kernel
theorem dJ6_bitCount_0f7a4_48 : decode cJ6_bitCount_0f7a4 48 = .ok (.iload_n 0, 1) := by decide +kernel
theorem dJ6_bitCount_0f7a4_49 : decode cJ6_bitCount_0f7a4 49 = .ok (.bipush 63, 2) := by decide +kernel
theorem dJ6_bitCount_0f7a4_51 : decode cJ6_bitCount_0f7a4 51 = .ok (.iand, 1) := by decide +kernel
theorem dJ6_bitCount_0f7a4_52 : decode cJ6_bitCount_0f7a4 52 = .ok (.ireturn, 1) := by decide +kernel
def fn_J6_bitCount_0f7a4 (x0 : Int32) : Option (Int32) :=
  lx_ (x0 - (((x0.toUInt32 >>> ((Int32.toUInt32 1) &&& Int32.toUInt32 31)).toInt32) &&& 1431655765)) fun y1 =>
  lx_ ((y1 &&& 858993459) + (((y1.toUInt32 >>> ((Int32.toUInt32 2) &&& Int32.toUInt32 31)).toInt32) &&& 858993459)) fun y2 =>
  lx_ ((y2 + ((y2.toUInt32 >>> ((Int32.toUInt32 4) &&& Int32.toUInt32 31)).toInt32)) &&& 252645135) fun y3 =>
  lx_ (y3 + ((y3.toUInt32 >>> ((Int32.toUInt32 8) &&& Int32.toUInt32 31)).toInt32)) fun y4 =>
  lx_ (y4 + ((y4.toUInt32 >>> ((Int32.toUInt32 16) &&& Int32.toUInt32 31)).toInt32)) fun y5 =>
  some (y5 &&& 63)
set_option maxHeartbeats 4000000 in
set_option maxRecDepth 100000 in
theorem wn_J6_bitCount_0f7a4 {p : Program} {l : Launch} {e : Env} {s : State} {m : MethodId} {args : Array Value} {below : List Frame} {meth : Method} {c : Code} {G : gw_} {A : Nat → Prop} {Q : State → Prop} {r : Int32} {x0 : Int32} (hC : cx_ p s m c G cJ6_bitCount_0f7a4 1 RJ6) (hret : ∀ (pc : Nat) (H : Heap) (locs : List Loc) (ls : Array Slot), decode cJ6_bitCount_0f7a4 pc = .ok (.ireturn, 1) → wd_ G A s.heap [] H locs → W p l e { frames := 0, cells := 0, slots := 0, locals := 0 } s m args below meth c H locs 0 0 Q (F0 m pc ls [.int r])) (hf : fn_J6_bitCount_0f7a4 x0 = some r) {H : Heap} {locs : List Loc} {ls : Array Slot} (hl : lv_has ls 1 [(0, .int x0)]) (hw : wd_ G A s.heap [] H locs) : W p l e { frames := 0, cells := 0, slots := 0, locals := 0 } s m args below meth c H locs 0 0 Q (F0 m 0 ls []) := by
  have hx := hC.1
  have hb := hC.2.1
  unfold fn_J6_bitCount_0f7a4 at hf
  refine lv_iload_n hx hb dJ6_bitCount_0f7a4_0 rfl (lv_at hl 0 rfl) ?_
  refine lv_iload_n hx hb dJ6_bitCount_0f7a4_1 rfl (lv_at hl 0 rfl) ?_
  refine lv_iconst (v := 1) hx hb dJ6_bitCount_0f7a4_2 (by decide) ?_
  refine lv_iushr hx hb dJ6_bitCount_0f7a4_3 rfl ?_
  refine g_ldcw (v := 1431655765) hC (tb2 40 rfl rfl) dJ6_bitCount_0f7a4_4 ?_
  refine lv_iand hx hb dJ6_bitCount_0f7a4_7 ?_
  refine lv_isub hx hb dJ6_bitCount_0f7a4_8 ?_
  obtain ⟨y1, ey1, hf⟩ := lx_s hf
  rw [← ey1]
  refine lv_istore_n (lv' := [(0, .int y1)]) hx hb dJ6_bitCount_0f7a4_9 rfl hl (by decide) rfl (fun ls hl => ?_)
  refine lv_iload_n hx hb dJ6_bitCount_0f7a4_10 rfl (lv_at hl 0 rfl) ?_
  refine g_ldcw (v := 858993459) hC (tb2 41 rfl rfl) dJ6_bitCount_0f7a4_11 ?_
  refine lv_iand hx hb dJ6_bitCount_0f7a4_14 ?_
  refine lv_iload_n hx hb dJ6_bitCount_0f7a4_15 rfl (lv_at hl 0 rfl) ?_
  refine lv_iconst (v := 2) hx hb dJ6_bitCount_0f7a4_16 (by decide) ?_
  refine lv_iushr hx hb dJ6_bitCount_0f7a4_17 rfl ?_
  refine g_ldcw (v := 858993459) hC (tb2 41 rfl rfl) dJ6_bitCount_0f7a4_18 ?_
  refine lv_iand hx hb dJ6_bitCount_0f7a4_21 ?_
  refine lv_iadd hx hb dJ6_bitCount_0f7a4_22 ?_
  obtain ⟨y2, ey2, hf⟩ := lx_s hf
  rw [← ey2]
  refine lv_istore_n (lv' := [(0, .int y2)]) hx hb dJ6_bitCount_0f7a4_23 rfl hl (by decide) rfl (fun ls hl => ?_)
  refine lv_iload_n hx hb dJ6_bitCount_0f7a4_24 rfl (lv_at hl 0 rfl) ?_
  refine lv_iload_n hx hb dJ6_bitCount_0f7a4_25 rfl (lv_at hl 0 rfl) ?_
  refine lv_iconst (v := 4) hx hb dJ6_bitCount_0f7a4_26 (by decide) ?_
  refine lv_iushr hx hb dJ6_bitCount_0f7a4_27 rfl ?_
  refine lv_iadd hx hb dJ6_bitCount_0f7a4_28 ?_
  refine g_ldcw (v := 252645135) hC (tb2 42 rfl rfl) dJ6_bitCount_0f7a4_29 ?_
  refine lv_iand hx hb dJ6_bitCount_0f7a4_32 ?_
  obtain ⟨y3, ey3, hf⟩ := lx_s hf
  rw [← ey3]
  refine lv_istore_n (lv' := [(0, .int y3)]) hx hb dJ6_bitCount_0f7a4_33 rfl hl (by decide) rfl (fun ls hl => ?_)
  refine lv_iload_n hx hb dJ6_bitCount_0f7a4_34 rfl (lv_at hl 0 rfl) ?_
  refine lv_iload_n hx hb dJ6_bitCount_0f7a4_35 rfl (lv_at hl 0 rfl) ?_
  refine lv_bipush (v := 8) hx hb dJ6_bitCount_0f7a4_36 (by decide) ?_
  refine lv_iushr hx hb dJ6_bitCount_0f7a4_38 rfl ?_
  refine lv_iadd hx hb dJ6_bitCount_0f7a4_39 ?_
  obtain ⟨y4, ey4, hf⟩ := lx_s hf
  rw [← ey4]
  refine lv_istore_n (lv' := [(0, .int y4)]) hx hb dJ6_bitCount_0f7a4_40 rfl hl (by decide) rfl (fun ls hl => ?_)
  refine lv_iload_n hx hb dJ6_bitCount_0f7a4_41 rfl (lv_at hl 0 rfl) ?_
  refine lv_iload_n hx hb dJ6_bitCount_0f7a4_42 rfl (lv_at hl 0 rfl) ?_
  refine lv_bipush (v := 16) hx hb dJ6_bitCount_0f7a4_43 (by decide) ?_
  refine lv_iushr hx hb dJ6_bitCount_0f7a4_45 rfl ?_
  refine lv_iadd hx hb dJ6_bitCount_0f7a4_46 ?_
  obtain ⟨y5, ey5, hf⟩ := lx_s hf
  rw [← ey5]
  refine lv_istore_n (lv' := [(0, .int y5)]) hx hb dJ6_bitCount_0f7a4_47 rfl hl (by decide) rfl (fun ls hl => ?_)
  refine lv_iload_n hx hb dJ6_bitCount_0f7a4_48 rfl (lv_at hl 0 rfl) ?_
  refine lv_bipush (v := 63) hx hb dJ6_bitCount_0f7a4_49 (by decide) ?_
  refine lv_iand hx hb dJ6_bitCount_0f7a4_51 ?_
  have h1_ := t1_ hf
  subst h1_
  exact hret _ _ _ _ dJ6_bitCount_0f7a4_52 hw
set_option maxHeartbeats 4000000 in
set_option maxRecDepth 100000 in
theorem cn_J6_bitCount_0f7a4 (l : Launch) (G : gw_) (x0 : Int32) (r : Int32) (hf : fn_J6_bitCount_0f7a4 x0 = some r) : ci_ l G yJ6_bitCount_0f7a4 cJ6_bitCount_0f7a4 1 (some .int) 0 0 [] [.int x0] r [] := fun sz => met_intro (by decide) (Nat.le_of_ble_eq_true rfl) (fun p e s m args below meth c ls hsz hC hr hlk hnm hl hw => wn_J6_bitCount_0f7a4 hC (fun pc H locs ls hd hw => g_iret hC hr hlk hw rfl rfl hd) hf hl hw)

theorem dX0_size_0 : decode cX0_size 0 = .ok (.aload_n 0, 1) := by decide +kernel
theorem dX0_size_1 : decode cX0_size 1 = .ok (.getfield 9, 3) := by decide +kernel
theorem dX0_size_4 : decode cX0_size 4 = .ok (.invokestatic 49, 3) := by decide +kernel
theorem dX0_size_7 : decode cX0_size 7 = .ok (.ireturn, 1) := by decide +kernel
abbrev wl_X0_size (G : gw_) (A_t : Nat) (A_t_at : Nat) (A_t_home : Nat) (A_t_light : Nat) (A_t_carries : Nat) (A_t_bearer : Nat) (c_t_there : Int32) (c_t_foggy : Int32) : va_W := [ob_ A_t 0 [.int c_t_there, .int c_t_foggy, .ref A_t_at, .ref A_t_home, .ref A_t_light, .ref A_t_carries, .ref A_t_bearer]]
def fn_X0_size (c_t_there : Int32) : Option (Int32) :=
  b1_ (fn_J6_bitCount_0f7a4 c_t_there) fun r1 =>
  some r1
set_option maxHeartbeats 4000000 in
set_option maxRecDepth 100000 in
theorem wn_X0_size {p : Program} {l : Launch} {e : Env} {s : State} {m : MethodId} {args : Array Value} {below : List Frame} {meth : Method} {c : Code} {G : gw_} {A : Nat → Prop} {Q : State → Prop} {A_t : Nat} {A_t_at : Nat} {A_t_home : Nat} {A_t_light : Nat} {A_t_carries : Nat} {A_t_bearer : Nat} {c_t_there : Int32} {c_t_foggy : Int32} {r : Int32} (hC : cx_ p s m c G cX0_size 1 RX0) (hret : ∀ (pc : Nat) (H : Heap) (locs : List Loc) (ls : Array Slot), decode cX0_size pc = .ok (.ireturn, 1) → wd_ G A s.heap (wl_X0_size G A_t A_t_at A_t_home A_t_light A_t_carries A_t_bearer c_t_there c_t_foggy) H locs → W p l e { frames := 1, cells := 0, slots := 0, locals := 20 } s m args below meth c H locs 0 0 Q (F0 m pc ls [.int r])) (hf : fn_X0_size c_t_there = some r) {H : Heap} {locs : List Loc} {ls : Array Slot} (hl : lv_has ls 1 [(0, .ref A_t)]) (hw : wd_ G A s.heap (wl_X0_size G A_t A_t_at A_t_home A_t_light A_t_carries A_t_bearer c_t_there c_t_foggy) H locs) : W p l e { frames := 1, cells := 0, slots := 0, locals := 20 } s m args below meth c H locs 0 0 Q (F0 m 0 ls []) := by
  have hx := hC.1
  have hb := hC.2.1
  unfold fn_X0_size at hf
  refine lv_aload_n hx hb dX0_size_0 rfl (lv_at hl 0 rfl) ?_
  refine g_get hC hw fkX0_9 0 rfl rfl dX0_size_1 ?_
  obtain ⟨r1, hq2, hf⟩ := b1_s hf
  refine h_cSi hC hw msX0_49 (cn_J6_bitCount_0f7a4 l G c_t_there r1 hq2) [] rfl (by decide) rfl hl.1 rfl (Nat.le_of_ble_eq_true rfl) ⟨Nat.le_of_ble_eq_true rfl, Nat.le_of_ble_eq_true rfl⟩ ⟨Nat.le_refl _, Nat.le_refl _⟩ dX0_size_4 (fun H locs hw => ?_)
  have h1_ := t1_ hf
  subst h1_
  exact hret _ _ _ _ dX0_size_7 hw
set_option maxHeartbeats 4000000 in
set_option maxRecDepth 100000 in
theorem cn_X0_size (l : Launch) (G : gw_) (A_t : Nat) (A_t_at : Nat) (A_t_home : Nat) (A_t_light : Nat) (A_t_carries : Nat) (A_t_bearer : Nat) (c_t_there : Int32) (c_t_foggy : Int32) (r : Int32) (hf : fn_X0_size c_t_there = some r) : ci_ l G yX0_size cX0_size 1 (some .int) 1 20 (wl_X0_size G A_t A_t_at A_t_home A_t_light A_t_carries A_t_bearer c_t_there c_t_foggy) [.ref A_t] r (wl_X0_size G A_t A_t_at A_t_home A_t_light A_t_carries A_t_bearer c_t_there c_t_foggy) := fun sz => met_intro (by decide) (Nat.le_of_ble_eq_true rfl) (fun p e s m args below meth c ls hsz hC hr hlk hnm hl hw => wn_X0_size hC (fun pc H locs ls hd hw => g_iret hC hr hlk hw rfl rfl hd) hf hl hw)

theorem dX0_putDown_0 : decode cX0_putDown 0 = .ok (.aload_n 0, 1) := by decide +kernel
theorem dX0_putDown_1 : decode cX0_putDown 1 = .ok (.getfield 32, 3) := by decide +kernel
theorem dX0_putDown_4 : decode cX0_putDown 4 = .ok (.aload_n 0, 1) := by decide +kernel
theorem dX0_putDown_5 : decode cX0_putDown 5 = .ok (.getfield 29, 3) := by decide +kernel
theorem dX0_putDown_8 : decode cX0_putDown 8 = .ok (.iload_n 1, 1) := by decide +kernel
theorem dX0_putDown_9 : decode cX0_putDown 9 = .ok (.iaload, 1) := by decide +kernel
theorem dX0_putDown_10 : decode cX0_putDown 10 = .ok (.bipush (-6), 2) := by decide +kernel
theorem dX0_putDown_12 : decode cX0_putDown 12 = .ok (.iastore, 1) := by decide +kernel
theorem dX0_putDown_13 : decode cX0_putDown 13 = .ok (.aload_n 0, 1) := by decide +kernel
theorem dX0_putDown_14 : decode cX0_putDown 14 = .ok (.getfield 29, 3) := by decide +kernel
theorem dX0_putDown_17 : decode cX0_putDown 17 = .ok (.iload_n 1, 1) := by decide +kernel
theorem dX0_putDown_18 : decode cX0_putDown 18 = .ok (.bipush (-6), 2) := by decide +kernel
theorem dX0_putDown_20 : decode cX0_putDown 20 = .ok (.iastore, 1) := by decide +kernel
theorem dX0_putDown_21 : decode cX0_putDown 21 = .ok (.return_, 1) := by decide +kernel
abbrev wl_X0_putDown (G : gw_) (A_t : Nat) (A_t_at : Nat) (A_t_home : Nat) (A_t_light : Nat) (A_t_carries : Nat) (A_t_bearer : Nat) (c_t_there : Int32) (c_t_foggy : Int32) (c_t_carries : Nat → Int32) (c_t_bearer : Nat → Int32) : va_W := [ob_ A_t 0 [.int c_t_there, .int c_t_foggy, .ref A_t_at, .ref A_t_home, .ref A_t_light, .ref A_t_carries, .ref A_t_bearer], ia_ G A_t_carries 6 c_t_carries, ia_ G A_t_bearer 6 c_t_bearer]
def fn_X0_putDown (c_t_carries : Nat → Int32) (c_t_bearer : Nat → Int32) (x1 : Int32) : Option ((Nat → Int32) × (Nat → Int32)) :=
  ck_ x1 6 <|
  ck_ (c_t_carries (Int32.toNatClampNeg x1)) 6 <|
  lx_ (upd c_t_bearer (Int32.toNatClampNeg (c_t_carries (Int32.toNatClampNeg x1))) (-6)) fun f1 =>
  ck_ x1 6 <|
  lx_ (upd c_t_carries (Int32.toNatClampNeg x1) (-6)) fun f2 =>
  some (f2, f1)
set_option maxHeartbeats 4000000 in
set_option maxRecDepth 100000 in
theorem wn_X0_putDown {p : Program} {l : Launch} {e : Env} {s : State} {m : MethodId} {args : Array Value} {below : List Frame} {meth : Method} {c : Code} {G : gw_} {A : Nat → Prop} {Q : State → Prop} {A_t : Nat} {A_t_at : Nat} {A_t_home : Nat} {A_t_light : Nat} {A_t_carries : Nat} {A_t_bearer : Nat} {c_t_there : Int32} {c_t_foggy : Int32} {c_t_carries : Nat → Int32} {z_t_carries : Nat → Int32} {c_t_bearer : Nat → Int32} {z_t_bearer : Nat → Int32} {x1 : Int32} (hC : cx_ p s m c G cX0_putDown 2 RX0) (hret : ∀ (pc : Nat) (H : Heap) (locs : List Loc) (ls : Array Slot), decode cX0_putDown pc = .ok (.return_, 1) → wd_ G A s.heap (wl_X0_putDown G A_t A_t_at A_t_home A_t_light A_t_carries A_t_bearer c_t_there c_t_foggy z_t_carries z_t_bearer) H locs → W p l e { frames := 0, cells := 0, slots := 0, locals := 0 } s m args below meth c H locs 0 0 Q (F0 m pc ls [])) (hf : fn_X0_putDown c_t_carries c_t_bearer x1 = some (z_t_carries, z_t_bearer)) {H : Heap} {locs : List Loc} {ls : Array Slot} (hl : lv_has ls 2 [(0, .ref A_t), (1, .int x1)]) (hw : wd_ G A s.heap (wl_X0_putDown G A_t A_t_at A_t_home A_t_light A_t_carries A_t_bearer c_t_there c_t_foggy c_t_carries c_t_bearer) H locs) : W p l e { frames := 0, cells := 0, slots := 0, locals := 0 } s m args below meth c H locs 0 0 Q (F0 m 0 ls []) := by
  have hx := hC.1
  have hb := hC.2.1
  unfold fn_X0_putDown at hf
  refine lv_aload_n hx hb dX0_putDown_0 rfl (lv_at hl 0 rfl) ?_
  refine g_get hC hw fkX0_32 0 rfl rfl dX0_putDown_1 ?_
  refine lv_aload_n hx hb dX0_putDown_4 rfl (lv_at hl 0 rfl) ?_
  refine g_get hC hw fkX0_29 0 rfl rfl dX0_putDown_5 ?_
  refine lv_iload_n hx hb dX0_putDown_8 rfl (lv_at hl 1 rfl) ?_
  obtain ⟨hi, hf⟩ := ck_s hf
  refine g_iald hC hw 1 rfl hi dX0_putDown_9 ?_
  refine lv_bipush (v := (-6)) hx hb dX0_putDown_10 (by decide) ?_
  obtain ⟨hi, hf⟩ := ck_s hf
  obtain ⟨f1, ef1, hf⟩ := lx_s hf
  refine g_iast hC hw 2 rfl hi ef1 dX0_putDown_12 (fun H locs hw => ?_)
  have hw : wd_ G A s.heap (wl_X0_putDown G A_t A_t_at A_t_home A_t_light A_t_carries A_t_bearer c_t_there c_t_foggy c_t_carries f1) H locs := hw
  refine lv_aload_n hx hb dX0_putDown_13 rfl (lv_at hl 0 rfl) ?_
  refine g_get hC hw fkX0_29 0 rfl rfl dX0_putDown_14 ?_
  refine lv_iload_n hx hb dX0_putDown_17 rfl (lv_at hl 1 rfl) ?_
  refine lv_bipush (v := (-6)) hx hb dX0_putDown_18 (by decide) ?_
  obtain ⟨hi, hf⟩ := ck_s hf
  obtain ⟨f2, ef2, hf⟩ := lx_s hf
  refine g_iast hC hw 1 rfl hi ef2 dX0_putDown_20 (fun H locs hw => ?_)
  have hw : wd_ G A s.heap (wl_X0_putDown G A_t A_t_at A_t_home A_t_light A_t_carries A_t_bearer c_t_there c_t_foggy f2 f1) H locs := hw
  obtain ⟨h1_, h2_⟩ := t2_ hf
  subst h1_
  subst h2_
  exact hret _ _ _ _ dX0_putDown_21 hw
set_option maxHeartbeats 4000000 in
set_option maxRecDepth 100000 in
theorem cn_X0_putDown (l : Launch) (G : gw_) (A_t : Nat) (A_t_at : Nat) (A_t_home : Nat) (A_t_light : Nat) (A_t_carries : Nat) (A_t_bearer : Nat) (c_t_there : Int32) (c_t_foggy : Int32) (c_t_carries : Nat → Int32) (c_t_bearer : Nat → Int32) (x1 : Int32) (z_t_carries : Nat → Int32) (z_t_bearer : Nat → Int32) (hf : fn_X0_putDown c_t_carries c_t_bearer x1 = some (z_t_carries, z_t_bearer)) : cv_ l G yX0_putDown cX0_putDown 2 none 0 0 (wl_X0_putDown G A_t A_t_at A_t_home A_t_light A_t_carries A_t_bearer c_t_there c_t_foggy c_t_carries c_t_bearer) [.ref A_t, .int x1] (wl_X0_putDown G A_t A_t_at A_t_home A_t_light A_t_carries A_t_bearer c_t_there c_t_foggy z_t_carries z_t_bearer) := fun sz => met_intro (by decide) (Nat.le_of_ble_eq_true rfl) (fun p e s m args below meth c ls hsz hC hr hlk hnm hl hw => wn_X0_putDown hC (fun pc H locs ls hd hw => g_vret hC hr hlk hw hd) hf hl hw)

theorem dX0_part_0 : decode cX0_part 0 = .ok (.aload_n 0, 1) := by decide +kernel
theorem dX0_part_1 : decode cX0_part 1 = .ok (.getfield 29, 3) := by decide +kernel
theorem dX0_part_4 : decode cX0_part 4 = .ok (.iload_n 1, 1) := by decide +kernel
theorem dX0_part_5 : decode cX0_part 5 = .ok (.iaload, 1) := by decide +kernel
theorem dX0_part_6 : decode cX0_part 6 = .ok (.bipush (-6), 2) := by decide +kernel
theorem dX0_part_8 : decode cX0_part 8 = .ok (.if_icmp .eq 8, 3) := by decide +kernel
theorem dX0_part_11 : decode cX0_part 11 = .ok (.aload_n 0, 1) := by decide +kernel
theorem dX0_part_12 : decode cX0_part 12 = .ok (.iload_n 1, 1) := by decide +kernel
theorem dX0_part_13 : decode cX0_part 13 = .ok (.invokevirtual 59, 3) := by decide +kernel
theorem dX0_part_16 : decode cX0_part 16 = .ok (.aload_n 0, 1) := by decide +kernel
theorem dX0_part_17 : decode cX0_part 17 = .ok (.getfield 32, 3) := by decide +kernel
theorem dX0_part_20 : decode cX0_part 20 = .ok (.iload_n 1, 1) := by decide +kernel
theorem dX0_part_21 : decode cX0_part 21 = .ok (.iaload, 1) := by decide +kernel
theorem dX0_part_22 : decode cX0_part 22 = .ok (.bipush (-6), 2) := by decide +kernel
theorem dX0_part_24 : decode cX0_part 24 = .ok (.if_icmp .eq 13, 3) := by decide +kernel
theorem dX0_part_27 : decode cX0_part 27 = .ok (.aload_n 0, 1) := by decide +kernel
theorem dX0_part_28 : decode cX0_part 28 = .ok (.aload_n 0, 1) := by decide +kernel
theorem dX0_part_29 : decode cX0_part 29 = .ok (.getfield 32, 3) := by decide +kernel
theorem dX0_part_32 : decode cX0_part 32 = .ok (.iload_n 1, 1) := by decide +kernel
theorem dX0_part_33 : decode cX0_part 33 = .ok (.iaload, 1) := by decide +kernel
theorem dX0_part_34 : decode cX0_part 34 = .ok (.invokevirtual 59, 3) := by decide +kernel
theorem dX0_part_37 : decode cX0_part 37 = .ok (.return_, 1) := by decide +kernel
abbrev wl_X0_part (G : gw_) (A_t : Nat) (A_t_at : Nat) (A_t_home : Nat) (A_t_light : Nat) (A_t_carries : Nat) (A_t_bearer : Nat) (c_t_there : Int32) (c_t_foggy : Int32) (c_t_carries : Nat → Int32) (c_t_bearer : Nat → Int32) : va_W := [ob_ A_t 0 [.int c_t_there, .int c_t_foggy, .ref A_t_at, .ref A_t_home, .ref A_t_light, .ref A_t_carries, .ref A_t_bearer], ia_ G A_t_carries 6 c_t_carries, ia_ G A_t_bearer 6 c_t_bearer]
def fn_X0_part_j16 (c_t_carries : Nat → Int32) (c_t_bearer : Nat → Int32) (x1 : Int32)  : Option ((Nat → Int32) × (Nat → Int32)) :=
  ck_ x1 6 <|
  if (c_t_bearer (Int32.toNatClampNeg x1)) = (-6) then
    some (c_t_carries, c_t_bearer)
  else
    ck_ x1 6 <|
    b2_ (fn_X0_putDown c_t_carries c_t_bearer (c_t_bearer (Int32.toNatClampNeg x1))) fun w1 w2 =>
    some (w1, w2)
def fn_X0_part (c_t_carries : Nat → Int32) (c_t_bearer : Nat → Int32) (x1 : Int32) : Option ((Nat → Int32) × (Nat → Int32)) :=
  ck_ x1 6 <|
  if (c_t_carries (Int32.toNatClampNeg x1)) = (-6) then
    fn_X0_part_j16 c_t_carries c_t_bearer x1
  else
    b2_ (fn_X0_putDown c_t_carries c_t_bearer x1) fun w4 w5 =>
    fn_X0_part_j16 w4 w5 x1
set_option maxHeartbeats 4000000 in
set_option maxRecDepth 100000 in
theorem wn_X0_part_j16 {p : Program} {l : Launch} {e : Env} {s : State} {m : MethodId} {args : Array Value} {below : List Frame} {meth : Method} {c : Code} {G : gw_} {A : Nat → Prop} {Q : State → Prop} {A_t : Nat} {A_t_at : Nat} {A_t_home : Nat} {A_t_light : Nat} {A_t_carries : Nat} {A_t_bearer : Nat} {c_t_there : Int32} {c_t_foggy : Int32} {c_t_carries : Nat → Int32} {z_t_carries : Nat → Int32} {c_t_bearer : Nat → Int32} {z_t_bearer : Nat → Int32} {x1 : Int32} (hC : cx_ p s m c G cX0_part 2 RX0) (hret : ∀ (pc : Nat) (H : Heap) (locs : List Loc) (ls : Array Slot), decode cX0_part pc = .ok (.return_, 1) → wd_ G A s.heap (wl_X0_part G A_t A_t_at A_t_home A_t_light A_t_carries A_t_bearer c_t_there c_t_foggy z_t_carries z_t_bearer) H locs → W p l e { frames := 1, cells := 0, slots := 0, locals := 21 } s m args below meth c H locs 0 0 Q (F0 m pc ls []))  (hf : fn_X0_part_j16 c_t_carries c_t_bearer x1 = some (z_t_carries, z_t_bearer)) {H : Heap} {locs : List Loc} {ls : Array Slot} (hl : lv_has ls 2 [(0, .ref A_t), (1, .int x1)]) (hw : wd_ G A s.heap (wl_X0_part G A_t A_t_at A_t_home A_t_light A_t_carries A_t_bearer c_t_there c_t_foggy c_t_carries c_t_bearer) H locs) : W p l e { frames := 1, cells := 0, slots := 0, locals := 21 } s m args below meth c H locs 0 0 Q (F0 m 16 ls []) := by
  have hx := hC.1
  have hb := hC.2.1
  unfold fn_X0_part_j16 at hf
  refine lv_aload_n hx hb dX0_part_16 rfl (lv_at hl 0 rfl) ?_
  refine g_get hC hw fkX0_32 0 rfl rfl dX0_part_17 ?_
  refine lv_iload_n hx hb dX0_part_20 rfl (lv_at hl 1 rfl) ?_
  obtain ⟨hi, hf⟩ := ck_s hf
  refine g_iald hC hw 2 rfl hi dX0_part_21 ?_
  refine lv_bipush (v := (-6)) hx hb dX0_part_22 (by decide) ?_
  refine lv_icmp_eq (tgt := 37) hx hb dX0_part_24 (by decide) (fun hc => ?_) (fun hc => ?_)
  · replace hf := it_t hc hf
    obtain ⟨h1_, h2_⟩ := t2_ hf
    subst h1_
    subst h2_
    exact hret _ _ _ _ dX0_part_37 hw
  · replace hf := it_f hc hf
    refine lv_aload_n hx hb dX0_part_27 rfl (lv_at hl 0 rfl) ?_
    refine lv_aload_n hx hb dX0_part_28 rfl (lv_at hl 0 rfl) ?_
    refine g_get hC hw fkX0_32 0 rfl rfl dX0_part_29 ?_
    refine lv_iload_n hx hb dX0_part_32 rfl (lv_at hl 1 rfl) ?_
    obtain ⟨hi, hf⟩ := ck_s hf
    refine g_iald hC hw 2 rfl hi dX0_part_33 ?_
    obtain ⟨w1, w2, hq3, hf⟩ := b2_s hf
    refine g_cVv hC hw mvX0_59 (cn_X0_putDown l G A_t A_t_at A_t_home A_t_light A_t_carries A_t_bearer c_t_there c_t_foggy c_t_carries c_t_bearer (c_t_bearer (Int32.toNatClampNeg x1)) w1 w2 hq3) [0, 1, 2] rfl (by decide) rfl 0 rfl rfl rfl hl.1 rfl (Nat.le_of_ble_eq_true rfl) ⟨Nat.le_of_ble_eq_true rfl, Nat.le_of_ble_eq_true rfl⟩ ⟨Nat.le_refl _, Nat.le_refl _⟩ dX0_part_34 (fun H locs hw => ?_)
    have hw : wd_ G A s.heap (wl_X0_part G A_t A_t_at A_t_home A_t_light A_t_carries A_t_bearer c_t_there c_t_foggy w1 w2) H locs := hw
    obtain ⟨h1_, h2_⟩ := t2_ hf
    subst h1_
    subst h2_
    exact hret _ _ _ _ dX0_part_37 hw
set_option maxHeartbeats 4000000 in
set_option maxRecDepth 100000 in
theorem wn_X0_part {p : Program} {l : Launch} {e : Env} {s : State} {m : MethodId} {args : Array Value} {below : List Frame} {meth : Method} {c : Code} {G : gw_} {A : Nat → Prop} {Q : State → Prop} {A_t : Nat} {A_t_at : Nat} {A_t_home : Nat} {A_t_light : Nat} {A_t_carries : Nat} {A_t_bearer : Nat} {c_t_there : Int32} {c_t_foggy : Int32} {c_t_carries : Nat → Int32} {z_t_carries : Nat → Int32} {c_t_bearer : Nat → Int32} {z_t_bearer : Nat → Int32} {x1 : Int32} (hC : cx_ p s m c G cX0_part 2 RX0) (hret : ∀ (pc : Nat) (H : Heap) (locs : List Loc) (ls : Array Slot), decode cX0_part pc = .ok (.return_, 1) → wd_ G A s.heap (wl_X0_part G A_t A_t_at A_t_home A_t_light A_t_carries A_t_bearer c_t_there c_t_foggy z_t_carries z_t_bearer) H locs → W p l e { frames := 1, cells := 0, slots := 0, locals := 21 } s m args below meth c H locs 0 0 Q (F0 m pc ls [])) (hf : fn_X0_part c_t_carries c_t_bearer x1 = some (z_t_carries, z_t_bearer)) {H : Heap} {locs : List Loc} {ls : Array Slot} (hl : lv_has ls 2 [(0, .ref A_t), (1, .int x1)]) (hw : wd_ G A s.heap (wl_X0_part G A_t A_t_at A_t_home A_t_light A_t_carries A_t_bearer c_t_there c_t_foggy c_t_carries c_t_bearer) H locs) : W p l e { frames := 1, cells := 0, slots := 0, locals := 21 } s m args below meth c H locs 0 0 Q (F0 m 0 ls []) := by
  have hx := hC.1
  have hb := hC.2.1
  unfold fn_X0_part at hf
  refine lv_aload_n hx hb dX0_part_0 rfl (lv_at hl 0 rfl) ?_
  refine g_get hC hw fkX0_29 0 rfl rfl dX0_part_1 ?_
  refine lv_iload_n hx hb dX0_part_4 rfl (lv_at hl 1 rfl) ?_
  obtain ⟨hi, hf⟩ := ck_s hf
  refine g_iald hC hw 1 rfl hi dX0_part_5 ?_
  refine lv_bipush (v := (-6)) hx hb dX0_part_6 (by decide) ?_
  refine lv_icmp_eq (tgt := 16) hx hb dX0_part_8 (by decide) (fun hc => ?_) (fun hc => ?_)
  · replace hf := it_t hc hf
    exact wn_X0_part_j16 hC hret hf (lv_sub hl [0, 1] rfl) hw
  · replace hf := it_f hc hf
    refine lv_aload_n hx hb dX0_part_11 rfl (lv_at hl 0 rfl) ?_
    refine lv_iload_n hx hb dX0_part_12 rfl (lv_at hl 1 rfl) ?_
    obtain ⟨w4, w5, hq6, hf⟩ := b2_s hf
    refine g_cVv hC hw mvX0_59 (cn_X0_putDown l G A_t A_t_at A_t_home A_t_light A_t_carries A_t_bearer c_t_there c_t_foggy c_t_carries c_t_bearer x1 w4 w5 hq6) [0, 1, 2] rfl (by decide) rfl 0 rfl rfl rfl hl.1 rfl (Nat.le_of_ble_eq_true rfl) ⟨Nat.le_of_ble_eq_true rfl, Nat.le_of_ble_eq_true rfl⟩ ⟨Nat.le_refl _, Nat.le_refl _⟩ dX0_part_13 (fun H locs hw => ?_)
    have hw : wd_ G A s.heap (wl_X0_part G A_t A_t_at A_t_home A_t_light A_t_carries A_t_bearer c_t_there c_t_foggy w4 w5) H locs := hw
    exact wn_X0_part_j16 hC hret hf (lv_sub hl [0, 1] rfl) hw
set_option maxHeartbeats 4000000 in
set_option maxRecDepth 100000 in
theorem cn_X0_part (l : Launch) (G : gw_) (A_t : Nat) (A_t_at : Nat) (A_t_home : Nat) (A_t_light : Nat) (A_t_carries : Nat) (A_t_bearer : Nat) (c_t_there : Int32) (c_t_foggy : Int32) (c_t_carries : Nat → Int32) (c_t_bearer : Nat → Int32) (x1 : Int32) (z_t_carries : Nat → Int32) (z_t_bearer : Nat → Int32) (hf : fn_X0_part c_t_carries c_t_bearer x1 = some (z_t_carries, z_t_bearer)) : cv_ l G yX0_part cX0_part 2 none 1 21 (wl_X0_part G A_t A_t_at A_t_home A_t_light A_t_carries A_t_bearer c_t_there c_t_foggy c_t_carries c_t_bearer) [.ref A_t, .int x1] (wl_X0_part G A_t A_t_at A_t_home A_t_light A_t_carries A_t_bearer c_t_there c_t_foggy z_t_carries z_t_bearer) := fun sz => met_intro (by decide) (Nat.le_of_ble_eq_true rfl) (fun p e s m args below meth c ls hsz hC hr hlk hnm hl hw => wn_X0_part hC (fun pc H locs ls hd hw => g_vret hC hr hlk hw hd) hf hl hw)

theorem dX0_enter_0 : decode cX0_enter 0 = .ok (.aload_n 0, 1) := by decide +kernel
theorem dX0_enter_1 : decode cX0_enter 1 = .ok (.iload_n 1, 1) := by decide +kernel
theorem dX0_enter_2 : decode cX0_enter 2 = .ok (.invokevirtual 55, 3) := by decide +kernel
theorem dX0_enter_5 : decode cX0_enter 5 = .ok (.aload_n 0, 1) := by decide +kernel
theorem dX0_enter_6 : decode cX0_enter 6 = .ok (.dup, 1) := by decide +kernel
theorem dX0_enter_7 : decode cX0_enter 7 = .ok (.getfield 9, 3) := by decide +kernel
theorem dX0_enter_10 : decode cX0_enter 10 = .ok (.iconst 1, 1) := by decide +kernel
theorem dX0_enter_11 : decode cX0_enter 11 = .ok (.iload_n 1, 1) := by decide +kernel
theorem dX0_enter_12 : decode cX0_enter 12 = .ok (.ishl, 1) := by decide +kernel
theorem dX0_enter_13 : decode cX0_enter 13 = .ok (.ior, 1) := by decide +kernel
theorem dX0_enter_14 : decode cX0_enter 14 = .ok (.putfield 9, 3) := by decide +kernel
theorem dX0_enter_17 : decode cX0_enter 17 = .ok (.aload_n 0, 1) := by decide +kernel
theorem dX0_enter_18 : decode cX0_enter 18 = .ok (.getfield 19, 3) := by decide +kernel
theorem dX0_enter_21 : decode cX0_enter 21 = .ok (.iload_n 1, 1) := by decide +kernel
theorem dX0_enter_22 : decode cX0_enter 22 = .ok (.iload_n 2, 1) := by decide +kernel
theorem dX0_enter_23 : decode cX0_enter 23 = .ok (.iastore, 1) := by decide +kernel
theorem dX0_enter_24 : decode cX0_enter 24 = .ok (.aload_n 0, 1) := by decide +kernel
theorem dX0_enter_25 : decode cX0_enter 25 = .ok (.getfield 23, 3) := by decide +kernel
theorem dX0_enter_28 : decode cX0_enter 28 = .ok (.iload_n 1, 1) := by decide +kernel
theorem dX0_enter_29 : decode cX0_enter 29 = .ok (.iload_n 3, 1) := by decide +kernel
theorem dX0_enter_30 : decode cX0_enter 30 = .ok (.iastore, 1) := by decide +kernel
theorem dX0_enter_31 : decode cX0_enter 31 = .ok (.aload_n 0, 1) := by decide +kernel
theorem dX0_enter_32 : decode cX0_enter 32 = .ok (.getfield 26, 3) := by decide +kernel
theorem dX0_enter_35 : decode cX0_enter 35 = .ok (.iload_n 1, 1) := by decide +kernel
theorem dX0_enter_36 : decode cX0_enter 36 = .ok (.iload 4, 2) := by decide +kernel
theorem dX0_enter_38 : decode cX0_enter 38 = .ok (.iastore, 1) := by decide +kernel
theorem dX0_enter_39 : decode cX0_enter 39 = .ok (.return_, 1) := by decide +kernel
abbrev wl_X0_enter (G : gw_) (A_t : Nat) (A_t_at : Nat) (A_t_home : Nat) (A_t_light : Nat) (A_t_carries : Nat) (A_t_bearer : Nat) (c_t_there : Int32) (c_t_foggy : Int32) (c_t_at : Nat → Int32) (c_t_home : Nat → Int32) (c_t_light : Nat → Int32) (c_t_carries : Nat → Int32) (c_t_bearer : Nat → Int32) : va_W := [ob_ A_t 0 [.int c_t_there, .int c_t_foggy, .ref A_t_at, .ref A_t_home, .ref A_t_light, .ref A_t_carries, .ref A_t_bearer], ia_ G A_t_at 6 c_t_at, ia_ G A_t_home 6 c_t_home, ia_ G A_t_light 6 c_t_light, ia_ G A_t_carries 6 c_t_carries, ia_ G A_t_bearer 6 c_t_bearer]
def fn_X0_enter (c_t_there : Int32) (c_t_at : Nat → Int32) (c_t_home : Nat → Int32) (c_t_light : Nat → Int32) (c_t_carries : Nat → Int32) (c_t_bearer : Nat → Int32) (x1 : Int32) (x2 : Int32) (x3 : Int32) (x4 : Int32) : Option (Int32 × (Nat → Int32) × (Nat → Int32) × (Nat → Int32) × (Nat → Int32) × (Nat → Int32)) :=
  b2_ (fn_X0_part c_t_carries c_t_bearer x1) fun w1 w2 =>
  lx_ (c_t_there ||| (1 <<< (x1 &&& 31))) fun y4 =>
  ck_ x1 6 <|
  lx_ (upd c_t_at (Int32.toNatClampNeg x1) x2) fun f5 =>
  ck_ x1 6 <|
  lx_ (upd c_t_home (Int32.toNatClampNeg x1) x3) fun f6 =>
  ck_ x1 6 <|
  lx_ (upd c_t_light (Int32.toNatClampNeg x1) x4) fun f7 =>
  some (y4, f5, f6, f7, w1, w2)
set_option maxHeartbeats 4000000 in
set_option maxRecDepth 100000 in
theorem wn_X0_enter {p : Program} {l : Launch} {e : Env} {s : State} {m : MethodId} {args : Array Value} {below : List Frame} {meth : Method} {c : Code} {G : gw_} {A : Nat → Prop} {Q : State → Prop} {A_t : Nat} {A_t_at : Nat} {A_t_home : Nat} {A_t_light : Nat} {A_t_carries : Nat} {A_t_bearer : Nat} {c_t_there : Int32} {z_t_there : Int32} {c_t_foggy : Int32} {c_t_at : Nat → Int32} {z_t_at : Nat → Int32} {c_t_home : Nat → Int32} {z_t_home : Nat → Int32} {c_t_light : Nat → Int32} {z_t_light : Nat → Int32} {c_t_carries : Nat → Int32} {z_t_carries : Nat → Int32} {c_t_bearer : Nat → Int32} {z_t_bearer : Nat → Int32} {x1 : Int32} {x2 : Int32} {x3 : Int32} {x4 : Int32} (hC : cx_ p s m c G cX0_enter 5 RX0) (hret : ∀ (pc : Nat) (H : Heap) (locs : List Loc) (ls : Array Slot), decode cX0_enter pc = .ok (.return_, 1) → wd_ G A s.heap (wl_X0_enter G A_t A_t_at A_t_home A_t_light A_t_carries A_t_bearer z_t_there c_t_foggy z_t_at z_t_home z_t_light z_t_carries z_t_bearer) H locs → W p l e { frames := 2, cells := 0, slots := 0, locals := 42 } s m args below meth c H locs 0 0 Q (F0 m pc ls [])) (hf : fn_X0_enter c_t_there c_t_at c_t_home c_t_light c_t_carries c_t_bearer x1 x2 x3 x4 = some (z_t_there, z_t_at, z_t_home, z_t_light, z_t_carries, z_t_bearer)) {H : Heap} {locs : List Loc} {ls : Array Slot} (hl : lv_has ls 5 [(0, .ref A_t), (1, .int x1), (2, .int x2), (3, .int x3), (4, .int x4)]) (hw : wd_ G A s.heap (wl_X0_enter G A_t A_t_at A_t_home A_t_light A_t_carries A_t_bearer c_t_there c_t_foggy c_t_at c_t_home c_t_light c_t_carries c_t_bearer) H locs) : W p l e { frames := 2, cells := 0, slots := 0, locals := 42 } s m args below meth c H locs 0 0 Q (F0 m 0 ls []) := by
  have hx := hC.1
  have hb := hC.2.1
  unfold fn_X0_enter at hf
  refine lv_aload_n hx hb dX0_enter_0 rfl (lv_at hl 0 rfl) ?_
  refine lv_iload_n hx hb dX0_enter_1 rfl (lv_at hl 1 rfl) ?_
  obtain ⟨w1, w2, hq3, hf⟩ := b2_s hf
  refine g_cVv hC hw mvX0_55 (cn_X0_part l G A_t A_t_at A_t_home A_t_light A_t_carries A_t_bearer c_t_there c_t_foggy c_t_carries c_t_bearer x1 w1 w2 hq3) [0, 4, 5] rfl (by decide) rfl 0 rfl rfl rfl hl.1 rfl (Nat.le_of_ble_eq_true rfl) ⟨Nat.le_of_ble_eq_true rfl, Nat.le_of_ble_eq_true rfl⟩ ⟨Nat.le_refl _, Nat.le_refl _⟩ dX0_enter_2 (fun H locs hw => ?_)
  have hw : wd_ G A s.heap (wl_X0_enter G A_t A_t_at A_t_home A_t_light A_t_carries A_t_bearer c_t_there c_t_foggy c_t_at c_t_home c_t_light w1 w2) H locs := hw
  refine lv_aload_n hx hb dX0_enter_5 rfl (lv_at hl 0 rfl) ?_
  refine lv_dup hx hb dX0_enter_6 rfl ?_
  refine g_get hC hw fkX0_9 0 rfl rfl dX0_enter_7 ?_
  refine lv_iconst (v := 1) hx hb dX0_enter_10 (by decide) ?_
  refine lv_iload_n hx hb dX0_enter_11 rfl (lv_at hl 1 rfl) ?_
  refine lv_ishl hx hb dX0_enter_12 ?_
  refine lv_ior hx hb dX0_enter_13 ?_
  obtain ⟨y4, ey4, hf⟩ := lx_s hf
  rw [← ey4]
  refine g_put hC hw fpX0_9 0 rfl rfl rfl (Nat.le_of_ble_eq_true rfl) dX0_enter_14 (fun H locs hw => ?_)
  have hw : wd_ G A s.heap (wl_X0_enter G A_t A_t_at A_t_home A_t_light A_t_carries A_t_bearer y4 c_t_foggy c_t_at c_t_home c_t_light w1 w2) H locs := hw
  refine lv_aload_n hx hb dX0_enter_17 rfl (lv_at hl 0 rfl) ?_
  refine g_get hC hw fkX0_19 0 rfl rfl dX0_enter_18 ?_
  refine lv_iload_n hx hb dX0_enter_21 rfl (lv_at hl 1 rfl) ?_
  refine lv_iload_n hx hb dX0_enter_22 rfl (lv_at hl 2 rfl) ?_
  obtain ⟨hi, hf⟩ := ck_s hf
  obtain ⟨f5, ef5, hf⟩ := lx_s hf
  refine g_iast hC hw 1 rfl hi ef5 dX0_enter_23 (fun H locs hw => ?_)
  have hw : wd_ G A s.heap (wl_X0_enter G A_t A_t_at A_t_home A_t_light A_t_carries A_t_bearer y4 c_t_foggy f5 c_t_home c_t_light w1 w2) H locs := hw
  refine lv_aload_n hx hb dX0_enter_24 rfl (lv_at hl 0 rfl) ?_
  refine g_get hC hw fkX0_23 0 rfl rfl dX0_enter_25 ?_
  refine lv_iload_n hx hb dX0_enter_28 rfl (lv_at hl 1 rfl) ?_
  refine lv_iload_n hx hb dX0_enter_29 rfl (lv_at hl 3 rfl) ?_
  obtain ⟨hi, hf⟩ := ck_s hf
  obtain ⟨f6, ef6, hf⟩ := lx_s hf
  refine g_iast hC hw 2 rfl hi ef6 dX0_enter_30 (fun H locs hw => ?_)
  have hw : wd_ G A s.heap (wl_X0_enter G A_t A_t_at A_t_home A_t_light A_t_carries A_t_bearer y4 c_t_foggy f5 f6 c_t_light w1 w2) H locs := hw
  refine lv_aload_n hx hb dX0_enter_31 rfl (lv_at hl 0 rfl) ?_
  refine g_get hC hw fkX0_26 0 rfl rfl dX0_enter_32 ?_
  refine lv_iload_n hx hb dX0_enter_35 rfl (lv_at hl 1 rfl) ?_
  refine lv_iload hx hb dX0_enter_36 (lv_at hl 4 rfl) ?_
  obtain ⟨hi, hf⟩ := ck_s hf
  obtain ⟨f7, ef7, hf⟩ := lx_s hf
  refine g_iast hC hw 3 rfl hi ef7 dX0_enter_38 (fun H locs hw => ?_)
  have hw : wd_ G A s.heap (wl_X0_enter G A_t A_t_at A_t_home A_t_light A_t_carries A_t_bearer y4 c_t_foggy f5 f6 f7 w1 w2) H locs := hw
  obtain ⟨h1_, h2_, h3_, h4_, h5_, h6_⟩ := t6_ hf
  subst h1_
  subst h2_
  subst h3_
  subst h4_
  subst h5_
  subst h6_
  exact hret _ _ _ _ dX0_enter_39 hw
set_option maxHeartbeats 4000000 in
set_option maxRecDepth 100000 in
theorem cn_X0_enter (l : Launch) (G : gw_) (A_t : Nat) (A_t_at : Nat) (A_t_home : Nat) (A_t_light : Nat) (A_t_carries : Nat) (A_t_bearer : Nat) (c_t_there : Int32) (c_t_foggy : Int32) (c_t_at : Nat → Int32) (c_t_home : Nat → Int32) (c_t_light : Nat → Int32) (c_t_carries : Nat → Int32) (c_t_bearer : Nat → Int32) (x1 : Int32) (x2 : Int32) (x3 : Int32) (x4 : Int32) (z_t_there : Int32) (z_t_at : Nat → Int32) (z_t_home : Nat → Int32) (z_t_light : Nat → Int32) (z_t_carries : Nat → Int32) (z_t_bearer : Nat → Int32) (hf : fn_X0_enter c_t_there c_t_at c_t_home c_t_light c_t_carries c_t_bearer x1 x2 x3 x4 = some (z_t_there, z_t_at, z_t_home, z_t_light, z_t_carries, z_t_bearer)) : cv_ l G yX0_enter cX0_enter 5 none 2 42 (wl_X0_enter G A_t A_t_at A_t_home A_t_light A_t_carries A_t_bearer c_t_there c_t_foggy c_t_at c_t_home c_t_light c_t_carries c_t_bearer) [.ref A_t, .int x1, .int x2, .int x3, .int x4] (wl_X0_enter G A_t A_t_at A_t_home A_t_light A_t_carries A_t_bearer z_t_there c_t_foggy z_t_at z_t_home z_t_light z_t_carries z_t_bearer) := fun sz => met_intro (by decide) (Nat.le_of_ble_eq_true rfl) (fun p e s m args below meth c ls hsz hC hr hlk hnm hl hw => wn_X0_enter hC (fun pc H locs ls hd hw => g_vret hC hr hlk hw hd) hf hl hw)

theorem dX0_remove_0 : decode cX0_remove 0 = .ok (.aload_n 0, 1) := by decide +kernel
theorem dX0_remove_1 : decode cX0_remove 1 = .ok (.iload_n 1, 1) := by decide +kernel
theorem dX0_remove_2 : decode cX0_remove 2 = .ok (.invokevirtual 55, 3) := by decide +kernel
theorem dX0_remove_5 : decode cX0_remove 5 = .ok (.aload_n 0, 1) := by decide +kernel
theorem dX0_remove_6 : decode cX0_remove 6 = .ok (.dup, 1) := by decide +kernel
theorem dX0_remove_7 : decode cX0_remove 7 = .ok (.getfield 9, 3) := by decide +kernel
theorem dX0_remove_10 : decode cX0_remove 10 = .ok (.iconst 1, 1) := by decide +kernel
theorem dX0_remove_11 : decode cX0_remove 11 = .ok (.iload_n 1, 1) := by decide +kernel
theorem dX0_remove_12 : decode cX0_remove 12 = .ok (.ishl, 1) := by decide +kernel
theorem dX0_remove_13 : decode cX0_remove 13 = .ok (.iconst (-1), 1) := by decide +kernel
theorem dX0_remove_14 : decode cX0_remove 14 = .ok (.ixor, 1) := by decide +kernel
theorem dX0_remove_15 : decode cX0_remove 15 = .ok (.iand, 1) := by decide +kernel
theorem dX0_remove_16 : decode cX0_remove 16 = .ok (.putfield 9, 3) := by decide +kernel
theorem dX0_remove_19 : decode cX0_remove 19 = .ok (.return_, 1) := by decide +kernel
abbrev wl_X0_remove (G : gw_) (A_t : Nat) (A_t_at : Nat) (A_t_home : Nat) (A_t_light : Nat) (A_t_carries : Nat) (A_t_bearer : Nat) (c_t_there : Int32) (c_t_foggy : Int32) (c_t_carries : Nat → Int32) (c_t_bearer : Nat → Int32) : va_W := [ob_ A_t 0 [.int c_t_there, .int c_t_foggy, .ref A_t_at, .ref A_t_home, .ref A_t_light, .ref A_t_carries, .ref A_t_bearer], ia_ G A_t_carries 6 c_t_carries, ia_ G A_t_bearer 6 c_t_bearer]
def fn_X0_remove (c_t_there : Int32) (c_t_carries : Nat → Int32) (c_t_bearer : Nat → Int32) (x1 : Int32) : Option (Int32 × (Nat → Int32) × (Nat → Int32)) :=
  b2_ (fn_X0_part c_t_carries c_t_bearer x1) fun w1 w2 =>
  lx_ (c_t_there &&& ((1 <<< (x1 &&& 31)) ^^^ (-1))) fun y4 =>
  some (y4, w1, w2)
set_option maxHeartbeats 4000000 in
set_option maxRecDepth 100000 in
theorem wn_X0_remove {p : Program} {l : Launch} {e : Env} {s : State} {m : MethodId} {args : Array Value} {below : List Frame} {meth : Method} {c : Code} {G : gw_} {A : Nat → Prop} {Q : State → Prop} {A_t : Nat} {A_t_at : Nat} {A_t_home : Nat} {A_t_light : Nat} {A_t_carries : Nat} {A_t_bearer : Nat} {c_t_there : Int32} {z_t_there : Int32} {c_t_foggy : Int32} {c_t_carries : Nat → Int32} {z_t_carries : Nat → Int32} {c_t_bearer : Nat → Int32} {z_t_bearer : Nat → Int32} {x1 : Int32} (hC : cx_ p s m c G cX0_remove 2 RX0) (hret : ∀ (pc : Nat) (H : Heap) (locs : List Loc) (ls : Array Slot), decode cX0_remove pc = .ok (.return_, 1) → wd_ G A s.heap (wl_X0_remove G A_t A_t_at A_t_home A_t_light A_t_carries A_t_bearer z_t_there c_t_foggy z_t_carries z_t_bearer) H locs → W p l e { frames := 2, cells := 0, slots := 0, locals := 42 } s m args below meth c H locs 0 0 Q (F0 m pc ls [])) (hf : fn_X0_remove c_t_there c_t_carries c_t_bearer x1 = some (z_t_there, z_t_carries, z_t_bearer)) {H : Heap} {locs : List Loc} {ls : Array Slot} (hl : lv_has ls 2 [(0, .ref A_t), (1, .int x1)]) (hw : wd_ G A s.heap (wl_X0_remove G A_t A_t_at A_t_home A_t_light A_t_carries A_t_bearer c_t_there c_t_foggy c_t_carries c_t_bearer) H locs) : W p l e { frames := 2, cells := 0, slots := 0, locals := 42 } s m args below meth c H locs 0 0 Q (F0 m 0 ls []) := by
  have hx := hC.1
  have hb := hC.2.1
  unfold fn_X0_remove at hf
  refine lv_aload_n hx hb dX0_remove_0 rfl (lv_at hl 0 rfl) ?_
  refine lv_iload_n hx hb dX0_remove_1 rfl (lv_at hl 1 rfl) ?_
  obtain ⟨w1, w2, hq3, hf⟩ := b2_s hf
  refine g_cVv hC hw mvX0_55 (cn_X0_part l G A_t A_t_at A_t_home A_t_light A_t_carries A_t_bearer c_t_there c_t_foggy c_t_carries c_t_bearer x1 w1 w2 hq3) [0, 1, 2] rfl (by decide) rfl 0 rfl rfl rfl hl.1 rfl (Nat.le_of_ble_eq_true rfl) ⟨Nat.le_of_ble_eq_true rfl, Nat.le_of_ble_eq_true rfl⟩ ⟨Nat.le_refl _, Nat.le_refl _⟩ dX0_remove_2 (fun H locs hw => ?_)
  have hw : wd_ G A s.heap (wl_X0_remove G A_t A_t_at A_t_home A_t_light A_t_carries A_t_bearer c_t_there c_t_foggy w1 w2) H locs := hw
  refine lv_aload_n hx hb dX0_remove_5 rfl (lv_at hl 0 rfl) ?_
  refine lv_dup hx hb dX0_remove_6 rfl ?_
  refine g_get hC hw fkX0_9 0 rfl rfl dX0_remove_7 ?_
  refine lv_iconst (v := 1) hx hb dX0_remove_10 (by decide) ?_
  refine lv_iload_n hx hb dX0_remove_11 rfl (lv_at hl 1 rfl) ?_
  refine lv_ishl hx hb dX0_remove_12 ?_
  refine lv_iconst (v := (-1)) hx hb dX0_remove_13 (by decide) ?_
  refine lv_ixor hx hb dX0_remove_14 ?_
  refine lv_iand hx hb dX0_remove_15 ?_
  obtain ⟨y4, ey4, hf⟩ := lx_s hf
  rw [← ey4]
  refine g_put hC hw fpX0_9 0 rfl rfl rfl (Nat.le_of_ble_eq_true rfl) dX0_remove_16 (fun H locs hw => ?_)
  have hw : wd_ G A s.heap (wl_X0_remove G A_t A_t_at A_t_home A_t_light A_t_carries A_t_bearer y4 c_t_foggy w1 w2) H locs := hw
  obtain ⟨h1_, h2_, h3_⟩ := t3_ hf
  subst h1_
  subst h2_
  subst h3_
  exact hret _ _ _ _ dX0_remove_19 hw
set_option maxHeartbeats 4000000 in
set_option maxRecDepth 100000 in
theorem cn_X0_remove (l : Launch) (G : gw_) (A_t : Nat) (A_t_at : Nat) (A_t_home : Nat) (A_t_light : Nat) (A_t_carries : Nat) (A_t_bearer : Nat) (c_t_there : Int32) (c_t_foggy : Int32) (c_t_carries : Nat → Int32) (c_t_bearer : Nat → Int32) (x1 : Int32) (z_t_there : Int32) (z_t_carries : Nat → Int32) (z_t_bearer : Nat → Int32) (hf : fn_X0_remove c_t_there c_t_carries c_t_bearer x1 = some (z_t_there, z_t_carries, z_t_bearer)) : cv_ l G yX0_remove cX0_remove 2 none 2 42 (wl_X0_remove G A_t A_t_at A_t_home A_t_light A_t_carries A_t_bearer c_t_there c_t_foggy c_t_carries c_t_bearer) [.ref A_t, .int x1] (wl_X0_remove G A_t A_t_at A_t_home A_t_light A_t_carries A_t_bearer z_t_there c_t_foggy z_t_carries z_t_bearer) := fun sz => met_intro (by decide) (Nat.le_of_ble_eq_true rfl) (fun p e s m args below meth c ls hsz hC hr hlk hnm hl hw => wn_X0_remove hC (fun pc H locs ls hd hw => g_vret hC hr hlk hw hd) hf hl hw)

theorem dX0_copyFrom_0 : decode cX0_copyFrom 0 = .ok (.aload_n 0, 1) := by decide +kernel
theorem dX0_copyFrom_1 : decode cX0_copyFrom 1 = .ok (.aload_n 1, 1) := by decide +kernel
theorem dX0_copyFrom_2 : decode cX0_copyFrom 2 = .ok (.getfield 9, 3) := by decide +kernel
theorem dX0_copyFrom_5 : decode cX0_copyFrom 5 = .ok (.putfield 9, 3) := by decide +kernel
theorem dX0_copyFrom_8 : decode cX0_copyFrom 8 = .ok (.aload_n 0, 1) := by decide +kernel
theorem dX0_copyFrom_9 : decode cX0_copyFrom 9 = .ok (.aload_n 1, 1) := by decide +kernel
theorem dX0_copyFrom_10 : decode cX0_copyFrom 10 = .ok (.getfield 15, 3) := by decide +kernel
theorem dX0_copyFrom_13 : decode cX0_copyFrom 13 = .ok (.putfield 15, 3) := by decide +kernel
theorem dX0_copyFrom_16 : decode cX0_copyFrom 16 = .ok (.aload_n 1, 1) := by decide +kernel
theorem dX0_copyFrom_17 : decode cX0_copyFrom 17 = .ok (.getfield 19, 3) := by decide +kernel
theorem dX0_copyFrom_20 : decode cX0_copyFrom 20 = .ok (.iconst 0, 1) := by decide +kernel
theorem dX0_copyFrom_21 : decode cX0_copyFrom 21 = .ok (.aload_n 0, 1) := by decide +kernel
theorem dX0_copyFrom_22 : decode cX0_copyFrom 22 = .ok (.getfield 19, 3) := by decide +kernel
theorem dX0_copyFrom_25 : decode cX0_copyFrom 25 = .ok (.iconst 0, 1) := by decide +kernel
theorem dX0_copyFrom_26 : decode cX0_copyFrom 26 = .ok (.bipush 6, 2) := by decide +kernel
theorem dX0_copyFrom_28 : decode cX0_copyFrom 28 = .ok (.invokestatic 62, 3) := by decide +kernel
theorem dX0_copyFrom_31 : decode cX0_copyFrom 31 = .ok (.aload_n 1, 1) := by decide +kernel
theorem dX0_copyFrom_32 : decode cX0_copyFrom 32 = .ok (.getfield 23, 3) := by decide +kernel
theorem dX0_copyFrom_35 : decode cX0_copyFrom 35 = .ok (.iconst 0, 1) := by decide +kernel
theorem dX0_copyFrom_36 : decode cX0_copyFrom 36 = .ok (.aload_n 0, 1) := by decide +kernel
theorem dX0_copyFrom_37 : decode cX0_copyFrom 37 = .ok (.getfield 23, 3) := by decide +kernel
theorem dX0_copyFrom_40 : decode cX0_copyFrom 40 = .ok (.iconst 0, 1) := by decide +kernel
theorem dX0_copyFrom_41 : decode cX0_copyFrom 41 = .ok (.bipush 6, 2) := by decide +kernel
theorem dX0_copyFrom_43 : decode cX0_copyFrom 43 = .ok (.invokestatic 62, 3) := by decide +kernel
theorem dX0_copyFrom_46 : decode cX0_copyFrom 46 = .ok (.aload_n 1, 1) := by decide +kernel
theorem dX0_copyFrom_47 : decode cX0_copyFrom 47 = .ok (.getfield 26, 3) := by decide +kernel
theorem dX0_copyFrom_50 : decode cX0_copyFrom 50 = .ok (.iconst 0, 1) := by decide +kernel
theorem dX0_copyFrom_51 : decode cX0_copyFrom 51 = .ok (.aload_n 0, 1) := by decide +kernel
theorem dX0_copyFrom_52 : decode cX0_copyFrom 52 = .ok (.getfield 26, 3) := by decide +kernel
theorem dX0_copyFrom_55 : decode cX0_copyFrom 55 = .ok (.iconst 0, 1) := by decide +kernel
theorem dX0_copyFrom_56 : decode cX0_copyFrom 56 = .ok (.bipush 6, 2) := by decide +kernel
theorem dX0_copyFrom_58 : decode cX0_copyFrom 58 = .ok (.invokestatic 62, 3) := by decide +kernel
theorem dX0_copyFrom_61 : decode cX0_copyFrom 61 = .ok (.aload_n 1, 1) := by decide +kernel
theorem dX0_copyFrom_62 : decode cX0_copyFrom 62 = .ok (.getfield 29, 3) := by decide +kernel
theorem dX0_copyFrom_65 : decode cX0_copyFrom 65 = .ok (.iconst 0, 1) := by decide +kernel
theorem dX0_copyFrom_66 : decode cX0_copyFrom 66 = .ok (.aload_n 0, 1) := by decide +kernel
theorem dX0_copyFrom_67 : decode cX0_copyFrom 67 = .ok (.getfield 29, 3) := by decide +kernel
theorem dX0_copyFrom_70 : decode cX0_copyFrom 70 = .ok (.iconst 0, 1) := by decide +kernel
theorem dX0_copyFrom_71 : decode cX0_copyFrom 71 = .ok (.bipush 6, 2) := by decide +kernel
theorem dX0_copyFrom_73 : decode cX0_copyFrom 73 = .ok (.invokestatic 62, 3) := by decide +kernel
theorem dX0_copyFrom_76 : decode cX0_copyFrom 76 = .ok (.aload_n 1, 1) := by decide +kernel
theorem dX0_copyFrom_77 : decode cX0_copyFrom 77 = .ok (.getfield 32, 3) := by decide +kernel
theorem dX0_copyFrom_80 : decode cX0_copyFrom 80 = .ok (.iconst 0, 1) := by decide +kernel
theorem dX0_copyFrom_81 : decode cX0_copyFrom 81 = .ok (.aload_n 0, 1) := by decide +kernel
theorem dX0_copyFrom_82 : decode cX0_copyFrom 82 = .ok (.getfield 32, 3) := by decide +kernel
theorem dX0_copyFrom_85 : decode cX0_copyFrom 85 = .ok (.iconst 0, 1) := by decide +kernel
theorem dX0_copyFrom_86 : decode cX0_copyFrom 86 = .ok (.bipush 6, 2) := by decide +kernel
theorem dX0_copyFrom_88 : decode cX0_copyFrom 88 = .ok (.invokestatic 62, 3) := by decide +kernel
theorem dX0_copyFrom_91 : decode cX0_copyFrom 91 = .ok (.return_, 1) := by decide +kernel
abbrev wl_X0_copyFrom (G : gw_) (A_t : Nat) (A_t_at : Nat) (A_t_home : Nat) (A_t_light : Nat) (A_t_carries : Nat) (A_t_bearer : Nat) (A_q1 : Nat) (A_q1_at : Nat) (A_q1_home : Nat) (A_q1_light : Nat) (A_q1_carries : Nat) (A_q1_bearer : Nat) (c_t_there : Int32) (c_t_foggy : Int32) (c_t_at : Nat → Int32) (c_t_home : Nat → Int32) (c_t_light : Nat → Int32) (c_t_carries : Nat → Int32) (c_t_bearer : Nat → Int32) (c_q1_there : Int32) (c_q1_foggy : Int32) (c_q1_at : Nat → Int32) (c_q1_home : Nat → Int32) (c_q1_light : Nat → Int32) (c_q1_carries : Nat → Int32) (c_q1_bearer : Nat → Int32) : va_W := [ob_ A_t 0 [.int c_t_there, .int c_t_foggy, .ref A_t_at, .ref A_t_home, .ref A_t_light, .ref A_t_carries, .ref A_t_bearer], ia_ G A_t_at 6 c_t_at, ia_ G A_t_home 6 c_t_home, ia_ G A_t_light 6 c_t_light, ia_ G A_t_carries 6 c_t_carries, ia_ G A_t_bearer 6 c_t_bearer, ob_ A_q1 0 [.int c_q1_there, .int c_q1_foggy, .ref A_q1_at, .ref A_q1_home, .ref A_q1_light, .ref A_q1_carries, .ref A_q1_bearer], ia_ G A_q1_at 6 c_q1_at, ia_ G A_q1_home 6 c_q1_home, ia_ G A_q1_light 6 c_q1_light, ia_ G A_q1_carries 6 c_q1_carries, ia_ G A_q1_bearer 6 c_q1_bearer]
def fn_X0_copyFrom (c_t_there : Int32) (c_t_foggy : Int32) (c_t_at : Nat → Int32) (c_t_home : Nat → Int32) (c_t_light : Nat → Int32) (c_t_carries : Nat → Int32) (c_t_bearer : Nat → Int32) (c_q1_there : Int32) (c_q1_foggy : Int32) (c_q1_at : Nat → Int32) (c_q1_home : Nat → Int32) (c_q1_light : Nat → Int32) (c_q1_carries : Nat → Int32) (c_q1_bearer : Nat → Int32) : Option (Int32 × Int32 × (Nat → Int32) × (Nat → Int32) × (Nat → Int32) × (Nat → Int32) × (Nat → Int32)) :=
  bz_ c_q1_foggy <|
  lx_ (va_cpy c_q1_at c_t_at 0 0 6) fun f1 =>
  lx_ (va_cpy c_q1_home c_t_home 0 0 6) fun f2 =>
  lx_ (va_cpy c_q1_light c_t_light 0 0 6) fun f3 =>
  lx_ (va_cpy c_q1_carries c_t_carries 0 0 6) fun f4 =>
  lx_ (va_cpy c_q1_bearer c_t_bearer 0 0 6) fun f5 =>
  some (c_q1_there, c_q1_foggy, f1, f2, f3, f4, f5)
set_option maxHeartbeats 4000000 in
set_option maxRecDepth 100000 in
theorem wn_X0_copyFrom {p : Program} {l : Launch} {e : Env} {s : State} {m : MethodId} {args : Array Value} {below : List Frame} {meth : Method} {c : Code} {G : gw_} {A : Nat → Prop} {Q : State → Prop} {A_t : Nat} {A_t_at : Nat} {A_t_home : Nat} {A_t_light : Nat} {A_t_carries : Nat} {A_t_bearer : Nat} {A_q1 : Nat} {A_q1_at : Nat} {A_q1_home : Nat} {A_q1_light : Nat} {A_q1_carries : Nat} {A_q1_bearer : Nat} {c_t_there : Int32} {z_t_there : Int32} {c_t_foggy : Int32} {z_t_foggy : Int32} {c_t_at : Nat → Int32} {z_t_at : Nat → Int32} {c_t_home : Nat → Int32} {z_t_home : Nat → Int32} {c_t_light : Nat → Int32} {z_t_light : Nat → Int32} {c_t_carries : Nat → Int32} {z_t_carries : Nat → Int32} {c_t_bearer : Nat → Int32} {z_t_bearer : Nat → Int32} {c_q1_there : Int32} {c_q1_foggy : Int32} {c_q1_at : Nat → Int32} {c_q1_home : Nat → Int32} {c_q1_light : Nat → Int32} {c_q1_carries : Nat → Int32} {c_q1_bearer : Nat → Int32} (hC : cx_ p s m c G cX0_copyFrom 2 RX0) (hret : ∀ (pc : Nat) (H : Heap) (locs : List Loc) (ls : Array Slot), decode cX0_copyFrom pc = .ok (.return_, 1) → wd_ G A s.heap (wl_X0_copyFrom G A_t A_t_at A_t_home A_t_light A_t_carries A_t_bearer A_q1 A_q1_at A_q1_home A_q1_light A_q1_carries A_q1_bearer z_t_there z_t_foggy z_t_at z_t_home z_t_light z_t_carries z_t_bearer c_q1_there c_q1_foggy c_q1_at c_q1_home c_q1_light c_q1_carries c_q1_bearer) H locs → W p l e { frames := 1, cells := 0, slots := 0, locals := 40 } s m args below meth c H locs 0 0 Q (F0 m pc ls [])) (hf : fn_X0_copyFrom c_t_there c_t_foggy c_t_at c_t_home c_t_light c_t_carries c_t_bearer c_q1_there c_q1_foggy c_q1_at c_q1_home c_q1_light c_q1_carries c_q1_bearer = some (z_t_there, z_t_foggy, z_t_at, z_t_home, z_t_light, z_t_carries, z_t_bearer)) {H : Heap} {locs : List Loc} {ls : Array Slot} (hl : lv_has ls 2 [(0, .ref A_t), (1, .ref A_q1)]) (hw : wd_ G A s.heap (wl_X0_copyFrom G A_t A_t_at A_t_home A_t_light A_t_carries A_t_bearer A_q1 A_q1_at A_q1_home A_q1_light A_q1_carries A_q1_bearer c_t_there c_t_foggy c_t_at c_t_home c_t_light c_t_carries c_t_bearer c_q1_there c_q1_foggy c_q1_at c_q1_home c_q1_light c_q1_carries c_q1_bearer) H locs) : W p l e { frames := 1, cells := 0, slots := 0, locals := 40 } s m args below meth c H locs 0 0 Q (F0 m 0 ls []) := by
  have hx := hC.1
  have hb := hC.2.1
  unfold fn_X0_copyFrom at hf
  refine lv_aload_n hx hb dX0_copyFrom_0 rfl (lv_at hl 0 rfl) ?_
  refine lv_aload_n hx hb dX0_copyFrom_1 rfl (lv_at hl 1 rfl) ?_
  refine g_get hC hw fkX0_9 6 rfl rfl dX0_copyFrom_2 ?_
  refine g_put hC hw fpX0_9 0 rfl rfl rfl (Nat.le_of_ble_eq_true rfl) dX0_copyFrom_5 (fun H locs hw => ?_)
  have hw : wd_ G A s.heap (wl_X0_copyFrom G A_t A_t_at A_t_home A_t_light A_t_carries A_t_bearer A_q1 A_q1_at A_q1_home A_q1_light A_q1_carries A_q1_bearer c_q1_there c_t_foggy c_t_at c_t_home c_t_light c_t_carries c_t_bearer c_q1_there c_q1_foggy c_q1_at c_q1_home c_q1_light c_q1_carries c_q1_bearer) H locs := hw
  refine lv_aload_n hx hb dX0_copyFrom_8 rfl (lv_at hl 0 rfl) ?_
  refine lv_aload_n hx hb dX0_copyFrom_9 rfl (lv_at hl 1 rfl) ?_
  refine g_get hC hw fkX0_15 6 rfl rfl dX0_copyFrom_10 ?_
  obtain ⟨hz0, hf⟩ := bz_s hf
  refine g_put hC hw fpX0_15 0 rfl hz0.1 hz0.2 (Nat.le_of_ble_eq_true rfl) dX0_copyFrom_13 (fun H locs hw => ?_)
  have hw : wd_ G A s.heap (wl_X0_copyFrom G A_t A_t_at A_t_home A_t_light A_t_carries A_t_bearer A_q1 A_q1_at A_q1_home A_q1_light A_q1_carries A_q1_bearer c_q1_there c_q1_foggy c_t_at c_t_home c_t_light c_t_carries c_t_bearer c_q1_there c_q1_foggy c_q1_at c_q1_home c_q1_light c_q1_carries c_q1_bearer) H locs := hw
  refine lv_aload_n hx hb dX0_copyFrom_16 rfl (lv_at hl 1 rfl) ?_
  refine g_get hC hw fkX0_19 6 rfl rfl dX0_copyFrom_17 ?_
  refine lv_iconst (v := 0) hx hb dX0_copyFrom_20 (by decide) ?_
  refine lv_aload_n hx hb dX0_copyFrom_21 rfl (lv_at hl 0 rfl) ?_
  refine g_get hC hw fkX0_19 0 rfl rfl dX0_copyFrom_22 ?_
  refine lv_iconst (v := 0) hx hb dX0_copyFrom_25 (by decide) ?_
  refine lv_bipush (v := 6) hx hb dX0_copyFrom_26 (by decide) ?_
  obtain ⟨f1, ef1, hf⟩ := lx_s hf
  refine g_copy hC hw hl.1 (tb2 114 rfl rfl) (tb2 116 rfl rfl) (tb2 115 rfl rfl) (tb1 14 rfl rfl) 7 1 rfl rfl rfl rfl rfl (by decide) (by decide) (by decide) ef1 (by decide) (by decide) dX0_copyFrom_28 (fun H locs hw => ?_)
  have hw : wd_ G A s.heap (wl_X0_copyFrom G A_t A_t_at A_t_home A_t_light A_t_carries A_t_bearer A_q1 A_q1_at A_q1_home A_q1_light A_q1_carries A_q1_bearer c_q1_there c_q1_foggy f1 c_t_home c_t_light c_t_carries c_t_bearer c_q1_there c_q1_foggy c_q1_at c_q1_home c_q1_light c_q1_carries c_q1_bearer) H locs := hw
  refine lv_aload_n hx hb dX0_copyFrom_31 rfl (lv_at hl 1 rfl) ?_
  refine g_get hC hw fkX0_23 6 rfl rfl dX0_copyFrom_32 ?_
  refine lv_iconst (v := 0) hx hb dX0_copyFrom_35 (by decide) ?_
  refine lv_aload_n hx hb dX0_copyFrom_36 rfl (lv_at hl 0 rfl) ?_
  refine g_get hC hw fkX0_23 0 rfl rfl dX0_copyFrom_37 ?_
  refine lv_iconst (v := 0) hx hb dX0_copyFrom_40 (by decide) ?_
  refine lv_bipush (v := 6) hx hb dX0_copyFrom_41 (by decide) ?_
  obtain ⟨f2, ef2, hf⟩ := lx_s hf
  refine g_copy hC hw hl.1 (tb2 114 rfl rfl) (tb2 116 rfl rfl) (tb2 115 rfl rfl) (tb1 14 rfl rfl) 8 2 rfl rfl rfl rfl rfl (by decide) (by decide) (by decide) ef2 (by decide) (by decide) dX0_copyFrom_43 (fun H locs hw => ?_)
  have hw : wd_ G A s.heap (wl_X0_copyFrom G A_t A_t_at A_t_home A_t_light A_t_carries A_t_bearer A_q1 A_q1_at A_q1_home A_q1_light A_q1_carries A_q1_bearer c_q1_there c_q1_foggy f1 f2 c_t_light c_t_carries c_t_bearer c_q1_there c_q1_foggy c_q1_at c_q1_home c_q1_light c_q1_carries c_q1_bearer) H locs := hw
  refine lv_aload_n hx hb dX0_copyFrom_46 rfl (lv_at hl 1 rfl) ?_
  refine g_get hC hw fkX0_26 6 rfl rfl dX0_copyFrom_47 ?_
  refine lv_iconst (v := 0) hx hb dX0_copyFrom_50 (by decide) ?_
  refine lv_aload_n hx hb dX0_copyFrom_51 rfl (lv_at hl 0 rfl) ?_
  refine g_get hC hw fkX0_26 0 rfl rfl dX0_copyFrom_52 ?_
  refine lv_iconst (v := 0) hx hb dX0_copyFrom_55 (by decide) ?_
  refine lv_bipush (v := 6) hx hb dX0_copyFrom_56 (by decide) ?_
  obtain ⟨f3, ef3, hf⟩ := lx_s hf
  refine g_copy hC hw hl.1 (tb2 114 rfl rfl) (tb2 116 rfl rfl) (tb2 115 rfl rfl) (tb1 14 rfl rfl) 9 3 rfl rfl rfl rfl rfl (by decide) (by decide) (by decide) ef3 (by decide) (by decide) dX0_copyFrom_58 (fun H locs hw => ?_)
  have hw : wd_ G A s.heap (wl_X0_copyFrom G A_t A_t_at A_t_home A_t_light A_t_carries A_t_bearer A_q1 A_q1_at A_q1_home A_q1_light A_q1_carries A_q1_bearer c_q1_there c_q1_foggy f1 f2 f3 c_t_carries c_t_bearer c_q1_there c_q1_foggy c_q1_at c_q1_home c_q1_light c_q1_carries c_q1_bearer) H locs := hw
  refine lv_aload_n hx hb dX0_copyFrom_61 rfl (lv_at hl 1 rfl) ?_
  refine g_get hC hw fkX0_29 6 rfl rfl dX0_copyFrom_62 ?_
  refine lv_iconst (v := 0) hx hb dX0_copyFrom_65 (by decide) ?_
  refine lv_aload_n hx hb dX0_copyFrom_66 rfl (lv_at hl 0 rfl) ?_
  refine g_get hC hw fkX0_29 0 rfl rfl dX0_copyFrom_67 ?_
  refine lv_iconst (v := 0) hx hb dX0_copyFrom_70 (by decide) ?_
  refine lv_bipush (v := 6) hx hb dX0_copyFrom_71 (by decide) ?_
  obtain ⟨f4, ef4, hf⟩ := lx_s hf
  refine g_copy hC hw hl.1 (tb2 114 rfl rfl) (tb2 116 rfl rfl) (tb2 115 rfl rfl) (tb1 14 rfl rfl) 10 4 rfl rfl rfl rfl rfl (by decide) (by decide) (by decide) ef4 (by decide) (by decide) dX0_copyFrom_73 (fun H locs hw => ?_)
  have hw : wd_ G A s.heap (wl_X0_copyFrom G A_t A_t_at A_t_home A_t_light A_t_carries A_t_bearer A_q1 A_q1_at A_q1_home A_q1_light A_q1_carries A_q1_bearer c_q1_there c_q1_foggy f1 f2 f3 f4 c_t_bearer c_q1_there c_q1_foggy c_q1_at c_q1_home c_q1_light c_q1_carries c_q1_bearer) H locs := hw
  refine lv_aload_n hx hb dX0_copyFrom_76 rfl (lv_at hl 1 rfl) ?_
  refine g_get hC hw fkX0_32 6 rfl rfl dX0_copyFrom_77 ?_
  refine lv_iconst (v := 0) hx hb dX0_copyFrom_80 (by decide) ?_
  refine lv_aload_n hx hb dX0_copyFrom_81 rfl (lv_at hl 0 rfl) ?_
  refine g_get hC hw fkX0_32 0 rfl rfl dX0_copyFrom_82 ?_
  refine lv_iconst (v := 0) hx hb dX0_copyFrom_85 (by decide) ?_
  refine lv_bipush (v := 6) hx hb dX0_copyFrom_86 (by decide) ?_
  obtain ⟨f5, ef5, hf⟩ := lx_s hf
  refine g_copy hC hw hl.1 (tb2 114 rfl rfl) (tb2 116 rfl rfl) (tb2 115 rfl rfl) (tb1 14 rfl rfl) 11 5 rfl rfl rfl rfl rfl (by decide) (by decide) (by decide) ef5 (by decide) (by decide) dX0_copyFrom_88 (fun H locs hw => ?_)
  have hw : wd_ G A s.heap (wl_X0_copyFrom G A_t A_t_at A_t_home A_t_light A_t_carries A_t_bearer A_q1 A_q1_at A_q1_home A_q1_light A_q1_carries A_q1_bearer c_q1_there c_q1_foggy f1 f2 f3 f4 f5 c_q1_there c_q1_foggy c_q1_at c_q1_home c_q1_light c_q1_carries c_q1_bearer) H locs := hw
  obtain ⟨h1_, h2_, h3_, h4_, h5_, h6_, h7_⟩ := t7_ hf
  subst h1_
  subst h2_
  subst h3_
  subst h4_
  subst h5_
  subst h6_
  subst h7_
  exact hret _ _ _ _ dX0_copyFrom_91 hw
set_option maxHeartbeats 4000000 in
set_option maxRecDepth 100000 in
theorem cn_X0_copyFrom (l : Launch) (G : gw_) (A_t : Nat) (A_t_at : Nat) (A_t_home : Nat) (A_t_light : Nat) (A_t_carries : Nat) (A_t_bearer : Nat) (A_q1 : Nat) (A_q1_at : Nat) (A_q1_home : Nat) (A_q1_light : Nat) (A_q1_carries : Nat) (A_q1_bearer : Nat) (c_t_there : Int32) (c_t_foggy : Int32) (c_t_at : Nat → Int32) (c_t_home : Nat → Int32) (c_t_light : Nat → Int32) (c_t_carries : Nat → Int32) (c_t_bearer : Nat → Int32) (c_q1_there : Int32) (c_q1_foggy : Int32) (c_q1_at : Nat → Int32) (c_q1_home : Nat → Int32) (c_q1_light : Nat → Int32) (c_q1_carries : Nat → Int32) (c_q1_bearer : Nat → Int32) (z_t_there : Int32) (z_t_foggy : Int32) (z_t_at : Nat → Int32) (z_t_home : Nat → Int32) (z_t_light : Nat → Int32) (z_t_carries : Nat → Int32) (z_t_bearer : Nat → Int32) (hf : fn_X0_copyFrom c_t_there c_t_foggy c_t_at c_t_home c_t_light c_t_carries c_t_bearer c_q1_there c_q1_foggy c_q1_at c_q1_home c_q1_light c_q1_carries c_q1_bearer = some (z_t_there, z_t_foggy, z_t_at, z_t_home, z_t_light, z_t_carries, z_t_bearer)) : cv_ l G yX0_copyFrom cX0_copyFrom 2 none 1 40 (wl_X0_copyFrom G A_t A_t_at A_t_home A_t_light A_t_carries A_t_bearer A_q1 A_q1_at A_q1_home A_q1_light A_q1_carries A_q1_bearer c_t_there c_t_foggy c_t_at c_t_home c_t_light c_t_carries c_t_bearer c_q1_there c_q1_foggy c_q1_at c_q1_home c_q1_light c_q1_carries c_q1_bearer) [.ref A_t, .ref A_q1] (wl_X0_copyFrom G A_t A_t_at A_t_home A_t_light A_t_carries A_t_bearer A_q1 A_q1_at A_q1_home A_q1_light A_q1_carries A_q1_bearer z_t_there z_t_foggy z_t_at z_t_home z_t_light z_t_carries z_t_bearer c_q1_there c_q1_foggy c_q1_at c_q1_home c_q1_light c_q1_carries c_q1_bearer) := fun sz => met_intro (by decide) (Nat.le_of_ble_eq_true rfl) (fun p e s m args below meth c ls hsz hC hr hlk hnm hl hw => wn_X0_copyFrom hC (fun pc H locs ls hd hw => g_vret hC hr hlk hw hd) hf hl hw)

theorem dX2_code_0 : decode cX2_code 0 = .ok (.aload_n 0, 1) := by decide +kernel
theorem dX2_code_1 : decode cX2_code 1 = .ok (.getfield 9, 3) := by decide +kernel
theorem dX2_code_4 : decode cX2_code 4 = .ok (.iload_n 1, 1) := by decide +kernel
theorem dX2_code_5 : decode cX2_code 5 = .ok (.bipush 12, 2) := by decide +kernel
theorem dX2_code_7 : decode cX2_code 7 = .ok (.imul, 1) := by decide +kernel
theorem dX2_code_8 : decode cX2_code 8 = .ok (.iload_n 2, 1) := by decide +kernel
theorem dX2_code_9 : decode cX2_code 9 = .ok (.iadd, 1) := by decide +kernel
theorem dX2_code_10 : decode cX2_code 10 = .ok (.iaload, 1) := by decide +kernel
theorem dX2_code_11 : decode cX2_code 11 = .ok (.ireturn, 1) := by decide +kernel
abbrev wl_X2_code (G : gw_) (A_t : Nat) (A_t_codes : Nat) (c_t_codes : Nat → Int32) : va_W := [ob_ A_t 2 [.ref A_t_codes], ia_ G A_t_codes 144 c_t_codes]
def fn_X2_code (c_t_codes : Nat → Int32) (x1 : Int32) (x2 : Int32) : Option (Int32) :=
  ck_ ((x1 * 12) + x2) 144 <|
  some (c_t_codes (Int32.toNatClampNeg ((x1 * 12) + x2)))
set_option maxHeartbeats 4000000 in
set_option maxRecDepth 100000 in
theorem wn_X2_code {p : Program} {l : Launch} {e : Env} {s : State} {m : MethodId} {args : Array Value} {below : List Frame} {meth : Method} {c : Code} {G : gw_} {A : Nat → Prop} {Q : State → Prop} {A_t : Nat} {A_t_codes : Nat} {c_t_codes : Nat → Int32} {r : Int32} {x1 : Int32} {x2 : Int32} (hC : cx_ p s m c G cX2_code 3 RX2) (hret : ∀ (pc : Nat) (H : Heap) (locs : List Loc) (ls : Array Slot), decode cX2_code pc = .ok (.ireturn, 1) → wd_ G A s.heap (wl_X2_code G A_t A_t_codes c_t_codes) H locs → W p l e { frames := 0, cells := 0, slots := 0, locals := 0 } s m args below meth c H locs 0 0 Q (F0 m pc ls [.int r])) (hf : fn_X2_code c_t_codes x1 x2 = some r) {H : Heap} {locs : List Loc} {ls : Array Slot} (hl : lv_has ls 3 [(0, .ref A_t), (1, .int x1), (2, .int x2)]) (hw : wd_ G A s.heap (wl_X2_code G A_t A_t_codes c_t_codes) H locs) : W p l e { frames := 0, cells := 0, slots := 0, locals := 0 } s m args below meth c H locs 0 0 Q (F0 m 0 ls []) := by
  have hx := hC.1
  have hb := hC.2.1
  unfold fn_X2_code at hf
  refine lv_aload_n hx hb dX2_code_0 rfl (lv_at hl 0 rfl) ?_
  refine g_get hC hw fkX2_9 0 rfl rfl dX2_code_1 ?_
  refine lv_iload_n hx hb dX2_code_4 rfl (lv_at hl 1 rfl) ?_
  refine lv_bipush (v := 12) hx hb dX2_code_5 (by decide) ?_
  refine lv_imul hx hb dX2_code_7 ?_
  refine lv_iload_n hx hb dX2_code_8 rfl (lv_at hl 2 rfl) ?_
  refine lv_iadd hx hb dX2_code_9 ?_
  obtain ⟨hi, hf⟩ := ck_s hf
  refine g_iald hC hw 1 rfl hi dX2_code_10 ?_
  have h1_ := t1_ hf
  subst h1_
  exact hret _ _ _ _ dX2_code_11 hw
set_option maxHeartbeats 4000000 in
set_option maxRecDepth 100000 in
theorem cn_X2_code (l : Launch) (G : gw_) (A_t : Nat) (A_t_codes : Nat) (c_t_codes : Nat → Int32) (x1 : Int32) (x2 : Int32) (r : Int32) (hf : fn_X2_code c_t_codes x1 x2 = some r) : ci_ l G yX2_code cX2_code 3 (some .int) 0 0 (wl_X2_code G A_t A_t_codes c_t_codes) [.ref A_t, .int x1, .int x2] r (wl_X2_code G A_t A_t_codes c_t_codes) := fun sz => met_intro (by decide) (Nat.le_of_ble_eq_true rfl) (fun p e s m args below meth c ls hsz hC hr hlk hnm hl hw => wn_X2_code hC (fun pc H locs ls hd hw => g_iret hC hr hlk hw rfl rfl hd) hf hl hw)

theorem dX2_costs_0 : decode cX2_costs 0 = .ok (.aload_n 0, 1) := by decide +kernel
theorem dX2_costs_1 : decode cX2_costs 1 = .ok (.iload_n 1, 1) := by decide +kernel
theorem dX2_costs_2 : decode cX2_costs 2 = .ok (.iload_n 2, 1) := by decide +kernel
theorem dX2_costs_3 : decode cX2_costs 3 = .ok (.invokevirtual 15, 3) := by decide +kernel
theorem dX2_costs_6 : decode cX2_costs 6 = .ok (.istore 4, 2) := by decide +kernel
theorem dX2_costs_8 : decode cX2_costs 8 = .ok (.iload 4, 2) := by decide +kernel
theorem dX2_costs_10 : decode cX2_costs 10 = .ok (.iconst 2, 1) := by decide +kernel
theorem dX2_costs_11 : decode cX2_costs 11 = .ok (.idiv, 1) := by decide +kernel
theorem dX2_costs_12 : decode cX2_costs 12 = .ok (.istore 5, 2) := by decide +kernel
theorem dX2_costs_14 : decode cX2_costs 14 = .ok (.iload 4, 2) := by decide +kernel
theorem dX2_costs_16 : decode cX2_costs 16 = .ok (.iconst 2, 1) := by decide +kernel
theorem dX2_costs_17 : decode cX2_costs 17 = .ok (.irem, 1) := by decide +kernel
theorem dX2_costs_18 : decode cX2_costs 18 = .ok (.iconst 1, 1) := by decide +kernel
theorem dX2_costs_19 : decode cX2_costs 19 = .ok (.if_icmp .ne 9, 3) := by decide +kernel
theorem dX2_costs_22 : decode cX2_costs 22 = .ok (.iload 5, 2) := by decide +kernel
theorem dX2_costs_24 : decode cX2_costs 24 = .ok (.iconst 2, 1) := by decide +kernel
theorem dX2_costs_25 : decode cX2_costs 25 = .ok (.imul, 1) := by decide +kernel
theorem dX2_costs_26 : decode cX2_costs 26 = .ok (.istore 5, 2) := by decide +kernel
theorem dX2_costs_28 : decode cX2_costs 28 = .ok (.iload_n 3, 1) := by decide +kernel
theorem dX2_costs_29 : decode cX2_costs 29 = .ok (.ifCond .eq 10, 3) := by decide +kernel
theorem dX2_costs_32 : decode cX2_costs 32 = .ok (.iconst 2, 1) := by decide +kernel
theorem dX2_costs_33 : decode cX2_costs 33 = .ok (.iload 5, 2) := by decide +kernel
theorem dX2_costs_35 : decode cX2_costs 35 = .ok (.imul, 1) := by decide +kernel
theorem dX2_costs_36 : decode cX2_costs 36 = .ok (.goto 5, 3) := by decide +kernel
theorem dX2_costs_39 : decode cX2_costs 39 = .ok (.iload 5, 2) := by decide +kernel
theorem dX2_costs_41 : decode cX2_costs 41 = .ok (.ireturn, 1) := by decide +kernel
abbrev wl_X2_costs (G : gw_) (A_t : Nat) (A_t_codes : Nat) (c_t_codes : Nat → Int32) : va_W := [ob_ A_t 2 [.ref A_t_codes], ia_ G A_t_codes 144 c_t_codes]
def fn_X2_costs_j28 (x3 : Int32) (x5 : Int32)  : Option (Int32) :=
  if x3 = 0 then
    some x5
  else
    some (2 * x5)
def fn_X2_costs (c_t_codes : Nat → Int32) (x1 : Int32) (x2 : Int32) (x3 : Int32) : Option (Int32) :=
  b1_ (fn_X2_code c_t_codes x1 x2) fun r1 =>
  if (r1 - r1 / 2 * 2) = 1 then
    fn_X2_costs_j28 x3 ((r1 / 2) * 2)
  else
    fn_X2_costs_j28 x3 (r1 / 2)
set_option maxHeartbeats 4000000 in
set_option maxRecDepth 100000 in
theorem wn_X2_costs_j28 {p : Program} {l : Launch} {e : Env} {s : State} {m : MethodId} {args : Array Value} {below : List Frame} {meth : Method} {c : Code} {G : gw_} {A : Nat → Prop} {Q : State → Prop} {A_t : Nat} {A_t_codes : Nat} {c_t_codes : Nat → Int32} {r : Int32} {x3 : Int32} {x5 : Int32} (hC : cx_ p s m c G cX2_costs 6 RX2) (hret : ∀ (pc : Nat) (H : Heap) (locs : List Loc) (ls : Array Slot), decode cX2_costs pc = .ok (.ireturn, 1) → wd_ G A s.heap (wl_X2_costs G A_t A_t_codes c_t_codes) H locs → W p l e { frames := 1, cells := 0, slots := 0, locals := 22 } s m args below meth c H locs 0 0 Q (F0 m pc ls [.int r]))  (hf : fn_X2_costs_j28 x3 x5 = some r) {H : Heap} {locs : List Loc} {ls : Array Slot} (hl : lv_has ls 6 [(3, .int x3), (5, .int x5)]) (hw : wd_ G A s.heap (wl_X2_costs G A_t A_t_codes c_t_codes) H locs) : W p l e { frames := 1, cells := 0, slots := 0, locals := 22 } s m args below meth c H locs 0 0 Q (F0 m 28 ls []) := by
  have hx := hC.1
  have hb := hC.2.1
  unfold fn_X2_costs_j28 at hf
  refine lv_iload_n hx hb dX2_costs_28 rfl (lv_at hl 0 rfl) ?_
  refine lv_if_eq (tgt := 39) hx hb dX2_costs_29 (by decide) (fun hc => ?_) (fun hc => ?_)
  · replace hf := it_t hc hf
    refine lv_iload hx hb dX2_costs_39 (lv_at hl 1 rfl) ?_
    have h1_ := t1_ hf
    subst h1_
    exact hret _ _ _ _ dX2_costs_41 hw
  · replace hf := it_f hc hf
    refine lv_iconst (v := 2) hx hb dX2_costs_32 (by decide) ?_
    refine lv_iload hx hb dX2_costs_33 (lv_at hl 1 rfl) ?_
    refine lv_imul hx hb dX2_costs_35 ?_
    refine lv_goto (tgt := 41) hx hb dX2_costs_36 (by decide) ?_
    have h1_ := t1_ hf
    subst h1_
    exact hret _ _ _ _ dX2_costs_41 hw
set_option maxHeartbeats 4000000 in
set_option maxRecDepth 100000 in
theorem wn_X2_costs {p : Program} {l : Launch} {e : Env} {s : State} {m : MethodId} {args : Array Value} {below : List Frame} {meth : Method} {c : Code} {G : gw_} {A : Nat → Prop} {Q : State → Prop} {A_t : Nat} {A_t_codes : Nat} {c_t_codes : Nat → Int32} {r : Int32} {x1 : Int32} {x2 : Int32} {x3 : Int32} (hC : cx_ p s m c G cX2_costs 6 RX2) (hret : ∀ (pc : Nat) (H : Heap) (locs : List Loc) (ls : Array Slot), decode cX2_costs pc = .ok (.ireturn, 1) → wd_ G A s.heap (wl_X2_costs G A_t A_t_codes c_t_codes) H locs → W p l e { frames := 1, cells := 0, slots := 0, locals := 22 } s m args below meth c H locs 0 0 Q (F0 m pc ls [.int r])) (hf : fn_X2_costs c_t_codes x1 x2 x3 = some r) {H : Heap} {locs : List Loc} {ls : Array Slot} (hl : lv_has ls 6 [(0, .ref A_t), (1, .int x1), (2, .int x2), (3, .int x3)]) (hw : wd_ G A s.heap (wl_X2_costs G A_t A_t_codes c_t_codes) H locs) : W p l e { frames := 1, cells := 0, slots := 0, locals := 22 } s m args below meth c H locs 0 0 Q (F0 m 0 ls []) := by
  have hx := hC.1
  have hb := hC.2.1
  unfold fn_X2_costs at hf
  refine lv_aload_n hx hb dX2_costs_0 rfl (lv_at hl 0 rfl) ?_
  refine lv_iload_n hx hb dX2_costs_1 rfl (lv_at hl 1 rfl) ?_
  refine lv_iload_n hx hb dX2_costs_2 rfl (lv_at hl 2 rfl) ?_
  obtain ⟨r1, hq2, hf⟩ := b1_s hf
  refine h_cVi hC hw mvX2_15 (cn_X2_code l G A_t A_t_codes c_t_codes x1 x2 r1 hq2) [0, 1] rfl (by decide) 0 rfl rfl rfl hl.1 rfl (Nat.le_of_ble_eq_true rfl) ⟨Nat.le_of_ble_eq_true rfl, Nat.le_of_ble_eq_true rfl⟩ ⟨Nat.le_refl _, Nat.le_refl _⟩ dX2_costs_3 (fun H locs hw => ?_)
  refine lv_istore (lv' := [(4, .int r1), (0, .ref A_t), (1, .int x1), (2, .int x2), (3, .int x3)]) hx hb dX2_costs_6 hl (by decide) rfl (fun ls hl => ?_)
  refine lv_iload hx hb dX2_costs_8 (lv_at hl 0 rfl) ?_
  refine lv_iconst (v := 2) hx hb dX2_costs_10 (by decide) ?_
  refine lv_idiv hx hb dX2_costs_11 (by decide) ?_
  refine lv_istore (lv' := [(5, .int (r1 / 2)), (4, .int r1), (0, .ref A_t), (1, .int x1), (2, .int x2), (3, .int x3)]) hx hb dX2_costs_12 hl (by decide) rfl (fun ls hl => ?_)
  refine lv_iload hx hb dX2_costs_14 (lv_at hl 1 rfl) ?_
  refine lv_iconst (v := 2) hx hb dX2_costs_16 (by decide) ?_
  refine lv_irem hx hb dX2_costs_17 (by decide) ?_
  refine lv_iconst (v := 1) hx hb dX2_costs_18 (by decide) ?_
  refine lv_icmp_ne (tgt := 28) hx hb dX2_costs_19 (by decide) (fun hc => ?_) (fun hc => ?_)
  · replace hf := it_f hc hf
    exact wn_X2_costs_j28 hC hret hf (lv_sub hl [5, 0] rfl) hw
  · replace hf := it_t hc hf
    refine lv_iload hx hb dX2_costs_22 (lv_at hl 0 rfl) ?_
    refine lv_iconst (v := 2) hx hb dX2_costs_24 (by decide) ?_
    refine lv_imul hx hb dX2_costs_25 ?_
    refine lv_istore (lv' := [(5, .int ((r1 / 2) * 2)), (4, .int r1), (0, .ref A_t), (1, .int x1), (2, .int x2), (3, .int x3)]) hx hb dX2_costs_26 hl (by decide) rfl (fun ls hl => ?_)
    exact wn_X2_costs_j28 hC hret hf (lv_sub hl [5, 0] rfl) hw
set_option maxHeartbeats 4000000 in
set_option maxRecDepth 100000 in
theorem cn_X2_costs (l : Launch) (G : gw_) (A_t : Nat) (A_t_codes : Nat) (c_t_codes : Nat → Int32) (x1 : Int32) (x2 : Int32) (x3 : Int32) (r : Int32) (hf : fn_X2_costs c_t_codes x1 x2 x3 = some r) : ci_ l G yX2_costs cX2_costs 6 (some .int) 1 22 (wl_X2_costs G A_t A_t_codes c_t_codes) [.ref A_t, .int x1, .int x2, .int x3] r (wl_X2_costs G A_t A_t_codes c_t_codes) := fun sz => met_intro (by decide) (Nat.le_of_ble_eq_true rfl) (fun p e s m args below meth c ls hsz hC hr hlk hnm hl hw => wn_X2_costs hC (fun pc H locs ls hd hw => g_iret hC hr hlk hw rfl rfl hd) hf hl hw)

theorem dX0_whyNotWalk_0 : decode cX0_whyNotWalk 0 = .ok (.aload_n 0, 1) := by decide +kernel
theorem dX0_whyNotWalk_1 : decode cX0_whyNotWalk 1 = .ok (.iload_n 2, 1) := by decide +kernel
theorem dX0_whyNotWalk_2 : decode cX0_whyNotWalk 2 = .ok (.invokevirtual 68, 3) := by decide +kernel
theorem dX0_whyNotWalk_5 : decode cX0_whyNotWalk 5 = .ok (.ifCond .ne 5, 3) := by decide +kernel
theorem dX0_whyNotWalk_8 : decode cX0_whyNotWalk 8 = .ok (.iconst 1, 1) := by decide +kernel
theorem dX0_whyNotWalk_9 : decode cX0_whyNotWalk 9 = .ok (.ireturn, 1) := by decide +kernel
theorem dX0_whyNotWalk_10 : decode cX0_whyNotWalk 10 = .ok (.aload_n 0, 1) := by decide +kernel
theorem dX0_whyNotWalk_11 : decode cX0_whyNotWalk 11 = .ok (.getfield 32, 3) := by decide +kernel
theorem dX0_whyNotWalk_14 : decode cX0_whyNotWalk 14 = .ok (.iload_n 2, 1) := by decide +kernel
theorem dX0_whyNotWalk_15 : decode cX0_whyNotWalk 15 = .ok (.iaload, 1) := by decide +kernel
theorem dX0_whyNotWalk_16 : decode cX0_whyNotWalk 16 = .ok (.bipush (-6), 2) := by decide +kernel
theorem dX0_whyNotWalk_18 : decode cX0_whyNotWalk 18 = .ok (.if_icmp .eq 5, 3) := by decide +kernel
theorem dX0_whyNotWalk_21 : decode cX0_whyNotWalk 21 = .ok (.iconst 3, 1) := by decide +kernel
theorem dX0_whyNotWalk_22 : decode cX0_whyNotWalk 22 = .ok (.ireturn, 1) := by decide +kernel
theorem dX0_whyNotWalk_23 : decode cX0_whyNotWalk 23 = .ok (.aload_n 1, 1) := by decide +kernel
theorem dX0_whyNotWalk_24 : decode cX0_whyNotWalk 24 = .ok (.aload_n 0, 1) := by decide +kernel
theorem dX0_whyNotWalk_25 : decode cX0_whyNotWalk 25 = .ok (.getfield 19, 3) := by decide +kernel
theorem dX0_whyNotWalk_28 : decode cX0_whyNotWalk 28 = .ok (.iload_n 2, 1) := by decide +kernel
theorem dX0_whyNotWalk_29 : decode cX0_whyNotWalk 29 = .ok (.iaload, 1) := by decide +kernel
theorem dX0_whyNotWalk_30 : decode cX0_whyNotWalk 30 = .ok (.iload_n 3, 1) := by decide +kernel
theorem dX0_whyNotWalk_31 : decode cX0_whyNotWalk 31 = .ok (.aload_n 0, 1) := by decide +kernel
theorem dX0_whyNotWalk_32 : decode cX0_whyNotWalk 32 = .ok (.getfield 15, 3) := by decide +kernel
theorem dX0_whyNotWalk_35 : decode cX0_whyNotWalk 35 = .ok (.invokevirtual 72, 3) := by decide +kernel
theorem dX0_whyNotWalk_38 : decode cX0_whyNotWalk 38 = .ok (.istore 4, 2) := by decide +kernel
theorem dX0_whyNotWalk_40 : decode cX0_whyNotWalk 40 = .ok (.iload 4, 2) := by decide +kernel
theorem dX0_whyNotWalk_42 : decode cX0_whyNotWalk 42 = .ok (.ifCond .ne 5, 3) := by decide +kernel
theorem dX0_whyNotWalk_45 : decode cX0_whyNotWalk 45 = .ok (.iconst 5, 1) := by decide +kernel
theorem dX0_whyNotWalk_46 : decode cX0_whyNotWalk 46 = .ok (.ireturn, 1) := by decide +kernel
theorem dX0_whyNotWalk_47 : decode cX0_whyNotWalk 47 = .ok (.aload_n 0, 1) := by decide +kernel
theorem dX0_whyNotWalk_48 : decode cX0_whyNotWalk 48 = .ok (.getfield 26, 3) := by decide +kernel
theorem dX0_whyNotWalk_51 : decode cX0_whyNotWalk 51 = .ok (.iload_n 2, 1) := by decide +kernel
theorem dX0_whyNotWalk_52 : decode cX0_whyNotWalk 52 = .ok (.iaload, 1) := by decide +kernel
theorem dX0_whyNotWalk_53 : decode cX0_whyNotWalk 53 = .ok (.iload 4, 2) := by decide +kernel
theorem dX0_whyNotWalk_55 : decode cX0_whyNotWalk 55 = .ok (.if_icmp .ge 8, 3) := by decide +kernel
theorem dX0_whyNotWalk_58 : decode cX0_whyNotWalk 58 = .ok (.bipush 6, 2) := by decide +kernel
theorem dX0_whyNotWalk_60 : decode cX0_whyNotWalk 60 = .ok (.goto 4, 3) := by decide +kernel
theorem dX0_whyNotWalk_63 : decode cX0_whyNotWalk 63 = .ok (.iconst 0, 1) := by decide +kernel
theorem dX0_whyNotWalk_64 : decode cX0_whyNotWalk 64 = .ok (.ireturn, 1) := by decide +kernel
abbrev wl_X0_whyNotWalk (G : gw_) (A_t : Nat) (A_t_at : Nat) (A_t_home : Nat) (A_t_light : Nat) (A_t_carries : Nat) (A_t_bearer : Nat) (A_q1 : Nat) (A_q1_codes : Nat) (c_t_there : Int32) (c_t_foggy : Int32) (c_t_at : Nat → Int32) (c_t_light : Nat → Int32) (c_t_bearer : Nat → Int32) (c_q1_codes : Nat → Int32) : va_W := [ob_ A_t 0 [.int c_t_there, .int c_t_foggy, .ref A_t_at, .ref A_t_home, .ref A_t_light, .ref A_t_carries, .ref A_t_bearer], ia_ G A_t_at 6 c_t_at, ia_ G A_t_light 6 c_t_light, ia_ G A_t_bearer 6 c_t_bearer, ob_ A_q1 2 [.ref A_q1_codes], ia_ G A_q1_codes 144 c_q1_codes]
def fn_X0_whyNotWalk (c_t_there : Int32) (c_t_foggy : Int32) (c_t_at : Nat → Int32) (c_t_light : Nat → Int32) (c_t_bearer : Nat → Int32) (c_q1_codes : Nat → Int32) (x2 : Int32) (x3 : Int32) : Option (Int32) :=
  b1_ (fn_X0_has c_t_there x2) fun r1 =>
  if r1 = 0 then
    some 1
  else
    ck_ x2 6 <|
    if (c_t_bearer (Int32.toNatClampNeg x2)) = (-6) then
      ck_ x2 6 <|
      b1_ (fn_X2_costs c_q1_codes (c_t_at (Int32.toNatClampNeg x2)) x3 c_t_foggy) fun r3 =>
      if r3 = 0 then
        some 5
      else
        ck_ x2 6 <|
        if r3 ≤ (c_t_light (Int32.toNatClampNeg x2)) then
          some 0
        else
          some 6
    else
      some 3
set_option maxHeartbeats 4000000 in
set_option maxRecDepth 100000 in
theorem wn_X0_whyNotWalk {p : Program} {l : Launch} {e : Env} {s : State} {m : MethodId} {args : Array Value} {below : List Frame} {meth : Method} {c : Code} {G : gw_} {A : Nat → Prop} {Q : State → Prop} {A_t : Nat} {A_t_at : Nat} {A_t_home : Nat} {A_t_light : Nat} {A_t_carries : Nat} {A_t_bearer : Nat} {A_q1 : Nat} {A_q1_codes : Nat} {c_t_there : Int32} {c_t_foggy : Int32} {c_t_at : Nat → Int32} {c_t_light : Nat → Int32} {c_t_bearer : Nat → Int32} {c_q1_codes : Nat → Int32} {r : Int32} {x2 : Int32} {x3 : Int32} (hC : cx_ p s m c G cX0_whyNotWalk 5 RX0) (hret : ∀ (pc : Nat) (H : Heap) (locs : List Loc) (ls : Array Slot), decode cX0_whyNotWalk pc = .ok (.ireturn, 1) → wd_ G A s.heap (wl_X0_whyNotWalk G A_t A_t_at A_t_home A_t_light A_t_carries A_t_bearer A_q1 A_q1_codes c_t_there c_t_foggy c_t_at c_t_light c_t_bearer c_q1_codes) H locs → W p l e { frames := 2, cells := 0, slots := 0, locals := 47 } s m args below meth c H locs 0 0 Q (F0 m pc ls [.int r])) (hf : fn_X0_whyNotWalk c_t_there c_t_foggy c_t_at c_t_light c_t_bearer c_q1_codes x2 x3 = some r) {H : Heap} {locs : List Loc} {ls : Array Slot} (hl : lv_has ls 5 [(0, .ref A_t), (1, .ref A_q1), (2, .int x2), (3, .int x3)]) (hw : wd_ G A s.heap (wl_X0_whyNotWalk G A_t A_t_at A_t_home A_t_light A_t_carries A_t_bearer A_q1 A_q1_codes c_t_there c_t_foggy c_t_at c_t_light c_t_bearer c_q1_codes) H locs) : W p l e { frames := 2, cells := 0, slots := 0, locals := 47 } s m args below meth c H locs 0 0 Q (F0 m 0 ls []) := by
  have hx := hC.1
  have hb := hC.2.1
  unfold fn_X0_whyNotWalk at hf
  refine lv_aload_n hx hb dX0_whyNotWalk_0 rfl (lv_at hl 0 rfl) ?_
  refine lv_iload_n hx hb dX0_whyNotWalk_1 rfl (lv_at hl 2 rfl) ?_
  obtain ⟨r1, hq2, hf⟩ := b1_s hf
  refine h_cVi hC hw mvX0_68 (cn_X0_has l G A_t A_t_at A_t_home A_t_light A_t_carries A_t_bearer c_t_there c_t_foggy x2 r1 hq2) [0] rfl (by decide) 0 rfl rfl rfl hl.1 rfl (Nat.le_of_ble_eq_true rfl) ⟨Nat.le_of_ble_eq_true rfl, Nat.le_of_ble_eq_true rfl⟩ ⟨Nat.le_refl _, Nat.le_refl _⟩ dX0_whyNotWalk_2 (fun H locs hw => ?_)
  refine lv_if_ne (tgt := 10) hx hb dX0_whyNotWalk_5 (by decide) (fun hc => ?_) (fun hc => ?_)
  · replace hf := it_f hc hf
    refine lv_aload_n hx hb dX0_whyNotWalk_10 rfl (lv_at hl 0 rfl) ?_
    refine g_get hC hw fkX0_32 0 rfl rfl dX0_whyNotWalk_11 ?_
    refine lv_iload_n hx hb dX0_whyNotWalk_14 rfl (lv_at hl 2 rfl) ?_
    obtain ⟨hi, hf⟩ := ck_s hf
    refine g_iald hC hw 3 rfl hi dX0_whyNotWalk_15 ?_
    refine lv_bipush (v := (-6)) hx hb dX0_whyNotWalk_16 (by decide) ?_
    refine lv_icmp_eq (tgt := 23) hx hb dX0_whyNotWalk_18 (by decide) (fun hc => ?_) (fun hc => ?_)
    · replace hf := it_t hc hf
      refine lv_aload_n hx hb dX0_whyNotWalk_23 rfl (lv_at hl 1 rfl) ?_
      refine lv_aload_n hx hb dX0_whyNotWalk_24 rfl (lv_at hl 0 rfl) ?_
      refine g_get hC hw fkX0_19 0 rfl rfl dX0_whyNotWalk_25 ?_
      refine lv_iload_n hx hb dX0_whyNotWalk_28 rfl (lv_at hl 2 rfl) ?_
      obtain ⟨hi, hf⟩ := ck_s hf
      refine g_iald hC hw 1 rfl hi dX0_whyNotWalk_29 ?_
      refine lv_iload_n hx hb dX0_whyNotWalk_30 rfl (lv_at hl 3 rfl) ?_
      refine lv_aload_n hx hb dX0_whyNotWalk_31 rfl (lv_at hl 0 rfl) ?_
      refine g_get hC hw fkX0_15 0 rfl rfl dX0_whyNotWalk_32 ?_
      obtain ⟨r3, hq4, hf⟩ := b1_s hf
      refine h_cVi hC hw mvX0_72 (cn_X2_costs l G A_q1 A_q1_codes c_q1_codes (c_t_at (Int32.toNatClampNeg x2)) x3 c_t_foggy r3 hq4) [4, 5] rfl (by decide) 4 rfl rfl rfl hl.1 rfl (Nat.le_of_ble_eq_true rfl) ⟨Nat.le_of_ble_eq_true rfl, Nat.le_of_ble_eq_true rfl⟩ ⟨Nat.le_refl _, Nat.le_refl _⟩ dX0_whyNotWalk_35 (fun H locs hw => ?_)
      refine lv_istore (lv' := [(4, .int r3), (0, .ref A_t), (1, .ref A_q1), (2, .int x2), (3, .int x3)]) hx hb dX0_whyNotWalk_38 hl (by decide) rfl (fun ls hl => ?_)
      refine lv_iload hx hb dX0_whyNotWalk_40 (lv_at hl 0 rfl) ?_
      refine lv_if_ne (tgt := 47) hx hb dX0_whyNotWalk_42 (by decide) (fun hc => ?_) (fun hc => ?_)
      · replace hf := it_f hc hf
        refine lv_aload_n hx hb dX0_whyNotWalk_47 rfl (lv_at hl 1 rfl) ?_
        refine g_get hC hw fkX0_26 0 rfl rfl dX0_whyNotWalk_48 ?_
        refine lv_iload_n hx hb dX0_whyNotWalk_51 rfl (lv_at hl 3 rfl) ?_
        obtain ⟨hi, hf⟩ := ck_s hf
        refine g_iald hC hw 2 rfl hi dX0_whyNotWalk_52 ?_
        refine lv_iload hx hb dX0_whyNotWalk_53 (lv_at hl 0 rfl) ?_
        refine lv_icmp_ge (tgt := 63) hx hb dX0_whyNotWalk_55 (by decide) (fun hc => ?_) (fun hc => ?_)
        · replace hf := it_t hc hf
          refine lv_iconst (v := 0) hx hb dX0_whyNotWalk_63 (by decide) ?_
          have h1_ := t1_ hf
          subst h1_
          exact hret _ _ _ _ dX0_whyNotWalk_64 hw
        · replace hf := it_f hc hf
          refine lv_bipush (v := 6) hx hb dX0_whyNotWalk_58 (by decide) ?_
          refine lv_goto (tgt := 64) hx hb dX0_whyNotWalk_60 (by decide) ?_
          have h1_ := t1_ hf
          subst h1_
          exact hret _ _ _ _ dX0_whyNotWalk_64 hw
      · replace hf := it_t hc hf
        refine lv_iconst (v := 5) hx hb dX0_whyNotWalk_45 (by decide) ?_
        have h1_ := t1_ hf
        subst h1_
        exact hret _ _ _ _ dX0_whyNotWalk_46 hw
    · replace hf := it_f hc hf
      refine lv_iconst (v := 3) hx hb dX0_whyNotWalk_21 (by decide) ?_
      have h1_ := t1_ hf
      subst h1_
      exact hret _ _ _ _ dX0_whyNotWalk_22 hw
  · replace hf := it_t hc hf
    refine lv_iconst (v := 1) hx hb dX0_whyNotWalk_8 (by decide) ?_
    have h1_ := t1_ hf
    subst h1_
    exact hret _ _ _ _ dX0_whyNotWalk_9 hw
set_option maxHeartbeats 4000000 in
set_option maxRecDepth 100000 in
theorem cn_X0_whyNotWalk (l : Launch) (G : gw_) (A_t : Nat) (A_t_at : Nat) (A_t_home : Nat) (A_t_light : Nat) (A_t_carries : Nat) (A_t_bearer : Nat) (A_q1 : Nat) (A_q1_codes : Nat) (c_t_there : Int32) (c_t_foggy : Int32) (c_t_at : Nat → Int32) (c_t_light : Nat → Int32) (c_t_bearer : Nat → Int32) (c_q1_codes : Nat → Int32) (x2 : Int32) (x3 : Int32) (r : Int32) (hf : fn_X0_whyNotWalk c_t_there c_t_foggy c_t_at c_t_light c_t_bearer c_q1_codes x2 x3 = some r) : ci_ l G yX0_whyNotWalk cX0_whyNotWalk 5 (some .int) 2 47 (wl_X0_whyNotWalk G A_t A_t_at A_t_home A_t_light A_t_carries A_t_bearer A_q1 A_q1_codes c_t_there c_t_foggy c_t_at c_t_light c_t_bearer c_q1_codes) [.ref A_t, .ref A_q1, .int x2, .int x3] r (wl_X0_whyNotWalk G A_t A_t_at A_t_home A_t_light A_t_carries A_t_bearer A_q1 A_q1_codes c_t_there c_t_foggy c_t_at c_t_light c_t_bearer c_q1_codes) := fun sz => met_intro (by decide) (Nat.le_of_ble_eq_true rfl) (fun p e s m args below meth c ls hsz hC hr hlk hnm hl hw => wn_X0_whyNotWalk hC (fun pc H locs ls hd hw => g_iret hC hr hlk hw rfl rfl hd) hf hl hw)

theorem dX0_stepTo_0 : decode cX0_stepTo 0 = .ok (.aload_n 1, 1) := by decide +kernel
theorem dX0_stepTo_1 : decode cX0_stepTo 1 = .ok (.aload_n 0, 1) := by decide +kernel
theorem dX0_stepTo_2 : decode cX0_stepTo 2 = .ok (.getfield 19, 3) := by decide +kernel
theorem dX0_stepTo_5 : decode cX0_stepTo 5 = .ok (.iload_n 2, 1) := by decide +kernel
theorem dX0_stepTo_6 : decode cX0_stepTo 6 = .ok (.iaload, 1) := by decide +kernel
theorem dX0_stepTo_7 : decode cX0_stepTo 7 = .ok (.iload_n 3, 1) := by decide +kernel
theorem dX0_stepTo_8 : decode cX0_stepTo 8 = .ok (.aload_n 0, 1) := by decide +kernel
theorem dX0_stepTo_9 : decode cX0_stepTo 9 = .ok (.getfield 15, 3) := by decide +kernel
theorem dX0_stepTo_12 : decode cX0_stepTo 12 = .ok (.invokevirtual 72, 3) := by decide +kernel
theorem dX0_stepTo_15 : decode cX0_stepTo 15 = .ok (.istore 4, 2) := by decide +kernel
theorem dX0_stepTo_17 : decode cX0_stepTo 17 = .ok (.aload_n 0, 1) := by decide +kernel
theorem dX0_stepTo_18 : decode cX0_stepTo 18 = .ok (.getfield 26, 3) := by decide +kernel
theorem dX0_stepTo_21 : decode cX0_stepTo 21 = .ok (.iload_n 2, 1) := by decide +kernel
theorem dX0_stepTo_22 : decode cX0_stepTo 22 = .ok (.dup2, 1) := by decide +kernel
theorem dX0_stepTo_23 : decode cX0_stepTo 23 = .ok (.iaload, 1) := by decide +kernel
theorem dX0_stepTo_24 : decode cX0_stepTo 24 = .ok (.iload 4, 2) := by decide +kernel
theorem dX0_stepTo_26 : decode cX0_stepTo 26 = .ok (.isub, 1) := by decide +kernel
theorem dX0_stepTo_27 : decode cX0_stepTo 27 = .ok (.iastore, 1) := by decide +kernel
theorem dX0_stepTo_28 : decode cX0_stepTo 28 = .ok (.aload_n 0, 1) := by decide +kernel
theorem dX0_stepTo_29 : decode cX0_stepTo 29 = .ok (.getfield 19, 3) := by decide +kernel
theorem dX0_stepTo_32 : decode cX0_stepTo 32 = .ok (.iload_n 2, 1) := by decide +kernel
theorem dX0_stepTo_33 : decode cX0_stepTo 33 = .ok (.iload_n 3, 1) := by decide +kernel
theorem dX0_stepTo_34 : decode cX0_stepTo 34 = .ok (.iastore, 1) := by decide +kernel
theorem dX0_stepTo_35 : decode cX0_stepTo 35 = .ok (.aload_n 0, 1) := by decide +kernel
theorem dX0_stepTo_36 : decode cX0_stepTo 36 = .ok (.getfield 29, 3) := by decide +kernel
theorem dX0_stepTo_39 : decode cX0_stepTo 39 = .ok (.iload_n 2, 1) := by decide +kernel
theorem dX0_stepTo_40 : decode cX0_stepTo 40 = .ok (.iaload, 1) := by decide +kernel
theorem dX0_stepTo_41 : decode cX0_stepTo 41 = .ok (.bipush (-6), 2) := by decide +kernel
theorem dX0_stepTo_43 : decode cX0_stepTo 43 = .ok (.if_icmp .eq 15, 3) := by decide +kernel
theorem dX0_stepTo_46 : decode cX0_stepTo 46 = .ok (.aload_n 0, 1) := by decide +kernel
theorem dX0_stepTo_47 : decode cX0_stepTo 47 = .ok (.getfield 19, 3) := by decide +kernel
theorem dX0_stepTo_50 : decode cX0_stepTo 50 = .ok (.aload_n 0, 1) := by decide +kernel
theorem dX0_stepTo_51 : decode cX0_stepTo 51 = .ok (.getfield 29, 3) := by decide +kernel
theorem dX0_stepTo_54 : decode cX0_stepTo 54 = .ok (.iload_n 2, 1) := by decide +kernel
theorem dX0_stepTo_55 : decode cX0_stepTo 55 = .ok (.iaload, 1) := by decide +kernel
theorem dX0_stepTo_56 : decode cX0_stepTo 56 = .ok (.iload_n 3, 1) := by decide +kernel
theorem dX0_stepTo_57 : decode cX0_stepTo 57 = .ok (.iastore, 1) := by decide +kernel
theorem dX0_stepTo_58 : decode cX0_stepTo 58 = .ok (.iload 4, 2) := by decide +kernel
theorem dX0_stepTo_60 : decode cX0_stepTo 60 = .ok (.ireturn, 1) := by decide +kernel
abbrev wl_X0_stepTo (G : gw_) (A_t : Nat) (A_t_at : Nat) (A_t_home : Nat) (A_t_light : Nat) (A_t_carries : Nat) (A_t_bearer : Nat) (A_q1 : Nat) (A_q1_codes : Nat) (c_t_there : Int32) (c_t_foggy : Int32) (c_t_at : Nat → Int32) (c_t_light : Nat → Int32) (c_t_carries : Nat → Int32) (c_q1_codes : Nat → Int32) : va_W := [ob_ A_t 0 [.int c_t_there, .int c_t_foggy, .ref A_t_at, .ref A_t_home, .ref A_t_light, .ref A_t_carries, .ref A_t_bearer], ia_ G A_t_at 6 c_t_at, ia_ G A_t_light 6 c_t_light, ia_ G A_t_carries 6 c_t_carries, ob_ A_q1 2 [.ref A_q1_codes], ia_ G A_q1_codes 144 c_q1_codes]
def fn_X0_stepTo (c_t_foggy : Int32) (c_t_at : Nat → Int32) (c_t_light : Nat → Int32) (c_t_carries : Nat → Int32) (c_q1_codes : Nat → Int32) (x2 : Int32) (x3 : Int32) : Option (Int32 × (Nat → Int32) × (Nat → Int32)) :=
  ck_ x2 6 <|
  b1_ (fn_X2_costs c_q1_codes (c_t_at (Int32.toNatClampNeg x2)) x3 c_t_foggy) fun r1 =>
  ck_ x2 6 <|
  ck_ x2 6 <|
  lx_ (upd c_t_light (Int32.toNatClampNeg x2) ((c_t_light (Int32.toNatClampNeg x2)) - r1)) fun f3 =>
  ck_ x2 6 <|
  lx_ (upd c_t_at (Int32.toNatClampNeg x2) x3) fun f4 =>
  ck_ x2 6 <|
  if (c_t_carries (Int32.toNatClampNeg x2)) = (-6) then
    some (r1, f4, f3)
  else
    ck_ x2 6 <|
    ck_ (c_t_carries (Int32.toNatClampNeg x2)) 6 <|
    lx_ (upd f4 (Int32.toNatClampNeg (c_t_carries (Int32.toNatClampNeg x2))) x3) fun f5 =>
    some (r1, f5, f3)
set_option maxHeartbeats 4000000 in
set_option maxRecDepth 100000 in
theorem wn_X0_stepTo {p : Program} {l : Launch} {e : Env} {s : State} {m : MethodId} {args : Array Value} {below : List Frame} {meth : Method} {c : Code} {G : gw_} {A : Nat → Prop} {Q : State → Prop} {A_t : Nat} {A_t_at : Nat} {A_t_home : Nat} {A_t_light : Nat} {A_t_carries : Nat} {A_t_bearer : Nat} {A_q1 : Nat} {A_q1_codes : Nat} {c_t_there : Int32} {c_t_foggy : Int32} {c_t_at : Nat → Int32} {z_t_at : Nat → Int32} {c_t_light : Nat → Int32} {z_t_light : Nat → Int32} {c_t_carries : Nat → Int32} {c_q1_codes : Nat → Int32} {r : Int32} {x2 : Int32} {x3 : Int32} (hC : cx_ p s m c G cX0_stepTo 5 RX0) (hret : ∀ (pc : Nat) (H : Heap) (locs : List Loc) (ls : Array Slot), decode cX0_stepTo pc = .ok (.ireturn, 1) → wd_ G A s.heap (wl_X0_stepTo G A_t A_t_at A_t_home A_t_light A_t_carries A_t_bearer A_q1 A_q1_codes c_t_there c_t_foggy z_t_at z_t_light c_t_carries c_q1_codes) H locs → W p l e { frames := 2, cells := 0, slots := 0, locals := 47 } s m args below meth c H locs 0 0 Q (F0 m pc ls [.int r])) (hf : fn_X0_stepTo c_t_foggy c_t_at c_t_light c_t_carries c_q1_codes x2 x3 = some (r, z_t_at, z_t_light)) {H : Heap} {locs : List Loc} {ls : Array Slot} (hl : lv_has ls 5 [(0, .ref A_t), (1, .ref A_q1), (2, .int x2), (3, .int x3)]) (hw : wd_ G A s.heap (wl_X0_stepTo G A_t A_t_at A_t_home A_t_light A_t_carries A_t_bearer A_q1 A_q1_codes c_t_there c_t_foggy c_t_at c_t_light c_t_carries c_q1_codes) H locs) : W p l e { frames := 2, cells := 0, slots := 0, locals := 47 } s m args below meth c H locs 0 0 Q (F0 m 0 ls []) := by
  have hx := hC.1
  have hb := hC.2.1
  unfold fn_X0_stepTo at hf
  refine lv_aload_n hx hb dX0_stepTo_0 rfl (lv_at hl 1 rfl) ?_
  refine lv_aload_n hx hb dX0_stepTo_1 rfl (lv_at hl 0 rfl) ?_
  refine g_get hC hw fkX0_19 0 rfl rfl dX0_stepTo_2 ?_
  refine lv_iload_n hx hb dX0_stepTo_5 rfl (lv_at hl 2 rfl) ?_
  obtain ⟨hi, hf⟩ := ck_s hf
  refine g_iald hC hw 1 rfl hi dX0_stepTo_6 ?_
  refine lv_iload_n hx hb dX0_stepTo_7 rfl (lv_at hl 3 rfl) ?_
  refine lv_aload_n hx hb dX0_stepTo_8 rfl (lv_at hl 0 rfl) ?_
  refine g_get hC hw fkX0_15 0 rfl rfl dX0_stepTo_9 ?_
  obtain ⟨r1, hq2, hf⟩ := b1_s hf
  refine h_cVi hC hw mvX0_72 (cn_X2_costs l G A_q1 A_q1_codes c_q1_codes (c_t_at (Int32.toNatClampNeg x2)) x3 c_t_foggy r1 hq2) [4, 5] rfl (by decide) 4 rfl rfl rfl hl.1 rfl (Nat.le_of_ble_eq_true rfl) ⟨Nat.le_of_ble_eq_true rfl, Nat.le_of_ble_eq_true rfl⟩ ⟨Nat.le_refl _, Nat.le_refl _⟩ dX0_stepTo_12 (fun H locs hw => ?_)
  refine lv_istore (lv' := [(4, .int r1), (0, .ref A_t), (1, .ref A_q1), (2, .int x2), (3, .int x3)]) hx hb dX0_stepTo_15 hl (by decide) rfl (fun ls hl => ?_)
  refine lv_aload_n hx hb dX0_stepTo_17 rfl (lv_at hl 1 rfl) ?_
  refine g_get hC hw fkX0_26 0 rfl rfl dX0_stepTo_18 ?_
  refine lv_iload_n hx hb dX0_stepTo_21 rfl (lv_at hl 3 rfl) ?_
  refine lv_dup2_11 hx hb dX0_stepTo_22 rfl rfl ?_
  obtain ⟨hi, hf⟩ := ck_s hf
  refine g_iald hC hw 2 rfl hi dX0_stepTo_23 ?_
  refine lv_iload hx hb dX0_stepTo_24 (lv_at hl 0 rfl) ?_
  refine lv_isub hx hb dX0_stepTo_26 ?_
  obtain ⟨hi, hf⟩ := ck_s hf
  obtain ⟨f3, ef3, hf⟩ := lx_s hf
  refine g_iast hC hw 2 rfl hi ef3 dX0_stepTo_27 (fun H locs hw => ?_)
  have hw : wd_ G A s.heap (wl_X0_stepTo G A_t A_t_at A_t_home A_t_light A_t_carries A_t_bearer A_q1 A_q1_codes c_t_there c_t_foggy c_t_at f3 c_t_carries c_q1_codes) H locs := hw
  refine lv_aload_n hx hb dX0_stepTo_28 rfl (lv_at hl 1 rfl) ?_
  refine g_get hC hw fkX0_19 0 rfl rfl dX0_stepTo_29 ?_
  refine lv_iload_n hx hb dX0_stepTo_32 rfl (lv_at hl 3 rfl) ?_
  refine lv_iload_n hx hb dX0_stepTo_33 rfl (lv_at hl 4 rfl) ?_
  obtain ⟨hi, hf⟩ := ck_s hf
  obtain ⟨f4, ef4, hf⟩ := lx_s hf
  refine g_iast hC hw 1 rfl hi ef4 dX0_stepTo_34 (fun H locs hw => ?_)
  have hw : wd_ G A s.heap (wl_X0_stepTo G A_t A_t_at A_t_home A_t_light A_t_carries A_t_bearer A_q1 A_q1_codes c_t_there c_t_foggy f4 f3 c_t_carries c_q1_codes) H locs := hw
  refine lv_aload_n hx hb dX0_stepTo_35 rfl (lv_at hl 1 rfl) ?_
  refine g_get hC hw fkX0_29 0 rfl rfl dX0_stepTo_36 ?_
  refine lv_iload_n hx hb dX0_stepTo_39 rfl (lv_at hl 3 rfl) ?_
  obtain ⟨hi, hf⟩ := ck_s hf
  refine g_iald hC hw 3 rfl hi dX0_stepTo_40 ?_
  refine lv_bipush (v := (-6)) hx hb dX0_stepTo_41 (by decide) ?_
  refine lv_icmp_eq (tgt := 58) hx hb dX0_stepTo_43 (by decide) (fun hc => ?_) (fun hc => ?_)
  · replace hf := it_t hc hf
    refine lv_iload hx hb dX0_stepTo_58 (lv_at hl 0 rfl) ?_
    obtain ⟨h1_, h2_, h3_⟩ := t3_ hf
    subst h1_
    subst h2_
    subst h3_
    exact hret _ _ _ _ dX0_stepTo_60 hw
  · replace hf := it_f hc hf
    refine lv_aload_n hx hb dX0_stepTo_46 rfl (lv_at hl 1 rfl) ?_
    refine g_get hC hw fkX0_19 0 rfl rfl dX0_stepTo_47 ?_
    refine lv_aload_n hx hb dX0_stepTo_50 rfl (lv_at hl 1 rfl) ?_
    refine g_get hC hw fkX0_29 0 rfl rfl dX0_stepTo_51 ?_
    refine lv_iload_n hx hb dX0_stepTo_54 rfl (lv_at hl 3 rfl) ?_
    obtain ⟨hi, hf⟩ := ck_s hf
    refine g_iald hC hw 3 rfl hi dX0_stepTo_55 ?_
    refine lv_iload_n hx hb dX0_stepTo_56 rfl (lv_at hl 4 rfl) ?_
    obtain ⟨hi, hf⟩ := ck_s hf
    obtain ⟨f5, ef5, hf⟩ := lx_s hf
    refine g_iast hC hw 1 rfl hi ef5 dX0_stepTo_57 (fun H locs hw => ?_)
    have hw : wd_ G A s.heap (wl_X0_stepTo G A_t A_t_at A_t_home A_t_light A_t_carries A_t_bearer A_q1 A_q1_codes c_t_there c_t_foggy f5 f3 c_t_carries c_q1_codes) H locs := hw
    refine lv_iload hx hb dX0_stepTo_58 (lv_at hl 0 rfl) ?_
    obtain ⟨h1_, h2_, h3_⟩ := t3_ hf
    subst h1_
    subst h2_
    subst h3_
    exact hret _ _ _ _ dX0_stepTo_60 hw
set_option maxHeartbeats 4000000 in
set_option maxRecDepth 100000 in
theorem cn_X0_stepTo (l : Launch) (G : gw_) (A_t : Nat) (A_t_at : Nat) (A_t_home : Nat) (A_t_light : Nat) (A_t_carries : Nat) (A_t_bearer : Nat) (A_q1 : Nat) (A_q1_codes : Nat) (c_t_there : Int32) (c_t_foggy : Int32) (c_t_at : Nat → Int32) (c_t_light : Nat → Int32) (c_t_carries : Nat → Int32) (c_q1_codes : Nat → Int32) (x2 : Int32) (x3 : Int32) (r : Int32) (z_t_at : Nat → Int32) (z_t_light : Nat → Int32) (hf : fn_X0_stepTo c_t_foggy c_t_at c_t_light c_t_carries c_q1_codes x2 x3 = some (r, z_t_at, z_t_light)) : ci_ l G yX0_stepTo cX0_stepTo 5 (some .int) 2 47 (wl_X0_stepTo G A_t A_t_at A_t_home A_t_light A_t_carries A_t_bearer A_q1 A_q1_codes c_t_there c_t_foggy c_t_at c_t_light c_t_carries c_q1_codes) [.ref A_t, .ref A_q1, .int x2, .int x3] r (wl_X0_stepTo G A_t A_t_at A_t_home A_t_light A_t_carries A_t_bearer A_q1 A_q1_codes c_t_there c_t_foggy z_t_at z_t_light c_t_carries c_q1_codes) := fun sz => met_intro (by decide) (Nat.le_of_ble_eq_true rfl) (fun p e s m args below meth c ls hsz hC hr hlk hnm hl hw => wn_X0_stepTo hC (fun pc H locs ls hd hw => g_iret hC hr hlk hw rfl rfl hd) hf hl hw)

theorem dX0_whyNotMeet_0 : decode cX0_whyNotMeet 0 = .ok (.aload_n 0, 1) := by decide +kernel
theorem dX0_whyNotMeet_1 : decode cX0_whyNotMeet 1 = .ok (.iload_n 1, 1) := by decide +kernel
theorem dX0_whyNotMeet_2 : decode cX0_whyNotMeet 2 = .ok (.invokevirtual 68, 3) := by decide +kernel
theorem dX0_whyNotMeet_5 : decode cX0_whyNotMeet 5 = .ok (.ifCond .eq 11, 3) := by decide +kernel
theorem dX0_whyNotMeet_8 : decode cX0_whyNotMeet 8 = .ok (.aload_n 0, 1) := by decide +kernel
theorem dX0_whyNotMeet_9 : decode cX0_whyNotMeet 9 = .ok (.iload_n 2, 1) := by decide +kernel
theorem dX0_whyNotMeet_10 : decode cX0_whyNotMeet 10 = .ok (.invokevirtual 68, 3) := by decide +kernel
theorem dX0_whyNotMeet_13 : decode cX0_whyNotMeet 13 = .ok (.ifCond .ne 5, 3) := by decide +kernel
theorem dX0_whyNotMeet_16 : decode cX0_whyNotMeet 16 = .ok (.iconst 1, 1) := by decide +kernel
theorem dX0_whyNotMeet_17 : decode cX0_whyNotMeet 17 = .ok (.ireturn, 1) := by decide +kernel
theorem dX0_whyNotMeet_18 : decode cX0_whyNotMeet 18 = .ok (.iload_n 1, 1) := by decide +kernel
theorem dX0_whyNotMeet_19 : decode cX0_whyNotMeet 19 = .ok (.iload_n 2, 1) := by decide +kernel
theorem dX0_whyNotMeet_20 : decode cX0_whyNotMeet 20 = .ok (.if_icmp .ne 5, 3) := by decide +kernel
theorem dX0_whyNotMeet_23 : decode cX0_whyNotMeet 23 = .ok (.iconst 2, 1) := by decide +kernel
theorem dX0_whyNotMeet_24 : decode cX0_whyNotMeet 24 = .ok (.ireturn, 1) := by decide +kernel
theorem dX0_whyNotMeet_25 : decode cX0_whyNotMeet 25 = .ok (.aload_n 0, 1) := by decide +kernel
theorem dX0_whyNotMeet_26 : decode cX0_whyNotMeet 26 = .ok (.getfield 32, 3) := by decide +kernel
theorem dX0_whyNotMeet_29 : decode cX0_whyNotMeet 29 = .ok (.iload_n 1, 1) := by decide +kernel
theorem dX0_whyNotMeet_30 : decode cX0_whyNotMeet 30 = .ok (.iaload, 1) := by decide +kernel
theorem dX0_whyNotMeet_31 : decode cX0_whyNotMeet 31 = .ok (.bipush (-6), 2) := by decide +kernel
theorem dX0_whyNotMeet_33 : decode cX0_whyNotMeet 33 = .ok (.if_icmp .ne 14, 3) := by decide +kernel
theorem dX0_whyNotMeet_36 : decode cX0_whyNotMeet 36 = .ok (.aload_n 0, 1) := by decide +kernel
theorem dX0_whyNotMeet_37 : decode cX0_whyNotMeet 37 = .ok (.getfield 32, 3) := by decide +kernel
theorem dX0_whyNotMeet_40 : decode cX0_whyNotMeet 40 = .ok (.iload_n 2, 1) := by decide +kernel
theorem dX0_whyNotMeet_41 : decode cX0_whyNotMeet 41 = .ok (.iaload, 1) := by decide +kernel
theorem dX0_whyNotMeet_42 : decode cX0_whyNotMeet 42 = .ok (.bipush (-6), 2) := by decide +kernel
theorem dX0_whyNotMeet_44 : decode cX0_whyNotMeet 44 = .ok (.if_icmp .eq 5, 3) := by decide +kernel
theorem dX0_whyNotMeet_47 : decode cX0_whyNotMeet 47 = .ok (.iconst 3, 1) := by decide +kernel
theorem dX0_whyNotMeet_48 : decode cX0_whyNotMeet 48 = .ok (.ireturn, 1) := by decide +kernel
theorem dX0_whyNotMeet_49 : decode cX0_whyNotMeet 49 = .ok (.aload_n 0, 1) := by decide +kernel
theorem dX0_whyNotMeet_50 : decode cX0_whyNotMeet 50 = .ok (.getfield 19, 3) := by decide +kernel
theorem dX0_whyNotMeet_53 : decode cX0_whyNotMeet 53 = .ok (.iload_n 1, 1) := by decide +kernel
theorem dX0_whyNotMeet_54 : decode cX0_whyNotMeet 54 = .ok (.iaload, 1) := by decide +kernel
theorem dX0_whyNotMeet_55 : decode cX0_whyNotMeet 55 = .ok (.aload_n 0, 1) := by decide +kernel
theorem dX0_whyNotMeet_56 : decode cX0_whyNotMeet 56 = .ok (.getfield 19, 3) := by decide +kernel
theorem dX0_whyNotMeet_59 : decode cX0_whyNotMeet 59 = .ok (.iload_n 2, 1) := by decide +kernel
theorem dX0_whyNotMeet_60 : decode cX0_whyNotMeet 60 = .ok (.iaload, 1) := by decide +kernel
theorem dX0_whyNotMeet_61 : decode cX0_whyNotMeet 61 = .ok (.if_icmp .ne 7, 3) := by decide +kernel
theorem dX0_whyNotMeet_64 : decode cX0_whyNotMeet 64 = .ok (.iconst 0, 1) := by decide +kernel
theorem dX0_whyNotMeet_65 : decode cX0_whyNotMeet 65 = .ok (.goto 4, 3) := by decide +kernel
theorem dX0_whyNotMeet_68 : decode cX0_whyNotMeet 68 = .ok (.iconst 4, 1) := by decide +kernel
theorem dX0_whyNotMeet_69 : decode cX0_whyNotMeet 69 = .ok (.ireturn, 1) := by decide +kernel
abbrev wl_X0_whyNotMeet (G : gw_) (A_t : Nat) (A_t_at : Nat) (A_t_home : Nat) (A_t_light : Nat) (A_t_carries : Nat) (A_t_bearer : Nat) (c_t_there : Int32) (c_t_foggy : Int32) (c_t_at : Nat → Int32) (c_t_bearer : Nat → Int32) : va_W := [ob_ A_t 0 [.int c_t_there, .int c_t_foggy, .ref A_t_at, .ref A_t_home, .ref A_t_light, .ref A_t_carries, .ref A_t_bearer], ia_ G A_t_at 6 c_t_at, ia_ G A_t_bearer 6 c_t_bearer]
def fn_X0_whyNotMeet (c_t_there : Int32) (c_t_at : Nat → Int32) (c_t_bearer : Nat → Int32) (x1 : Int32) (x2 : Int32) : Option (Int32) :=
  b1_ (fn_X0_has c_t_there x1) fun r1 =>
  if r1 = 0 then
    some 1
  else
    b1_ (fn_X0_has c_t_there x2) fun r3 =>
    if r3 = 0 then
      some 1
    else
      if x1 = x2 then
        some 2
      else
        ck_ x1 6 <|
        if (c_t_bearer (Int32.toNatClampNeg x1)) = (-6) then
          ck_ x2 6 <|
          if (c_t_bearer (Int32.toNatClampNeg x2)) = (-6) then
            ck_ x1 6 <|
            ck_ x2 6 <|
            if (c_t_at (Int32.toNatClampNeg x1)) = (c_t_at (Int32.toNatClampNeg x2)) then
              some 0
            else
              some 4
          else
            some 3
        else
          some 3
set_option maxHeartbeats 4000000 in
set_option maxRecDepth 100000 in
theorem wn_X0_whyNotMeet {p : Program} {l : Launch} {e : Env} {s : State} {m : MethodId} {args : Array Value} {below : List Frame} {meth : Method} {c : Code} {G : gw_} {A : Nat → Prop} {Q : State → Prop} {A_t : Nat} {A_t_at : Nat} {A_t_home : Nat} {A_t_light : Nat} {A_t_carries : Nat} {A_t_bearer : Nat} {c_t_there : Int32} {c_t_foggy : Int32} {c_t_at : Nat → Int32} {c_t_bearer : Nat → Int32} {r : Int32} {x1 : Int32} {x2 : Int32} (hC : cx_ p s m c G cX0_whyNotMeet 3 RX0) (hret : ∀ (pc : Nat) (H : Heap) (locs : List Loc) (ls : Array Slot), decode cX0_whyNotMeet pc = .ok (.ireturn, 1) → wd_ G A s.heap (wl_X0_whyNotMeet G A_t A_t_at A_t_home A_t_light A_t_carries A_t_bearer c_t_there c_t_foggy c_t_at c_t_bearer) H locs → W p l e { frames := 2, cells := 0, slots := 0, locals := 43 } s m args below meth c H locs 0 0 Q (F0 m pc ls [.int r])) (hf : fn_X0_whyNotMeet c_t_there c_t_at c_t_bearer x1 x2 = some r) {H : Heap} {locs : List Loc} {ls : Array Slot} (hl : lv_has ls 3 [(0, .ref A_t), (1, .int x1), (2, .int x2)]) (hw : wd_ G A s.heap (wl_X0_whyNotMeet G A_t A_t_at A_t_home A_t_light A_t_carries A_t_bearer c_t_there c_t_foggy c_t_at c_t_bearer) H locs) : W p l e { frames := 2, cells := 0, slots := 0, locals := 43 } s m args below meth c H locs 0 0 Q (F0 m 0 ls []) := by
  have hx := hC.1
  have hb := hC.2.1
  unfold fn_X0_whyNotMeet at hf
  refine lv_aload_n hx hb dX0_whyNotMeet_0 rfl (lv_at hl 0 rfl) ?_
  refine lv_iload_n hx hb dX0_whyNotMeet_1 rfl (lv_at hl 1 rfl) ?_
  obtain ⟨r1, hq2, hf⟩ := b1_s hf
  refine h_cVi hC hw mvX0_68 (cn_X0_has l G A_t A_t_at A_t_home A_t_light A_t_carries A_t_bearer c_t_there c_t_foggy x1 r1 hq2) [0] rfl (by decide) 0 rfl rfl rfl hl.1 rfl (Nat.le_of_ble_eq_true rfl) ⟨Nat.le_of_ble_eq_true rfl, Nat.le_of_ble_eq_true rfl⟩ ⟨Nat.le_refl _, Nat.le_refl _⟩ dX0_whyNotMeet_2 (fun H locs hw => ?_)
  refine lv_if_eq (tgt := 16) hx hb dX0_whyNotMeet_5 (by decide) (fun hc => ?_) (fun hc => ?_)
  · replace hf := it_t hc hf
    refine lv_iconst (v := 1) hx hb dX0_whyNotMeet_16 (by decide) ?_
    have h1_ := t1_ hf
    subst h1_
    exact hret _ _ _ _ dX0_whyNotMeet_17 hw
  · replace hf := it_f hc hf
    refine lv_aload_n hx hb dX0_whyNotMeet_8 rfl (lv_at hl 0 rfl) ?_
    refine lv_iload_n hx hb dX0_whyNotMeet_9 rfl (lv_at hl 2 rfl) ?_
    obtain ⟨r3, hq4, hf⟩ := b1_s hf
    refine h_cVi hC hw mvX0_68 (cn_X0_has l G A_t A_t_at A_t_home A_t_light A_t_carries A_t_bearer c_t_there c_t_foggy x2 r3 hq4) [0] rfl (by decide) 0 rfl rfl rfl hl.1 rfl (Nat.le_of_ble_eq_true rfl) ⟨Nat.le_of_ble_eq_true rfl, Nat.le_of_ble_eq_true rfl⟩ ⟨Nat.le_refl _, Nat.le_refl _⟩ dX0_whyNotMeet_10 (fun H locs hw => ?_)
    refine lv_if_ne (tgt := 18) hx hb dX0_whyNotMeet_13 (by decide) (fun hc => ?_) (fun hc => ?_)
    · replace hf := it_f hc hf
      refine lv_iload_n hx hb dX0_whyNotMeet_18 rfl (lv_at hl 1 rfl) ?_
      refine lv_iload_n hx hb dX0_whyNotMeet_19 rfl (lv_at hl 2 rfl) ?_
      refine lv_icmp_ne (tgt := 25) hx hb dX0_whyNotMeet_20 (by decide) (fun hc => ?_) (fun hc => ?_)
      · replace hf := it_f hc hf
        refine lv_aload_n hx hb dX0_whyNotMeet_25 rfl (lv_at hl 0 rfl) ?_
        refine g_get hC hw fkX0_32 0 rfl rfl dX0_whyNotMeet_26 ?_
        refine lv_iload_n hx hb dX0_whyNotMeet_29 rfl (lv_at hl 1 rfl) ?_
        obtain ⟨hi, hf⟩ := ck_s hf
        refine g_iald hC hw 2 rfl hi dX0_whyNotMeet_30 ?_
        refine lv_bipush (v := (-6)) hx hb dX0_whyNotMeet_31 (by decide) ?_
        refine lv_icmp_ne (tgt := 47) hx hb dX0_whyNotMeet_33 (by decide) (fun hc => ?_) (fun hc => ?_)
        · replace hf := it_f hc hf
          refine lv_iconst (v := 3) hx hb dX0_whyNotMeet_47 (by decide) ?_
          have h1_ := t1_ hf
          subst h1_
          exact hret _ _ _ _ dX0_whyNotMeet_48 hw
        · replace hf := it_t hc hf
          refine lv_aload_n hx hb dX0_whyNotMeet_36 rfl (lv_at hl 0 rfl) ?_
          refine g_get hC hw fkX0_32 0 rfl rfl dX0_whyNotMeet_37 ?_
          refine lv_iload_n hx hb dX0_whyNotMeet_40 rfl (lv_at hl 2 rfl) ?_
          obtain ⟨hi, hf⟩ := ck_s hf
          refine g_iald hC hw 2 rfl hi dX0_whyNotMeet_41 ?_
          refine lv_bipush (v := (-6)) hx hb dX0_whyNotMeet_42 (by decide) ?_
          refine lv_icmp_eq (tgt := 49) hx hb dX0_whyNotMeet_44 (by decide) (fun hc => ?_) (fun hc => ?_)
          · replace hf := it_t hc hf
            refine lv_aload_n hx hb dX0_whyNotMeet_49 rfl (lv_at hl 0 rfl) ?_
            refine g_get hC hw fkX0_19 0 rfl rfl dX0_whyNotMeet_50 ?_
            refine lv_iload_n hx hb dX0_whyNotMeet_53 rfl (lv_at hl 1 rfl) ?_
            obtain ⟨hi, hf⟩ := ck_s hf
            refine g_iald hC hw 1 rfl hi dX0_whyNotMeet_54 ?_
            refine lv_aload_n hx hb dX0_whyNotMeet_55 rfl (lv_at hl 0 rfl) ?_
            refine g_get hC hw fkX0_19 0 rfl rfl dX0_whyNotMeet_56 ?_
            refine lv_iload_n hx hb dX0_whyNotMeet_59 rfl (lv_at hl 2 rfl) ?_
            obtain ⟨hi, hf⟩ := ck_s hf
            refine g_iald hC hw 1 rfl hi dX0_whyNotMeet_60 ?_
            refine lv_icmp_ne (tgt := 68) hx hb dX0_whyNotMeet_61 (by decide) (fun hc => ?_) (fun hc => ?_)
            · replace hf := it_f hc hf
              refine lv_iconst (v := 4) hx hb dX0_whyNotMeet_68 (by decide) ?_
              have h1_ := t1_ hf
              subst h1_
              exact hret _ _ _ _ dX0_whyNotMeet_69 hw
            · replace hf := it_t hc hf
              refine lv_iconst (v := 0) hx hb dX0_whyNotMeet_64 (by decide) ?_
              refine lv_goto (tgt := 69) hx hb dX0_whyNotMeet_65 (by decide) ?_
              have h1_ := t1_ hf
              subst h1_
              exact hret _ _ _ _ dX0_whyNotMeet_69 hw
          · replace hf := it_f hc hf
            refine lv_iconst (v := 3) hx hb dX0_whyNotMeet_47 (by decide) ?_
            have h1_ := t1_ hf
            subst h1_
            exact hret _ _ _ _ dX0_whyNotMeet_48 hw
      · replace hf := it_t hc hf
        refine lv_iconst (v := 2) hx hb dX0_whyNotMeet_23 (by decide) ?_
        have h1_ := t1_ hf
        subst h1_
        exact hret _ _ _ _ dX0_whyNotMeet_24 hw
    · replace hf := it_t hc hf
      refine lv_iconst (v := 1) hx hb dX0_whyNotMeet_16 (by decide) ?_
      have h1_ := t1_ hf
      subst h1_
      exact hret _ _ _ _ dX0_whyNotMeet_17 hw
set_option maxHeartbeats 4000000 in
set_option maxRecDepth 100000 in
theorem cn_X0_whyNotMeet (l : Launch) (G : gw_) (A_t : Nat) (A_t_at : Nat) (A_t_home : Nat) (A_t_light : Nat) (A_t_carries : Nat) (A_t_bearer : Nat) (c_t_there : Int32) (c_t_foggy : Int32) (c_t_at : Nat → Int32) (c_t_bearer : Nat → Int32) (x1 : Int32) (x2 : Int32) (r : Int32) (hf : fn_X0_whyNotMeet c_t_there c_t_at c_t_bearer x1 x2 = some r) : ci_ l G yX0_whyNotMeet cX0_whyNotMeet 3 (some .int) 2 43 (wl_X0_whyNotMeet G A_t A_t_at A_t_home A_t_light A_t_carries A_t_bearer c_t_there c_t_foggy c_t_at c_t_bearer) [.ref A_t, .int x1, .int x2] r (wl_X0_whyNotMeet G A_t A_t_at A_t_home A_t_light A_t_carries A_t_bearer c_t_there c_t_foggy c_t_at c_t_bearer) := fun sz => met_intro (by decide) (Nat.le_of_ble_eq_true rfl) (fun p e s m args below meth c ls hsz hC hr hlk hnm hl hw => wn_X0_whyNotMeet hC (fun pc H locs ls hd hw => g_iret hC hr hlk hw rfl rfl hd) hf hl hw)

theorem dX0_takeUp_0 : decode cX0_takeUp 0 = .ok (.aload_n 0, 1) := by decide +kernel
theorem dX0_takeUp_1 : decode cX0_takeUp 1 = .ok (.iload_n 1, 1) := by decide +kernel
theorem dX0_takeUp_2 : decode cX0_takeUp 2 = .ok (.iload_n 2, 1) := by decide +kernel
theorem dX0_takeUp_3 : decode cX0_takeUp 3 = .ok (.invokevirtual 78, 3) := by decide +kernel
theorem dX0_takeUp_6 : decode cX0_takeUp 6 = .ok (.istore_n 3, 1) := by decide +kernel
theorem dX0_takeUp_7 : decode cX0_takeUp 7 = .ok (.iload_n 3, 1) := by decide +kernel
theorem dX0_takeUp_8 : decode cX0_takeUp 8 = .ok (.ifCond .eq 5, 3) := by decide +kernel
theorem dX0_takeUp_11 : decode cX0_takeUp 11 = .ok (.iload_n 3, 1) := by decide +kernel
theorem dX0_takeUp_12 : decode cX0_takeUp 12 = .ok (.ireturn, 1) := by decide +kernel
theorem dX0_takeUp_13 : decode cX0_takeUp 13 = .ok (.aload_n 0, 1) := by decide +kernel
theorem dX0_takeUp_14 : decode cX0_takeUp 14 = .ok (.getfield 29, 3) := by decide +kernel
theorem dX0_takeUp_17 : decode cX0_takeUp 17 = .ok (.iload_n 1, 1) := by decide +kernel
theorem dX0_takeUp_18 : decode cX0_takeUp 18 = .ok (.iaload, 1) := by decide +kernel
theorem dX0_takeUp_19 : decode cX0_takeUp 19 = .ok (.bipush (-6), 2) := by decide +kernel
theorem dX0_takeUp_21 : decode cX0_takeUp 21 = .ok (.if_icmp .ne 14, 3) := by decide +kernel
theorem dX0_takeUp_24 : decode cX0_takeUp 24 = .ok (.aload_n 0, 1) := by decide +kernel
theorem dX0_takeUp_25 : decode cX0_takeUp 25 = .ok (.getfield 29, 3) := by decide +kernel
theorem dX0_takeUp_28 : decode cX0_takeUp 28 = .ok (.iload_n 2, 1) := by decide +kernel
theorem dX0_takeUp_29 : decode cX0_takeUp 29 = .ok (.iaload, 1) := by decide +kernel
theorem dX0_takeUp_30 : decode cX0_takeUp 30 = .ok (.bipush (-6), 2) := by decide +kernel
theorem dX0_takeUp_32 : decode cX0_takeUp 32 = .ok (.if_icmp .eq 6, 3) := by decide +kernel
theorem dX0_takeUp_35 : decode cX0_takeUp 35 = .ok (.bipush 7, 2) := by decide +kernel
theorem dX0_takeUp_37 : decode cX0_takeUp 37 = .ok (.ireturn, 1) := by decide +kernel
theorem dX0_takeUp_38 : decode cX0_takeUp 38 = .ok (.aload_n 0, 1) := by decide +kernel
theorem dX0_takeUp_39 : decode cX0_takeUp 39 = .ok (.getfield 29, 3) := by decide +kernel
theorem dX0_takeUp_42 : decode cX0_takeUp 42 = .ok (.iload_n 1, 1) := by decide +kernel
theorem dX0_takeUp_43 : decode cX0_takeUp 43 = .ok (.iload_n 2, 1) := by decide +kernel
theorem dX0_takeUp_44 : decode cX0_takeUp 44 = .ok (.iastore, 1) := by decide +kernel
theorem dX0_takeUp_45 : decode cX0_takeUp 45 = .ok (.aload_n 0, 1) := by decide +kernel
theorem dX0_takeUp_46 : decode cX0_takeUp 46 = .ok (.getfield 32, 3) := by decide +kernel
theorem dX0_takeUp_49 : decode cX0_takeUp 49 = .ok (.iload_n 2, 1) := by decide +kernel
theorem dX0_takeUp_50 : decode cX0_takeUp 50 = .ok (.iload_n 1, 1) := by decide +kernel
theorem dX0_takeUp_51 : decode cX0_takeUp 51 = .ok (.iastore, 1) := by decide +kernel
theorem dX0_takeUp_52 : decode cX0_takeUp 52 = .ok (.iconst 0, 1) := by decide +kernel
theorem dX0_takeUp_53 : decode cX0_takeUp 53 = .ok (.ireturn, 1) := by decide +kernel
abbrev wl_X0_takeUp (G : gw_) (A_t : Nat) (A_t_at : Nat) (A_t_home : Nat) (A_t_light : Nat) (A_t_carries : Nat) (A_t_bearer : Nat) (c_t_there : Int32) (c_t_foggy : Int32) (c_t_at : Nat → Int32) (c_t_carries : Nat → Int32) (c_t_bearer : Nat → Int32) : va_W := [ob_ A_t 0 [.int c_t_there, .int c_t_foggy, .ref A_t_at, .ref A_t_home, .ref A_t_light, .ref A_t_carries, .ref A_t_bearer], ia_ G A_t_at 6 c_t_at, ia_ G A_t_carries 6 c_t_carries, ia_ G A_t_bearer 6 c_t_bearer]
def fn_X0_takeUp (c_t_there : Int32) (c_t_at : Nat → Int32) (c_t_carries : Nat → Int32) (c_t_bearer : Nat → Int32) (x1 : Int32) (x2 : Int32) : Option (Int32 × (Nat → Int32) × (Nat → Int32)) :=
  b1_ (fn_X0_whyNotMeet c_t_there c_t_at c_t_bearer x1 x2) fun r1 =>
  if r1 = 0 then
    ck_ x1 6 <|
    if (c_t_carries (Int32.toNatClampNeg x1)) = (-6) then
      ck_ x2 6 <|
      if (c_t_carries (Int32.toNatClampNeg x2)) = (-6) then
        ck_ x1 6 <|
        lx_ (upd c_t_carries (Int32.toNatClampNeg x1) x2) fun f3 =>
        ck_ x2 6 <|
        lx_ (upd c_t_bearer (Int32.toNatClampNeg x2) x1) fun f4 =>
        some (0, f3, f4)
      else
        some (7, c_t_carries, c_t_bearer)
    else
      some (7, c_t_carries, c_t_bearer)
  else
    some (r1, c_t_carries, c_t_bearer)
set_option maxHeartbeats 4000000 in
set_option maxRecDepth 100000 in
theorem wn_X0_takeUp {p : Program} {l : Launch} {e : Env} {s : State} {m : MethodId} {args : Array Value} {below : List Frame} {meth : Method} {c : Code} {G : gw_} {A : Nat → Prop} {Q : State → Prop} {A_t : Nat} {A_t_at : Nat} {A_t_home : Nat} {A_t_light : Nat} {A_t_carries : Nat} {A_t_bearer : Nat} {c_t_there : Int32} {c_t_foggy : Int32} {c_t_at : Nat → Int32} {c_t_carries : Nat → Int32} {z_t_carries : Nat → Int32} {c_t_bearer : Nat → Int32} {z_t_bearer : Nat → Int32} {r : Int32} {x1 : Int32} {x2 : Int32} (hC : cx_ p s m c G cX0_takeUp 4 RX0) (hret : ∀ (pc : Nat) (H : Heap) (locs : List Loc) (ls : Array Slot), decode cX0_takeUp pc = .ok (.ireturn, 1) → wd_ G A s.heap (wl_X0_takeUp G A_t A_t_at A_t_home A_t_light A_t_carries A_t_bearer c_t_there c_t_foggy c_t_at z_t_carries z_t_bearer) H locs → W p l e { frames := 3, cells := 0, slots := 0, locals := 65 } s m args below meth c H locs 0 0 Q (F0 m pc ls [.int r])) (hf : fn_X0_takeUp c_t_there c_t_at c_t_carries c_t_bearer x1 x2 = some (r, z_t_carries, z_t_bearer)) {H : Heap} {locs : List Loc} {ls : Array Slot} (hl : lv_has ls 4 [(0, .ref A_t), (1, .int x1), (2, .int x2)]) (hw : wd_ G A s.heap (wl_X0_takeUp G A_t A_t_at A_t_home A_t_light A_t_carries A_t_bearer c_t_there c_t_foggy c_t_at c_t_carries c_t_bearer) H locs) : W p l e { frames := 3, cells := 0, slots := 0, locals := 65 } s m args below meth c H locs 0 0 Q (F0 m 0 ls []) := by
  have hx := hC.1
  have hb := hC.2.1
  unfold fn_X0_takeUp at hf
  refine lv_aload_n hx hb dX0_takeUp_0 rfl (lv_at hl 0 rfl) ?_
  refine lv_iload_n hx hb dX0_takeUp_1 rfl (lv_at hl 1 rfl) ?_
  refine lv_iload_n hx hb dX0_takeUp_2 rfl (lv_at hl 2 rfl) ?_
  obtain ⟨r1, hq2, hf⟩ := b1_s hf
  refine h_cVi hC hw mvX0_78 (cn_X0_whyNotMeet l G A_t A_t_at A_t_home A_t_light A_t_carries A_t_bearer c_t_there c_t_foggy c_t_at c_t_bearer x1 x2 r1 hq2) [0, 1, 3] rfl (by decide) 0 rfl rfl rfl hl.1 rfl (Nat.le_of_ble_eq_true rfl) ⟨Nat.le_of_ble_eq_true rfl, Nat.le_of_ble_eq_true rfl⟩ ⟨Nat.le_refl _, Nat.le_refl _⟩ dX0_takeUp_3 (fun H locs hw => ?_)
  refine lv_istore_n (lv' := [(3, .int r1), (0, .ref A_t), (1, .int x1), (2, .int x2)]) hx hb dX0_takeUp_6 rfl hl (by decide) rfl (fun ls hl => ?_)
  refine lv_iload_n hx hb dX0_takeUp_7 rfl (lv_at hl 0 rfl) ?_
  refine lv_if_eq (tgt := 13) hx hb dX0_takeUp_8 (by decide) (fun hc => ?_) (fun hc => ?_)
  · replace hf := it_t hc hf
    refine lv_aload_n hx hb dX0_takeUp_13 rfl (lv_at hl 1 rfl) ?_
    refine g_get hC hw fkX0_29 0 rfl rfl dX0_takeUp_14 ?_
    refine lv_iload_n hx hb dX0_takeUp_17 rfl (lv_at hl 2 rfl) ?_
    obtain ⟨hi, hf⟩ := ck_s hf
    refine g_iald hC hw 2 rfl hi dX0_takeUp_18 ?_
    refine lv_bipush (v := (-6)) hx hb dX0_takeUp_19 (by decide) ?_
    refine lv_icmp_ne (tgt := 35) hx hb dX0_takeUp_21 (by decide) (fun hc => ?_) (fun hc => ?_)
    · replace hf := it_f hc hf
      refine lv_bipush (v := 7) hx hb dX0_takeUp_35 (by decide) ?_
      obtain ⟨h1_, h2_, h3_⟩ := t3_ hf
      subst h1_
      subst h2_
      subst h3_
      exact hret _ _ _ _ dX0_takeUp_37 hw
    · replace hf := it_t hc hf
      refine lv_aload_n hx hb dX0_takeUp_24 rfl (lv_at hl 1 rfl) ?_
      refine g_get hC hw fkX0_29 0 rfl rfl dX0_takeUp_25 ?_
      refine lv_iload_n hx hb dX0_takeUp_28 rfl (lv_at hl 3 rfl) ?_
      obtain ⟨hi, hf⟩ := ck_s hf
      refine g_iald hC hw 2 rfl hi dX0_takeUp_29 ?_
      refine lv_bipush (v := (-6)) hx hb dX0_takeUp_30 (by decide) ?_
      refine lv_icmp_eq (tgt := 38) hx hb dX0_takeUp_32 (by decide) (fun hc => ?_) (fun hc => ?_)
      · replace hf := it_t hc hf
        refine lv_aload_n hx hb dX0_takeUp_38 rfl (lv_at hl 1 rfl) ?_
        refine g_get hC hw fkX0_29 0 rfl rfl dX0_takeUp_39 ?_
        refine lv_iload_n hx hb dX0_takeUp_42 rfl (lv_at hl 2 rfl) ?_
        refine lv_iload_n hx hb dX0_takeUp_43 rfl (lv_at hl 3 rfl) ?_
        obtain ⟨hi, hf⟩ := ck_s hf
        obtain ⟨f3, ef3, hf⟩ := lx_s hf
        refine g_iast hC hw 2 rfl hi ef3 dX0_takeUp_44 (fun H locs hw => ?_)
        have hw : wd_ G A s.heap (wl_X0_takeUp G A_t A_t_at A_t_home A_t_light A_t_carries A_t_bearer c_t_there c_t_foggy c_t_at f3 c_t_bearer) H locs := hw
        refine lv_aload_n hx hb dX0_takeUp_45 rfl (lv_at hl 1 rfl) ?_
        refine g_get hC hw fkX0_32 0 rfl rfl dX0_takeUp_46 ?_
        refine lv_iload_n hx hb dX0_takeUp_49 rfl (lv_at hl 3 rfl) ?_
        refine lv_iload_n hx hb dX0_takeUp_50 rfl (lv_at hl 2 rfl) ?_
        obtain ⟨hi, hf⟩ := ck_s hf
        obtain ⟨f4, ef4, hf⟩ := lx_s hf
        refine g_iast hC hw 3 rfl hi ef4 dX0_takeUp_51 (fun H locs hw => ?_)
        have hw : wd_ G A s.heap (wl_X0_takeUp G A_t A_t_at A_t_home A_t_light A_t_carries A_t_bearer c_t_there c_t_foggy c_t_at f3 f4) H locs := hw
        refine lv_iconst (v := 0) hx hb dX0_takeUp_52 (by decide) ?_
        obtain ⟨h1_, h2_, h3_⟩ := t3_ hf
        subst h1_
        subst h2_
        subst h3_
        exact hret _ _ _ _ dX0_takeUp_53 hw
      · replace hf := it_f hc hf
        refine lv_bipush (v := 7) hx hb dX0_takeUp_35 (by decide) ?_
        obtain ⟨h1_, h2_, h3_⟩ := t3_ hf
        subst h1_
        subst h2_
        subst h3_
        exact hret _ _ _ _ dX0_takeUp_37 hw
  · replace hf := it_f hc hf
    refine lv_iload_n hx hb dX0_takeUp_11 rfl (lv_at hl 0 rfl) ?_
    obtain ⟨h1_, h2_, h3_⟩ := t3_ hf
    subst h1_
    subst h2_
    subst h3_
    exact hret _ _ _ _ dX0_takeUp_12 hw
set_option maxHeartbeats 4000000 in
set_option maxRecDepth 100000 in
theorem cn_X0_takeUp (l : Launch) (G : gw_) (A_t : Nat) (A_t_at : Nat) (A_t_home : Nat) (A_t_light : Nat) (A_t_carries : Nat) (A_t_bearer : Nat) (c_t_there : Int32) (c_t_foggy : Int32) (c_t_at : Nat → Int32) (c_t_carries : Nat → Int32) (c_t_bearer : Nat → Int32) (x1 : Int32) (x2 : Int32) (r : Int32) (z_t_carries : Nat → Int32) (z_t_bearer : Nat → Int32) (hf : fn_X0_takeUp c_t_there c_t_at c_t_carries c_t_bearer x1 x2 = some (r, z_t_carries, z_t_bearer)) : ci_ l G yX0_takeUp cX0_takeUp 4 (some .int) 3 65 (wl_X0_takeUp G A_t A_t_at A_t_home A_t_light A_t_carries A_t_bearer c_t_there c_t_foggy c_t_at c_t_carries c_t_bearer) [.ref A_t, .int x1, .int x2] r (wl_X0_takeUp G A_t A_t_at A_t_home A_t_light A_t_carries A_t_bearer c_t_there c_t_foggy c_t_at z_t_carries z_t_bearer) := fun sz => met_intro (by decide) (Nat.le_of_ble_eq_true rfl) (fun p e s m args below meth c ls hsz hC hr hlk hnm hl hw => wn_X0_takeUp hC (fun pc H locs ls hd hw => g_iret hC hr hlk hw rfl rfl hd) hf hl hw)
