theorem dX0_setDown_0 : decode cX0_setDown 0 = .ok (.aload_n 0, 1) := by decide +kernel
theorem dX0_setDown_1 : decode cX0_setDown 1 = .ok (.iload_n 1, 1) := by decide +kernel
theorem dX0_setDown_2 : decode cX0_setDown 2 = .ok (.invokevirtual 68, 3) := by decide +kernel
theorem dX0_setDown_5 : decode cX0_setDown 5 = .ok (.ifCond .ne 5, 3) := by decide +kernel
theorem dX0_setDown_8 : decode cX0_setDown 8 = .ok (.iconst 1, 1) := by decide +kernel
theorem dX0_setDown_9 : decode cX0_setDown 9 = .ok (.ireturn, 1) := by decide +kernel
theorem dX0_setDown_10 : decode cX0_setDown 10 = .ok (.aload_n 0, 1) := by decide +kernel
theorem dX0_setDown_11 : decode cX0_setDown 11 = .ok (.getfield 32, 3) := by decide +kernel
theorem dX0_setDown_14 : decode cX0_setDown 14 = .ok (.iload_n 1, 1) := by decide +kernel
theorem dX0_setDown_15 : decode cX0_setDown 15 = .ok (.iaload, 1) := by decide +kernel
theorem dX0_setDown_16 : decode cX0_setDown 16 = .ok (.bipush (-6), 2) := by decide +kernel
theorem dX0_setDown_18 : decode cX0_setDown 18 = .ok (.if_icmp .eq 5, 3) := by decide +kernel
theorem dX0_setDown_21 : decode cX0_setDown 21 = .ok (.iconst 3, 1) := by decide +kernel
theorem dX0_setDown_22 : decode cX0_setDown 22 = .ok (.ireturn, 1) := by decide +kernel
theorem dX0_setDown_23 : decode cX0_setDown 23 = .ok (.aload_n 0, 1) := by decide +kernel
theorem dX0_setDown_24 : decode cX0_setDown 24 = .ok (.getfield 29, 3) := by decide +kernel
theorem dX0_setDown_27 : decode cX0_setDown 27 = .ok (.iload_n 1, 1) := by decide +kernel
theorem dX0_setDown_28 : decode cX0_setDown 28 = .ok (.iaload, 1) := by decide +kernel
theorem dX0_setDown_29 : decode cX0_setDown 29 = .ok (.bipush (-6), 2) := by decide +kernel
theorem dX0_setDown_31 : decode cX0_setDown 31 = .ok (.if_icmp .ne 6, 3) := by decide +kernel
theorem dX0_setDown_34 : decode cX0_setDown 34 = .ok (.bipush 7, 2) := by decide +kernel
theorem dX0_setDown_36 : decode cX0_setDown 36 = .ok (.ireturn, 1) := by decide +kernel
theorem dX0_setDown_37 : decode cX0_setDown 37 = .ok (.aload_n 0, 1) := by decide +kernel
theorem dX0_setDown_38 : decode cX0_setDown 38 = .ok (.iload_n 1, 1) := by decide +kernel
theorem dX0_setDown_39 : decode cX0_setDown 39 = .ok (.invokevirtual 59, 3) := by decide +kernel
theorem dX0_setDown_42 : decode cX0_setDown 42 = .ok (.iconst 0, 1) := by decide +kernel
theorem dX0_setDown_43 : decode cX0_setDown 43 = .ok (.ireturn, 1) := by decide +kernel
abbrev wl_X0_setDown (G : gw_) (A_t : Nat) (A_t_at : Nat) (A_t_home : Nat) (A_t_light : Nat) (A_t_carries : Nat) (A_t_bearer : Nat) (c_t_there : Int32) (c_t_foggy : Int32) (c_t_carries : Nat → Int32) (c_t_bearer : Nat → Int32) : va_W := [ob_ A_t 0 [.int c_t_there, .int c_t_foggy, .ref A_t_at, .ref A_t_home, .ref A_t_light, .ref A_t_carries, .ref A_t_bearer], ia_ G A_t_carries 6 c_t_carries, ia_ G A_t_bearer 6 c_t_bearer]
def fn_X0_setDown (c_t_there : Int32) (c_t_carries : Nat → Int32) (c_t_bearer : Nat → Int32) (x1 : Int32) : Option (Int32 × (Nat → Int32) × (Nat → Int32)) :=
  b1_ (fn_X0_has c_t_there x1) fun r1 =>
  if r1 = 0 then
    some (1, c_t_carries, c_t_bearer)
  else
    ck_ x1 6 <|
    if (c_t_bearer (Int32.toNatClampNeg x1)) = (-6) then
      ck_ x1 6 <|
      if (c_t_carries (Int32.toNatClampNeg x1)) = (-6) then
        some (7, c_t_carries, c_t_bearer)
      else
        b2_ (fn_X0_putDown c_t_carries c_t_bearer x1) fun w3 w4 =>
        some (0, w3, w4)
    else
      some (3, c_t_carries, c_t_bearer)
set_option maxHeartbeats 4000000 in
set_option maxRecDepth 100000 in
theorem wn_X0_setDown {p : Program} {l : Launch} {e : Env} {s : State} {m : MethodId} {args : Array Value} {below : List Frame} {meth : Method} {c : Code} {G : gw_} {A : Nat → Prop} {Q : State → Prop} {A_t : Nat} {A_t_at : Nat} {A_t_home : Nat} {A_t_light : Nat} {A_t_carries : Nat} {A_t_bearer : Nat} {c_t_there : Int32} {c_t_foggy : Int32} {c_t_carries : Nat → Int32} {z_t_carries : Nat → Int32} {c_t_bearer : Nat → Int32} {z_t_bearer : Nat → Int32} {r : Int32} {x1 : Int32} (hC : cx_ p s m c G cX0_setDown 2 RX0) (hret : ∀ (pc : Nat) (H : Heap) (locs : List Loc) (ls : Array Slot), decode cX0_setDown pc = .ok (.ireturn, 1) → wd_ G A s.heap (wl_X0_setDown G A_t A_t_at A_t_home A_t_light A_t_carries A_t_bearer c_t_there c_t_foggy z_t_carries z_t_bearer) H locs → W p l e { frames := 2, cells := 0, slots := 0, locals := 43 } s m args below meth c H locs 0 0 Q (F0 m pc ls [.int r])) (hf : fn_X0_setDown c_t_there c_t_carries c_t_bearer x1 = some (r, z_t_carries, z_t_bearer)) {H : Heap} {locs : List Loc} {ls : Array Slot} (hl : lv_has ls 2 [(0, .ref A_t), (1, .int x1)]) (hw : wd_ G A s.heap (wl_X0_setDown G A_t A_t_at A_t_home A_t_light A_t_carries A_t_bearer c_t_there c_t_foggy c_t_carries c_t_bearer) H locs) : W p l e { frames := 2, cells := 0, slots := 0, locals := 43 } s m args below meth c H locs 0 0 Q (F0 m 0 ls []) := by
  have hx := hC.1
  have hb := hC.2.1
  unfold fn_X0_setDown at hf
  refine lv_aload_n hx hb dX0_setDown_0 rfl (lv_at hl 0 rfl) ?_
  refine lv_iload_n hx hb dX0_setDown_1 rfl (lv_at hl 1 rfl) ?_
  obtain ⟨r1, hq2, hf⟩ := b1_s hf
  refine h_cVi hC hw mvX0_68 (cn_X0_has l G A_t A_t_at A_t_home A_t_light A_t_carries A_t_bearer c_t_there c_t_foggy x1 r1 hq2) [0] rfl (by decide) 0 rfl rfl rfl hl.1 rfl (Nat.le_of_ble_eq_true rfl) ⟨Nat.le_of_ble_eq_true rfl, Nat.le_of_ble_eq_true rfl⟩ ⟨Nat.le_refl _, Nat.le_refl _⟩ dX0_setDown_2 (fun H locs hw => ?_)
  refine lv_if_ne (tgt := 10) hx hb dX0_setDown_5 (by decide) (fun hc => ?_) (fun hc => ?_)
  · replace hf := it_f hc hf
    refine lv_aload_n hx hb dX0_setDown_10 rfl (lv_at hl 0 rfl) ?_
    refine g_get hC hw fkX0_32 0 rfl rfl dX0_setDown_11 ?_
    refine lv_iload_n hx hb dX0_setDown_14 rfl (lv_at hl 1 rfl) ?_
    obtain ⟨hi, hf⟩ := ck_s hf
    refine g_iald hC hw 2 rfl hi dX0_setDown_15 ?_
    refine lv_bipush (v := (-6)) hx hb dX0_setDown_16 (by decide) ?_
    refine lv_icmp_eq (tgt := 23) hx hb dX0_setDown_18 (by decide) (fun hc => ?_) (fun hc => ?_)
    · replace hf := it_t hc hf
      refine lv_aload_n hx hb dX0_setDown_23 rfl (lv_at hl 0 rfl) ?_
      refine g_get hC hw fkX0_29 0 rfl rfl dX0_setDown_24 ?_
      refine lv_iload_n hx hb dX0_setDown_27 rfl (lv_at hl 1 rfl) ?_
      obtain ⟨hi, hf⟩ := ck_s hf
      refine g_iald hC hw 1 rfl hi dX0_setDown_28 ?_
      refine lv_bipush (v := (-6)) hx hb dX0_setDown_29 (by decide) ?_
      refine lv_icmp_ne (tgt := 37) hx hb dX0_setDown_31 (by decide) (fun hc => ?_) (fun hc => ?_)
      · replace hf := it_f hc hf
        refine lv_aload_n hx hb dX0_setDown_37 rfl (lv_at hl 0 rfl) ?_
        refine lv_iload_n hx hb dX0_setDown_38 rfl (lv_at hl 1 rfl) ?_
        obtain ⟨w3, w4, hq5, hf⟩ := b2_s hf
        refine g_cVv hC hw mvX0_59 (cn_X0_putDown l G A_t A_t_at A_t_home A_t_light A_t_carries A_t_bearer c_t_there c_t_foggy c_t_carries c_t_bearer x1 w3 w4 hq5) [0, 1, 2] rfl (by decide) rfl 0 rfl rfl rfl hl.1 rfl (Nat.le_of_ble_eq_true rfl) ⟨Nat.le_of_ble_eq_true rfl, Nat.le_of_ble_eq_true rfl⟩ ⟨Nat.le_refl _, Nat.le_refl _⟩ dX0_setDown_39 (fun H locs hw => ?_)
        have hw : wd_ G A s.heap (wl_X0_setDown G A_t A_t_at A_t_home A_t_light A_t_carries A_t_bearer c_t_there c_t_foggy w3 w4) H locs := hw
        refine lv_iconst (v := 0) hx hb dX0_setDown_42 (by decide) ?_
        obtain ⟨h1_, h2_, h3_⟩ := t3_ hf
        subst h1_
        subst h2_
        subst h3_
        exact hret _ _ _ _ dX0_setDown_43 hw
      · replace hf := it_t hc hf
        refine lv_bipush (v := 7) hx hb dX0_setDown_34 (by decide) ?_
        obtain ⟨h1_, h2_, h3_⟩ := t3_ hf
        subst h1_
        subst h2_
        subst h3_
        exact hret _ _ _ _ dX0_setDown_36 hw
    · replace hf := it_f hc hf
      refine lv_iconst (v := 3) hx hb dX0_setDown_21 (by decide) ?_
      obtain ⟨h1_, h2_, h3_⟩ := t3_ hf
      subst h1_
      subst h2_
      subst h3_
      exact hret _ _ _ _ dX0_setDown_22 hw
  · replace hf := it_t hc hf
    refine lv_iconst (v := 1) hx hb dX0_setDown_8 (by decide) ?_
    obtain ⟨h1_, h2_, h3_⟩ := t3_ hf
    subst h1_
    subst h2_
    subst h3_
    exact hret _ _ _ _ dX0_setDown_9 hw
set_option maxHeartbeats 4000000 in
set_option maxRecDepth 100000 in
theorem cn_X0_setDown (l : Launch) (G : gw_) (A_t : Nat) (A_t_at : Nat) (A_t_home : Nat) (A_t_light : Nat) (A_t_carries : Nat) (A_t_bearer : Nat) (c_t_there : Int32) (c_t_foggy : Int32) (c_t_carries : Nat → Int32) (c_t_bearer : Nat → Int32) (x1 : Int32) (r : Int32) (z_t_carries : Nat → Int32) (z_t_bearer : Nat → Int32) (hf : fn_X0_setDown c_t_there c_t_carries c_t_bearer x1 = some (r, z_t_carries, z_t_bearer)) : ci_ l G yX0_setDown cX0_setDown 2 (some .int) 2 43 (wl_X0_setDown G A_t A_t_at A_t_home A_t_light A_t_carries A_t_bearer c_t_there c_t_foggy c_t_carries c_t_bearer) [.ref A_t, .int x1] r (wl_X0_setDown G A_t A_t_at A_t_home A_t_light A_t_carries A_t_bearer c_t_there c_t_foggy z_t_carries z_t_bearer) := fun sz => met_intro (by decide) (Nat.le_of_ble_eq_true rfl) (fun p e s m args below meth c ls hsz hC hr hlk hnm hl hw => wn_X0_setDown hC (fun pc H locs ls hd hw => g_iret hC hr hlk hw rfl rfl hd) hf hl hw)

theorem dX0_give_0 : decode cX0_give 0 = .ok (.aload_n 0, 1) := by decide +kernel
theorem dX0_give_1 : decode cX0_give 1 = .ok (.iload_n 1, 1) := by decide +kernel
theorem dX0_give_2 : decode cX0_give 2 = .ok (.iload_n 2, 1) := by decide +kernel
theorem dX0_give_3 : decode cX0_give 3 = .ok (.invokevirtual 78, 3) := by decide +kernel
theorem dX0_give_6 : decode cX0_give 6 = .ok (.istore 4, 2) := by decide +kernel
theorem dX0_give_8 : decode cX0_give 8 = .ok (.iload 4, 2) := by decide +kernel
theorem dX0_give_10 : decode cX0_give 10 = .ok (.ifCond .eq 6, 3) := by decide +kernel
theorem dX0_give_13 : decode cX0_give 13 = .ok (.iload 4, 2) := by decide +kernel
theorem dX0_give_15 : decode cX0_give 15 = .ok (.ireturn, 1) := by decide +kernel
theorem dX0_give_16 : decode cX0_give 16 = .ok (.aload_n 0, 1) := by decide +kernel
theorem dX0_give_17 : decode cX0_give 17 = .ok (.getfield 26, 3) := by decide +kernel
theorem dX0_give_20 : decode cX0_give 20 = .ok (.iload_n 1, 1) := by decide +kernel
theorem dX0_give_21 : decode cX0_give 21 = .ok (.iaload, 1) := by decide +kernel
theorem dX0_give_22 : decode cX0_give 22 = .ok (.iload_n 3, 1) := by decide +kernel
theorem dX0_give_23 : decode cX0_give 23 = .ok (.if_icmp .ge 6, 3) := by decide +kernel
theorem dX0_give_26 : decode cX0_give 26 = .ok (.bipush 6, 2) := by decide +kernel
theorem dX0_give_28 : decode cX0_give 28 = .ok (.ireturn, 1) := by decide +kernel
theorem dX0_give_29 : decode cX0_give 29 = .ok (.aload_n 0, 1) := by decide +kernel
theorem dX0_give_30 : decode cX0_give 30 = .ok (.getfield 26, 3) := by decide +kernel
theorem dX0_give_33 : decode cX0_give 33 = .ok (.iload_n 1, 1) := by decide +kernel
theorem dX0_give_34 : decode cX0_give 34 = .ok (.dup2, 1) := by decide +kernel
theorem dX0_give_35 : decode cX0_give 35 = .ok (.iaload, 1) := by decide +kernel
theorem dX0_give_36 : decode cX0_give 36 = .ok (.iload_n 3, 1) := by decide +kernel
theorem dX0_give_37 : decode cX0_give 37 = .ok (.isub, 1) := by decide +kernel
theorem dX0_give_38 : decode cX0_give 38 = .ok (.iastore, 1) := by decide +kernel
theorem dX0_give_39 : decode cX0_give 39 = .ok (.aload_n 0, 1) := by decide +kernel
theorem dX0_give_40 : decode cX0_give 40 = .ok (.getfield 26, 3) := by decide +kernel
theorem dX0_give_43 : decode cX0_give 43 = .ok (.iload_n 2, 1) := by decide +kernel
theorem dX0_give_44 : decode cX0_give 44 = .ok (.sipush 999, 3) := by decide +kernel
theorem dX0_give_47 : decode cX0_give 47 = .ok (.aload_n 0, 1) := by decide +kernel
theorem dX0_give_48 : decode cX0_give 48 = .ok (.getfield 26, 3) := by decide +kernel
theorem dX0_give_51 : decode cX0_give 51 = .ok (.iload_n 2, 1) := by decide +kernel
theorem dX0_give_52 : decode cX0_give 52 = .ok (.iaload, 1) := by decide +kernel
theorem dX0_give_53 : decode cX0_give 53 = .ok (.iload_n 3, 1) := by decide +kernel
theorem dX0_give_54 : decode cX0_give 54 = .ok (.iadd, 1) := by decide +kernel
theorem dX0_give_55 : decode cX0_give 55 = .ok (.invokestatic 82, 3) := by decide +kernel
theorem dX0_give_58 : decode cX0_give 58 = .ok (.iastore, 1) := by decide +kernel
theorem dX0_give_59 : decode cX0_give 59 = .ok (.iconst 0, 1) := by decide +kernel
theorem dX0_give_60 : decode cX0_give 60 = .ok (.ireturn, 1) := by decide +kernel
abbrev wl_X0_give (G : gw_) (A_t : Nat) (A_t_at : Nat) (A_t_home : Nat) (A_t_light : Nat) (A_t_carries : Nat) (A_t_bearer : Nat) (c_t_there : Int32) (c_t_foggy : Int32) (c_t_at : Nat → Int32) (c_t_light : Nat → Int32) (c_t_bearer : Nat → Int32) : va_W := [ob_ A_t 0 [.int c_t_there, .int c_t_foggy, .ref A_t_at, .ref A_t_home, .ref A_t_light, .ref A_t_carries, .ref A_t_bearer], ia_ G A_t_at 6 c_t_at, ia_ G A_t_light 6 c_t_light, ia_ G A_t_bearer 6 c_t_bearer]
def fn_X0_give (c_t_there : Int32) (c_t_at : Nat → Int32) (c_t_light : Nat → Int32) (c_t_bearer : Nat → Int32) (x1 : Int32) (x2 : Int32) (x3 : Int32) : Option (Int32 × (Nat → Int32)) :=
  b1_ (fn_X0_whyNotMeet c_t_there c_t_at c_t_bearer x1 x2) fun r1 =>
  if r1 = 0 then
    ck_ x1 6 <|
    if x3 ≤ (c_t_light (Int32.toNatClampNeg x1)) then
      ck_ x1 6 <|
      ck_ x1 6 <|
      lx_ (upd c_t_light (Int32.toNatClampNeg x1) ((c_t_light (Int32.toNatClampNeg x1)) - x3)) fun f3 =>
      ck_ x2 6 <|
      lx_ (if ((f3 (Int32.toNatClampNeg x2)) + x3) < 999 then ((f3 (Int32.toNatClampNeg x2)) + x3) else 999) fun y4 =>
      ck_ x2 6 <|
      lx_ (upd f3 (Int32.toNatClampNeg x2) y4) fun f5 =>
      some (0, f5)
    else
      some (6, c_t_light)
  else
    some (r1, c_t_light)
set_option maxHeartbeats 4000000 in
set_option maxRecDepth 100000 in
theorem wn_X0_give {p : Program} {l : Launch} {e : Env} {s : State} {m : MethodId} {args : Array Value} {below : List Frame} {meth : Method} {c : Code} {G : gw_} {A : Nat → Prop} {Q : State → Prop} {A_t : Nat} {A_t_at : Nat} {A_t_home : Nat} {A_t_light : Nat} {A_t_carries : Nat} {A_t_bearer : Nat} {c_t_there : Int32} {c_t_foggy : Int32} {c_t_at : Nat → Int32} {c_t_light : Nat → Int32} {z_t_light : Nat → Int32} {c_t_bearer : Nat → Int32} {r : Int32} {x1 : Int32} {x2 : Int32} {x3 : Int32} (hC : cx_ p s m c G cX0_give 5 RX0) (hret : ∀ (pc : Nat) (H : Heap) (locs : List Loc) (ls : Array Slot), decode cX0_give pc = .ok (.ireturn, 1) → wd_ G A s.heap (wl_X0_give G A_t A_t_at A_t_home A_t_light A_t_carries A_t_bearer c_t_there c_t_foggy c_t_at z_t_light c_t_bearer) H locs → W p l e { frames := 3, cells := 0, slots := 0, locals := 65 } s m args below meth c H locs 0 0 Q (F0 m pc ls [.int r])) (hf : fn_X0_give c_t_there c_t_at c_t_light c_t_bearer x1 x2 x3 = some (r, z_t_light)) {H : Heap} {locs : List Loc} {ls : Array Slot} (hl : lv_has ls 5 [(0, .ref A_t), (1, .int x1), (2, .int x2), (3, .int x3)]) (hw : wd_ G A s.heap (wl_X0_give G A_t A_t_at A_t_home A_t_light A_t_carries A_t_bearer c_t_there c_t_foggy c_t_at c_t_light c_t_bearer) H locs) : W p l e { frames := 3, cells := 0, slots := 0, locals := 65 } s m args below meth c H locs 0 0 Q (F0 m 0 ls []) := by
  have hx := hC.1
  have hb := hC.2.1
  unfold fn_X0_give at hf
  refine lv_aload_n hx hb dX0_give_0 rfl (lv_at hl 0 rfl) ?_
  refine lv_iload_n hx hb dX0_give_1 rfl (lv_at hl 1 rfl) ?_
  refine lv_iload_n hx hb dX0_give_2 rfl (lv_at hl 2 rfl) ?_
  obtain ⟨r1, hq2, hf⟩ := b1_s hf
  refine h_cVi hC hw mvX0_78 (cn_X0_whyNotMeet l G A_t A_t_at A_t_home A_t_light A_t_carries A_t_bearer c_t_there c_t_foggy c_t_at c_t_bearer x1 x2 r1 hq2) [0, 1, 3] rfl (by decide) 0 rfl rfl rfl hl.1 rfl (Nat.le_of_ble_eq_true rfl) ⟨Nat.le_of_ble_eq_true rfl, Nat.le_of_ble_eq_true rfl⟩ ⟨Nat.le_refl _, Nat.le_refl _⟩ dX0_give_3 (fun H locs hw => ?_)
  refine lv_istore (lv' := [(4, .int r1), (0, .ref A_t), (1, .int x1), (2, .int x2), (3, .int x3)]) hx hb dX0_give_6 hl (by decide) rfl (fun ls hl => ?_)
  refine lv_iload hx hb dX0_give_8 (lv_at hl 0 rfl) ?_
  refine lv_if_eq (tgt := 16) hx hb dX0_give_10 (by decide) (fun hc => ?_) (fun hc => ?_)
  · replace hf := it_t hc hf
    refine lv_aload_n hx hb dX0_give_16 rfl (lv_at hl 1 rfl) ?_
    refine g_get hC hw fkX0_26 0 rfl rfl dX0_give_17 ?_
    refine lv_iload_n hx hb dX0_give_20 rfl (lv_at hl 2 rfl) ?_
    obtain ⟨hi, hf⟩ := ck_s hf
    refine g_iald hC hw 2 rfl hi dX0_give_21 ?_
    refine lv_iload_n hx hb dX0_give_22 rfl (lv_at hl 4 rfl) ?_
    refine lv_icmp_ge (tgt := 29) hx hb dX0_give_23 (by decide) (fun hc => ?_) (fun hc => ?_)
    · replace hf := it_t hc hf
      refine lv_aload_n hx hb dX0_give_29 rfl (lv_at hl 1 rfl) ?_
      refine g_get hC hw fkX0_26 0 rfl rfl dX0_give_30 ?_
      refine lv_iload_n hx hb dX0_give_33 rfl (lv_at hl 2 rfl) ?_
      refine lv_dup2_11 hx hb dX0_give_34 rfl rfl ?_
      obtain ⟨hi, hf⟩ := ck_s hf
      refine g_iald hC hw 2 rfl hi dX0_give_35 ?_
      refine lv_iload_n hx hb dX0_give_36 rfl (lv_at hl 4 rfl) ?_
      refine lv_isub hx hb dX0_give_37 ?_
      obtain ⟨hi, hf⟩ := ck_s hf
      obtain ⟨f3, ef3, hf⟩ := lx_s hf
      refine g_iast hC hw 2 rfl hi ef3 dX0_give_38 (fun H locs hw => ?_)
      have hw : wd_ G A s.heap (wl_X0_give G A_t A_t_at A_t_home A_t_light A_t_carries A_t_bearer c_t_there c_t_foggy c_t_at f3 c_t_bearer) H locs := hw
      refine lv_aload_n hx hb dX0_give_39 rfl (lv_at hl 1 rfl) ?_
      refine g_get hC hw fkX0_26 0 rfl rfl dX0_give_40 ?_
      refine lv_iload_n hx hb dX0_give_43 rfl (lv_at hl 3 rfl) ?_
      refine lv_sipush (v := 999) hx hb dX0_give_44 (by decide) ?_
      refine lv_aload_n hx hb dX0_give_47 rfl (lv_at hl 1 rfl) ?_
      refine g_get hC hw fkX0_26 0 rfl rfl dX0_give_48 ?_
      refine lv_iload_n hx hb dX0_give_51 rfl (lv_at hl 3 rfl) ?_
      obtain ⟨hi, hf⟩ := ck_s hf
      refine g_iald hC hw 2 rfl hi dX0_give_52 ?_
      refine lv_iload_n hx hb dX0_give_53 rfl (lv_at hl 4 rfl) ?_
      refine lv_iadd hx hb dX0_give_54 ?_
      refine va_mmin hx hb (hC.2.2.1.trans hl.1.symm) hC.2.2.2.1 (aw_at hC.2.2.2.2.1 args _ (tb2 160 rfl rfl)) (aw_at hC.2.2.2.2.1 args _ (tb2 161 rfl rfl)) (aw_at hC.2.2.2.2.1 args _ (tb1 15 rfl rfl)) (aw_at hC.2.2.2.2.1 args _ (tb2 162 rfl rfl)) (by decide) (Nat.le_of_ble_eq_true rfl) (Nat.le_refl _) (Nat.le_refl _) dX0_give_55 ?_
      obtain ⟨y4, ey4, hf⟩ := lx_s hf
      rw [← ey4]
      obtain ⟨hi, hf⟩ := ck_s hf
      obtain ⟨f5, ef5, hf⟩ := lx_s hf
      refine g_iast hC hw 2 rfl hi ef5 dX0_give_58 (fun H locs hw => ?_)
      have hw : wd_ G A s.heap (wl_X0_give G A_t A_t_at A_t_home A_t_light A_t_carries A_t_bearer c_t_there c_t_foggy c_t_at f5 c_t_bearer) H locs := hw
      refine lv_iconst (v := 0) hx hb dX0_give_59 (by decide) ?_
      obtain ⟨h1_, h2_⟩ := t2_ hf
      subst h1_
      subst h2_
      exact hret _ _ _ _ dX0_give_60 hw
    · replace hf := it_f hc hf
      refine lv_bipush (v := 6) hx hb dX0_give_26 (by decide) ?_
      obtain ⟨h1_, h2_⟩ := t2_ hf
      subst h1_
      subst h2_
      exact hret _ _ _ _ dX0_give_28 hw
  · replace hf := it_f hc hf
    refine lv_iload hx hb dX0_give_13 (lv_at hl 0 rfl) ?_
    obtain ⟨h1_, h2_⟩ := t2_ hf
    subst h1_
    subst h2_
    exact hret _ _ _ _ dX0_give_15 hw
set_option maxHeartbeats 4000000 in
set_option maxRecDepth 100000 in
theorem cn_X0_give (l : Launch) (G : gw_) (A_t : Nat) (A_t_at : Nat) (A_t_home : Nat) (A_t_light : Nat) (A_t_carries : Nat) (A_t_bearer : Nat) (c_t_there : Int32) (c_t_foggy : Int32) (c_t_at : Nat → Int32) (c_t_light : Nat → Int32) (c_t_bearer : Nat → Int32) (x1 : Int32) (x2 : Int32) (x3 : Int32) (r : Int32) (z_t_light : Nat → Int32) (hf : fn_X0_give c_t_there c_t_at c_t_light c_t_bearer x1 x2 x3 = some (r, z_t_light)) : ci_ l G yX0_give cX0_give 5 (some .int) 3 65 (wl_X0_give G A_t A_t_at A_t_home A_t_light A_t_carries A_t_bearer c_t_there c_t_foggy c_t_at c_t_light c_t_bearer) [.ref A_t, .int x1, .int x2, .int x3] r (wl_X0_give G A_t A_t_at A_t_home A_t_light A_t_carries A_t_bearer c_t_there c_t_foggy c_t_at z_t_light c_t_bearer) := fun sz => met_intro (by decide) (Nat.le_of_ble_eq_true rfl) (fun p e s m args below meth c ls hsz hC hr hlk hnm hl hw => wn_X0_give hC (fun pc H locs ls hd hw => g_iret hC hr hlk hw rfl rfl hd) hf hl hw)

theorem dX0_standingAt_0 : decode cX0_standingAt 0 = .ok (.iconst 0, 1) := by decide +kernel
theorem dX0_standingAt_1 : decode cX0_standingAt 1 = .ok (.istore_n 2, 1) := by decide +kernel
theorem dX0_standingAt_2 : decode cX0_standingAt 2 = .ok (.iconst 0, 1) := by decide +kernel
theorem dX0_standingAt_3 : decode cX0_standingAt 3 = .ok (.istore_n 3, 1) := by decide +kernel
theorem dX0_standingAt_4 : decode cX0_standingAt 4 = .ok (.iload_n 3, 1) := by decide +kernel
theorem dX0_standingAt_5 : decode cX0_standingAt 5 = .ok (.bipush 6, 2) := by decide +kernel
theorem dX0_standingAt_7 : decode cX0_standingAt 7 = .ok (.if_icmp .ge 33, 3) := by decide +kernel
theorem dX0_standingAt_10 : decode cX0_standingAt 10 = .ok (.aload_n 0, 1) := by decide +kernel
theorem dX0_standingAt_11 : decode cX0_standingAt 11 = .ok (.iload_n 3, 1) := by decide +kernel
theorem dX0_standingAt_12 : decode cX0_standingAt 12 = .ok (.invokevirtual 68, 3) := by decide +kernel
theorem dX0_standingAt_15 : decode cX0_standingAt 15 = .ok (.ifCond .eq 19, 3) := by decide +kernel
theorem dX0_standingAt_18 : decode cX0_standingAt 18 = .ok (.aload_n 0, 1) := by decide +kernel
theorem dX0_standingAt_19 : decode cX0_standingAt 19 = .ok (.getfield 19, 3) := by decide +kernel
theorem dX0_standingAt_22 : decode cX0_standingAt 22 = .ok (.iload_n 3, 1) := by decide +kernel
theorem dX0_standingAt_23 : decode cX0_standingAt 23 = .ok (.iaload, 1) := by decide +kernel
theorem dX0_standingAt_24 : decode cX0_standingAt 24 = .ok (.iload_n 1, 1) := by decide +kernel
theorem dX0_standingAt_25 : decode cX0_standingAt 25 = .ok (.if_icmp .ne 9, 3) := by decide +kernel
theorem dX0_standingAt_28 : decode cX0_standingAt 28 = .ok (.iload_n 2, 1) := by decide +kernel
theorem dX0_standingAt_29 : decode cX0_standingAt 29 = .ok (.iconst 1, 1) := by decide +kernel
theorem dX0_standingAt_30 : decode cX0_standingAt 30 = .ok (.iload_n 3, 1) := by decide +kernel
theorem dX0_standingAt_31 : decode cX0_standingAt 31 = .ok (.ishl, 1) := by decide +kernel
theorem dX0_standingAt_32 : decode cX0_standingAt 32 = .ok (.ior, 1) := by decide +kernel
theorem dX0_standingAt_33 : decode cX0_standingAt 33 = .ok (.istore_n 2, 1) := by decide +kernel
theorem dX0_standingAt_34 : decode cX0_standingAt 34 = .ok (.iinc 3 1, 3) := by decide +kernel
theorem dX0_standingAt_37 : decode cX0_standingAt 37 = .ok (.goto (-33), 3) := by decide +kernel
theorem dX0_standingAt_40 : decode cX0_standingAt 40 = .ok (.iload_n 2, 1) := by decide +kernel
theorem dX0_standingAt_41 : decode cX0_standingAt 41 = .ok (.ireturn, 1) := by decide +kernel
abbrev wl_X0_standingAt (G : gw_) (A_t : Nat) (A_t_at : Nat) (A_t_home : Nat) (A_t_light : Nat) (A_t_carries : Nat) (A_t_bearer : Nat) (c_t_there : Int32) (c_t_foggy : Int32) (c_t_at : Nat → Int32) : va_W := [ob_ A_t 0 [.int c_t_there, .int c_t_foggy, .ref A_t_at, .ref A_t_home, .ref A_t_light, .ref A_t_carries, .ref A_t_bearer], ia_ G A_t_at 6 c_t_at]
def fn_X0_standingAt_b4 (c_t_there : Int32) (c_t_at : Nat → Int32) (x1 : Int32) (rc : Int32 → Int32 → Option (Int32)) (k : Int32 → Option (Int32)) (x2 : Int32) (x3 : Int32) : Option (Int32) :=
  if 6 ≤ x3 then
    k x2
  else
    b1_ (fn_X0_has c_t_there x3) fun r1 =>
    if r1 = 0 then
      rc x2 (x3 + 1)
    else
      ck_ x3 6 <|
      if (c_t_at (Int32.toNatClampNeg x3)) = x1 then
        lx_ (x2 ||| (1 <<< (x3 &&& 31))) fun y3 =>
        rc y3 (x3 + 1)
      else
        rc x2 (x3 + 1)
def fn_X0_standingAt_l4 (c_t_there : Int32) (c_t_at : Nat → Int32) (x1 : Int32) (k : Int32 → Option (Int32)) : Nat → Int32 → Int32 → Option (Int32)
  | 0 => fun _ _ => none
  | n + 1 => fun x2 x3 => fn_X0_standingAt_b4 c_t_there c_t_at x1 (fn_X0_standingAt_l4 c_t_there c_t_at x1 k n) k x2 x3
def fn_X0_standingAt (c_t_there : Int32) (c_t_at : Nat → Int32) (x1 : Int32) : Option (Int32) :=
  fn_X0_standingAt_l4 c_t_there c_t_at x1 (fun v4 =>
    some v4) fu_ 0 0
set_option maxHeartbeats 4000000 in
set_option maxRecDepth 100000 in
theorem wn_X0_standingAt_l4 {p : Program} {l : Launch} {e : Env} {s : State} {m : MethodId} {args : Array Value} {below : List Frame} {meth : Method} {c : Code} {G : gw_} {A : Nat → Prop} {Q : State → Prop} {A_t : Nat} {A_t_at : Nat} {A_t_home : Nat} {A_t_light : Nat} {A_t_carries : Nat} {A_t_bearer : Nat} {c_t_there : Int32} {c_t_foggy : Int32} {c_t_at : Nat → Int32} {r : Int32} {x1 : Int32} {k : Int32 → Option (Int32)} (hC : cx_ p s m c G cX0_standingAt 4 RX0) (hret : ∀ (pc : Nat) (H : Heap) (locs : List Loc) (ls : Array Slot), decode cX0_standingAt pc = .ok (.ireturn, 1) → wd_ G A s.heap (wl_X0_standingAt G A_t A_t_at A_t_home A_t_light A_t_carries A_t_bearer c_t_there c_t_foggy c_t_at) H locs → W p l e { frames := 2, cells := 0, slots := 0, locals := 43 } s m args below meth c H locs 0 0 Q (F0 m pc ls [.int r])) (hk : ∀ (x2 : Int32) (H : Heap) (locs : List Loc) (ls : Array Slot), k x2 = some r → lv_has ls 4 [(2, .int x2)] → wd_ G A s.heap (wl_X0_standingAt G A_t A_t_at A_t_home A_t_light A_t_carries A_t_bearer c_t_there c_t_foggy c_t_at) H locs → W p l e { frames := 2, cells := 0, slots := 0, locals := 43 } s m args below meth c H locs 0 0 Q (F0 m 40 ls [])) : ∀ (n : Nat) (x2 : Int32) (x3 : Int32) (H : Heap) (locs : List Loc) (ls : Array Slot), fn_X0_standingAt_l4 c_t_there c_t_at x1 k n x2 x3 = some r → lv_has ls 4 [(0, .ref A_t), (1, .int x1), (2, .int x2), (3, .int x3)] → wd_ G A s.heap (wl_X0_standingAt G A_t A_t_at A_t_home A_t_light A_t_carries A_t_bearer c_t_there c_t_foggy c_t_at) H locs → W p l e { frames := 2, cells := 0, slots := 0, locals := 43 } s m args below meth c H locs 0 0 Q (F0 m 4 ls []) := by
  have hx := hC.1
  have hb := hC.2.1
  intro n
  induction n with
  | zero =>
    intro x2 x3 H locs ls hf
    cases (show (none : Option (Int32)) = some _ from hf)
  | succ n hrc =>
    intro x2 x3 H locs ls hf hl hw
    replace hf : fn_X0_standingAt_b4 c_t_there c_t_at x1 (fn_X0_standingAt_l4 c_t_there c_t_at x1 k n) k x2 x3 = some r := hf
    unfold fn_X0_standingAt_b4 at hf
    refine lv_iload_n hx hb dX0_standingAt_4 rfl (lv_at hl 3 rfl) ?_
    refine lv_bipush (v := 6) hx hb dX0_standingAt_5 (by decide) ?_
    refine lv_icmp_ge (tgt := 40) hx hb dX0_standingAt_7 (by decide) (fun hc => ?_) (fun hc => ?_)
    · replace hf := it_t hc hf
      exact hk x2 _ _ _ hf (lv_sub hl [2] rfl) hw
    · replace hf := it_f hc hf
      refine lv_aload_n hx hb dX0_standingAt_10 rfl (lv_at hl 0 rfl) ?_
      refine lv_iload_n hx hb dX0_standingAt_11 rfl (lv_at hl 3 rfl) ?_
      obtain ⟨r1, hq2, hf⟩ := b1_s hf
      refine h_cVi hC hw mvX0_68 (cn_X0_has l G A_t A_t_at A_t_home A_t_light A_t_carries A_t_bearer c_t_there c_t_foggy x3 r1 hq2) [0] rfl (by decide) 0 rfl rfl rfl hl.1 rfl (Nat.le_of_ble_eq_true rfl) ⟨Nat.le_of_ble_eq_true rfl, Nat.le_of_ble_eq_true rfl⟩ ⟨Nat.le_refl _, Nat.le_refl _⟩ dX0_standingAt_12 (fun H locs hw => ?_)
      refine lv_if_eq (tgt := 34) hx hb dX0_standingAt_15 (by decide) (fun hc => ?_) (fun hc => ?_)
      · replace hf := it_t hc hf
        refine lv_iinc (v := x3 + 1) (lv' := [(3, .int (x3 + 1)), (0, .ref A_t), (1, .int x1), (2, .int x2)]) hx hb dX0_standingAt_34 hl (k := 3) rfl rfl (by decide) rfl (fun ls hl => ?_)
        refine lv_goto (tgt := 4) hx hb dX0_standingAt_37 (by decide) ?_
        exact hrc x2 (x3 + 1) _ _ _ hf (lv_sub hl [1, 2, 3, 0] rfl) hw
      · replace hf := it_f hc hf
        refine lv_aload_n hx hb dX0_standingAt_18 rfl (lv_at hl 0 rfl) ?_
        refine g_get hC hw fkX0_19 0 rfl rfl dX0_standingAt_19 ?_
        refine lv_iload_n hx hb dX0_standingAt_22 rfl (lv_at hl 3 rfl) ?_
        obtain ⟨hi, hf⟩ := ck_s hf
        refine g_iald hC hw 1 rfl hi dX0_standingAt_23 ?_
        refine lv_iload_n hx hb dX0_standingAt_24 rfl (lv_at hl 1 rfl) ?_
        refine lv_icmp_ne (tgt := 34) hx hb dX0_standingAt_25 (by decide) (fun hc => ?_) (fun hc => ?_)
        · replace hf := it_f hc hf
          refine lv_iinc (v := x3 + 1) (lv' := [(3, .int (x3 + 1)), (0, .ref A_t), (1, .int x1), (2, .int x2)]) hx hb dX0_standingAt_34 hl (k := 3) rfl rfl (by decide) rfl (fun ls hl => ?_)
          refine lv_goto (tgt := 4) hx hb dX0_standingAt_37 (by decide) ?_
          exact hrc x2 (x3 + 1) _ _ _ hf (lv_sub hl [1, 2, 3, 0] rfl) hw
        · replace hf := it_t hc hf
          refine lv_iload_n hx hb dX0_standingAt_28 rfl (lv_at hl 2 rfl) ?_
          refine lv_iconst (v := 1) hx hb dX0_standingAt_29 (by decide) ?_
          refine lv_iload_n hx hb dX0_standingAt_30 rfl (lv_at hl 3 rfl) ?_
          refine lv_ishl hx hb dX0_standingAt_31 ?_
          refine lv_ior hx hb dX0_standingAt_32 ?_
          obtain ⟨y3, ey3, hf⟩ := lx_s hf
          rw [← ey3]
          refine lv_istore_n (lv' := [(2, .int y3), (0, .ref A_t), (1, .int x1), (3, .int x3)]) hx hb dX0_standingAt_33 rfl hl (by decide) rfl (fun ls hl => ?_)
          refine lv_iinc (v := x3 + 1) (lv' := [(3, .int (x3 + 1)), (2, .int y3), (0, .ref A_t), (1, .int x1)]) hx hb dX0_standingAt_34 hl (k := 3) rfl rfl (by decide) rfl (fun ls hl => ?_)
          refine lv_goto (tgt := 4) hx hb dX0_standingAt_37 (by decide) ?_
          exact hrc y3 (x3 + 1) _ _ _ hf (lv_sub hl [2, 3, 1, 0] rfl) hw
set_option maxHeartbeats 4000000 in
set_option maxRecDepth 100000 in
theorem wn_X0_standingAt {p : Program} {l : Launch} {e : Env} {s : State} {m : MethodId} {args : Array Value} {below : List Frame} {meth : Method} {c : Code} {G : gw_} {A : Nat → Prop} {Q : State → Prop} {A_t : Nat} {A_t_at : Nat} {A_t_home : Nat} {A_t_light : Nat} {A_t_carries : Nat} {A_t_bearer : Nat} {c_t_there : Int32} {c_t_foggy : Int32} {c_t_at : Nat → Int32} {r : Int32} {x1 : Int32} (hC : cx_ p s m c G cX0_standingAt 4 RX0) (hret : ∀ (pc : Nat) (H : Heap) (locs : List Loc) (ls : Array Slot), decode cX0_standingAt pc = .ok (.ireturn, 1) → wd_ G A s.heap (wl_X0_standingAt G A_t A_t_at A_t_home A_t_light A_t_carries A_t_bearer c_t_there c_t_foggy c_t_at) H locs → W p l e { frames := 2, cells := 0, slots := 0, locals := 43 } s m args below meth c H locs 0 0 Q (F0 m pc ls [.int r])) (hf : fn_X0_standingAt c_t_there c_t_at x1 = some r) {H : Heap} {locs : List Loc} {ls : Array Slot} (hl : lv_has ls 4 [(0, .ref A_t), (1, .int x1)]) (hw : wd_ G A s.heap (wl_X0_standingAt G A_t A_t_at A_t_home A_t_light A_t_carries A_t_bearer c_t_there c_t_foggy c_t_at) H locs) : W p l e { frames := 2, cells := 0, slots := 0, locals := 43 } s m args below meth c H locs 0 0 Q (F0 m 0 ls []) := by
  have hx := hC.1
  have hb := hC.2.1
  unfold fn_X0_standingAt at hf
  refine lv_iconst (v := 0) hx hb dX0_standingAt_0 (by decide) ?_
  refine lv_istore_n (lv' := [(2, .int 0), (0, .ref A_t), (1, .int x1)]) hx hb dX0_standingAt_1 rfl hl (by decide) rfl (fun ls hl => ?_)
  refine lv_iconst (v := 0) hx hb dX0_standingAt_2 (by decide) ?_
  refine lv_istore_n (lv' := [(3, .int 0), (2, .int 0), (0, .ref A_t), (1, .int x1)]) hx hb dX0_standingAt_3 rfl hl (by decide) rfl (fun ls hl => ?_)
  refine wn_X0_standingAt_l4 hC hret (fun v4 H locs ls hf hl hw => ?_) fu_ 0 0 _ _ _ hf (lv_sub hl [2, 3, 1, 0] rfl) hw
  refine lv_iload_n hx hb dX0_standingAt_40 rfl (lv_at hl 0 rfl) ?_
  have h1_ := t1_ hf
  subst h1_
  exact hret _ _ _ _ dX0_standingAt_41 hw
set_option maxHeartbeats 4000000 in
set_option maxRecDepth 100000 in
theorem cn_X0_standingAt (l : Launch) (G : gw_) (A_t : Nat) (A_t_at : Nat) (A_t_home : Nat) (A_t_light : Nat) (A_t_carries : Nat) (A_t_bearer : Nat) (c_t_there : Int32) (c_t_foggy : Int32) (c_t_at : Nat → Int32) (x1 : Int32) (r : Int32) (hf : fn_X0_standingAt c_t_there c_t_at x1 = some r) : ci_ l G yX0_standingAt cX0_standingAt 4 (some .int) 2 43 (wl_X0_standingAt G A_t A_t_at A_t_home A_t_light A_t_carries A_t_bearer c_t_there c_t_foggy c_t_at) [.ref A_t, .int x1] r (wl_X0_standingAt G A_t A_t_at A_t_home A_t_light A_t_carries A_t_bearer c_t_there c_t_foggy c_t_at) := fun sz => met_intro (by decide) (Nat.le_of_ble_eq_true rfl) (fun p e s m args below meth c ls hsz hC hr hlk hnm hl hw => wn_X0_standingAt hC (fun pc H locs ls hd hw => g_iret hC hr hlk hw rfl rfl hd) hf hl hw)

theorem dX0_countAtHome_0 : decode cX0_countAtHome 0 = .ok (.iconst 0, 1) := by decide +kernel
theorem dX0_countAtHome_1 : decode cX0_countAtHome 1 = .ok (.istore_n 1, 1) := by decide +kernel
theorem dX0_countAtHome_2 : decode cX0_countAtHome 2 = .ok (.iconst 0, 1) := by decide +kernel
theorem dX0_countAtHome_3 : decode cX0_countAtHome 3 = .ok (.istore_n 2, 1) := by decide +kernel
theorem dX0_countAtHome_4 : decode cX0_countAtHome 4 = .ok (.iload_n 2, 1) := by decide +kernel
theorem dX0_countAtHome_5 : decode cX0_countAtHome 5 = .ok (.bipush 6, 2) := by decide +kernel
theorem dX0_countAtHome_7 : decode cX0_countAtHome 7 = .ok (.if_icmp .ge 35, 3) := by decide +kernel
theorem dX0_countAtHome_10 : decode cX0_countAtHome 10 = .ok (.aload_n 0, 1) := by decide +kernel
theorem dX0_countAtHome_11 : decode cX0_countAtHome 11 = .ok (.iload_n 2, 1) := by decide +kernel
theorem dX0_countAtHome_12 : decode cX0_countAtHome 12 = .ok (.invokevirtual 68, 3) := by decide +kernel
theorem dX0_countAtHome_15 : decode cX0_countAtHome 15 = .ok (.ifCond .eq 21, 3) := by decide +kernel
theorem dX0_countAtHome_18 : decode cX0_countAtHome 18 = .ok (.aload_n 0, 1) := by decide +kernel
theorem dX0_countAtHome_19 : decode cX0_countAtHome 19 = .ok (.getfield 19, 3) := by decide +kernel
theorem dX0_countAtHome_22 : decode cX0_countAtHome 22 = .ok (.iload_n 2, 1) := by decide +kernel
theorem dX0_countAtHome_23 : decode cX0_countAtHome 23 = .ok (.iaload, 1) := by decide +kernel
theorem dX0_countAtHome_24 : decode cX0_countAtHome 24 = .ok (.aload_n 0, 1) := by decide +kernel
theorem dX0_countAtHome_25 : decode cX0_countAtHome 25 = .ok (.getfield 23, 3) := by decide +kernel
theorem dX0_countAtHome_28 : decode cX0_countAtHome 28 = .ok (.iload_n 2, 1) := by decide +kernel
theorem dX0_countAtHome_29 : decode cX0_countAtHome 29 = .ok (.iaload, 1) := by decide +kernel
theorem dX0_countAtHome_30 : decode cX0_countAtHome 30 = .ok (.if_icmp .ne 6, 3) := by decide +kernel
theorem dX0_countAtHome_33 : decode cX0_countAtHome 33 = .ok (.iinc 1 1, 3) := by decide +kernel
theorem dX0_countAtHome_36 : decode cX0_countAtHome 36 = .ok (.iinc 2 1, 3) := by decide +kernel
theorem dX0_countAtHome_39 : decode cX0_countAtHome 39 = .ok (.goto (-35), 3) := by decide +kernel
theorem dX0_countAtHome_42 : decode cX0_countAtHome 42 = .ok (.iload_n 1, 1) := by decide +kernel
theorem dX0_countAtHome_43 : decode cX0_countAtHome 43 = .ok (.ireturn, 1) := by decide +kernel
abbrev wl_X0_countAtHome (G : gw_) (A_t : Nat) (A_t_at : Nat) (A_t_home : Nat) (A_t_light : Nat) (A_t_carries : Nat) (A_t_bearer : Nat) (c_t_there : Int32) (c_t_foggy : Int32) (c_t_at : Nat → Int32) (c_t_home : Nat → Int32) : va_W := [ob_ A_t 0 [.int c_t_there, .int c_t_foggy, .ref A_t_at, .ref A_t_home, .ref A_t_light, .ref A_t_carries, .ref A_t_bearer], ia_ G A_t_at 6 c_t_at, ia_ G A_t_home 6 c_t_home]
def fn_X0_countAtHome_b4 (c_t_there : Int32) (c_t_at : Nat → Int32) (c_t_home : Nat → Int32) (rc : Int32 → Int32 → Option (Int32)) (k : Int32 → Option (Int32)) (x1 : Int32) (x2 : Int32) : Option (Int32) :=
  if 6 ≤ x2 then
    k x1
  else
    b1_ (fn_X0_has c_t_there x2) fun r1 =>
    if r1 = 0 then
      rc x1 (x2 + 1)
    else
      ck_ x2 6 <|
      ck_ x2 6 <|
      if (c_t_at (Int32.toNatClampNeg x2)) = (c_t_home (Int32.toNatClampNeg x2)) then
        rc (x1 + 1) (x2 + 1)
      else
        rc x1 (x2 + 1)
def fn_X0_countAtHome_l4 (c_t_there : Int32) (c_t_at : Nat → Int32) (c_t_home : Nat → Int32) (k : Int32 → Option (Int32)) : Nat → Int32 → Int32 → Option (Int32)
  | 0 => fun _ _ => none
  | n + 1 => fun x1 x2 => fn_X0_countAtHome_b4 c_t_there c_t_at c_t_home (fn_X0_countAtHome_l4 c_t_there c_t_at c_t_home k n) k x1 x2
def fn_X0_countAtHome (c_t_there : Int32) (c_t_at : Nat → Int32) (c_t_home : Nat → Int32) : Option (Int32) :=
  fn_X0_countAtHome_l4 c_t_there c_t_at c_t_home (fun v3 =>
    some v3) fu_ 0 0
set_option maxHeartbeats 4000000 in
set_option maxRecDepth 100000 in
theorem wn_X0_countAtHome_l4 {p : Program} {l : Launch} {e : Env} {s : State} {m : MethodId} {args : Array Value} {below : List Frame} {meth : Method} {c : Code} {G : gw_} {A : Nat → Prop} {Q : State → Prop} {A_t : Nat} {A_t_at : Nat} {A_t_home : Nat} {A_t_light : Nat} {A_t_carries : Nat} {A_t_bearer : Nat} {c_t_there : Int32} {c_t_foggy : Int32} {c_t_at : Nat → Int32} {c_t_home : Nat → Int32} {r : Int32} {k : Int32 → Option (Int32)} (hC : cx_ p s m c G cX0_countAtHome 3 RX0) (hret : ∀ (pc : Nat) (H : Heap) (locs : List Loc) (ls : Array Slot), decode cX0_countAtHome pc = .ok (.ireturn, 1) → wd_ G A s.heap (wl_X0_countAtHome G A_t A_t_at A_t_home A_t_light A_t_carries A_t_bearer c_t_there c_t_foggy c_t_at c_t_home) H locs → W p l e { frames := 2, cells := 0, slots := 0, locals := 43 } s m args below meth c H locs 0 0 Q (F0 m pc ls [.int r])) (hk : ∀ (x1 : Int32) (H : Heap) (locs : List Loc) (ls : Array Slot), k x1 = some r → lv_has ls 3 [(1, .int x1)] → wd_ G A s.heap (wl_X0_countAtHome G A_t A_t_at A_t_home A_t_light A_t_carries A_t_bearer c_t_there c_t_foggy c_t_at c_t_home) H locs → W p l e { frames := 2, cells := 0, slots := 0, locals := 43 } s m args below meth c H locs 0 0 Q (F0 m 42 ls [])) : ∀ (n : Nat) (x1 : Int32) (x2 : Int32) (H : Heap) (locs : List Loc) (ls : Array Slot), fn_X0_countAtHome_l4 c_t_there c_t_at c_t_home k n x1 x2 = some r → lv_has ls 3 [(0, .ref A_t), (1, .int x1), (2, .int x2)] → wd_ G A s.heap (wl_X0_countAtHome G A_t A_t_at A_t_home A_t_light A_t_carries A_t_bearer c_t_there c_t_foggy c_t_at c_t_home) H locs → W p l e { frames := 2, cells := 0, slots := 0, locals := 43 } s m args below meth c H locs 0 0 Q (F0 m 4 ls []) := by
  have hx := hC.1
  have hb := hC.2.1
  intro n
  induction n with
  | zero =>
    intro x1 x2 H locs ls hf
    cases (show (none : Option (Int32)) = some _ from hf)
  | succ n hrc =>
    intro x1 x2 H locs ls hf hl hw
    replace hf : fn_X0_countAtHome_b4 c_t_there c_t_at c_t_home (fn_X0_countAtHome_l4 c_t_there c_t_at c_t_home k n) k x1 x2 = some r := hf
    unfold fn_X0_countAtHome_b4 at hf
    refine lv_iload_n hx hb dX0_countAtHome_4 rfl (lv_at hl 2 rfl) ?_
    refine lv_bipush (v := 6) hx hb dX0_countAtHome_5 (by decide) ?_
    refine lv_icmp_ge (tgt := 42) hx hb dX0_countAtHome_7 (by decide) (fun hc => ?_) (fun hc => ?_)
    · replace hf := it_t hc hf
      exact hk x1 _ _ _ hf (lv_sub hl [1] rfl) hw
    · replace hf := it_f hc hf
      refine lv_aload_n hx hb dX0_countAtHome_10 rfl (lv_at hl 0 rfl) ?_
      refine lv_iload_n hx hb dX0_countAtHome_11 rfl (lv_at hl 2 rfl) ?_
      obtain ⟨r1, hq2, hf⟩ := b1_s hf
      refine h_cVi hC hw mvX0_68 (cn_X0_has l G A_t A_t_at A_t_home A_t_light A_t_carries A_t_bearer c_t_there c_t_foggy x2 r1 hq2) [0] rfl (by decide) 0 rfl rfl rfl hl.1 rfl (Nat.le_of_ble_eq_true rfl) ⟨Nat.le_of_ble_eq_true rfl, Nat.le_of_ble_eq_true rfl⟩ ⟨Nat.le_refl _, Nat.le_refl _⟩ dX0_countAtHome_12 (fun H locs hw => ?_)
      refine lv_if_eq (tgt := 36) hx hb dX0_countAtHome_15 (by decide) (fun hc => ?_) (fun hc => ?_)
      · replace hf := it_t hc hf
        refine lv_iinc (v := x2 + 1) (lv' := [(2, .int (x2 + 1)), (0, .ref A_t), (1, .int x1)]) hx hb dX0_countAtHome_36 hl (k := 2) rfl rfl (by decide) rfl (fun ls hl => ?_)
        refine lv_goto (tgt := 4) hx hb dX0_countAtHome_39 (by decide) ?_
        exact hrc x1 (x2 + 1) _ _ _ hf (lv_sub hl [1, 2, 0] rfl) hw
      · replace hf := it_f hc hf
        refine lv_aload_n hx hb dX0_countAtHome_18 rfl (lv_at hl 0 rfl) ?_
        refine g_get hC hw fkX0_19 0 rfl rfl dX0_countAtHome_19 ?_
        refine lv_iload_n hx hb dX0_countAtHome_22 rfl (lv_at hl 2 rfl) ?_
        obtain ⟨hi, hf⟩ := ck_s hf
        refine g_iald hC hw 1 rfl hi dX0_countAtHome_23 ?_
        refine lv_aload_n hx hb dX0_countAtHome_24 rfl (lv_at hl 0 rfl) ?_
        refine g_get hC hw fkX0_23 0 rfl rfl dX0_countAtHome_25 ?_
        refine lv_iload_n hx hb dX0_countAtHome_28 rfl (lv_at hl 2 rfl) ?_
        obtain ⟨hi, hf⟩ := ck_s hf
        refine g_iald hC hw 2 rfl hi dX0_countAtHome_29 ?_
        refine lv_icmp_ne (tgt := 36) hx hb dX0_countAtHome_30 (by decide) (fun hc => ?_) (fun hc => ?_)
        · replace hf := it_f hc hf
          refine lv_iinc (v := x2 + 1) (lv' := [(2, .int (x2 + 1)), (0, .ref A_t), (1, .int x1)]) hx hb dX0_countAtHome_36 hl (k := 2) rfl rfl (by decide) rfl (fun ls hl => ?_)
          refine lv_goto (tgt := 4) hx hb dX0_countAtHome_39 (by decide) ?_
          exact hrc x1 (x2 + 1) _ _ _ hf (lv_sub hl [1, 2, 0] rfl) hw
        · replace hf := it_t hc hf
          refine lv_iinc (v := x1 + 1) (lv' := [(1, .int (x1 + 1)), (0, .ref A_t), (2, .int x2)]) hx hb dX0_countAtHome_33 hl (k := 1) rfl rfl (by decide) rfl (fun ls hl => ?_)
          refine lv_iinc (v := x2 + 1) (lv' := [(2, .int (x2 + 1)), (1, .int (x1 + 1)), (0, .ref A_t)]) hx hb dX0_countAtHome_36 hl (k := 2) rfl rfl (by decide) rfl (fun ls hl => ?_)
          refine lv_goto (tgt := 4) hx hb dX0_countAtHome_39 (by decide) ?_
          exact hrc (x1 + 1) (x2 + 1) _ _ _ hf (lv_sub hl [2, 1, 0] rfl) hw
set_option maxHeartbeats 4000000 in
set_option maxRecDepth 100000 in
theorem wn_X0_countAtHome {p : Program} {l : Launch} {e : Env} {s : State} {m : MethodId} {args : Array Value} {below : List Frame} {meth : Method} {c : Code} {G : gw_} {A : Nat → Prop} {Q : State → Prop} {A_t : Nat} {A_t_at : Nat} {A_t_home : Nat} {A_t_light : Nat} {A_t_carries : Nat} {A_t_bearer : Nat} {c_t_there : Int32} {c_t_foggy : Int32} {c_t_at : Nat → Int32} {c_t_home : Nat → Int32} {r : Int32} (hC : cx_ p s m c G cX0_countAtHome 3 RX0) (hret : ∀ (pc : Nat) (H : Heap) (locs : List Loc) (ls : Array Slot), decode cX0_countAtHome pc = .ok (.ireturn, 1) → wd_ G A s.heap (wl_X0_countAtHome G A_t A_t_at A_t_home A_t_light A_t_carries A_t_bearer c_t_there c_t_foggy c_t_at c_t_home) H locs → W p l e { frames := 2, cells := 0, slots := 0, locals := 43 } s m args below meth c H locs 0 0 Q (F0 m pc ls [.int r])) (hf : fn_X0_countAtHome c_t_there c_t_at c_t_home = some r) {H : Heap} {locs : List Loc} {ls : Array Slot} (hl : lv_has ls 3 [(0, .ref A_t)]) (hw : wd_ G A s.heap (wl_X0_countAtHome G A_t A_t_at A_t_home A_t_light A_t_carries A_t_bearer c_t_there c_t_foggy c_t_at c_t_home) H locs) : W p l e { frames := 2, cells := 0, slots := 0, locals := 43 } s m args below meth c H locs 0 0 Q (F0 m 0 ls []) := by
  have hx := hC.1
  have hb := hC.2.1
  unfold fn_X0_countAtHome at hf
  refine lv_iconst (v := 0) hx hb dX0_countAtHome_0 (by decide) ?_
  refine lv_istore_n (lv' := [(1, .int 0), (0, .ref A_t)]) hx hb dX0_countAtHome_1 rfl hl (by decide) rfl (fun ls hl => ?_)
  refine lv_iconst (v := 0) hx hb dX0_countAtHome_2 (by decide) ?_
  refine lv_istore_n (lv' := [(2, .int 0), (1, .int 0), (0, .ref A_t)]) hx hb dX0_countAtHome_3 rfl hl (by decide) rfl (fun ls hl => ?_)
  refine wn_X0_countAtHome_l4 hC hret (fun v3 H locs ls hf hl hw => ?_) fu_ 0 0 _ _ _ hf (lv_sub hl [2, 1, 0] rfl) hw
  refine lv_iload_n hx hb dX0_countAtHome_42 rfl (lv_at hl 0 rfl) ?_
  have h1_ := t1_ hf
  subst h1_
  exact hret _ _ _ _ dX0_countAtHome_43 hw
set_option maxHeartbeats 4000000 in
set_option maxRecDepth 100000 in
theorem cn_X0_countAtHome (l : Launch) (G : gw_) (A_t : Nat) (A_t_at : Nat) (A_t_home : Nat) (A_t_light : Nat) (A_t_carries : Nat) (A_t_bearer : Nat) (c_t_there : Int32) (c_t_foggy : Int32) (c_t_at : Nat → Int32) (c_t_home : Nat → Int32) (r : Int32) (hf : fn_X0_countAtHome c_t_there c_t_at c_t_home = some r) : ci_ l G yX0_countAtHome cX0_countAtHome 3 (some .int) 2 43 (wl_X0_countAtHome G A_t A_t_at A_t_home A_t_light A_t_carries A_t_bearer c_t_there c_t_foggy c_t_at c_t_home) [.ref A_t] r (wl_X0_countAtHome G A_t A_t_at A_t_home A_t_light A_t_carries A_t_bearer c_t_there c_t_foggy c_t_at c_t_home) := fun sz => met_intro (by decide) (Nat.le_of_ble_eq_true rfl) (fun p e s m args below meth c ls hsz hC hr hlk hnm hl hw => wn_X0_countAtHome hC (fun pc H locs ls hd hw => g_iret hC hr hlk hw rfl rfl hd) hf hl hw)

theorem dX8_between_0 : decode cX8_between 0 = .ok (.aload_n 0, 1) := by decide +kernel
theorem dX8_between_1 : decode cX8_between 1 = .ok (.getfield 15, 3) := by decide +kernel
theorem dX8_between_4 : decode cX8_between 4 = .ok (.iload_n 1, 1) := by decide +kernel
theorem dX8_between_5 : decode cX8_between 5 = .ok (.bipush 12, 2) := by decide +kernel
theorem dX8_between_7 : decode cX8_between 7 = .ok (.imul, 1) := by decide +kernel
theorem dX8_between_8 : decode cX8_between 8 = .ok (.iload_n 2, 1) := by decide +kernel
theorem dX8_between_9 : decode cX8_between 9 = .ok (.iadd, 1) := by decide +kernel
theorem dX8_between_10 : decode cX8_between 10 = .ok (.iaload, 1) := by decide +kernel
theorem dX8_between_11 : decode cX8_between 11 = .ok (.ireturn, 1) := by decide +kernel
abbrev wl_X8_between (G : gw_) (A_t : Nat) (A_t_planks : Nat) (A_t_least : Nat) (A_t_neighbours : Nat) (c_t_least : Nat → Int32) : va_W := [ob_ A_t 8 [.ref A_t_planks, .ref A_t_least, .ref A_t_neighbours], ia_ G A_t_least 144 c_t_least]
def fn_X8_between (c_t_least : Nat → Int32) (x1 : Int32) (x2 : Int32) : Option (Int32) :=
  ck_ ((x1 * 12) + x2) 144 <|
  some (c_t_least (Int32.toNatClampNeg ((x1 * 12) + x2)))
set_option maxHeartbeats 4000000 in
set_option maxRecDepth 100000 in
theorem wn_X8_between {p : Program} {l : Launch} {e : Env} {s : State} {m : MethodId} {args : Array Value} {below : List Frame} {meth : Method} {c : Code} {G : gw_} {A : Nat → Prop} {Q : State → Prop} {A_t : Nat} {A_t_planks : Nat} {A_t_least : Nat} {A_t_neighbours : Nat} {c_t_least : Nat → Int32} {r : Int32} {x1 : Int32} {x2 : Int32} (hC : cx_ p s m c G cX8_between 3 RX8) (hret : ∀ (pc : Nat) (H : Heap) (locs : List Loc) (ls : Array Slot), decode cX8_between pc = .ok (.ireturn, 1) → wd_ G A s.heap (wl_X8_between G A_t A_t_planks A_t_least A_t_neighbours c_t_least) H locs → W p l e { frames := 0, cells := 0, slots := 0, locals := 0 } s m args below meth c H locs 0 0 Q (F0 m pc ls [.int r])) (hf : fn_X8_between c_t_least x1 x2 = some r) {H : Heap} {locs : List Loc} {ls : Array Slot} (hl : lv_has ls 3 [(0, .ref A_t), (1, .int x1), (2, .int x2)]) (hw : wd_ G A s.heap (wl_X8_between G A_t A_t_planks A_t_least A_t_neighbours c_t_least) H locs) : W p l e { frames := 0, cells := 0, slots := 0, locals := 0 } s m args below meth c H locs 0 0 Q (F0 m 0 ls []) := by
  have hx := hC.1
  have hb := hC.2.1
  unfold fn_X8_between at hf
  refine lv_aload_n hx hb dX8_between_0 rfl (lv_at hl 0 rfl) ?_
  refine g_get hC hw fkX8_15 0 rfl rfl dX8_between_1 ?_
  refine lv_iload_n hx hb dX8_between_4 rfl (lv_at hl 1 rfl) ?_
  refine lv_bipush (v := 12) hx hb dX8_between_5 (by decide) ?_
  refine lv_imul hx hb dX8_between_7 ?_
  refine lv_iload_n hx hb dX8_between_8 rfl (lv_at hl 2 rfl) ?_
  refine lv_iadd hx hb dX8_between_9 ?_
  obtain ⟨hi, hf⟩ := ck_s hf
  refine g_iald hC hw 1 rfl hi dX8_between_10 ?_
  have h1_ := t1_ hf
  subst h1_
  exact hret _ _ _ _ dX8_between_11 hw
set_option maxHeartbeats 4000000 in
set_option maxRecDepth 100000 in
theorem cn_X8_between (l : Launch) (G : gw_) (A_t : Nat) (A_t_planks : Nat) (A_t_least : Nat) (A_t_neighbours : Nat) (c_t_least : Nat → Int32) (x1 : Int32) (x2 : Int32) (r : Int32) (hf : fn_X8_between c_t_least x1 x2 = some r) : ci_ l G yX8_between cX8_between 3 (some .int) 0 0 (wl_X8_between G A_t A_t_planks A_t_least A_t_neighbours c_t_least) [.ref A_t, .int x1, .int x2] r (wl_X8_between G A_t A_t_planks A_t_least A_t_neighbours c_t_least) := fun sz => met_intro (by decide) (Nat.le_of_ble_eq_true rfl) (fun p e s m args below meth c ls hsz hC hr hlk hnm hl hw => wn_X8_between hC (fun pc H locs ls hd hw => g_iret hC hr hlk hw rfl rfl hd) hf hl hw)

theorem dX0_costsHome_0 : decode cX0_costsHome 0 = .ok (.aload_n 1, 1) := by decide +kernel
theorem dX0_costsHome_1 : decode cX0_costsHome 1 = .ok (.aload_n 0, 1) := by decide +kernel
theorem dX0_costsHome_2 : decode cX0_costsHome 2 = .ok (.getfield 19, 3) := by decide +kernel
theorem dX0_costsHome_5 : decode cX0_costsHome 5 = .ok (.iload_n 2, 1) := by decide +kernel
theorem dX0_costsHome_6 : decode cX0_costsHome 6 = .ok (.iaload, 1) := by decide +kernel
theorem dX0_costsHome_7 : decode cX0_costsHome 7 = .ok (.aload_n 0, 1) := by decide +kernel
theorem dX0_costsHome_8 : decode cX0_costsHome 8 = .ok (.getfield 23, 3) := by decide +kernel
theorem dX0_costsHome_11 : decode cX0_costsHome 11 = .ok (.iload_n 2, 1) := by decide +kernel
theorem dX0_costsHome_12 : decode cX0_costsHome 12 = .ok (.iaload, 1) := by decide +kernel
theorem dX0_costsHome_13 : decode cX0_costsHome 13 = .ok (.invokevirtual 87, 3) := by decide +kernel
theorem dX0_costsHome_16 : decode cX0_costsHome 16 = .ok (.ireturn, 1) := by decide +kernel
abbrev wl_X0_costsHome (G : gw_) (A_t : Nat) (A_t_at : Nat) (A_t_home : Nat) (A_t_light : Nat) (A_t_carries : Nat) (A_t_bearer : Nat) (A_q1 : Nat) (A_q1_planks : Nat) (A_q1_least : Nat) (A_q1_neighbours : Nat) (c_t_there : Int32) (c_t_foggy : Int32) (c_t_at : Nat → Int32) (c_t_home : Nat → Int32) (c_q1_least : Nat → Int32) : va_W := [ob_ A_t 0 [.int c_t_there, .int c_t_foggy, .ref A_t_at, .ref A_t_home, .ref A_t_light, .ref A_t_carries, .ref A_t_bearer], ia_ G A_t_at 6 c_t_at, ia_ G A_t_home 6 c_t_home, ob_ A_q1 8 [.ref A_q1_planks, .ref A_q1_least, .ref A_q1_neighbours], ia_ G A_q1_least 144 c_q1_least]
def fn_X0_costsHome (c_t_at : Nat → Int32) (c_t_home : Nat → Int32) (c_q1_least : Nat → Int32) (x2 : Int32) : Option (Int32) :=
  ck_ x2 6 <|
  ck_ x2 6 <|
  b1_ (fn_X8_between c_q1_least (c_t_at (Int32.toNatClampNeg x2)) (c_t_home (Int32.toNatClampNeg x2))) fun r1 =>
  some r1
set_option maxHeartbeats 4000000 in
set_option maxRecDepth 100000 in
theorem wn_X0_costsHome {p : Program} {l : Launch} {e : Env} {s : State} {m : MethodId} {args : Array Value} {below : List Frame} {meth : Method} {c : Code} {G : gw_} {A : Nat → Prop} {Q : State → Prop} {A_t : Nat} {A_t_at : Nat} {A_t_home : Nat} {A_t_light : Nat} {A_t_carries : Nat} {A_t_bearer : Nat} {A_q1 : Nat} {A_q1_planks : Nat} {A_q1_least : Nat} {A_q1_neighbours : Nat} {c_t_there : Int32} {c_t_foggy : Int32} {c_t_at : Nat → Int32} {c_t_home : Nat → Int32} {c_q1_least : Nat → Int32} {r : Int32} {x2 : Int32} (hC : cx_ p s m c G cX0_costsHome 3 RX0) (hret : ∀ (pc : Nat) (H : Heap) (locs : List Loc) (ls : Array Slot), decode cX0_costsHome pc = .ok (.ireturn, 1) → wd_ G A s.heap (wl_X0_costsHome G A_t A_t_at A_t_home A_t_light A_t_carries A_t_bearer A_q1 A_q1_planks A_q1_least A_q1_neighbours c_t_there c_t_foggy c_t_at c_t_home c_q1_least) H locs → W p l e { frames := 1, cells := 0, slots := 0, locals := 22 } s m args below meth c H locs 0 0 Q (F0 m pc ls [.int r])) (hf : fn_X0_costsHome c_t_at c_t_home c_q1_least x2 = some r) {H : Heap} {locs : List Loc} {ls : Array Slot} (hl : lv_has ls 3 [(0, .ref A_t), (1, .ref A_q1), (2, .int x2)]) (hw : wd_ G A s.heap (wl_X0_costsHome G A_t A_t_at A_t_home A_t_light A_t_carries A_t_bearer A_q1 A_q1_planks A_q1_least A_q1_neighbours c_t_there c_t_foggy c_t_at c_t_home c_q1_least) H locs) : W p l e { frames := 1, cells := 0, slots := 0, locals := 22 } s m args below meth c H locs 0 0 Q (F0 m 0 ls []) := by
  have hx := hC.1
  have hb := hC.2.1
  unfold fn_X0_costsHome at hf
  refine lv_aload_n hx hb dX0_costsHome_0 rfl (lv_at hl 1 rfl) ?_
  refine lv_aload_n hx hb dX0_costsHome_1 rfl (lv_at hl 0 rfl) ?_
  refine g_get hC hw fkX0_19 0 rfl rfl dX0_costsHome_2 ?_
  refine lv_iload_n hx hb dX0_costsHome_5 rfl (lv_at hl 2 rfl) ?_
  obtain ⟨hi, hf⟩ := ck_s hf
  refine g_iald hC hw 1 rfl hi dX0_costsHome_6 ?_
  refine lv_aload_n hx hb dX0_costsHome_7 rfl (lv_at hl 0 rfl) ?_
  refine g_get hC hw fkX0_23 0 rfl rfl dX0_costsHome_8 ?_
  refine lv_iload_n hx hb dX0_costsHome_11 rfl (lv_at hl 2 rfl) ?_
  obtain ⟨hi, hf⟩ := ck_s hf
  refine g_iald hC hw 2 rfl hi dX0_costsHome_12 ?_
  obtain ⟨r1, hq2, hf⟩ := b1_s hf
  refine h_cVi hC hw mvX0_87 (cn_X8_between l G A_q1 A_q1_planks A_q1_least A_q1_neighbours c_q1_least (c_t_at (Int32.toNatClampNeg x2)) (c_t_home (Int32.toNatClampNeg x2)) r1 hq2) [3, 4] rfl (by decide) 3 rfl rfl rfl hl.1 rfl (Nat.le_of_ble_eq_true rfl) ⟨Nat.le_of_ble_eq_true rfl, Nat.le_of_ble_eq_true rfl⟩ ⟨Nat.le_refl _, Nat.le_refl _⟩ dX0_costsHome_13 (fun H locs hw => ?_)
  have h1_ := t1_ hf
  subst h1_
  exact hret _ _ _ _ dX0_costsHome_16 hw
set_option maxHeartbeats 4000000 in
set_option maxRecDepth 100000 in
theorem cn_X0_costsHome (l : Launch) (G : gw_) (A_t : Nat) (A_t_at : Nat) (A_t_home : Nat) (A_t_light : Nat) (A_t_carries : Nat) (A_t_bearer : Nat) (A_q1 : Nat) (A_q1_planks : Nat) (A_q1_least : Nat) (A_q1_neighbours : Nat) (c_t_there : Int32) (c_t_foggy : Int32) (c_t_at : Nat → Int32) (c_t_home : Nat → Int32) (c_q1_least : Nat → Int32) (x2 : Int32) (r : Int32) (hf : fn_X0_costsHome c_t_at c_t_home c_q1_least x2 = some r) : ci_ l G yX0_costsHome cX0_costsHome 3 (some .int) 1 22 (wl_X0_costsHome G A_t A_t_at A_t_home A_t_light A_t_carries A_t_bearer A_q1 A_q1_planks A_q1_least A_q1_neighbours c_t_there c_t_foggy c_t_at c_t_home c_q1_least) [.ref A_t, .ref A_q1, .int x2] r (wl_X0_costsHome G A_t A_t_at A_t_home A_t_light A_t_carries A_t_bearer A_q1 A_q1_planks A_q1_least A_q1_neighbours c_t_there c_t_foggy c_t_at c_t_home c_q1_least) := fun sz => met_intro (by decide) (Nat.le_of_ble_eq_true rfl) (fun p e s m args below meth c ls hsz hC hr hlk hnm hl hw => wn_X0_costsHome hC (fun pc H locs ls hd hw => g_iret hC hr hlk hw rfl rfl hd) hf hl hw)

theorem dX0_lightAfter_0 : decode cX0_lightAfter 0 = .ok (.aload_n 1, 1) := by decide +kernel
theorem dX0_lightAfter_1 : decode cX0_lightAfter 1 = .ok (.aload_n 0, 1) := by decide +kernel
theorem dX0_lightAfter_2 : decode cX0_lightAfter 2 = .ok (.getfield 19, 3) := by decide +kernel
theorem dX0_lightAfter_5 : decode cX0_lightAfter 5 = .ok (.iload_n 2, 1) := by decide +kernel
theorem dX0_lightAfter_6 : decode cX0_lightAfter 6 = .ok (.iaload, 1) := by decide +kernel
theorem dX0_lightAfter_7 : decode cX0_lightAfter 7 = .ok (.iload_n 3, 1) := by decide +kernel
theorem dX0_lightAfter_8 : decode cX0_lightAfter 8 = .ok (.invokevirtual 87, 3) := by decide +kernel
theorem dX0_lightAfter_11 : decode cX0_lightAfter 11 = .ok (.istore 4, 2) := by decide +kernel
theorem dX0_lightAfter_13 : decode cX0_lightAfter 13 = .ok (.iload 4, 2) := by decide +kernel
theorem dX0_lightAfter_15 : decode cX0_lightAfter 15 = .ok (.aload_n 0, 1) := by decide +kernel
theorem dX0_lightAfter_16 : decode cX0_lightAfter 16 = .ok (.getfield 26, 3) := by decide +kernel
theorem dX0_lightAfter_19 : decode cX0_lightAfter 19 = .ok (.iload_n 2, 1) := by decide +kernel
theorem dX0_lightAfter_20 : decode cX0_lightAfter 20 = .ok (.iaload, 1) := by decide +kernel
theorem dX0_lightAfter_21 : decode cX0_lightAfter 21 = .ok (.if_icmp .le 8, 3) := by decide +kernel
theorem dX0_lightAfter_24 : decode cX0_lightAfter 24 = .ok (.bipush (-6), 2) := by decide +kernel
theorem dX0_lightAfter_26 : decode cX0_lightAfter 26 = .ok (.goto 12, 3) := by decide +kernel
theorem dX0_lightAfter_29 : decode cX0_lightAfter 29 = .ok (.aload_n 0, 1) := by decide +kernel
theorem dX0_lightAfter_30 : decode cX0_lightAfter 30 = .ok (.getfield 26, 3) := by decide +kernel
theorem dX0_lightAfter_33 : decode cX0_lightAfter 33 = .ok (.iload_n 2, 1) := by decide +kernel
theorem dX0_lightAfter_34 : decode cX0_lightAfter 34 = .ok (.iaload, 1) := by decide +kernel
theorem dX0_lightAfter_35 : decode cX0_lightAfter 35 = .ok (.iload 4, 2) := by decide +kernel
theorem dX0_lightAfter_37 : decode cX0_lightAfter 37 = .ok (.isub, 1) := by decide +kernel
theorem dX0_lightAfter_38 : decode cX0_lightAfter 38 = .ok (.ireturn, 1) := by decide +kernel
abbrev wl_X0_lightAfter (G : gw_) (A_t : Nat) (A_t_at : Nat) (A_t_home : Nat) (A_t_light : Nat) (A_t_carries : Nat) (A_t_bearer : Nat) (A_q1 : Nat) (A_q1_planks : Nat) (A_q1_least : Nat) (A_q1_neighbours : Nat) (c_t_there : Int32) (c_t_foggy : Int32) (c_t_at : Nat → Int32) (c_t_light : Nat → Int32) (c_q1_least : Nat → Int32) : va_W := [ob_ A_t 0 [.int c_t_there, .int c_t_foggy, .ref A_t_at, .ref A_t_home, .ref A_t_light, .ref A_t_carries, .ref A_t_bearer], ia_ G A_t_at 6 c_t_at, ia_ G A_t_light 6 c_t_light, ob_ A_q1 8 [.ref A_q1_planks, .ref A_q1_least, .ref A_q1_neighbours], ia_ G A_q1_least 144 c_q1_least]
def fn_X0_lightAfter (c_t_at : Nat → Int32) (c_t_light : Nat → Int32) (c_q1_least : Nat → Int32) (x2 : Int32) (x3 : Int32) : Option (Int32) :=
  ck_ x2 6 <|
  b1_ (fn_X8_between c_q1_least (c_t_at (Int32.toNatClampNeg x2)) x3) fun r1 =>
  ck_ x2 6 <|
  if r1 ≤ (c_t_light (Int32.toNatClampNeg x2)) then
    ck_ x2 6 <|
    some ((c_t_light (Int32.toNatClampNeg x2)) - r1)
  else
    some (-6)
set_option maxHeartbeats 4000000 in
set_option maxRecDepth 100000 in
theorem wn_X0_lightAfter {p : Program} {l : Launch} {e : Env} {s : State} {m : MethodId} {args : Array Value} {below : List Frame} {meth : Method} {c : Code} {G : gw_} {A : Nat → Prop} {Q : State → Prop} {A_t : Nat} {A_t_at : Nat} {A_t_home : Nat} {A_t_light : Nat} {A_t_carries : Nat} {A_t_bearer : Nat} {A_q1 : Nat} {A_q1_planks : Nat} {A_q1_least : Nat} {A_q1_neighbours : Nat} {c_t_there : Int32} {c_t_foggy : Int32} {c_t_at : Nat → Int32} {c_t_light : Nat → Int32} {c_q1_least : Nat → Int32} {r : Int32} {x2 : Int32} {x3 : Int32} (hC : cx_ p s m c G cX0_lightAfter 5 RX0) (hret : ∀ (pc : Nat) (H : Heap) (locs : List Loc) (ls : Array Slot), decode cX0_lightAfter pc = .ok (.ireturn, 1) → wd_ G A s.heap (wl_X0_lightAfter G A_t A_t_at A_t_home A_t_light A_t_carries A_t_bearer A_q1 A_q1_planks A_q1_least A_q1_neighbours c_t_there c_t_foggy c_t_at c_t_light c_q1_least) H locs → W p l e { frames := 1, cells := 0, slots := 0, locals := 22 } s m args below meth c H locs 0 0 Q (F0 m pc ls [.int r])) (hf : fn_X0_lightAfter c_t_at c_t_light c_q1_least x2 x3 = some r) {H : Heap} {locs : List Loc} {ls : Array Slot} (hl : lv_has ls 5 [(0, .ref A_t), (1, .ref A_q1), (2, .int x2), (3, .int x3)]) (hw : wd_ G A s.heap (wl_X0_lightAfter G A_t A_t_at A_t_home A_t_light A_t_carries A_t_bearer A_q1 A_q1_planks A_q1_least A_q1_neighbours c_t_there c_t_foggy c_t_at c_t_light c_q1_least) H locs) : W p l e { frames := 1, cells := 0, slots := 0, locals := 22 } s m args below meth c H locs 0 0 Q (F0 m 0 ls []) := by
  have hx := hC.1
  have hb := hC.2.1
  unfold fn_X0_lightAfter at hf
  refine lv_aload_n hx hb dX0_lightAfter_0 rfl (lv_at hl 1 rfl) ?_
  refine lv_aload_n hx hb dX0_lightAfter_1 rfl (lv_at hl 0 rfl) ?_
  refine g_get hC hw fkX0_19 0 rfl rfl dX0_lightAfter_2 ?_
  refine lv_iload_n hx hb dX0_lightAfter_5 rfl (lv_at hl 2 rfl) ?_
  obtain ⟨hi, hf⟩ := ck_s hf
  refine g_iald hC hw 1 rfl hi dX0_lightAfter_6 ?_
  refine lv_iload_n hx hb dX0_lightAfter_7 rfl (lv_at hl 3 rfl) ?_
  obtain ⟨r1, hq2, hf⟩ := b1_s hf
  refine h_cVi hC hw mvX0_87 (cn_X8_between l G A_q1 A_q1_planks A_q1_least A_q1_neighbours c_q1_least (c_t_at (Int32.toNatClampNeg x2)) x3 r1 hq2) [3, 4] rfl (by decide) 3 rfl rfl rfl hl.1 rfl (Nat.le_of_ble_eq_true rfl) ⟨Nat.le_of_ble_eq_true rfl, Nat.le_of_ble_eq_true rfl⟩ ⟨Nat.le_refl _, Nat.le_refl _⟩ dX0_lightAfter_8 (fun H locs hw => ?_)
  refine lv_istore (lv' := [(4, .int r1), (0, .ref A_t), (1, .ref A_q1), (2, .int x2), (3, .int x3)]) hx hb dX0_lightAfter_11 hl (by decide) rfl (fun ls hl => ?_)
  refine lv_iload hx hb dX0_lightAfter_13 (lv_at hl 0 rfl) ?_
  refine lv_aload_n hx hb dX0_lightAfter_15 rfl (lv_at hl 1 rfl) ?_
  refine g_get hC hw fkX0_26 0 rfl rfl dX0_lightAfter_16 ?_
  refine lv_iload_n hx hb dX0_lightAfter_19 rfl (lv_at hl 3 rfl) ?_
  obtain ⟨hi, hf⟩ := ck_s hf
  refine g_iald hC hw 2 rfl hi dX0_lightAfter_20 ?_
  refine lv_icmp_le (tgt := 29) hx hb dX0_lightAfter_21 (by decide) (fun hc => ?_) (fun hc => ?_)
  · replace hf := it_t hc hf
    refine lv_aload_n hx hb dX0_lightAfter_29 rfl (lv_at hl 1 rfl) ?_
    refine g_get hC hw fkX0_26 0 rfl rfl dX0_lightAfter_30 ?_
    refine lv_iload_n hx hb dX0_lightAfter_33 rfl (lv_at hl 3 rfl) ?_
    obtain ⟨hi, hf⟩ := ck_s hf
    refine g_iald hC hw 2 rfl hi dX0_lightAfter_34 ?_
    refine lv_iload hx hb dX0_lightAfter_35 (lv_at hl 0 rfl) ?_
    refine lv_isub hx hb dX0_lightAfter_37 ?_
    have h1_ := t1_ hf
    subst h1_
    exact hret _ _ _ _ dX0_lightAfter_38 hw
  · replace hf := it_f hc hf
    refine lv_bipush (v := (-6)) hx hb dX0_lightAfter_24 (by decide) ?_
    refine lv_goto (tgt := 38) hx hb dX0_lightAfter_26 (by decide) ?_
    have h1_ := t1_ hf
    subst h1_
    exact hret _ _ _ _ dX0_lightAfter_38 hw
set_option maxHeartbeats 4000000 in
set_option maxRecDepth 100000 in
theorem cn_X0_lightAfter (l : Launch) (G : gw_) (A_t : Nat) (A_t_at : Nat) (A_t_home : Nat) (A_t_light : Nat) (A_t_carries : Nat) (A_t_bearer : Nat) (A_q1 : Nat) (A_q1_planks : Nat) (A_q1_least : Nat) (A_q1_neighbours : Nat) (c_t_there : Int32) (c_t_foggy : Int32) (c_t_at : Nat → Int32) (c_t_light : Nat → Int32) (c_q1_least : Nat → Int32) (x2 : Int32) (x3 : Int32) (r : Int32) (hf : fn_X0_lightAfter c_t_at c_t_light c_q1_least x2 x3 = some r) : ci_ l G yX0_lightAfter cX0_lightAfter 5 (some .int) 1 22 (wl_X0_lightAfter G A_t A_t_at A_t_home A_t_light A_t_carries A_t_bearer A_q1 A_q1_planks A_q1_least A_q1_neighbours c_t_there c_t_foggy c_t_at c_t_light c_q1_least) [.ref A_t, .ref A_q1, .int x2, .int x3] r (wl_X0_lightAfter G A_t A_t_at A_t_home A_t_light A_t_carries A_t_bearer A_q1 A_q1_planks A_q1_least A_q1_neighbours c_t_there c_t_foggy c_t_at c_t_light c_q1_least) := fun sz => met_intro (by decide) (Nat.le_of_ble_eq_true rfl) (fun p e s m args below meth c ls hsz hC hr hlk hnm hl hw => wn_X0_lightAfter hC (fun pc H locs ls hd hw => g_iret hC hr hlk hw rfl rfl hd) hf hl hw)

theorem dX0_isAhead_0 : decode cX0_isAhead 0 = .ok (.iload_n 0, 1) := by decide +kernel
theorem dX0_isAhead_1 : decode cX0_isAhead 1 = .ok (.iload_n 2, 1) := by decide +kernel
theorem dX0_isAhead_2 : decode cX0_isAhead 2 = .ok (.if_icmp .lt 13, 3) := by decide +kernel
theorem dX0_isAhead_5 : decode cX0_isAhead 5 = .ok (.iload_n 0, 1) := by decide +kernel
theorem dX0_isAhead_6 : decode cX0_isAhead 6 = .ok (.iload_n 2, 1) := by decide +kernel
theorem dX0_isAhead_7 : decode cX0_isAhead 7 = .ok (.if_icmp .ne 12, 3) := by decide +kernel
theorem dX0_isAhead_10 : decode cX0_isAhead 10 = .ok (.iload_n 1, 1) := by decide +kernel
theorem dX0_isAhead_11 : decode cX0_isAhead 11 = .ok (.iload_n 3, 1) := by decide +kernel
theorem dX0_isAhead_12 : decode cX0_isAhead 12 = .ok (.if_icmp .ge 7, 3) := by decide +kernel
theorem dX0_isAhead_15 : decode cX0_isAhead 15 = .ok (.iconst 1, 1) := by decide +kernel
theorem dX0_isAhead_16 : decode cX0_isAhead 16 = .ok (.goto 4, 3) := by decide +kernel
theorem dX0_isAhead_19 : decode cX0_isAhead 19 = .ok (.iconst 0, 1) := by decide +kernel
theorem dX0_isAhead_20 : decode cX0_isAhead 20 = .ok (.ireturn, 1) := by decide +kernel
def fn_X0_isAhead (x0 : Int32) (x1 : Int32) (x2 : Int32) (x3 : Int32) : Option (Int32) :=
  if x0 < x2 then
    some 1
  else
    if x0 = x2 then
      if x3 ≤ x1 then
        some 0
      else
        some 1
    else
      some 0
set_option maxHeartbeats 4000000 in
set_option maxRecDepth 100000 in
theorem wn_X0_isAhead {p : Program} {l : Launch} {e : Env} {s : State} {m : MethodId} {args : Array Value} {below : List Frame} {meth : Method} {c : Code} {G : gw_} {A : Nat → Prop} {Q : State → Prop} {r : Int32} {x0 : Int32} {x1 : Int32} {x2 : Int32} {x3 : Int32} (hC : cx_ p s m c G cX0_isAhead 4 RX0) (hret : ∀ (pc : Nat) (H : Heap) (locs : List Loc) (ls : Array Slot), narrow .boolean (.int r) = .int r → decode cX0_isAhead pc = .ok (.ireturn, 1) → wd_ G A s.heap [] H locs → W p l e { frames := 0, cells := 0, slots := 0, locals := 0 } s m args below meth c H locs 0 0 Q (F0 m pc ls [.int r])) (hf : fn_X0_isAhead x0 x1 x2 x3 = some r) {H : Heap} {locs : List Loc} {ls : Array Slot} (hl : lv_has ls 4 [(0, .int x0), (1, .int x1), (2, .int x2), (3, .int x3)]) (hw : wd_ G A s.heap [] H locs) : W p l e { frames := 0, cells := 0, slots := 0, locals := 0 } s m args below meth c H locs 0 0 Q (F0 m 0 ls []) := by
  have hx := hC.1
  have hb := hC.2.1
  unfold fn_X0_isAhead at hf
  refine lv_iload_n hx hb dX0_isAhead_0 rfl (lv_at hl 0 rfl) ?_
  refine lv_iload_n hx hb dX0_isAhead_1 rfl (lv_at hl 2 rfl) ?_
  refine lv_icmp_lt (tgt := 15) hx hb dX0_isAhead_2 (by decide) (fun hc => ?_) (fun hc => ?_)
  · replace hf := it_t hc hf
    refine lv_iconst (v := 1) hx hb dX0_isAhead_15 (by decide) ?_
    refine lv_goto (tgt := 20) hx hb dX0_isAhead_16 (by decide) ?_
    have h1_ := t1_ hf
    subst h1_
    exact hret _ _ _ _ rfl dX0_isAhead_20 hw
  · replace hf := it_f hc hf
    refine lv_iload_n hx hb dX0_isAhead_5 rfl (lv_at hl 0 rfl) ?_
    refine lv_iload_n hx hb dX0_isAhead_6 rfl (lv_at hl 2 rfl) ?_
    refine lv_icmp_ne (tgt := 19) hx hb dX0_isAhead_7 (by decide) (fun hc => ?_) (fun hc => ?_)
    · replace hf := it_f hc hf
      refine lv_iconst (v := 0) hx hb dX0_isAhead_19 (by decide) ?_
      have h1_ := t1_ hf
      subst h1_
      exact hret _ _ _ _ rfl dX0_isAhead_20 hw
    · replace hf := it_t hc hf
      refine lv_iload_n hx hb dX0_isAhead_10 rfl (lv_at hl 1 rfl) ?_
      refine lv_iload_n hx hb dX0_isAhead_11 rfl (lv_at hl 3 rfl) ?_
      refine lv_icmp_ge (tgt := 19) hx hb dX0_isAhead_12 (by decide) (fun hc => ?_) (fun hc => ?_)
      · replace hf := it_t hc hf
        refine lv_iconst (v := 0) hx hb dX0_isAhead_19 (by decide) ?_
        have h1_ := t1_ hf
        subst h1_
        exact hret _ _ _ _ rfl dX0_isAhead_20 hw
      · replace hf := it_f hc hf
        refine lv_iconst (v := 1) hx hb dX0_isAhead_15 (by decide) ?_
        refine lv_goto (tgt := 20) hx hb dX0_isAhead_16 (by decide) ?_
        have h1_ := t1_ hf
        subst h1_
        exact hret _ _ _ _ rfl dX0_isAhead_20 hw
set_option maxHeartbeats 4000000 in
set_option maxRecDepth 100000 in
theorem cn_X0_isAhead (l : Launch) (G : gw_) (x0 : Int32) (x1 : Int32) (x2 : Int32) (x3 : Int32) (r : Int32) (hf : fn_X0_isAhead x0 x1 x2 x3 = some r) : ci_ l G yX0_isAhead cX0_isAhead 4 (some .boolean) 0 0 [] [.int x0, .int x1, .int x2, .int x3] r [] := fun sz => met_intro (by decide) (Nat.le_of_ble_eq_true rfl) (fun p e s m args below meth c ls hsz hC hr hlk hnm hl hw => wn_X0_isAhead hC (fun pc H locs ls hn hd hw => g_iret hC hr hlk hw rfl hn hd) hf hl hw)

theorem dX0_countAheadHome_0 : decode cX0_countAheadHome 0 = .ok (.aload_n 0, 1) := by decide +kernel
theorem dX0_countAheadHome_1 : decode cX0_countAheadHome 1 = .ok (.aload_n 1, 1) := by decide +kernel
theorem dX0_countAheadHome_2 : decode cX0_countAheadHome 2 = .ok (.iload_n 2, 1) := by decide +kernel
theorem dX0_countAheadHome_3 : decode cX0_countAheadHome 3 = .ok (.invokevirtual 96, 3) := by decide +kernel
theorem dX0_countAheadHome_6 : decode cX0_countAheadHome 6 = .ok (.istore_n 3, 1) := by decide +kernel
theorem dX0_countAheadHome_7 : decode cX0_countAheadHome 7 = .ok (.iconst 0, 1) := by decide +kernel
theorem dX0_countAheadHome_8 : decode cX0_countAheadHome 8 = .ok (.istore 4, 2) := by decide +kernel
theorem dX0_countAheadHome_10 : decode cX0_countAheadHome 10 = .ok (.iconst 0, 1) := by decide +kernel
theorem dX0_countAheadHome_11 : decode cX0_countAheadHome 11 = .ok (.istore 5, 2) := by decide +kernel
theorem dX0_countAheadHome_13 : decode cX0_countAheadHome 13 = .ok (.iload 5, 2) := by decide +kernel
theorem dX0_countAheadHome_15 : decode cX0_countAheadHome 15 = .ok (.bipush 6, 2) := by decide +kernel
theorem dX0_countAheadHome_17 : decode cX0_countAheadHome 17 = .ok (.if_icmp .ge 38, 3) := by decide +kernel
theorem dX0_countAheadHome_20 : decode cX0_countAheadHome 20 = .ok (.aload_n 0, 1) := by decide +kernel
theorem dX0_countAheadHome_21 : decode cX0_countAheadHome 21 = .ok (.iload 5, 2) := by decide +kernel
theorem dX0_countAheadHome_23 : decode cX0_countAheadHome 23 = .ok (.invokevirtual 68, 3) := by decide +kernel
theorem dX0_countAheadHome_26 : decode cX0_countAheadHome 26 = .ok (.ifCond .eq 23, 3) := by decide +kernel
theorem dX0_countAheadHome_29 : decode cX0_countAheadHome 29 = .ok (.aload_n 0, 1) := by decide +kernel
theorem dX0_countAheadHome_30 : decode cX0_countAheadHome 30 = .ok (.aload_n 1, 1) := by decide +kernel
theorem dX0_countAheadHome_31 : decode cX0_countAheadHome 31 = .ok (.iload 5, 2) := by decide +kernel
theorem dX0_countAheadHome_33 : decode cX0_countAheadHome 33 = .ok (.invokevirtual 96, 3) := by decide +kernel
theorem dX0_countAheadHome_36 : decode cX0_countAheadHome 36 = .ok (.iload 5, 2) := by decide +kernel
theorem dX0_countAheadHome_38 : decode cX0_countAheadHome 38 = .ok (.iload_n 3, 1) := by decide +kernel
theorem dX0_countAheadHome_39 : decode cX0_countAheadHome 39 = .ok (.iload_n 2, 1) := by decide +kernel
theorem dX0_countAheadHome_40 : decode cX0_countAheadHome 40 = .ok (.invokestatic 99, 3) := by decide +kernel
theorem dX0_countAheadHome_43 : decode cX0_countAheadHome 43 = .ok (.ifCond .eq 6, 3) := by decide +kernel
theorem dX0_countAheadHome_46 : decode cX0_countAheadHome 46 = .ok (.iinc 4 1, 3) := by decide +kernel
theorem dX0_countAheadHome_49 : decode cX0_countAheadHome 49 = .ok (.iinc 5 1, 3) := by decide +kernel
theorem dX0_countAheadHome_52 : decode cX0_countAheadHome 52 = .ok (.goto (-39), 3) := by decide +kernel
theorem dX0_countAheadHome_55 : decode cX0_countAheadHome 55 = .ok (.iload 4, 2) := by decide +kernel
theorem dX0_countAheadHome_57 : decode cX0_countAheadHome 57 = .ok (.ireturn, 1) := by decide +kernel
abbrev wl_X0_countAheadHome (G : gw_) (A_t : Nat) (A_t_at : Nat) (A_t_home : Nat) (A_t_light : Nat) (A_t_carries : Nat) (A_t_bearer : Nat) (A_q1 : Nat) (A_q1_planks : Nat) (A_q1_least : Nat) (A_q1_neighbours : Nat) (c_t_there : Int32) (c_t_foggy : Int32) (c_t_at : Nat → Int32) (c_t_home : Nat → Int32) (c_q1_least : Nat → Int32) : va_W := [ob_ A_t 0 [.int c_t_there, .int c_t_foggy, .ref A_t_at, .ref A_t_home, .ref A_t_light, .ref A_t_carries, .ref A_t_bearer], ia_ G A_t_at 6 c_t_at, ia_ G A_t_home 6 c_t_home, ob_ A_q1 8 [.ref A_q1_planks, .ref A_q1_least, .ref A_q1_neighbours], ia_ G A_q1_least 144 c_q1_least]
def fn_X0_countAheadHome_b13 (c_t_there : Int32) (c_t_at : Nat → Int32) (c_t_home : Nat → Int32) (c_q1_least : Nat → Int32) (x2 : Int32) (x3 : Int32) (rc : Int32 → Int32 → Option (Int32)) (k : Int32 → Option (Int32)) (x4 : Int32) (x5 : Int32) : Option (Int32) :=
  if 6 ≤ x5 then
    k x4
  else
    b1_ (fn_X0_has c_t_there x5) fun r3 =>
    if r3 = 0 then
      rc x4 (x5 + 1)
    else
      b1_ (fn_X0_costsHome c_t_at c_t_home c_q1_least x5) fun r5 =>
      b1_ (fn_X0_isAhead r5 x5 x3 x2) fun r7 =>
      if r7 = 0 then
        rc x4 (x5 + 1)
      else
        rc (x4 + 1) (x5 + 1)
def fn_X0_countAheadHome_l13 (c_t_there : Int32) (c_t_at : Nat → Int32) (c_t_home : Nat → Int32) (c_q1_least : Nat → Int32) (x2 : Int32) (x3 : Int32) (k : Int32 → Option (Int32)) : Nat → Int32 → Int32 → Option (Int32)
  | 0 => fun _ _ => none
  | n + 1 => fun x4 x5 => fn_X0_countAheadHome_b13 c_t_there c_t_at c_t_home c_q1_least x2 x3 (fn_X0_countAheadHome_l13 c_t_there c_t_at c_t_home c_q1_least x2 x3 k n) k x4 x5
def fn_X0_countAheadHome (c_t_there : Int32) (c_t_at : Nat → Int32) (c_t_home : Nat → Int32) (c_q1_least : Nat → Int32) (x2 : Int32) : Option (Int32) :=
  b1_ (fn_X0_costsHome c_t_at c_t_home c_q1_least x2) fun r1 =>
  fn_X0_countAheadHome_l13 c_t_there c_t_at c_t_home c_q1_least x2 r1 (fun v9 =>
    some v9) fu_ 0 0
set_option maxHeartbeats 4000000 in
set_option maxRecDepth 100000 in
theorem wn_X0_countAheadHome_l13 {p : Program} {l : Launch} {e : Env} {s : State} {m : MethodId} {args : Array Value} {below : List Frame} {meth : Method} {c : Code} {G : gw_} {A : Nat → Prop} {Q : State → Prop} {A_t : Nat} {A_t_at : Nat} {A_t_home : Nat} {A_t_light : Nat} {A_t_carries : Nat} {A_t_bearer : Nat} {A_q1 : Nat} {A_q1_planks : Nat} {A_q1_least : Nat} {A_q1_neighbours : Nat} {c_t_there : Int32} {c_t_foggy : Int32} {c_t_at : Nat → Int32} {c_t_home : Nat → Int32} {c_q1_least : Nat → Int32} {r : Int32} {x2 : Int32} {x3 : Int32} {k : Int32 → Option (Int32)} (hC : cx_ p s m c G cX0_countAheadHome 6 RX0) (hret : ∀ (pc : Nat) (H : Heap) (locs : List Loc) (ls : Array Slot), decode cX0_countAheadHome pc = .ok (.ireturn, 1) → wd_ G A s.heap (wl_X0_countAheadHome G A_t A_t_at A_t_home A_t_light A_t_carries A_t_bearer A_q1 A_q1_planks A_q1_least A_q1_neighbours c_t_there c_t_foggy c_t_at c_t_home c_q1_least) H locs → W p l e { frames := 2, cells := 0, slots := 0, locals := 44 } s m args below meth c H locs 0 0 Q (F0 m pc ls [.int r])) (hk : ∀ (x4 : Int32) (H : Heap) (locs : List Loc) (ls : Array Slot), k x4 = some r → lv_has ls 6 [(4, .int x4)] → wd_ G A s.heap (wl_X0_countAheadHome G A_t A_t_at A_t_home A_t_light A_t_carries A_t_bearer A_q1 A_q1_planks A_q1_least A_q1_neighbours c_t_there c_t_foggy c_t_at c_t_home c_q1_least) H locs → W p l e { frames := 2, cells := 0, slots := 0, locals := 44 } s m args below meth c H locs 0 0 Q (F0 m 55 ls [])) : ∀ (n : Nat) (x4 : Int32) (x5 : Int32) (H : Heap) (locs : List Loc) (ls : Array Slot), fn_X0_countAheadHome_l13 c_t_there c_t_at c_t_home c_q1_least x2 x3 k n x4 x5 = some r → lv_has ls 6 [(0, .ref A_t), (1, .ref A_q1), (2, .int x2), (3, .int x3), (4, .int x4), (5, .int x5)] → wd_ G A s.heap (wl_X0_countAheadHome G A_t A_t_at A_t_home A_t_light A_t_carries A_t_bearer A_q1 A_q1_planks A_q1_least A_q1_neighbours c_t_there c_t_foggy c_t_at c_t_home c_q1_least) H locs → W p l e { frames := 2, cells := 0, slots := 0, locals := 44 } s m args below meth c H locs 0 0 Q (F0 m 13 ls []) := by
  have hx := hC.1
  have hb := hC.2.1
  intro n
  induction n with
  | zero =>
    intro x4 x5 H locs ls hf
    cases (show (none : Option (Int32)) = some _ from hf)
  | succ n hrc =>
    intro x4 x5 H locs ls hf hl hw
    replace hf : fn_X0_countAheadHome_b13 c_t_there c_t_at c_t_home c_q1_least x2 x3 (fn_X0_countAheadHome_l13 c_t_there c_t_at c_t_home c_q1_least x2 x3 k n) k x4 x5 = some r := hf
    unfold fn_X0_countAheadHome_b13 at hf
    refine lv_iload hx hb dX0_countAheadHome_13 (lv_at hl 5 rfl) ?_
    refine lv_bipush (v := 6) hx hb dX0_countAheadHome_15 (by decide) ?_
    refine lv_icmp_ge (tgt := 55) hx hb dX0_countAheadHome_17 (by decide) (fun hc => ?_) (fun hc => ?_)
    · replace hf := it_t hc hf
      exact hk x4 _ _ _ hf (lv_sub hl [4] rfl) hw
    · replace hf := it_f hc hf
      refine lv_aload_n hx hb dX0_countAheadHome_20 rfl (lv_at hl 0 rfl) ?_
      refine lv_iload hx hb dX0_countAheadHome_21 (lv_at hl 5 rfl) ?_
      obtain ⟨r3, hq4, hf⟩ := b1_s hf
      refine h_cVi hC hw mvX0_68 (cn_X0_has l G A_t A_t_at A_t_home A_t_light A_t_carries A_t_bearer c_t_there c_t_foggy x5 r3 hq4) [0] rfl (by decide) 0 rfl rfl rfl hl.1 rfl (Nat.le_of_ble_eq_true rfl) ⟨Nat.le_of_ble_eq_true rfl, Nat.le_of_ble_eq_true rfl⟩ ⟨Nat.le_refl _, Nat.le_refl _⟩ dX0_countAheadHome_23 (fun H locs hw => ?_)
      refine lv_if_eq (tgt := 49) hx hb dX0_countAheadHome_26 (by decide) (fun hc => ?_) (fun hc => ?_)
      · replace hf := it_t hc hf
        refine lv_iinc (v := x5 + 1) (lv' := [(5, .int (x5 + 1)), (0, .ref A_t), (1, .ref A_q1), (2, .int x2), (3, .int x3), (4, .int x4)]) hx hb dX0_countAheadHome_49 hl (k := 5) rfl rfl (by decide) rfl (fun ls hl => ?_)
        refine lv_goto (tgt := 13) hx hb dX0_countAheadHome_52 (by decide) ?_
        exact hrc x4 (x5 + 1) _ _ _ hf (lv_sub hl [1, 2, 3, 4, 5, 0] rfl) hw
      · replace hf := it_f hc hf
        refine lv_aload_n hx hb dX0_countAheadHome_29 rfl (lv_at hl 0 rfl) ?_
        refine lv_aload_n hx hb dX0_countAheadHome_30 rfl (lv_at hl 1 rfl) ?_
        refine lv_iload hx hb dX0_countAheadHome_31 (lv_at hl 5 rfl) ?_
        obtain ⟨r5, hq6, hf⟩ := b1_s hf
        refine h_cVi hC hw mvX0_96 (cn_X0_costsHome l G A_t A_t_at A_t_home A_t_light A_t_carries A_t_bearer A_q1 A_q1_planks A_q1_least A_q1_neighbours c_t_there c_t_foggy c_t_at c_t_home c_q1_least x5 r5 hq6) [0, 1, 2, 3, 4] rfl (by decide) 0 rfl rfl rfl hl.1 rfl (Nat.le_of_ble_eq_true rfl) ⟨Nat.le_of_ble_eq_true rfl, Nat.le_of_ble_eq_true rfl⟩ ⟨Nat.le_refl _, Nat.le_refl _⟩ dX0_countAheadHome_33 (fun H locs hw => ?_)
        refine lv_iload hx hb dX0_countAheadHome_36 (lv_at hl 5 rfl) ?_
        refine lv_iload_n hx hb dX0_countAheadHome_38 rfl (lv_at hl 3 rfl) ?_
        refine lv_iload_n hx hb dX0_countAheadHome_39 rfl (lv_at hl 2 rfl) ?_
        obtain ⟨r7, hq8, hf⟩ := b1_s hf
        refine h_cSi hC hw msX0_99 (cn_X0_isAhead l G r5 x5 x3 x2 r7 hq8) [] rfl (by decide) rfl hl.1 rfl (Nat.le_of_ble_eq_true rfl) ⟨Nat.le_of_ble_eq_true rfl, Nat.le_of_ble_eq_true rfl⟩ ⟨Nat.le_refl _, Nat.le_refl _⟩ dX0_countAheadHome_40 (fun H locs hw => ?_)
        refine lv_if_eq (tgt := 49) hx hb dX0_countAheadHome_43 (by decide) (fun hc => ?_) (fun hc => ?_)
        · replace hf := it_t hc hf
          refine lv_iinc (v := x5 + 1) (lv' := [(5, .int (x5 + 1)), (0, .ref A_t), (1, .ref A_q1), (2, .int x2), (3, .int x3), (4, .int x4)]) hx hb dX0_countAheadHome_49 hl (k := 5) rfl rfl (by decide) rfl (fun ls hl => ?_)
          refine lv_goto (tgt := 13) hx hb dX0_countAheadHome_52 (by decide) ?_
          exact hrc x4 (x5 + 1) _ _ _ hf (lv_sub hl [1, 2, 3, 4, 5, 0] rfl) hw
        · replace hf := it_f hc hf
          refine lv_iinc (v := x4 + 1) (lv' := [(4, .int (x4 + 1)), (0, .ref A_t), (1, .ref A_q1), (2, .int x2), (3, .int x3), (5, .int x5)]) hx hb dX0_countAheadHome_46 hl (k := 4) rfl rfl (by decide) rfl (fun ls hl => ?_)
          refine lv_iinc (v := x5 + 1) (lv' := [(5, .int (x5 + 1)), (4, .int (x4 + 1)), (0, .ref A_t), (1, .ref A_q1), (2, .int x2), (3, .int x3)]) hx hb dX0_countAheadHome_49 hl (k := 5) rfl rfl (by decide) rfl (fun ls hl => ?_)
          refine lv_goto (tgt := 13) hx hb dX0_countAheadHome_52 (by decide) ?_
          exact hrc (x4 + 1) (x5 + 1) _ _ _ hf (lv_sub hl [2, 3, 4, 5, 1, 0] rfl) hw
set_option maxHeartbeats 4000000 in
set_option maxRecDepth 100000 in
theorem wn_X0_countAheadHome {p : Program} {l : Launch} {e : Env} {s : State} {m : MethodId} {args : Array Value} {below : List Frame} {meth : Method} {c : Code} {G : gw_} {A : Nat → Prop} {Q : State → Prop} {A_t : Nat} {A_t_at : Nat} {A_t_home : Nat} {A_t_light : Nat} {A_t_carries : Nat} {A_t_bearer : Nat} {A_q1 : Nat} {A_q1_planks : Nat} {A_q1_least : Nat} {A_q1_neighbours : Nat} {c_t_there : Int32} {c_t_foggy : Int32} {c_t_at : Nat → Int32} {c_t_home : Nat → Int32} {c_q1_least : Nat → Int32} {r : Int32} {x2 : Int32} (hC : cx_ p s m c G cX0_countAheadHome 6 RX0) (hret : ∀ (pc : Nat) (H : Heap) (locs : List Loc) (ls : Array Slot), decode cX0_countAheadHome pc = .ok (.ireturn, 1) → wd_ G A s.heap (wl_X0_countAheadHome G A_t A_t_at A_t_home A_t_light A_t_carries A_t_bearer A_q1 A_q1_planks A_q1_least A_q1_neighbours c_t_there c_t_foggy c_t_at c_t_home c_q1_least) H locs → W p l e { frames := 2, cells := 0, slots := 0, locals := 44 } s m args below meth c H locs 0 0 Q (F0 m pc ls [.int r])) (hf : fn_X0_countAheadHome c_t_there c_t_at c_t_home c_q1_least x2 = some r) {H : Heap} {locs : List Loc} {ls : Array Slot} (hl : lv_has ls 6 [(0, .ref A_t), (1, .ref A_q1), (2, .int x2)]) (hw : wd_ G A s.heap (wl_X0_countAheadHome G A_t A_t_at A_t_home A_t_light A_t_carries A_t_bearer A_q1 A_q1_planks A_q1_least A_q1_neighbours c_t_there c_t_foggy c_t_at c_t_home c_q1_least) H locs) : W p l e { frames := 2, cells := 0, slots := 0, locals := 44 } s m args below meth c H locs 0 0 Q (F0 m 0 ls []) := by
  have hx := hC.1
  have hb := hC.2.1
  unfold fn_X0_countAheadHome at hf
  refine lv_aload_n hx hb dX0_countAheadHome_0 rfl (lv_at hl 0 rfl) ?_
  refine lv_aload_n hx hb dX0_countAheadHome_1 rfl (lv_at hl 1 rfl) ?_
  refine lv_iload_n hx hb dX0_countAheadHome_2 rfl (lv_at hl 2 rfl) ?_
  obtain ⟨r1, hq2, hf⟩ := b1_s hf
  refine h_cVi hC hw mvX0_96 (cn_X0_costsHome l G A_t A_t_at A_t_home A_t_light A_t_carries A_t_bearer A_q1 A_q1_planks A_q1_least A_q1_neighbours c_t_there c_t_foggy c_t_at c_t_home c_q1_least x2 r1 hq2) [0, 1, 2, 3, 4] rfl (by decide) 0 rfl rfl rfl hl.1 rfl (Nat.le_of_ble_eq_true rfl) ⟨Nat.le_of_ble_eq_true rfl, Nat.le_of_ble_eq_true rfl⟩ ⟨Nat.le_refl _, Nat.le_refl _⟩ dX0_countAheadHome_3 (fun H locs hw => ?_)
  refine lv_istore_n (lv' := [(3, .int r1), (0, .ref A_t), (1, .ref A_q1), (2, .int x2)]) hx hb dX0_countAheadHome_6 rfl hl (by decide) rfl (fun ls hl => ?_)
  refine lv_iconst (v := 0) hx hb dX0_countAheadHome_7 (by decide) ?_
  refine lv_istore (lv' := [(4, .int 0), (3, .int r1), (0, .ref A_t), (1, .ref A_q1), (2, .int x2)]) hx hb dX0_countAheadHome_8 hl (by decide) rfl (fun ls hl => ?_)
  refine lv_iconst (v := 0) hx hb dX0_countAheadHome_10 (by decide) ?_
  refine lv_istore (lv' := [(5, .int 0), (4, .int 0), (3, .int r1), (0, .ref A_t), (1, .ref A_q1), (2, .int x2)]) hx hb dX0_countAheadHome_11 hl (by decide) rfl (fun ls hl => ?_)
  refine wn_X0_countAheadHome_l13 hC hret (fun v9 H locs ls hf hl hw => ?_) fu_ 0 0 _ _ _ hf (lv_sub hl [3, 4, 5, 2, 1, 0] rfl) hw
  refine lv_iload hx hb dX0_countAheadHome_55 (lv_at hl 0 rfl) ?_
  have h1_ := t1_ hf
  subst h1_
  exact hret _ _ _ _ dX0_countAheadHome_57 hw
set_option maxHeartbeats 4000000 in
set_option maxRecDepth 100000 in
theorem cn_X0_countAheadHome (l : Launch) (G : gw_) (A_t : Nat) (A_t_at : Nat) (A_t_home : Nat) (A_t_light : Nat) (A_t_carries : Nat) (A_t_bearer : Nat) (A_q1 : Nat) (A_q1_planks : Nat) (A_q1_least : Nat) (A_q1_neighbours : Nat) (c_t_there : Int32) (c_t_foggy : Int32) (c_t_at : Nat → Int32) (c_t_home : Nat → Int32) (c_q1_least : Nat → Int32) (x2 : Int32) (r : Int32) (hf : fn_X0_countAheadHome c_t_there c_t_at c_t_home c_q1_least x2 = some r) : ci_ l G yX0_countAheadHome cX0_countAheadHome 6 (some .int) 2 44 (wl_X0_countAheadHome G A_t A_t_at A_t_home A_t_light A_t_carries A_t_bearer A_q1 A_q1_planks A_q1_least A_q1_neighbours c_t_there c_t_foggy c_t_at c_t_home c_q1_least) [.ref A_t, .ref A_q1, .int x2] r (wl_X0_countAheadHome G A_t A_t_at A_t_home A_t_light A_t_carries A_t_bearer A_q1 A_q1_planks A_q1_least A_q1_neighbours c_t_there c_t_foggy c_t_at c_t_home c_q1_least) := fun sz => met_intro (by decide) (Nat.le_of_ble_eq_true rfl) (fun p e s m args below meth c ls hsz hC hr hlk hnm hl hw => wn_X0_countAheadHome hC (fun pc H locs ls hd hw => g_iret hC hr hlk hw rfl rfl hd) hf hl hw)

theorem dX0_nthHome_0 : decode cX0_nthHome 0 = .ok (.iconst 0, 1) := by decide +kernel
theorem dX0_nthHome_1 : decode cX0_nthHome 1 = .ok (.istore_n 3, 1) := by decide +kernel
theorem dX0_nthHome_2 : decode cX0_nthHome 2 = .ok (.iload_n 3, 1) := by decide +kernel
theorem dX0_nthHome_3 : decode cX0_nthHome 3 = .ok (.bipush 6, 2) := by decide +kernel
theorem dX0_nthHome_5 : decode cX0_nthHome 5 = .ok (.if_icmp .ge 29, 3) := by decide +kernel
theorem dX0_nthHome_8 : decode cX0_nthHome 8 = .ok (.aload_n 0, 1) := by decide +kernel
theorem dX0_nthHome_9 : decode cX0_nthHome 9 = .ok (.iload_n 3, 1) := by decide +kernel
theorem dX0_nthHome_10 : decode cX0_nthHome 10 = .ok (.invokevirtual 68, 3) := by decide +kernel
theorem dX0_nthHome_13 : decode cX0_nthHome 13 = .ok (.ifCond .eq 15, 3) := by decide +kernel
theorem dX0_nthHome_16 : decode cX0_nthHome 16 = .ok (.aload_n 0, 1) := by decide +kernel
theorem dX0_nthHome_17 : decode cX0_nthHome 17 = .ok (.aload_n 1, 1) := by decide +kernel
theorem dX0_nthHome_18 : decode cX0_nthHome 18 = .ok (.iload_n 3, 1) := by decide +kernel
theorem dX0_nthHome_19 : decode cX0_nthHome 19 = .ok (.invokevirtual 92, 3) := by decide +kernel
theorem dX0_nthHome_22 : decode cX0_nthHome 22 = .ok (.iload_n 2, 1) := by decide +kernel
theorem dX0_nthHome_23 : decode cX0_nthHome 23 = .ok (.if_icmp .ne 5, 3) := by decide +kernel
theorem dX0_nthHome_26 : decode cX0_nthHome 26 = .ok (.iload_n 3, 1) := by decide +kernel
theorem dX0_nthHome_27 : decode cX0_nthHome 27 = .ok (.ireturn, 1) := by decide +kernel
theorem dX0_nthHome_28 : decode cX0_nthHome 28 = .ok (.iinc 3 1, 3) := by decide +kernel
theorem dX0_nthHome_31 : decode cX0_nthHome 31 = .ok (.goto (-29), 3) := by decide +kernel
theorem dX0_nthHome_34 : decode cX0_nthHome 34 = .ok (.bipush (-6), 2) := by decide +kernel
theorem dX0_nthHome_36 : decode cX0_nthHome 36 = .ok (.ireturn, 1) := by decide +kernel
abbrev wl_X0_nthHome (G : gw_) (A_t : Nat) (A_t_at : Nat) (A_t_home : Nat) (A_t_light : Nat) (A_t_carries : Nat) (A_t_bearer : Nat) (A_q1 : Nat) (A_q1_planks : Nat) (A_q1_least : Nat) (A_q1_neighbours : Nat) (c_t_there : Int32) (c_t_foggy : Int32) (c_t_at : Nat → Int32) (c_t_home : Nat → Int32) (c_q1_least : Nat → Int32) : va_W := [ob_ A_t 0 [.int c_t_there, .int c_t_foggy, .ref A_t_at, .ref A_t_home, .ref A_t_light, .ref A_t_carries, .ref A_t_bearer], ia_ G A_t_at 6 c_t_at, ia_ G A_t_home 6 c_t_home, ob_ A_q1 8 [.ref A_q1_planks, .ref A_q1_least, .ref A_q1_neighbours], ia_ G A_q1_least 144 c_q1_least]
def fn_X0_nthHome_b2 (c_t_there : Int32) (c_t_at : Nat → Int32) (c_t_home : Nat → Int32) (c_q1_least : Nat → Int32) (x2 : Int32) (rc : Int32 → Option (Int32)) (k : Option (Int32)) (x3 : Int32) : Option (Int32) :=
  if 6 ≤ x3 then
    k
  else
    b1_ (fn_X0_has c_t_there x3) fun r1 =>
    if r1 = 0 then
      rc (x3 + 1)
    else
      b1_ (fn_X0_countAheadHome c_t_there c_t_at c_t_home c_q1_least x3) fun r3 =>
      if r3 = x2 then
        some x3
      else
        rc (x3 + 1)
def fn_X0_nthHome_l2 (c_t_there : Int32) (c_t_at : Nat → Int32) (c_t_home : Nat → Int32) (c_q1_least : Nat → Int32) (x2 : Int32) (k : Option (Int32)) : Nat → Int32 → Option (Int32)
  | 0 => fun _ => none
  | n + 1 => fun x3 => fn_X0_nthHome_b2 c_t_there c_t_at c_t_home c_q1_least x2 (fn_X0_nthHome_l2 c_t_there c_t_at c_t_home c_q1_least x2 k n) k x3
def fn_X0_nthHome (c_t_there : Int32) (c_t_at : Nat → Int32) (c_t_home : Nat → Int32) (c_q1_least : Nat → Int32) (x2 : Int32) : Option (Int32) :=
  fn_X0_nthHome_l2 c_t_there c_t_at c_t_home c_q1_least x2 (some (-6)) fu_ 0
set_option maxHeartbeats 4000000 in
set_option maxRecDepth 100000 in
theorem wn_X0_nthHome_l2 {p : Program} {l : Launch} {e : Env} {s : State} {m : MethodId} {args : Array Value} {below : List Frame} {meth : Method} {c : Code} {G : gw_} {A : Nat → Prop} {Q : State → Prop} {A_t : Nat} {A_t_at : Nat} {A_t_home : Nat} {A_t_light : Nat} {A_t_carries : Nat} {A_t_bearer : Nat} {A_q1 : Nat} {A_q1_planks : Nat} {A_q1_least : Nat} {A_q1_neighbours : Nat} {c_t_there : Int32} {c_t_foggy : Int32} {c_t_at : Nat → Int32} {c_t_home : Nat → Int32} {c_q1_least : Nat → Int32} {r : Int32} {x2 : Int32} {k : Option (Int32)} (hC : cx_ p s m c G cX0_nthHome 4 RX0) (hret : ∀ (pc : Nat) (H : Heap) (locs : List Loc) (ls : Array Slot), decode cX0_nthHome pc = .ok (.ireturn, 1) → wd_ G A s.heap (wl_X0_nthHome G A_t A_t_at A_t_home A_t_light A_t_carries A_t_bearer A_q1 A_q1_planks A_q1_least A_q1_neighbours c_t_there c_t_foggy c_t_at c_t_home c_q1_least) H locs → W p l e { frames := 3, cells := 0, slots := 0, locals := 69 } s m args below meth c H locs 0 0 Q (F0 m pc ls [.int r])) (hk : ∀  (H : Heap) (locs : List Loc) (ls : Array Slot), k = some r → lv_has ls 4 [] → wd_ G A s.heap (wl_X0_nthHome G A_t A_t_at A_t_home A_t_light A_t_carries A_t_bearer A_q1 A_q1_planks A_q1_least A_q1_neighbours c_t_there c_t_foggy c_t_at c_t_home c_q1_least) H locs → W p l e { frames := 3, cells := 0, slots := 0, locals := 69 } s m args below meth c H locs 0 0 Q (F0 m 34 ls [])) : ∀ (n : Nat) (x3 : Int32) (H : Heap) (locs : List Loc) (ls : Array Slot), fn_X0_nthHome_l2 c_t_there c_t_at c_t_home c_q1_least x2 k n x3 = some r → lv_has ls 4 [(0, .ref A_t), (1, .ref A_q1), (2, .int x2), (3, .int x3)] → wd_ G A s.heap (wl_X0_nthHome G A_t A_t_at A_t_home A_t_light A_t_carries A_t_bearer A_q1 A_q1_planks A_q1_least A_q1_neighbours c_t_there c_t_foggy c_t_at c_t_home c_q1_least) H locs → W p l e { frames := 3, cells := 0, slots := 0, locals := 69 } s m args below meth c H locs 0 0 Q (F0 m 2 ls []) := by
  have hx := hC.1
  have hb := hC.2.1
  intro n
  induction n with
  | zero =>
    intro x3 H locs ls hf
    cases (show (none : Option (Int32)) = some _ from hf)
  | succ n hrc =>
    intro x3 H locs ls hf hl hw
    replace hf : fn_X0_nthHome_b2 c_t_there c_t_at c_t_home c_q1_least x2 (fn_X0_nthHome_l2 c_t_there c_t_at c_t_home c_q1_least x2 k n) k x3 = some r := hf
    unfold fn_X0_nthHome_b2 at hf
    refine lv_iload_n hx hb dX0_nthHome_2 rfl (lv_at hl 3 rfl) ?_
    refine lv_bipush (v := 6) hx hb dX0_nthHome_3 (by decide) ?_
    refine lv_icmp_ge (tgt := 34) hx hb dX0_nthHome_5 (by decide) (fun hc => ?_) (fun hc => ?_)
    · replace hf := it_t hc hf
      exact hk _ _ _ hf (lv_sub hl [] rfl) hw
    · replace hf := it_f hc hf
      refine lv_aload_n hx hb dX0_nthHome_8 rfl (lv_at hl 0 rfl) ?_
      refine lv_iload_n hx hb dX0_nthHome_9 rfl (lv_at hl 3 rfl) ?_
      obtain ⟨r1, hq2, hf⟩ := b1_s hf
      refine h_cVi hC hw mvX0_68 (cn_X0_has l G A_t A_t_at A_t_home A_t_light A_t_carries A_t_bearer c_t_there c_t_foggy x3 r1 hq2) [0] rfl (by decide) 0 rfl rfl rfl hl.1 rfl (Nat.le_of_ble_eq_true rfl) ⟨Nat.le_of_ble_eq_true rfl, Nat.le_of_ble_eq_true rfl⟩ ⟨Nat.le_refl _, Nat.le_refl _⟩ dX0_nthHome_10 (fun H locs hw => ?_)
      refine lv_if_eq (tgt := 28) hx hb dX0_nthHome_13 (by decide) (fun hc => ?_) (fun hc => ?_)
      · replace hf := it_t hc hf
        refine lv_iinc (v := x3 + 1) (lv' := [(3, .int (x3 + 1)), (0, .ref A_t), (1, .ref A_q1), (2, .int x2)]) hx hb dX0_nthHome_28 hl (k := 3) rfl rfl (by decide) rfl (fun ls hl => ?_)
        refine lv_goto (tgt := 2) hx hb dX0_nthHome_31 (by decide) ?_
        exact hrc (x3 + 1) _ _ _ hf (lv_sub hl [1, 2, 3, 0] rfl) hw
      · replace hf := it_f hc hf
        refine lv_aload_n hx hb dX0_nthHome_16 rfl (lv_at hl 0 rfl) ?_
        refine lv_aload_n hx hb dX0_nthHome_17 rfl (lv_at hl 1 rfl) ?_
        refine lv_iload_n hx hb dX0_nthHome_18 rfl (lv_at hl 3 rfl) ?_
        obtain ⟨r3, hq4, hf⟩ := b1_s hf
        refine h_cVi hC hw mvX0_92 (cn_X0_countAheadHome l G A_t A_t_at A_t_home A_t_light A_t_carries A_t_bearer A_q1 A_q1_planks A_q1_least A_q1_neighbours c_t_there c_t_foggy c_t_at c_t_home c_q1_least x3 r3 hq4) [0, 1, 2, 3, 4] rfl (by decide) 0 rfl rfl rfl hl.1 rfl (Nat.le_of_ble_eq_true rfl) ⟨Nat.le_of_ble_eq_true rfl, Nat.le_of_ble_eq_true rfl⟩ ⟨Nat.le_refl _, Nat.le_refl _⟩ dX0_nthHome_19 (fun H locs hw => ?_)
        refine lv_iload_n hx hb dX0_nthHome_22 rfl (lv_at hl 2 rfl) ?_
        refine lv_icmp_ne (tgt := 28) hx hb dX0_nthHome_23 (by decide) (fun hc => ?_) (fun hc => ?_)
        · replace hf := it_f hc hf
          refine lv_iinc (v := x3 + 1) (lv' := [(3, .int (x3 + 1)), (0, .ref A_t), (1, .ref A_q1), (2, .int x2)]) hx hb dX0_nthHome_28 hl (k := 3) rfl rfl (by decide) rfl (fun ls hl => ?_)
          refine lv_goto (tgt := 2) hx hb dX0_nthHome_31 (by decide) ?_
          exact hrc (x3 + 1) _ _ _ hf (lv_sub hl [1, 2, 3, 0] rfl) hw
        · replace hf := it_t hc hf
          refine lv_iload_n hx hb dX0_nthHome_26 rfl (lv_at hl 3 rfl) ?_
          have h1_ := t1_ hf
          subst h1_
          exact hret _ _ _ _ dX0_nthHome_27 hw
set_option maxHeartbeats 4000000 in
set_option maxRecDepth 100000 in
theorem wn_X0_nthHome {p : Program} {l : Launch} {e : Env} {s : State} {m : MethodId} {args : Array Value} {below : List Frame} {meth : Method} {c : Code} {G : gw_} {A : Nat → Prop} {Q : State → Prop} {A_t : Nat} {A_t_at : Nat} {A_t_home : Nat} {A_t_light : Nat} {A_t_carries : Nat} {A_t_bearer : Nat} {A_q1 : Nat} {A_q1_planks : Nat} {A_q1_least : Nat} {A_q1_neighbours : Nat} {c_t_there : Int32} {c_t_foggy : Int32} {c_t_at : Nat → Int32} {c_t_home : Nat → Int32} {c_q1_least : Nat → Int32} {r : Int32} {x2 : Int32} (hC : cx_ p s m c G cX0_nthHome 4 RX0) (hret : ∀ (pc : Nat) (H : Heap) (locs : List Loc) (ls : Array Slot), decode cX0_nthHome pc = .ok (.ireturn, 1) → wd_ G A s.heap (wl_X0_nthHome G A_t A_t_at A_t_home A_t_light A_t_carries A_t_bearer A_q1 A_q1_planks A_q1_least A_q1_neighbours c_t_there c_t_foggy c_t_at c_t_home c_q1_least) H locs → W p l e { frames := 3, cells := 0, slots := 0, locals := 69 } s m args below meth c H locs 0 0 Q (F0 m pc ls [.int r])) (hf : fn_X0_nthHome c_t_there c_t_at c_t_home c_q1_least x2 = some r) {H : Heap} {locs : List Loc} {ls : Array Slot} (hl : lv_has ls 4 [(0, .ref A_t), (1, .ref A_q1), (2, .int x2)]) (hw : wd_ G A s.heap (wl_X0_nthHome G A_t A_t_at A_t_home A_t_light A_t_carries A_t_bearer A_q1 A_q1_planks A_q1_least A_q1_neighbours c_t_there c_t_foggy c_t_at c_t_home c_q1_least) H locs) : W p l e { frames := 3, cells := 0, slots := 0, locals := 69 } s m args below meth c H locs 0 0 Q (F0 m 0 ls []) := by
  have hx := hC.1
  have hb := hC.2.1
  unfold fn_X0_nthHome at hf
  refine lv_iconst (v := 0) hx hb dX0_nthHome_0 (by decide) ?_
  refine lv_istore_n (lv' := [(3, .int 0), (0, .ref A_t), (1, .ref A_q1), (2, .int x2)]) hx hb dX0_nthHome_1 rfl hl (by decide) rfl (fun ls hl => ?_)
  refine wn_X0_nthHome_l2 hC hret (fun H locs ls hf hl hw => ?_) fu_ 0 _ _ _ hf (lv_sub hl [1, 2, 3, 0] rfl) hw
  refine lv_bipush (v := (-6)) hx hb dX0_nthHome_34 (by decide) ?_
  have h1_ := t1_ hf
  subst h1_
  exact hret _ _ _ _ dX0_nthHome_36 hw
set_option maxHeartbeats 4000000 in
set_option maxRecDepth 100000 in
theorem cn_X0_nthHome (l : Launch) (G : gw_) (A_t : Nat) (A_t_at : Nat) (A_t_home : Nat) (A_t_light : Nat) (A_t_carries : Nat) (A_t_bearer : Nat) (A_q1 : Nat) (A_q1_planks : Nat) (A_q1_least : Nat) (A_q1_neighbours : Nat) (c_t_there : Int32) (c_t_foggy : Int32) (c_t_at : Nat → Int32) (c_t_home : Nat → Int32) (c_q1_least : Nat → Int32) (x2 : Int32) (r : Int32) (hf : fn_X0_nthHome c_t_there c_t_at c_t_home c_q1_least x2 = some r) : ci_ l G yX0_nthHome cX0_nthHome 4 (some .int) 3 69 (wl_X0_nthHome G A_t A_t_at A_t_home A_t_light A_t_carries A_t_bearer A_q1 A_q1_planks A_q1_least A_q1_neighbours c_t_there c_t_foggy c_t_at c_t_home c_q1_least) [.ref A_t, .ref A_q1, .int x2] r (wl_X0_nthHome G A_t A_t_at A_t_home A_t_light A_t_carries A_t_bearer A_q1 A_q1_planks A_q1_least A_q1_neighbours c_t_there c_t_foggy c_t_at c_t_home c_q1_least) := fun sz => met_intro (by decide) (Nat.le_of_ble_eq_true rfl) (fun p e s m args below meth c ls hsz hC hr hlk hnm hl hw => wn_X0_nthHome hC (fun pc H locs ls hd hw => g_iret hC hr hlk hw rfl rfl hd) hf hl hw)

theorem dX0_lackAt_0 : decode cX0_lackAt 0 = .ok (.iconst 0, 1) := by decide +kernel
theorem dX0_lackAt_1 : decode cX0_lackAt 1 = .ok (.istore_n 3, 1) := by decide +kernel
theorem dX0_lackAt_2 : decode cX0_lackAt 2 = .ok (.iconst 0, 1) := by decide +kernel
theorem dX0_lackAt_3 : decode cX0_lackAt 3 = .ok (.istore 4, 2) := by decide +kernel
theorem dX0_lackAt_5 : decode cX0_lackAt 5 = .ok (.iload 4, 2) := by decide +kernel
theorem dX0_lackAt_7 : decode cX0_lackAt 7 = .ok (.bipush 6, 2) := by decide +kernel
theorem dX0_lackAt_9 : decode cX0_lackAt 9 = .ok (.if_icmp .ge 61, 3) := by decide +kernel
theorem dX0_lackAt_12 : decode cX0_lackAt 12 = .ok (.aload_n 0, 1) := by decide +kernel
theorem dX0_lackAt_13 : decode cX0_lackAt 13 = .ok (.iload 4, 2) := by decide +kernel
theorem dX0_lackAt_15 : decode cX0_lackAt 15 = .ok (.invokevirtual 68, 3) := by decide +kernel
theorem dX0_lackAt_18 : decode cX0_lackAt 18 = .ok (.ifCond .eq 46, 3) := by decide +kernel
theorem dX0_lackAt_21 : decode cX0_lackAt 21 = .ok (.aload_n 0, 1) := by decide +kernel
theorem dX0_lackAt_22 : decode cX0_lackAt 22 = .ok (.getfield 19, 3) := by decide +kernel
theorem dX0_lackAt_25 : decode cX0_lackAt 25 = .ok (.iload 4, 2) := by decide +kernel
theorem dX0_lackAt_27 : decode cX0_lackAt 27 = .ok (.iaload, 1) := by decide +kernel
theorem dX0_lackAt_28 : decode cX0_lackAt 28 = .ok (.iload_n 2, 1) := by decide +kernel
theorem dX0_lackAt_29 : decode cX0_lackAt 29 = .ok (.if_icmp .ne 35, 3) := by decide +kernel
theorem dX0_lackAt_32 : decode cX0_lackAt 32 = .ok (.aload_n 0, 1) := by decide +kernel
theorem dX0_lackAt_33 : decode cX0_lackAt 33 = .ok (.aload_n 1, 1) := by decide +kernel
theorem dX0_lackAt_34 : decode cX0_lackAt 34 = .ok (.iload 4, 2) := by decide +kernel
theorem dX0_lackAt_36 : decode cX0_lackAt 36 = .ok (.invokevirtual 96, 3) := by decide +kernel
theorem dX0_lackAt_39 : decode cX0_lackAt 39 = .ok (.istore 5, 2) := by decide +kernel
theorem dX0_lackAt_41 : decode cX0_lackAt 41 = .ok (.iload 5, 2) := by decide +kernel
theorem dX0_lackAt_43 : decode cX0_lackAt 43 = .ok (.ldc 103, 2) := by decide +kernel
theorem dX0_lackAt_45 : decode cX0_lackAt 45 = .ok (.if_icmp .lt 6, 3) := by decide +kernel
theorem dX0_lackAt_48 : decode cX0_lackAt 48 = .ok (.bipush (-6), 2) := by decide +kernel
theorem dX0_lackAt_50 : decode cX0_lackAt 50 = .ok (.ireturn, 1) := by decide +kernel
theorem dX0_lackAt_51 : decode cX0_lackAt 51 = .ok (.iload_n 3, 1) := by decide +kernel
theorem dX0_lackAt_52 : decode cX0_lackAt 52 = .ok (.iload 5, 2) := by decide +kernel
theorem dX0_lackAt_54 : decode cX0_lackAt 54 = .ok (.aload_n 0, 1) := by decide +kernel
theorem dX0_lackAt_55 : decode cX0_lackAt 55 = .ok (.getfield 26, 3) := by decide +kernel
theorem dX0_lackAt_58 : decode cX0_lackAt 58 = .ok (.iload 4, 2) := by decide +kernel
theorem dX0_lackAt_60 : decode cX0_lackAt 60 = .ok (.iaload, 1) := by decide +kernel
theorem dX0_lackAt_61 : decode cX0_lackAt 61 = .ok (.isub, 1) := by decide +kernel
theorem dX0_lackAt_62 : decode cX0_lackAt 62 = .ok (.iadd, 1) := by decide +kernel
theorem dX0_lackAt_63 : decode cX0_lackAt 63 = .ok (.istore_n 3, 1) := by decide +kernel
theorem dX0_lackAt_64 : decode cX0_lackAt 64 = .ok (.iinc 4 1, 3) := by decide +kernel
theorem dX0_lackAt_67 : decode cX0_lackAt 67 = .ok (.goto (-62), 3) := by decide +kernel
theorem dX0_lackAt_70 : decode cX0_lackAt 70 = .ok (.iconst 0, 1) := by decide +kernel
theorem dX0_lackAt_71 : decode cX0_lackAt 71 = .ok (.iload_n 3, 1) := by decide +kernel
theorem dX0_lackAt_72 : decode cX0_lackAt 72 = .ok (.invokestatic 104, 3) := by decide +kernel
theorem dX0_lackAt_75 : decode cX0_lackAt 75 = .ok (.ireturn, 1) := by decide +kernel
abbrev wl_X0_lackAt (G : gw_) (A_t : Nat) (A_t_at : Nat) (A_t_home : Nat) (A_t_light : Nat) (A_t_carries : Nat) (A_t_bearer : Nat) (A_q1 : Nat) (A_q1_planks : Nat) (A_q1_least : Nat) (A_q1_neighbours : Nat) (c_t_there : Int32) (c_t_foggy : Int32) (c_t_at : Nat → Int32) (c_t_home : Nat → Int32) (c_t_light : Nat → Int32) (c_q1_least : Nat → Int32) : va_W := [ob_ A_t 0 [.int c_t_there, .int c_t_foggy, .ref A_t_at, .ref A_t_home, .ref A_t_light, .ref A_t_carries, .ref A_t_bearer], ia_ G A_t_at 6 c_t_at, ia_ G A_t_home 6 c_t_home, ia_ G A_t_light 6 c_t_light, ob_ A_q1 8 [.ref A_q1_planks, .ref A_q1_least, .ref A_q1_neighbours], ia_ G A_q1_least 144 c_q1_least]
def fn_X0_lackAt_b5 (c_t_there : Int32) (c_t_at : Nat → Int32) (c_t_home : Nat → Int32) (c_t_light : Nat → Int32) (c_q1_least : Nat → Int32) (x2 : Int32) (rc : Int32 → Int32 → Option (Int32)) (k : Int32 → Option (Int32)) (x3 : Int32) (x4 : Int32) : Option (Int32) :=
  if 6 ≤ x4 then
    k x3
  else
    b1_ (fn_X0_has c_t_there x4) fun r1 =>
    if r1 = 0 then
      rc x3 (x4 + 1)
    else
      ck_ x4 6 <|
      if (c_t_at (Int32.toNatClampNeg x4)) = x2 then
        b1_ (fn_X0_costsHome c_t_at c_t_home c_q1_least x4) fun r3 =>
        if r3 < 1000000 then
          ck_ x4 6 <|
          lx_ (x3 + (r3 - (c_t_light (Int32.toNatClampNeg x4)))) fun y5 =>
          rc y5 (x4 + 1)
        else
          some (-6)
      else
        rc x3 (x4 + 1)
def fn_X0_lackAt_l5 (c_t_there : Int32) (c_t_at : Nat → Int32) (c_t_home : Nat → Int32) (c_t_light : Nat → Int32) (c_q1_least : Nat → Int32) (x2 : Int32) (k : Int32 → Option (Int32)) : Nat → Int32 → Int32 → Option (Int32)
  | 0 => fun _ _ => none
  | n + 1 => fun x3 x4 => fn_X0_lackAt_b5 c_t_there c_t_at c_t_home c_t_light c_q1_least x2 (fn_X0_lackAt_l5 c_t_there c_t_at c_t_home c_t_light c_q1_least x2 k n) k x3 x4
def fn_X0_lackAt (c_t_there : Int32) (c_t_at : Nat → Int32) (c_t_home : Nat → Int32) (c_t_light : Nat → Int32) (c_q1_least : Nat → Int32) (x2 : Int32) : Option (Int32) :=
  fn_X0_lackAt_l5 c_t_there c_t_at c_t_home c_t_light c_q1_least x2 (fun v6 =>
    lx_ (if 0 < v6 then v6 else 0) fun y7 =>
    some y7) fu_ 0 0
set_option maxHeartbeats 4000000 in
set_option maxRecDepth 100000 in
theorem wn_X0_lackAt_l5 {p : Program} {l : Launch} {e : Env} {s : State} {m : MethodId} {args : Array Value} {below : List Frame} {meth : Method} {c : Code} {G : gw_} {A : Nat → Prop} {Q : State → Prop} {A_t : Nat} {A_t_at : Nat} {A_t_home : Nat} {A_t_light : Nat} {A_t_carries : Nat} {A_t_bearer : Nat} {A_q1 : Nat} {A_q1_planks : Nat} {A_q1_least : Nat} {A_q1_neighbours : Nat} {c_t_there : Int32} {c_t_foggy : Int32} {c_t_at : Nat → Int32} {c_t_home : Nat → Int32} {c_t_light : Nat → Int32} {c_q1_least : Nat → Int32} {r : Int32} {x2 : Int32} {k : Int32 → Option (Int32)} (hC : cx_ p s m c G cX0_lackAt 6 RX0) (hret : ∀ (pc : Nat) (H : Heap) (locs : List Loc) (ls : Array Slot), decode cX0_lackAt pc = .ok (.ireturn, 1) → wd_ G A s.heap (wl_X0_lackAt G A_t A_t_at A_t_home A_t_light A_t_carries A_t_bearer A_q1 A_q1_planks A_q1_least A_q1_neighbours c_t_there c_t_foggy c_t_at c_t_home c_t_light c_q1_least) H locs → W p l e { frames := 2, cells := 0, slots := 0, locals := 44 } s m args below meth c H locs 0 0 Q (F0 m pc ls [.int r])) (hk : ∀ (x3 : Int32) (H : Heap) (locs : List Loc) (ls : Array Slot), k x3 = some r → lv_has ls 6 [(3, .int x3)] → wd_ G A s.heap (wl_X0_lackAt G A_t A_t_at A_t_home A_t_light A_t_carries A_t_bearer A_q1 A_q1_planks A_q1_least A_q1_neighbours c_t_there c_t_foggy c_t_at c_t_home c_t_light c_q1_least) H locs → W p l e { frames := 2, cells := 0, slots := 0, locals := 44 } s m args below meth c H locs 0 0 Q (F0 m 70 ls [])) : ∀ (n : Nat) (x3 : Int32) (x4 : Int32) (H : Heap) (locs : List Loc) (ls : Array Slot), fn_X0_lackAt_l5 c_t_there c_t_at c_t_home c_t_light c_q1_least x2 k n x3 x4 = some r → lv_has ls 6 [(0, .ref A_t), (1, .ref A_q1), (2, .int x2), (3, .int x3), (4, .int x4)] → wd_ G A s.heap (wl_X0_lackAt G A_t A_t_at A_t_home A_t_light A_t_carries A_t_bearer A_q1 A_q1_planks A_q1_least A_q1_neighbours c_t_there c_t_foggy c_t_at c_t_home c_t_light c_q1_least) H locs → W p l e { frames := 2, cells := 0, slots := 0, locals := 44 } s m args below meth c H locs 0 0 Q (F0 m 5 ls []) := by
  have hx := hC.1
  have hb := hC.2.1
  intro n
  induction n with
  | zero =>
    intro x3 x4 H locs ls hf
    cases (show (none : Option (Int32)) = some _ from hf)
  | succ n hrc =>
    intro x3 x4 H locs ls hf hl hw
    replace hf : fn_X0_lackAt_b5 c_t_there c_t_at c_t_home c_t_light c_q1_least x2 (fn_X0_lackAt_l5 c_t_there c_t_at c_t_home c_t_light c_q1_least x2 k n) k x3 x4 = some r := hf
    unfold fn_X0_lackAt_b5 at hf
    refine lv_iload hx hb dX0_lackAt_5 (lv_at hl 4 rfl) ?_
    refine lv_bipush (v := 6) hx hb dX0_lackAt_7 (by decide) ?_
    refine lv_icmp_ge (tgt := 70) hx hb dX0_lackAt_9 (by decide) (fun hc => ?_) (fun hc => ?_)
    · replace hf := it_t hc hf
      exact hk x3 _ _ _ hf (lv_sub hl [3] rfl) hw
    · replace hf := it_f hc hf
      refine lv_aload_n hx hb dX0_lackAt_12 rfl (lv_at hl 0 rfl) ?_
      refine lv_iload hx hb dX0_lackAt_13 (lv_at hl 4 rfl) ?_
      obtain ⟨r1, hq2, hf⟩ := b1_s hf
      refine h_cVi hC hw mvX0_68 (cn_X0_has l G A_t A_t_at A_t_home A_t_light A_t_carries A_t_bearer c_t_there c_t_foggy x4 r1 hq2) [0] rfl (by decide) 0 rfl rfl rfl hl.1 rfl (Nat.le_of_ble_eq_true rfl) ⟨Nat.le_of_ble_eq_true rfl, Nat.le_of_ble_eq_true rfl⟩ ⟨Nat.le_refl _, Nat.le_refl _⟩ dX0_lackAt_15 (fun H locs hw => ?_)
      refine lv_if_eq (tgt := 64) hx hb dX0_lackAt_18 (by decide) (fun hc => ?_) (fun hc => ?_)
      · replace hf := it_t hc hf
        refine lv_iinc (v := x4 + 1) (lv' := [(4, .int (x4 + 1)), (0, .ref A_t), (1, .ref A_q1), (2, .int x2), (3, .int x3)]) hx hb dX0_lackAt_64 hl (k := 4) rfl rfl (by decide) rfl (fun ls hl => ?_)
        refine lv_goto (tgt := 5) hx hb dX0_lackAt_67 (by decide) ?_
        exact hrc x3 (x4 + 1) _ _ _ hf (lv_sub hl [1, 2, 3, 4, 0] rfl) hw
      · replace hf := it_f hc hf
        refine lv_aload_n hx hb dX0_lackAt_21 rfl (lv_at hl 0 rfl) ?_
        refine g_get hC hw fkX0_19 0 rfl rfl dX0_lackAt_22 ?_
        refine lv_iload hx hb dX0_lackAt_25 (lv_at hl 4 rfl) ?_
        obtain ⟨hi, hf⟩ := ck_s hf
        refine g_iald hC hw 1 rfl hi dX0_lackAt_27 ?_
        refine lv_iload_n hx hb dX0_lackAt_28 rfl (lv_at hl 2 rfl) ?_
        refine lv_icmp_ne (tgt := 64) hx hb dX0_lackAt_29 (by decide) (fun hc => ?_) (fun hc => ?_)
        · replace hf := it_f hc hf
          refine lv_iinc (v := x4 + 1) (lv' := [(4, .int (x4 + 1)), (0, .ref A_t), (1, .ref A_q1), (2, .int x2), (3, .int x3)]) hx hb dX0_lackAt_64 hl (k := 4) rfl rfl (by decide) rfl (fun ls hl => ?_)
          refine lv_goto (tgt := 5) hx hb dX0_lackAt_67 (by decide) ?_
          exact hrc x3 (x4 + 1) _ _ _ hf (lv_sub hl [1, 2, 3, 4, 0] rfl) hw
        · replace hf := it_t hc hf
          refine lv_aload_n hx hb dX0_lackAt_32 rfl (lv_at hl 0 rfl) ?_
          refine lv_aload_n hx hb dX0_lackAt_33 rfl (lv_at hl 1 rfl) ?_
          refine lv_iload hx hb dX0_lackAt_34 (lv_at hl 4 rfl) ?_
          obtain ⟨r3, hq4, hf⟩ := b1_s hf
          refine h_cVi hC hw mvX0_96 (cn_X0_costsHome l G A_t A_t_at A_t_home A_t_light A_t_carries A_t_bearer A_q1 A_q1_planks A_q1_least A_q1_neighbours c_t_there c_t_foggy c_t_at c_t_home c_q1_least x4 r3 hq4) [0, 1, 2, 4, 5] rfl (by decide) 0 rfl rfl rfl hl.1 rfl (Nat.le_of_ble_eq_true rfl) ⟨Nat.le_of_ble_eq_true rfl, Nat.le_of_ble_eq_true rfl⟩ ⟨Nat.le_refl _, Nat.le_refl _⟩ dX0_lackAt_36 (fun H locs hw => ?_)
          refine lv_istore (lv' := [(5, .int r3), (0, .ref A_t), (1, .ref A_q1), (2, .int x2), (3, .int x3), (4, .int x4)]) hx hb dX0_lackAt_39 hl (by decide) rfl (fun ls hl => ?_)
          refine lv_iload hx hb dX0_lackAt_41 (lv_at hl 0 rfl) ?_
          refine g_ldc (v := 1000000) hC (tb3 46 rfl rfl) dX0_lackAt_43 ?_
          refine lv_icmp_lt (tgt := 51) hx hb dX0_lackAt_45 (by decide) (fun hc => ?_) (fun hc => ?_)
          · replace hf := it_t hc hf
            refine lv_iload_n hx hb dX0_lackAt_51 rfl (lv_at hl 4 rfl) ?_
            refine lv_iload hx hb dX0_lackAt_52 (lv_at hl 0 rfl) ?_
            refine lv_aload_n hx hb dX0_lackAt_54 rfl (lv_at hl 1 rfl) ?_
            refine g_get hC hw fkX0_26 0 rfl rfl dX0_lackAt_55 ?_
            refine lv_iload hx hb dX0_lackAt_58 (lv_at hl 5 rfl) ?_
            obtain ⟨hi, hf⟩ := ck_s hf
            refine g_iald hC hw 3 rfl hi dX0_lackAt_60 ?_
            refine lv_isub hx hb dX0_lackAt_61 ?_
            refine lv_iadd hx hb dX0_lackAt_62 ?_
            obtain ⟨y5, ey5, hf⟩ := lx_s hf
            rw [← ey5]
            refine lv_istore_n (lv' := [(3, .int y5), (5, .int r3), (0, .ref A_t), (1, .ref A_q1), (2, .int x2), (4, .int x4)]) hx hb dX0_lackAt_63 rfl hl (by decide) rfl (fun ls hl => ?_)
            refine lv_iinc (v := x4 + 1) (lv' := [(4, .int (x4 + 1)), (3, .int y5), (5, .int r3), (0, .ref A_t), (1, .ref A_q1), (2, .int x2)]) hx hb dX0_lackAt_64 hl (k := 5) rfl rfl (by decide) rfl (fun ls hl => ?_)
            refine lv_goto (tgt := 5) hx hb dX0_lackAt_67 (by decide) ?_
            exact hrc y5 (x4 + 1) _ _ _ hf (lv_sub hl [3, 4, 5, 1, 0] rfl) hw
          · replace hf := it_f hc hf
            refine lv_bipush (v := (-6)) hx hb dX0_lackAt_48 (by decide) ?_
            have h1_ := t1_ hf
            subst h1_
            exact hret _ _ _ _ dX0_lackAt_50 hw
set_option maxHeartbeats 4000000 in
set_option maxRecDepth 100000 in
theorem wn_X0_lackAt {p : Program} {l : Launch} {e : Env} {s : State} {m : MethodId} {args : Array Value} {below : List Frame} {meth : Method} {c : Code} {G : gw_} {A : Nat → Prop} {Q : State → Prop} {A_t : Nat} {A_t_at : Nat} {A_t_home : Nat} {A_t_light : Nat} {A_t_carries : Nat} {A_t_bearer : Nat} {A_q1 : Nat} {A_q1_planks : Nat} {A_q1_least : Nat} {A_q1_neighbours : Nat} {c_t_there : Int32} {c_t_foggy : Int32} {c_t_at : Nat → Int32} {c_t_home : Nat → Int32} {c_t_light : Nat → Int32} {c_q1_least : Nat → Int32} {r : Int32} {x2 : Int32} (hC : cx_ p s m c G cX0_lackAt 6 RX0) (hret : ∀ (pc : Nat) (H : Heap) (locs : List Loc) (ls : Array Slot), decode cX0_lackAt pc = .ok (.ireturn, 1) → wd_ G A s.heap (wl_X0_lackAt G A_t A_t_at A_t_home A_t_light A_t_carries A_t_bearer A_q1 A_q1_planks A_q1_least A_q1_neighbours c_t_there c_t_foggy c_t_at c_t_home c_t_light c_q1_least) H locs → W p l e { frames := 2, cells := 0, slots := 0, locals := 44 } s m args below meth c H locs 0 0 Q (F0 m pc ls [.int r])) (hf : fn_X0_lackAt c_t_there c_t_at c_t_home c_t_light c_q1_least x2 = some r) {H : Heap} {locs : List Loc} {ls : Array Slot} (hl : lv_has ls 6 [(0, .ref A_t), (1, .ref A_q1), (2, .int x2)]) (hw : wd_ G A s.heap (wl_X0_lackAt G A_t A_t_at A_t_home A_t_light A_t_carries A_t_bearer A_q1 A_q1_planks A_q1_least A_q1_neighbours c_t_there c_t_foggy c_t_at c_t_home c_t_light c_q1_least) H locs) : W p l e { frames := 2, cells := 0, slots := 0, locals := 44 } s m args below meth c H locs 0 0 Q (F0 m 0 ls []) := by
  have hx := hC.1
  have hb := hC.2.1
  unfold fn_X0_lackAt at hf
  refine lv_iconst (v := 0) hx hb dX0_lackAt_0 (by decide) ?_
  refine lv_istore_n (lv' := [(3, .int 0), (0, .ref A_t), (1, .ref A_q1), (2, .int x2)]) hx hb dX0_lackAt_1 rfl hl (by decide) rfl (fun ls hl => ?_)
  refine lv_iconst (v := 0) hx hb dX0_lackAt_2 (by decide) ?_
  refine lv_istore (lv' := [(4, .int 0), (3, .int 0), (0, .ref A_t), (1, .ref A_q1), (2, .int x2)]) hx hb dX0_lackAt_3 hl (by decide) rfl (fun ls hl => ?_)
  refine wn_X0_lackAt_l5 hC hret (fun v6 H locs ls hf hl hw => ?_) fu_ 0 0 _ _ _ hf (lv_sub hl [2, 3, 4, 1, 0] rfl) hw
  refine lv_iconst (v := 0) hx hb dX0_lackAt_70 (by decide) ?_
  refine lv_iload_n hx hb dX0_lackAt_71 rfl (lv_at hl 0 rfl) ?_
  refine va_mmax hx hb (hC.2.2.1.trans hl.1.symm) hC.2.2.2.1 (aw_at hC.2.2.2.2.1 args _ (tb3 47 rfl rfl)) (aw_at hC.2.2.2.2.1 args _ (tb3 48 rfl rfl)) (aw_at hC.2.2.2.2.1 args _ (tb1 15 rfl rfl)) (aw_at hC.2.2.2.2.1 args _ (tb3 49 rfl rfl)) (by decide) (Nat.le_of_ble_eq_true rfl) (Nat.le_refl _) (Nat.le_refl _) dX0_lackAt_72 ?_
  obtain ⟨y7, ey7, hf⟩ := lx_s hf
  rw [← ey7]
  have h1_ := t1_ hf
  subst h1_
  exact hret _ _ _ _ dX0_lackAt_75 hw
set_option maxHeartbeats 4000000 in
set_option maxRecDepth 100000 in
theorem cn_X0_lackAt (l : Launch) (G : gw_) (A_t : Nat) (A_t_at : Nat) (A_t_home : Nat) (A_t_light : Nat) (A_t_carries : Nat) (A_t_bearer : Nat) (A_q1 : Nat) (A_q1_planks : Nat) (A_q1_least : Nat) (A_q1_neighbours : Nat) (c_t_there : Int32) (c_t_foggy : Int32) (c_t_at : Nat → Int32) (c_t_home : Nat → Int32) (c_t_light : Nat → Int32) (c_q1_least : Nat → Int32) (x2 : Int32) (r : Int32) (hf : fn_X0_lackAt c_t_there c_t_at c_t_home c_t_light c_q1_least x2 = some r) : ci_ l G yX0_lackAt cX0_lackAt 6 (some .int) 2 44 (wl_X0_lackAt G A_t A_t_at A_t_home A_t_light A_t_carries A_t_bearer A_q1 A_q1_planks A_q1_least A_q1_neighbours c_t_there c_t_foggy c_t_at c_t_home c_t_light c_q1_least) [.ref A_t, .ref A_q1, .int x2] r (wl_X0_lackAt G A_t A_t_at A_t_home A_t_light A_t_carries A_t_bearer A_q1 A_q1_planks A_q1_least A_q1_neighbours c_t_there c_t_foggy c_t_at c_t_home c_t_light c_q1_least) := fun sz => met_intro (by decide) (Nat.le_of_ble_eq_true rfl) (fun p e s m args below meth c ls hsz hC hr hlk hnm hl hw => wn_X0_lackAt hC (fun pc H locs ls hd hw => g_iret hC hr hlk hw rfl rfl hd) hf hl hw)

theorem dX0_postCosts_0 : decode cX0_postCosts 0 = .ok (.iconst 0, 1) := by decide +kernel
theorem dX0_postCosts_1 : decode cX0_postCosts 1 = .ok (.istore 4, 2) := by decide +kernel
theorem dX0_postCosts_3 : decode cX0_postCosts 3 = .ok (.iconst 0, 1) := by decide +kernel
theorem dX0_postCosts_4 : decode cX0_postCosts 4 = .ok (.istore 5, 2) := by decide +kernel
theorem dX0_postCosts_6 : decode cX0_postCosts 6 = .ok (.iconst 0, 1) := by decide +kernel
theorem dX0_postCosts_7 : decode cX0_postCosts 7 = .ok (.istore 6, 2) := by decide +kernel
theorem dX0_postCosts_9 : decode cX0_postCosts 9 = .ok (.iload 6, 2) := by decide +kernel
theorem dX0_postCosts_11 : decode cX0_postCosts 11 = .ok (.bipush 6, 2) := by decide +kernel
theorem dX0_postCosts_13 : decode cX0_postCosts 13 = .ok (.if_icmp .ge 48, 3) := by decide +kernel
theorem dX0_postCosts_16 : decode cX0_postCosts 16 = .ok (.aload_n 0, 1) := by decide +kernel
theorem dX0_postCosts_17 : decode cX0_postCosts 17 = .ok (.iload 6, 2) := by decide +kernel
theorem dX0_postCosts_19 : decode cX0_postCosts 19 = .ok (.invokevirtual 68, 3) := by decide +kernel
theorem dX0_postCosts_22 : decode cX0_postCosts 22 = .ok (.ifCond .eq 33, 3) := by decide +kernel
theorem dX0_postCosts_25 : decode cX0_postCosts 25 = .ok (.aload_n 1, 1) := by decide +kernel
theorem dX0_postCosts_26 : decode cX0_postCosts 26 = .ok (.iload_n 2, 1) := by decide +kernel
theorem dX0_postCosts_27 : decode cX0_postCosts 27 = .ok (.aload_n 0, 1) := by decide +kernel
theorem dX0_postCosts_28 : decode cX0_postCosts 28 = .ok (.getfield 23, 3) := by decide +kernel
theorem dX0_postCosts_31 : decode cX0_postCosts 31 = .ok (.iload 6, 2) := by decide +kernel
theorem dX0_postCosts_33 : decode cX0_postCosts 33 = .ok (.iaload, 1) := by decide +kernel
theorem dX0_postCosts_34 : decode cX0_postCosts 34 = .ok (.invokevirtual 87, 3) := by decide +kernel
theorem dX0_postCosts_37 : decode cX0_postCosts 37 = .ok (.istore 7, 2) := by decide +kernel
theorem dX0_postCosts_39 : decode cX0_postCosts 39 = .ok (.iload 4, 2) := by decide +kernel
theorem dX0_postCosts_41 : decode cX0_postCosts 41 = .ok (.iload 7, 2) := by decide +kernel
theorem dX0_postCosts_43 : decode cX0_postCosts 43 = .ok (.iadd, 1) := by decide +kernel
theorem dX0_postCosts_44 : decode cX0_postCosts 44 = .ok (.istore 4, 2) := by decide +kernel
theorem dX0_postCosts_46 : decode cX0_postCosts 46 = .ok (.iload 5, 2) := by decide +kernel
theorem dX0_postCosts_48 : decode cX0_postCosts 48 = .ok (.iload 7, 2) := by decide +kernel
theorem dX0_postCosts_50 : decode cX0_postCosts 50 = .ok (.invokestatic 104, 3) := by decide +kernel
theorem dX0_postCosts_53 : decode cX0_postCosts 53 = .ok (.istore 5, 2) := by decide +kernel
theorem dX0_postCosts_55 : decode cX0_postCosts 55 = .ok (.iinc 6 1, 3) := by decide +kernel
theorem dX0_postCosts_58 : decode cX0_postCosts 58 = .ok (.goto (-49), 3) := by decide +kernel
theorem dX0_postCosts_61 : decode cX0_postCosts 61 = .ok (.iload_n 3, 1) := by decide +kernel
theorem dX0_postCosts_62 : decode cX0_postCosts 62 = .ok (.ifCond .eq 8, 3) := by decide +kernel
theorem dX0_postCosts_65 : decode cX0_postCosts 65 = .ok (.iload 4, 2) := by decide +kernel
theorem dX0_postCosts_67 : decode cX0_postCosts 67 = .ok (.goto 5, 3) := by decide +kernel
theorem dX0_postCosts_70 : decode cX0_postCosts 70 = .ok (.iload 5, 2) := by decide +kernel
theorem dX0_postCosts_72 : decode cX0_postCosts 72 = .ok (.ireturn, 1) := by decide +kernel
abbrev wl_X0_postCosts (G : gw_) (A_t : Nat) (A_t_at : Nat) (A_t_home : Nat) (A_t_light : Nat) (A_t_carries : Nat) (A_t_bearer : Nat) (A_q1 : Nat) (A_q1_planks : Nat) (A_q1_least : Nat) (A_q1_neighbours : Nat) (c_t_there : Int32) (c_t_foggy : Int32) (c_t_home : Nat → Int32) (c_q1_least : Nat → Int32) : va_W := [ob_ A_t 0 [.int c_t_there, .int c_t_foggy, .ref A_t_at, .ref A_t_home, .ref A_t_light, .ref A_t_carries, .ref A_t_bearer], ia_ G A_t_home 6 c_t_home, ob_ A_q1 8 [.ref A_q1_planks, .ref A_q1_least, .ref A_q1_neighbours], ia_ G A_q1_least 144 c_q1_least]
def fn_X0_postCosts_b9 (c_t_there : Int32) (c_t_home : Nat → Int32) (c_q1_least : Nat → Int32) (x2 : Int32) (rc : Int32 → Int32 → Int32 → Option (Int32)) (k : Int32 → Int32 → Option (Int32)) (x4 : Int32) (x5 : Int32) (x6 : Int32) : Option (Int32) :=
  if 6 ≤ x6 then
    k x4 x5
  else
    b1_ (fn_X0_has c_t_there x6) fun r1 =>
    if r1 = 0 then
      rc x4 x5 (x6 + 1)
    else
      ck_ x6 6 <|
      b1_ (fn_X8_between c_q1_least x2 (c_t_home (Int32.toNatClampNeg x6))) fun r3 =>
      lx_ (if x5 < r3 then r3 else x5) fun y5 =>
      rc (x4 + r3) y5 (x6 + 1)
def fn_X0_postCosts_l9 (c_t_there : Int32) (c_t_home : Nat → Int32) (c_q1_least : Nat → Int32) (x2 : Int32) (k : Int32 → Int32 → Option (Int32)) : Nat → Int32 → Int32 → Int32 → Option (Int32)
  | 0 => fun _ _ _ => none
  | n + 1 => fun x4 x5 x6 => fn_X0_postCosts_b9 c_t_there c_t_home c_q1_least x2 (fn_X0_postCosts_l9 c_t_there c_t_home c_q1_least x2 k n) k x4 x5 x6
def fn_X0_postCosts (c_t_there : Int32) (c_t_home : Nat → Int32) (c_q1_least : Nat → Int32) (x2 : Int32) (x3 : Int32) : Option (Int32) :=
  fn_X0_postCosts_l9 c_t_there c_t_home c_q1_least x2 (fun v6 v7 =>
    if x3 = 0 then
      some v7
    else
      some v6) fu_ 0 0 0
set_option maxHeartbeats 4000000 in
set_option maxRecDepth 100000 in
theorem wn_X0_postCosts_l9 {p : Program} {l : Launch} {e : Env} {s : State} {m : MethodId} {args : Array Value} {below : List Frame} {meth : Method} {c : Code} {G : gw_} {A : Nat → Prop} {Q : State → Prop} {A_t : Nat} {A_t_at : Nat} {A_t_home : Nat} {A_t_light : Nat} {A_t_carries : Nat} {A_t_bearer : Nat} {A_q1 : Nat} {A_q1_planks : Nat} {A_q1_least : Nat} {A_q1_neighbours : Nat} {c_t_there : Int32} {c_t_foggy : Int32} {c_t_home : Nat → Int32} {c_q1_least : Nat → Int32} {r : Int32} {x2 : Int32} {x3 : Int32} {k : Int32 → Int32 → Option (Int32)} (hC : cx_ p s m c G cX0_postCosts 8 RX0) (hret : ∀ (pc : Nat) (H : Heap) (locs : List Loc) (ls : Array Slot), decode cX0_postCosts pc = .ok (.ireturn, 1) → wd_ G A s.heap (wl_X0_postCosts G A_t A_t_at A_t_home A_t_light A_t_carries A_t_bearer A_q1 A_q1_planks A_q1_least A_q1_neighbours c_t_there c_t_foggy c_t_home c_q1_least) H locs → W p l e { frames := 2, cells := 0, slots := 0, locals := 43 } s m args below meth c H locs 0 0 Q (F0 m pc ls [.int r])) (hk : ∀ (x4 : Int32) (x5 : Int32) (H : Heap) (locs : List Loc) (ls : Array Slot), k x4 x5 = some r → lv_has ls 8 [(3, .int x3), (4, .int x4), (5, .int x5)] → wd_ G A s.heap (wl_X0_postCosts G A_t A_t_at A_t_home A_t_light A_t_carries A_t_bearer A_q1 A_q1_planks A_q1_least A_q1_neighbours c_t_there c_t_foggy c_t_home c_q1_least) H locs → W p l e { frames := 2, cells := 0, slots := 0, locals := 43 } s m args below meth c H locs 0 0 Q (F0 m 61 ls [])) : ∀ (n : Nat) (x4 : Int32) (x5 : Int32) (x6 : Int32) (H : Heap) (locs : List Loc) (ls : Array Slot), fn_X0_postCosts_l9 c_t_there c_t_home c_q1_least x2 k n x4 x5 x6 = some r → lv_has ls 8 [(0, .ref A_t), (1, .ref A_q1), (2, .int x2), (3, .int x3), (4, .int x4), (5, .int x5), (6, .int x6)] → wd_ G A s.heap (wl_X0_postCosts G A_t A_t_at A_t_home A_t_light A_t_carries A_t_bearer A_q1 A_q1_planks A_q1_least A_q1_neighbours c_t_there c_t_foggy c_t_home c_q1_least) H locs → W p l e { frames := 2, cells := 0, slots := 0, locals := 43 } s m args below meth c H locs 0 0 Q (F0 m 9 ls []) := by
  have hx := hC.1
  have hb := hC.2.1
  intro n
  induction n with
  | zero =>
    intro x4 x5 x6 H locs ls hf
    cases (show (none : Option (Int32)) = some _ from hf)
  | succ n hrc =>
    intro x4 x5 x6 H locs ls hf hl hw
    replace hf : fn_X0_postCosts_b9 c_t_there c_t_home c_q1_least x2 (fn_X0_postCosts_l9 c_t_there c_t_home c_q1_least x2 k n) k x4 x5 x6 = some r := hf
    unfold fn_X0_postCosts_b9 at hf
    refine lv_iload hx hb dX0_postCosts_9 (lv_at hl 6 rfl) ?_
    refine lv_bipush (v := 6) hx hb dX0_postCosts_11 (by decide) ?_
    refine lv_icmp_ge (tgt := 61) hx hb dX0_postCosts_13 (by decide) (fun hc => ?_) (fun hc => ?_)
    · replace hf := it_t hc hf
      exact hk x4 x5 _ _ _ hf (lv_sub hl [3, 4, 5] rfl) hw
    · replace hf := it_f hc hf
      refine lv_aload_n hx hb dX0_postCosts_16 rfl (lv_at hl 0 rfl) ?_
      refine lv_iload hx hb dX0_postCosts_17 (lv_at hl 6 rfl) ?_
      obtain ⟨r1, hq2, hf⟩ := b1_s hf
      refine h_cVi hC hw mvX0_68 (cn_X0_has l G A_t A_t_at A_t_home A_t_light A_t_carries A_t_bearer c_t_there c_t_foggy x6 r1 hq2) [0] rfl (by decide) 0 rfl rfl rfl hl.1 rfl (Nat.le_of_ble_eq_true rfl) ⟨Nat.le_of_ble_eq_true rfl, Nat.le_of_ble_eq_true rfl⟩ ⟨Nat.le_refl _, Nat.le_refl _⟩ dX0_postCosts_19 (fun H locs hw => ?_)
      refine lv_if_eq (tgt := 55) hx hb dX0_postCosts_22 (by decide) (fun hc => ?_) (fun hc => ?_)
      · replace hf := it_t hc hf
        refine lv_iinc (v := x6 + 1) (lv' := [(6, .int (x6 + 1)), (0, .ref A_t), (1, .ref A_q1), (2, .int x2), (3, .int x3), (4, .int x4), (5, .int x5)]) hx hb dX0_postCosts_55 hl (k := 6) rfl rfl (by decide) rfl (fun ls hl => ?_)
        refine lv_goto (tgt := 9) hx hb dX0_postCosts_58 (by decide) ?_
        exact hrc x4 x5 (x6 + 1) _ _ _ hf (lv_sub hl [1, 2, 3, 4, 5, 6, 0] rfl) hw
      · replace hf := it_f hc hf
        refine lv_aload_n hx hb dX0_postCosts_25 rfl (lv_at hl 1 rfl) ?_
        refine lv_iload_n hx hb dX0_postCosts_26 rfl (lv_at hl 2 rfl) ?_
        refine lv_aload_n hx hb dX0_postCosts_27 rfl (lv_at hl 0 rfl) ?_
        refine g_get hC hw fkX0_23 0 rfl rfl dX0_postCosts_28 ?_
        refine lv_iload hx hb dX0_postCosts_31 (lv_at hl 6 rfl) ?_
        obtain ⟨hi, hf⟩ := ck_s hf
        refine g_iald hC hw 1 rfl hi dX0_postCosts_33 ?_
        obtain ⟨r3, hq4, hf⟩ := b1_s hf
        refine h_cVi hC hw mvX0_87 (cn_X8_between l G A_q1 A_q1_planks A_q1_least A_q1_neighbours c_q1_least x2 (c_t_home (Int32.toNatClampNeg x6)) r3 hq4) [2, 3] rfl (by decide) 2 rfl rfl rfl hl.1 rfl (Nat.le_of_ble_eq_true rfl) ⟨Nat.le_of_ble_eq_true rfl, Nat.le_of_ble_eq_true rfl⟩ ⟨Nat.le_refl _, Nat.le_refl _⟩ dX0_postCosts_34 (fun H locs hw => ?_)
        refine lv_istore (lv' := [(7, .int r3), (0, .ref A_t), (1, .ref A_q1), (2, .int x2), (3, .int x3), (4, .int x4), (5, .int x5), (6, .int x6)]) hx hb dX0_postCosts_37 hl (by decide) rfl (fun ls hl => ?_)
        refine lv_iload hx hb dX0_postCosts_39 (lv_at hl 5 rfl) ?_
        refine lv_iload hx hb dX0_postCosts_41 (lv_at hl 0 rfl) ?_
        refine lv_iadd hx hb dX0_postCosts_43 ?_
        refine lv_istore (lv' := [(4, .int (x4 + r3)), (7, .int r3), (0, .ref A_t), (1, .ref A_q1), (2, .int x2), (3, .int x3), (5, .int x5), (6, .int x6)]) hx hb dX0_postCosts_44 hl (by decide) rfl (fun ls hl => ?_)
        refine lv_iload hx hb dX0_postCosts_46 (lv_at hl 6 rfl) ?_
        refine lv_iload hx hb dX0_postCosts_48 (lv_at hl 1 rfl) ?_
        refine va_mmax hx hb (hC.2.2.1.trans hl.1.symm) hC.2.2.2.1 (aw_at hC.2.2.2.2.1 args _ (tb3 47 rfl rfl)) (aw_at hC.2.2.2.2.1 args _ (tb3 48 rfl rfl)) (aw_at hC.2.2.2.2.1 args _ (tb1 15 rfl rfl)) (aw_at hC.2.2.2.2.1 args _ (tb3 49 rfl rfl)) (by decide) (Nat.le_of_ble_eq_true rfl) (Nat.le_refl _) (Nat.le_refl _) dX0_postCosts_50 ?_
        obtain ⟨y5, ey5, hf⟩ := lx_s hf
        rw [← ey5]
        refine lv_istore (lv' := [(5, .int y5), (4, .int (x4 + r3)), (7, .int r3), (0, .ref A_t), (1, .ref A_q1), (2, .int x2), (3, .int x3), (6, .int x6)]) hx hb dX0_postCosts_53 hl (by decide) rfl (fun ls hl => ?_)
        refine lv_iinc (v := x6 + 1) (lv' := [(6, .int (x6 + 1)), (5, .int y5), (4, .int (x4 + r3)), (7, .int r3), (0, .ref A_t), (1, .ref A_q1), (2, .int x2), (3, .int x3)]) hx hb dX0_postCosts_55 hl (k := 7) rfl rfl (by decide) rfl (fun ls hl => ?_)
        refine lv_goto (tgt := 9) hx hb dX0_postCosts_58 (by decide) ?_
        exact hrc (x4 + r3) y5 (x6 + 1) _ _ _ hf (lv_sub hl [4, 5, 6, 7, 2, 1, 0] rfl) hw
set_option maxHeartbeats 4000000 in
set_option maxRecDepth 100000 in
theorem wn_X0_postCosts {p : Program} {l : Launch} {e : Env} {s : State} {m : MethodId} {args : Array Value} {below : List Frame} {meth : Method} {c : Code} {G : gw_} {A : Nat → Prop} {Q : State → Prop} {A_t : Nat} {A_t_at : Nat} {A_t_home : Nat} {A_t_light : Nat} {A_t_carries : Nat} {A_t_bearer : Nat} {A_q1 : Nat} {A_q1_planks : Nat} {A_q1_least : Nat} {A_q1_neighbours : Nat} {c_t_there : Int32} {c_t_foggy : Int32} {c_t_home : Nat → Int32} {c_q1_least : Nat → Int32} {r : Int32} {x2 : Int32} {x3 : Int32} (hC : cx_ p s m c G cX0_postCosts 8 RX0) (hret : ∀ (pc : Nat) (H : Heap) (locs : List Loc) (ls : Array Slot), decode cX0_postCosts pc = .ok (.ireturn, 1) → wd_ G A s.heap (wl_X0_postCosts G A_t A_t_at A_t_home A_t_light A_t_carries A_t_bearer A_q1 A_q1_planks A_q1_least A_q1_neighbours c_t_there c_t_foggy c_t_home c_q1_least) H locs → W p l e { frames := 2, cells := 0, slots := 0, locals := 43 } s m args below meth c H locs 0 0 Q (F0 m pc ls [.int r])) (hf : fn_X0_postCosts c_t_there c_t_home c_q1_least x2 x3 = some r) {H : Heap} {locs : List Loc} {ls : Array Slot} (hl : lv_has ls 8 [(0, .ref A_t), (1, .ref A_q1), (2, .int x2), (3, .int x3)]) (hw : wd_ G A s.heap (wl_X0_postCosts G A_t A_t_at A_t_home A_t_light A_t_carries A_t_bearer A_q1 A_q1_planks A_q1_least A_q1_neighbours c_t_there c_t_foggy c_t_home c_q1_least) H locs) : W p l e { frames := 2, cells := 0, slots := 0, locals := 43 } s m args below meth c H locs 0 0 Q (F0 m 0 ls []) := by
  have hx := hC.1
  have hb := hC.2.1
  unfold fn_X0_postCosts at hf
  refine lv_iconst (v := 0) hx hb dX0_postCosts_0 (by decide) ?_
  refine lv_istore (lv' := [(4, .int 0), (0, .ref A_t), (1, .ref A_q1), (2, .int x2), (3, .int x3)]) hx hb dX0_postCosts_1 hl (by decide) rfl (fun ls hl => ?_)
  refine lv_iconst (v := 0) hx hb dX0_postCosts_3 (by decide) ?_
  refine lv_istore (lv' := [(5, .int 0), (4, .int 0), (0, .ref A_t), (1, .ref A_q1), (2, .int x2), (3, .int x3)]) hx hb dX0_postCosts_4 hl (by decide) rfl (fun ls hl => ?_)
  refine lv_iconst (v := 0) hx hb dX0_postCosts_6 (by decide) ?_
  refine lv_istore (lv' := [(6, .int 0), (5, .int 0), (4, .int 0), (0, .ref A_t), (1, .ref A_q1), (2, .int x2), (3, .int x3)]) hx hb dX0_postCosts_7 hl (by decide) rfl (fun ls hl => ?_)
  refine wn_X0_postCosts_l9 hC hret (fun v6 v7 H locs ls hf hl hw => ?_) fu_ 0 0 0 _ _ _ hf (lv_sub hl [3, 4, 5, 6, 2, 1, 0] rfl) hw
  refine lv_iload_n hx hb dX0_postCosts_61 rfl (lv_at hl 0 rfl) ?_
  refine lv_if_eq (tgt := 70) hx hb dX0_postCosts_62 (by decide) (fun hc => ?_) (fun hc => ?_)
  · replace hf := it_t hc hf
    refine lv_iload hx hb dX0_postCosts_70 (lv_at hl 2 rfl) ?_
    have h1_ := t1_ hf
    subst h1_
    exact hret _ _ _ _ dX0_postCosts_72 hw
  · replace hf := it_f hc hf
    refine lv_iload hx hb dX0_postCosts_65 (lv_at hl 1 rfl) ?_
    refine lv_goto (tgt := 72) hx hb dX0_postCosts_67 (by decide) ?_
    have h1_ := t1_ hf
    subst h1_
    exact hret _ _ _ _ dX0_postCosts_72 hw
set_option maxHeartbeats 4000000 in
set_option maxRecDepth 100000 in
theorem cn_X0_postCosts (l : Launch) (G : gw_) (A_t : Nat) (A_t_at : Nat) (A_t_home : Nat) (A_t_light : Nat) (A_t_carries : Nat) (A_t_bearer : Nat) (A_q1 : Nat) (A_q1_planks : Nat) (A_q1_least : Nat) (A_q1_neighbours : Nat) (c_t_there : Int32) (c_t_foggy : Int32) (c_t_home : Nat → Int32) (c_q1_least : Nat → Int32) (x2 : Int32) (x3 : Int32) (r : Int32) (hf : fn_X0_postCosts c_t_there c_t_home c_q1_least x2 x3 = some r) : ci_ l G yX0_postCosts cX0_postCosts 8 (some .int) 2 43 (wl_X0_postCosts G A_t A_t_at A_t_home A_t_light A_t_carries A_t_bearer A_q1 A_q1_planks A_q1_least A_q1_neighbours c_t_there c_t_foggy c_t_home c_q1_least) [.ref A_t, .ref A_q1, .int x2, .int x3] r (wl_X0_postCosts G A_t A_t_at A_t_home A_t_light A_t_carries A_t_bearer A_q1 A_q1_planks A_q1_least A_q1_neighbours c_t_there c_t_foggy c_t_home c_q1_least) := fun sz => met_intro (by decide) (Nat.le_of_ble_eq_true rfl) (fun p e s m args below meth c ls hsz hC hr hlk hnm hl hw => wn_X0_postCosts hC (fun pc H locs ls hd hw => g_iret hC hr hlk hw rfl rfl hd) hf hl hw)
