theorem dX10_seen_0 : decode cX10_seen 0 = .ok (.iload_n 1, 1) := by decide +kernel
theorem dX10_seen_1 : decode cX10_seen 1 = .ok (.invokestatic 100, 3) := by decide +kernel
theorem dX10_seen_4 : decode cX10_seen 4 = .ok (.ifCond .ne 5, 3) := by decide +kernel
theorem dX10_seen_7 : decode cX10_seen 7 = .ok (.iconst (-1), 1) := by decide +kernel
theorem dX10_seen_8 : decode cX10_seen 8 = .ok (.ireturn, 1) := by decide +kernel
theorem dX10_seen_9 : decode cX10_seen 9 = .ok (.iload_n 2, 1) := by decide +kernel
theorem dX10_seen_10 : decode cX10_seen 10 = .ok (.i2l, 1) := by decide +kernel
theorem dX10_seen_11 : decode cX10_seen 11 = .ok (.lconst 0, 1) := by decide +kernel
theorem dX10_seen_12 : decode cX10_seen 12 = .ok (.ldc2_w 109, 3) := by decide +kernel
theorem dX10_seen_15 : decode cX10_seen 15 = .ok (.invokestatic 79, 3) := by decide +kernel
theorem dX10_seen_18 : decode cX10_seen 18 = .ok (.ifCond .ne 6, 3) := by decide +kernel
theorem dX10_seen_21 : decode cX10_seen 21 = .ok (.bipush (-2), 2) := by decide +kernel
theorem dX10_seen_23 : decode cX10_seen 23 = .ok (.ireturn, 1) := by decide +kernel
theorem dX10_seen_24 : decode cX10_seen 24 = .ok (.aload_n 0, 1) := by decide +kernel
theorem dX10_seen_25 : decode cX10_seen 25 = .ok (.getfield 254, 3) := by decide +kernel
theorem dX10_seen_28 : decode cX10_seen 28 = .ok (.bipush 8, 2) := by decide +kernel
theorem dX10_seen_30 : decode cX10_seen 30 = .ok (.if_icmp .ne 6, 3) := by decide +kernel
theorem dX10_seen_33 : decode cX10_seen 33 = .ok (.bipush (-4), 2) := by decide +kernel
theorem dX10_seen_35 : decode cX10_seen 35 = .ok (.ireturn, 1) := by decide +kernel
theorem dX10_seen_36 : decode cX10_seen 36 = .ok (.aload_n 0, 1) := by decide +kernel
theorem dX10_seen_37 : decode cX10_seen 37 = .ok (.getfield 28, 3) := by decide +kernel
theorem dX10_seen_40 : decode cX10_seen 40 = .ok (.aload_n 0, 1) := by decide +kernel
theorem dX10_seen_41 : decode cX10_seen 41 = .ok (.getfield 254, 3) := by decide +kernel
theorem dX10_seen_44 : decode cX10_seen 44 = .ok (.iload_n 1, 1) := by decide +kernel
theorem dX10_seen_45 : decode cX10_seen 45 = .ok (.iastore, 1) := by decide +kernel
theorem dX10_seen_46 : decode cX10_seen 46 = .ok (.aload_n 0, 1) := by decide +kernel
theorem dX10_seen_47 : decode cX10_seen 47 = .ok (.getfield 31, 3) := by decide +kernel
theorem dX10_seen_50 : decode cX10_seen 50 = .ok (.aload_n 0, 1) := by decide +kernel
theorem dX10_seen_51 : decode cX10_seen 51 = .ok (.getfield 254, 3) := by decide +kernel
theorem dX10_seen_54 : decode cX10_seen 54 = .ok (.iload_n 2, 1) := by decide +kernel
theorem dX10_seen_55 : decode cX10_seen 55 = .ok (.iastore, 1) := by decide +kernel
theorem dX10_seen_56 : decode cX10_seen 56 = .ok (.aload_n 0, 1) := by decide +kernel
theorem dX10_seen_57 : decode cX10_seen 57 = .ok (.dup, 1) := by decide +kernel
theorem dX10_seen_58 : decode cX10_seen 58 = .ok (.getfield 254, 3) := by decide +kernel
theorem dX10_seen_61 : decode cX10_seen 61 = .ok (.iconst 1, 1) := by decide +kernel
theorem dX10_seen_62 : decode cX10_seen 62 = .ok (.iadd, 1) := by decide +kernel
theorem dX10_seen_63 : decode cX10_seen 63 = .ok (.putfield 254, 3) := by decide +kernel
theorem dX10_seen_66 : decode cX10_seen 66 = .ok (.aload_n 0, 1) := by decide +kernel
theorem dX10_seen_67 : decode cX10_seen 67 = .ok (.getfield 254, 3) := by decide +kernel
theorem dX10_seen_70 : decode cX10_seen 70 = .ok (.ireturn, 1) := by decide +kernel
abbrev wl_X10_seen (G : gw_) (A_t : Nat) (A_t_steps : Nat) (A_t_wet : Nat) (A_t_where : Nat) (A_t_home : Nat) (A_t_light : Nat) (A_t_carries : Nat) (A_t_sightPlace : Nat) (A_t_sightLight : Nat) (A_t_pad : Nat) (A_t_act : Nat) (A_t_whose : Nat) (A_t_whom : Nat) (A_t_tens : Nat) (A_t_had : Nat) (A_t_leaves : Nat) (A_t_apart : Nat) (A_t_stop : Nat) (A_t_restOf : Nat) (A_t_group : Nat) (A_t_along : Nat) (A_t_kept : Nat) (A_t_isKept : Nat) (c_t_foggy : Int32) (c_t_walkers : Int32) (c_t_sights : Int32) (c_t_padMany : Int32) (c_t_acts : Int32) (c_t_spent : Int32) (c_t_walks : Int32) (c_t_badAct : Int32) (c_t_badWhy : Int32) (c_t_keptAt : Int32) (c_t_isWriting : Int32) (c_t_sightPlace : Nat → Int32) (c_t_sightLight : Nat → Int32) : va_W := [ob_ A_t 10 [.ref A_t_steps, .ref A_t_wet, .int c_t_foggy, .int c_t_walkers, .ref A_t_where, .ref A_t_home, .ref A_t_light, .ref A_t_carries, .ref A_t_sightPlace, .ref A_t_sightLight, .int c_t_sights, .ref A_t_pad, .int c_t_padMany, .ref A_t_act, .ref A_t_whose, .ref A_t_whom, .ref A_t_tens, .int c_t_acts, .int c_t_spent, .int c_t_walks, .ref A_t_had, .ref A_t_leaves, .int c_t_badAct, .int c_t_badWhy, .ref A_t_apart, .ref A_t_stop, .ref A_t_restOf, .ref A_t_group, .ref A_t_along, .ref A_t_kept, .ref A_t_isKept, .int c_t_keptAt, .int c_t_isWriting], ia_ G A_t_sightPlace 8 c_t_sightPlace, ia_ G A_t_sightLight 8 c_t_sightLight]
def fn_X10_seen (c_t_sights : Int32) (c_t_sightPlace : Nat → Int32) (c_t_sightLight : Nat → Int32) (x1 : Int32) (x2 : Int32) : Option (Int32 × Int32 × (Nat → Int32) × (Nat → Int32)) :=
  b1_ (fn_X10_isPlace x1) fun r1 =>
  if r1 = 0 then
    some ((-1), c_t_sights, c_t_sightPlace, c_t_sightLight)
  else
    b1_ (fn_X10_in (Int32.toInt64 x2) 0 999) fun r3 =>
    if r3 = 0 then
      some ((-2), c_t_sights, c_t_sightPlace, c_t_sightLight)
    else
      if c_t_sights = 8 then
        some ((-4), c_t_sights, c_t_sightPlace, c_t_sightLight)
      else
        ck_ c_t_sights 8 <|
        lx_ (upd c_t_sightPlace (Int32.toNatClampNeg c_t_sights) x1) fun f5 =>
        ck_ c_t_sights 8 <|
        lx_ (upd c_t_sightLight (Int32.toNatClampNeg c_t_sights) x2) fun f6 =>
        some (c_t_sights + 1, c_t_sights + 1, f5, f6)
set_option maxHeartbeats 4000000 in
set_option maxRecDepth 100000 in
theorem wn_X10_seen {p : Program} {l : Launch} {e : Env} {s : State} {m : MethodId} {args : Array Value} {below : List Frame} {meth : Method} {c : Code} {G : gw_} {A : Nat → Prop} {Q : State → Prop} {A_t : Nat} {A_t_steps : Nat} {A_t_wet : Nat} {A_t_where : Nat} {A_t_home : Nat} {A_t_light : Nat} {A_t_carries : Nat} {A_t_sightPlace : Nat} {A_t_sightLight : Nat} {A_t_pad : Nat} {A_t_act : Nat} {A_t_whose : Nat} {A_t_whom : Nat} {A_t_tens : Nat} {A_t_had : Nat} {A_t_leaves : Nat} {A_t_apart : Nat} {A_t_stop : Nat} {A_t_restOf : Nat} {A_t_group : Nat} {A_t_along : Nat} {A_t_kept : Nat} {A_t_isKept : Nat} {c_t_foggy : Int32} {c_t_walkers : Int32} {c_t_sights : Int32} {z_t_sights : Int32} {c_t_padMany : Int32} {c_t_acts : Int32} {c_t_spent : Int32} {c_t_walks : Int32} {c_t_badAct : Int32} {c_t_badWhy : Int32} {c_t_keptAt : Int32} {c_t_isWriting : Int32} {c_t_sightPlace : Nat → Int32} {z_t_sightPlace : Nat → Int32} {c_t_sightLight : Nat → Int32} {z_t_sightLight : Nat → Int32} {r : Int32} {x1 : Int32} {x2 : Int32} (hC : cx_ p s m c G cX10_seen 3 RX10) (hret : ∀ (pc : Nat) (H : Heap) (locs : List Loc) (ls : Array Slot), decode cX10_seen pc = .ok (.ireturn, 1) → wd_ G A s.heap (wl_X10_seen G A_t A_t_steps A_t_wet A_t_where A_t_home A_t_light A_t_carries A_t_sightPlace A_t_sightLight A_t_pad A_t_act A_t_whose A_t_whom A_t_tens A_t_had A_t_leaves A_t_apart A_t_stop A_t_restOf A_t_group A_t_along A_t_kept A_t_isKept c_t_foggy c_t_walkers z_t_sights c_t_padMany c_t_acts c_t_spent c_t_walks c_t_badAct c_t_badWhy c_t_keptAt c_t_isWriting z_t_sightPlace z_t_sightLight) H locs → W p l e { frames := 2, cells := 0, slots := 0, locals := 45 } s m args below meth c H locs 0 0 Q (F0 m pc ls [.int r])) (hf : fn_X10_seen c_t_sights c_t_sightPlace c_t_sightLight x1 x2 = some (r, z_t_sights, z_t_sightPlace, z_t_sightLight)) {H : Heap} {locs : List Loc} {ls : Array Slot} (hl : lv_has ls 3 [(0, .ref A_t), (1, .int x1), (2, .int x2)]) (hw : wd_ G A s.heap (wl_X10_seen G A_t A_t_steps A_t_wet A_t_where A_t_home A_t_light A_t_carries A_t_sightPlace A_t_sightLight A_t_pad A_t_act A_t_whose A_t_whom A_t_tens A_t_had A_t_leaves A_t_apart A_t_stop A_t_restOf A_t_group A_t_along A_t_kept A_t_isKept c_t_foggy c_t_walkers c_t_sights c_t_padMany c_t_acts c_t_spent c_t_walks c_t_badAct c_t_badWhy c_t_keptAt c_t_isWriting c_t_sightPlace c_t_sightLight) H locs) : W p l e { frames := 2, cells := 0, slots := 0, locals := 45 } s m args below meth c H locs 0 0 Q (F0 m 0 ls []) := by
  have hx := hC.1
  have hb := hC.2.1
  unfold fn_X10_seen at hf
  refine lv_iload_n hx hb dX10_seen_0 rfl (lv_at hl 1 rfl) ?_
  obtain ⟨r1, hq2, hf⟩ := b1_s hf
  refine h_cSi hC hw msX10_100 (cn_X10_isPlace l G x1 r1 hq2) [] rfl (by decide) rfl hl.1 rfl (Nat.le_of_ble_eq_true rfl) ⟨Nat.le_of_ble_eq_true rfl, Nat.le_of_ble_eq_true rfl⟩ ⟨Nat.le_refl _, Nat.le_refl _⟩ dX10_seen_1 (fun H locs hw => ?_)
  refine lv_if_ne (tgt := 9) hx hb dX10_seen_4 (by decide) (fun hc => ?_) (fun hc => ?_)
  · replace hf := it_f hc hf
    refine lv_iload_n hx hb dX10_seen_9 rfl (lv_at hl 2 rfl) ?_
    refine lv_i2l hx hb dX10_seen_10 rfl ?_
    refine lv_lconst (v := 0) hx hb dX10_seen_11 (by decide) ?_
    refine g_ldc2 (v := 999) hC (tb4 123 rfl rfl) dX10_seen_12 ?_
    obtain ⟨r3, hq4, hf⟩ := b1_s hf
    refine h_cSi hC hw msX10_79 (cn_X10_in l G (Int32.toInt64 x2) 0 999 r3 hq4) [] rfl (by decide) rfl hl.1 rfl (Nat.le_of_ble_eq_true rfl) ⟨Nat.le_of_ble_eq_true rfl, Nat.le_of_ble_eq_true rfl⟩ ⟨Nat.le_refl _, Nat.le_refl _⟩ dX10_seen_15 (fun H locs hw => ?_)
    refine lv_if_ne (tgt := 24) hx hb dX10_seen_18 (by decide) (fun hc => ?_) (fun hc => ?_)
    · replace hf := it_f hc hf
      refine lv_aload_n hx hb dX10_seen_24 rfl (lv_at hl 0 rfl) ?_
      refine g_get hC hw fkX10_254 0 rfl rfl dX10_seen_25 ?_
      refine lv_bipush (v := 8) hx hb dX10_seen_28 (by decide) ?_
      refine lv_icmp_ne (tgt := 36) hx hb dX10_seen_30 (by decide) (fun hc => ?_) (fun hc => ?_)
      · replace hf := it_f hc hf
        refine lv_aload_n hx hb dX10_seen_36 rfl (lv_at hl 0 rfl) ?_
        refine g_get hC hw fkX10_28 0 rfl rfl dX10_seen_37 ?_
        refine lv_aload_n hx hb dX10_seen_40 rfl (lv_at hl 0 rfl) ?_
        refine g_get hC hw fkX10_254 0 rfl rfl dX10_seen_41 ?_
        refine lv_iload_n hx hb dX10_seen_44 rfl (lv_at hl 1 rfl) ?_
        obtain ⟨hi, hf⟩ := ck_s hf
        obtain ⟨f5, ef5, hf⟩ := lx_s hf
        refine g_iast hC hw 1 rfl hi ef5 dX10_seen_45 (fun H locs hw => ?_)
        have hw : wd_ G A s.heap (wl_X10_seen G A_t A_t_steps A_t_wet A_t_where A_t_home A_t_light A_t_carries A_t_sightPlace A_t_sightLight A_t_pad A_t_act A_t_whose A_t_whom A_t_tens A_t_had A_t_leaves A_t_apart A_t_stop A_t_restOf A_t_group A_t_along A_t_kept A_t_isKept c_t_foggy c_t_walkers c_t_sights c_t_padMany c_t_acts c_t_spent c_t_walks c_t_badAct c_t_badWhy c_t_keptAt c_t_isWriting f5 c_t_sightLight) H locs := hw
        refine lv_aload_n hx hb dX10_seen_46 rfl (lv_at hl 0 rfl) ?_
        refine g_get hC hw fkX10_31 0 rfl rfl dX10_seen_47 ?_
        refine lv_aload_n hx hb dX10_seen_50 rfl (lv_at hl 0 rfl) ?_
        refine g_get hC hw fkX10_254 0 rfl rfl dX10_seen_51 ?_
        refine lv_iload_n hx hb dX10_seen_54 rfl (lv_at hl 2 rfl) ?_
        obtain ⟨hi, hf⟩ := ck_s hf
        obtain ⟨f6, ef6, hf⟩ := lx_s hf
        refine g_iast hC hw 2 rfl hi ef6 dX10_seen_55 (fun H locs hw => ?_)
        have hw : wd_ G A s.heap (wl_X10_seen G A_t A_t_steps A_t_wet A_t_where A_t_home A_t_light A_t_carries A_t_sightPlace A_t_sightLight A_t_pad A_t_act A_t_whose A_t_whom A_t_tens A_t_had A_t_leaves A_t_apart A_t_stop A_t_restOf A_t_group A_t_along A_t_kept A_t_isKept c_t_foggy c_t_walkers c_t_sights c_t_padMany c_t_acts c_t_spent c_t_walks c_t_badAct c_t_badWhy c_t_keptAt c_t_isWriting f5 f6) H locs := hw
        refine lv_aload_n hx hb dX10_seen_56 rfl (lv_at hl 0 rfl) ?_
        refine lv_dup hx hb dX10_seen_57 rfl ?_
        refine g_get hC hw fkX10_254 0 rfl rfl dX10_seen_58 ?_
        refine lv_iconst (v := 1) hx hb dX10_seen_61 (by decide) ?_
        refine lv_iadd hx hb dX10_seen_62 ?_
        refine g_put hC hw fpX10_254 0 rfl rfl rfl (Nat.le_of_ble_eq_true rfl) dX10_seen_63 (fun H locs hw => ?_)
        have hw : wd_ G A s.heap (wl_X10_seen G A_t A_t_steps A_t_wet A_t_where A_t_home A_t_light A_t_carries A_t_sightPlace A_t_sightLight A_t_pad A_t_act A_t_whose A_t_whom A_t_tens A_t_had A_t_leaves A_t_apart A_t_stop A_t_restOf A_t_group A_t_along A_t_kept A_t_isKept c_t_foggy c_t_walkers (c_t_sights + 1) c_t_padMany c_t_acts c_t_spent c_t_walks c_t_badAct c_t_badWhy c_t_keptAt c_t_isWriting f5 f6) H locs := hw
        refine lv_aload_n hx hb dX10_seen_66 rfl (lv_at hl 0 rfl) ?_
        refine g_get hC hw fkX10_254 0 rfl rfl dX10_seen_67 ?_
        obtain ⟨h1_, h2_, h3_, h4_⟩ := t4_ hf
        subst h1_
        subst h2_
        subst h3_
        subst h4_
        exact hret _ _ _ _ dX10_seen_70 hw
      · replace hf := it_t hc hf
        refine lv_bipush (v := (-4)) hx hb dX10_seen_33 (by decide) ?_
        obtain ⟨h1_, h2_, h3_, h4_⟩ := t4_ hf
        subst h1_
        subst h2_
        subst h3_
        subst h4_
        exact hret _ _ _ _ dX10_seen_35 hw
    · replace hf := it_t hc hf
      refine lv_bipush (v := (-2)) hx hb dX10_seen_21 (by decide) ?_
      obtain ⟨h1_, h2_, h3_, h4_⟩ := t4_ hf
      subst h1_
      subst h2_
      subst h3_
      subst h4_
      exact hret _ _ _ _ dX10_seen_23 hw
  · replace hf := it_t hc hf
    refine lv_iconst (v := (-1)) hx hb dX10_seen_7 (by decide) ?_
    obtain ⟨h1_, h2_, h3_, h4_⟩ := t4_ hf
    subst h1_
    subst h2_
    subst h3_
    subst h4_
    exact hret _ _ _ _ dX10_seen_8 hw
set_option maxHeartbeats 4000000 in
set_option maxRecDepth 100000 in
theorem cn_X10_seen (l : Launch) (G : gw_) (A_t : Nat) (A_t_steps : Nat) (A_t_wet : Nat) (A_t_where : Nat) (A_t_home : Nat) (A_t_light : Nat) (A_t_carries : Nat) (A_t_sightPlace : Nat) (A_t_sightLight : Nat) (A_t_pad : Nat) (A_t_act : Nat) (A_t_whose : Nat) (A_t_whom : Nat) (A_t_tens : Nat) (A_t_had : Nat) (A_t_leaves : Nat) (A_t_apart : Nat) (A_t_stop : Nat) (A_t_restOf : Nat) (A_t_group : Nat) (A_t_along : Nat) (A_t_kept : Nat) (A_t_isKept : Nat) (c_t_foggy : Int32) (c_t_walkers : Int32) (c_t_sights : Int32) (c_t_padMany : Int32) (c_t_acts : Int32) (c_t_spent : Int32) (c_t_walks : Int32) (c_t_badAct : Int32) (c_t_badWhy : Int32) (c_t_keptAt : Int32) (c_t_isWriting : Int32) (c_t_sightPlace : Nat → Int32) (c_t_sightLight : Nat → Int32) (x1 : Int32) (x2 : Int32) (r : Int32) (z_t_sights : Int32) (z_t_sightPlace : Nat → Int32) (z_t_sightLight : Nat → Int32) (hf : fn_X10_seen c_t_sights c_t_sightPlace c_t_sightLight x1 x2 = some (r, z_t_sights, z_t_sightPlace, z_t_sightLight)) : ci_ l G yX10_seen cX10_seen 3 (some .int) 2 45 (wl_X10_seen G A_t A_t_steps A_t_wet A_t_where A_t_home A_t_light A_t_carries A_t_sightPlace A_t_sightLight A_t_pad A_t_act A_t_whose A_t_whom A_t_tens A_t_had A_t_leaves A_t_apart A_t_stop A_t_restOf A_t_group A_t_along A_t_kept A_t_isKept c_t_foggy c_t_walkers c_t_sights c_t_padMany c_t_acts c_t_spent c_t_walks c_t_badAct c_t_badWhy c_t_keptAt c_t_isWriting c_t_sightPlace c_t_sightLight) [.ref A_t, .int x1, .int x2] r (wl_X10_seen G A_t A_t_steps A_t_wet A_t_where A_t_home A_t_light A_t_carries A_t_sightPlace A_t_sightLight A_t_pad A_t_act A_t_whose A_t_whom A_t_tens A_t_had A_t_leaves A_t_apart A_t_stop A_t_restOf A_t_group A_t_along A_t_kept A_t_isKept c_t_foggy c_t_walkers z_t_sights c_t_padMany c_t_acts c_t_spent c_t_walks c_t_badAct c_t_badWhy c_t_keptAt c_t_isWriting z_t_sightPlace z_t_sightLight) := fun sz => met_intro (by decide) (Nat.le_of_ble_eq_true rfl) (fun p e s m args below meth c ls hsz hC hr hlk hnm hl hw => wn_X10_seen hC (fun pc H locs ls hd hw => g_iret hC hr hlk hw rfl rfl hd) hf hl hw)

theorem dX10_forget_0 : decode cX10_forget 0 = .ok (.aload_n 0, 1) := by decide +kernel
theorem dX10_forget_1 : decode cX10_forget 1 = .ok (.getfield 254, 3) := by decide +kernel
theorem dX10_forget_4 : decode cX10_forget 4 = .ok (.istore_n 1, 1) := by decide +kernel
theorem dX10_forget_5 : decode cX10_forget 5 = .ok (.aload_n 0, 1) := by decide +kernel
theorem dX10_forget_6 : decode cX10_forget 6 = .ok (.iconst 0, 1) := by decide +kernel
theorem dX10_forget_7 : decode cX10_forget 7 = .ok (.putfield 254, 3) := by decide +kernel
theorem dX10_forget_10 : decode cX10_forget 10 = .ok (.iload_n 1, 1) := by decide +kernel
theorem dX10_forget_11 : decode cX10_forget 11 = .ok (.ireturn, 1) := by decide +kernel
abbrev wl_X10_forget (G : gw_) (A_t : Nat) (A_t_steps : Nat) (A_t_wet : Nat) (A_t_where : Nat) (A_t_home : Nat) (A_t_light : Nat) (A_t_carries : Nat) (A_t_sightPlace : Nat) (A_t_sightLight : Nat) (A_t_pad : Nat) (A_t_act : Nat) (A_t_whose : Nat) (A_t_whom : Nat) (A_t_tens : Nat) (A_t_had : Nat) (A_t_leaves : Nat) (A_t_apart : Nat) (A_t_stop : Nat) (A_t_restOf : Nat) (A_t_group : Nat) (A_t_along : Nat) (A_t_kept : Nat) (A_t_isKept : Nat) (c_t_foggy : Int32) (c_t_walkers : Int32) (c_t_sights : Int32) (c_t_padMany : Int32) (c_t_acts : Int32) (c_t_spent : Int32) (c_t_walks : Int32) (c_t_badAct : Int32) (c_t_badWhy : Int32) (c_t_keptAt : Int32) (c_t_isWriting : Int32) : va_W := [ob_ A_t 10 [.ref A_t_steps, .ref A_t_wet, .int c_t_foggy, .int c_t_walkers, .ref A_t_where, .ref A_t_home, .ref A_t_light, .ref A_t_carries, .ref A_t_sightPlace, .ref A_t_sightLight, .int c_t_sights, .ref A_t_pad, .int c_t_padMany, .ref A_t_act, .ref A_t_whose, .ref A_t_whom, .ref A_t_tens, .int c_t_acts, .int c_t_spent, .int c_t_walks, .ref A_t_had, .ref A_t_leaves, .int c_t_badAct, .int c_t_badWhy, .ref A_t_apart, .ref A_t_stop, .ref A_t_restOf, .ref A_t_group, .ref A_t_along, .ref A_t_kept, .ref A_t_isKept, .int c_t_keptAt, .int c_t_isWriting]]
def fn_X10_forget (c_t_sights : Int32) : Option (Int32 × Int32) :=
  some (c_t_sights, 0)
set_option maxHeartbeats 4000000 in
set_option maxRecDepth 100000 in
theorem wn_X10_forget {p : Program} {l : Launch} {e : Env} {s : State} {m : MethodId} {args : Array Value} {below : List Frame} {meth : Method} {c : Code} {G : gw_} {A : Nat → Prop} {Q : State → Prop} {A_t : Nat} {A_t_steps : Nat} {A_t_wet : Nat} {A_t_where : Nat} {A_t_home : Nat} {A_t_light : Nat} {A_t_carries : Nat} {A_t_sightPlace : Nat} {A_t_sightLight : Nat} {A_t_pad : Nat} {A_t_act : Nat} {A_t_whose : Nat} {A_t_whom : Nat} {A_t_tens : Nat} {A_t_had : Nat} {A_t_leaves : Nat} {A_t_apart : Nat} {A_t_stop : Nat} {A_t_restOf : Nat} {A_t_group : Nat} {A_t_along : Nat} {A_t_kept : Nat} {A_t_isKept : Nat} {c_t_foggy : Int32} {c_t_walkers : Int32} {c_t_sights : Int32} {z_t_sights : Int32} {c_t_padMany : Int32} {c_t_acts : Int32} {c_t_spent : Int32} {c_t_walks : Int32} {c_t_badAct : Int32} {c_t_badWhy : Int32} {c_t_keptAt : Int32} {c_t_isWriting : Int32} {r : Int32} (hC : cx_ p s m c G cX10_forget 2 RX10) (hret : ∀ (pc : Nat) (H : Heap) (locs : List Loc) (ls : Array Slot), decode cX10_forget pc = .ok (.ireturn, 1) → wd_ G A s.heap (wl_X10_forget G A_t A_t_steps A_t_wet A_t_where A_t_home A_t_light A_t_carries A_t_sightPlace A_t_sightLight A_t_pad A_t_act A_t_whose A_t_whom A_t_tens A_t_had A_t_leaves A_t_apart A_t_stop A_t_restOf A_t_group A_t_along A_t_kept A_t_isKept c_t_foggy c_t_walkers z_t_sights c_t_padMany c_t_acts c_t_spent c_t_walks c_t_badAct c_t_badWhy c_t_keptAt c_t_isWriting) H locs → W p l e { frames := 0, cells := 0, slots := 0, locals := 0 } s m args below meth c H locs 0 0 Q (F0 m pc ls [.int r])) (hf : fn_X10_forget c_t_sights = some (r, z_t_sights)) {H : Heap} {locs : List Loc} {ls : Array Slot} (hl : lv_has ls 2 [(0, .ref A_t)]) (hw : wd_ G A s.heap (wl_X10_forget G A_t A_t_steps A_t_wet A_t_where A_t_home A_t_light A_t_carries A_t_sightPlace A_t_sightLight A_t_pad A_t_act A_t_whose A_t_whom A_t_tens A_t_had A_t_leaves A_t_apart A_t_stop A_t_restOf A_t_group A_t_along A_t_kept A_t_isKept c_t_foggy c_t_walkers c_t_sights c_t_padMany c_t_acts c_t_spent c_t_walks c_t_badAct c_t_badWhy c_t_keptAt c_t_isWriting) H locs) : W p l e { frames := 0, cells := 0, slots := 0, locals := 0 } s m args below meth c H locs 0 0 Q (F0 m 0 ls []) := by
  have hx := hC.1
  have hb := hC.2.1
  unfold fn_X10_forget at hf
  refine lv_aload_n hx hb dX10_forget_0 rfl (lv_at hl 0 rfl) ?_
  refine g_get hC hw fkX10_254 0 rfl rfl dX10_forget_1 ?_
  refine lv_istore_n (lv' := [(1, .int c_t_sights), (0, .ref A_t)]) hx hb dX10_forget_4 rfl hl (by decide) rfl (fun ls hl => ?_)
  refine lv_aload_n hx hb dX10_forget_5 rfl (lv_at hl 1 rfl) ?_
  refine lv_iconst (v := 0) hx hb dX10_forget_6 (by decide) ?_
  refine g_put hC hw fpX10_254 0 rfl rfl rfl (Nat.le_of_ble_eq_true rfl) dX10_forget_7 (fun H locs hw => ?_)
  have hw : wd_ G A s.heap (wl_X10_forget G A_t A_t_steps A_t_wet A_t_where A_t_home A_t_light A_t_carries A_t_sightPlace A_t_sightLight A_t_pad A_t_act A_t_whose A_t_whom A_t_tens A_t_had A_t_leaves A_t_apart A_t_stop A_t_restOf A_t_group A_t_along A_t_kept A_t_isKept c_t_foggy c_t_walkers 0 c_t_padMany c_t_acts c_t_spent c_t_walks c_t_badAct c_t_badWhy c_t_keptAt c_t_isWriting) H locs := hw
  refine lv_iload_n hx hb dX10_forget_10 rfl (lv_at hl 0 rfl) ?_
  obtain ⟨h1_, h2_⟩ := t2_ hf
  subst h1_
  subst h2_
  exact hret _ _ _ _ dX10_forget_11 hw
set_option maxHeartbeats 4000000 in
set_option maxRecDepth 100000 in
theorem cn_X10_forget (l : Launch) (G : gw_) (A_t : Nat) (A_t_steps : Nat) (A_t_wet : Nat) (A_t_where : Nat) (A_t_home : Nat) (A_t_light : Nat) (A_t_carries : Nat) (A_t_sightPlace : Nat) (A_t_sightLight : Nat) (A_t_pad : Nat) (A_t_act : Nat) (A_t_whose : Nat) (A_t_whom : Nat) (A_t_tens : Nat) (A_t_had : Nat) (A_t_leaves : Nat) (A_t_apart : Nat) (A_t_stop : Nat) (A_t_restOf : Nat) (A_t_group : Nat) (A_t_along : Nat) (A_t_kept : Nat) (A_t_isKept : Nat) (c_t_foggy : Int32) (c_t_walkers : Int32) (c_t_sights : Int32) (c_t_padMany : Int32) (c_t_acts : Int32) (c_t_spent : Int32) (c_t_walks : Int32) (c_t_badAct : Int32) (c_t_badWhy : Int32) (c_t_keptAt : Int32) (c_t_isWriting : Int32) (r : Int32) (z_t_sights : Int32) (hf : fn_X10_forget c_t_sights = some (r, z_t_sights)) : ci_ l G yX10_forget cX10_forget 2 (some .int) 0 0 (wl_X10_forget G A_t A_t_steps A_t_wet A_t_where A_t_home A_t_light A_t_carries A_t_sightPlace A_t_sightLight A_t_pad A_t_act A_t_whose A_t_whom A_t_tens A_t_had A_t_leaves A_t_apart A_t_stop A_t_restOf A_t_group A_t_along A_t_kept A_t_isKept c_t_foggy c_t_walkers c_t_sights c_t_padMany c_t_acts c_t_spent c_t_walks c_t_badAct c_t_badWhy c_t_keptAt c_t_isWriting) [.ref A_t] r (wl_X10_forget G A_t A_t_steps A_t_wet A_t_where A_t_home A_t_light A_t_carries A_t_sightPlace A_t_sightLight A_t_pad A_t_act A_t_whose A_t_whom A_t_tens A_t_had A_t_leaves A_t_apart A_t_stop A_t_restOf A_t_group A_t_along A_t_kept A_t_isKept c_t_foggy c_t_walkers z_t_sights c_t_padMany c_t_acts c_t_spent c_t_walks c_t_badAct c_t_badWhy c_t_keptAt c_t_isWriting) := fun sz => met_intro (by decide) (Nat.le_of_ble_eq_true rfl) (fun p e s m args below meth c ls hsz hC hr hlk hnm hl hw => wn_X10_forget hC (fun pc H locs ls hd hw => g_iret hC hr hlk hw rfl rfl hd) hf hl hw)

theorem dX10_leftAt_0 : decode cX10_leftAt 0 = .ok (.aload_n 0, 1) := by decide +kernel
theorem dX10_leftAt_1 : decode cX10_leftAt 1 = .ok (.getfield 22, 3) := by decide +kernel
theorem dX10_leftAt_4 : decode cX10_leftAt 4 = .ok (.iload_n 1, 1) := by decide +kernel
theorem dX10_leftAt_5 : decode cX10_leftAt 5 = .ok (.iaload, 1) := by decide +kernel
theorem dX10_leftAt_6 : decode cX10_leftAt 6 = .ok (.aload_n 0, 1) := by decide +kernel
theorem dX10_leftAt_7 : decode cX10_leftAt 7 = .ok (.getfield 55, 3) := by decide +kernel
theorem dX10_leftAt_10 : decode cX10_leftAt 10 = .ok (.aload_n 0, 1) := by decide +kernel
theorem dX10_leftAt_11 : decode cX10_leftAt 11 = .ok (.getfield 16, 3) := by decide +kernel
theorem dX10_leftAt_14 : decode cX10_leftAt 14 = .ok (.iload_n 1, 1) := by decide +kernel
theorem dX10_leftAt_15 : decode cX10_leftAt 15 = .ok (.iaload, 1) := by decide +kernel
theorem dX10_leftAt_16 : decode cX10_leftAt 16 = .ok (.iload_n 2, 1) := by decide +kernel
theorem dX10_leftAt_17 : decode cX10_leftAt 17 = .ok (.invokestatic 89, 3) := by decide +kernel
theorem dX10_leftAt_20 : decode cX10_leftAt 20 = .ok (.iaload, 1) := by decide +kernel
theorem dX10_leftAt_21 : decode cX10_leftAt 21 = .ok (.isub, 1) := by decide +kernel
theorem dX10_leftAt_22 : decode cX10_leftAt 22 = .ok (.istore_n 3, 1) := by decide +kernel
theorem dX10_leftAt_23 : decode cX10_leftAt 23 = .ok (.iload_n 3, 1) := by decide +kernel
theorem dX10_leftAt_24 : decode cX10_leftAt 24 = .ok (.ifCond .ge 8, 3) := by decide +kernel
theorem dX10_leftAt_27 : decode cX10_leftAt 27 = .ok (.bipush (-6), 2) := by decide +kernel
theorem dX10_leftAt_29 : decode cX10_leftAt 29 = .ok (.goto 4, 3) := by decide +kernel
theorem dX10_leftAt_32 : decode cX10_leftAt 32 = .ok (.iload_n 3, 1) := by decide +kernel
theorem dX10_leftAt_33 : decode cX10_leftAt 33 = .ok (.ireturn, 1) := by decide +kernel
abbrev wl_X10_leftAt (G : gw_) (A_t : Nat) (A_t_steps : Nat) (A_t_wet : Nat) (A_t_where : Nat) (A_t_home : Nat) (A_t_light : Nat) (A_t_carries : Nat) (A_t_sightPlace : Nat) (A_t_sightLight : Nat) (A_t_pad : Nat) (A_t_act : Nat) (A_t_whose : Nat) (A_t_whom : Nat) (A_t_tens : Nat) (A_t_had : Nat) (A_t_leaves : Nat) (A_t_apart : Nat) (A_t_stop : Nat) (A_t_restOf : Nat) (A_t_group : Nat) (A_t_along : Nat) (A_t_kept : Nat) (A_t_isKept : Nat) (c_t_foggy : Int32) (c_t_walkers : Int32) (c_t_sights : Int32) (c_t_padMany : Int32) (c_t_acts : Int32) (c_t_spent : Int32) (c_t_walks : Int32) (c_t_badAct : Int32) (c_t_badWhy : Int32) (c_t_keptAt : Int32) (c_t_isWriting : Int32) (c_t_where : Nat → Int32) (c_t_light : Nat → Int32) (c_t_apart : Nat → Int32) : va_W := [ob_ A_t 10 [.ref A_t_steps, .ref A_t_wet, .int c_t_foggy, .int c_t_walkers, .ref A_t_where, .ref A_t_home, .ref A_t_light, .ref A_t_carries, .ref A_t_sightPlace, .ref A_t_sightLight, .int c_t_sights, .ref A_t_pad, .int c_t_padMany, .ref A_t_act, .ref A_t_whose, .ref A_t_whom, .ref A_t_tens, .int c_t_acts, .int c_t_spent, .int c_t_walks, .ref A_t_had, .ref A_t_leaves, .int c_t_badAct, .int c_t_badWhy, .ref A_t_apart, .ref A_t_stop, .ref A_t_restOf, .ref A_t_group, .ref A_t_along, .ref A_t_kept, .ref A_t_isKept, .int c_t_keptAt, .int c_t_isWriting], ia_ G A_t_where 6 c_t_where, ia_ G A_t_light 6 c_t_light, ia_ G A_t_apart 144 c_t_apart]
def fn_X10_leftAt (c_t_where : Nat → Int32) (c_t_light : Nat → Int32) (c_t_apart : Nat → Int32) (x1 : Int32) (x2 : Int32) : Option (Int32) :=
  ck_ x1 6 <|
  ck_ x1 6 <|
  b1_ (fn_X10_at (c_t_where (Int32.toNatClampNeg x1)) x2) fun r1 =>
  ck_ r1 144 <|
  lx_ ((c_t_light (Int32.toNatClampNeg x1)) - (c_t_apart (Int32.toNatClampNeg r1))) fun y3 =>
  if 0 ≤ y3 then
    some y3
  else
    some (-6)
set_option maxHeartbeats 4000000 in
set_option maxRecDepth 100000 in
theorem wn_X10_leftAt {p : Program} {l : Launch} {e : Env} {s : State} {m : MethodId} {args : Array Value} {below : List Frame} {meth : Method} {c : Code} {G : gw_} {A : Nat → Prop} {Q : State → Prop} {A_t : Nat} {A_t_steps : Nat} {A_t_wet : Nat} {A_t_where : Nat} {A_t_home : Nat} {A_t_light : Nat} {A_t_carries : Nat} {A_t_sightPlace : Nat} {A_t_sightLight : Nat} {A_t_pad : Nat} {A_t_act : Nat} {A_t_whose : Nat} {A_t_whom : Nat} {A_t_tens : Nat} {A_t_had : Nat} {A_t_leaves : Nat} {A_t_apart : Nat} {A_t_stop : Nat} {A_t_restOf : Nat} {A_t_group : Nat} {A_t_along : Nat} {A_t_kept : Nat} {A_t_isKept : Nat} {c_t_foggy : Int32} {c_t_walkers : Int32} {c_t_sights : Int32} {c_t_padMany : Int32} {c_t_acts : Int32} {c_t_spent : Int32} {c_t_walks : Int32} {c_t_badAct : Int32} {c_t_badWhy : Int32} {c_t_keptAt : Int32} {c_t_isWriting : Int32} {c_t_where : Nat → Int32} {c_t_light : Nat → Int32} {c_t_apart : Nat → Int32} {r : Int32} {x1 : Int32} {x2 : Int32} (hC : cx_ p s m c G cX10_leftAt 4 RX10) (hret : ∀ (pc : Nat) (H : Heap) (locs : List Loc) (ls : Array Slot), decode cX10_leftAt pc = .ok (.ireturn, 1) → wd_ G A s.heap (wl_X10_leftAt G A_t A_t_steps A_t_wet A_t_where A_t_home A_t_light A_t_carries A_t_sightPlace A_t_sightLight A_t_pad A_t_act A_t_whose A_t_whom A_t_tens A_t_had A_t_leaves A_t_apart A_t_stop A_t_restOf A_t_group A_t_along A_t_kept A_t_isKept c_t_foggy c_t_walkers c_t_sights c_t_padMany c_t_acts c_t_spent c_t_walks c_t_badAct c_t_badWhy c_t_keptAt c_t_isWriting c_t_where c_t_light c_t_apart) H locs → W p l e { frames := 1, cells := 0, slots := 0, locals := 21 } s m args below meth c H locs 0 0 Q (F0 m pc ls [.int r])) (hf : fn_X10_leftAt c_t_where c_t_light c_t_apart x1 x2 = some r) {H : Heap} {locs : List Loc} {ls : Array Slot} (hl : lv_has ls 4 [(0, .ref A_t), (1, .int x1), (2, .int x2)]) (hw : wd_ G A s.heap (wl_X10_leftAt G A_t A_t_steps A_t_wet A_t_where A_t_home A_t_light A_t_carries A_t_sightPlace A_t_sightLight A_t_pad A_t_act A_t_whose A_t_whom A_t_tens A_t_had A_t_leaves A_t_apart A_t_stop A_t_restOf A_t_group A_t_along A_t_kept A_t_isKept c_t_foggy c_t_walkers c_t_sights c_t_padMany c_t_acts c_t_spent c_t_walks c_t_badAct c_t_badWhy c_t_keptAt c_t_isWriting c_t_where c_t_light c_t_apart) H locs) : W p l e { frames := 1, cells := 0, slots := 0, locals := 21 } s m args below meth c H locs 0 0 Q (F0 m 0 ls []) := by
  have hx := hC.1
  have hb := hC.2.1
  unfold fn_X10_leftAt at hf
  refine lv_aload_n hx hb dX10_leftAt_0 rfl (lv_at hl 0 rfl) ?_
  refine g_get hC hw fkX10_22 0 rfl rfl dX10_leftAt_1 ?_
  refine lv_iload_n hx hb dX10_leftAt_4 rfl (lv_at hl 1 rfl) ?_
  obtain ⟨hi, hf⟩ := ck_s hf
  refine g_iald hC hw 2 rfl hi dX10_leftAt_5 ?_
  refine lv_aload_n hx hb dX10_leftAt_6 rfl (lv_at hl 0 rfl) ?_
  refine g_get hC hw fkX10_55 0 rfl rfl dX10_leftAt_7 ?_
  refine lv_aload_n hx hb dX10_leftAt_10 rfl (lv_at hl 0 rfl) ?_
  refine g_get hC hw fkX10_16 0 rfl rfl dX10_leftAt_11 ?_
  refine lv_iload_n hx hb dX10_leftAt_14 rfl (lv_at hl 1 rfl) ?_
  obtain ⟨hi, hf⟩ := ck_s hf
  refine g_iald hC hw 1 rfl hi dX10_leftAt_15 ?_
  refine lv_iload_n hx hb dX10_leftAt_16 rfl (lv_at hl 2 rfl) ?_
  obtain ⟨r1, hq2, hf⟩ := b1_s hf
  refine h_cSi hC hw msX10_89 (cn_X10_at l G (c_t_where (Int32.toNatClampNeg x1)) x2 r1 hq2) [] rfl (by decide) rfl hl.1 rfl (Nat.le_of_ble_eq_true rfl) ⟨Nat.le_of_ble_eq_true rfl, Nat.le_of_ble_eq_true rfl⟩ ⟨Nat.le_refl _, Nat.le_refl _⟩ dX10_leftAt_17 (fun H locs hw => ?_)
  obtain ⟨hi, hf⟩ := ck_s hf
  refine g_iald hC hw 3 rfl hi dX10_leftAt_20 ?_
  refine lv_isub hx hb dX10_leftAt_21 ?_
  obtain ⟨y3, ey3, hf⟩ := lx_s hf
  rw [← ey3]
  refine lv_istore_n (lv' := [(3, .int y3), (0, .ref A_t), (1, .int x1), (2, .int x2)]) hx hb dX10_leftAt_22 rfl hl (by decide) rfl (fun ls hl => ?_)
  refine lv_iload_n hx hb dX10_leftAt_23 rfl (lv_at hl 0 rfl) ?_
  refine lv_if_ge (tgt := 32) hx hb dX10_leftAt_24 (by decide) (fun hc => ?_) (fun hc => ?_)
  · replace hf := it_t hc hf
    refine lv_iload_n hx hb dX10_leftAt_32 rfl (lv_at hl 0 rfl) ?_
    have h1_ := t1_ hf
    subst h1_
    exact hret _ _ _ _ dX10_leftAt_33 hw
  · replace hf := it_f hc hf
    refine lv_bipush (v := (-6)) hx hb dX10_leftAt_27 (by decide) ?_
    refine lv_goto (tgt := 33) hx hb dX10_leftAt_29 (by decide) ?_
    have h1_ := t1_ hf
    subst h1_
    exact hret _ _ _ _ dX10_leftAt_33 hw
set_option maxHeartbeats 4000000 in
set_option maxRecDepth 100000 in
theorem cn_X10_leftAt (l : Launch) (G : gw_) (A_t : Nat) (A_t_steps : Nat) (A_t_wet : Nat) (A_t_where : Nat) (A_t_home : Nat) (A_t_light : Nat) (A_t_carries : Nat) (A_t_sightPlace : Nat) (A_t_sightLight : Nat) (A_t_pad : Nat) (A_t_act : Nat) (A_t_whose : Nat) (A_t_whom : Nat) (A_t_tens : Nat) (A_t_had : Nat) (A_t_leaves : Nat) (A_t_apart : Nat) (A_t_stop : Nat) (A_t_restOf : Nat) (A_t_group : Nat) (A_t_along : Nat) (A_t_kept : Nat) (A_t_isKept : Nat) (c_t_foggy : Int32) (c_t_walkers : Int32) (c_t_sights : Int32) (c_t_padMany : Int32) (c_t_acts : Int32) (c_t_spent : Int32) (c_t_walks : Int32) (c_t_badAct : Int32) (c_t_badWhy : Int32) (c_t_keptAt : Int32) (c_t_isWriting : Int32) (c_t_where : Nat → Int32) (c_t_light : Nat → Int32) (c_t_apart : Nat → Int32) (x1 : Int32) (x2 : Int32) (r : Int32) (hf : fn_X10_leftAt c_t_where c_t_light c_t_apart x1 x2 = some r) : ci_ l G yX10_leftAt cX10_leftAt 4 (some .int) 1 21 (wl_X10_leftAt G A_t A_t_steps A_t_wet A_t_where A_t_home A_t_light A_t_carries A_t_sightPlace A_t_sightLight A_t_pad A_t_act A_t_whose A_t_whom A_t_tens A_t_had A_t_leaves A_t_apart A_t_stop A_t_restOf A_t_group A_t_along A_t_kept A_t_isKept c_t_foggy c_t_walkers c_t_sights c_t_padMany c_t_acts c_t_spent c_t_walks c_t_badAct c_t_badWhy c_t_keptAt c_t_isWriting c_t_where c_t_light c_t_apart) [.ref A_t, .int x1, .int x2] r (wl_X10_leftAt G A_t A_t_steps A_t_wet A_t_where A_t_home A_t_light A_t_carries A_t_sightPlace A_t_sightLight A_t_pad A_t_act A_t_whose A_t_whom A_t_tens A_t_had A_t_leaves A_t_apart A_t_stop A_t_restOf A_t_group A_t_along A_t_kept A_t_isKept c_t_foggy c_t_walkers c_t_sights c_t_padMany c_t_acts c_t_spent c_t_walks c_t_badAct c_t_badWhy c_t_keptAt c_t_isWriting c_t_where c_t_light c_t_apart) := fun sz => met_intro (by decide) (Nat.le_of_ble_eq_true rfl) (fun p e s m args below meth c ls hsz hC hr hlk hnm hl hw => wn_X10_leftAt hC (fun pc H locs ls hd hw => g_iret hC hr hlk hw rfl rfl hd) hf hl hw)

theorem dX10_whose_0 : decode cX10_whose 0 = .ok (.aload_n 0, 1) := by decide +kernel
theorem dX10_whose_1 : decode cX10_whose 1 = .ok (.invokevirtual 219, 3) := by decide +kernel
theorem dX10_whose_4 : decode cX10_whose 4 = .ok (.iconst 0, 1) := by decide +kernel
theorem dX10_whose_5 : decode cX10_whose 5 = .ok (.istore_n 1, 1) := by decide +kernel
theorem dX10_whose_6 : decode cX10_whose 6 = .ok (.iconst 0, 1) := by decide +kernel
theorem dX10_whose_7 : decode cX10_whose 7 = .ok (.istore_n 2, 1) := by decide +kernel
theorem dX10_whose_8 : decode cX10_whose 8 = .ok (.iload_n 2, 1) := by decide +kernel
theorem dX10_whose_9 : decode cX10_whose 9 = .ok (.bipush 6, 2) := by decide +kernel
theorem dX10_whose_11 : decode cX10_whose 11 = .ok (.if_icmp .ge 79, 3) := by decide +kernel
theorem dX10_whose_14 : decode cX10_whose 14 = .ok (.aload_n 0, 1) := by decide +kernel
theorem dX10_whose_15 : decode cX10_whose 15 = .ok (.iload_n 2, 1) := by decide +kernel
theorem dX10_whose_16 : decode cX10_whose 16 = .ok (.invokevirtual 106, 3) := by decide +kernel
theorem dX10_whose_19 : decode cX10_whose 19 = .ok (.istore_n 3, 1) := by decide +kernel
theorem dX10_whose_20 : decode cX10_whose 20 = .ok (.iconst 0, 1) := by decide +kernel
theorem dX10_whose_21 : decode cX10_whose 21 = .ok (.istore 4, 2) := by decide +kernel
theorem dX10_whose_23 : decode cX10_whose 23 = .ok (.iload 4, 2) := by decide +kernel
theorem dX10_whose_25 : decode cX10_whose 25 = .ok (.aload_n 0, 1) := by decide +kernel
theorem dX10_whose_26 : decode cX10_whose 26 = .ok (.getfield 254, 3) := by decide +kernel
theorem dX10_whose_29 : decode cX10_whose 29 = .ok (.if_icmp .ge 41, 3) := by decide +kernel
theorem dX10_whose_32 : decode cX10_whose 32 = .ok (.iload_n 3, 1) := by decide +kernel
theorem dX10_whose_33 : decode cX10_whose 33 = .ok (.ifCond .eq 29, 3) := by decide +kernel
theorem dX10_whose_36 : decode cX10_whose 36 = .ok (.aload_n 0, 1) := by decide +kernel
theorem dX10_whose_37 : decode cX10_whose 37 = .ok (.iload_n 2, 1) := by decide +kernel
theorem dX10_whose_38 : decode cX10_whose 38 = .ok (.aload_n 0, 1) := by decide +kernel
theorem dX10_whose_39 : decode cX10_whose 39 = .ok (.getfield 28, 3) := by decide +kernel
theorem dX10_whose_42 : decode cX10_whose 42 = .ok (.iload 4, 2) := by decide +kernel
theorem dX10_whose_44 : decode cX10_whose 44 = .ok (.iaload, 1) := by decide +kernel
theorem dX10_whose_45 : decode cX10_whose 45 = .ok (.invokevirtual 257, 3) := by decide +kernel
theorem dX10_whose_48 : decode cX10_whose 48 = .ok (.aload_n 0, 1) := by decide +kernel
theorem dX10_whose_49 : decode cX10_whose 49 = .ok (.getfield 31, 3) := by decide +kernel
theorem dX10_whose_52 : decode cX10_whose 52 = .ok (.iload 4, 2) := by decide +kernel
theorem dX10_whose_54 : decode cX10_whose 54 = .ok (.iaload, 1) := by decide +kernel
theorem dX10_whose_55 : decode cX10_whose 55 = .ok (.if_icmp .ne 7, 3) := by decide +kernel
theorem dX10_whose_58 : decode cX10_whose 58 = .ok (.iconst 1, 1) := by decide +kernel
theorem dX10_whose_59 : decode cX10_whose 59 = .ok (.goto 4, 3) := by decide +kernel
theorem dX10_whose_62 : decode cX10_whose 62 = .ok (.iconst 0, 1) := by decide +kernel
theorem dX10_whose_63 : decode cX10_whose 63 = .ok (.istore_n 3, 1) := by decide +kernel
theorem dX10_whose_64 : decode cX10_whose 64 = .ok (.iinc 4 1, 3) := by decide +kernel
theorem dX10_whose_67 : decode cX10_whose 67 = .ok (.goto (-44), 3) := by decide +kernel
theorem dX10_whose_70 : decode cX10_whose 70 = .ok (.iload_n 1, 1) := by decide +kernel
theorem dX10_whose_71 : decode cX10_whose 71 = .ok (.iload_n 3, 1) := by decide +kernel
theorem dX10_whose_72 : decode cX10_whose 72 = .ok (.ifCond .eq 9, 3) := by decide +kernel
theorem dX10_whose_75 : decode cX10_whose 75 = .ok (.iconst 1, 1) := by decide +kernel
theorem dX10_whose_76 : decode cX10_whose 76 = .ok (.iload_n 2, 1) := by decide +kernel
theorem dX10_whose_77 : decode cX10_whose 77 = .ok (.ishl, 1) := by decide +kernel
theorem dX10_whose_78 : decode cX10_whose 78 = .ok (.goto 4, 3) := by decide +kernel
theorem dX10_whose_81 : decode cX10_whose 81 = .ok (.iconst 0, 1) := by decide +kernel
theorem dX10_whose_82 : decode cX10_whose 82 = .ok (.ior, 1) := by decide +kernel
theorem dX10_whose_83 : decode cX10_whose 83 = .ok (.istore_n 1, 1) := by decide +kernel
theorem dX10_whose_84 : decode cX10_whose 84 = .ok (.iinc 2 1, 3) := by decide +kernel
theorem dX10_whose_87 : decode cX10_whose 87 = .ok (.goto (-79), 3) := by decide +kernel
theorem dX10_whose_90 : decode cX10_whose 90 = .ok (.iload_n 1, 1) := by decide +kernel
theorem dX10_whose_91 : decode cX10_whose 91 = .ok (.ireturn, 1) := by decide +kernel
abbrev wl_X10_whose (G : gw_) (A_t : Nat) (A_t_steps : Nat) (A_t_wet : Nat) (A_t_where : Nat) (A_t_home : Nat) (A_t_light : Nat) (A_t_carries : Nat) (A_t_sightPlace : Nat) (A_t_sightLight : Nat) (A_t_pad : Nat) (A_t_act : Nat) (A_t_whose : Nat) (A_t_whom : Nat) (A_t_tens : Nat) (A_t_had : Nat) (A_t_leaves : Nat) (A_t_apart : Nat) (A_t_stop : Nat) (A_t_restOf : Nat) (A_t_group : Nat) (A_t_along : Nat) (A_t_kept : Nat) (A_t_isKept : Nat) (c_t_foggy : Int32) (c_t_walkers : Int32) (c_t_sights : Int32) (c_t_padMany : Int32) (c_t_acts : Int32) (c_t_spent : Int32) (c_t_walks : Int32) (c_t_badAct : Int32) (c_t_badWhy : Int32) (c_t_keptAt : Int32) (c_t_isWriting : Int32) (c_t_steps : Nat → Int32) (c_t_wet : Nat → Int32) (c_t_where : Nat → Int32) (c_t_light : Nat → Int32) (c_t_sightPlace : Nat → Int32) (c_t_sightLight : Nat → Int32) (c_t_apart : Nat → Int32) : va_W := [ob_ A_t 10 [.ref A_t_steps, .ref A_t_wet, .int c_t_foggy, .int c_t_walkers, .ref A_t_where, .ref A_t_home, .ref A_t_light, .ref A_t_carries, .ref A_t_sightPlace, .ref A_t_sightLight, .int c_t_sights, .ref A_t_pad, .int c_t_padMany, .ref A_t_act, .ref A_t_whose, .ref A_t_whom, .ref A_t_tens, .int c_t_acts, .int c_t_spent, .int c_t_walks, .ref A_t_had, .ref A_t_leaves, .int c_t_badAct, .int c_t_badWhy, .ref A_t_apart, .ref A_t_stop, .ref A_t_restOf, .ref A_t_group, .ref A_t_along, .ref A_t_kept, .ref A_t_isKept, .int c_t_keptAt, .int c_t_isWriting], ia_ G A_t_steps 144 c_t_steps, ia_ G A_t_wet 144 c_t_wet, ia_ G A_t_where 6 c_t_where, ia_ G A_t_light 6 c_t_light, ia_ G A_t_sightPlace 8 c_t_sightPlace, ia_ G A_t_sightLight 8 c_t_sightLight, ia_ G A_t_apart 144 c_t_apart]
def fn_X10_whose_b23 (c_t_sights : Int32) (c_t_where : Nat → Int32) (c_t_light : Nat → Int32) (c_t_sightPlace : Nat → Int32) (c_t_sightLight : Nat → Int32) (c_t_apart : Nat → Int32) (x2 : Int32) (rc : Int32 → Int32 → Option (Int32 × (Nat → Int32))) (k : Int32 → Option (Int32 × (Nat → Int32))) (x3 : Int32) (x4 : Int32) : Option (Int32 × (Nat → Int32)) :=
  if c_t_sights ≤ x4 then
    k x3
  else
    if x3 = 0 then
      rc 0 (x4 + 1)
    else
      ck_ x4 8 <|
      b1_ (fn_X10_leftAt c_t_where c_t_light c_t_apart x2 (c_t_sightPlace (Int32.toNatClampNeg x4))) fun r5 =>
      ck_ x4 8 <|
      if r5 = (c_t_sightLight (Int32.toNatClampNeg x4)) then
        rc 1 (x4 + 1)
      else
        rc 0 (x4 + 1)
def fn_X10_whose_l23 (c_t_sights : Int32) (c_t_where : Nat → Int32) (c_t_light : Nat → Int32) (c_t_sightPlace : Nat → Int32) (c_t_sightLight : Nat → Int32) (c_t_apart : Nat → Int32) (x2 : Int32) (k : Int32 → Option (Int32 × (Nat → Int32))) : Nat → Int32 → Int32 → Option (Int32 × (Nat → Int32))
  | 0 => fun _ _ => none
  | n + 1 => fun x3 x4 => fn_X10_whose_b23 c_t_sights c_t_where c_t_light c_t_sightPlace c_t_sightLight c_t_apart x2 (fn_X10_whose_l23 c_t_sights c_t_where c_t_light c_t_sightPlace c_t_sightLight c_t_apart x2 k n) k x3 x4
def fn_X10_whose_b8 (c_t_walkers : Int32) (c_t_sights : Int32) (c_t_where : Nat → Int32) (c_t_light : Nat → Int32) (c_t_sightPlace : Nat → Int32) (c_t_sightLight : Nat → Int32) (c_t_apart : Nat → Int32) (rc : Int32 → Int32 → Option (Int32 × (Nat → Int32))) (k : Int32 → Option (Int32 × (Nat → Int32))) (x1 : Int32) (x2 : Int32) : Option (Int32 × (Nat → Int32)) :=
  if 6 ≤ x2 then
    k x1
  else
    b1_ (fn_X10_isWalker c_t_walkers x2) fun r3 =>
    fn_X10_whose_l23 c_t_sights c_t_where c_t_light c_t_sightPlace c_t_sightLight c_t_apart x2 (fun v7 =>
      if v7 = 0 then
        rc (x1 ||| 0) (x2 + 1)
      else
        lx_ (x1 ||| ((1 : Int32) <<< (x2 &&& 31))) fun y8 =>
        rc y8 (x2 + 1)) fu_ r3 0
def fn_X10_whose_l8 (c_t_walkers : Int32) (c_t_sights : Int32) (c_t_where : Nat → Int32) (c_t_light : Nat → Int32) (c_t_sightPlace : Nat → Int32) (c_t_sightLight : Nat → Int32) (c_t_apart : Nat → Int32) (k : Int32 → Option (Int32 × (Nat → Int32))) : Nat → Int32 → Int32 → Option (Int32 × (Nat → Int32))
  | 0 => fun _ _ => none
  | n + 1 => fun x1 x2 => fn_X10_whose_b8 c_t_walkers c_t_sights c_t_where c_t_light c_t_sightPlace c_t_sightLight c_t_apart (fn_X10_whose_l8 c_t_walkers c_t_sights c_t_where c_t_light c_t_sightPlace c_t_sightLight c_t_apart k n) k x1 x2
def fn_X10_whose (c_t_foggy : Int32) (c_t_walkers : Int32) (c_t_sights : Int32) (c_t_steps : Nat → Int32) (c_t_wet : Nat → Int32) (c_t_where : Nat → Int32) (c_t_light : Nat → Int32) (c_t_sightPlace : Nat → Int32) (c_t_sightLight : Nat → Int32) (c_t_apart : Nat → Int32) : Option (Int32 × (Nat → Int32)) :=
  b1_ (fn_X10_findWays c_t_foggy c_t_steps c_t_wet c_t_apart) fun w1 =>
  fn_X10_whose_l8 c_t_walkers c_t_sights c_t_where c_t_light c_t_sightPlace c_t_sightLight w1 (fun v9 =>
    some (v9, w1)) fu_ 0 0
set_option maxHeartbeats 4000000 in
set_option maxRecDepth 100000 in
theorem wn_X10_whose_l23 {p : Program} {l : Launch} {e : Env} {s : State} {m : MethodId} {args : Array Value} {below : List Frame} {meth : Method} {c : Code} {G : gw_} {A : Nat → Prop} {Q : State → Prop} {A_t : Nat} {A_t_steps : Nat} {A_t_wet : Nat} {A_t_where : Nat} {A_t_home : Nat} {A_t_light : Nat} {A_t_carries : Nat} {A_t_sightPlace : Nat} {A_t_sightLight : Nat} {A_t_pad : Nat} {A_t_act : Nat} {A_t_whose : Nat} {A_t_whom : Nat} {A_t_tens : Nat} {A_t_had : Nat} {A_t_leaves : Nat} {A_t_apart : Nat} {A_t_stop : Nat} {A_t_restOf : Nat} {A_t_group : Nat} {A_t_along : Nat} {A_t_kept : Nat} {A_t_isKept : Nat} {c_t_foggy : Int32} {c_t_walkers : Int32} {c_t_sights : Int32} {c_t_padMany : Int32} {c_t_acts : Int32} {c_t_spent : Int32} {c_t_walks : Int32} {c_t_badAct : Int32} {c_t_badWhy : Int32} {c_t_keptAt : Int32} {c_t_isWriting : Int32} {c_t_steps : Nat → Int32} {c_t_wet : Nat → Int32} {c_t_where : Nat → Int32} {c_t_light : Nat → Int32} {c_t_sightPlace : Nat → Int32} {c_t_sightLight : Nat → Int32} {c_t_apart : Nat → Int32} {z_t_apart : Nat → Int32} {r : Int32} {x1 : Int32} {x2 : Int32} {k : Int32 → Option (Int32 × (Nat → Int32))} (hC : cx_ p s m c G cX10_whose 5 RX10) (hret : ∀ (pc : Nat) (H : Heap) (locs : List Loc) (ls : Array Slot), decode cX10_whose pc = .ok (.ireturn, 1) → wd_ G A s.heap (wl_X10_whose G A_t A_t_steps A_t_wet A_t_where A_t_home A_t_light A_t_carries A_t_sightPlace A_t_sightLight A_t_pad A_t_act A_t_whose A_t_whom A_t_tens A_t_had A_t_leaves A_t_apart A_t_stop A_t_restOf A_t_group A_t_along A_t_kept A_t_isKept c_t_foggy c_t_walkers c_t_sights c_t_padMany c_t_acts c_t_spent c_t_walks c_t_badAct c_t_badWhy c_t_keptAt c_t_isWriting c_t_steps c_t_wet c_t_where c_t_light c_t_sightPlace c_t_sightLight z_t_apart) H locs → W p l e { frames := 4, cells := 0, slots := 0, locals := 91 } s m args below meth c H locs 0 0 Q (F0 m pc ls [.int r])) (hk : ∀ (x3 : Int32) (H : Heap) (locs : List Loc) (ls : Array Slot), k x3 = some (r, z_t_apart) → lv_has ls 5 [(0, .ref A_t), (1, .int x1), (2, .int x2), (3, .int x3)] → wd_ G A s.heap (wl_X10_whose G A_t A_t_steps A_t_wet A_t_where A_t_home A_t_light A_t_carries A_t_sightPlace A_t_sightLight A_t_pad A_t_act A_t_whose A_t_whom A_t_tens A_t_had A_t_leaves A_t_apart A_t_stop A_t_restOf A_t_group A_t_along A_t_kept A_t_isKept c_t_foggy c_t_walkers c_t_sights c_t_padMany c_t_acts c_t_spent c_t_walks c_t_badAct c_t_badWhy c_t_keptAt c_t_isWriting c_t_steps c_t_wet c_t_where c_t_light c_t_sightPlace c_t_sightLight c_t_apart) H locs → W p l e { frames := 4, cells := 0, slots := 0, locals := 91 } s m args below meth c H locs 0 0 Q (F0 m 70 ls [])) : ∀ (n : Nat) (x3 : Int32) (x4 : Int32) (H : Heap) (locs : List Loc) (ls : Array Slot), fn_X10_whose_l23 c_t_sights c_t_where c_t_light c_t_sightPlace c_t_sightLight c_t_apart x2 k n x3 x4 = some (r, z_t_apart) → lv_has ls 5 [(0, .ref A_t), (1, .int x1), (2, .int x2), (3, .int x3), (4, .int x4)] → wd_ G A s.heap (wl_X10_whose G A_t A_t_steps A_t_wet A_t_where A_t_home A_t_light A_t_carries A_t_sightPlace A_t_sightLight A_t_pad A_t_act A_t_whose A_t_whom A_t_tens A_t_had A_t_leaves A_t_apart A_t_stop A_t_restOf A_t_group A_t_along A_t_kept A_t_isKept c_t_foggy c_t_walkers c_t_sights c_t_padMany c_t_acts c_t_spent c_t_walks c_t_badAct c_t_badWhy c_t_keptAt c_t_isWriting c_t_steps c_t_wet c_t_where c_t_light c_t_sightPlace c_t_sightLight c_t_apart) H locs → W p l e { frames := 4, cells := 0, slots := 0, locals := 91 } s m args below meth c H locs 0 0 Q (F0 m 23 ls []) := by
  have hx := hC.1
  have hb := hC.2.1
  intro n
  induction n with
  | zero =>
    intro x3 x4 H locs ls hf
    cases (show (none : Option (Int32 × (Nat → Int32))) = some _ from hf)
  | succ n hrc =>
    intro x3 x4 H locs ls hf hl hw
    replace hf : fn_X10_whose_b23 c_t_sights c_t_where c_t_light c_t_sightPlace c_t_sightLight c_t_apart x2 (fn_X10_whose_l23 c_t_sights c_t_where c_t_light c_t_sightPlace c_t_sightLight c_t_apart x2 k n) k x3 x4 = some (r, z_t_apart) := hf
    unfold fn_X10_whose_b23 at hf
    refine lv_iload hx hb dX10_whose_23 (lv_at hl 4 rfl) ?_
    refine lv_aload_n hx hb dX10_whose_25 rfl (lv_at hl 0 rfl) ?_
    refine g_get hC hw fkX10_254 0 rfl rfl dX10_whose_26 ?_
    refine lv_icmp_ge (tgt := 70) hx hb dX10_whose_29 (by decide) (fun hc => ?_) (fun hc => ?_)
    · replace hf := it_t hc hf
      exact hk x3 _ _ _ hf (lv_sub hl [0, 1, 2, 3] rfl) hw
    · replace hf := it_f hc hf
      refine lv_iload_n hx hb dX10_whose_32 rfl (lv_at hl 3 rfl) ?_
      refine lv_if_eq (tgt := 62) hx hb dX10_whose_33 (by decide) (fun hc => ?_) (fun hc => ?_)
      · replace hf := it_t hc hf
        refine lv_iconst (v := 0) hx hb dX10_whose_62 (by decide) ?_
        refine lv_istore_n (lv' := [(3, .int 0), (0, .ref A_t), (1, .int x1), (2, .int x2), (4, .int x4)]) hx hb dX10_whose_63 rfl hl (by decide) rfl (fun ls hl => ?_)
        refine lv_iinc (v := x4 + 1) (lv' := [(4, .int (x4 + 1)), (3, .int 0), (0, .ref A_t), (1, .int x1), (2, .int x2)]) hx hb dX10_whose_64 hl (k := 4) rfl rfl (by decide) rfl (fun ls hl => ?_)
        refine lv_goto (tgt := 23) hx hb dX10_whose_67 (by decide) ?_
        exact hrc 0 (x4 + 1) _ _ _ hf (lv_sub hl [2, 3, 4, 1, 0] rfl) hw
      · replace hf := it_f hc hf
        refine lv_aload_n hx hb dX10_whose_36 rfl (lv_at hl 0 rfl) ?_
        refine lv_iload_n hx hb dX10_whose_37 rfl (lv_at hl 2 rfl) ?_
        refine lv_aload_n hx hb dX10_whose_38 rfl (lv_at hl 0 rfl) ?_
        refine g_get hC hw fkX10_28 0 rfl rfl dX10_whose_39 ?_
        refine lv_iload hx hb dX10_whose_42 (lv_at hl 4 rfl) ?_
        obtain ⟨hi, hf⟩ := ck_s hf
        refine g_iald hC hw 5 rfl hi dX10_whose_44 ?_
        obtain ⟨r5, hq6, hf⟩ := b1_s hf
        refine h_cVi hC hw mvX10_257 (cn_X10_leftAt l G A_t A_t_steps A_t_wet A_t_where A_t_home A_t_light A_t_carries A_t_sightPlace A_t_sightLight A_t_pad A_t_act A_t_whose A_t_whom A_t_tens A_t_had A_t_leaves A_t_apart A_t_stop A_t_restOf A_t_group A_t_along A_t_kept A_t_isKept c_t_foggy c_t_walkers c_t_sights c_t_padMany c_t_acts c_t_spent c_t_walks c_t_badAct c_t_badWhy c_t_keptAt c_t_isWriting c_t_where c_t_light c_t_apart x2 (c_t_sightPlace (Int32.toNatClampNeg x4)) r5 hq6) [0, 3, 4, 7] rfl (by decide) 0 rfl rfl rfl hl.1 rfl (Nat.le_of_ble_eq_true rfl) ⟨Nat.le_of_ble_eq_true rfl, Nat.le_of_ble_eq_true rfl⟩ ⟨Nat.le_refl _, Nat.le_refl _⟩ dX10_whose_45 (fun H locs hw => ?_)
        refine lv_aload_n hx hb dX10_whose_48 rfl (lv_at hl 0 rfl) ?_
        refine g_get hC hw fkX10_31 0 rfl rfl dX10_whose_49 ?_
        refine lv_iload hx hb dX10_whose_52 (lv_at hl 4 rfl) ?_
        obtain ⟨hi, hf⟩ := ck_s hf
        refine g_iald hC hw 6 rfl hi dX10_whose_54 ?_
        refine lv_icmp_ne (tgt := 62) hx hb dX10_whose_55 (by decide) (fun hc => ?_) (fun hc => ?_)
        · replace hf := it_f hc hf
          refine lv_iconst (v := 0) hx hb dX10_whose_62 (by decide) ?_
          refine lv_istore_n (lv' := [(3, .int 0), (0, .ref A_t), (1, .int x1), (2, .int x2), (4, .int x4)]) hx hb dX10_whose_63 rfl hl (by decide) rfl (fun ls hl => ?_)
          refine lv_iinc (v := x4 + 1) (lv' := [(4, .int (x4 + 1)), (3, .int 0), (0, .ref A_t), (1, .int x1), (2, .int x2)]) hx hb dX10_whose_64 hl (k := 4) rfl rfl (by decide) rfl (fun ls hl => ?_)
          refine lv_goto (tgt := 23) hx hb dX10_whose_67 (by decide) ?_
          exact hrc 0 (x4 + 1) _ _ _ hf (lv_sub hl [2, 3, 4, 1, 0] rfl) hw
        · replace hf := it_t hc hf
          refine lv_iconst (v := 1) hx hb dX10_whose_58 (by decide) ?_
          refine lv_goto (tgt := 63) hx hb dX10_whose_59 (by decide) ?_
          refine lv_istore_n (lv' := [(3, .int 1), (0, .ref A_t), (1, .int x1), (2, .int x2), (4, .int x4)]) hx hb dX10_whose_63 rfl hl (by decide) rfl (fun ls hl => ?_)
          refine lv_iinc (v := x4 + 1) (lv' := [(4, .int (x4 + 1)), (3, .int 1), (0, .ref A_t), (1, .int x1), (2, .int x2)]) hx hb dX10_whose_64 hl (k := 4) rfl rfl (by decide) rfl (fun ls hl => ?_)
          refine lv_goto (tgt := 23) hx hb dX10_whose_67 (by decide) ?_
          exact hrc 1 (x4 + 1) _ _ _ hf (lv_sub hl [2, 3, 4, 1, 0] rfl) hw
set_option maxHeartbeats 4000000 in
set_option maxRecDepth 100000 in
theorem wn_X10_whose_l8 {p : Program} {l : Launch} {e : Env} {s : State} {m : MethodId} {args : Array Value} {below : List Frame} {meth : Method} {c : Code} {G : gw_} {A : Nat → Prop} {Q : State → Prop} {A_t : Nat} {A_t_steps : Nat} {A_t_wet : Nat} {A_t_where : Nat} {A_t_home : Nat} {A_t_light : Nat} {A_t_carries : Nat} {A_t_sightPlace : Nat} {A_t_sightLight : Nat} {A_t_pad : Nat} {A_t_act : Nat} {A_t_whose : Nat} {A_t_whom : Nat} {A_t_tens : Nat} {A_t_had : Nat} {A_t_leaves : Nat} {A_t_apart : Nat} {A_t_stop : Nat} {A_t_restOf : Nat} {A_t_group : Nat} {A_t_along : Nat} {A_t_kept : Nat} {A_t_isKept : Nat} {c_t_foggy : Int32} {c_t_walkers : Int32} {c_t_sights : Int32} {c_t_padMany : Int32} {c_t_acts : Int32} {c_t_spent : Int32} {c_t_walks : Int32} {c_t_badAct : Int32} {c_t_badWhy : Int32} {c_t_keptAt : Int32} {c_t_isWriting : Int32} {c_t_steps : Nat → Int32} {c_t_wet : Nat → Int32} {c_t_where : Nat → Int32} {c_t_light : Nat → Int32} {c_t_sightPlace : Nat → Int32} {c_t_sightLight : Nat → Int32} {c_t_apart : Nat → Int32} {z_t_apart : Nat → Int32} {r : Int32} {k : Int32 → Option (Int32 × (Nat → Int32))} (hC : cx_ p s m c G cX10_whose 5 RX10) (hret : ∀ (pc : Nat) (H : Heap) (locs : List Loc) (ls : Array Slot), decode cX10_whose pc = .ok (.ireturn, 1) → wd_ G A s.heap (wl_X10_whose G A_t A_t_steps A_t_wet A_t_where A_t_home A_t_light A_t_carries A_t_sightPlace A_t_sightLight A_t_pad A_t_act A_t_whose A_t_whom A_t_tens A_t_had A_t_leaves A_t_apart A_t_stop A_t_restOf A_t_group A_t_along A_t_kept A_t_isKept c_t_foggy c_t_walkers c_t_sights c_t_padMany c_t_acts c_t_spent c_t_walks c_t_badAct c_t_badWhy c_t_keptAt c_t_isWriting c_t_steps c_t_wet c_t_where c_t_light c_t_sightPlace c_t_sightLight z_t_apart) H locs → W p l e { frames := 4, cells := 0, slots := 0, locals := 91 } s m args below meth c H locs 0 0 Q (F0 m pc ls [.int r])) (hk : ∀ (x1 : Int32) (H : Heap) (locs : List Loc) (ls : Array Slot), k x1 = some (r, z_t_apart) → lv_has ls 5 [(1, .int x1)] → wd_ G A s.heap (wl_X10_whose G A_t A_t_steps A_t_wet A_t_where A_t_home A_t_light A_t_carries A_t_sightPlace A_t_sightLight A_t_pad A_t_act A_t_whose A_t_whom A_t_tens A_t_had A_t_leaves A_t_apart A_t_stop A_t_restOf A_t_group A_t_along A_t_kept A_t_isKept c_t_foggy c_t_walkers c_t_sights c_t_padMany c_t_acts c_t_spent c_t_walks c_t_badAct c_t_badWhy c_t_keptAt c_t_isWriting c_t_steps c_t_wet c_t_where c_t_light c_t_sightPlace c_t_sightLight c_t_apart) H locs → W p l e { frames := 4, cells := 0, slots := 0, locals := 91 } s m args below meth c H locs 0 0 Q (F0 m 90 ls [])) : ∀ (n : Nat) (x1 : Int32) (x2 : Int32) (H : Heap) (locs : List Loc) (ls : Array Slot), fn_X10_whose_l8 c_t_walkers c_t_sights c_t_where c_t_light c_t_sightPlace c_t_sightLight c_t_apart k n x1 x2 = some (r, z_t_apart) → lv_has ls 5 [(0, .ref A_t), (1, .int x1), (2, .int x2)] → wd_ G A s.heap (wl_X10_whose G A_t A_t_steps A_t_wet A_t_where A_t_home A_t_light A_t_carries A_t_sightPlace A_t_sightLight A_t_pad A_t_act A_t_whose A_t_whom A_t_tens A_t_had A_t_leaves A_t_apart A_t_stop A_t_restOf A_t_group A_t_along A_t_kept A_t_isKept c_t_foggy c_t_walkers c_t_sights c_t_padMany c_t_acts c_t_spent c_t_walks c_t_badAct c_t_badWhy c_t_keptAt c_t_isWriting c_t_steps c_t_wet c_t_where c_t_light c_t_sightPlace c_t_sightLight c_t_apart) H locs → W p l e { frames := 4, cells := 0, slots := 0, locals := 91 } s m args below meth c H locs 0 0 Q (F0 m 8 ls []) := by
  have hx := hC.1
  have hb := hC.2.1
  intro n
  induction n with
  | zero =>
    intro x1 x2 H locs ls hf
    cases (show (none : Option (Int32 × (Nat → Int32))) = some _ from hf)
  | succ n hrc =>
    intro x1 x2 H locs ls hf hl hw
    replace hf : fn_X10_whose_b8 c_t_walkers c_t_sights c_t_where c_t_light c_t_sightPlace c_t_sightLight c_t_apart (fn_X10_whose_l8 c_t_walkers c_t_sights c_t_where c_t_light c_t_sightPlace c_t_sightLight c_t_apart k n) k x1 x2 = some (r, z_t_apart) := hf
    unfold fn_X10_whose_b8 at hf
    refine lv_iload_n hx hb dX10_whose_8 rfl (lv_at hl 2 rfl) ?_
    refine lv_bipush (v := 6) hx hb dX10_whose_9 (by decide) ?_
    refine lv_icmp_ge (tgt := 90) hx hb dX10_whose_11 (by decide) (fun hc => ?_) (fun hc => ?_)
    · replace hf := it_t hc hf
      exact hk x1 _ _ _ hf (lv_sub hl [1] rfl) hw
    · replace hf := it_f hc hf
      refine lv_aload_n hx hb dX10_whose_14 rfl (lv_at hl 0 rfl) ?_
      refine lv_iload_n hx hb dX10_whose_15 rfl (lv_at hl 2 rfl) ?_
      obtain ⟨r3, hq4, hf⟩ := b1_s hf
      refine h_cVi hC hw mvX10_106 (cn_X10_isWalker l G A_t A_t_steps A_t_wet A_t_where A_t_home A_t_light A_t_carries A_t_sightPlace A_t_sightLight A_t_pad A_t_act A_t_whose A_t_whom A_t_tens A_t_had A_t_leaves A_t_apart A_t_stop A_t_restOf A_t_group A_t_along A_t_kept A_t_isKept c_t_foggy c_t_walkers c_t_sights c_t_padMany c_t_acts c_t_spent c_t_walks c_t_badAct c_t_badWhy c_t_keptAt c_t_isWriting x2 r3 hq4) [0] rfl (by decide) 0 rfl rfl rfl hl.1 rfl (Nat.le_of_ble_eq_true rfl) ⟨Nat.le_of_ble_eq_true rfl, Nat.le_of_ble_eq_true rfl⟩ ⟨Nat.le_refl _, Nat.le_refl _⟩ dX10_whose_16 (fun H locs hw => ?_)
      refine lv_istore_n (lv' := [(3, .int r3), (0, .ref A_t), (1, .int x1), (2, .int x2)]) hx hb dX10_whose_19 rfl hl (by decide) rfl (fun ls hl => ?_)
      refine lv_iconst (v := 0) hx hb dX10_whose_20 (by decide) ?_
      refine lv_istore (lv' := [(4, .int 0), (3, .int r3), (0, .ref A_t), (1, .int x1), (2, .int x2)]) hx hb dX10_whose_21 hl (by decide) rfl (fun ls hl => ?_)
      refine wn_X10_whose_l23 hC hret (fun v7 H locs ls hf hl hw => ?_) fu_ r3 0 _ _ _ hf (lv_sub hl [2, 3, 4, 1, 0] rfl) hw
      refine lv_iload_n hx hb dX10_whose_70 rfl (lv_at hl 1 rfl) ?_
      refine lv_iload_n hx hb dX10_whose_71 rfl (lv_at hl 3 rfl) ?_
      refine lv_if_eq (tgt := 81) hx hb dX10_whose_72 (by decide) (fun hc => ?_) (fun hc => ?_)
      · replace hf := it_t hc hf
        refine lv_iconst (v := 0) hx hb dX10_whose_81 (by decide) ?_
        refine lv_ior hx hb dX10_whose_82 ?_
        refine lv_istore_n (lv' := [(1, .int (x1 ||| 0)), (0, .ref A_t), (2, .int x2), (3, .int v7)]) hx hb dX10_whose_83 rfl hl (by decide) rfl (fun ls hl => ?_)
        refine lv_iinc (v := x2 + 1) (lv' := [(2, .int (x2 + 1)), (1, .int (x1 ||| 0)), (0, .ref A_t), (3, .int v7)]) hx hb dX10_whose_84 hl (k := 2) rfl rfl (by decide) rfl (fun ls hl => ?_)
        refine lv_goto (tgt := 8) hx hb dX10_whose_87 (by decide) ?_
        exact hrc (x1 ||| 0) (x2 + 1) _ _ _ hf (lv_sub hl [2, 1, 0] rfl) hw
      · replace hf := it_f hc hf
        refine lv_iconst (v := 1) hx hb dX10_whose_75 (by decide) ?_
        refine lv_iload_n hx hb dX10_whose_76 rfl (lv_at hl 2 rfl) ?_
        refine lv_ishl hx hb dX10_whose_77 ?_
        refine lv_goto (tgt := 82) hx hb dX10_whose_78 (by decide) ?_
        refine lv_ior hx hb dX10_whose_82 ?_
        obtain ⟨y8, ey8, hf⟩ := lx_s hf
        rw [← ey8]
        refine lv_istore_n (lv' := [(1, .int y8), (0, .ref A_t), (2, .int x2), (3, .int v7)]) hx hb dX10_whose_83 rfl hl (by decide) rfl (fun ls hl => ?_)
        refine lv_iinc (v := x2 + 1) (lv' := [(2, .int (x2 + 1)), (1, .int y8), (0, .ref A_t), (3, .int v7)]) hx hb dX10_whose_84 hl (k := 2) rfl rfl (by decide) rfl (fun ls hl => ?_)
        refine lv_goto (tgt := 8) hx hb dX10_whose_87 (by decide) ?_
        exact hrc y8 (x2 + 1) _ _ _ hf (lv_sub hl [2, 1, 0] rfl) hw
set_option maxHeartbeats 4000000 in
set_option maxRecDepth 100000 in
theorem wn_X10_whose {p : Program} {l : Launch} {e : Env} {s : State} {m : MethodId} {args : Array Value} {below : List Frame} {meth : Method} {c : Code} {G : gw_} {A : Nat → Prop} {Q : State → Prop} {A_t : Nat} {A_t_steps : Nat} {A_t_wet : Nat} {A_t_where : Nat} {A_t_home : Nat} {A_t_light : Nat} {A_t_carries : Nat} {A_t_sightPlace : Nat} {A_t_sightLight : Nat} {A_t_pad : Nat} {A_t_act : Nat} {A_t_whose : Nat} {A_t_whom : Nat} {A_t_tens : Nat} {A_t_had : Nat} {A_t_leaves : Nat} {A_t_apart : Nat} {A_t_stop : Nat} {A_t_restOf : Nat} {A_t_group : Nat} {A_t_along : Nat} {A_t_kept : Nat} {A_t_isKept : Nat} {c_t_foggy : Int32} {c_t_walkers : Int32} {c_t_sights : Int32} {c_t_padMany : Int32} {c_t_acts : Int32} {c_t_spent : Int32} {c_t_walks : Int32} {c_t_badAct : Int32} {c_t_badWhy : Int32} {c_t_keptAt : Int32} {c_t_isWriting : Int32} {c_t_steps : Nat → Int32} {c_t_wet : Nat → Int32} {c_t_where : Nat → Int32} {c_t_light : Nat → Int32} {c_t_sightPlace : Nat → Int32} {c_t_sightLight : Nat → Int32} {c_t_apart : Nat → Int32} {z_t_apart : Nat → Int32} {r : Int32} (hC : cx_ p s m c G cX10_whose 5 RX10) (hret : ∀ (pc : Nat) (H : Heap) (locs : List Loc) (ls : Array Slot), decode cX10_whose pc = .ok (.ireturn, 1) → wd_ G A s.heap (wl_X10_whose G A_t A_t_steps A_t_wet A_t_where A_t_home A_t_light A_t_carries A_t_sightPlace A_t_sightLight A_t_pad A_t_act A_t_whose A_t_whom A_t_tens A_t_had A_t_leaves A_t_apart A_t_stop A_t_restOf A_t_group A_t_along A_t_kept A_t_isKept c_t_foggy c_t_walkers c_t_sights c_t_padMany c_t_acts c_t_spent c_t_walks c_t_badAct c_t_badWhy c_t_keptAt c_t_isWriting c_t_steps c_t_wet c_t_where c_t_light c_t_sightPlace c_t_sightLight z_t_apart) H locs → W p l e { frames := 4, cells := 0, slots := 0, locals := 91 } s m args below meth c H locs 0 0 Q (F0 m pc ls [.int r])) (hf : fn_X10_whose c_t_foggy c_t_walkers c_t_sights c_t_steps c_t_wet c_t_where c_t_light c_t_sightPlace c_t_sightLight c_t_apart = some (r, z_t_apart)) {H : Heap} {locs : List Loc} {ls : Array Slot} (hl : lv_has ls 5 [(0, .ref A_t)]) (hw : wd_ G A s.heap (wl_X10_whose G A_t A_t_steps A_t_wet A_t_where A_t_home A_t_light A_t_carries A_t_sightPlace A_t_sightLight A_t_pad A_t_act A_t_whose A_t_whom A_t_tens A_t_had A_t_leaves A_t_apart A_t_stop A_t_restOf A_t_group A_t_along A_t_kept A_t_isKept c_t_foggy c_t_walkers c_t_sights c_t_padMany c_t_acts c_t_spent c_t_walks c_t_badAct c_t_badWhy c_t_keptAt c_t_isWriting c_t_steps c_t_wet c_t_where c_t_light c_t_sightPlace c_t_sightLight c_t_apart) H locs) : W p l e { frames := 4, cells := 0, slots := 0, locals := 91 } s m args below meth c H locs 0 0 Q (F0 m 0 ls []) := by
  have hx := hC.1
  have hb := hC.2.1
  unfold fn_X10_whose at hf
  refine lv_aload_n hx hb dX10_whose_0 rfl (lv_at hl 0 rfl) ?_
  obtain ⟨w1, hq2, hf⟩ := b1_s hf
  refine g_cVv hC hw mvX10_219 (cn_X10_findWays l G A_t A_t_steps A_t_wet A_t_where A_t_home A_t_light A_t_carries A_t_sightPlace A_t_sightLight A_t_pad A_t_act A_t_whose A_t_whom A_t_tens A_t_had A_t_leaves A_t_apart A_t_stop A_t_restOf A_t_group A_t_along A_t_kept A_t_isKept c_t_foggy c_t_walkers c_t_sights c_t_padMany c_t_acts c_t_spent c_t_walks c_t_badAct c_t_badWhy c_t_keptAt c_t_isWriting c_t_steps c_t_wet c_t_apart w1 hq2) [0, 1, 2, 7] rfl (by decide) rfl 0 rfl rfl rfl hl.1 rfl (Nat.le_of_ble_eq_true rfl) ⟨Nat.le_of_ble_eq_true rfl, Nat.le_of_ble_eq_true rfl⟩ ⟨Nat.le_refl _, Nat.le_refl _⟩ dX10_whose_1 (fun H locs hw => ?_)
  have hw : wd_ G A s.heap (wl_X10_whose G A_t A_t_steps A_t_wet A_t_where A_t_home A_t_light A_t_carries A_t_sightPlace A_t_sightLight A_t_pad A_t_act A_t_whose A_t_whom A_t_tens A_t_had A_t_leaves A_t_apart A_t_stop A_t_restOf A_t_group A_t_along A_t_kept A_t_isKept c_t_foggy c_t_walkers c_t_sights c_t_padMany c_t_acts c_t_spent c_t_walks c_t_badAct c_t_badWhy c_t_keptAt c_t_isWriting c_t_steps c_t_wet c_t_where c_t_light c_t_sightPlace c_t_sightLight w1) H locs := hw
  refine lv_iconst (v := 0) hx hb dX10_whose_4 (by decide) ?_
  refine lv_istore_n (lv' := [(1, .int 0), (0, .ref A_t)]) hx hb dX10_whose_5 rfl hl (by decide) rfl (fun ls hl => ?_)
  refine lv_iconst (v := 0) hx hb dX10_whose_6 (by decide) ?_
  refine lv_istore_n (lv' := [(2, .int 0), (1, .int 0), (0, .ref A_t)]) hx hb dX10_whose_7 rfl hl (by decide) rfl (fun ls hl => ?_)
  refine wn_X10_whose_l8 hC hret (fun v9 H locs ls hf hl hw => ?_) fu_ 0 0 _ _ _ hf (lv_sub hl [2, 1, 0] rfl) hw
  refine lv_iload_n hx hb dX10_whose_90 rfl (lv_at hl 0 rfl) ?_
  obtain ⟨h1_, h2_⟩ := t2_ hf
  subst h1_
  subst h2_
  exact hret _ _ _ _ dX10_whose_91 hw
set_option maxHeartbeats 4000000 in
set_option maxRecDepth 100000 in
theorem cn_X10_whose (l : Launch) (G : gw_) (A_t : Nat) (A_t_steps : Nat) (A_t_wet : Nat) (A_t_where : Nat) (A_t_home : Nat) (A_t_light : Nat) (A_t_carries : Nat) (A_t_sightPlace : Nat) (A_t_sightLight : Nat) (A_t_pad : Nat) (A_t_act : Nat) (A_t_whose : Nat) (A_t_whom : Nat) (A_t_tens : Nat) (A_t_had : Nat) (A_t_leaves : Nat) (A_t_apart : Nat) (A_t_stop : Nat) (A_t_restOf : Nat) (A_t_group : Nat) (A_t_along : Nat) (A_t_kept : Nat) (A_t_isKept : Nat) (c_t_foggy : Int32) (c_t_walkers : Int32) (c_t_sights : Int32) (c_t_padMany : Int32) (c_t_acts : Int32) (c_t_spent : Int32) (c_t_walks : Int32) (c_t_badAct : Int32) (c_t_badWhy : Int32) (c_t_keptAt : Int32) (c_t_isWriting : Int32) (c_t_steps : Nat → Int32) (c_t_wet : Nat → Int32) (c_t_where : Nat → Int32) (c_t_light : Nat → Int32) (c_t_sightPlace : Nat → Int32) (c_t_sightLight : Nat → Int32) (c_t_apart : Nat → Int32) (r : Int32) (z_t_apart : Nat → Int32) (hf : fn_X10_whose c_t_foggy c_t_walkers c_t_sights c_t_steps c_t_wet c_t_where c_t_light c_t_sightPlace c_t_sightLight c_t_apart = some (r, z_t_apart)) : ci_ l G yX10_whose cX10_whose 5 (some .int) 4 91 (wl_X10_whose G A_t A_t_steps A_t_wet A_t_where A_t_home A_t_light A_t_carries A_t_sightPlace A_t_sightLight A_t_pad A_t_act A_t_whose A_t_whom A_t_tens A_t_had A_t_leaves A_t_apart A_t_stop A_t_restOf A_t_group A_t_along A_t_kept A_t_isKept c_t_foggy c_t_walkers c_t_sights c_t_padMany c_t_acts c_t_spent c_t_walks c_t_badAct c_t_badWhy c_t_keptAt c_t_isWriting c_t_steps c_t_wet c_t_where c_t_light c_t_sightPlace c_t_sightLight c_t_apart) [.ref A_t] r (wl_X10_whose G A_t A_t_steps A_t_wet A_t_where A_t_home A_t_light A_t_carries A_t_sightPlace A_t_sightLight A_t_pad A_t_act A_t_whose A_t_whom A_t_tens A_t_had A_t_leaves A_t_apart A_t_stop A_t_restOf A_t_group A_t_along A_t_kept A_t_isKept c_t_foggy c_t_walkers c_t_sights c_t_padMany c_t_acts c_t_spent c_t_walks c_t_badAct c_t_badWhy c_t_keptAt c_t_isWriting c_t_steps c_t_wet c_t_where c_t_light c_t_sightPlace c_t_sightLight z_t_apart) := fun sz => met_intro (by decide) (Nat.le_of_ble_eq_true rfl) (fun p e s m args below meth c ls hsz hC hr hlk hnm hl hw => wn_X10_whose hC (fun pc H locs ls hd hw => g_iret hC hr hlk hw rfl rfl hd) hf hl hw)

theorem dX10_mostAlike_0 : decode cX10_mostAlike 0 = .ok (.iconst 0, 1) := by decide +kernel
theorem dX10_mostAlike_1 : decode cX10_mostAlike 1 = .ok (.istore_n 3, 1) := by decide +kernel
theorem dX10_mostAlike_2 : decode cX10_mostAlike 2 = .ok (.iconst 0, 1) := by decide +kernel
theorem dX10_mostAlike_3 : decode cX10_mostAlike 3 = .ok (.istore 4, 2) := by decide +kernel
theorem dX10_mostAlike_5 : decode cX10_mostAlike 5 = .ok (.iload 4, 2) := by decide +kernel
theorem dX10_mostAlike_7 : decode cX10_mostAlike 7 = .ok (.bipush 6, 2) := by decide +kernel
theorem dX10_mostAlike_9 : decode cX10_mostAlike 9 = .ok (.if_icmp .ge 100, 3) := by decide +kernel
theorem dX10_mostAlike_12 : decode cX10_mostAlike 12 = .ok (.iconst 0, 1) := by decide +kernel
theorem dX10_mostAlike_13 : decode cX10_mostAlike 13 = .ok (.istore 5, 2) := by decide +kernel
theorem dX10_mostAlike_15 : decode cX10_mostAlike 15 = .ok (.iconst 0, 1) := by decide +kernel
theorem dX10_mostAlike_16 : decode cX10_mostAlike 16 = .ok (.istore 6, 2) := by decide +kernel
theorem dX10_mostAlike_18 : decode cX10_mostAlike 18 = .ok (.iload 6, 2) := by decide +kernel
theorem dX10_mostAlike_20 : decode cX10_mostAlike 20 = .ok (.bipush 6, 2) := by decide +kernel
theorem dX10_mostAlike_22 : decode cX10_mostAlike 22 = .ok (.if_icmp .ge 68, 3) := by decide +kernel
theorem dX10_mostAlike_25 : decode cX10_mostAlike 25 = .ok (.iload_n 1, 1) := by decide +kernel
theorem dX10_mostAlike_26 : decode cX10_mostAlike 26 = .ok (.iload 4, 2) := by decide +kernel
theorem dX10_mostAlike_28 : decode cX10_mostAlike 28 = .ok (.ishr, 1) := by decide +kernel
theorem dX10_mostAlike_29 : decode cX10_mostAlike 29 = .ok (.iconst 1, 1) := by decide +kernel
theorem dX10_mostAlike_30 : decode cX10_mostAlike 30 = .ok (.iand, 1) := by decide +kernel
theorem dX10_mostAlike_31 : decode cX10_mostAlike 31 = .ok (.iconst 1, 1) := by decide +kernel
theorem dX10_mostAlike_32 : decode cX10_mostAlike 32 = .ok (.if_icmp .ne 17, 3) := by decide +kernel
theorem dX10_mostAlike_35 : decode cX10_mostAlike 35 = .ok (.iload_n 1, 1) := by decide +kernel
theorem dX10_mostAlike_36 : decode cX10_mostAlike 36 = .ok (.iload 6, 2) := by decide +kernel
theorem dX10_mostAlike_38 : decode cX10_mostAlike 38 = .ok (.ishr, 1) := by decide +kernel
theorem dX10_mostAlike_39 : decode cX10_mostAlike 39 = .ok (.iconst 1, 1) := by decide +kernel
theorem dX10_mostAlike_40 : decode cX10_mostAlike 40 = .ok (.iand, 1) := by decide +kernel
theorem dX10_mostAlike_41 : decode cX10_mostAlike 41 = .ok (.iconst 1, 1) := by decide +kernel
theorem dX10_mostAlike_42 : decode cX10_mostAlike 42 = .ok (.if_icmp .ne 7, 3) := by decide +kernel
theorem dX10_mostAlike_45 : decode cX10_mostAlike 45 = .ok (.iconst 1, 1) := by decide +kernel
theorem dX10_mostAlike_46 : decode cX10_mostAlike 46 = .ok (.goto 4, 3) := by decide +kernel
theorem dX10_mostAlike_49 : decode cX10_mostAlike 49 = .ok (.iconst 0, 1) := by decide +kernel
theorem dX10_mostAlike_50 : decode cX10_mostAlike 50 = .ok (.istore 7, 2) := by decide +kernel
theorem dX10_mostAlike_52 : decode cX10_mostAlike 52 = .ok (.iload 5, 2) := by decide +kernel
theorem dX10_mostAlike_54 : decode cX10_mostAlike 54 = .ok (.iload 7, 2) := by decide +kernel
theorem dX10_mostAlike_56 : decode cX10_mostAlike 56 = .ok (.ifCond .eq 24, 3) := by decide +kernel
theorem dX10_mostAlike_59 : decode cX10_mostAlike 59 = .ok (.aload_n 0, 1) := by decide +kernel
theorem dX10_mostAlike_60 : decode cX10_mostAlike 60 = .ok (.iload 4, 2) := by decide +kernel
theorem dX10_mostAlike_62 : decode cX10_mostAlike 62 = .ok (.iload_n 2, 1) := by decide +kernel
theorem dX10_mostAlike_63 : decode cX10_mostAlike 63 = .ok (.invokevirtual 257, 3) := by decide +kernel
theorem dX10_mostAlike_66 : decode cX10_mostAlike 66 = .ok (.aload_n 0, 1) := by decide +kernel
theorem dX10_mostAlike_67 : decode cX10_mostAlike 67 = .ok (.iload 6, 2) := by decide +kernel
theorem dX10_mostAlike_69 : decode cX10_mostAlike 69 = .ok (.iload_n 2, 1) := by decide +kernel
theorem dX10_mostAlike_70 : decode cX10_mostAlike 70 = .ok (.invokevirtual 257, 3) := by decide +kernel
theorem dX10_mostAlike_73 : decode cX10_mostAlike 73 = .ok (.if_icmp .ne 7, 3) := by decide +kernel
theorem dX10_mostAlike_76 : decode cX10_mostAlike 76 = .ok (.iconst 1, 1) := by decide +kernel
theorem dX10_mostAlike_77 : decode cX10_mostAlike 77 = .ok (.goto 4, 3) := by decide +kernel
theorem dX10_mostAlike_80 : decode cX10_mostAlike 80 = .ok (.iconst 0, 1) := by decide +kernel
theorem dX10_mostAlike_81 : decode cX10_mostAlike 81 = .ok (.iadd, 1) := by decide +kernel
theorem dX10_mostAlike_82 : decode cX10_mostAlike 82 = .ok (.istore 5, 2) := by decide +kernel
theorem dX10_mostAlike_84 : decode cX10_mostAlike 84 = .ok (.iinc 6 1, 3) := by decide +kernel
theorem dX10_mostAlike_87 : decode cX10_mostAlike 87 = .ok (.goto (-69), 3) := by decide +kernel
theorem dX10_mostAlike_90 : decode cX10_mostAlike 90 = .ok (.iload 5, 2) := by decide +kernel
theorem dX10_mostAlike_92 : decode cX10_mostAlike 92 = .ok (.iload_n 3, 1) := by decide +kernel
theorem dX10_mostAlike_93 : decode cX10_mostAlike 93 = .ok (.if_icmp .le 8, 3) := by decide +kernel
theorem dX10_mostAlike_96 : decode cX10_mostAlike 96 = .ok (.iload 5, 2) := by decide +kernel
theorem dX10_mostAlike_98 : decode cX10_mostAlike 98 = .ok (.goto 4, 3) := by decide +kernel
theorem dX10_mostAlike_101 : decode cX10_mostAlike 101 = .ok (.iload_n 3, 1) := by decide +kernel
theorem dX10_mostAlike_102 : decode cX10_mostAlike 102 = .ok (.istore_n 3, 1) := by decide +kernel
theorem dX10_mostAlike_103 : decode cX10_mostAlike 103 = .ok (.iinc 4 1, 3) := by decide +kernel
theorem dX10_mostAlike_106 : decode cX10_mostAlike 106 = .ok (.goto (-101), 3) := by decide +kernel
theorem dX10_mostAlike_109 : decode cX10_mostAlike 109 = .ok (.iload_n 3, 1) := by decide +kernel
theorem dX10_mostAlike_110 : decode cX10_mostAlike 110 = .ok (.ireturn, 1) := by decide +kernel
abbrev wl_X10_mostAlike (G : gw_) (A_t : Nat) (A_t_steps : Nat) (A_t_wet : Nat) (A_t_where : Nat) (A_t_home : Nat) (A_t_light : Nat) (A_t_carries : Nat) (A_t_sightPlace : Nat) (A_t_sightLight : Nat) (A_t_pad : Nat) (A_t_act : Nat) (A_t_whose : Nat) (A_t_whom : Nat) (A_t_tens : Nat) (A_t_had : Nat) (A_t_leaves : Nat) (A_t_apart : Nat) (A_t_stop : Nat) (A_t_restOf : Nat) (A_t_group : Nat) (A_t_along : Nat) (A_t_kept : Nat) (A_t_isKept : Nat) (c_t_foggy : Int32) (c_t_walkers : Int32) (c_t_sights : Int32) (c_t_padMany : Int32) (c_t_acts : Int32) (c_t_spent : Int32) (c_t_walks : Int32) (c_t_badAct : Int32) (c_t_badWhy : Int32) (c_t_keptAt : Int32) (c_t_isWriting : Int32) (c_t_where : Nat → Int32) (c_t_light : Nat → Int32) (c_t_apart : Nat → Int32) : va_W := [ob_ A_t 10 [.ref A_t_steps, .ref A_t_wet, .int c_t_foggy, .int c_t_walkers, .ref A_t_where, .ref A_t_home, .ref A_t_light, .ref A_t_carries, .ref A_t_sightPlace, .ref A_t_sightLight, .int c_t_sights, .ref A_t_pad, .int c_t_padMany, .ref A_t_act, .ref A_t_whose, .ref A_t_whom, .ref A_t_tens, .int c_t_acts, .int c_t_spent, .int c_t_walks, .ref A_t_had, .ref A_t_leaves, .int c_t_badAct, .int c_t_badWhy, .ref A_t_apart, .ref A_t_stop, .ref A_t_restOf, .ref A_t_group, .ref A_t_along, .ref A_t_kept, .ref A_t_isKept, .int c_t_keptAt, .int c_t_isWriting], ia_ G A_t_where 6 c_t_where, ia_ G A_t_light 6 c_t_light, ia_ G A_t_apart 144 c_t_apart]
def fn_X10_mostAlike_j80 (x6 : Int32) (s0 : Int32) (rc : Int32 → Int32 → Option (Int32)) (k : Int32 → Option (Int32)) : Option (Int32) :=
  rc (s0 + 0) (x6 + 1)
def fn_X10_mostAlike_j50 (c_t_where : Nat → Int32) (c_t_light : Nat → Int32) (c_t_apart : Nat → Int32) (x2 : Int32) (x4 : Int32) (x5 : Int32) (x6 : Int32) (s0 : Int32) (rc : Int32 → Int32 → Option (Int32)) (k : Int32 → Option (Int32)) : Option (Int32) :=
  if s0 = 0 then
    fn_X10_mostAlike_j80 x6 x5 rc k
  else
    b1_ (fn_X10_leftAt c_t_where c_t_light c_t_apart x4 x2) fun r1 =>
    b1_ (fn_X10_leftAt c_t_where c_t_light c_t_apart x6 x2) fun r3 =>
    if r1 = r3 then
      rc (x5 + 1) (x6 + 1)
    else
      fn_X10_mostAlike_j80 x6 x5 rc k
def fn_X10_mostAlike_j49 (c_t_where : Nat → Int32) (c_t_light : Nat → Int32) (c_t_apart : Nat → Int32) (x2 : Int32) (x4 : Int32) (x5 : Int32) (x6 : Int32) (rc : Int32 → Int32 → Option (Int32)) (k : Int32 → Option (Int32)) : Option (Int32) :=
  fn_X10_mostAlike_j50 c_t_where c_t_light c_t_apart x2 x4 x5 x6 0 rc k
def fn_X10_mostAlike_b18 (c_t_where : Nat → Int32) (c_t_light : Nat → Int32) (c_t_apart : Nat → Int32) (x1 : Int32) (x2 : Int32) (x4 : Int32) (rc : Int32 → Int32 → Option (Int32)) (k : Int32 → Option (Int32)) (x5 : Int32) (x6 : Int32) : Option (Int32) :=
  if 6 ≤ x6 then
    k x5
  else
    if ((x1 >>> (x4 &&& 31)) &&& 1) = 1 then
      if ((x1 >>> (x6 &&& 31)) &&& 1) = 1 then
        fn_X10_mostAlike_j50 c_t_where c_t_light c_t_apart x2 x4 x5 x6 1 rc k
      else
        fn_X10_mostAlike_j49 c_t_where c_t_light c_t_apart x2 x4 x5 x6 rc k
    else
      fn_X10_mostAlike_j49 c_t_where c_t_light c_t_apart x2 x4 x5 x6 rc k
def fn_X10_mostAlike_l18 (c_t_where : Nat → Int32) (c_t_light : Nat → Int32) (c_t_apart : Nat → Int32) (x1 : Int32) (x2 : Int32) (x4 : Int32) (k : Int32 → Option (Int32)) : Nat → Int32 → Int32 → Option (Int32)
  | 0 => fun _ _ => none
  | n + 1 => fun x5 x6 => fn_X10_mostAlike_b18 c_t_where c_t_light c_t_apart x1 x2 x4 (fn_X10_mostAlike_l18 c_t_where c_t_light c_t_apart x1 x2 x4 k n) k x5 x6
def fn_X10_mostAlike_b5 (c_t_where : Nat → Int32) (c_t_light : Nat → Int32) (c_t_apart : Nat → Int32) (x1 : Int32) (x2 : Int32) (rc : Int32 → Int32 → Option (Int32)) (k : Int32 → Option (Int32)) (x3 : Int32) (x4 : Int32) : Option (Int32) :=
  if 6 ≤ x4 then
    k x3
  else
    fn_X10_mostAlike_l18 c_t_where c_t_light c_t_apart x1 x2 x4 (fun v5 =>
      if v5 ≤ x3 then
        rc x3 (x4 + 1)
      else
        rc v5 (x4 + 1)) fu_ 0 0
def fn_X10_mostAlike_l5 (c_t_where : Nat → Int32) (c_t_light : Nat → Int32) (c_t_apart : Nat → Int32) (x1 : Int32) (x2 : Int32) (k : Int32 → Option (Int32)) : Nat → Int32 → Int32 → Option (Int32)
  | 0 => fun _ _ => none
  | n + 1 => fun x3 x4 => fn_X10_mostAlike_b5 c_t_where c_t_light c_t_apart x1 x2 (fn_X10_mostAlike_l5 c_t_where c_t_light c_t_apart x1 x2 k n) k x3 x4
def fn_X10_mostAlike (c_t_where : Nat → Int32) (c_t_light : Nat → Int32) (c_t_apart : Nat → Int32) (x1 : Int32) (x2 : Int32) : Option (Int32) :=
  fn_X10_mostAlike_l5 c_t_where c_t_light c_t_apart x1 x2 (fun v6 =>
    some v6) fu_ 0 0
set_option maxHeartbeats 4000000 in
set_option maxRecDepth 100000 in
theorem wn_X10_mostAlike_j80 {p : Program} {l : Launch} {e : Env} {s : State} {m : MethodId} {args : Array Value} {below : List Frame} {meth : Method} {c : Code} {G : gw_} {A : Nat → Prop} {Q : State → Prop} {A_t : Nat} {A_t_steps : Nat} {A_t_wet : Nat} {A_t_where : Nat} {A_t_home : Nat} {A_t_light : Nat} {A_t_carries : Nat} {A_t_sightPlace : Nat} {A_t_sightLight : Nat} {A_t_pad : Nat} {A_t_act : Nat} {A_t_whose : Nat} {A_t_whom : Nat} {A_t_tens : Nat} {A_t_had : Nat} {A_t_leaves : Nat} {A_t_apart : Nat} {A_t_stop : Nat} {A_t_restOf : Nat} {A_t_group : Nat} {A_t_along : Nat} {A_t_kept : Nat} {A_t_isKept : Nat} {c_t_foggy : Int32} {c_t_walkers : Int32} {c_t_sights : Int32} {c_t_padMany : Int32} {c_t_acts : Int32} {c_t_spent : Int32} {c_t_walks : Int32} {c_t_badAct : Int32} {c_t_badWhy : Int32} {c_t_keptAt : Int32} {c_t_isWriting : Int32} {c_t_where : Nat → Int32} {c_t_light : Nat → Int32} {c_t_apart : Nat → Int32} {r : Int32} {x1 : Int32} {x2 : Int32} {x3 : Int32} {x4 : Int32} {x6 : Int32} {s0 : Int32} {rc : Int32 → Int32 → Option (Int32)} {k : Int32 → Option (Int32)} (hC : cx_ p s m c G cX10_mostAlike 8 RX10) (hret : ∀ (pc : Nat) (H : Heap) (locs : List Loc) (ls : Array Slot), decode cX10_mostAlike pc = .ok (.ireturn, 1) → wd_ G A s.heap (wl_X10_mostAlike G A_t A_t_steps A_t_wet A_t_where A_t_home A_t_light A_t_carries A_t_sightPlace A_t_sightLight A_t_pad A_t_act A_t_whose A_t_whom A_t_tens A_t_had A_t_leaves A_t_apart A_t_stop A_t_restOf A_t_group A_t_along A_t_kept A_t_isKept c_t_foggy c_t_walkers c_t_sights c_t_padMany c_t_acts c_t_spent c_t_walks c_t_badAct c_t_badWhy c_t_keptAt c_t_isWriting c_t_where c_t_light c_t_apart) H locs → W p l e { frames := 2, cells := 0, slots := 0, locals := 44 } s m args below meth c H locs 0 0 Q (F0 m pc ls [.int r])) (hrc : ∀ (x5 : Int32) (x6 : Int32) (H : Heap) (locs : List Loc) (ls : Array Slot), rc x5 x6 = some r → lv_has ls 8 [(0, .ref A_t), (1, .int x1), (2, .int x2), (3, .int x3), (4, .int x4), (5, .int x5), (6, .int x6)] → wd_ G A s.heap (wl_X10_mostAlike G A_t A_t_steps A_t_wet A_t_where A_t_home A_t_light A_t_carries A_t_sightPlace A_t_sightLight A_t_pad A_t_act A_t_whose A_t_whom A_t_tens A_t_had A_t_leaves A_t_apart A_t_stop A_t_restOf A_t_group A_t_along A_t_kept A_t_isKept c_t_foggy c_t_walkers c_t_sights c_t_padMany c_t_acts c_t_spent c_t_walks c_t_badAct c_t_badWhy c_t_keptAt c_t_isWriting c_t_where c_t_light c_t_apart) H locs → W p l e { frames := 2, cells := 0, slots := 0, locals := 44 } s m args below meth c H locs 0 0 Q (F0 m 18 ls [])) (hk : ∀ (x5 : Int32) (H : Heap) (locs : List Loc) (ls : Array Slot), k x5 = some r → lv_has ls 8 [(0, .ref A_t), (1, .int x1), (2, .int x2), (3, .int x3), (4, .int x4), (5, .int x5)] → wd_ G A s.heap (wl_X10_mostAlike G A_t A_t_steps A_t_wet A_t_where A_t_home A_t_light A_t_carries A_t_sightPlace A_t_sightLight A_t_pad A_t_act A_t_whose A_t_whom A_t_tens A_t_had A_t_leaves A_t_apart A_t_stop A_t_restOf A_t_group A_t_along A_t_kept A_t_isKept c_t_foggy c_t_walkers c_t_sights c_t_padMany c_t_acts c_t_spent c_t_walks c_t_badAct c_t_badWhy c_t_keptAt c_t_isWriting c_t_where c_t_light c_t_apart) H locs → W p l e { frames := 2, cells := 0, slots := 0, locals := 44 } s m args below meth c H locs 0 0 Q (F0 m 90 ls [])) (hf : fn_X10_mostAlike_j80 x6 s0 rc k = some r) {H : Heap} {locs : List Loc} {ls : Array Slot} (hl : lv_has ls 8 [(0, .ref A_t), (1, .int x1), (2, .int x2), (3, .int x3), (4, .int x4), (6, .int x6)]) (hw : wd_ G A s.heap (wl_X10_mostAlike G A_t A_t_steps A_t_wet A_t_where A_t_home A_t_light A_t_carries A_t_sightPlace A_t_sightLight A_t_pad A_t_act A_t_whose A_t_whom A_t_tens A_t_had A_t_leaves A_t_apart A_t_stop A_t_restOf A_t_group A_t_along A_t_kept A_t_isKept c_t_foggy c_t_walkers c_t_sights c_t_padMany c_t_acts c_t_spent c_t_walks c_t_badAct c_t_badWhy c_t_keptAt c_t_isWriting c_t_where c_t_light c_t_apart) H locs) : W p l e { frames := 2, cells := 0, slots := 0, locals := 44 } s m args below meth c H locs 0 0 Q (F0 m 80 ls [.int s0]) := by
  have hx := hC.1
  have hb := hC.2.1
  unfold fn_X10_mostAlike_j80 at hf
  refine lv_iconst (v := 0) hx hb dX10_mostAlike_80 (by decide) ?_
  refine lv_iadd hx hb dX10_mostAlike_81 ?_
  refine lv_istore (lv' := [(5, .int (s0 + 0)), (0, .ref A_t), (1, .int x1), (2, .int x2), (3, .int x3), (4, .int x4), (6, .int x6)]) hx hb dX10_mostAlike_82 hl (by decide) rfl (fun ls hl => ?_)
  refine lv_iinc (v := x6 + 1) (lv' := [(6, .int (x6 + 1)), (5, .int (s0 + 0)), (0, .ref A_t), (1, .int x1), (2, .int x2), (3, .int x3), (4, .int x4)]) hx hb dX10_mostAlike_84 hl (k := 6) rfl rfl (by decide) rfl (fun ls hl => ?_)
  refine lv_goto (tgt := 18) hx hb dX10_mostAlike_87 (by decide) ?_
  exact hrc (s0 + 0) (x6 + 1) _ _ _ hf (lv_sub hl [2, 3, 4, 5, 6, 1, 0] rfl) hw
set_option maxHeartbeats 4000000 in
set_option maxRecDepth 100000 in
theorem wn_X10_mostAlike_j50 {p : Program} {l : Launch} {e : Env} {s : State} {m : MethodId} {args : Array Value} {below : List Frame} {meth : Method} {c : Code} {G : gw_} {A : Nat → Prop} {Q : State → Prop} {A_t : Nat} {A_t_steps : Nat} {A_t_wet : Nat} {A_t_where : Nat} {A_t_home : Nat} {A_t_light : Nat} {A_t_carries : Nat} {A_t_sightPlace : Nat} {A_t_sightLight : Nat} {A_t_pad : Nat} {A_t_act : Nat} {A_t_whose : Nat} {A_t_whom : Nat} {A_t_tens : Nat} {A_t_had : Nat} {A_t_leaves : Nat} {A_t_apart : Nat} {A_t_stop : Nat} {A_t_restOf : Nat} {A_t_group : Nat} {A_t_along : Nat} {A_t_kept : Nat} {A_t_isKept : Nat} {c_t_foggy : Int32} {c_t_walkers : Int32} {c_t_sights : Int32} {c_t_padMany : Int32} {c_t_acts : Int32} {c_t_spent : Int32} {c_t_walks : Int32} {c_t_badAct : Int32} {c_t_badWhy : Int32} {c_t_keptAt : Int32} {c_t_isWriting : Int32} {c_t_where : Nat → Int32} {c_t_light : Nat → Int32} {c_t_apart : Nat → Int32} {r : Int32} {x1 : Int32} {x2 : Int32} {x3 : Int32} {x4 : Int32} {x5 : Int32} {x6 : Int32} {s0 : Int32} {rc : Int32 → Int32 → Option (Int32)} {k : Int32 → Option (Int32)} (hC : cx_ p s m c G cX10_mostAlike 8 RX10) (hret : ∀ (pc : Nat) (H : Heap) (locs : List Loc) (ls : Array Slot), decode cX10_mostAlike pc = .ok (.ireturn, 1) → wd_ G A s.heap (wl_X10_mostAlike G A_t A_t_steps A_t_wet A_t_where A_t_home A_t_light A_t_carries A_t_sightPlace A_t_sightLight A_t_pad A_t_act A_t_whose A_t_whom A_t_tens A_t_had A_t_leaves A_t_apart A_t_stop A_t_restOf A_t_group A_t_along A_t_kept A_t_isKept c_t_foggy c_t_walkers c_t_sights c_t_padMany c_t_acts c_t_spent c_t_walks c_t_badAct c_t_badWhy c_t_keptAt c_t_isWriting c_t_where c_t_light c_t_apart) H locs → W p l e { frames := 2, cells := 0, slots := 0, locals := 44 } s m args below meth c H locs 0 0 Q (F0 m pc ls [.int r])) (hrc : ∀ (x5 : Int32) (x6 : Int32) (H : Heap) (locs : List Loc) (ls : Array Slot), rc x5 x6 = some r → lv_has ls 8 [(0, .ref A_t), (1, .int x1), (2, .int x2), (3, .int x3), (4, .int x4), (5, .int x5), (6, .int x6)] → wd_ G A s.heap (wl_X10_mostAlike G A_t A_t_steps A_t_wet A_t_where A_t_home A_t_light A_t_carries A_t_sightPlace A_t_sightLight A_t_pad A_t_act A_t_whose A_t_whom A_t_tens A_t_had A_t_leaves A_t_apart A_t_stop A_t_restOf A_t_group A_t_along A_t_kept A_t_isKept c_t_foggy c_t_walkers c_t_sights c_t_padMany c_t_acts c_t_spent c_t_walks c_t_badAct c_t_badWhy c_t_keptAt c_t_isWriting c_t_where c_t_light c_t_apart) H locs → W p l e { frames := 2, cells := 0, slots := 0, locals := 44 } s m args below meth c H locs 0 0 Q (F0 m 18 ls [])) (hk : ∀ (x5 : Int32) (H : Heap) (locs : List Loc) (ls : Array Slot), k x5 = some r → lv_has ls 8 [(0, .ref A_t), (1, .int x1), (2, .int x2), (3, .int x3), (4, .int x4), (5, .int x5)] → wd_ G A s.heap (wl_X10_mostAlike G A_t A_t_steps A_t_wet A_t_where A_t_home A_t_light A_t_carries A_t_sightPlace A_t_sightLight A_t_pad A_t_act A_t_whose A_t_whom A_t_tens A_t_had A_t_leaves A_t_apart A_t_stop A_t_restOf A_t_group A_t_along A_t_kept A_t_isKept c_t_foggy c_t_walkers c_t_sights c_t_padMany c_t_acts c_t_spent c_t_walks c_t_badAct c_t_badWhy c_t_keptAt c_t_isWriting c_t_where c_t_light c_t_apart) H locs → W p l e { frames := 2, cells := 0, slots := 0, locals := 44 } s m args below meth c H locs 0 0 Q (F0 m 90 ls [])) (hf : fn_X10_mostAlike_j50 c_t_where c_t_light c_t_apart x2 x4 x5 x6 s0 rc k = some r) {H : Heap} {locs : List Loc} {ls : Array Slot} (hl : lv_has ls 8 [(0, .ref A_t), (1, .int x1), (2, .int x2), (3, .int x3), (4, .int x4), (5, .int x5), (6, .int x6)]) (hw : wd_ G A s.heap (wl_X10_mostAlike G A_t A_t_steps A_t_wet A_t_where A_t_home A_t_light A_t_carries A_t_sightPlace A_t_sightLight A_t_pad A_t_act A_t_whose A_t_whom A_t_tens A_t_had A_t_leaves A_t_apart A_t_stop A_t_restOf A_t_group A_t_along A_t_kept A_t_isKept c_t_foggy c_t_walkers c_t_sights c_t_padMany c_t_acts c_t_spent c_t_walks c_t_badAct c_t_badWhy c_t_keptAt c_t_isWriting c_t_where c_t_light c_t_apart) H locs) : W p l e { frames := 2, cells := 0, slots := 0, locals := 44 } s m args below meth c H locs 0 0 Q (F0 m 50 ls [.int s0]) := by
  have hx := hC.1
  have hb := hC.2.1
  unfold fn_X10_mostAlike_j50 at hf
  refine lv_istore (lv' := [(7, .int s0), (0, .ref A_t), (1, .int x1), (2, .int x2), (3, .int x3), (4, .int x4), (5, .int x5), (6, .int x6)]) hx hb dX10_mostAlike_50 hl (by decide) rfl (fun ls hl => ?_)
  refine lv_iload hx hb dX10_mostAlike_52 (lv_at hl 6 rfl) ?_
  refine lv_iload hx hb dX10_mostAlike_54 (lv_at hl 0 rfl) ?_
  refine lv_if_eq (tgt := 80) hx hb dX10_mostAlike_56 (by decide) (fun hc => ?_) (fun hc => ?_)
  · replace hf := it_t hc hf
    exact wn_X10_mostAlike_j80 hC hret hrc hk hf (lv_sub hl [1, 2, 3, 4, 5, 7] rfl) hw
  · replace hf := it_f hc hf
    refine lv_aload_n hx hb dX10_mostAlike_59 rfl (lv_at hl 1 rfl) ?_
    refine lv_iload hx hb dX10_mostAlike_60 (lv_at hl 5 rfl) ?_
    refine lv_iload_n hx hb dX10_mostAlike_62 rfl (lv_at hl 3 rfl) ?_
    obtain ⟨r1, hq2, hf⟩ := b1_s hf
    refine h_cVi hC hw mvX10_257 (cn_X10_leftAt l G A_t A_t_steps A_t_wet A_t_where A_t_home A_t_light A_t_carries A_t_sightPlace A_t_sightLight A_t_pad A_t_act A_t_whose A_t_whom A_t_tens A_t_had A_t_leaves A_t_apart A_t_stop A_t_restOf A_t_group A_t_along A_t_kept A_t_isKept c_t_foggy c_t_walkers c_t_sights c_t_padMany c_t_acts c_t_spent c_t_walks c_t_badAct c_t_badWhy c_t_keptAt c_t_isWriting c_t_where c_t_light c_t_apart x4 x2 r1 hq2) [0, 1, 2, 3] rfl (by decide) 0 rfl rfl rfl hl.1 rfl (Nat.le_of_ble_eq_true rfl) ⟨Nat.le_of_ble_eq_true rfl, Nat.le_of_ble_eq_true rfl⟩ ⟨Nat.le_refl _, Nat.le_refl _⟩ dX10_mostAlike_63 (fun H locs hw => ?_)
    refine lv_aload_n hx hb dX10_mostAlike_66 rfl (lv_at hl 1 rfl) ?_
    refine lv_iload hx hb dX10_mostAlike_67 (lv_at hl 7 rfl) ?_
    refine lv_iload_n hx hb dX10_mostAlike_69 rfl (lv_at hl 3 rfl) ?_
    obtain ⟨r3, hq4, hf⟩ := b1_s hf
    refine h_cVi hC hw mvX10_257 (cn_X10_leftAt l G A_t A_t_steps A_t_wet A_t_where A_t_home A_t_light A_t_carries A_t_sightPlace A_t_sightLight A_t_pad A_t_act A_t_whose A_t_whom A_t_tens A_t_had A_t_leaves A_t_apart A_t_stop A_t_restOf A_t_group A_t_along A_t_kept A_t_isKept c_t_foggy c_t_walkers c_t_sights c_t_padMany c_t_acts c_t_spent c_t_walks c_t_badAct c_t_badWhy c_t_keptAt c_t_isWriting c_t_where c_t_light c_t_apart x6 x2 r3 hq4) [0, 1, 2, 3] rfl (by decide) 0 rfl rfl rfl hl.1 rfl (Nat.le_of_ble_eq_true rfl) ⟨Nat.le_of_ble_eq_true rfl, Nat.le_of_ble_eq_true rfl⟩ ⟨Nat.le_refl _, Nat.le_refl _⟩ dX10_mostAlike_70 (fun H locs hw => ?_)
    refine lv_icmp_ne (tgt := 80) hx hb dX10_mostAlike_73 (by decide) (fun hc => ?_) (fun hc => ?_)
    · replace hf := it_f hc hf
      exact wn_X10_mostAlike_j80 hC hret hrc hk hf (lv_sub hl [1, 2, 3, 4, 5, 7] rfl) hw
    · replace hf := it_t hc hf
      refine lv_iconst (v := 1) hx hb dX10_mostAlike_76 (by decide) ?_
      refine lv_goto (tgt := 81) hx hb dX10_mostAlike_77 (by decide) ?_
      refine lv_iadd hx hb dX10_mostAlike_81 ?_
      refine lv_istore (lv' := [(5, .int (x5 + 1)), (7, .int s0), (0, .ref A_t), (1, .int x1), (2, .int x2), (3, .int x3), (4, .int x4), (6, .int x6)]) hx hb dX10_mostAlike_82 hl (by decide) rfl (fun ls hl => ?_)
      refine lv_iinc (v := x6 + 1) (lv' := [(6, .int (x6 + 1)), (5, .int (x5 + 1)), (7, .int s0), (0, .ref A_t), (1, .int x1), (2, .int x2), (3, .int x3), (4, .int x4)]) hx hb dX10_mostAlike_84 hl (k := 7) rfl rfl (by decide) rfl (fun ls hl => ?_)
      refine lv_goto (tgt := 18) hx hb dX10_mostAlike_87 (by decide) ?_
      exact hrc (x5 + 1) (x6 + 1) _ _ _ hf (lv_sub hl [3, 4, 5, 6, 7, 1, 0] rfl) hw
set_option maxHeartbeats 4000000 in
set_option maxRecDepth 100000 in
theorem wn_X10_mostAlike_j49 {p : Program} {l : Launch} {e : Env} {s : State} {m : MethodId} {args : Array Value} {below : List Frame} {meth : Method} {c : Code} {G : gw_} {A : Nat → Prop} {Q : State → Prop} {A_t : Nat} {A_t_steps : Nat} {A_t_wet : Nat} {A_t_where : Nat} {A_t_home : Nat} {A_t_light : Nat} {A_t_carries : Nat} {A_t_sightPlace : Nat} {A_t_sightLight : Nat} {A_t_pad : Nat} {A_t_act : Nat} {A_t_whose : Nat} {A_t_whom : Nat} {A_t_tens : Nat} {A_t_had : Nat} {A_t_leaves : Nat} {A_t_apart : Nat} {A_t_stop : Nat} {A_t_restOf : Nat} {A_t_group : Nat} {A_t_along : Nat} {A_t_kept : Nat} {A_t_isKept : Nat} {c_t_foggy : Int32} {c_t_walkers : Int32} {c_t_sights : Int32} {c_t_padMany : Int32} {c_t_acts : Int32} {c_t_spent : Int32} {c_t_walks : Int32} {c_t_badAct : Int32} {c_t_badWhy : Int32} {c_t_keptAt : Int32} {c_t_isWriting : Int32} {c_t_where : Nat → Int32} {c_t_light : Nat → Int32} {c_t_apart : Nat → Int32} {r : Int32} {x1 : Int32} {x2 : Int32} {x3 : Int32} {x4 : Int32} {x5 : Int32} {x6 : Int32} {rc : Int32 → Int32 → Option (Int32)} {k : Int32 → Option (Int32)} (hC : cx_ p s m c G cX10_mostAlike 8 RX10) (hret : ∀ (pc : Nat) (H : Heap) (locs : List Loc) (ls : Array Slot), decode cX10_mostAlike pc = .ok (.ireturn, 1) → wd_ G A s.heap (wl_X10_mostAlike G A_t A_t_steps A_t_wet A_t_where A_t_home A_t_light A_t_carries A_t_sightPlace A_t_sightLight A_t_pad A_t_act A_t_whose A_t_whom A_t_tens A_t_had A_t_leaves A_t_apart A_t_stop A_t_restOf A_t_group A_t_along A_t_kept A_t_isKept c_t_foggy c_t_walkers c_t_sights c_t_padMany c_t_acts c_t_spent c_t_walks c_t_badAct c_t_badWhy c_t_keptAt c_t_isWriting c_t_where c_t_light c_t_apart) H locs → W p l e { frames := 2, cells := 0, slots := 0, locals := 44 } s m args below meth c H locs 0 0 Q (F0 m pc ls [.int r])) (hrc : ∀ (x5 : Int32) (x6 : Int32) (H : Heap) (locs : List Loc) (ls : Array Slot), rc x5 x6 = some r → lv_has ls 8 [(0, .ref A_t), (1, .int x1), (2, .int x2), (3, .int x3), (4, .int x4), (5, .int x5), (6, .int x6)] → wd_ G A s.heap (wl_X10_mostAlike G A_t A_t_steps A_t_wet A_t_where A_t_home A_t_light A_t_carries A_t_sightPlace A_t_sightLight A_t_pad A_t_act A_t_whose A_t_whom A_t_tens A_t_had A_t_leaves A_t_apart A_t_stop A_t_restOf A_t_group A_t_along A_t_kept A_t_isKept c_t_foggy c_t_walkers c_t_sights c_t_padMany c_t_acts c_t_spent c_t_walks c_t_badAct c_t_badWhy c_t_keptAt c_t_isWriting c_t_where c_t_light c_t_apart) H locs → W p l e { frames := 2, cells := 0, slots := 0, locals := 44 } s m args below meth c H locs 0 0 Q (F0 m 18 ls [])) (hk : ∀ (x5 : Int32) (H : Heap) (locs : List Loc) (ls : Array Slot), k x5 = some r → lv_has ls 8 [(0, .ref A_t), (1, .int x1), (2, .int x2), (3, .int x3), (4, .int x4), (5, .int x5)] → wd_ G A s.heap (wl_X10_mostAlike G A_t A_t_steps A_t_wet A_t_where A_t_home A_t_light A_t_carries A_t_sightPlace A_t_sightLight A_t_pad A_t_act A_t_whose A_t_whom A_t_tens A_t_had A_t_leaves A_t_apart A_t_stop A_t_restOf A_t_group A_t_along A_t_kept A_t_isKept c_t_foggy c_t_walkers c_t_sights c_t_padMany c_t_acts c_t_spent c_t_walks c_t_badAct c_t_badWhy c_t_keptAt c_t_isWriting c_t_where c_t_light c_t_apart) H locs → W p l e { frames := 2, cells := 0, slots := 0, locals := 44 } s m args below meth c H locs 0 0 Q (F0 m 90 ls [])) (hf : fn_X10_mostAlike_j49 c_t_where c_t_light c_t_apart x2 x4 x5 x6 rc k = some r) {H : Heap} {locs : List Loc} {ls : Array Slot} (hl : lv_has ls 8 [(0, .ref A_t), (1, .int x1), (2, .int x2), (3, .int x3), (4, .int x4), (5, .int x5), (6, .int x6)]) (hw : wd_ G A s.heap (wl_X10_mostAlike G A_t A_t_steps A_t_wet A_t_where A_t_home A_t_light A_t_carries A_t_sightPlace A_t_sightLight A_t_pad A_t_act A_t_whose A_t_whom A_t_tens A_t_had A_t_leaves A_t_apart A_t_stop A_t_restOf A_t_group A_t_along A_t_kept A_t_isKept c_t_foggy c_t_walkers c_t_sights c_t_padMany c_t_acts c_t_spent c_t_walks c_t_badAct c_t_badWhy c_t_keptAt c_t_isWriting c_t_where c_t_light c_t_apart) H locs) : W p l e { frames := 2, cells := 0, slots := 0, locals := 44 } s m args below meth c H locs 0 0 Q (F0 m 49 ls []) := by
  have hx := hC.1
  have hb := hC.2.1
  unfold fn_X10_mostAlike_j49 at hf
  refine lv_iconst (v := 0) hx hb dX10_mostAlike_49 (by decide) ?_
  exact wn_X10_mostAlike_j50 hC hret hrc hk hf (lv_sub hl [0, 1, 2, 3, 4, 5, 6] rfl) hw
set_option maxHeartbeats 4000000 in
set_option maxRecDepth 100000 in
theorem wn_X10_mostAlike_l18 {p : Program} {l : Launch} {e : Env} {s : State} {m : MethodId} {args : Array Value} {below : List Frame} {meth : Method} {c : Code} {G : gw_} {A : Nat → Prop} {Q : State → Prop} {A_t : Nat} {A_t_steps : Nat} {A_t_wet : Nat} {A_t_where : Nat} {A_t_home : Nat} {A_t_light : Nat} {A_t_carries : Nat} {A_t_sightPlace : Nat} {A_t_sightLight : Nat} {A_t_pad : Nat} {A_t_act : Nat} {A_t_whose : Nat} {A_t_whom : Nat} {A_t_tens : Nat} {A_t_had : Nat} {A_t_leaves : Nat} {A_t_apart : Nat} {A_t_stop : Nat} {A_t_restOf : Nat} {A_t_group : Nat} {A_t_along : Nat} {A_t_kept : Nat} {A_t_isKept : Nat} {c_t_foggy : Int32} {c_t_walkers : Int32} {c_t_sights : Int32} {c_t_padMany : Int32} {c_t_acts : Int32} {c_t_spent : Int32} {c_t_walks : Int32} {c_t_badAct : Int32} {c_t_badWhy : Int32} {c_t_keptAt : Int32} {c_t_isWriting : Int32} {c_t_where : Nat → Int32} {c_t_light : Nat → Int32} {c_t_apart : Nat → Int32} {r : Int32} {x1 : Int32} {x2 : Int32} {x3 : Int32} {x4 : Int32} {k : Int32 → Option (Int32)} (hC : cx_ p s m c G cX10_mostAlike 8 RX10) (hret : ∀ (pc : Nat) (H : Heap) (locs : List Loc) (ls : Array Slot), decode cX10_mostAlike pc = .ok (.ireturn, 1) → wd_ G A s.heap (wl_X10_mostAlike G A_t A_t_steps A_t_wet A_t_where A_t_home A_t_light A_t_carries A_t_sightPlace A_t_sightLight A_t_pad A_t_act A_t_whose A_t_whom A_t_tens A_t_had A_t_leaves A_t_apart A_t_stop A_t_restOf A_t_group A_t_along A_t_kept A_t_isKept c_t_foggy c_t_walkers c_t_sights c_t_padMany c_t_acts c_t_spent c_t_walks c_t_badAct c_t_badWhy c_t_keptAt c_t_isWriting c_t_where c_t_light c_t_apart) H locs → W p l e { frames := 2, cells := 0, slots := 0, locals := 44 } s m args below meth c H locs 0 0 Q (F0 m pc ls [.int r])) (hk : ∀ (x5 : Int32) (H : Heap) (locs : List Loc) (ls : Array Slot), k x5 = some r → lv_has ls 8 [(0, .ref A_t), (1, .int x1), (2, .int x2), (3, .int x3), (4, .int x4), (5, .int x5)] → wd_ G A s.heap (wl_X10_mostAlike G A_t A_t_steps A_t_wet A_t_where A_t_home A_t_light A_t_carries A_t_sightPlace A_t_sightLight A_t_pad A_t_act A_t_whose A_t_whom A_t_tens A_t_had A_t_leaves A_t_apart A_t_stop A_t_restOf A_t_group A_t_along A_t_kept A_t_isKept c_t_foggy c_t_walkers c_t_sights c_t_padMany c_t_acts c_t_spent c_t_walks c_t_badAct c_t_badWhy c_t_keptAt c_t_isWriting c_t_where c_t_light c_t_apart) H locs → W p l e { frames := 2, cells := 0, slots := 0, locals := 44 } s m args below meth c H locs 0 0 Q (F0 m 90 ls [])) : ∀ (n : Nat) (x5 : Int32) (x6 : Int32) (H : Heap) (locs : List Loc) (ls : Array Slot), fn_X10_mostAlike_l18 c_t_where c_t_light c_t_apart x1 x2 x4 k n x5 x6 = some r → lv_has ls 8 [(0, .ref A_t), (1, .int x1), (2, .int x2), (3, .int x3), (4, .int x4), (5, .int x5), (6, .int x6)] → wd_ G A s.heap (wl_X10_mostAlike G A_t A_t_steps A_t_wet A_t_where A_t_home A_t_light A_t_carries A_t_sightPlace A_t_sightLight A_t_pad A_t_act A_t_whose A_t_whom A_t_tens A_t_had A_t_leaves A_t_apart A_t_stop A_t_restOf A_t_group A_t_along A_t_kept A_t_isKept c_t_foggy c_t_walkers c_t_sights c_t_padMany c_t_acts c_t_spent c_t_walks c_t_badAct c_t_badWhy c_t_keptAt c_t_isWriting c_t_where c_t_light c_t_apart) H locs → W p l e { frames := 2, cells := 0, slots := 0, locals := 44 } s m args below meth c H locs 0 0 Q (F0 m 18 ls []) := by
  have hx := hC.1
  have hb := hC.2.1
  intro n
  induction n with
  | zero =>
    intro x5 x6 H locs ls hf
    cases (show (none : Option (Int32)) = some _ from hf)
  | succ n hrc =>
    intro x5 x6 H locs ls hf hl hw
    replace hf : fn_X10_mostAlike_b18 c_t_where c_t_light c_t_apart x1 x2 x4 (fn_X10_mostAlike_l18 c_t_where c_t_light c_t_apart x1 x2 x4 k n) k x5 x6 = some r := hf
    unfold fn_X10_mostAlike_b18 at hf
    refine lv_iload hx hb dX10_mostAlike_18 (lv_at hl 6 rfl) ?_
    refine lv_bipush (v := 6) hx hb dX10_mostAlike_20 (by decide) ?_
    refine lv_icmp_ge (tgt := 90) hx hb dX10_mostAlike_22 (by decide) (fun hc => ?_) (fun hc => ?_)
    · replace hf := it_t hc hf
      exact hk x5 _ _ _ hf (lv_sub hl [0, 1, 2, 3, 4, 5] rfl) hw
    · replace hf := it_f hc hf
      refine lv_iload_n hx hb dX10_mostAlike_25 rfl (lv_at hl 1 rfl) ?_
      refine lv_iload hx hb dX10_mostAlike_26 (lv_at hl 4 rfl) ?_
      refine lv_ishr hx hb dX10_mostAlike_28 ?_
      refine lv_iconst (v := 1) hx hb dX10_mostAlike_29 (by decide) ?_
      refine lv_iand hx hb dX10_mostAlike_30 ?_
      refine lv_iconst (v := 1) hx hb dX10_mostAlike_31 (by decide) ?_
      refine lv_icmp_ne (tgt := 49) hx hb dX10_mostAlike_32 (by decide) (fun hc => ?_) (fun hc => ?_)
      · replace hf := it_f hc hf
        exact wn_X10_mostAlike_j49 hC hret hrc hk hf (lv_sub hl [0, 1, 2, 3, 4, 5, 6] rfl) hw
      · replace hf := it_t hc hf
        refine lv_iload_n hx hb dX10_mostAlike_35 rfl (lv_at hl 1 rfl) ?_
        refine lv_iload hx hb dX10_mostAlike_36 (lv_at hl 6 rfl) ?_
        refine lv_ishr hx hb dX10_mostAlike_38 ?_
        refine lv_iconst (v := 1) hx hb dX10_mostAlike_39 (by decide) ?_
        refine lv_iand hx hb dX10_mostAlike_40 ?_
        refine lv_iconst (v := 1) hx hb dX10_mostAlike_41 (by decide) ?_
        refine lv_icmp_ne (tgt := 49) hx hb dX10_mostAlike_42 (by decide) (fun hc => ?_) (fun hc => ?_)
        · replace hf := it_f hc hf
          exact wn_X10_mostAlike_j49 hC hret hrc hk hf (lv_sub hl [0, 1, 2, 3, 4, 5, 6] rfl) hw
        · replace hf := it_t hc hf
          refine lv_iconst (v := 1) hx hb dX10_mostAlike_45 (by decide) ?_
          refine lv_goto (tgt := 50) hx hb dX10_mostAlike_46 (by decide) ?_
          exact wn_X10_mostAlike_j50 hC hret hrc hk hf (lv_sub hl [0, 1, 2, 3, 4, 5, 6] rfl) hw
set_option maxHeartbeats 4000000 in
set_option maxRecDepth 100000 in
theorem wn_X10_mostAlike_l5 {p : Program} {l : Launch} {e : Env} {s : State} {m : MethodId} {args : Array Value} {below : List Frame} {meth : Method} {c : Code} {G : gw_} {A : Nat → Prop} {Q : State → Prop} {A_t : Nat} {A_t_steps : Nat} {A_t_wet : Nat} {A_t_where : Nat} {A_t_home : Nat} {A_t_light : Nat} {A_t_carries : Nat} {A_t_sightPlace : Nat} {A_t_sightLight : Nat} {A_t_pad : Nat} {A_t_act : Nat} {A_t_whose : Nat} {A_t_whom : Nat} {A_t_tens : Nat} {A_t_had : Nat} {A_t_leaves : Nat} {A_t_apart : Nat} {A_t_stop : Nat} {A_t_restOf : Nat} {A_t_group : Nat} {A_t_along : Nat} {A_t_kept : Nat} {A_t_isKept : Nat} {c_t_foggy : Int32} {c_t_walkers : Int32} {c_t_sights : Int32} {c_t_padMany : Int32} {c_t_acts : Int32} {c_t_spent : Int32} {c_t_walks : Int32} {c_t_badAct : Int32} {c_t_badWhy : Int32} {c_t_keptAt : Int32} {c_t_isWriting : Int32} {c_t_where : Nat → Int32} {c_t_light : Nat → Int32} {c_t_apart : Nat → Int32} {r : Int32} {x1 : Int32} {x2 : Int32} {k : Int32 → Option (Int32)} (hC : cx_ p s m c G cX10_mostAlike 8 RX10) (hret : ∀ (pc : Nat) (H : Heap) (locs : List Loc) (ls : Array Slot), decode cX10_mostAlike pc = .ok (.ireturn, 1) → wd_ G A s.heap (wl_X10_mostAlike G A_t A_t_steps A_t_wet A_t_where A_t_home A_t_light A_t_carries A_t_sightPlace A_t_sightLight A_t_pad A_t_act A_t_whose A_t_whom A_t_tens A_t_had A_t_leaves A_t_apart A_t_stop A_t_restOf A_t_group A_t_along A_t_kept A_t_isKept c_t_foggy c_t_walkers c_t_sights c_t_padMany c_t_acts c_t_spent c_t_walks c_t_badAct c_t_badWhy c_t_keptAt c_t_isWriting c_t_where c_t_light c_t_apart) H locs → W p l e { frames := 2, cells := 0, slots := 0, locals := 44 } s m args below meth c H locs 0 0 Q (F0 m pc ls [.int r])) (hk : ∀ (x3 : Int32) (H : Heap) (locs : List Loc) (ls : Array Slot), k x3 = some r → lv_has ls 8 [(3, .int x3)] → wd_ G A s.heap (wl_X10_mostAlike G A_t A_t_steps A_t_wet A_t_where A_t_home A_t_light A_t_carries A_t_sightPlace A_t_sightLight A_t_pad A_t_act A_t_whose A_t_whom A_t_tens A_t_had A_t_leaves A_t_apart A_t_stop A_t_restOf A_t_group A_t_along A_t_kept A_t_isKept c_t_foggy c_t_walkers c_t_sights c_t_padMany c_t_acts c_t_spent c_t_walks c_t_badAct c_t_badWhy c_t_keptAt c_t_isWriting c_t_where c_t_light c_t_apart) H locs → W p l e { frames := 2, cells := 0, slots := 0, locals := 44 } s m args below meth c H locs 0 0 Q (F0 m 109 ls [])) : ∀ (n : Nat) (x3 : Int32) (x4 : Int32) (H : Heap) (locs : List Loc) (ls : Array Slot), fn_X10_mostAlike_l5 c_t_where c_t_light c_t_apart x1 x2 k n x3 x4 = some r → lv_has ls 8 [(0, .ref A_t), (1, .int x1), (2, .int x2), (3, .int x3), (4, .int x4)] → wd_ G A s.heap (wl_X10_mostAlike G A_t A_t_steps A_t_wet A_t_where A_t_home A_t_light A_t_carries A_t_sightPlace A_t_sightLight A_t_pad A_t_act A_t_whose A_t_whom A_t_tens A_t_had A_t_leaves A_t_apart A_t_stop A_t_restOf A_t_group A_t_along A_t_kept A_t_isKept c_t_foggy c_t_walkers c_t_sights c_t_padMany c_t_acts c_t_spent c_t_walks c_t_badAct c_t_badWhy c_t_keptAt c_t_isWriting c_t_where c_t_light c_t_apart) H locs → W p l e { frames := 2, cells := 0, slots := 0, locals := 44 } s m args below meth c H locs 0 0 Q (F0 m 5 ls []) := by
  have hx := hC.1
  have hb := hC.2.1
  intro n
  induction n with
  | zero =>
    intro x3 x4 H locs ls hf
    cases (show (none : Option (Int32)) = some _ from hf)
  | succ n hrc =>
    intro x3 x4 H locs ls hf hl hw
    replace hf : fn_X10_mostAlike_b5 c_t_where c_t_light c_t_apart x1 x2 (fn_X10_mostAlike_l5 c_t_where c_t_light c_t_apart x1 x2 k n) k x3 x4 = some r := hf
    unfold fn_X10_mostAlike_b5 at hf
    refine lv_iload hx hb dX10_mostAlike_5 (lv_at hl 4 rfl) ?_
    refine lv_bipush (v := 6) hx hb dX10_mostAlike_7 (by decide) ?_
    refine lv_icmp_ge (tgt := 109) hx hb dX10_mostAlike_9 (by decide) (fun hc => ?_) (fun hc => ?_)
    · replace hf := it_t hc hf
      exact hk x3 _ _ _ hf (lv_sub hl [3] rfl) hw
    · replace hf := it_f hc hf
      refine lv_iconst (v := 0) hx hb dX10_mostAlike_12 (by decide) ?_
      refine lv_istore (lv' := [(5, .int 0), (0, .ref A_t), (1, .int x1), (2, .int x2), (3, .int x3), (4, .int x4)]) hx hb dX10_mostAlike_13 hl (by decide) rfl (fun ls hl => ?_)
      refine lv_iconst (v := 0) hx hb dX10_mostAlike_15 (by decide) ?_
      refine lv_istore (lv' := [(6, .int 0), (5, .int 0), (0, .ref A_t), (1, .int x1), (2, .int x2), (3, .int x3), (4, .int x4)]) hx hb dX10_mostAlike_16 hl (by decide) rfl (fun ls hl => ?_)
      refine wn_X10_mostAlike_l18 hC hret (fun v5 H locs ls hf hl hw => ?_) fu_ 0 0 _ _ _ hf (lv_sub hl [2, 3, 4, 5, 6, 1, 0] rfl) hw
      refine lv_iload hx hb dX10_mostAlike_90 (lv_at hl 5 rfl) ?_
      refine lv_iload_n hx hb dX10_mostAlike_92 rfl (lv_at hl 3 rfl) ?_
      refine lv_icmp_le (tgt := 101) hx hb dX10_mostAlike_93 (by decide) (fun hc => ?_) (fun hc => ?_)
      · replace hf := it_t hc hf
        refine lv_iload_n hx hb dX10_mostAlike_101 rfl (lv_at hl 3 rfl) ?_
        refine lv_istore_n (lv' := [(3, .int x3), (0, .ref A_t), (1, .int x1), (2, .int x2), (4, .int x4), (5, .int v5)]) hx hb dX10_mostAlike_102 rfl hl (by decide) rfl (fun ls hl => ?_)
        refine lv_iinc (v := x4 + 1) (lv' := [(4, .int (x4 + 1)), (3, .int x3), (0, .ref A_t), (1, .int x1), (2, .int x2), (5, .int v5)]) hx hb dX10_mostAlike_103 hl (k := 4) rfl rfl (by decide) rfl (fun ls hl => ?_)
        refine lv_goto (tgt := 5) hx hb dX10_mostAlike_106 (by decide) ?_
        exact hrc x3 (x4 + 1) _ _ _ hf (lv_sub hl [2, 3, 4, 1, 0] rfl) hw
      · replace hf := it_f hc hf
        refine lv_iload hx hb dX10_mostAlike_96 (lv_at hl 5 rfl) ?_
        refine lv_goto (tgt := 102) hx hb dX10_mostAlike_98 (by decide) ?_
        refine lv_istore_n (lv' := [(3, .int v5), (0, .ref A_t), (1, .int x1), (2, .int x2), (4, .int x4), (5, .int v5)]) hx hb dX10_mostAlike_102 rfl hl (by decide) rfl (fun ls hl => ?_)
        refine lv_iinc (v := x4 + 1) (lv' := [(4, .int (x4 + 1)), (3, .int v5), (0, .ref A_t), (1, .int x1), (2, .int x2), (5, .int v5)]) hx hb dX10_mostAlike_103 hl (k := 4) rfl rfl (by decide) rfl (fun ls hl => ?_)
        refine lv_goto (tgt := 5) hx hb dX10_mostAlike_106 (by decide) ?_
        exact hrc v5 (x4 + 1) _ _ _ hf (lv_sub hl [2, 3, 4, 1, 0] rfl) hw
set_option maxHeartbeats 4000000 in
set_option maxRecDepth 100000 in
theorem wn_X10_mostAlike {p : Program} {l : Launch} {e : Env} {s : State} {m : MethodId} {args : Array Value} {below : List Frame} {meth : Method} {c : Code} {G : gw_} {A : Nat → Prop} {Q : State → Prop} {A_t : Nat} {A_t_steps : Nat} {A_t_wet : Nat} {A_t_where : Nat} {A_t_home : Nat} {A_t_light : Nat} {A_t_carries : Nat} {A_t_sightPlace : Nat} {A_t_sightLight : Nat} {A_t_pad : Nat} {A_t_act : Nat} {A_t_whose : Nat} {A_t_whom : Nat} {A_t_tens : Nat} {A_t_had : Nat} {A_t_leaves : Nat} {A_t_apart : Nat} {A_t_stop : Nat} {A_t_restOf : Nat} {A_t_group : Nat} {A_t_along : Nat} {A_t_kept : Nat} {A_t_isKept : Nat} {c_t_foggy : Int32} {c_t_walkers : Int32} {c_t_sights : Int32} {c_t_padMany : Int32} {c_t_acts : Int32} {c_t_spent : Int32} {c_t_walks : Int32} {c_t_badAct : Int32} {c_t_badWhy : Int32} {c_t_keptAt : Int32} {c_t_isWriting : Int32} {c_t_where : Nat → Int32} {c_t_light : Nat → Int32} {c_t_apart : Nat → Int32} {r : Int32} {x1 : Int32} {x2 : Int32} (hC : cx_ p s m c G cX10_mostAlike 8 RX10) (hret : ∀ (pc : Nat) (H : Heap) (locs : List Loc) (ls : Array Slot), decode cX10_mostAlike pc = .ok (.ireturn, 1) → wd_ G A s.heap (wl_X10_mostAlike G A_t A_t_steps A_t_wet A_t_where A_t_home A_t_light A_t_carries A_t_sightPlace A_t_sightLight A_t_pad A_t_act A_t_whose A_t_whom A_t_tens A_t_had A_t_leaves A_t_apart A_t_stop A_t_restOf A_t_group A_t_along A_t_kept A_t_isKept c_t_foggy c_t_walkers c_t_sights c_t_padMany c_t_acts c_t_spent c_t_walks c_t_badAct c_t_badWhy c_t_keptAt c_t_isWriting c_t_where c_t_light c_t_apart) H locs → W p l e { frames := 2, cells := 0, slots := 0, locals := 44 } s m args below meth c H locs 0 0 Q (F0 m pc ls [.int r])) (hf : fn_X10_mostAlike c_t_where c_t_light c_t_apart x1 x2 = some r) {H : Heap} {locs : List Loc} {ls : Array Slot} (hl : lv_has ls 8 [(0, .ref A_t), (1, .int x1), (2, .int x2)]) (hw : wd_ G A s.heap (wl_X10_mostAlike G A_t A_t_steps A_t_wet A_t_where A_t_home A_t_light A_t_carries A_t_sightPlace A_t_sightLight A_t_pad A_t_act A_t_whose A_t_whom A_t_tens A_t_had A_t_leaves A_t_apart A_t_stop A_t_restOf A_t_group A_t_along A_t_kept A_t_isKept c_t_foggy c_t_walkers c_t_sights c_t_padMany c_t_acts c_t_spent c_t_walks c_t_badAct c_t_badWhy c_t_keptAt c_t_isWriting c_t_where c_t_light c_t_apart) H locs) : W p l e { frames := 2, cells := 0, slots := 0, locals := 44 } s m args below meth c H locs 0 0 Q (F0 m 0 ls []) := by
  have hx := hC.1
  have hb := hC.2.1
  unfold fn_X10_mostAlike at hf
  refine lv_iconst (v := 0) hx hb dX10_mostAlike_0 (by decide) ?_
  refine lv_istore_n (lv' := [(3, .int 0), (0, .ref A_t), (1, .int x1), (2, .int x2)]) hx hb dX10_mostAlike_1 rfl hl (by decide) rfl (fun ls hl => ?_)
  refine lv_iconst (v := 0) hx hb dX10_mostAlike_2 (by decide) ?_
  refine lv_istore (lv' := [(4, .int 0), (3, .int 0), (0, .ref A_t), (1, .int x1), (2, .int x2)]) hx hb dX10_mostAlike_3 hl (by decide) rfl (fun ls hl => ?_)
  refine wn_X10_mostAlike_l5 hC hret (fun v6 H locs ls hf hl hw => ?_) fu_ 0 0 _ _ _ hf (lv_sub hl [2, 3, 4, 1, 0] rfl) hw
  refine lv_iload_n hx hb dX10_mostAlike_109 rfl (lv_at hl 0 rfl) ?_
  have h1_ := t1_ hf
  subst h1_
  exact hret _ _ _ _ dX10_mostAlike_110 hw
set_option maxHeartbeats 4000000 in
set_option maxRecDepth 100000 in
theorem cn_X10_mostAlike (l : Launch) (G : gw_) (A_t : Nat) (A_t_steps : Nat) (A_t_wet : Nat) (A_t_where : Nat) (A_t_home : Nat) (A_t_light : Nat) (A_t_carries : Nat) (A_t_sightPlace : Nat) (A_t_sightLight : Nat) (A_t_pad : Nat) (A_t_act : Nat) (A_t_whose : Nat) (A_t_whom : Nat) (A_t_tens : Nat) (A_t_had : Nat) (A_t_leaves : Nat) (A_t_apart : Nat) (A_t_stop : Nat) (A_t_restOf : Nat) (A_t_group : Nat) (A_t_along : Nat) (A_t_kept : Nat) (A_t_isKept : Nat) (c_t_foggy : Int32) (c_t_walkers : Int32) (c_t_sights : Int32) (c_t_padMany : Int32) (c_t_acts : Int32) (c_t_spent : Int32) (c_t_walks : Int32) (c_t_badAct : Int32) (c_t_badWhy : Int32) (c_t_keptAt : Int32) (c_t_isWriting : Int32) (c_t_where : Nat → Int32) (c_t_light : Nat → Int32) (c_t_apart : Nat → Int32) (x1 : Int32) (x2 : Int32) (r : Int32) (hf : fn_X10_mostAlike c_t_where c_t_light c_t_apart x1 x2 = some r) : ci_ l G yX10_mostAlike cX10_mostAlike 8 (some .int) 2 44 (wl_X10_mostAlike G A_t A_t_steps A_t_wet A_t_where A_t_home A_t_light A_t_carries A_t_sightPlace A_t_sightLight A_t_pad A_t_act A_t_whose A_t_whom A_t_tens A_t_had A_t_leaves A_t_apart A_t_stop A_t_restOf A_t_group A_t_along A_t_kept A_t_isKept c_t_foggy c_t_walkers c_t_sights c_t_padMany c_t_acts c_t_spent c_t_walks c_t_badAct c_t_badWhy c_t_keptAt c_t_isWriting c_t_where c_t_light c_t_apart) [.ref A_t, .int x1, .int x2] r (wl_X10_mostAlike G A_t A_t_steps A_t_wet A_t_where A_t_home A_t_light A_t_carries A_t_sightPlace A_t_sightLight A_t_pad A_t_act A_t_whose A_t_whom A_t_tens A_t_had A_t_leaves A_t_apart A_t_stop A_t_restOf A_t_group A_t_along A_t_kept A_t_isKept c_t_foggy c_t_walkers c_t_sights c_t_padMany c_t_acts c_t_spent c_t_walks c_t_badAct c_t_badWhy c_t_keptAt c_t_isWriting c_t_where c_t_light c_t_apart) := fun sz => met_intro (by decide) (Nat.le_of_ble_eq_true rfl) (fun p e s m args below meth c ls hsz hC hr hlk hnm hl hw => wn_X10_mostAlike hC (fun pc H locs ls hd hw => g_iret hC hr hlk hw rfl rfl hd) hf hl hw)
