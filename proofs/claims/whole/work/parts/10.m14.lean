theorem dX10_give_0 : decode cX10_give 0 = .ok (.aload_n 0, 1) := by decide +kernel
theorem dX10_give_1 : decode cX10_give 1 = .ok (.getfield 22, 3) := by decide +kernel
theorem dX10_give_4 : decode cX10_give 4 = .ok (.iload_n 1, 1) := by decide +kernel
theorem dX10_give_5 : decode cX10_give 5 = .ok (.dup2, 1) := by decide +kernel
theorem dX10_give_6 : decode cX10_give 6 = .ok (.iaload, 1) := by decide +kernel
theorem dX10_give_7 : decode cX10_give 7 = .ok (.bipush 10, 2) := by decide +kernel
theorem dX10_give_9 : decode cX10_give 9 = .ok (.iload_n 3, 1) := by decide +kernel
theorem dX10_give_10 : decode cX10_give 10 = .ok (.imul, 1) := by decide +kernel
theorem dX10_give_11 : decode cX10_give 11 = .ok (.isub, 1) := by decide +kernel
theorem dX10_give_12 : decode cX10_give 12 = .ok (.iastore, 1) := by decide +kernel
theorem dX10_give_13 : decode cX10_give 13 = .ok (.aload_n 0, 1) := by decide +kernel
theorem dX10_give_14 : decode cX10_give 14 = .ok (.getfield 22, 3) := by decide +kernel
theorem dX10_give_17 : decode cX10_give 17 = .ok (.iload_n 2, 1) := by decide +kernel
theorem dX10_give_18 : decode cX10_give 18 = .ok (.aload_n 0, 1) := by decide +kernel
theorem dX10_give_19 : decode cX10_give 19 = .ok (.getfield 22, 3) := by decide +kernel
theorem dX10_give_22 : decode cX10_give 22 = .ok (.iload_n 2, 1) := by decide +kernel
theorem dX10_give_23 : decode cX10_give 23 = .ok (.iaload, 1) := by decide +kernel
theorem dX10_give_24 : decode cX10_give 24 = .ok (.bipush 10, 2) := by decide +kernel
theorem dX10_give_26 : decode cX10_give 26 = .ok (.iload_n 3, 1) := by decide +kernel
theorem dX10_give_27 : decode cX10_give 27 = .ok (.imul, 1) := by decide +kernel
theorem dX10_give_28 : decode cX10_give 28 = .ok (.iadd, 1) := by decide +kernel
theorem dX10_give_29 : decode cX10_give 29 = .ok (.sipush 999, 3) := by decide +kernel
theorem dX10_give_32 : decode cX10_give 32 = .ok (.if_icmp .le 9, 3) := by decide +kernel
theorem dX10_give_35 : decode cX10_give 35 = .ok (.sipush 999, 3) := by decide +kernel
theorem dX10_give_38 : decode cX10_give 38 = .ok (.goto 14, 3) := by decide +kernel
theorem dX10_give_41 : decode cX10_give 41 = .ok (.aload_n 0, 1) := by decide +kernel
theorem dX10_give_42 : decode cX10_give 42 = .ok (.getfield 22, 3) := by decide +kernel
theorem dX10_give_45 : decode cX10_give 45 = .ok (.iload_n 2, 1) := by decide +kernel
theorem dX10_give_46 : decode cX10_give 46 = .ok (.iaload, 1) := by decide +kernel
theorem dX10_give_47 : decode cX10_give 47 = .ok (.bipush 10, 2) := by decide +kernel
theorem dX10_give_49 : decode cX10_give 49 = .ok (.iload_n 3, 1) := by decide +kernel
theorem dX10_give_50 : decode cX10_give 50 = .ok (.imul, 1) := by decide +kernel
theorem dX10_give_51 : decode cX10_give 51 = .ok (.iadd, 1) := by decide +kernel
theorem dX10_give_52 : decode cX10_give 52 = .ok (.iastore, 1) := by decide +kernel
theorem dX10_give_53 : decode cX10_give 53 = .ok (.return_, 1) := by decide +kernel
abbrev wl_X10_give (G : gw_) (A_t : Nat) (A_t_steps : Nat) (A_t_wet : Nat) (A_t_where : Nat) (A_t_home : Nat) (A_t_light : Nat) (A_t_carries : Nat) (A_t_sightPlace : Nat) (A_t_sightLight : Nat) (A_t_pad : Nat) (A_t_act : Nat) (A_t_whose : Nat) (A_t_whom : Nat) (A_t_tens : Nat) (A_t_had : Nat) (A_t_leaves : Nat) (A_t_apart : Nat) (A_t_stop : Nat) (A_t_restOf : Nat) (A_t_group : Nat) (A_t_along : Nat) (A_t_kept : Nat) (A_t_isKept : Nat) (c_t_foggy : Int32) (c_t_walkers : Int32) (c_t_sights : Int32) (c_t_padMany : Int32) (c_t_acts : Int32) (c_t_spent : Int32) (c_t_walks : Int32) (c_t_badAct : Int32) (c_t_badWhy : Int32) (c_t_keptAt : Int32) (c_t_isWriting : Int32) (c_t_light : Nat → Int32) : va_W := [ob_ A_t 10 [.ref A_t_steps, .ref A_t_wet, .int c_t_foggy, .int c_t_walkers, .ref A_t_where, .ref A_t_home, .ref A_t_light, .ref A_t_carries, .ref A_t_sightPlace, .ref A_t_sightLight, .int c_t_sights, .ref A_t_pad, .int c_t_padMany, .ref A_t_act, .ref A_t_whose, .ref A_t_whom, .ref A_t_tens, .int c_t_acts, .int c_t_spent, .int c_t_walks, .ref A_t_had, .ref A_t_leaves, .int c_t_badAct, .int c_t_badWhy, .ref A_t_apart, .ref A_t_stop, .ref A_t_restOf, .ref A_t_group, .ref A_t_along, .ref A_t_kept, .ref A_t_isKept, .int c_t_keptAt, .int c_t_isWriting], ia_ G A_t_light 6 c_t_light]
def fn_X10_give (c_t_light : Nat → Int32) (x1 : Int32) (x2 : Int32) (x3 : Int32) : Option ((Nat → Int32)) :=
  ck_ x1 6 <|
  ck_ x1 6 <|
  lx_ (upd c_t_light (Int32.toNatClampNeg x1) ((c_t_light (Int32.toNatClampNeg x1)) - (10 * x3))) fun f1 =>
  ck_ x2 6 <|
  if ((f1 (Int32.toNatClampNeg x2)) + (10 * x3)) ≤ 999 then
    ck_ x2 6 <|
    ck_ x2 6 <|
    lx_ (upd f1 (Int32.toNatClampNeg x2) ((f1 (Int32.toNatClampNeg x2)) + (10 * x3))) fun f2 =>
    some f2
  else
    ck_ x2 6 <|
    lx_ (upd f1 (Int32.toNatClampNeg x2) 999) fun f3 =>
    some f3
set_option maxHeartbeats 4000000 in
set_option maxRecDepth 100000 in
theorem wn_X10_give {p : Program} {l : Launch} {e : Env} {s : State} {m : MethodId} {args : Array Value} {below : List Frame} {meth : Method} {c : Code} {G : gw_} {A : Nat → Prop} {Q : State → Prop} {A_t : Nat} {A_t_steps : Nat} {A_t_wet : Nat} {A_t_where : Nat} {A_t_home : Nat} {A_t_light : Nat} {A_t_carries : Nat} {A_t_sightPlace : Nat} {A_t_sightLight : Nat} {A_t_pad : Nat} {A_t_act : Nat} {A_t_whose : Nat} {A_t_whom : Nat} {A_t_tens : Nat} {A_t_had : Nat} {A_t_leaves : Nat} {A_t_apart : Nat} {A_t_stop : Nat} {A_t_restOf : Nat} {A_t_group : Nat} {A_t_along : Nat} {A_t_kept : Nat} {A_t_isKept : Nat} {c_t_foggy : Int32} {c_t_walkers : Int32} {c_t_sights : Int32} {c_t_padMany : Int32} {c_t_acts : Int32} {c_t_spent : Int32} {c_t_walks : Int32} {c_t_badAct : Int32} {c_t_badWhy : Int32} {c_t_keptAt : Int32} {c_t_isWriting : Int32} {c_t_light : Nat → Int32} {z_t_light : Nat → Int32} {x1 : Int32} {x2 : Int32} {x3 : Int32} (hC : cx_ p s m c G cX10_give 4 RX10) (hret : ∀ (pc : Nat) (H : Heap) (locs : List Loc) (ls : Array Slot), decode cX10_give pc = .ok (.return_, 1) → wd_ G A s.heap (wl_X10_give G A_t A_t_steps A_t_wet A_t_where A_t_home A_t_light A_t_carries A_t_sightPlace A_t_sightLight A_t_pad A_t_act A_t_whose A_t_whom A_t_tens A_t_had A_t_leaves A_t_apart A_t_stop A_t_restOf A_t_group A_t_along A_t_kept A_t_isKept c_t_foggy c_t_walkers c_t_sights c_t_padMany c_t_acts c_t_spent c_t_walks c_t_badAct c_t_badWhy c_t_keptAt c_t_isWriting z_t_light) H locs → W p l e { frames := 0, cells := 0, slots := 0, locals := 0 } s m args below meth c H locs 0 0 Q (F0 m pc ls [])) (hf : fn_X10_give c_t_light x1 x2 x3 = some z_t_light) {H : Heap} {locs : List Loc} {ls : Array Slot} (hl : lv_has ls 4 [(0, .ref A_t), (1, .int x1), (2, .int x2), (3, .int x3)]) (hw : wd_ G A s.heap (wl_X10_give G A_t A_t_steps A_t_wet A_t_where A_t_home A_t_light A_t_carries A_t_sightPlace A_t_sightLight A_t_pad A_t_act A_t_whose A_t_whom A_t_tens A_t_had A_t_leaves A_t_apart A_t_stop A_t_restOf A_t_group A_t_along A_t_kept A_t_isKept c_t_foggy c_t_walkers c_t_sights c_t_padMany c_t_acts c_t_spent c_t_walks c_t_badAct c_t_badWhy c_t_keptAt c_t_isWriting c_t_light) H locs) : W p l e { frames := 0, cells := 0, slots := 0, locals := 0 } s m args below meth c H locs 0 0 Q (F0 m 0 ls []) := by
  have hx := hC.1
  have hb := hC.2.1
  unfold fn_X10_give at hf
  refine lv_aload_n hx hb dX10_give_0 rfl (lv_at hl 0 rfl) ?_
  refine g_get hC hw fkX10_22 0 rfl rfl dX10_give_1 ?_
  refine lv_iload_n hx hb dX10_give_4 rfl (lv_at hl 1 rfl) ?_
  refine lv_dup2_11 hx hb dX10_give_5 rfl rfl ?_
  obtain ⟨hi, hf⟩ := ck_s hf
  refine g_iald hC hw 1 rfl hi dX10_give_6 ?_
  refine lv_bipush (v := 10) hx hb dX10_give_7 (by decide) ?_
  refine lv_iload_n hx hb dX10_give_9 rfl (lv_at hl 3 rfl) ?_
  refine lv_imul hx hb dX10_give_10 ?_
  refine lv_isub hx hb dX10_give_11 ?_
  obtain ⟨hi, hf⟩ := ck_s hf
  obtain ⟨f1, ef1, hf⟩ := lx_s hf
  refine g_iast hC hw 1 rfl hi ef1 dX10_give_12 (fun H locs hw => ?_)
  have hw : wd_ G A s.heap (wl_X10_give G A_t A_t_steps A_t_wet A_t_where A_t_home A_t_light A_t_carries A_t_sightPlace A_t_sightLight A_t_pad A_t_act A_t_whose A_t_whom A_t_tens A_t_had A_t_leaves A_t_apart A_t_stop A_t_restOf A_t_group A_t_along A_t_kept A_t_isKept c_t_foggy c_t_walkers c_t_sights c_t_padMany c_t_acts c_t_spent c_t_walks c_t_badAct c_t_badWhy c_t_keptAt c_t_isWriting f1) H locs := hw
  refine lv_aload_n hx hb dX10_give_13 rfl (lv_at hl 0 rfl) ?_
  refine g_get hC hw fkX10_22 0 rfl rfl dX10_give_14 ?_
  refine lv_iload_n hx hb dX10_give_17 rfl (lv_at hl 2 rfl) ?_
  refine lv_aload_n hx hb dX10_give_18 rfl (lv_at hl 0 rfl) ?_
  refine g_get hC hw fkX10_22 0 rfl rfl dX10_give_19 ?_
  refine lv_iload_n hx hb dX10_give_22 rfl (lv_at hl 2 rfl) ?_
  obtain ⟨hi, hf⟩ := ck_s hf
  refine g_iald hC hw 1 rfl hi dX10_give_23 ?_
  refine lv_bipush (v := 10) hx hb dX10_give_24 (by decide) ?_
  refine lv_iload_n hx hb dX10_give_26 rfl (lv_at hl 3 rfl) ?_
  refine lv_imul hx hb dX10_give_27 ?_
  refine lv_iadd hx hb dX10_give_28 ?_
  refine lv_sipush (v := 999) hx hb dX10_give_29 (by decide) ?_
  refine lv_icmp_le (tgt := 41) hx hb dX10_give_32 (by decide) (fun hc => ?_) (fun hc => ?_)
  · replace hf := it_t hc hf
    refine lv_aload_n hx hb dX10_give_41 rfl (lv_at hl 0 rfl) ?_
    refine g_get hC hw fkX10_22 0 rfl rfl dX10_give_42 ?_
    refine lv_iload_n hx hb dX10_give_45 rfl (lv_at hl 2 rfl) ?_
    obtain ⟨hi, hf⟩ := ck_s hf
    refine g_iald hC hw 1 rfl hi dX10_give_46 ?_
    refine lv_bipush (v := 10) hx hb dX10_give_47 (by decide) ?_
    refine lv_iload_n hx hb dX10_give_49 rfl (lv_at hl 3 rfl) ?_
    refine lv_imul hx hb dX10_give_50 ?_
    refine lv_iadd hx hb dX10_give_51 ?_
    obtain ⟨hi, hf⟩ := ck_s hf
    obtain ⟨f2, ef2, hf⟩ := lx_s hf
    refine g_iast hC hw 1 rfl hi ef2 dX10_give_52 (fun H locs hw => ?_)
    have hw : wd_ G A s.heap (wl_X10_give G A_t A_t_steps A_t_wet A_t_where A_t_home A_t_light A_t_carries A_t_sightPlace A_t_sightLight A_t_pad A_t_act A_t_whose A_t_whom A_t_tens A_t_had A_t_leaves A_t_apart A_t_stop A_t_restOf A_t_group A_t_along A_t_kept A_t_isKept c_t_foggy c_t_walkers c_t_sights c_t_padMany c_t_acts c_t_spent c_t_walks c_t_badAct c_t_badWhy c_t_keptAt c_t_isWriting f2) H locs := hw
    have h1_ := t1_ hf
    subst h1_
    exact hret _ _ _ _ dX10_give_53 hw
  · replace hf := it_f hc hf
    refine lv_sipush (v := 999) hx hb dX10_give_35 (by decide) ?_
    refine lv_goto (tgt := 52) hx hb dX10_give_38 (by decide) ?_
    obtain ⟨hi, hf⟩ := ck_s hf
    obtain ⟨f3, ef3, hf⟩ := lx_s hf
    refine g_iast hC hw 1 rfl hi ef3 dX10_give_52 (fun H locs hw => ?_)
    have hw : wd_ G A s.heap (wl_X10_give G A_t A_t_steps A_t_wet A_t_where A_t_home A_t_light A_t_carries A_t_sightPlace A_t_sightLight A_t_pad A_t_act A_t_whose A_t_whom A_t_tens A_t_had A_t_leaves A_t_apart A_t_stop A_t_restOf A_t_group A_t_along A_t_kept A_t_isKept c_t_foggy c_t_walkers c_t_sights c_t_padMany c_t_acts c_t_spent c_t_walks c_t_badAct c_t_badWhy c_t_keptAt c_t_isWriting f3) H locs := hw
    have h1_ := t1_ hf
    subst h1_
    exact hret _ _ _ _ dX10_give_53 hw
set_option maxHeartbeats 4000000 in
set_option maxRecDepth 100000 in
theorem cn_X10_give (l : Launch) (G : gw_) (A_t : Nat) (A_t_steps : Nat) (A_t_wet : Nat) (A_t_where : Nat) (A_t_home : Nat) (A_t_light : Nat) (A_t_carries : Nat) (A_t_sightPlace : Nat) (A_t_sightLight : Nat) (A_t_pad : Nat) (A_t_act : Nat) (A_t_whose : Nat) (A_t_whom : Nat) (A_t_tens : Nat) (A_t_had : Nat) (A_t_leaves : Nat) (A_t_apart : Nat) (A_t_stop : Nat) (A_t_restOf : Nat) (A_t_group : Nat) (A_t_along : Nat) (A_t_kept : Nat) (A_t_isKept : Nat) (c_t_foggy : Int32) (c_t_walkers : Int32) (c_t_sights : Int32) (c_t_padMany : Int32) (c_t_acts : Int32) (c_t_spent : Int32) (c_t_walks : Int32) (c_t_badAct : Int32) (c_t_badWhy : Int32) (c_t_keptAt : Int32) (c_t_isWriting : Int32) (c_t_light : Nat → Int32) (x1 : Int32) (x2 : Int32) (x3 : Int32) (z_t_light : Nat → Int32) (hf : fn_X10_give c_t_light x1 x2 x3 = some z_t_light) : cv_ l G yX10_give cX10_give 4 none 0 0 (wl_X10_give G A_t A_t_steps A_t_wet A_t_where A_t_home A_t_light A_t_carries A_t_sightPlace A_t_sightLight A_t_pad A_t_act A_t_whose A_t_whom A_t_tens A_t_had A_t_leaves A_t_apart A_t_stop A_t_restOf A_t_group A_t_along A_t_kept A_t_isKept c_t_foggy c_t_walkers c_t_sights c_t_padMany c_t_acts c_t_spent c_t_walks c_t_badAct c_t_badWhy c_t_keptAt c_t_isWriting c_t_light) [.ref A_t, .int x1, .int x2, .int x3] (wl_X10_give G A_t A_t_steps A_t_wet A_t_where A_t_home A_t_light A_t_carries A_t_sightPlace A_t_sightLight A_t_pad A_t_act A_t_whose A_t_whom A_t_tens A_t_had A_t_leaves A_t_apart A_t_stop A_t_restOf A_t_group A_t_along A_t_kept A_t_isKept c_t_foggy c_t_walkers c_t_sights c_t_padMany c_t_acts c_t_spent c_t_walks c_t_badAct c_t_badWhy c_t_keptAt c_t_isWriting z_t_light) := fun sz => met_intro (by decide) (Nat.le_of_ble_eq_true rfl) (fun p e s m args below meth c ls hsz hC hr hlk hnm hl hw => wn_X10_give hC (fun pc H locs ls hd hw => g_vret hC hr hlk hw hd) hf hl hw)

theorem dX10_happen_0 : decode cX10_happen 0 = .ok (.iload_n 1, 1) := by decide +kernel
theorem dX10_happen_1 : decode cX10_happen 1 = .ok (.tableswitch 72 0 3 #[31, 40, 50, 61], 31) := by decide +kernel
theorem dX10_happen_32 : decode cX10_happen 32 = .ok (.aload_n 0, 1) := by decide +kernel
theorem dX10_happen_33 : decode cX10_happen 33 = .ok (.iload_n 2, 1) := by decide +kernel
theorem dX10_happen_34 : decode cX10_happen 34 = .ok (.iload_n 3, 1) := by decide +kernel
theorem dX10_happen_35 : decode cX10_happen 35 = .ok (.invokevirtual 172, 3) := by decide +kernel
theorem dX10_happen_38 : decode cX10_happen 38 = .ok (.goto 45, 3) := by decide +kernel
theorem dX10_happen_41 : decode cX10_happen 41 = .ok (.aload_n 0, 1) := by decide +kernel
theorem dX10_happen_42 : decode cX10_happen 42 = .ok (.getfield 25, 3) := by decide +kernel
theorem dX10_happen_45 : decode cX10_happen 45 = .ok (.iload_n 2, 1) := by decide +kernel
theorem dX10_happen_46 : decode cX10_happen 46 = .ok (.iload_n 3, 1) := by decide +kernel
theorem dX10_happen_47 : decode cX10_happen 47 = .ok (.iastore, 1) := by decide +kernel
theorem dX10_happen_48 : decode cX10_happen 48 = .ok (.goto 35, 3) := by decide +kernel
theorem dX10_happen_51 : decode cX10_happen 51 = .ok (.aload_n 0, 1) := by decide +kernel
theorem dX10_happen_52 : decode cX10_happen 52 = .ok (.getfield 25, 3) := by decide +kernel
theorem dX10_happen_55 : decode cX10_happen 55 = .ok (.iload_n 2, 1) := by decide +kernel
theorem dX10_happen_56 : decode cX10_happen 56 = .ok (.bipush (-6), 2) := by decide +kernel
theorem dX10_happen_58 : decode cX10_happen 58 = .ok (.iastore, 1) := by decide +kernel
theorem dX10_happen_59 : decode cX10_happen 59 = .ok (.goto 24, 3) := by decide +kernel
theorem dX10_happen_62 : decode cX10_happen 62 = .ok (.aload_n 0, 1) := by decide +kernel
theorem dX10_happen_63 : decode cX10_happen 63 = .ok (.iload_n 2, 1) := by decide +kernel
theorem dX10_happen_64 : decode cX10_happen 64 = .ok (.iload_n 3, 1) := by decide +kernel
theorem dX10_happen_65 : decode cX10_happen 65 = .ok (.iload 4, 2) := by decide +kernel
theorem dX10_happen_67 : decode cX10_happen 67 = .ok (.invokevirtual 176, 3) := by decide +kernel
theorem dX10_happen_70 : decode cX10_happen 70 = .ok (.goto 13, 3) := by decide +kernel
theorem dX10_happen_73 : decode cX10_happen 73 = .ok (.aload_n 0, 1) := by decide +kernel
theorem dX10_happen_74 : decode cX10_happen 74 = .ok (.iconst 1, 1) := by decide +kernel
theorem dX10_happen_75 : decode cX10_happen 75 = .ok (.aload_n 0, 1) := by decide +kernel
theorem dX10_happen_76 : decode cX10_happen 76 = .ok (.getfield 93, 3) := by decide +kernel
theorem dX10_happen_79 : decode cX10_happen 79 = .ok (.isub, 1) := by decide +kernel
theorem dX10_happen_80 : decode cX10_happen 80 = .ok (.putfield 93, 3) := by decide +kernel
theorem dX10_happen_83 : decode cX10_happen 83 = .ok (.return_, 1) := by decide +kernel
abbrev wl_X10_happen (G : gw_) (A_t : Nat) (A_t_steps : Nat) (A_t_wet : Nat) (A_t_where : Nat) (A_t_home : Nat) (A_t_light : Nat) (A_t_carries : Nat) (A_t_sightPlace : Nat) (A_t_sightLight : Nat) (A_t_pad : Nat) (A_t_act : Nat) (A_t_whose : Nat) (A_t_whom : Nat) (A_t_tens : Nat) (A_t_had : Nat) (A_t_leaves : Nat) (A_t_apart : Nat) (A_t_stop : Nat) (A_t_restOf : Nat) (A_t_group : Nat) (A_t_along : Nat) (A_t_kept : Nat) (A_t_isKept : Nat) (c_t_foggy : Int32) (c_t_walkers : Int32) (c_t_sights : Int32) (c_t_padMany : Int32) (c_t_acts : Int32) (c_t_spent : Int32) (c_t_walks : Int32) (c_t_badAct : Int32) (c_t_badWhy : Int32) (c_t_keptAt : Int32) (c_t_isWriting : Int32) (c_t_steps : Nat → Int32) (c_t_wet : Nat → Int32) (c_t_where : Nat → Int32) (c_t_light : Nat → Int32) (c_t_carries : Nat → Int32) : va_W := [ob_ A_t 10 [.ref A_t_steps, .ref A_t_wet, .int c_t_foggy, .int c_t_walkers, .ref A_t_where, .ref A_t_home, .ref A_t_light, .ref A_t_carries, .ref A_t_sightPlace, .ref A_t_sightLight, .int c_t_sights, .ref A_t_pad, .int c_t_padMany, .ref A_t_act, .ref A_t_whose, .ref A_t_whom, .ref A_t_tens, .int c_t_acts, .int c_t_spent, .int c_t_walks, .ref A_t_had, .ref A_t_leaves, .int c_t_badAct, .int c_t_badWhy, .ref A_t_apart, .ref A_t_stop, .ref A_t_restOf, .ref A_t_group, .ref A_t_along, .ref A_t_kept, .ref A_t_isKept, .int c_t_keptAt, .int c_t_isWriting], ia_ G A_t_steps 144 c_t_steps, ia_ G A_t_wet 144 c_t_wet, ia_ G A_t_where 6 c_t_where, ia_ G A_t_light 6 c_t_light, ia_ G A_t_carries 6 c_t_carries]
def fn_X10_happen (c_t_foggy : Int32) (c_t_spent : Int32) (c_t_walks : Int32) (c_t_steps : Nat → Int32) (c_t_wet : Nat → Int32) (c_t_where : Nat → Int32) (c_t_light : Nat → Int32) (c_t_carries : Nat → Int32) (x1 : Int32) (x2 : Int32) (x3 : Int32) (x4 : Int32) : Option (Int32 × Int32 × Int32 × (Nat → Int32) × (Nat → Int32) × (Nat → Int32)) :=
  if x1 = 0 then
    b4_ (fn_X10_walk c_t_foggy c_t_spent c_t_walks c_t_steps c_t_wet c_t_where c_t_light c_t_carries x2 x3) fun w1 w2 w3 w4 =>
    some (c_t_foggy, w1, w2, w3, w4, c_t_carries)
  else if x1 = 1 then
    ck_ x2 6 <|
    lx_ (upd c_t_carries (Int32.toNatClampNeg x2) x3) fun f6 =>
    some (c_t_foggy, c_t_spent, c_t_walks, c_t_where, c_t_light, f6)
  else if x1 = 2 then
    ck_ x2 6 <|
    lx_ (upd c_t_carries (Int32.toNatClampNeg x2) (-6)) fun f7 =>
    some (c_t_foggy, c_t_spent, c_t_walks, c_t_where, c_t_light, f7)
  else if x1 = 3 then
    b1_ (fn_X10_give c_t_light x2 x3 x4) fun w8 =>
    some (c_t_foggy, c_t_spent, c_t_walks, c_t_where, w8, c_t_carries)
  else 
    some (1 - c_t_foggy, c_t_spent, c_t_walks, c_t_where, c_t_light, c_t_carries)
set_option maxHeartbeats 4000000 in
set_option maxRecDepth 100000 in
theorem wn_X10_happen {p : Program} {l : Launch} {e : Env} {s : State} {m : MethodId} {args : Array Value} {below : List Frame} {meth : Method} {c : Code} {G : gw_} {A : Nat → Prop} {Q : State → Prop} {A_t : Nat} {A_t_steps : Nat} {A_t_wet : Nat} {A_t_where : Nat} {A_t_home : Nat} {A_t_light : Nat} {A_t_carries : Nat} {A_t_sightPlace : Nat} {A_t_sightLight : Nat} {A_t_pad : Nat} {A_t_act : Nat} {A_t_whose : Nat} {A_t_whom : Nat} {A_t_tens : Nat} {A_t_had : Nat} {A_t_leaves : Nat} {A_t_apart : Nat} {A_t_stop : Nat} {A_t_restOf : Nat} {A_t_group : Nat} {A_t_along : Nat} {A_t_kept : Nat} {A_t_isKept : Nat} {c_t_foggy : Int32} {z_t_foggy : Int32} {c_t_walkers : Int32} {c_t_sights : Int32} {c_t_padMany : Int32} {c_t_acts : Int32} {c_t_spent : Int32} {z_t_spent : Int32} {c_t_walks : Int32} {z_t_walks : Int32} {c_t_badAct : Int32} {c_t_badWhy : Int32} {c_t_keptAt : Int32} {c_t_isWriting : Int32} {c_t_steps : Nat → Int32} {c_t_wet : Nat → Int32} {c_t_where : Nat → Int32} {z_t_where : Nat → Int32} {c_t_light : Nat → Int32} {z_t_light : Nat → Int32} {c_t_carries : Nat → Int32} {z_t_carries : Nat → Int32} {x1 : Int32} {x2 : Int32} {x3 : Int32} {x4 : Int32} (hC : cx_ p s m c G cX10_happen 5 RX10) (hret : ∀ (pc : Nat) (H : Heap) (locs : List Loc) (ls : Array Slot), decode cX10_happen pc = .ok (.return_, 1) → wd_ G A s.heap (wl_X10_happen G A_t A_t_steps A_t_wet A_t_where A_t_home A_t_light A_t_carries A_t_sightPlace A_t_sightLight A_t_pad A_t_act A_t_whose A_t_whom A_t_tens A_t_had A_t_leaves A_t_apart A_t_stop A_t_restOf A_t_group A_t_along A_t_kept A_t_isKept z_t_foggy c_t_walkers c_t_sights c_t_padMany c_t_acts z_t_spent z_t_walks c_t_badAct c_t_badWhy c_t_keptAt c_t_isWriting c_t_steps c_t_wet z_t_where z_t_light z_t_carries) H locs → W p l e { frames := 4, cells := 0, slots := 0, locals := 90 } s m args below meth c H locs 0 0 Q (F0 m pc ls [])) (hf : fn_X10_happen c_t_foggy c_t_spent c_t_walks c_t_steps c_t_wet c_t_where c_t_light c_t_carries x1 x2 x3 x4 = some (z_t_foggy, z_t_spent, z_t_walks, z_t_where, z_t_light, z_t_carries)) {H : Heap} {locs : List Loc} {ls : Array Slot} (hl : lv_has ls 5 [(0, .ref A_t), (1, .int x1), (2, .int x2), (3, .int x3), (4, .int x4)]) (hw : wd_ G A s.heap (wl_X10_happen G A_t A_t_steps A_t_wet A_t_where A_t_home A_t_light A_t_carries A_t_sightPlace A_t_sightLight A_t_pad A_t_act A_t_whose A_t_whom A_t_tens A_t_had A_t_leaves A_t_apart A_t_stop A_t_restOf A_t_group A_t_along A_t_kept A_t_isKept c_t_foggy c_t_walkers c_t_sights c_t_padMany c_t_acts c_t_spent c_t_walks c_t_badAct c_t_badWhy c_t_keptAt c_t_isWriting c_t_steps c_t_wet c_t_where c_t_light c_t_carries) H locs) : W p l e { frames := 4, cells := 0, slots := 0, locals := 90 } s m args below meth c H locs 0 0 Q (F0 m 0 ls []) := by
  have hx := hC.1
  have hb := hC.2.1
  unfold fn_X10_happen at hf
  refine lv_iload_n hx hb dX10_happen_0 rfl (lv_at hl 1 rfl) ?_
  by_cases hc0 : x1 = 0
  · replace hf := it_t hc0 hf
    refine lv_tableIn (tgt := 32) hx hb dX10_happen_1 (by rw [hc0]; decide) (by rw [hc0]; decide) (off := 31) (by rw [hc0]; rfl) (by decide) ?_
    refine lv_aload_n hx hb dX10_happen_32 rfl (lv_at hl 0 rfl) ?_
    refine lv_iload_n hx hb dX10_happen_33 rfl (lv_at hl 2 rfl) ?_
    refine lv_iload_n hx hb dX10_happen_34 rfl (lv_at hl 3 rfl) ?_
    obtain ⟨w1, w2, w3, w4, hq5, hf⟩ := b4_s hf
    refine g_cVv hC hw mvX10_172 (cn_X10_walk l G A_t A_t_steps A_t_wet A_t_where A_t_home A_t_light A_t_carries A_t_sightPlace A_t_sightLight A_t_pad A_t_act A_t_whose A_t_whom A_t_tens A_t_had A_t_leaves A_t_apart A_t_stop A_t_restOf A_t_group A_t_along A_t_kept A_t_isKept c_t_foggy c_t_walkers c_t_sights c_t_padMany c_t_acts c_t_spent c_t_walks c_t_badAct c_t_badWhy c_t_keptAt c_t_isWriting c_t_steps c_t_wet c_t_where c_t_light c_t_carries x2 x3 w1 w2 w3 w4 hq5) [0, 1, 2, 3, 4, 5] rfl (by decide) rfl 0 rfl rfl rfl hl.1 rfl (Nat.le_of_ble_eq_true rfl) ⟨Nat.le_of_ble_eq_true rfl, Nat.le_of_ble_eq_true rfl⟩ ⟨Nat.le_refl _, Nat.le_refl _⟩ dX10_happen_35 (fun H locs hw => ?_)
    have hw : wd_ G A s.heap (wl_X10_happen G A_t A_t_steps A_t_wet A_t_where A_t_home A_t_light A_t_carries A_t_sightPlace A_t_sightLight A_t_pad A_t_act A_t_whose A_t_whom A_t_tens A_t_had A_t_leaves A_t_apart A_t_stop A_t_restOf A_t_group A_t_along A_t_kept A_t_isKept c_t_foggy c_t_walkers c_t_sights c_t_padMany c_t_acts w1 w2 c_t_badAct c_t_badWhy c_t_keptAt c_t_isWriting c_t_steps c_t_wet w3 w4 c_t_carries) H locs := hw
    refine lv_goto (tgt := 83) hx hb dX10_happen_38 (by decide) ?_
    obtain ⟨h1_, h2_, h3_, h4_, h5_, h6_⟩ := t6_ hf
    subst h1_
    subst h2_
    subst h3_
    subst h4_
    subst h5_
    subst h6_
    exact hret _ _ _ _ dX10_happen_83 hw
  · replace hf := it_f hc0 hf
    by_cases hc1 : x1 = 1
    · replace hf := it_t hc1 hf
      refine lv_tableIn (tgt := 41) hx hb dX10_happen_1 (by rw [hc1]; decide) (by rw [hc1]; decide) (off := 40) (by rw [hc1]; rfl) (by decide) ?_
      refine lv_aload_n hx hb dX10_happen_41 rfl (lv_at hl 0 rfl) ?_
      refine g_get hC hw fkX10_25 0 rfl rfl dX10_happen_42 ?_
      refine lv_iload_n hx hb dX10_happen_45 rfl (lv_at hl 2 rfl) ?_
      refine lv_iload_n hx hb dX10_happen_46 rfl (lv_at hl 3 rfl) ?_
      obtain ⟨hi, hf⟩ := ck_s hf
      obtain ⟨f6, ef6, hf⟩ := lx_s hf
      refine g_iast hC hw 5 rfl hi ef6 dX10_happen_47 (fun H locs hw => ?_)
      have hw : wd_ G A s.heap (wl_X10_happen G A_t A_t_steps A_t_wet A_t_where A_t_home A_t_light A_t_carries A_t_sightPlace A_t_sightLight A_t_pad A_t_act A_t_whose A_t_whom A_t_tens A_t_had A_t_leaves A_t_apart A_t_stop A_t_restOf A_t_group A_t_along A_t_kept A_t_isKept c_t_foggy c_t_walkers c_t_sights c_t_padMany c_t_acts c_t_spent c_t_walks c_t_badAct c_t_badWhy c_t_keptAt c_t_isWriting c_t_steps c_t_wet c_t_where c_t_light f6) H locs := hw
      refine lv_goto (tgt := 83) hx hb dX10_happen_48 (by decide) ?_
      obtain ⟨h1_, h2_, h3_, h4_, h5_, h6_⟩ := t6_ hf
      subst h1_
      subst h2_
      subst h3_
      subst h4_
      subst h5_
      subst h6_
      exact hret _ _ _ _ dX10_happen_83 hw
    · replace hf := it_f hc1 hf
      by_cases hc2 : x1 = 2
      · replace hf := it_t hc2 hf
        refine lv_tableIn (tgt := 51) hx hb dX10_happen_1 (by rw [hc2]; decide) (by rw [hc2]; decide) (off := 50) (by rw [hc2]; rfl) (by decide) ?_
        refine lv_aload_n hx hb dX10_happen_51 rfl (lv_at hl 0 rfl) ?_
        refine g_get hC hw fkX10_25 0 rfl rfl dX10_happen_52 ?_
        refine lv_iload_n hx hb dX10_happen_55 rfl (lv_at hl 2 rfl) ?_
        refine lv_bipush (v := (-6)) hx hb dX10_happen_56 (by decide) ?_
        obtain ⟨hi, hf⟩ := ck_s hf
        obtain ⟨f7, ef7, hf⟩ := lx_s hf
        refine g_iast hC hw 5 rfl hi ef7 dX10_happen_58 (fun H locs hw => ?_)
        have hw : wd_ G A s.heap (wl_X10_happen G A_t A_t_steps A_t_wet A_t_where A_t_home A_t_light A_t_carries A_t_sightPlace A_t_sightLight A_t_pad A_t_act A_t_whose A_t_whom A_t_tens A_t_had A_t_leaves A_t_apart A_t_stop A_t_restOf A_t_group A_t_along A_t_kept A_t_isKept c_t_foggy c_t_walkers c_t_sights c_t_padMany c_t_acts c_t_spent c_t_walks c_t_badAct c_t_badWhy c_t_keptAt c_t_isWriting c_t_steps c_t_wet c_t_where c_t_light f7) H locs := hw
        refine lv_goto (tgt := 83) hx hb dX10_happen_59 (by decide) ?_
        obtain ⟨h1_, h2_, h3_, h4_, h5_, h6_⟩ := t6_ hf
        subst h1_
        subst h2_
        subst h3_
        subst h4_
        subst h5_
        subst h6_
        exact hret _ _ _ _ dX10_happen_83 hw
      · replace hf := it_f hc2 hf
        by_cases hc3 : x1 = 3
        · replace hf := it_t hc3 hf
          refine lv_tableIn (tgt := 62) hx hb dX10_happen_1 (by rw [hc3]; decide) (by rw [hc3]; decide) (off := 61) (by rw [hc3]; rfl) (by decide) ?_
          refine lv_aload_n hx hb dX10_happen_62 rfl (lv_at hl 0 rfl) ?_
          refine lv_iload_n hx hb dX10_happen_63 rfl (lv_at hl 2 rfl) ?_
          refine lv_iload_n hx hb dX10_happen_64 rfl (lv_at hl 3 rfl) ?_
          refine lv_iload hx hb dX10_happen_65 (lv_at hl 4 rfl) ?_
          obtain ⟨w8, hq9, hf⟩ := b1_s hf
          refine g_cVv hC hw mvX10_176 (cn_X10_give l G A_t A_t_steps A_t_wet A_t_where A_t_home A_t_light A_t_carries A_t_sightPlace A_t_sightLight A_t_pad A_t_act A_t_whose A_t_whom A_t_tens A_t_had A_t_leaves A_t_apart A_t_stop A_t_restOf A_t_group A_t_along A_t_kept A_t_isKept c_t_foggy c_t_walkers c_t_sights c_t_padMany c_t_acts c_t_spent c_t_walks c_t_badAct c_t_badWhy c_t_keptAt c_t_isWriting c_t_light x2 x3 x4 w8 hq9) [0, 4] rfl (by decide) rfl 0 rfl rfl rfl hl.1 rfl (Nat.le_of_ble_eq_true rfl) ⟨Nat.le_of_ble_eq_true rfl, Nat.le_of_ble_eq_true rfl⟩ ⟨Nat.le_refl _, Nat.le_refl _⟩ dX10_happen_67 (fun H locs hw => ?_)
          have hw : wd_ G A s.heap (wl_X10_happen G A_t A_t_steps A_t_wet A_t_where A_t_home A_t_light A_t_carries A_t_sightPlace A_t_sightLight A_t_pad A_t_act A_t_whose A_t_whom A_t_tens A_t_had A_t_leaves A_t_apart A_t_stop A_t_restOf A_t_group A_t_along A_t_kept A_t_isKept c_t_foggy c_t_walkers c_t_sights c_t_padMany c_t_acts c_t_spent c_t_walks c_t_badAct c_t_badWhy c_t_keptAt c_t_isWriting c_t_steps c_t_wet c_t_where w8 c_t_carries) H locs := hw
          refine lv_goto (tgt := 83) hx hb dX10_happen_70 (by decide) ?_
          obtain ⟨h1_, h2_, h3_, h4_, h5_, h6_⟩ := t6_ hf
          subst h1_
          subst h2_
          subst h3_
          subst h4_
          subst h5_
          subst h6_
          exact hret _ _ _ _ dX10_happen_83 hw
        · replace hf := it_f hc3 hf
          refine lv_tableOut (tgt := 73) hx hb dX10_happen_1 (tsw_out 3 (fun j hj h => ?_) rfl) (by decide) ?_
          · match j, hj with
            | 0, _ => exact hc0 h
            | 1, _ => exact hc1 h
            | 2, _ => exact hc2 h
            | 3, _ => exact hc3 h
            | k + 4, hj => omega
          · skip
            refine lv_aload_n hx hb dX10_happen_73 rfl (lv_at hl 0 rfl) ?_
            refine lv_iconst (v := 1) hx hb dX10_happen_74 (by decide) ?_
            refine lv_aload_n hx hb dX10_happen_75 rfl (lv_at hl 0 rfl) ?_
            refine g_get hC hw fkX10_93 0 rfl rfl dX10_happen_76 ?_
            refine lv_isub hx hb dX10_happen_79 ?_
            refine g_put hC hw fpX10_93 0 rfl rfl rfl (Nat.le_of_ble_eq_true rfl) dX10_happen_80 (fun H locs hw => ?_)
            have hw : wd_ G A s.heap (wl_X10_happen G A_t A_t_steps A_t_wet A_t_where A_t_home A_t_light A_t_carries A_t_sightPlace A_t_sightLight A_t_pad A_t_act A_t_whose A_t_whom A_t_tens A_t_had A_t_leaves A_t_apart A_t_stop A_t_restOf A_t_group A_t_along A_t_kept A_t_isKept (1 - c_t_foggy) c_t_walkers c_t_sights c_t_padMany c_t_acts c_t_spent c_t_walks c_t_badAct c_t_badWhy c_t_keptAt c_t_isWriting c_t_steps c_t_wet c_t_where c_t_light c_t_carries) H locs := hw
            obtain ⟨h1_, h2_, h3_, h4_, h5_, h6_⟩ := t6_ hf
            subst h1_
            subst h2_
            subst h3_
            subst h4_
            subst h5_
            subst h6_
            exact hret _ _ _ _ dX10_happen_83 hw
set_option maxHeartbeats 4000000 in
set_option maxRecDepth 100000 in
theorem cn_X10_happen (l : Launch) (G : gw_) (A_t : Nat) (A_t_steps : Nat) (A_t_wet : Nat) (A_t_where : Nat) (A_t_home : Nat) (A_t_light : Nat) (A_t_carries : Nat) (A_t_sightPlace : Nat) (A_t_sightLight : Nat) (A_t_pad : Nat) (A_t_act : Nat) (A_t_whose : Nat) (A_t_whom : Nat) (A_t_tens : Nat) (A_t_had : Nat) (A_t_leaves : Nat) (A_t_apart : Nat) (A_t_stop : Nat) (A_t_restOf : Nat) (A_t_group : Nat) (A_t_along : Nat) (A_t_kept : Nat) (A_t_isKept : Nat) (c_t_foggy : Int32) (c_t_walkers : Int32) (c_t_sights : Int32) (c_t_padMany : Int32) (c_t_acts : Int32) (c_t_spent : Int32) (c_t_walks : Int32) (c_t_badAct : Int32) (c_t_badWhy : Int32) (c_t_keptAt : Int32) (c_t_isWriting : Int32) (c_t_steps : Nat → Int32) (c_t_wet : Nat → Int32) (c_t_where : Nat → Int32) (c_t_light : Nat → Int32) (c_t_carries : Nat → Int32) (x1 : Int32) (x2 : Int32) (x3 : Int32) (x4 : Int32) (z_t_foggy : Int32) (z_t_spent : Int32) (z_t_walks : Int32) (z_t_where : Nat → Int32) (z_t_light : Nat → Int32) (z_t_carries : Nat → Int32) (hf : fn_X10_happen c_t_foggy c_t_spent c_t_walks c_t_steps c_t_wet c_t_where c_t_light c_t_carries x1 x2 x3 x4 = some (z_t_foggy, z_t_spent, z_t_walks, z_t_where, z_t_light, z_t_carries)) : cv_ l G yX10_happen cX10_happen 5 none 4 90 (wl_X10_happen G A_t A_t_steps A_t_wet A_t_where A_t_home A_t_light A_t_carries A_t_sightPlace A_t_sightLight A_t_pad A_t_act A_t_whose A_t_whom A_t_tens A_t_had A_t_leaves A_t_apart A_t_stop A_t_restOf A_t_group A_t_along A_t_kept A_t_isKept c_t_foggy c_t_walkers c_t_sights c_t_padMany c_t_acts c_t_spent c_t_walks c_t_badAct c_t_badWhy c_t_keptAt c_t_isWriting c_t_steps c_t_wet c_t_where c_t_light c_t_carries) [.ref A_t, .int x1, .int x2, .int x3, .int x4] (wl_X10_happen G A_t A_t_steps A_t_wet A_t_where A_t_home A_t_light A_t_carries A_t_sightPlace A_t_sightLight A_t_pad A_t_act A_t_whose A_t_whom A_t_tens A_t_had A_t_leaves A_t_apart A_t_stop A_t_restOf A_t_group A_t_along A_t_kept A_t_isKept z_t_foggy c_t_walkers c_t_sights c_t_padMany c_t_acts z_t_spent z_t_walks c_t_badAct c_t_badWhy c_t_keptAt c_t_isWriting c_t_steps c_t_wet z_t_where z_t_light z_t_carries) := fun sz => met_intro (by decide) (Nat.le_of_ble_eq_true rfl) (fun p e s m args below meth c ls hsz hC hr hlk hnm hl hw => wn_X10_happen hC (fun pc H locs ls hd hw => g_vret hC hr hlk hw hd) hf hl hw)

theorem dX10_store_0 : decode cX10_store 0 = .ok (.iconst 0, 1) := by decide +kernel
theorem dX10_store_1 : decode cX10_store 1 = .ok (.istore_n 2, 1) := by decide +kernel
theorem dX10_store_2 : decode cX10_store 2 = .ok (.iload_n 2, 1) := by decide +kernel
theorem dX10_store_3 : decode cX10_store 3 = .ok (.bipush 6, 2) := by decide +kernel
theorem dX10_store_5 : decode cX10_store 5 = .ok (.if_icmp .ge 66, 3) := by decide +kernel
theorem dX10_store_8 : decode cX10_store 8 = .ok (.aload_n 1, 1) := by decide +kernel
theorem dX10_store_9 : decode cX10_store 9 = .ok (.iload_n 2, 1) := by decide +kernel
theorem dX10_store_10 : decode cX10_store 10 = .ok (.aload_n 0, 1) := by decide +kernel
theorem dX10_store_11 : decode cX10_store 11 = .ok (.getfield 16, 3) := by decide +kernel
theorem dX10_store_14 : decode cX10_store 14 = .ok (.iload_n 2, 1) := by decide +kernel
theorem dX10_store_15 : decode cX10_store 15 = .ok (.iaload, 1) := by decide +kernel
theorem dX10_store_16 : decode cX10_store 16 = .ok (.iastore, 1) := by decide +kernel
theorem dX10_store_17 : decode cX10_store 17 = .ok (.aload_n 1, 1) := by decide +kernel
theorem dX10_store_18 : decode cX10_store 18 = .ok (.bipush 6, 2) := by decide +kernel
theorem dX10_store_20 : decode cX10_store 20 = .ok (.iload_n 2, 1) := by decide +kernel
theorem dX10_store_21 : decode cX10_store 21 = .ok (.iadd, 1) := by decide +kernel
theorem dX10_store_22 : decode cX10_store 22 = .ok (.aload_n 0, 1) := by decide +kernel
theorem dX10_store_23 : decode cX10_store 23 = .ok (.getfield 22, 3) := by decide +kernel
theorem dX10_store_26 : decode cX10_store 26 = .ok (.iload_n 2, 1) := by decide +kernel
theorem dX10_store_27 : decode cX10_store 27 = .ok (.iaload, 1) := by decide +kernel
theorem dX10_store_28 : decode cX10_store 28 = .ok (.iastore, 1) := by decide +kernel
theorem dX10_store_29 : decode cX10_store 29 = .ok (.aload_n 1, 1) := by decide +kernel
theorem dX10_store_30 : decode cX10_store 30 = .ok (.bipush 12, 2) := by decide +kernel
theorem dX10_store_32 : decode cX10_store 32 = .ok (.iload_n 2, 1) := by decide +kernel
theorem dX10_store_33 : decode cX10_store 33 = .ok (.iadd, 1) := by decide +kernel
theorem dX10_store_34 : decode cX10_store 34 = .ok (.aload_n 0, 1) := by decide +kernel
theorem dX10_store_35 : decode cX10_store 35 = .ok (.getfield 25, 3) := by decide +kernel
theorem dX10_store_38 : decode cX10_store 38 = .ok (.iload_n 2, 1) := by decide +kernel
theorem dX10_store_39 : decode cX10_store 39 = .ok (.iaload, 1) := by decide +kernel
theorem dX10_store_40 : decode cX10_store 40 = .ok (.iastore, 1) := by decide +kernel
theorem dX10_store_41 : decode cX10_store 41 = .ok (.aload_n 1, 1) := by decide +kernel
theorem dX10_store_42 : decode cX10_store 42 = .ok (.bipush 18, 2) := by decide +kernel
theorem dX10_store_44 : decode cX10_store 44 = .ok (.iload_n 2, 1) := by decide +kernel
theorem dX10_store_45 : decode cX10_store 45 = .ok (.iadd, 1) := by decide +kernel
theorem dX10_store_46 : decode cX10_store 46 = .ok (.aload_n 0, 1) := by decide +kernel
theorem dX10_store_47 : decode cX10_store 47 = .ok (.iload_n 2, 1) := by decide +kernel
theorem dX10_store_48 : decode cX10_store 48 = .ok (.invokevirtual 106, 3) := by decide +kernel
theorem dX10_store_51 : decode cX10_store 51 = .ok (.ifCond .eq 11, 3) := by decide +kernel
theorem dX10_store_54 : decode cX10_store 54 = .ok (.aload_n 0, 1) := by decide +kernel
theorem dX10_store_55 : decode cX10_store 55 = .ok (.iload_n 2, 1) := by decide +kernel
theorem dX10_store_56 : decode cX10_store 56 = .ok (.invokevirtual 153, 3) := by decide +kernel
theorem dX10_store_59 : decode cX10_store 59 = .ok (.goto 5, 3) := by decide +kernel
theorem dX10_store_62 : decode cX10_store 62 = .ok (.bipush (-6), 2) := by decide +kernel
theorem dX10_store_64 : decode cX10_store 64 = .ok (.iastore, 1) := by decide +kernel
theorem dX10_store_65 : decode cX10_store 65 = .ok (.iinc 2 1, 3) := by decide +kernel
theorem dX10_store_68 : decode cX10_store 68 = .ok (.goto (-66), 3) := by decide +kernel
theorem dX10_store_71 : decode cX10_store 71 = .ok (.aload_n 1, 1) := by decide +kernel
theorem dX10_store_72 : decode cX10_store 72 = .ok (.bipush 24, 2) := by decide +kernel
theorem dX10_store_74 : decode cX10_store 74 = .ok (.aload_n 0, 1) := by decide +kernel
theorem dX10_store_75 : decode cX10_store 75 = .ok (.getfield 93, 3) := by decide +kernel
theorem dX10_store_78 : decode cX10_store 78 = .ok (.iastore, 1) := by decide +kernel
theorem dX10_store_79 : decode cX10_store 79 = .ok (.return_, 1) := by decide +kernel
abbrev wl_X10_store (G : gw_) (A_t : Nat) (A_t_steps : Nat) (A_t_wet : Nat) (A_t_where : Nat) (A_t_home : Nat) (A_t_light : Nat) (A_t_carries : Nat) (A_t_sightPlace : Nat) (A_t_sightLight : Nat) (A_t_pad : Nat) (A_t_act : Nat) (A_t_whose : Nat) (A_t_whom : Nat) (A_t_tens : Nat) (A_t_had : Nat) (A_t_leaves : Nat) (A_t_apart : Nat) (A_t_stop : Nat) (A_t_restOf : Nat) (A_t_group : Nat) (A_t_along : Nat) (A_t_kept : Nat) (A_t_isKept : Nat) (A_q1 : Nat) (c_t_foggy : Int32) (c_t_walkers : Int32) (c_t_sights : Int32) (c_t_padMany : Int32) (c_t_acts : Int32) (c_t_spent : Int32) (c_t_walks : Int32) (c_t_badAct : Int32) (c_t_badWhy : Int32) (c_t_keptAt : Int32) (c_t_isWriting : Int32) (c_t_where : Nat → Int32) (c_t_light : Nat → Int32) (c_t_carries : Nat → Int32) (c_q1 : Nat → Int32) : va_W := [ob_ A_t 10 [.ref A_t_steps, .ref A_t_wet, .int c_t_foggy, .int c_t_walkers, .ref A_t_where, .ref A_t_home, .ref A_t_light, .ref A_t_carries, .ref A_t_sightPlace, .ref A_t_sightLight, .int c_t_sights, .ref A_t_pad, .int c_t_padMany, .ref A_t_act, .ref A_t_whose, .ref A_t_whom, .ref A_t_tens, .int c_t_acts, .int c_t_spent, .int c_t_walks, .ref A_t_had, .ref A_t_leaves, .int c_t_badAct, .int c_t_badWhy, .ref A_t_apart, .ref A_t_stop, .ref A_t_restOf, .ref A_t_group, .ref A_t_along, .ref A_t_kept, .ref A_t_isKept, .int c_t_keptAt, .int c_t_isWriting], ia_ G A_t_where 6 c_t_where, ia_ G A_t_light 6 c_t_light, ia_ G A_t_carries 6 c_t_carries, ia_ G A_q1 25 c_q1]
def fn_X10_store_b2 (c_t_walkers : Int32) (c_t_where : Nat → Int32) (c_t_light : Nat → Int32) (c_t_carries : Nat → Int32) (rc : Int32 → (Nat → Int32) → Option ((Nat → Int32))) (k : (Nat → Int32) → Option ((Nat → Int32))) (x2 : Int32) (c_q1 : Nat → Int32) : Option ((Nat → Int32)) :=
  if 6 ≤ x2 then
    k c_q1
  else
    ck_ x2 6 <|
    ck_ x2 25 <|
    lx_ (upd c_q1 (Int32.toNatClampNeg x2) (c_t_where (Int32.toNatClampNeg x2))) fun f1 =>
    ck_ x2 6 <|
    ck_ (6 + x2) 25 <|
    lx_ (upd f1 (Int32.toNatClampNeg (6 + x2)) (c_t_light (Int32.toNatClampNeg x2))) fun f2 =>
    ck_ x2 6 <|
    ck_ (12 + x2) 25 <|
    lx_ (upd f2 (Int32.toNatClampNeg (12 + x2)) (c_t_carries (Int32.toNatClampNeg x2))) fun f3 =>
    b1_ (fn_X10_isWalker c_t_walkers x2) fun r4 =>
    if r4 = 0 then
      ck_ (18 + x2) 25 <|
      lx_ (upd f3 (Int32.toNatClampNeg (18 + x2)) (-6)) fun f6 =>
      rc (x2 + 1) f6
    else
      b1_ (fn_X10_carrierOf c_t_walkers c_t_carries x2) fun r7 =>
      ck_ (18 + x2) 25 <|
      lx_ (upd f3 (Int32.toNatClampNeg (18 + x2)) r7) fun f9 =>
      rc (x2 + 1) f9
def fn_X10_store_l2 (c_t_walkers : Int32) (c_t_where : Nat → Int32) (c_t_light : Nat → Int32) (c_t_carries : Nat → Int32) (k : (Nat → Int32) → Option ((Nat → Int32))) : Nat → Int32 → (Nat → Int32) → Option ((Nat → Int32))
  | 0 => fun _ _ => none
  | n + 1 => fun x2 c_q1 => fn_X10_store_b2 c_t_walkers c_t_where c_t_light c_t_carries (fn_X10_store_l2 c_t_walkers c_t_where c_t_light c_t_carries k n) k x2 c_q1
def fn_X10_store (c_t_foggy : Int32) (c_t_walkers : Int32) (c_t_where : Nat → Int32) (c_t_light : Nat → Int32) (c_t_carries : Nat → Int32) (c_q1 : Nat → Int32) : Option ((Nat → Int32)) :=
  fn_X10_store_l2 c_t_walkers c_t_where c_t_light c_t_carries (fun v10 =>
    ck_ 24 25 <|
    lx_ (upd v10 (Int32.toNatClampNeg 24) c_t_foggy) fun f11 =>
    some f11) fu_ 0 c_q1
set_option maxHeartbeats 4000000 in
set_option maxRecDepth 100000 in
theorem wn_X10_store_l2 {p : Program} {l : Launch} {e : Env} {s : State} {m : MethodId} {args : Array Value} {below : List Frame} {meth : Method} {c : Code} {G : gw_} {A : Nat → Prop} {Q : State → Prop} {A_t : Nat} {A_t_steps : Nat} {A_t_wet : Nat} {A_t_where : Nat} {A_t_home : Nat} {A_t_light : Nat} {A_t_carries : Nat} {A_t_sightPlace : Nat} {A_t_sightLight : Nat} {A_t_pad : Nat} {A_t_act : Nat} {A_t_whose : Nat} {A_t_whom : Nat} {A_t_tens : Nat} {A_t_had : Nat} {A_t_leaves : Nat} {A_t_apart : Nat} {A_t_stop : Nat} {A_t_restOf : Nat} {A_t_group : Nat} {A_t_along : Nat} {A_t_kept : Nat} {A_t_isKept : Nat} {A_q1 : Nat} {c_t_foggy : Int32} {c_t_walkers : Int32} {c_t_sights : Int32} {c_t_padMany : Int32} {c_t_acts : Int32} {c_t_spent : Int32} {c_t_walks : Int32} {c_t_badAct : Int32} {c_t_badWhy : Int32} {c_t_keptAt : Int32} {c_t_isWriting : Int32} {c_t_where : Nat → Int32} {c_t_light : Nat → Int32} {c_t_carries : Nat → Int32} {z_q1 : Nat → Int32} {k : (Nat → Int32) → Option ((Nat → Int32))} (hC : cx_ p s m c G cX10_store 3 RX10) (hret : ∀ (pc : Nat) (H : Heap) (locs : List Loc) (ls : Array Slot), decode cX10_store pc = .ok (.return_, 1) → wd_ G A s.heap (wl_X10_store G A_t A_t_steps A_t_wet A_t_where A_t_home A_t_light A_t_carries A_t_sightPlace A_t_sightLight A_t_pad A_t_act A_t_whose A_t_whom A_t_tens A_t_had A_t_leaves A_t_apart A_t_stop A_t_restOf A_t_group A_t_along A_t_kept A_t_isKept A_q1 c_t_foggy c_t_walkers c_t_sights c_t_padMany c_t_acts c_t_spent c_t_walks c_t_badAct c_t_badWhy c_t_keptAt c_t_isWriting c_t_where c_t_light c_t_carries z_q1) H locs → W p l e { frames := 3, cells := 0, slots := 0, locals := 69 } s m args below meth c H locs 0 0 Q (F0 m pc ls [])) (hk : ∀ (c_q1 : Nat → Int32) (H : Heap) (locs : List Loc) (ls : Array Slot), k c_q1 = some z_q1 → lv_has ls 3 [(0, .ref A_t), (1, .ref A_q1)] → wd_ G A s.heap (wl_X10_store G A_t A_t_steps A_t_wet A_t_where A_t_home A_t_light A_t_carries A_t_sightPlace A_t_sightLight A_t_pad A_t_act A_t_whose A_t_whom A_t_tens A_t_had A_t_leaves A_t_apart A_t_stop A_t_restOf A_t_group A_t_along A_t_kept A_t_isKept A_q1 c_t_foggy c_t_walkers c_t_sights c_t_padMany c_t_acts c_t_spent c_t_walks c_t_badAct c_t_badWhy c_t_keptAt c_t_isWriting c_t_where c_t_light c_t_carries c_q1) H locs → W p l e { frames := 3, cells := 0, slots := 0, locals := 69 } s m args below meth c H locs 0 0 Q (F0 m 71 ls [])) : ∀ (n : Nat) (x2 : Int32) (c_q1 : Nat → Int32) (H : Heap) (locs : List Loc) (ls : Array Slot), fn_X10_store_l2 c_t_walkers c_t_where c_t_light c_t_carries k n x2 c_q1 = some z_q1 → lv_has ls 3 [(0, .ref A_t), (1, .ref A_q1), (2, .int x2)] → wd_ G A s.heap (wl_X10_store G A_t A_t_steps A_t_wet A_t_where A_t_home A_t_light A_t_carries A_t_sightPlace A_t_sightLight A_t_pad A_t_act A_t_whose A_t_whom A_t_tens A_t_had A_t_leaves A_t_apart A_t_stop A_t_restOf A_t_group A_t_along A_t_kept A_t_isKept A_q1 c_t_foggy c_t_walkers c_t_sights c_t_padMany c_t_acts c_t_spent c_t_walks c_t_badAct c_t_badWhy c_t_keptAt c_t_isWriting c_t_where c_t_light c_t_carries c_q1) H locs → W p l e { frames := 3, cells := 0, slots := 0, locals := 69 } s m args below meth c H locs 0 0 Q (F0 m 2 ls []) := by
  have hx := hC.1
  have hb := hC.2.1
  intro n
  induction n with
  | zero =>
    intro x2 c_q1 H locs ls hf
    cases (show (none : Option ((Nat → Int32))) = some _ from hf)
  | succ n hrc =>
    intro x2 c_q1 H locs ls hf hl hw
    replace hf : fn_X10_store_b2 c_t_walkers c_t_where c_t_light c_t_carries (fn_X10_store_l2 c_t_walkers c_t_where c_t_light c_t_carries k n) k x2 c_q1 = some z_q1 := hf
    unfold fn_X10_store_b2 at hf
    refine lv_iload_n hx hb dX10_store_2 rfl (lv_at hl 2 rfl) ?_
    refine lv_bipush (v := 6) hx hb dX10_store_3 (by decide) ?_
    refine lv_icmp_ge (tgt := 71) hx hb dX10_store_5 (by decide) (fun hc => ?_) (fun hc => ?_)
    · replace hf := it_t hc hf
      exact hk c_q1 _ _ _ hf (lv_sub hl [0, 1] rfl) hw
    · replace hf := it_f hc hf
      refine lv_aload_n hx hb dX10_store_8 rfl (lv_at hl 1 rfl) ?_
      refine lv_iload_n hx hb dX10_store_9 rfl (lv_at hl 2 rfl) ?_
      refine lv_aload_n hx hb dX10_store_10 rfl (lv_at hl 0 rfl) ?_
      refine g_get hC hw fkX10_16 0 rfl rfl dX10_store_11 ?_
      refine lv_iload_n hx hb dX10_store_14 rfl (lv_at hl 2 rfl) ?_
      obtain ⟨hi, hf⟩ := ck_s hf
      refine g_iald hC hw 1 rfl hi dX10_store_15 ?_
      obtain ⟨hi, hf⟩ := ck_s hf
      obtain ⟨f1, ef1, hf⟩ := lx_s hf
      refine g_iast hC hw 4 rfl hi ef1 dX10_store_16 (fun H locs hw => ?_)
      have hw : wd_ G A s.heap (wl_X10_store G A_t A_t_steps A_t_wet A_t_where A_t_home A_t_light A_t_carries A_t_sightPlace A_t_sightLight A_t_pad A_t_act A_t_whose A_t_whom A_t_tens A_t_had A_t_leaves A_t_apart A_t_stop A_t_restOf A_t_group A_t_along A_t_kept A_t_isKept A_q1 c_t_foggy c_t_walkers c_t_sights c_t_padMany c_t_acts c_t_spent c_t_walks c_t_badAct c_t_badWhy c_t_keptAt c_t_isWriting c_t_where c_t_light c_t_carries f1) H locs := hw
      refine lv_aload_n hx hb dX10_store_17 rfl (lv_at hl 1 rfl) ?_
      refine lv_bipush (v := 6) hx hb dX10_store_18 (by decide) ?_
      refine lv_iload_n hx hb dX10_store_20 rfl (lv_at hl 2 rfl) ?_
      refine lv_iadd hx hb dX10_store_21 ?_
      refine lv_aload_n hx hb dX10_store_22 rfl (lv_at hl 0 rfl) ?_
      refine g_get hC hw fkX10_22 0 rfl rfl dX10_store_23 ?_
      refine lv_iload_n hx hb dX10_store_26 rfl (lv_at hl 2 rfl) ?_
      obtain ⟨hi, hf⟩ := ck_s hf
      refine g_iald hC hw 2 rfl hi dX10_store_27 ?_
      obtain ⟨hi, hf⟩ := ck_s hf
      obtain ⟨f2, ef2, hf⟩ := lx_s hf
      refine g_iast hC hw 4 rfl hi ef2 dX10_store_28 (fun H locs hw => ?_)
      have hw : wd_ G A s.heap (wl_X10_store G A_t A_t_steps A_t_wet A_t_where A_t_home A_t_light A_t_carries A_t_sightPlace A_t_sightLight A_t_pad A_t_act A_t_whose A_t_whom A_t_tens A_t_had A_t_leaves A_t_apart A_t_stop A_t_restOf A_t_group A_t_along A_t_kept A_t_isKept A_q1 c_t_foggy c_t_walkers c_t_sights c_t_padMany c_t_acts c_t_spent c_t_walks c_t_badAct c_t_badWhy c_t_keptAt c_t_isWriting c_t_where c_t_light c_t_carries f2) H locs := hw
      refine lv_aload_n hx hb dX10_store_29 rfl (lv_at hl 1 rfl) ?_
      refine lv_bipush (v := 12) hx hb dX10_store_30 (by decide) ?_
      refine lv_iload_n hx hb dX10_store_32 rfl (lv_at hl 2 rfl) ?_
      refine lv_iadd hx hb dX10_store_33 ?_
      refine lv_aload_n hx hb dX10_store_34 rfl (lv_at hl 0 rfl) ?_
      refine g_get hC hw fkX10_25 0 rfl rfl dX10_store_35 ?_
      refine lv_iload_n hx hb dX10_store_38 rfl (lv_at hl 2 rfl) ?_
      obtain ⟨hi, hf⟩ := ck_s hf
      refine g_iald hC hw 3 rfl hi dX10_store_39 ?_
      obtain ⟨hi, hf⟩ := ck_s hf
      obtain ⟨f3, ef3, hf⟩ := lx_s hf
      refine g_iast hC hw 4 rfl hi ef3 dX10_store_40 (fun H locs hw => ?_)
      have hw : wd_ G A s.heap (wl_X10_store G A_t A_t_steps A_t_wet A_t_where A_t_home A_t_light A_t_carries A_t_sightPlace A_t_sightLight A_t_pad A_t_act A_t_whose A_t_whom A_t_tens A_t_had A_t_leaves A_t_apart A_t_stop A_t_restOf A_t_group A_t_along A_t_kept A_t_isKept A_q1 c_t_foggy c_t_walkers c_t_sights c_t_padMany c_t_acts c_t_spent c_t_walks c_t_badAct c_t_badWhy c_t_keptAt c_t_isWriting c_t_where c_t_light c_t_carries f3) H locs := hw
      refine lv_aload_n hx hb dX10_store_41 rfl (lv_at hl 1 rfl) ?_
      refine lv_bipush (v := 18) hx hb dX10_store_42 (by decide) ?_
      refine lv_iload_n hx hb dX10_store_44 rfl (lv_at hl 2 rfl) ?_
      refine lv_iadd hx hb dX10_store_45 ?_
      refine lv_aload_n hx hb dX10_store_46 rfl (lv_at hl 0 rfl) ?_
      refine lv_iload_n hx hb dX10_store_47 rfl (lv_at hl 2 rfl) ?_
      obtain ⟨r4, hq5, hf⟩ := b1_s hf
      refine h_cVi hC hw mvX10_106 (cn_X10_isWalker l G A_t A_t_steps A_t_wet A_t_where A_t_home A_t_light A_t_carries A_t_sightPlace A_t_sightLight A_t_pad A_t_act A_t_whose A_t_whom A_t_tens A_t_had A_t_leaves A_t_apart A_t_stop A_t_restOf A_t_group A_t_along A_t_kept A_t_isKept c_t_foggy c_t_walkers c_t_sights c_t_padMany c_t_acts c_t_spent c_t_walks c_t_badAct c_t_badWhy c_t_keptAt c_t_isWriting x2 r4 hq5) [0] rfl (by decide) 0 rfl rfl rfl hl.1 rfl (Nat.le_of_ble_eq_true rfl) ⟨Nat.le_of_ble_eq_true rfl, Nat.le_of_ble_eq_true rfl⟩ ⟨Nat.le_refl _, Nat.le_refl _⟩ dX10_store_48 (fun H locs hw => ?_)
      refine lv_if_eq (tgt := 62) hx hb dX10_store_51 (by decide) (fun hc => ?_) (fun hc => ?_)
      · replace hf := it_t hc hf
        refine lv_bipush (v := (-6)) hx hb dX10_store_62 (by decide) ?_
        obtain ⟨hi, hf⟩ := ck_s hf
        obtain ⟨f6, ef6, hf⟩ := lx_s hf
        refine g_iast hC hw 4 rfl hi ef6 dX10_store_64 (fun H locs hw => ?_)
        have hw : wd_ G A s.heap (wl_X10_store G A_t A_t_steps A_t_wet A_t_where A_t_home A_t_light A_t_carries A_t_sightPlace A_t_sightLight A_t_pad A_t_act A_t_whose A_t_whom A_t_tens A_t_had A_t_leaves A_t_apart A_t_stop A_t_restOf A_t_group A_t_along A_t_kept A_t_isKept A_q1 c_t_foggy c_t_walkers c_t_sights c_t_padMany c_t_acts c_t_spent c_t_walks c_t_badAct c_t_badWhy c_t_keptAt c_t_isWriting c_t_where c_t_light c_t_carries f6) H locs := hw
        refine lv_iinc (v := x2 + 1) (lv' := [(2, .int (x2 + 1)), (0, .ref A_t), (1, .ref A_q1)]) hx hb dX10_store_65 hl (k := 2) rfl rfl (by decide) rfl (fun ls hl => ?_)
        refine lv_goto (tgt := 2) hx hb dX10_store_68 (by decide) ?_
        exact hrc (x2 + 1) f6 _ _ _ hf (lv_sub hl [1, 2, 0] rfl) hw
      · replace hf := it_f hc hf
        refine lv_aload_n hx hb dX10_store_54 rfl (lv_at hl 0 rfl) ?_
        refine lv_iload_n hx hb dX10_store_55 rfl (lv_at hl 2 rfl) ?_
        obtain ⟨r7, hq8, hf⟩ := b1_s hf
        refine h_cVi hC hw mvX10_153 (cn_X10_carrierOf l G A_t A_t_steps A_t_wet A_t_where A_t_home A_t_light A_t_carries A_t_sightPlace A_t_sightLight A_t_pad A_t_act A_t_whose A_t_whom A_t_tens A_t_had A_t_leaves A_t_apart A_t_stop A_t_restOf A_t_group A_t_along A_t_kept A_t_isKept c_t_foggy c_t_walkers c_t_sights c_t_padMany c_t_acts c_t_spent c_t_walks c_t_badAct c_t_badWhy c_t_keptAt c_t_isWriting c_t_carries x2 r7 hq8) [0, 3] rfl (by decide) 0 rfl rfl rfl hl.1 rfl (Nat.le_of_ble_eq_true rfl) ⟨Nat.le_of_ble_eq_true rfl, Nat.le_of_ble_eq_true rfl⟩ ⟨Nat.le_refl _, Nat.le_refl _⟩ dX10_store_56 (fun H locs hw => ?_)
        refine lv_goto (tgt := 64) hx hb dX10_store_59 (by decide) ?_
        obtain ⟨hi, hf⟩ := ck_s hf
        obtain ⟨f9, ef9, hf⟩ := lx_s hf
        refine g_iast hC hw 4 rfl hi ef9 dX10_store_64 (fun H locs hw => ?_)
        have hw : wd_ G A s.heap (wl_X10_store G A_t A_t_steps A_t_wet A_t_where A_t_home A_t_light A_t_carries A_t_sightPlace A_t_sightLight A_t_pad A_t_act A_t_whose A_t_whom A_t_tens A_t_had A_t_leaves A_t_apart A_t_stop A_t_restOf A_t_group A_t_along A_t_kept A_t_isKept A_q1 c_t_foggy c_t_walkers c_t_sights c_t_padMany c_t_acts c_t_spent c_t_walks c_t_badAct c_t_badWhy c_t_keptAt c_t_isWriting c_t_where c_t_light c_t_carries f9) H locs := hw
        refine lv_iinc (v := x2 + 1) (lv' := [(2, .int (x2 + 1)), (0, .ref A_t), (1, .ref A_q1)]) hx hb dX10_store_65 hl (k := 2) rfl rfl (by decide) rfl (fun ls hl => ?_)
        refine lv_goto (tgt := 2) hx hb dX10_store_68 (by decide) ?_
        exact hrc (x2 + 1) f9 _ _ _ hf (lv_sub hl [1, 2, 0] rfl) hw
set_option maxHeartbeats 4000000 in
set_option maxRecDepth 100000 in
theorem wn_X10_store {p : Program} {l : Launch} {e : Env} {s : State} {m : MethodId} {args : Array Value} {below : List Frame} {meth : Method} {c : Code} {G : gw_} {A : Nat → Prop} {Q : State → Prop} {A_t : Nat} {A_t_steps : Nat} {A_t_wet : Nat} {A_t_where : Nat} {A_t_home : Nat} {A_t_light : Nat} {A_t_carries : Nat} {A_t_sightPlace : Nat} {A_t_sightLight : Nat} {A_t_pad : Nat} {A_t_act : Nat} {A_t_whose : Nat} {A_t_whom : Nat} {A_t_tens : Nat} {A_t_had : Nat} {A_t_leaves : Nat} {A_t_apart : Nat} {A_t_stop : Nat} {A_t_restOf : Nat} {A_t_group : Nat} {A_t_along : Nat} {A_t_kept : Nat} {A_t_isKept : Nat} {A_q1 : Nat} {c_t_foggy : Int32} {c_t_walkers : Int32} {c_t_sights : Int32} {c_t_padMany : Int32} {c_t_acts : Int32} {c_t_spent : Int32} {c_t_walks : Int32} {c_t_badAct : Int32} {c_t_badWhy : Int32} {c_t_keptAt : Int32} {c_t_isWriting : Int32} {c_t_where : Nat → Int32} {c_t_light : Nat → Int32} {c_t_carries : Nat → Int32} {c_q1 : Nat → Int32} {z_q1 : Nat → Int32} (hC : cx_ p s m c G cX10_store 3 RX10) (hret : ∀ (pc : Nat) (H : Heap) (locs : List Loc) (ls : Array Slot), decode cX10_store pc = .ok (.return_, 1) → wd_ G A s.heap (wl_X10_store G A_t A_t_steps A_t_wet A_t_where A_t_home A_t_light A_t_carries A_t_sightPlace A_t_sightLight A_t_pad A_t_act A_t_whose A_t_whom A_t_tens A_t_had A_t_leaves A_t_apart A_t_stop A_t_restOf A_t_group A_t_along A_t_kept A_t_isKept A_q1 c_t_foggy c_t_walkers c_t_sights c_t_padMany c_t_acts c_t_spent c_t_walks c_t_badAct c_t_badWhy c_t_keptAt c_t_isWriting c_t_where c_t_light c_t_carries z_q1) H locs → W p l e { frames := 3, cells := 0, slots := 0, locals := 69 } s m args below meth c H locs 0 0 Q (F0 m pc ls [])) (hf : fn_X10_store c_t_foggy c_t_walkers c_t_where c_t_light c_t_carries c_q1 = some z_q1) {H : Heap} {locs : List Loc} {ls : Array Slot} (hl : lv_has ls 3 [(0, .ref A_t), (1, .ref A_q1)]) (hw : wd_ G A s.heap (wl_X10_store G A_t A_t_steps A_t_wet A_t_where A_t_home A_t_light A_t_carries A_t_sightPlace A_t_sightLight A_t_pad A_t_act A_t_whose A_t_whom A_t_tens A_t_had A_t_leaves A_t_apart A_t_stop A_t_restOf A_t_group A_t_along A_t_kept A_t_isKept A_q1 c_t_foggy c_t_walkers c_t_sights c_t_padMany c_t_acts c_t_spent c_t_walks c_t_badAct c_t_badWhy c_t_keptAt c_t_isWriting c_t_where c_t_light c_t_carries c_q1) H locs) : W p l e { frames := 3, cells := 0, slots := 0, locals := 69 } s m args below meth c H locs 0 0 Q (F0 m 0 ls []) := by
  have hx := hC.1
  have hb := hC.2.1
  unfold fn_X10_store at hf
  refine lv_iconst (v := 0) hx hb dX10_store_0 (by decide) ?_
  refine lv_istore_n (lv' := [(2, .int 0), (0, .ref A_t), (1, .ref A_q1)]) hx hb dX10_store_1 rfl hl (by decide) rfl (fun ls hl => ?_)
  refine wn_X10_store_l2 hC hret (fun v10 H locs ls hf hl hw => ?_) fu_ 0 c_q1 _ _ _ hf (lv_sub hl [1, 2, 0] rfl) hw
  refine lv_aload_n hx hb dX10_store_71 rfl (lv_at hl 1 rfl) ?_
  refine lv_bipush (v := 24) hx hb dX10_store_72 (by decide) ?_
  refine lv_aload_n hx hb dX10_store_74 rfl (lv_at hl 0 rfl) ?_
  refine g_get hC hw fkX10_93 0 rfl rfl dX10_store_75 ?_
  obtain ⟨hi, hf⟩ := ck_s hf
  obtain ⟨f11, ef11, hf⟩ := lx_s hf
  refine g_iast hC hw 4 rfl hi ef11 dX10_store_78 (fun H locs hw => ?_)
  have hw : wd_ G A s.heap (wl_X10_store G A_t A_t_steps A_t_wet A_t_where A_t_home A_t_light A_t_carries A_t_sightPlace A_t_sightLight A_t_pad A_t_act A_t_whose A_t_whom A_t_tens A_t_had A_t_leaves A_t_apart A_t_stop A_t_restOf A_t_group A_t_along A_t_kept A_t_isKept A_q1 c_t_foggy c_t_walkers c_t_sights c_t_padMany c_t_acts c_t_spent c_t_walks c_t_badAct c_t_badWhy c_t_keptAt c_t_isWriting c_t_where c_t_light c_t_carries f11) H locs := hw
  have h1_ := t1_ hf
  subst h1_
  exact hret _ _ _ _ dX10_store_79 hw
set_option maxHeartbeats 4000000 in
set_option maxRecDepth 100000 in
theorem cn_X10_store (l : Launch) (G : gw_) (A_t : Nat) (A_t_steps : Nat) (A_t_wet : Nat) (A_t_where : Nat) (A_t_home : Nat) (A_t_light : Nat) (A_t_carries : Nat) (A_t_sightPlace : Nat) (A_t_sightLight : Nat) (A_t_pad : Nat) (A_t_act : Nat) (A_t_whose : Nat) (A_t_whom : Nat) (A_t_tens : Nat) (A_t_had : Nat) (A_t_leaves : Nat) (A_t_apart : Nat) (A_t_stop : Nat) (A_t_restOf : Nat) (A_t_group : Nat) (A_t_along : Nat) (A_t_kept : Nat) (A_t_isKept : Nat) (A_q1 : Nat) (c_t_foggy : Int32) (c_t_walkers : Int32) (c_t_sights : Int32) (c_t_padMany : Int32) (c_t_acts : Int32) (c_t_spent : Int32) (c_t_walks : Int32) (c_t_badAct : Int32) (c_t_badWhy : Int32) (c_t_keptAt : Int32) (c_t_isWriting : Int32) (c_t_where : Nat → Int32) (c_t_light : Nat → Int32) (c_t_carries : Nat → Int32) (c_q1 : Nat → Int32) (z_q1 : Nat → Int32) (hf : fn_X10_store c_t_foggy c_t_walkers c_t_where c_t_light c_t_carries c_q1 = some z_q1) : cv_ l G yX10_store cX10_store 3 none 3 69 (wl_X10_store G A_t A_t_steps A_t_wet A_t_where A_t_home A_t_light A_t_carries A_t_sightPlace A_t_sightLight A_t_pad A_t_act A_t_whose A_t_whom A_t_tens A_t_had A_t_leaves A_t_apart A_t_stop A_t_restOf A_t_group A_t_along A_t_kept A_t_isKept A_q1 c_t_foggy c_t_walkers c_t_sights c_t_padMany c_t_acts c_t_spent c_t_walks c_t_badAct c_t_badWhy c_t_keptAt c_t_isWriting c_t_where c_t_light c_t_carries c_q1) [.ref A_t, .ref A_q1] (wl_X10_store G A_t A_t_steps A_t_wet A_t_where A_t_home A_t_light A_t_carries A_t_sightPlace A_t_sightLight A_t_pad A_t_act A_t_whose A_t_whom A_t_tens A_t_had A_t_leaves A_t_apart A_t_stop A_t_restOf A_t_group A_t_along A_t_kept A_t_isKept A_q1 c_t_foggy c_t_walkers c_t_sights c_t_padMany c_t_acts c_t_spent c_t_walks c_t_badAct c_t_badWhy c_t_keptAt c_t_isWriting c_t_where c_t_light c_t_carries z_q1) := fun sz => met_intro (by decide) (Nat.le_of_ble_eq_true rfl) (fun p e s m args below meth c ls hsz hC hr hlk hnm hl hw => wn_X10_store hC (fun pc H locs ls hd hw => g_vret hC hr hlk hw hd) hf hl hw)

theorem dX10_lay_0 : decode cX10_lay 0 = .ok (.iconst 0, 1) := by decide +kernel
theorem dX10_lay_1 : decode cX10_lay 1 = .ok (.istore_n 2, 1) := by decide +kernel
theorem dX10_lay_2 : decode cX10_lay 2 = .ok (.iload_n 2, 1) := by decide +kernel
theorem dX10_lay_3 : decode cX10_lay 3 = .ok (.bipush 6, 2) := by decide +kernel
theorem dX10_lay_5 : decode cX10_lay 5 = .ok (.if_icmp .ge 42, 3) := by decide +kernel
theorem dX10_lay_8 : decode cX10_lay 8 = .ok (.aload_n 0, 1) := by decide +kernel
theorem dX10_lay_9 : decode cX10_lay 9 = .ok (.getfield 16, 3) := by decide +kernel
theorem dX10_lay_12 : decode cX10_lay 12 = .ok (.iload_n 2, 1) := by decide +kernel
theorem dX10_lay_13 : decode cX10_lay 13 = .ok (.aload_n 1, 1) := by decide +kernel
theorem dX10_lay_14 : decode cX10_lay 14 = .ok (.iload_n 2, 1) := by decide +kernel
theorem dX10_lay_15 : decode cX10_lay 15 = .ok (.iaload, 1) := by decide +kernel
theorem dX10_lay_16 : decode cX10_lay 16 = .ok (.iastore, 1) := by decide +kernel
theorem dX10_lay_17 : decode cX10_lay 17 = .ok (.aload_n 0, 1) := by decide +kernel
theorem dX10_lay_18 : decode cX10_lay 18 = .ok (.getfield 22, 3) := by decide +kernel
theorem dX10_lay_21 : decode cX10_lay 21 = .ok (.iload_n 2, 1) := by decide +kernel
theorem dX10_lay_22 : decode cX10_lay 22 = .ok (.aload_n 1, 1) := by decide +kernel
theorem dX10_lay_23 : decode cX10_lay 23 = .ok (.bipush 6, 2) := by decide +kernel
theorem dX10_lay_25 : decode cX10_lay 25 = .ok (.iload_n 2, 1) := by decide +kernel
theorem dX10_lay_26 : decode cX10_lay 26 = .ok (.iadd, 1) := by decide +kernel
theorem dX10_lay_27 : decode cX10_lay 27 = .ok (.iaload, 1) := by decide +kernel
theorem dX10_lay_28 : decode cX10_lay 28 = .ok (.iastore, 1) := by decide +kernel
theorem dX10_lay_29 : decode cX10_lay 29 = .ok (.aload_n 0, 1) := by decide +kernel
theorem dX10_lay_30 : decode cX10_lay 30 = .ok (.getfield 25, 3) := by decide +kernel
theorem dX10_lay_33 : decode cX10_lay 33 = .ok (.iload_n 2, 1) := by decide +kernel
theorem dX10_lay_34 : decode cX10_lay 34 = .ok (.aload_n 1, 1) := by decide +kernel
theorem dX10_lay_35 : decode cX10_lay 35 = .ok (.bipush 12, 2) := by decide +kernel
theorem dX10_lay_37 : decode cX10_lay 37 = .ok (.iload_n 2, 1) := by decide +kernel
theorem dX10_lay_38 : decode cX10_lay 38 = .ok (.iadd, 1) := by decide +kernel
theorem dX10_lay_39 : decode cX10_lay 39 = .ok (.iaload, 1) := by decide +kernel
theorem dX10_lay_40 : decode cX10_lay 40 = .ok (.iastore, 1) := by decide +kernel
theorem dX10_lay_41 : decode cX10_lay 41 = .ok (.iinc 2 1, 3) := by decide +kernel
theorem dX10_lay_44 : decode cX10_lay 44 = .ok (.goto (-42), 3) := by decide +kernel
theorem dX10_lay_47 : decode cX10_lay 47 = .ok (.aload_n 0, 1) := by decide +kernel
theorem dX10_lay_48 : decode cX10_lay 48 = .ok (.aload_n 1, 1) := by decide +kernel
theorem dX10_lay_49 : decode cX10_lay 49 = .ok (.bipush 24, 2) := by decide +kernel
theorem dX10_lay_51 : decode cX10_lay 51 = .ok (.iaload, 1) := by decide +kernel
theorem dX10_lay_52 : decode cX10_lay 52 = .ok (.putfield 93, 3) := by decide +kernel
theorem dX10_lay_55 : decode cX10_lay 55 = .ok (.return_, 1) := by decide +kernel
abbrev wl_X10_lay (G : gw_) (A_t : Nat) (A_t_steps : Nat) (A_t_wet : Nat) (A_t_where : Nat) (A_t_home : Nat) (A_t_light : Nat) (A_t_carries : Nat) (A_t_sightPlace : Nat) (A_t_sightLight : Nat) (A_t_pad : Nat) (A_t_act : Nat) (A_t_whose : Nat) (A_t_whom : Nat) (A_t_tens : Nat) (A_t_had : Nat) (A_t_leaves : Nat) (A_t_apart : Nat) (A_t_stop : Nat) (A_t_restOf : Nat) (A_t_group : Nat) (A_t_along : Nat) (A_t_kept : Nat) (A_t_isKept : Nat) (A_q1 : Nat) (c_t_foggy : Int32) (c_t_walkers : Int32) (c_t_sights : Int32) (c_t_padMany : Int32) (c_t_acts : Int32) (c_t_spent : Int32) (c_t_walks : Int32) (c_t_badAct : Int32) (c_t_badWhy : Int32) (c_t_keptAt : Int32) (c_t_isWriting : Int32) (c_t_where : Nat → Int32) (c_t_light : Nat → Int32) (c_t_carries : Nat → Int32) (c_q1 : Nat → Int32) : va_W := [ob_ A_t 10 [.ref A_t_steps, .ref A_t_wet, .int c_t_foggy, .int c_t_walkers, .ref A_t_where, .ref A_t_home, .ref A_t_light, .ref A_t_carries, .ref A_t_sightPlace, .ref A_t_sightLight, .int c_t_sights, .ref A_t_pad, .int c_t_padMany, .ref A_t_act, .ref A_t_whose, .ref A_t_whom, .ref A_t_tens, .int c_t_acts, .int c_t_spent, .int c_t_walks, .ref A_t_had, .ref A_t_leaves, .int c_t_badAct, .int c_t_badWhy, .ref A_t_apart, .ref A_t_stop, .ref A_t_restOf, .ref A_t_group, .ref A_t_along, .ref A_t_kept, .ref A_t_isKept, .int c_t_keptAt, .int c_t_isWriting], ia_ G A_t_where 6 c_t_where, ia_ G A_t_light 6 c_t_light, ia_ G A_t_carries 6 c_t_carries, ia_ G A_q1 25 c_q1]
def fn_X10_lay_b2 (c_q1 : Nat → Int32) (rc : Int32 → (Nat → Int32) → (Nat → Int32) → (Nat → Int32) → Option (Int32 × (Nat → Int32) × (Nat → Int32) × (Nat → Int32))) (k : (Nat → Int32) → (Nat → Int32) → (Nat → Int32) → Option (Int32 × (Nat → Int32) × (Nat → Int32) × (Nat → Int32))) (x2 : Int32) (c_t_where : Nat → Int32) (c_t_light : Nat → Int32) (c_t_carries : Nat → Int32) : Option (Int32 × (Nat → Int32) × (Nat → Int32) × (Nat → Int32)) :=
  if 6 ≤ x2 then
    k c_t_where c_t_light c_t_carries
  else
    ck_ x2 25 <|
    ck_ x2 6 <|
    lx_ (upd c_t_where (Int32.toNatClampNeg x2) (c_q1 (Int32.toNatClampNeg x2))) fun f1 =>
    ck_ (6 + x2) 25 <|
    ck_ x2 6 <|
    lx_ (upd c_t_light (Int32.toNatClampNeg x2) (c_q1 (Int32.toNatClampNeg (6 + x2)))) fun f2 =>
    ck_ (12 + x2) 25 <|
    ck_ x2 6 <|
    lx_ (upd c_t_carries (Int32.toNatClampNeg x2) (c_q1 (Int32.toNatClampNeg (12 + x2)))) fun f3 =>
    rc (x2 + 1) f1 f2 f3
def fn_X10_lay_l2 (c_q1 : Nat → Int32) (k : (Nat → Int32) → (Nat → Int32) → (Nat → Int32) → Option (Int32 × (Nat → Int32) × (Nat → Int32) × (Nat → Int32))) : Nat → Int32 → (Nat → Int32) → (Nat → Int32) → (Nat → Int32) → Option (Int32 × (Nat → Int32) × (Nat → Int32) × (Nat → Int32))
  | 0 => fun _ _ _ _ => none
  | n + 1 => fun x2 c_t_where c_t_light c_t_carries => fn_X10_lay_b2 c_q1 (fn_X10_lay_l2 c_q1 k n) k x2 c_t_where c_t_light c_t_carries
def fn_X10_lay (c_t_foggy : Int32) (c_t_where : Nat → Int32) (c_t_light : Nat → Int32) (c_t_carries : Nat → Int32) (c_q1 : Nat → Int32) : Option (Int32 × (Nat → Int32) × (Nat → Int32) × (Nat → Int32)) :=
  fn_X10_lay_l2 c_q1 (fun v4 v5 v6 =>
    ck_ 24 25 <|
    lx_ (c_q1 (Int32.toNatClampNeg 24)) fun y7 =>
    some (y7, v4, v5, v6)) fu_ 0 c_t_where c_t_light c_t_carries
set_option maxHeartbeats 4000000 in
set_option maxRecDepth 100000 in
theorem wn_X10_lay_l2 {p : Program} {l : Launch} {e : Env} {s : State} {m : MethodId} {args : Array Value} {below : List Frame} {meth : Method} {c : Code} {G : gw_} {A : Nat → Prop} {Q : State → Prop} {A_t : Nat} {A_t_steps : Nat} {A_t_wet : Nat} {A_t_where : Nat} {A_t_home : Nat} {A_t_light : Nat} {A_t_carries : Nat} {A_t_sightPlace : Nat} {A_t_sightLight : Nat} {A_t_pad : Nat} {A_t_act : Nat} {A_t_whose : Nat} {A_t_whom : Nat} {A_t_tens : Nat} {A_t_had : Nat} {A_t_leaves : Nat} {A_t_apart : Nat} {A_t_stop : Nat} {A_t_restOf : Nat} {A_t_group : Nat} {A_t_along : Nat} {A_t_kept : Nat} {A_t_isKept : Nat} {A_q1 : Nat} {c_t_foggy : Int32} {z_t_foggy : Int32} {c_t_walkers : Int32} {c_t_sights : Int32} {c_t_padMany : Int32} {c_t_acts : Int32} {c_t_spent : Int32} {c_t_walks : Int32} {c_t_badAct : Int32} {c_t_badWhy : Int32} {c_t_keptAt : Int32} {c_t_isWriting : Int32} {z_t_where : Nat → Int32} {z_t_light : Nat → Int32} {z_t_carries : Nat → Int32} {c_q1 : Nat → Int32} {k : (Nat → Int32) → (Nat → Int32) → (Nat → Int32) → Option (Int32 × (Nat → Int32) × (Nat → Int32) × (Nat → Int32))} (hC : cx_ p s m c G cX10_lay 3 RX10) (hret : ∀ (pc : Nat) (H : Heap) (locs : List Loc) (ls : Array Slot), decode cX10_lay pc = .ok (.return_, 1) → wd_ G A s.heap (wl_X10_lay G A_t A_t_steps A_t_wet A_t_where A_t_home A_t_light A_t_carries A_t_sightPlace A_t_sightLight A_t_pad A_t_act A_t_whose A_t_whom A_t_tens A_t_had A_t_leaves A_t_apart A_t_stop A_t_restOf A_t_group A_t_along A_t_kept A_t_isKept A_q1 z_t_foggy c_t_walkers c_t_sights c_t_padMany c_t_acts c_t_spent c_t_walks c_t_badAct c_t_badWhy c_t_keptAt c_t_isWriting z_t_where z_t_light z_t_carries c_q1) H locs → W p l e { frames := 0, cells := 0, slots := 0, locals := 0 } s m args below meth c H locs 0 0 Q (F0 m pc ls [])) (hk : ∀ (c_t_where : Nat → Int32) (c_t_light : Nat → Int32) (c_t_carries : Nat → Int32) (H : Heap) (locs : List Loc) (ls : Array Slot), k c_t_where c_t_light c_t_carries = some (z_t_foggy, z_t_where, z_t_light, z_t_carries) → lv_has ls 3 [(0, .ref A_t), (1, .ref A_q1)] → wd_ G A s.heap (wl_X10_lay G A_t A_t_steps A_t_wet A_t_where A_t_home A_t_light A_t_carries A_t_sightPlace A_t_sightLight A_t_pad A_t_act A_t_whose A_t_whom A_t_tens A_t_had A_t_leaves A_t_apart A_t_stop A_t_restOf A_t_group A_t_along A_t_kept A_t_isKept A_q1 c_t_foggy c_t_walkers c_t_sights c_t_padMany c_t_acts c_t_spent c_t_walks c_t_badAct c_t_badWhy c_t_keptAt c_t_isWriting c_t_where c_t_light c_t_carries c_q1) H locs → W p l e { frames := 0, cells := 0, slots := 0, locals := 0 } s m args below meth c H locs 0 0 Q (F0 m 47 ls [])) : ∀ (n : Nat) (x2 : Int32) (c_t_where : Nat → Int32) (c_t_light : Nat → Int32) (c_t_carries : Nat → Int32) (H : Heap) (locs : List Loc) (ls : Array Slot), fn_X10_lay_l2 c_q1 k n x2 c_t_where c_t_light c_t_carries = some (z_t_foggy, z_t_where, z_t_light, z_t_carries) → lv_has ls 3 [(0, .ref A_t), (1, .ref A_q1), (2, .int x2)] → wd_ G A s.heap (wl_X10_lay G A_t A_t_steps A_t_wet A_t_where A_t_home A_t_light A_t_carries A_t_sightPlace A_t_sightLight A_t_pad A_t_act A_t_whose A_t_whom A_t_tens A_t_had A_t_leaves A_t_apart A_t_stop A_t_restOf A_t_group A_t_along A_t_kept A_t_isKept A_q1 c_t_foggy c_t_walkers c_t_sights c_t_padMany c_t_acts c_t_spent c_t_walks c_t_badAct c_t_badWhy c_t_keptAt c_t_isWriting c_t_where c_t_light c_t_carries c_q1) H locs → W p l e { frames := 0, cells := 0, slots := 0, locals := 0 } s m args below meth c H locs 0 0 Q (F0 m 2 ls []) := by
  have hx := hC.1
  have hb := hC.2.1
  intro n
  induction n with
  | zero =>
    intro x2 c_t_where c_t_light c_t_carries H locs ls hf
    cases (show (none : Option (Int32 × (Nat → Int32) × (Nat → Int32) × (Nat → Int32))) = some _ from hf)
  | succ n hrc =>
    intro x2 c_t_where c_t_light c_t_carries H locs ls hf hl hw
    replace hf : fn_X10_lay_b2 c_q1 (fn_X10_lay_l2 c_q1 k n) k x2 c_t_where c_t_light c_t_carries = some (z_t_foggy, z_t_where, z_t_light, z_t_carries) := hf
    unfold fn_X10_lay_b2 at hf
    refine lv_iload_n hx hb dX10_lay_2 rfl (lv_at hl 2 rfl) ?_
    refine lv_bipush (v := 6) hx hb dX10_lay_3 (by decide) ?_
    refine lv_icmp_ge (tgt := 47) hx hb dX10_lay_5 (by decide) (fun hc => ?_) (fun hc => ?_)
    · replace hf := it_t hc hf
      exact hk c_t_where c_t_light c_t_carries _ _ _ hf (lv_sub hl [0, 1] rfl) hw
    · replace hf := it_f hc hf
      refine lv_aload_n hx hb dX10_lay_8 rfl (lv_at hl 0 rfl) ?_
      refine g_get hC hw fkX10_16 0 rfl rfl dX10_lay_9 ?_
      refine lv_iload_n hx hb dX10_lay_12 rfl (lv_at hl 2 rfl) ?_
      refine lv_aload_n hx hb dX10_lay_13 rfl (lv_at hl 1 rfl) ?_
      refine lv_iload_n hx hb dX10_lay_14 rfl (lv_at hl 2 rfl) ?_
      obtain ⟨hi, hf⟩ := ck_s hf
      refine g_iald hC hw 4 rfl hi dX10_lay_15 ?_
      obtain ⟨hi, hf⟩ := ck_s hf
      obtain ⟨f1, ef1, hf⟩ := lx_s hf
      refine g_iast hC hw 1 rfl hi ef1 dX10_lay_16 (fun H locs hw => ?_)
      have hw : wd_ G A s.heap (wl_X10_lay G A_t A_t_steps A_t_wet A_t_where A_t_home A_t_light A_t_carries A_t_sightPlace A_t_sightLight A_t_pad A_t_act A_t_whose A_t_whom A_t_tens A_t_had A_t_leaves A_t_apart A_t_stop A_t_restOf A_t_group A_t_along A_t_kept A_t_isKept A_q1 c_t_foggy c_t_walkers c_t_sights c_t_padMany c_t_acts c_t_spent c_t_walks c_t_badAct c_t_badWhy c_t_keptAt c_t_isWriting f1 c_t_light c_t_carries c_q1) H locs := hw
      refine lv_aload_n hx hb dX10_lay_17 rfl (lv_at hl 0 rfl) ?_
      refine g_get hC hw fkX10_22 0 rfl rfl dX10_lay_18 ?_
      refine lv_iload_n hx hb dX10_lay_21 rfl (lv_at hl 2 rfl) ?_
      refine lv_aload_n hx hb dX10_lay_22 rfl (lv_at hl 1 rfl) ?_
      refine lv_bipush (v := 6) hx hb dX10_lay_23 (by decide) ?_
      refine lv_iload_n hx hb dX10_lay_25 rfl (lv_at hl 2 rfl) ?_
      refine lv_iadd hx hb dX10_lay_26 ?_
      obtain ⟨hi, hf⟩ := ck_s hf
      refine g_iald hC hw 4 rfl hi dX10_lay_27 ?_
      obtain ⟨hi, hf⟩ := ck_s hf
      obtain ⟨f2, ef2, hf⟩ := lx_s hf
      refine g_iast hC hw 2 rfl hi ef2 dX10_lay_28 (fun H locs hw => ?_)
      have hw : wd_ G A s.heap (wl_X10_lay G A_t A_t_steps A_t_wet A_t_where A_t_home A_t_light A_t_carries A_t_sightPlace A_t_sightLight A_t_pad A_t_act A_t_whose A_t_whom A_t_tens A_t_had A_t_leaves A_t_apart A_t_stop A_t_restOf A_t_group A_t_along A_t_kept A_t_isKept A_q1 c_t_foggy c_t_walkers c_t_sights c_t_padMany c_t_acts c_t_spent c_t_walks c_t_badAct c_t_badWhy c_t_keptAt c_t_isWriting f1 f2 c_t_carries c_q1) H locs := hw
      refine lv_aload_n hx hb dX10_lay_29 rfl (lv_at hl 0 rfl) ?_
      refine g_get hC hw fkX10_25 0 rfl rfl dX10_lay_30 ?_
      refine lv_iload_n hx hb dX10_lay_33 rfl (lv_at hl 2 rfl) ?_
      refine lv_aload_n hx hb dX10_lay_34 rfl (lv_at hl 1 rfl) ?_
      refine lv_bipush (v := 12) hx hb dX10_lay_35 (by decide) ?_
      refine lv_iload_n hx hb dX10_lay_37 rfl (lv_at hl 2 rfl) ?_
      refine lv_iadd hx hb dX10_lay_38 ?_
      obtain ⟨hi, hf⟩ := ck_s hf
      refine g_iald hC hw 4 rfl hi dX10_lay_39 ?_
      obtain ⟨hi, hf⟩ := ck_s hf
      obtain ⟨f3, ef3, hf⟩ := lx_s hf
      refine g_iast hC hw 3 rfl hi ef3 dX10_lay_40 (fun H locs hw => ?_)
      have hw : wd_ G A s.heap (wl_X10_lay G A_t A_t_steps A_t_wet A_t_where A_t_home A_t_light A_t_carries A_t_sightPlace A_t_sightLight A_t_pad A_t_act A_t_whose A_t_whom A_t_tens A_t_had A_t_leaves A_t_apart A_t_stop A_t_restOf A_t_group A_t_along A_t_kept A_t_isKept A_q1 c_t_foggy c_t_walkers c_t_sights c_t_padMany c_t_acts c_t_spent c_t_walks c_t_badAct c_t_badWhy c_t_keptAt c_t_isWriting f1 f2 f3 c_q1) H locs := hw
      refine lv_iinc (v := x2 + 1) (lv' := [(2, .int (x2 + 1)), (0, .ref A_t), (1, .ref A_q1)]) hx hb dX10_lay_41 hl (k := 2) rfl rfl (by decide) rfl (fun ls hl => ?_)
      refine lv_goto (tgt := 2) hx hb dX10_lay_44 (by decide) ?_
      exact hrc (x2 + 1) f1 f2 f3 _ _ _ hf (lv_sub hl [1, 2, 0] rfl) hw
set_option maxHeartbeats 4000000 in
set_option maxRecDepth 100000 in
theorem wn_X10_lay {p : Program} {l : Launch} {e : Env} {s : State} {m : MethodId} {args : Array Value} {below : List Frame} {meth : Method} {c : Code} {G : gw_} {A : Nat → Prop} {Q : State → Prop} {A_t : Nat} {A_t_steps : Nat} {A_t_wet : Nat} {A_t_where : Nat} {A_t_home : Nat} {A_t_light : Nat} {A_t_carries : Nat} {A_t_sightPlace : Nat} {A_t_sightLight : Nat} {A_t_pad : Nat} {A_t_act : Nat} {A_t_whose : Nat} {A_t_whom : Nat} {A_t_tens : Nat} {A_t_had : Nat} {A_t_leaves : Nat} {A_t_apart : Nat} {A_t_stop : Nat} {A_t_restOf : Nat} {A_t_group : Nat} {A_t_along : Nat} {A_t_kept : Nat} {A_t_isKept : Nat} {A_q1 : Nat} {c_t_foggy : Int32} {z_t_foggy : Int32} {c_t_walkers : Int32} {c_t_sights : Int32} {c_t_padMany : Int32} {c_t_acts : Int32} {c_t_spent : Int32} {c_t_walks : Int32} {c_t_badAct : Int32} {c_t_badWhy : Int32} {c_t_keptAt : Int32} {c_t_isWriting : Int32} {c_t_where : Nat → Int32} {z_t_where : Nat → Int32} {c_t_light : Nat → Int32} {z_t_light : Nat → Int32} {c_t_carries : Nat → Int32} {z_t_carries : Nat → Int32} {c_q1 : Nat → Int32} (hC : cx_ p s m c G cX10_lay 3 RX10) (hret : ∀ (pc : Nat) (H : Heap) (locs : List Loc) (ls : Array Slot), decode cX10_lay pc = .ok (.return_, 1) → wd_ G A s.heap (wl_X10_lay G A_t A_t_steps A_t_wet A_t_where A_t_home A_t_light A_t_carries A_t_sightPlace A_t_sightLight A_t_pad A_t_act A_t_whose A_t_whom A_t_tens A_t_had A_t_leaves A_t_apart A_t_stop A_t_restOf A_t_group A_t_along A_t_kept A_t_isKept A_q1 z_t_foggy c_t_walkers c_t_sights c_t_padMany c_t_acts c_t_spent c_t_walks c_t_badAct c_t_badWhy c_t_keptAt c_t_isWriting z_t_where z_t_light z_t_carries c_q1) H locs → W p l e { frames := 0, cells := 0, slots := 0, locals := 0 } s m args below meth c H locs 0 0 Q (F0 m pc ls [])) (hf : fn_X10_lay c_t_foggy c_t_where c_t_light c_t_carries c_q1 = some (z_t_foggy, z_t_where, z_t_light, z_t_carries)) {H : Heap} {locs : List Loc} {ls : Array Slot} (hl : lv_has ls 3 [(0, .ref A_t), (1, .ref A_q1)]) (hw : wd_ G A s.heap (wl_X10_lay G A_t A_t_steps A_t_wet A_t_where A_t_home A_t_light A_t_carries A_t_sightPlace A_t_sightLight A_t_pad A_t_act A_t_whose A_t_whom A_t_tens A_t_had A_t_leaves A_t_apart A_t_stop A_t_restOf A_t_group A_t_along A_t_kept A_t_isKept A_q1 c_t_foggy c_t_walkers c_t_sights c_t_padMany c_t_acts c_t_spent c_t_walks c_t_badAct c_t_badWhy c_t_keptAt c_t_isWriting c_t_where c_t_light c_t_carries c_q1) H locs) : W p l e { frames := 0, cells := 0, slots := 0, locals := 0 } s m args below meth c H locs 0 0 Q (F0 m 0 ls []) := by
  have hx := hC.1
  have hb := hC.2.1
  unfold fn_X10_lay at hf
  refine lv_iconst (v := 0) hx hb dX10_lay_0 (by decide) ?_
  refine lv_istore_n (lv' := [(2, .int 0), (0, .ref A_t), (1, .ref A_q1)]) hx hb dX10_lay_1 rfl hl (by decide) rfl (fun ls hl => ?_)
  refine wn_X10_lay_l2 hC hret (fun v4 v5 v6 H locs ls hf hl hw => ?_) fu_ 0 c_t_where c_t_light c_t_carries _ _ _ hf (lv_sub hl [1, 2, 0] rfl) hw
  refine lv_aload_n hx hb dX10_lay_47 rfl (lv_at hl 0 rfl) ?_
  refine lv_aload_n hx hb dX10_lay_48 rfl (lv_at hl 1 rfl) ?_
  refine lv_bipush (v := 24) hx hb dX10_lay_49 (by decide) ?_
  obtain ⟨hi, hf⟩ := ck_s hf
  refine g_iald hC hw 4 rfl hi dX10_lay_51 ?_
  obtain ⟨y7, ey7, hf⟩ := lx_s hf
  rw [← ey7]
  refine g_put hC hw fpX10_93 0 rfl rfl rfl (Nat.le_of_ble_eq_true rfl) dX10_lay_52 (fun H locs hw => ?_)
  have hw : wd_ G A s.heap (wl_X10_lay G A_t A_t_steps A_t_wet A_t_where A_t_home A_t_light A_t_carries A_t_sightPlace A_t_sightLight A_t_pad A_t_act A_t_whose A_t_whom A_t_tens A_t_had A_t_leaves A_t_apart A_t_stop A_t_restOf A_t_group A_t_along A_t_kept A_t_isKept A_q1 y7 c_t_walkers c_t_sights c_t_padMany c_t_acts c_t_spent c_t_walks c_t_badAct c_t_badWhy c_t_keptAt c_t_isWriting v4 v5 v6 c_q1) H locs := hw
  obtain ⟨h1_, h2_, h3_, h4_⟩ := t4_ hf
  subst h1_
  subst h2_
  subst h3_
  subst h4_
  exact hret _ _ _ _ dX10_lay_55 hw
set_option maxHeartbeats 4000000 in
set_option maxRecDepth 100000 in
theorem cn_X10_lay (l : Launch) (G : gw_) (A_t : Nat) (A_t_steps : Nat) (A_t_wet : Nat) (A_t_where : Nat) (A_t_home : Nat) (A_t_light : Nat) (A_t_carries : Nat) (A_t_sightPlace : Nat) (A_t_sightLight : Nat) (A_t_pad : Nat) (A_t_act : Nat) (A_t_whose : Nat) (A_t_whom : Nat) (A_t_tens : Nat) (A_t_had : Nat) (A_t_leaves : Nat) (A_t_apart : Nat) (A_t_stop : Nat) (A_t_restOf : Nat) (A_t_group : Nat) (A_t_along : Nat) (A_t_kept : Nat) (A_t_isKept : Nat) (A_q1 : Nat) (c_t_foggy : Int32) (c_t_walkers : Int32) (c_t_sights : Int32) (c_t_padMany : Int32) (c_t_acts : Int32) (c_t_spent : Int32) (c_t_walks : Int32) (c_t_badAct : Int32) (c_t_badWhy : Int32) (c_t_keptAt : Int32) (c_t_isWriting : Int32) (c_t_where : Nat → Int32) (c_t_light : Nat → Int32) (c_t_carries : Nat → Int32) (c_q1 : Nat → Int32) (z_t_foggy : Int32) (z_t_where : Nat → Int32) (z_t_light : Nat → Int32) (z_t_carries : Nat → Int32) (hf : fn_X10_lay c_t_foggy c_t_where c_t_light c_t_carries c_q1 = some (z_t_foggy, z_t_where, z_t_light, z_t_carries)) : cv_ l G yX10_lay cX10_lay 3 none 0 0 (wl_X10_lay G A_t A_t_steps A_t_wet A_t_where A_t_home A_t_light A_t_carries A_t_sightPlace A_t_sightLight A_t_pad A_t_act A_t_whose A_t_whom A_t_tens A_t_had A_t_leaves A_t_apart A_t_stop A_t_restOf A_t_group A_t_along A_t_kept A_t_isKept A_q1 c_t_foggy c_t_walkers c_t_sights c_t_padMany c_t_acts c_t_spent c_t_walks c_t_badAct c_t_badWhy c_t_keptAt c_t_isWriting c_t_where c_t_light c_t_carries c_q1) [.ref A_t, .ref A_q1] (wl_X10_lay G A_t A_t_steps A_t_wet A_t_where A_t_home A_t_light A_t_carries A_t_sightPlace A_t_sightLight A_t_pad A_t_act A_t_whose A_t_whom A_t_tens A_t_had A_t_leaves A_t_apart A_t_stop A_t_restOf A_t_group A_t_along A_t_kept A_t_isKept A_q1 z_t_foggy c_t_walkers c_t_sights c_t_padMany c_t_acts c_t_spent c_t_walks c_t_badAct c_t_badWhy c_t_keptAt c_t_isWriting z_t_where z_t_light z_t_carries c_q1) := fun sz => met_intro (by decide) (Nat.le_of_ble_eq_true rfl) (fun p e s m args below meth c ls hsz hC hr hlk hnm hl hw => wn_X10_lay hC (fun pc H locs ls hd hw => g_vret hC hr hlk hw hd) hf hl hw)
