theorem dX10_readOn_0 : decode cX10_readOn 0 = .ok (.iload_n 1, 1) := by decide +kernel
theorem dX10_readOn_1 : decode cX10_readOn 1 = .ok (.ifCond .ne 9, 3) := by decide +kernel
theorem dX10_readOn_4 : decode cX10_readOn 4 = .ok (.aload_n 0, 1) := by decide +kernel
theorem dX10_readOn_5 : decode cX10_readOn 5 = .ok (.iload_n 2, 1) := by decide +kernel
theorem dX10_readOn_6 : decode cX10_readOn 6 = .ok (.invokevirtual 139, 3) := by decide +kernel
theorem dX10_readOn_9 : decode cX10_readOn 9 = .ok (.ireturn, 1) := by decide +kernel
theorem dX10_readOn_10 : decode cX10_readOn 10 = .ok (.iload_n 1, 1) := by decide +kernel
theorem dX10_readOn_11 : decode cX10_readOn 11 = .ok (.iconst 1, 1) := by decide +kernel
theorem dX10_readOn_12 : decode cX10_readOn 12 = .ok (.if_icmp .le 34, 3) := by decide +kernel
theorem dX10_readOn_15 : decode cX10_readOn 15 = .ok (.iload_n 2, 1) := by decide +kernel
theorem dX10_readOn_16 : decode cX10_readOn 16 = .ok (.invokestatic 133, 3) := by decide +kernel
theorem dX10_readOn_19 : decode cX10_readOn 19 = .ok (.ifCond .eq 24, 3) := by decide +kernel
theorem dX10_readOn_22 : decode cX10_readOn 22 = .ok (.aload_n 0, 1) := by decide +kernel
theorem dX10_readOn_23 : decode cX10_readOn 23 = .ok (.iload_n 1, 1) := by decide +kernel
theorem dX10_readOn_24 : decode cX10_readOn 24 = .ok (.iconst 2, 1) := by decide +kernel
theorem dX10_readOn_25 : decode cX10_readOn 25 = .ok (.if_icmp .ne 7, 3) := by decide +kernel
theorem dX10_readOn_28 : decode cX10_readOn 28 = .ok (.iconst 1, 1) := by decide +kernel
theorem dX10_readOn_29 : decode cX10_readOn 29 = .ok (.goto 4, 3) := by decide +kernel
theorem dX10_readOn_32 : decode cX10_readOn 32 = .ok (.iconst 3, 1) := by decide +kernel
theorem dX10_readOn_33 : decode cX10_readOn 33 = .ok (.iload_n 2, 1) := by decide +kernel
theorem dX10_readOn_34 : decode cX10_readOn 34 = .ok (.bipush 65, 2) := by decide +kernel
theorem dX10_readOn_36 : decode cX10_readOn 36 = .ok (.isub, 1) := by decide +kernel
theorem dX10_readOn_37 : decode cX10_readOn 37 = .ok (.invokevirtual 136, 3) := by decide +kernel
theorem dX10_readOn_40 : decode cX10_readOn 40 = .ok (.goto 5, 3) := by decide +kernel
theorem dX10_readOn_43 : decode cX10_readOn 43 = .ok (.bipush (-6), 2) := by decide +kernel
theorem dX10_readOn_45 : decode cX10_readOn 45 = .ok (.ireturn, 1) := by decide +kernel
theorem dX10_readOn_46 : decode cX10_readOn 46 = .ok (.iload_n 2, 1) := by decide +kernel
theorem dX10_readOn_47 : decode cX10_readOn 47 = .ok (.i2l, 1) := by decide +kernel
theorem dX10_readOn_48 : decode cX10_readOn 48 = .ok (.ldc2_w 142, 3) := by decide +kernel
theorem dX10_readOn_51 : decode cX10_readOn 51 = .ok (.ldc2_w 144, 3) := by decide +kernel
theorem dX10_readOn_54 : decode cX10_readOn 54 = .ok (.invokestatic 79, 3) := by decide +kernel
theorem dX10_readOn_57 : decode cX10_readOn 57 = .ok (.ifCond .eq 13, 3) := by decide +kernel
theorem dX10_readOn_60 : decode cX10_readOn 60 = .ok (.aload_n 0, 1) := by decide +kernel
theorem dX10_readOn_61 : decode cX10_readOn 61 = .ok (.iconst 0, 1) := by decide +kernel
theorem dX10_readOn_62 : decode cX10_readOn 62 = .ok (.iload_n 2, 1) := by decide +kernel
theorem dX10_readOn_63 : decode cX10_readOn 63 = .ok (.bipush 97, 2) := by decide +kernel
theorem dX10_readOn_65 : decode cX10_readOn 65 = .ok (.isub, 1) := by decide +kernel
theorem dX10_readOn_66 : decode cX10_readOn 66 = .ok (.invokevirtual 136, 3) := by decide +kernel
theorem dX10_readOn_69 : decode cX10_readOn 69 = .ok (.ireturn, 1) := by decide +kernel
theorem dX10_readOn_70 : decode cX10_readOn 70 = .ok (.iload_n 2, 1) := by decide +kernel
theorem dX10_readOn_71 : decode cX10_readOn 71 = .ok (.bipush 45, 2) := by decide +kernel
theorem dX10_readOn_73 : decode cX10_readOn 73 = .ok (.if_icmp .ne 10, 3) := by decide +kernel
theorem dX10_readOn_76 : decode cX10_readOn 76 = .ok (.aload_n 0, 1) := by decide +kernel
theorem dX10_readOn_77 : decode cX10_readOn 77 = .ok (.iconst 2, 1) := by decide +kernel
theorem dX10_readOn_78 : decode cX10_readOn 78 = .ok (.iconst 0, 1) := by decide +kernel
theorem dX10_readOn_79 : decode cX10_readOn 79 = .ok (.invokevirtual 136, 3) := by decide +kernel
theorem dX10_readOn_82 : decode cX10_readOn 82 = .ok (.ireturn, 1) := by decide +kernel
theorem dX10_readOn_83 : decode cX10_readOn 83 = .ok (.aload_n 0, 1) := by decide +kernel
theorem dX10_readOn_84 : decode cX10_readOn 84 = .ok (.getfield 46, 3) := by decide +kernel
theorem dX10_readOn_87 : decode cX10_readOn 87 = .ok (.aload_n 0, 1) := by decide +kernel
theorem dX10_readOn_88 : decode cX10_readOn 88 = .ok (.getfield 130, 3) := by decide +kernel
theorem dX10_readOn_91 : decode cX10_readOn 91 = .ok (.iload_n 2, 1) := by decide +kernel
theorem dX10_readOn_92 : decode cX10_readOn 92 = .ok (.bipush 48, 2) := by decide +kernel
theorem dX10_readOn_94 : decode cX10_readOn 94 = .ok (.isub, 1) := by decide +kernel
theorem dX10_readOn_95 : decode cX10_readOn 95 = .ok (.iastore, 1) := by decide +kernel
theorem dX10_readOn_96 : decode cX10_readOn 96 = .ok (.iload_n 2, 1) := by decide +kernel
theorem dX10_readOn_97 : decode cX10_readOn 97 = .ok (.bipush 43, 2) := by decide +kernel
theorem dX10_readOn_99 : decode cX10_readOn 99 = .ok (.if_icmp .ne 7, 3) := by decide +kernel
theorem dX10_readOn_102 : decode cX10_readOn 102 = .ok (.iconst 2, 1) := by decide +kernel
theorem dX10_readOn_103 : decode cX10_readOn 103 = .ok (.goto 23, 3) := by decide +kernel
theorem dX10_readOn_106 : decode cX10_readOn 106 = .ok (.iload_n 2, 1) := by decide +kernel
theorem dX10_readOn_107 : decode cX10_readOn 107 = .ok (.i2l, 1) := by decide +kernel
theorem dX10_readOn_108 : decode cX10_readOn 108 = .ok (.ldc2_w 146, 3) := by decide +kernel
theorem dX10_readOn_111 : decode cX10_readOn 111 = .ok (.ldc2_w 148, 3) := by decide +kernel
theorem dX10_readOn_114 : decode cX10_readOn 114 = .ok (.invokestatic 79, 3) := by decide +kernel
theorem dX10_readOn_117 : decode cX10_readOn 117 = .ok (.ifCond .eq 7, 3) := by decide +kernel
theorem dX10_readOn_120 : decode cX10_readOn 120 = .ok (.iconst 3, 1) := by decide +kernel
theorem dX10_readOn_121 : decode cX10_readOn 121 = .ok (.goto 5, 3) := by decide +kernel
theorem dX10_readOn_124 : decode cX10_readOn 124 = .ok (.bipush (-6), 2) := by decide +kernel
theorem dX10_readOn_126 : decode cX10_readOn 126 = .ok (.ireturn, 1) := by decide +kernel
abbrev wl_X10_readOn (G : gw_) (A_t : Nat) (A_t_steps : Nat) (A_t_wet : Nat) (A_t_where : Nat) (A_t_home : Nat) (A_t_light : Nat) (A_t_carries : Nat) (A_t_sightPlace : Nat) (A_t_sightLight : Nat) (A_t_pad : Nat) (A_t_act : Nat) (A_t_whose : Nat) (A_t_whom : Nat) (A_t_tens : Nat) (A_t_had : Nat) (A_t_leaves : Nat) (A_t_apart : Nat) (A_t_stop : Nat) (A_t_restOf : Nat) (A_t_group : Nat) (A_t_along : Nat) (A_t_kept : Nat) (A_t_isKept : Nat) (c_t_foggy : Int32) (c_t_walkers : Int32) (c_t_sights : Int32) (c_t_padMany : Int32) (c_t_acts : Int32) (c_t_spent : Int32) (c_t_walks : Int32) (c_t_badAct : Int32) (c_t_badWhy : Int32) (c_t_keptAt : Int32) (c_t_isWriting : Int32) (c_t_act : Nat → Int32) (c_t_whose : Nat → Int32) (c_t_whom : Nat → Int32) (c_t_tens : Nat → Int32) : va_W := [ob_ A_t 10 [.ref A_t_steps, .ref A_t_wet, .int c_t_foggy, .int c_t_walkers, .ref A_t_where, .ref A_t_home, .ref A_t_light, .ref A_t_carries, .ref A_t_sightPlace, .ref A_t_sightLight, .int c_t_sights, .ref A_t_pad, .int c_t_padMany, .ref A_t_act, .ref A_t_whose, .ref A_t_whom, .ref A_t_tens, .int c_t_acts, .int c_t_spent, .int c_t_walks, .ref A_t_had, .ref A_t_leaves, .int c_t_badAct, .int c_t_badWhy, .ref A_t_apart, .ref A_t_stop, .ref A_t_restOf, .ref A_t_group, .ref A_t_along, .ref A_t_kept, .ref A_t_isKept, .int c_t_keptAt, .int c_t_isWriting], ia_ G A_t_act 60 c_t_act, ia_ G A_t_whose 60 c_t_whose, ia_ G A_t_whom 60 c_t_whom, ia_ G A_t_tens 60 c_t_tens]
def fn_X10_readOn_j33 (c_t_acts : Int32) (c_t_act : Nat → Int32) (c_t_whose : Nat → Int32) (c_t_whom : Nat → Int32) (c_t_tens : Nat → Int32) (x2 : Int32) (s1 : Int32)  : Option (Int32 × Int32 × (Nat → Int32) × (Nat → Int32) × (Nat → Int32) × (Nat → Int32)) :=
  b4_ (fn_X10_close c_t_acts c_t_act c_t_whom s1 (x2 - 65)) fun r18 w19 w20 w21 =>
  some (r18, w19, w20, c_t_whose, w21, c_t_tens)
def fn_X10_readOn (c_t_acts : Int32) (c_t_act : Nat → Int32) (c_t_whose : Nat → Int32) (c_t_whom : Nat → Int32) (c_t_tens : Nat → Int32) (x1 : Int32) (x2 : Int32) : Option (Int32 × Int32 × (Nat → Int32) × (Nat → Int32) × (Nat → Int32) × (Nat → Int32)) :=
  if x1 = 0 then
    b6_ (fn_X10_begin c_t_acts c_t_act c_t_whose c_t_whom c_t_tens x2) fun r23 w24 w25 w26 w27 w28 =>
    some (r23, w24, w25, w26, w27, w28)
  else
    if x1 ≤ 1 then
      b1_ (fn_X10_in (Int32.toInt64 x2) 97 108) fun r1 =>
      if r1 = 0 then
        if x2 = 45 then
          b4_ (fn_X10_close c_t_acts c_t_act c_t_whom 2 0) fun r6 w7 w8 w9 =>
          some (r6, w7, w8, c_t_whose, w9, c_t_tens)
        else
          ck_ c_t_acts 60 <|
          lx_ (upd c_t_tens (Int32.toNatClampNeg c_t_acts) (x2 - 48)) fun f3 =>
          if x2 = 43 then
            some (2, c_t_acts, c_t_act, c_t_whose, c_t_whom, f3)
          else
            b1_ (fn_X10_in (Int32.toInt64 x2) 49 57) fun r4 =>
            if r4 = 0 then
              some ((-6), c_t_acts, c_t_act, c_t_whose, c_t_whom, f3)
            else
              some (3, c_t_acts, c_t_act, c_t_whose, c_t_whom, f3)
      else
        b4_ (fn_X10_close c_t_acts c_t_act c_t_whom 0 (x2 - 97)) fun r11 w12 w13 w14 =>
        some (r11, w12, w13, c_t_whose, w14, c_t_tens)
    else
      b1_ (fn_X10_isLetter x2) fun r16 =>
      if r16 = 0 then
        some ((-6), c_t_acts, c_t_act, c_t_whose, c_t_whom, c_t_tens)
      else
        if x1 = 2 then
          fn_X10_readOn_j33 c_t_acts c_t_act c_t_whose c_t_whom c_t_tens x2 1
        else
          fn_X10_readOn_j33 c_t_acts c_t_act c_t_whose c_t_whom c_t_tens x2 3
set_option maxHeartbeats 4000000 in
set_option maxRecDepth 100000 in
theorem wn_X10_readOn_j33 {p : Program} {l : Launch} {e : Env} {s : State} {m : MethodId} {args : Array Value} {below : List Frame} {meth : Method} {c : Code} {G : gw_} {A : Nat → Prop} {Q : State → Prop} {A_t : Nat} {A_t_steps : Nat} {A_t_wet : Nat} {A_t_where : Nat} {A_t_home : Nat} {A_t_light : Nat} {A_t_carries : Nat} {A_t_sightPlace : Nat} {A_t_sightLight : Nat} {A_t_pad : Nat} {A_t_act : Nat} {A_t_whose : Nat} {A_t_whom : Nat} {A_t_tens : Nat} {A_t_had : Nat} {A_t_leaves : Nat} {A_t_apart : Nat} {A_t_stop : Nat} {A_t_restOf : Nat} {A_t_group : Nat} {A_t_along : Nat} {A_t_kept : Nat} {A_t_isKept : Nat} {c_t_foggy : Int32} {c_t_walkers : Int32} {c_t_sights : Int32} {c_t_padMany : Int32} {c_t_acts : Int32} {z_t_acts : Int32} {c_t_spent : Int32} {c_t_walks : Int32} {c_t_badAct : Int32} {c_t_badWhy : Int32} {c_t_keptAt : Int32} {c_t_isWriting : Int32} {c_t_act : Nat → Int32} {z_t_act : Nat → Int32} {c_t_whose : Nat → Int32} {z_t_whose : Nat → Int32} {c_t_whom : Nat → Int32} {z_t_whom : Nat → Int32} {c_t_tens : Nat → Int32} {z_t_tens : Nat → Int32} {r : Int32} {x2 : Int32} {s1 : Int32} (hC : cx_ p s m c G cX10_readOn 3 RX10) (hret : ∀ (pc : Nat) (H : Heap) (locs : List Loc) (ls : Array Slot), decode cX10_readOn pc = .ok (.ireturn, 1) → wd_ G A s.heap (wl_X10_readOn G A_t A_t_steps A_t_wet A_t_where A_t_home A_t_light A_t_carries A_t_sightPlace A_t_sightLight A_t_pad A_t_act A_t_whose A_t_whom A_t_tens A_t_had A_t_leaves A_t_apart A_t_stop A_t_restOf A_t_group A_t_along A_t_kept A_t_isKept c_t_foggy c_t_walkers c_t_sights c_t_padMany z_t_acts c_t_spent c_t_walks c_t_badAct c_t_badWhy c_t_keptAt c_t_isWriting z_t_act z_t_whose z_t_whom z_t_tens) H locs → W p l e { frames := 3, cells := 0, slots := 0, locals := 66 } s m args below meth c H locs 0 0 Q (F0 m pc ls [.int r]))  (hf : fn_X10_readOn_j33 c_t_acts c_t_act c_t_whose c_t_whom c_t_tens x2 s1 = some (r, z_t_acts, z_t_act, z_t_whose, z_t_whom, z_t_tens)) {H : Heap} {locs : List Loc} {ls : Array Slot} (hl : lv_has ls 3 [(2, .int x2)]) (hw : wd_ G A s.heap (wl_X10_readOn G A_t A_t_steps A_t_wet A_t_where A_t_home A_t_light A_t_carries A_t_sightPlace A_t_sightLight A_t_pad A_t_act A_t_whose A_t_whom A_t_tens A_t_had A_t_leaves A_t_apart A_t_stop A_t_restOf A_t_group A_t_along A_t_kept A_t_isKept c_t_foggy c_t_walkers c_t_sights c_t_padMany c_t_acts c_t_spent c_t_walks c_t_badAct c_t_badWhy c_t_keptAt c_t_isWriting c_t_act c_t_whose c_t_whom c_t_tens) H locs) : W p l e { frames := 3, cells := 0, slots := 0, locals := 66 } s m args below meth c H locs 0 0 Q (F0 m 33 ls [.int s1, .ref A_t]) := by
  have hx := hC.1
  have hb := hC.2.1
  unfold fn_X10_readOn_j33 at hf
  refine lv_iload_n hx hb dX10_readOn_33 rfl (lv_at hl 0 rfl) ?_
  refine lv_bipush (v := 65) hx hb dX10_readOn_34 (by decide) ?_
  refine lv_isub hx hb dX10_readOn_36 ?_
  obtain ⟨r18, w19, w20, w21, hq22, hf⟩ := b4_s hf
  refine g_cVi hC hw mvX10_136 (cn_X10_close l G A_t A_t_steps A_t_wet A_t_where A_t_home A_t_light A_t_carries A_t_sightPlace A_t_sightLight A_t_pad A_t_act A_t_whose A_t_whom A_t_tens A_t_had A_t_leaves A_t_apart A_t_stop A_t_restOf A_t_group A_t_along A_t_kept A_t_isKept c_t_foggy c_t_walkers c_t_sights c_t_padMany c_t_acts c_t_spent c_t_walks c_t_badAct c_t_badWhy c_t_keptAt c_t_isWriting c_t_act c_t_whom s1 (x2 - 65) r18 w19 w20 w21 hq22) [0, 1, 3] rfl (by decide) rfl 0 rfl rfl rfl hl.1 rfl (Nat.le_of_ble_eq_true rfl) ⟨Nat.le_of_ble_eq_true rfl, Nat.le_of_ble_eq_true rfl⟩ ⟨Nat.le_refl _, Nat.le_refl _⟩ dX10_readOn_37 (fun H locs hw => ?_)
  have hw : wd_ G A s.heap (wl_X10_readOn G A_t A_t_steps A_t_wet A_t_where A_t_home A_t_light A_t_carries A_t_sightPlace A_t_sightLight A_t_pad A_t_act A_t_whose A_t_whom A_t_tens A_t_had A_t_leaves A_t_apart A_t_stop A_t_restOf A_t_group A_t_along A_t_kept A_t_isKept c_t_foggy c_t_walkers c_t_sights c_t_padMany w19 c_t_spent c_t_walks c_t_badAct c_t_badWhy c_t_keptAt c_t_isWriting w20 c_t_whose w21 c_t_tens) H locs := hw
  refine lv_goto (tgt := 45) hx hb dX10_readOn_40 (by decide) ?_
  obtain ⟨h1_, h2_, h3_, h4_, h5_, h6_⟩ := t6_ hf
  subst h1_
  subst h2_
  subst h3_
  subst h4_
  subst h5_
  subst h6_
  exact hret _ _ _ _ dX10_readOn_45 hw
set_option maxHeartbeats 4000000 in
set_option maxRecDepth 100000 in
theorem wn_X10_readOn {p : Program} {l : Launch} {e : Env} {s : State} {m : MethodId} {args : Array Value} {below : List Frame} {meth : Method} {c : Code} {G : gw_} {A : Nat → Prop} {Q : State → Prop} {A_t : Nat} {A_t_steps : Nat} {A_t_wet : Nat} {A_t_where : Nat} {A_t_home : Nat} {A_t_light : Nat} {A_t_carries : Nat} {A_t_sightPlace : Nat} {A_t_sightLight : Nat} {A_t_pad : Nat} {A_t_act : Nat} {A_t_whose : Nat} {A_t_whom : Nat} {A_t_tens : Nat} {A_t_had : Nat} {A_t_leaves : Nat} {A_t_apart : Nat} {A_t_stop : Nat} {A_t_restOf : Nat} {A_t_group : Nat} {A_t_along : Nat} {A_t_kept : Nat} {A_t_isKept : Nat} {c_t_foggy : Int32} {c_t_walkers : Int32} {c_t_sights : Int32} {c_t_padMany : Int32} {c_t_acts : Int32} {z_t_acts : Int32} {c_t_spent : Int32} {c_t_walks : Int32} {c_t_badAct : Int32} {c_t_badWhy : Int32} {c_t_keptAt : Int32} {c_t_isWriting : Int32} {c_t_act : Nat → Int32} {z_t_act : Nat → Int32} {c_t_whose : Nat → Int32} {z_t_whose : Nat → Int32} {c_t_whom : Nat → Int32} {z_t_whom : Nat → Int32} {c_t_tens : Nat → Int32} {z_t_tens : Nat → Int32} {r : Int32} {x1 : Int32} {x2 : Int32} (hC : cx_ p s m c G cX10_readOn 3 RX10) (hret : ∀ (pc : Nat) (H : Heap) (locs : List Loc) (ls : Array Slot), decode cX10_readOn pc = .ok (.ireturn, 1) → wd_ G A s.heap (wl_X10_readOn G A_t A_t_steps A_t_wet A_t_where A_t_home A_t_light A_t_carries A_t_sightPlace A_t_sightLight A_t_pad A_t_act A_t_whose A_t_whom A_t_tens A_t_had A_t_leaves A_t_apart A_t_stop A_t_restOf A_t_group A_t_along A_t_kept A_t_isKept c_t_foggy c_t_walkers c_t_sights c_t_padMany z_t_acts c_t_spent c_t_walks c_t_badAct c_t_badWhy c_t_keptAt c_t_isWriting z_t_act z_t_whose z_t_whom z_t_tens) H locs → W p l e { frames := 3, cells := 0, slots := 0, locals := 66 } s m args below meth c H locs 0 0 Q (F0 m pc ls [.int r])) (hf : fn_X10_readOn c_t_acts c_t_act c_t_whose c_t_whom c_t_tens x1 x2 = some (r, z_t_acts, z_t_act, z_t_whose, z_t_whom, z_t_tens)) {H : Heap} {locs : List Loc} {ls : Array Slot} (hl : lv_has ls 3 [(0, .ref A_t), (1, .int x1), (2, .int x2)]) (hw : wd_ G A s.heap (wl_X10_readOn G A_t A_t_steps A_t_wet A_t_where A_t_home A_t_light A_t_carries A_t_sightPlace A_t_sightLight A_t_pad A_t_act A_t_whose A_t_whom A_t_tens A_t_had A_t_leaves A_t_apart A_t_stop A_t_restOf A_t_group A_t_along A_t_kept A_t_isKept c_t_foggy c_t_walkers c_t_sights c_t_padMany c_t_acts c_t_spent c_t_walks c_t_badAct c_t_badWhy c_t_keptAt c_t_isWriting c_t_act c_t_whose c_t_whom c_t_tens) H locs) : W p l e { frames := 3, cells := 0, slots := 0, locals := 66 } s m args below meth c H locs 0 0 Q (F0 m 0 ls []) := by
  have hx := hC.1
  have hb := hC.2.1
  unfold fn_X10_readOn at hf
  refine lv_iload_n hx hb dX10_readOn_0 rfl (lv_at hl 1 rfl) ?_
  refine lv_if_ne (tgt := 10) hx hb dX10_readOn_1 (by decide) (fun hc => ?_) (fun hc => ?_)
  · replace hf := it_f hc hf
    refine lv_iload_n hx hb dX10_readOn_10 rfl (lv_at hl 1 rfl) ?_
    refine lv_iconst (v := 1) hx hb dX10_readOn_11 (by decide) ?_
    refine lv_icmp_le (tgt := 46) hx hb dX10_readOn_12 (by decide) (fun hc => ?_) (fun hc => ?_)
    · replace hf := it_t hc hf
      refine lv_iload_n hx hb dX10_readOn_46 rfl (lv_at hl 2 rfl) ?_
      refine lv_i2l hx hb dX10_readOn_47 rfl ?_
      refine g_ldc2 (v := 97) hC (tb4 174 rfl rfl) dX10_readOn_48 ?_
      refine g_ldc2 (v := 108) hC (tb4 175 rfl rfl) dX10_readOn_51 ?_
      obtain ⟨r1, hq2, hf⟩ := b1_s hf
      refine h_cSi hC hw msX10_79 (cn_X10_in l G (Int32.toInt64 x2) 97 108 r1 hq2) [] rfl (by decide) rfl hl.1 rfl (Nat.le_of_ble_eq_true rfl) ⟨Nat.le_of_ble_eq_true rfl, Nat.le_of_ble_eq_true rfl⟩ ⟨Nat.le_refl _, Nat.le_refl _⟩ dX10_readOn_54 (fun H locs hw => ?_)
      refine lv_if_eq (tgt := 70) hx hb dX10_readOn_57 (by decide) (fun hc => ?_) (fun hc => ?_)
      · replace hf := it_t hc hf
        refine lv_iload_n hx hb dX10_readOn_70 rfl (lv_at hl 2 rfl) ?_
        refine lv_bipush (v := 45) hx hb dX10_readOn_71 (by decide) ?_
        refine lv_icmp_ne (tgt := 83) hx hb dX10_readOn_73 (by decide) (fun hc => ?_) (fun hc => ?_)
        · replace hf := it_f hc hf
          refine lv_aload_n hx hb dX10_readOn_83 rfl (lv_at hl 0 rfl) ?_
          refine g_get hC hw fkX10_46 0 rfl rfl dX10_readOn_84 ?_
          refine lv_aload_n hx hb dX10_readOn_87 rfl (lv_at hl 0 rfl) ?_
          refine g_get hC hw fkX10_130 0 rfl rfl dX10_readOn_88 ?_
          refine lv_iload_n hx hb dX10_readOn_91 rfl (lv_at hl 2 rfl) ?_
          refine lv_bipush (v := 48) hx hb dX10_readOn_92 (by decide) ?_
          refine lv_isub hx hb dX10_readOn_94 ?_
          obtain ⟨hi, hf⟩ := ck_s hf
          obtain ⟨f3, ef3, hf⟩ := lx_s hf
          refine g_iast hC hw 4 rfl hi ef3 dX10_readOn_95 (fun H locs hw => ?_)
          have hw : wd_ G A s.heap (wl_X10_readOn G A_t A_t_steps A_t_wet A_t_where A_t_home A_t_light A_t_carries A_t_sightPlace A_t_sightLight A_t_pad A_t_act A_t_whose A_t_whom A_t_tens A_t_had A_t_leaves A_t_apart A_t_stop A_t_restOf A_t_group A_t_along A_t_kept A_t_isKept c_t_foggy c_t_walkers c_t_sights c_t_padMany c_t_acts c_t_spent c_t_walks c_t_badAct c_t_badWhy c_t_keptAt c_t_isWriting c_t_act c_t_whose c_t_whom f3) H locs := hw
          refine lv_iload_n hx hb dX10_readOn_96 rfl (lv_at hl 2 rfl) ?_
          refine lv_bipush (v := 43) hx hb dX10_readOn_97 (by decide) ?_
          refine lv_icmp_ne (tgt := 106) hx hb dX10_readOn_99 (by decide) (fun hc => ?_) (fun hc => ?_)
          · replace hf := it_f hc hf
            refine lv_iload_n hx hb dX10_readOn_106 rfl (lv_at hl 2 rfl) ?_
            refine lv_i2l hx hb dX10_readOn_107 rfl ?_
            refine g_ldc2 (v := 49) hC (tb4 176 rfl rfl) dX10_readOn_108 ?_
            refine g_ldc2 (v := 57) hC (tb4 177 rfl rfl) dX10_readOn_111 ?_
            obtain ⟨r4, hq5, hf⟩ := b1_s hf
            refine h_cSi hC hw msX10_79 (cn_X10_in l G (Int32.toInt64 x2) 49 57 r4 hq5) [] rfl (by decide) rfl hl.1 rfl (Nat.le_of_ble_eq_true rfl) ⟨Nat.le_of_ble_eq_true rfl, Nat.le_of_ble_eq_true rfl⟩ ⟨Nat.le_refl _, Nat.le_refl _⟩ dX10_readOn_114 (fun H locs hw => ?_)
            refine lv_if_eq (tgt := 124) hx hb dX10_readOn_117 (by decide) (fun hc => ?_) (fun hc => ?_)
            · replace hf := it_t hc hf
              refine lv_bipush (v := (-6)) hx hb dX10_readOn_124 (by decide) ?_
              obtain ⟨h1_, h2_, h3_, h4_, h5_, h6_⟩ := t6_ hf
              subst h1_
              subst h2_
              subst h3_
              subst h4_
              subst h5_
              subst h6_
              exact hret _ _ _ _ dX10_readOn_126 hw
            · replace hf := it_f hc hf
              refine lv_iconst (v := 3) hx hb dX10_readOn_120 (by decide) ?_
              refine lv_goto (tgt := 126) hx hb dX10_readOn_121 (by decide) ?_
              obtain ⟨h1_, h2_, h3_, h4_, h5_, h6_⟩ := t6_ hf
              subst h1_
              subst h2_
              subst h3_
              subst h4_
              subst h5_
              subst h6_
              exact hret _ _ _ _ dX10_readOn_126 hw
          · replace hf := it_t hc hf
            refine lv_iconst (v := 2) hx hb dX10_readOn_102 (by decide) ?_
            refine lv_goto (tgt := 126) hx hb dX10_readOn_103 (by decide) ?_
            obtain ⟨h1_, h2_, h3_, h4_, h5_, h6_⟩ := t6_ hf
            subst h1_
            subst h2_
            subst h3_
            subst h4_
            subst h5_
            subst h6_
            exact hret _ _ _ _ dX10_readOn_126 hw
        · replace hf := it_t hc hf
          refine lv_aload_n hx hb dX10_readOn_76 rfl (lv_at hl 0 rfl) ?_
          refine lv_iconst (v := 2) hx hb dX10_readOn_77 (by decide) ?_
          refine lv_iconst (v := 0) hx hb dX10_readOn_78 (by decide) ?_
          obtain ⟨r6, w7, w8, w9, hq10, hf⟩ := b4_s hf
          refine g_cVi hC hw mvX10_136 (cn_X10_close l G A_t A_t_steps A_t_wet A_t_where A_t_home A_t_light A_t_carries A_t_sightPlace A_t_sightLight A_t_pad A_t_act A_t_whose A_t_whom A_t_tens A_t_had A_t_leaves A_t_apart A_t_stop A_t_restOf A_t_group A_t_along A_t_kept A_t_isKept c_t_foggy c_t_walkers c_t_sights c_t_padMany c_t_acts c_t_spent c_t_walks c_t_badAct c_t_badWhy c_t_keptAt c_t_isWriting c_t_act c_t_whom 2 0 r6 w7 w8 w9 hq10) [0, 1, 3] rfl (by decide) rfl 0 rfl rfl rfl hl.1 rfl (Nat.le_of_ble_eq_true rfl) ⟨Nat.le_of_ble_eq_true rfl, Nat.le_of_ble_eq_true rfl⟩ ⟨Nat.le_refl _, Nat.le_refl _⟩ dX10_readOn_79 (fun H locs hw => ?_)
          have hw : wd_ G A s.heap (wl_X10_readOn G A_t A_t_steps A_t_wet A_t_where A_t_home A_t_light A_t_carries A_t_sightPlace A_t_sightLight A_t_pad A_t_act A_t_whose A_t_whom A_t_tens A_t_had A_t_leaves A_t_apart A_t_stop A_t_restOf A_t_group A_t_along A_t_kept A_t_isKept c_t_foggy c_t_walkers c_t_sights c_t_padMany w7 c_t_spent c_t_walks c_t_badAct c_t_badWhy c_t_keptAt c_t_isWriting w8 c_t_whose w9 c_t_tens) H locs := hw
          obtain ⟨h1_, h2_, h3_, h4_, h5_, h6_⟩ := t6_ hf
          subst h1_
          subst h2_
          subst h3_
          subst h4_
          subst h5_
          subst h6_
          exact hret _ _ _ _ dX10_readOn_82 hw
      · replace hf := it_f hc hf
        refine lv_aload_n hx hb dX10_readOn_60 rfl (lv_at hl 0 rfl) ?_
        refine lv_iconst (v := 0) hx hb dX10_readOn_61 (by decide) ?_
        refine lv_iload_n hx hb dX10_readOn_62 rfl (lv_at hl 2 rfl) ?_
        refine lv_bipush (v := 97) hx hb dX10_readOn_63 (by decide) ?_
        refine lv_isub hx hb dX10_readOn_65 ?_
        obtain ⟨r11, w12, w13, w14, hq15, hf⟩ := b4_s hf
        refine g_cVi hC hw mvX10_136 (cn_X10_close l G A_t A_t_steps A_t_wet A_t_where A_t_home A_t_light A_t_carries A_t_sightPlace A_t_sightLight A_t_pad A_t_act A_t_whose A_t_whom A_t_tens A_t_had A_t_leaves A_t_apart A_t_stop A_t_restOf A_t_group A_t_along A_t_kept A_t_isKept c_t_foggy c_t_walkers c_t_sights c_t_padMany c_t_acts c_t_spent c_t_walks c_t_badAct c_t_badWhy c_t_keptAt c_t_isWriting c_t_act c_t_whom 0 (x2 - 97) r11 w12 w13 w14 hq15) [0, 1, 3] rfl (by decide) rfl 0 rfl rfl rfl hl.1 rfl (Nat.le_of_ble_eq_true rfl) ⟨Nat.le_of_ble_eq_true rfl, Nat.le_of_ble_eq_true rfl⟩ ⟨Nat.le_refl _, Nat.le_refl _⟩ dX10_readOn_66 (fun H locs hw => ?_)
        have hw : wd_ G A s.heap (wl_X10_readOn G A_t A_t_steps A_t_wet A_t_where A_t_home A_t_light A_t_carries A_t_sightPlace A_t_sightLight A_t_pad A_t_act A_t_whose A_t_whom A_t_tens A_t_had A_t_leaves A_t_apart A_t_stop A_t_restOf A_t_group A_t_along A_t_kept A_t_isKept c_t_foggy c_t_walkers c_t_sights c_t_padMany w12 c_t_spent c_t_walks c_t_badAct c_t_badWhy c_t_keptAt c_t_isWriting w13 c_t_whose w14 c_t_tens) H locs := hw
        obtain ⟨h1_, h2_, h3_, h4_, h5_, h6_⟩ := t6_ hf
        subst h1_
        subst h2_
        subst h3_
        subst h4_
        subst h5_
        subst h6_
        exact hret _ _ _ _ dX10_readOn_69 hw
    · replace hf := it_f hc hf
      refine lv_iload_n hx hb dX10_readOn_15 rfl (lv_at hl 2 rfl) ?_
      obtain ⟨r16, hq17, hf⟩ := b1_s hf
      refine h_cSi hC hw msX10_133 (cn_X10_isLetter l G x2 r16 hq17) [] rfl (by decide) rfl hl.1 rfl (Nat.le_of_ble_eq_true rfl) ⟨Nat.le_of_ble_eq_true rfl, Nat.le_of_ble_eq_true rfl⟩ ⟨Nat.le_refl _, Nat.le_refl _⟩ dX10_readOn_16 (fun H locs hw => ?_)
      refine lv_if_eq (tgt := 43) hx hb dX10_readOn_19 (by decide) (fun hc => ?_) (fun hc => ?_)
      · replace hf := it_t hc hf
        refine lv_bipush (v := (-6)) hx hb dX10_readOn_43 (by decide) ?_
        obtain ⟨h1_, h2_, h3_, h4_, h5_, h6_⟩ := t6_ hf
        subst h1_
        subst h2_
        subst h3_
        subst h4_
        subst h5_
        subst h6_
        exact hret _ _ _ _ dX10_readOn_45 hw
      · replace hf := it_f hc hf
        refine lv_aload_n hx hb dX10_readOn_22 rfl (lv_at hl 0 rfl) ?_
        refine lv_iload_n hx hb dX10_readOn_23 rfl (lv_at hl 1 rfl) ?_
        refine lv_iconst (v := 2) hx hb dX10_readOn_24 (by decide) ?_
        refine lv_icmp_ne (tgt := 32) hx hb dX10_readOn_25 (by decide) (fun hc => ?_) (fun hc => ?_)
        · replace hf := it_f hc hf
          refine lv_iconst (v := 3) hx hb dX10_readOn_32 (by decide) ?_
          exact wn_X10_readOn_j33 hC hret hf (lv_sub hl [2] rfl) hw
        · replace hf := it_t hc hf
          refine lv_iconst (v := 1) hx hb dX10_readOn_28 (by decide) ?_
          refine lv_goto (tgt := 33) hx hb dX10_readOn_29 (by decide) ?_
          exact wn_X10_readOn_j33 hC hret hf (lv_sub hl [2] rfl) hw
  · replace hf := it_t hc hf
    refine lv_aload_n hx hb dX10_readOn_4 rfl (lv_at hl 0 rfl) ?_
    refine lv_iload_n hx hb dX10_readOn_5 rfl (lv_at hl 2 rfl) ?_
    obtain ⟨r23, w24, w25, w26, w27, w28, hq29, hf⟩ := b6_s hf
    refine g_cVi hC hw mvX10_139 (cn_X10_begin l G A_t A_t_steps A_t_wet A_t_where A_t_home A_t_light A_t_carries A_t_sightPlace A_t_sightLight A_t_pad A_t_act A_t_whose A_t_whom A_t_tens A_t_had A_t_leaves A_t_apart A_t_stop A_t_restOf A_t_group A_t_along A_t_kept A_t_isKept c_t_foggy c_t_walkers c_t_sights c_t_padMany c_t_acts c_t_spent c_t_walks c_t_badAct c_t_badWhy c_t_keptAt c_t_isWriting c_t_act c_t_whose c_t_whom c_t_tens x2 r23 w24 w25 w26 w27 w28 hq29) [0, 1, 2, 3, 4] rfl (by decide) rfl 0 rfl rfl rfl hl.1 rfl (Nat.le_of_ble_eq_true rfl) ⟨Nat.le_of_ble_eq_true rfl, Nat.le_of_ble_eq_true rfl⟩ ⟨Nat.le_refl _, Nat.le_refl _⟩ dX10_readOn_6 (fun H locs hw => ?_)
    have hw : wd_ G A s.heap (wl_X10_readOn G A_t A_t_steps A_t_wet A_t_where A_t_home A_t_light A_t_carries A_t_sightPlace A_t_sightLight A_t_pad A_t_act A_t_whose A_t_whom A_t_tens A_t_had A_t_leaves A_t_apart A_t_stop A_t_restOf A_t_group A_t_along A_t_kept A_t_isKept c_t_foggy c_t_walkers c_t_sights c_t_padMany w24 c_t_spent c_t_walks c_t_badAct c_t_badWhy c_t_keptAt c_t_isWriting w25 w26 w27 w28) H locs := hw
    obtain ⟨h1_, h2_, h3_, h4_, h5_, h6_⟩ := t6_ hf
    subst h1_
    subst h2_
    subst h3_
    subst h4_
    subst h5_
    subst h6_
    exact hret _ _ _ _ dX10_readOn_9 hw
set_option maxHeartbeats 4000000 in
set_option maxRecDepth 100000 in
theorem cn_X10_readOn (l : Launch) (G : gw_) (A_t : Nat) (A_t_steps : Nat) (A_t_wet : Nat) (A_t_where : Nat) (A_t_home : Nat) (A_t_light : Nat) (A_t_carries : Nat) (A_t_sightPlace : Nat) (A_t_sightLight : Nat) (A_t_pad : Nat) (A_t_act : Nat) (A_t_whose : Nat) (A_t_whom : Nat) (A_t_tens : Nat) (A_t_had : Nat) (A_t_leaves : Nat) (A_t_apart : Nat) (A_t_stop : Nat) (A_t_restOf : Nat) (A_t_group : Nat) (A_t_along : Nat) (A_t_kept : Nat) (A_t_isKept : Nat) (c_t_foggy : Int32) (c_t_walkers : Int32) (c_t_sights : Int32) (c_t_padMany : Int32) (c_t_acts : Int32) (c_t_spent : Int32) (c_t_walks : Int32) (c_t_badAct : Int32) (c_t_badWhy : Int32) (c_t_keptAt : Int32) (c_t_isWriting : Int32) (c_t_act : Nat → Int32) (c_t_whose : Nat → Int32) (c_t_whom : Nat → Int32) (c_t_tens : Nat → Int32) (x1 : Int32) (x2 : Int32) (r : Int32) (z_t_acts : Int32) (z_t_act : Nat → Int32) (z_t_whose : Nat → Int32) (z_t_whom : Nat → Int32) (z_t_tens : Nat → Int32) (hf : fn_X10_readOn c_t_acts c_t_act c_t_whose c_t_whom c_t_tens x1 x2 = some (r, z_t_acts, z_t_act, z_t_whose, z_t_whom, z_t_tens)) : ci_ l G yX10_readOn cX10_readOn 3 (some .int) 3 66 (wl_X10_readOn G A_t A_t_steps A_t_wet A_t_where A_t_home A_t_light A_t_carries A_t_sightPlace A_t_sightLight A_t_pad A_t_act A_t_whose A_t_whom A_t_tens A_t_had A_t_leaves A_t_apart A_t_stop A_t_restOf A_t_group A_t_along A_t_kept A_t_isKept c_t_foggy c_t_walkers c_t_sights c_t_padMany c_t_acts c_t_spent c_t_walks c_t_badAct c_t_badWhy c_t_keptAt c_t_isWriting c_t_act c_t_whose c_t_whom c_t_tens) [.ref A_t, .int x1, .int x2] r (wl_X10_readOn G A_t A_t_steps A_t_wet A_t_where A_t_home A_t_light A_t_carries A_t_sightPlace A_t_sightLight A_t_pad A_t_act A_t_whose A_t_whom A_t_tens A_t_had A_t_leaves A_t_apart A_t_stop A_t_restOf A_t_group A_t_along A_t_kept A_t_isKept c_t_foggy c_t_walkers c_t_sights c_t_padMany z_t_acts c_t_spent c_t_walks c_t_badAct c_t_badWhy c_t_keptAt c_t_isWriting z_t_act z_t_whose z_t_whom z_t_tens) := fun sz => met_intro (by decide) (Nat.le_of_ble_eq_true rfl) (fun p e s m args below meth c ls hsz hC hr hlk hnm hl hw => wn_X10_readOn hC (fun pc H locs ls hd hw => g_iret hC hr hlk hw rfl rfl hd) hf hl hw)

theorem dX10_fault_0 : decode cX10_fault 0 = .ok (.aload_n 0, 1) := by decide +kernel
theorem dX10_fault_1 : decode cX10_fault 1 = .ok (.iconst 0, 1) := by decide +kernel
theorem dX10_fault_2 : decode cX10_fault 2 = .ok (.putfield 130, 3) := by decide +kernel
theorem dX10_fault_5 : decode cX10_fault 5 = .ok (.iconst 0, 1) := by decide +kernel
theorem dX10_fault_6 : decode cX10_fault 6 = .ok (.istore_n 1, 1) := by decide +kernel
theorem dX10_fault_7 : decode cX10_fault 7 = .ok (.iconst 0, 1) := by decide +kernel
theorem dX10_fault_8 : decode cX10_fault 8 = .ok (.istore_n 2, 1) := by decide +kernel
theorem dX10_fault_9 : decode cX10_fault 9 = .ok (.iload_n 2, 1) := by decide +kernel
theorem dX10_fault_10 : decode cX10_fault 10 = .ok (.aload_n 0, 1) := by decide +kernel
theorem dX10_fault_11 : decode cX10_fault 11 = .ok (.getfield 123, 3) := by decide +kernel
theorem dX10_fault_14 : decode cX10_fault 14 = .ok (.if_icmp .ge 27, 3) := by decide +kernel
theorem dX10_fault_17 : decode cX10_fault 17 = .ok (.aload_n 0, 1) := by decide +kernel
theorem dX10_fault_18 : decode cX10_fault 18 = .ok (.iload_n 1, 1) := by decide +kernel
theorem dX10_fault_19 : decode cX10_fault 19 = .ok (.aload_n 0, 1) := by decide +kernel
theorem dX10_fault_20 : decode cX10_fault 20 = .ok (.getfield 34, 3) := by decide +kernel
theorem dX10_fault_23 : decode cX10_fault 23 = .ok (.iload_n 2, 1) := by decide +kernel
theorem dX10_fault_24 : decode cX10_fault 24 = .ok (.iaload, 1) := by decide +kernel
theorem dX10_fault_25 : decode cX10_fault 25 = .ok (.invokevirtual 150, 3) := by decide +kernel
theorem dX10_fault_28 : decode cX10_fault 28 = .ok (.istore_n 1, 1) := by decide +kernel
theorem dX10_fault_29 : decode cX10_fault 29 = .ok (.iload_n 1, 1) := by decide +kernel
theorem dX10_fault_30 : decode cX10_fault 30 = .ok (.ifCond .ge 5, 3) := by decide +kernel
theorem dX10_fault_33 : decode cX10_fault 33 = .ok (.iload_n 2, 1) := by decide +kernel
theorem dX10_fault_34 : decode cX10_fault 34 = .ok (.ireturn, 1) := by decide +kernel
theorem dX10_fault_35 : decode cX10_fault 35 = .ok (.iinc 2 1, 3) := by decide +kernel
theorem dX10_fault_38 : decode cX10_fault 38 = .ok (.goto (-29), 3) := by decide +kernel
theorem dX10_fault_41 : decode cX10_fault 41 = .ok (.iload_n 1, 1) := by decide +kernel
theorem dX10_fault_42 : decode cX10_fault 42 = .ok (.ifCond .ne 8, 3) := by decide +kernel
theorem dX10_fault_45 : decode cX10_fault 45 = .ok (.bipush (-6), 2) := by decide +kernel
theorem dX10_fault_47 : decode cX10_fault 47 = .ok (.goto 7, 3) := by decide +kernel
theorem dX10_fault_50 : decode cX10_fault 50 = .ok (.aload_n 0, 1) := by decide +kernel
theorem dX10_fault_51 : decode cX10_fault 51 = .ok (.getfield 123, 3) := by decide +kernel
theorem dX10_fault_54 : decode cX10_fault 54 = .ok (.ireturn, 1) := by decide +kernel
abbrev wl_X10_fault (G : gw_) (A_t : Nat) (A_t_steps : Nat) (A_t_wet : Nat) (A_t_where : Nat) (A_t_home : Nat) (A_t_light : Nat) (A_t_carries : Nat) (A_t_sightPlace : Nat) (A_t_sightLight : Nat) (A_t_pad : Nat) (A_t_act : Nat) (A_t_whose : Nat) (A_t_whom : Nat) (A_t_tens : Nat) (A_t_had : Nat) (A_t_leaves : Nat) (A_t_apart : Nat) (A_t_stop : Nat) (A_t_restOf : Nat) (A_t_group : Nat) (A_t_along : Nat) (A_t_kept : Nat) (A_t_isKept : Nat) (c_t_foggy : Int32) (c_t_walkers : Int32) (c_t_sights : Int32) (c_t_padMany : Int32) (c_t_acts : Int32) (c_t_spent : Int32) (c_t_walks : Int32) (c_t_badAct : Int32) (c_t_badWhy : Int32) (c_t_keptAt : Int32) (c_t_isWriting : Int32) (c_t_pad : Nat → Int32) (c_t_act : Nat → Int32) (c_t_whose : Nat → Int32) (c_t_whom : Nat → Int32) (c_t_tens : Nat → Int32) : va_W := [ob_ A_t 10 [.ref A_t_steps, .ref A_t_wet, .int c_t_foggy, .int c_t_walkers, .ref A_t_where, .ref A_t_home, .ref A_t_light, .ref A_t_carries, .ref A_t_sightPlace, .ref A_t_sightLight, .int c_t_sights, .ref A_t_pad, .int c_t_padMany, .ref A_t_act, .ref A_t_whose, .ref A_t_whom, .ref A_t_tens, .int c_t_acts, .int c_t_spent, .int c_t_walks, .ref A_t_had, .ref A_t_leaves, .int c_t_badAct, .int c_t_badWhy, .ref A_t_apart, .ref A_t_stop, .ref A_t_restOf, .ref A_t_group, .ref A_t_along, .ref A_t_kept, .ref A_t_isKept, .int c_t_keptAt, .int c_t_isWriting], ia_ G A_t_pad 60 c_t_pad, ia_ G A_t_act 60 c_t_act, ia_ G A_t_whose 60 c_t_whose, ia_ G A_t_whom 60 c_t_whom, ia_ G A_t_tens 60 c_t_tens]
def fn_X10_fault_b9 (c_t_padMany : Int32) (c_t_pad : Nat → Int32) (rc : Int32 → Int32 → Int32 → (Nat → Int32) → (Nat → Int32) → (Nat → Int32) → (Nat → Int32) → Option (Int32 × Int32 × (Nat → Int32) × (Nat → Int32) × (Nat → Int32) × (Nat → Int32))) (k : Int32 → Int32 → (Nat → Int32) → (Nat → Int32) → (Nat → Int32) → (Nat → Int32) → Option (Int32 × Int32 × (Nat → Int32) × (Nat → Int32) × (Nat → Int32) × (Nat → Int32))) (x1 : Int32) (x2 : Int32) (c_t_acts : Int32) (c_t_act : Nat → Int32) (c_t_whose : Nat → Int32) (c_t_whom : Nat → Int32) (c_t_tens : Nat → Int32) : Option (Int32 × Int32 × (Nat → Int32) × (Nat → Int32) × (Nat → Int32) × (Nat → Int32)) :=
  if c_t_padMany ≤ x2 then
    k x1 c_t_acts c_t_act c_t_whose c_t_whom c_t_tens
  else
    ck_ x2 60 <|
    b6_ (fn_X10_readOn c_t_acts c_t_act c_t_whose c_t_whom c_t_tens x1 (c_t_pad (Int32.toNatClampNeg x2))) fun r1 w2 w3 w4 w5 w6 =>
    if 0 ≤ r1 then
      rc r1 (x2 + 1) w2 w3 w4 w5 w6
    else
      some (x2, w2, w3, w4, w5, w6)
def fn_X10_fault_l9 (c_t_padMany : Int32) (c_t_pad : Nat → Int32) (k : Int32 → Int32 → (Nat → Int32) → (Nat → Int32) → (Nat → Int32) → (Nat → Int32) → Option (Int32 × Int32 × (Nat → Int32) × (Nat → Int32) × (Nat → Int32) × (Nat → Int32))) : Nat → Int32 → Int32 → Int32 → (Nat → Int32) → (Nat → Int32) → (Nat → Int32) → (Nat → Int32) → Option (Int32 × Int32 × (Nat → Int32) × (Nat → Int32) × (Nat → Int32) × (Nat → Int32))
  | 0 => fun _ _ _ _ _ _ _ => none
  | n + 1 => fun x1 x2 c_t_acts c_t_act c_t_whose c_t_whom c_t_tens => fn_X10_fault_b9 c_t_padMany c_t_pad (fn_X10_fault_l9 c_t_padMany c_t_pad k n) k x1 x2 c_t_acts c_t_act c_t_whose c_t_whom c_t_tens
def fn_X10_fault (c_t_padMany : Int32) (c_t_acts : Int32) (c_t_pad : Nat → Int32) (c_t_act : Nat → Int32) (c_t_whose : Nat → Int32) (c_t_whom : Nat → Int32) (c_t_tens : Nat → Int32) : Option (Int32 × Int32 × (Nat → Int32) × (Nat → Int32) × (Nat → Int32) × (Nat → Int32)) :=
  fn_X10_fault_l9 c_t_padMany c_t_pad (fun v8 v9 v10 v11 v12 v13 =>
    if v8 = 0 then
      some ((-6), v9, v10, v11, v12, v13)
    else
      some (c_t_padMany, v9, v10, v11, v12, v13)) fu_ 0 0 0 c_t_act c_t_whose c_t_whom c_t_tens
set_option maxHeartbeats 4000000 in
set_option maxRecDepth 100000 in
theorem wn_X10_fault_l9 {p : Program} {l : Launch} {e : Env} {s : State} {m : MethodId} {args : Array Value} {below : List Frame} {meth : Method} {c : Code} {G : gw_} {A : Nat → Prop} {Q : State → Prop} {A_t : Nat} {A_t_steps : Nat} {A_t_wet : Nat} {A_t_where : Nat} {A_t_home : Nat} {A_t_light : Nat} {A_t_carries : Nat} {A_t_sightPlace : Nat} {A_t_sightLight : Nat} {A_t_pad : Nat} {A_t_act : Nat} {A_t_whose : Nat} {A_t_whom : Nat} {A_t_tens : Nat} {A_t_had : Nat} {A_t_leaves : Nat} {A_t_apart : Nat} {A_t_stop : Nat} {A_t_restOf : Nat} {A_t_group : Nat} {A_t_along : Nat} {A_t_kept : Nat} {A_t_isKept : Nat} {c_t_foggy : Int32} {c_t_walkers : Int32} {c_t_sights : Int32} {c_t_padMany : Int32} {z_t_acts : Int32} {c_t_spent : Int32} {c_t_walks : Int32} {c_t_badAct : Int32} {c_t_badWhy : Int32} {c_t_keptAt : Int32} {c_t_isWriting : Int32} {c_t_pad : Nat → Int32} {z_t_act : Nat → Int32} {z_t_whose : Nat → Int32} {z_t_whom : Nat → Int32} {z_t_tens : Nat → Int32} {r : Int32} {k : Int32 → Int32 → (Nat → Int32) → (Nat → Int32) → (Nat → Int32) → (Nat → Int32) → Option (Int32 × Int32 × (Nat → Int32) × (Nat → Int32) × (Nat → Int32) × (Nat → Int32))} (hC : cx_ p s m c G cX10_fault 3 RX10) (hret : ∀ (pc : Nat) (H : Heap) (locs : List Loc) (ls : Array Slot), decode cX10_fault pc = .ok (.ireturn, 1) → wd_ G A s.heap (wl_X10_fault G A_t A_t_steps A_t_wet A_t_where A_t_home A_t_light A_t_carries A_t_sightPlace A_t_sightLight A_t_pad A_t_act A_t_whose A_t_whom A_t_tens A_t_had A_t_leaves A_t_apart A_t_stop A_t_restOf A_t_group A_t_along A_t_kept A_t_isKept c_t_foggy c_t_walkers c_t_sights c_t_padMany z_t_acts c_t_spent c_t_walks c_t_badAct c_t_badWhy c_t_keptAt c_t_isWriting c_t_pad z_t_act z_t_whose z_t_whom z_t_tens) H locs → W p l e { frames := 4, cells := 0, slots := 0, locals := 88 } s m args below meth c H locs 0 0 Q (F0 m pc ls [.int r])) (hk : ∀ (x1 : Int32) (c_t_acts : Int32) (c_t_act : Nat → Int32) (c_t_whose : Nat → Int32) (c_t_whom : Nat → Int32) (c_t_tens : Nat → Int32) (H : Heap) (locs : List Loc) (ls : Array Slot), k x1 c_t_acts c_t_act c_t_whose c_t_whom c_t_tens = some (r, z_t_acts, z_t_act, z_t_whose, z_t_whom, z_t_tens) → lv_has ls 3 [(0, .ref A_t), (1, .int x1)] → wd_ G A s.heap (wl_X10_fault G A_t A_t_steps A_t_wet A_t_where A_t_home A_t_light A_t_carries A_t_sightPlace A_t_sightLight A_t_pad A_t_act A_t_whose A_t_whom A_t_tens A_t_had A_t_leaves A_t_apart A_t_stop A_t_restOf A_t_group A_t_along A_t_kept A_t_isKept c_t_foggy c_t_walkers c_t_sights c_t_padMany c_t_acts c_t_spent c_t_walks c_t_badAct c_t_badWhy c_t_keptAt c_t_isWriting c_t_pad c_t_act c_t_whose c_t_whom c_t_tens) H locs → W p l e { frames := 4, cells := 0, slots := 0, locals := 88 } s m args below meth c H locs 0 0 Q (F0 m 41 ls [])) : ∀ (n : Nat) (x1 : Int32) (x2 : Int32) (c_t_acts : Int32) (c_t_act : Nat → Int32) (c_t_whose : Nat → Int32) (c_t_whom : Nat → Int32) (c_t_tens : Nat → Int32) (H : Heap) (locs : List Loc) (ls : Array Slot), fn_X10_fault_l9 c_t_padMany c_t_pad k n x1 x2 c_t_acts c_t_act c_t_whose c_t_whom c_t_tens = some (r, z_t_acts, z_t_act, z_t_whose, z_t_whom, z_t_tens) → lv_has ls 3 [(0, .ref A_t), (1, .int x1), (2, .int x2)] → wd_ G A s.heap (wl_X10_fault G A_t A_t_steps A_t_wet A_t_where A_t_home A_t_light A_t_carries A_t_sightPlace A_t_sightLight A_t_pad A_t_act A_t_whose A_t_whom A_t_tens A_t_had A_t_leaves A_t_apart A_t_stop A_t_restOf A_t_group A_t_along A_t_kept A_t_isKept c_t_foggy c_t_walkers c_t_sights c_t_padMany c_t_acts c_t_spent c_t_walks c_t_badAct c_t_badWhy c_t_keptAt c_t_isWriting c_t_pad c_t_act c_t_whose c_t_whom c_t_tens) H locs → W p l e { frames := 4, cells := 0, slots := 0, locals := 88 } s m args below meth c H locs 0 0 Q (F0 m 9 ls []) := by
  have hx := hC.1
  have hb := hC.2.1
  intro n
  induction n with
  | zero =>
    intro x1 x2 c_t_acts c_t_act c_t_whose c_t_whom c_t_tens H locs ls hf
    cases (show (none : Option (Int32 × Int32 × (Nat → Int32) × (Nat → Int32) × (Nat → Int32) × (Nat → Int32))) = some _ from hf)
  | succ n hrc =>
    intro x1 x2 c_t_acts c_t_act c_t_whose c_t_whom c_t_tens H locs ls hf hl hw
    replace hf : fn_X10_fault_b9 c_t_padMany c_t_pad (fn_X10_fault_l9 c_t_padMany c_t_pad k n) k x1 x2 c_t_acts c_t_act c_t_whose c_t_whom c_t_tens = some (r, z_t_acts, z_t_act, z_t_whose, z_t_whom, z_t_tens) := hf
    unfold fn_X10_fault_b9 at hf
    refine lv_iload_n hx hb dX10_fault_9 rfl (lv_at hl 2 rfl) ?_
    refine lv_aload_n hx hb dX10_fault_10 rfl (lv_at hl 0 rfl) ?_
    refine g_get hC hw fkX10_123 0 rfl rfl dX10_fault_11 ?_
    refine lv_icmp_ge (tgt := 41) hx hb dX10_fault_14 (by decide) (fun hc => ?_) (fun hc => ?_)
    · replace hf := it_t hc hf
      exact hk x1 c_t_acts c_t_act c_t_whose c_t_whom c_t_tens _ _ _ hf (lv_sub hl [0, 1] rfl) hw
    · replace hf := it_f hc hf
      refine lv_aload_n hx hb dX10_fault_17 rfl (lv_at hl 0 rfl) ?_
      refine lv_iload_n hx hb dX10_fault_18 rfl (lv_at hl 1 rfl) ?_
      refine lv_aload_n hx hb dX10_fault_19 rfl (lv_at hl 0 rfl) ?_
      refine g_get hC hw fkX10_34 0 rfl rfl dX10_fault_20 ?_
      refine lv_iload_n hx hb dX10_fault_23 rfl (lv_at hl 2 rfl) ?_
      obtain ⟨hi, hf⟩ := ck_s hf
      refine g_iald hC hw 1 rfl hi dX10_fault_24 ?_
      obtain ⟨r1, w2, w3, w4, w5, w6, hq7, hf⟩ := b6_s hf
      refine g_cVi hC hw mvX10_150 (cn_X10_readOn l G A_t A_t_steps A_t_wet A_t_where A_t_home A_t_light A_t_carries A_t_sightPlace A_t_sightLight A_t_pad A_t_act A_t_whose A_t_whom A_t_tens A_t_had A_t_leaves A_t_apart A_t_stop A_t_restOf A_t_group A_t_along A_t_kept A_t_isKept c_t_foggy c_t_walkers c_t_sights c_t_padMany c_t_acts c_t_spent c_t_walks c_t_badAct c_t_badWhy c_t_keptAt c_t_isWriting c_t_act c_t_whose c_t_whom c_t_tens x1 (c_t_pad (Int32.toNatClampNeg x2)) r1 w2 w3 w4 w5 w6 hq7) [0, 2, 3, 4, 5] rfl (by decide) rfl 0 rfl rfl rfl hl.1 rfl (Nat.le_of_ble_eq_true rfl) ⟨Nat.le_of_ble_eq_true rfl, Nat.le_of_ble_eq_true rfl⟩ ⟨Nat.le_refl _, Nat.le_refl _⟩ dX10_fault_25 (fun H locs hw => ?_)
      have hw : wd_ G A s.heap (wl_X10_fault G A_t A_t_steps A_t_wet A_t_where A_t_home A_t_light A_t_carries A_t_sightPlace A_t_sightLight A_t_pad A_t_act A_t_whose A_t_whom A_t_tens A_t_had A_t_leaves A_t_apart A_t_stop A_t_restOf A_t_group A_t_along A_t_kept A_t_isKept c_t_foggy c_t_walkers c_t_sights c_t_padMany w2 c_t_spent c_t_walks c_t_badAct c_t_badWhy c_t_keptAt c_t_isWriting c_t_pad w3 w4 w5 w6) H locs := hw
      refine lv_istore_n (lv' := [(1, .int r1), (0, .ref A_t), (2, .int x2)]) hx hb dX10_fault_28 rfl hl (by decide) rfl (fun ls hl => ?_)
      refine lv_iload_n hx hb dX10_fault_29 rfl (lv_at hl 0 rfl) ?_
      refine lv_if_ge (tgt := 35) hx hb dX10_fault_30 (by decide) (fun hc => ?_) (fun hc => ?_)
      · replace hf := it_t hc hf
        refine lv_iinc (v := x2 + 1) (lv' := [(2, .int (x2 + 1)), (1, .int r1), (0, .ref A_t)]) hx hb dX10_fault_35 hl (k := 2) rfl rfl (by decide) rfl (fun ls hl => ?_)
        refine lv_goto (tgt := 9) hx hb dX10_fault_38 (by decide) ?_
        exact hrc r1 (x2 + 1) w2 w3 w4 w5 w6 _ _ _ hf (lv_sub hl [2, 1, 0] rfl) hw
      · replace hf := it_f hc hf
        refine lv_iload_n hx hb dX10_fault_33 rfl (lv_at hl 2 rfl) ?_
        obtain ⟨h1_, h2_, h3_, h4_, h5_, h6_⟩ := t6_ hf
        subst h1_
        subst h2_
        subst h3_
        subst h4_
        subst h5_
        subst h6_
        exact hret _ _ _ _ dX10_fault_34 hw
set_option maxHeartbeats 4000000 in
set_option maxRecDepth 100000 in
theorem wn_X10_fault {p : Program} {l : Launch} {e : Env} {s : State} {m : MethodId} {args : Array Value} {below : List Frame} {meth : Method} {c : Code} {G : gw_} {A : Nat → Prop} {Q : State → Prop} {A_t : Nat} {A_t_steps : Nat} {A_t_wet : Nat} {A_t_where : Nat} {A_t_home : Nat} {A_t_light : Nat} {A_t_carries : Nat} {A_t_sightPlace : Nat} {A_t_sightLight : Nat} {A_t_pad : Nat} {A_t_act : Nat} {A_t_whose : Nat} {A_t_whom : Nat} {A_t_tens : Nat} {A_t_had : Nat} {A_t_leaves : Nat} {A_t_apart : Nat} {A_t_stop : Nat} {A_t_restOf : Nat} {A_t_group : Nat} {A_t_along : Nat} {A_t_kept : Nat} {A_t_isKept : Nat} {c_t_foggy : Int32} {c_t_walkers : Int32} {c_t_sights : Int32} {c_t_padMany : Int32} {c_t_acts : Int32} {z_t_acts : Int32} {c_t_spent : Int32} {c_t_walks : Int32} {c_t_badAct : Int32} {c_t_badWhy : Int32} {c_t_keptAt : Int32} {c_t_isWriting : Int32} {c_t_pad : Nat → Int32} {c_t_act : Nat → Int32} {z_t_act : Nat → Int32} {c_t_whose : Nat → Int32} {z_t_whose : Nat → Int32} {c_t_whom : Nat → Int32} {z_t_whom : Nat → Int32} {c_t_tens : Nat → Int32} {z_t_tens : Nat → Int32} {r : Int32} (hC : cx_ p s m c G cX10_fault 3 RX10) (hret : ∀ (pc : Nat) (H : Heap) (locs : List Loc) (ls : Array Slot), decode cX10_fault pc = .ok (.ireturn, 1) → wd_ G A s.heap (wl_X10_fault G A_t A_t_steps A_t_wet A_t_where A_t_home A_t_light A_t_carries A_t_sightPlace A_t_sightLight A_t_pad A_t_act A_t_whose A_t_whom A_t_tens A_t_had A_t_leaves A_t_apart A_t_stop A_t_restOf A_t_group A_t_along A_t_kept A_t_isKept c_t_foggy c_t_walkers c_t_sights c_t_padMany z_t_acts c_t_spent c_t_walks c_t_badAct c_t_badWhy c_t_keptAt c_t_isWriting c_t_pad z_t_act z_t_whose z_t_whom z_t_tens) H locs → W p l e { frames := 4, cells := 0, slots := 0, locals := 88 } s m args below meth c H locs 0 0 Q (F0 m pc ls [.int r])) (hf : fn_X10_fault c_t_padMany c_t_acts c_t_pad c_t_act c_t_whose c_t_whom c_t_tens = some (r, z_t_acts, z_t_act, z_t_whose, z_t_whom, z_t_tens)) {H : Heap} {locs : List Loc} {ls : Array Slot} (hl : lv_has ls 3 [(0, .ref A_t)]) (hw : wd_ G A s.heap (wl_X10_fault G A_t A_t_steps A_t_wet A_t_where A_t_home A_t_light A_t_carries A_t_sightPlace A_t_sightLight A_t_pad A_t_act A_t_whose A_t_whom A_t_tens A_t_had A_t_leaves A_t_apart A_t_stop A_t_restOf A_t_group A_t_along A_t_kept A_t_isKept c_t_foggy c_t_walkers c_t_sights c_t_padMany c_t_acts c_t_spent c_t_walks c_t_badAct c_t_badWhy c_t_keptAt c_t_isWriting c_t_pad c_t_act c_t_whose c_t_whom c_t_tens) H locs) : W p l e { frames := 4, cells := 0, slots := 0, locals := 88 } s m args below meth c H locs 0 0 Q (F0 m 0 ls []) := by
  have hx := hC.1
  have hb := hC.2.1
  unfold fn_X10_fault at hf
  refine lv_aload_n hx hb dX10_fault_0 rfl (lv_at hl 0 rfl) ?_
  refine lv_iconst (v := 0) hx hb dX10_fault_1 (by decide) ?_
  refine g_put hC hw fpX10_130 0 rfl rfl rfl (Nat.le_of_ble_eq_true rfl) dX10_fault_2 (fun H locs hw => ?_)
  have hw : wd_ G A s.heap (wl_X10_fault G A_t A_t_steps A_t_wet A_t_where A_t_home A_t_light A_t_carries A_t_sightPlace A_t_sightLight A_t_pad A_t_act A_t_whose A_t_whom A_t_tens A_t_had A_t_leaves A_t_apart A_t_stop A_t_restOf A_t_group A_t_along A_t_kept A_t_isKept c_t_foggy c_t_walkers c_t_sights c_t_padMany 0 c_t_spent c_t_walks c_t_badAct c_t_badWhy c_t_keptAt c_t_isWriting c_t_pad c_t_act c_t_whose c_t_whom c_t_tens) H locs := hw
  refine lv_iconst (v := 0) hx hb dX10_fault_5 (by decide) ?_
  refine lv_istore_n (lv' := [(1, .int 0), (0, .ref A_t)]) hx hb dX10_fault_6 rfl hl (by decide) rfl (fun ls hl => ?_)
  refine lv_iconst (v := 0) hx hb dX10_fault_7 (by decide) ?_
  refine lv_istore_n (lv' := [(2, .int 0), (1, .int 0), (0, .ref A_t)]) hx hb dX10_fault_8 rfl hl (by decide) rfl (fun ls hl => ?_)
  refine wn_X10_fault_l9 hC hret (fun v8 v9 v10 v11 v12 v13 H locs ls hf hl hw => ?_) fu_ 0 0 0 c_t_act c_t_whose c_t_whom c_t_tens _ _ _ hf (lv_sub hl [2, 1, 0] rfl) hw
  refine lv_iload_n hx hb dX10_fault_41 rfl (lv_at hl 1 rfl) ?_
  refine lv_if_ne (tgt := 50) hx hb dX10_fault_42 (by decide) (fun hc => ?_) (fun hc => ?_)
  · replace hf := it_f hc hf
    refine lv_aload_n hx hb dX10_fault_50 rfl (lv_at hl 0 rfl) ?_
    refine g_get hC hw fkX10_123 0 rfl rfl dX10_fault_51 ?_
    obtain ⟨h1_, h2_, h3_, h4_, h5_, h6_⟩ := t6_ hf
    subst h1_
    subst h2_
    subst h3_
    subst h4_
    subst h5_
    subst h6_
    exact hret _ _ _ _ dX10_fault_54 hw
  · replace hf := it_t hc hf
    refine lv_bipush (v := (-6)) hx hb dX10_fault_45 (by decide) ?_
    refine lv_goto (tgt := 54) hx hb dX10_fault_47 (by decide) ?_
    obtain ⟨h1_, h2_, h3_, h4_, h5_, h6_⟩ := t6_ hf
    subst h1_
    subst h2_
    subst h3_
    subst h4_
    subst h5_
    subst h6_
    exact hret _ _ _ _ dX10_fault_54 hw
set_option maxHeartbeats 4000000 in
set_option maxRecDepth 100000 in
theorem cn_X10_fault (l : Launch) (G : gw_) (A_t : Nat) (A_t_steps : Nat) (A_t_wet : Nat) (A_t_where : Nat) (A_t_home : Nat) (A_t_light : Nat) (A_t_carries : Nat) (A_t_sightPlace : Nat) (A_t_sightLight : Nat) (A_t_pad : Nat) (A_t_act : Nat) (A_t_whose : Nat) (A_t_whom : Nat) (A_t_tens : Nat) (A_t_had : Nat) (A_t_leaves : Nat) (A_t_apart : Nat) (A_t_stop : Nat) (A_t_restOf : Nat) (A_t_group : Nat) (A_t_along : Nat) (A_t_kept : Nat) (A_t_isKept : Nat) (c_t_foggy : Int32) (c_t_walkers : Int32) (c_t_sights : Int32) (c_t_padMany : Int32) (c_t_acts : Int32) (c_t_spent : Int32) (c_t_walks : Int32) (c_t_badAct : Int32) (c_t_badWhy : Int32) (c_t_keptAt : Int32) (c_t_isWriting : Int32) (c_t_pad : Nat → Int32) (c_t_act : Nat → Int32) (c_t_whose : Nat → Int32) (c_t_whom : Nat → Int32) (c_t_tens : Nat → Int32) (r : Int32) (z_t_acts : Int32) (z_t_act : Nat → Int32) (z_t_whose : Nat → Int32) (z_t_whom : Nat → Int32) (z_t_tens : Nat → Int32) (hf : fn_X10_fault c_t_padMany c_t_acts c_t_pad c_t_act c_t_whose c_t_whom c_t_tens = some (r, z_t_acts, z_t_act, z_t_whose, z_t_whom, z_t_tens)) : ci_ l G yX10_fault cX10_fault 3 (some .int) 4 88 (wl_X10_fault G A_t A_t_steps A_t_wet A_t_where A_t_home A_t_light A_t_carries A_t_sightPlace A_t_sightLight A_t_pad A_t_act A_t_whose A_t_whom A_t_tens A_t_had A_t_leaves A_t_apart A_t_stop A_t_restOf A_t_group A_t_along A_t_kept A_t_isKept c_t_foggy c_t_walkers c_t_sights c_t_padMany c_t_acts c_t_spent c_t_walks c_t_badAct c_t_badWhy c_t_keptAt c_t_isWriting c_t_pad c_t_act c_t_whose c_t_whom c_t_tens) [.ref A_t] r (wl_X10_fault G A_t A_t_steps A_t_wet A_t_where A_t_home A_t_light A_t_carries A_t_sightPlace A_t_sightLight A_t_pad A_t_act A_t_whose A_t_whom A_t_tens A_t_had A_t_leaves A_t_apart A_t_stop A_t_restOf A_t_group A_t_along A_t_kept A_t_isKept c_t_foggy c_t_walkers c_t_sights c_t_padMany z_t_acts c_t_spent c_t_walks c_t_badAct c_t_badWhy c_t_keptAt c_t_isWriting c_t_pad z_t_act z_t_whose z_t_whom z_t_tens) := fun sz => met_intro (by decide) (Nat.le_of_ble_eq_true rfl) (fun p e s m args below meth c ls hsz hC hr hlk hnm hl hw => wn_X10_fault hC (fun pc H locs ls hd hw => g_iret hC hr hlk hw rfl rfl hd) hf hl hw)

theorem dX10_isCarried_0 : decode cX10_isCarried 0 = .ok (.aload_n 0, 1) := by decide +kernel
theorem dX10_isCarried_1 : decode cX10_isCarried 1 = .ok (.iload_n 1, 1) := by decide +kernel
theorem dX10_isCarried_2 : decode cX10_isCarried 2 = .ok (.invokevirtual 153, 3) := by decide +kernel
theorem dX10_isCarried_5 : decode cX10_isCarried 5 = .ok (.ifCond .lt 7, 3) := by decide +kernel
theorem dX10_isCarried_8 : decode cX10_isCarried 8 = .ok (.iconst 1, 1) := by decide +kernel
theorem dX10_isCarried_9 : decode cX10_isCarried 9 = .ok (.goto 4, 3) := by decide +kernel
theorem dX10_isCarried_12 : decode cX10_isCarried 12 = .ok (.iconst 0, 1) := by decide +kernel
theorem dX10_isCarried_13 : decode cX10_isCarried 13 = .ok (.ireturn, 1) := by decide +kernel
abbrev wl_X10_isCarried (G : gw_) (A_t : Nat) (A_t_steps : Nat) (A_t_wet : Nat) (A_t_where : Nat) (A_t_home : Nat) (A_t_light : Nat) (A_t_carries : Nat) (A_t_sightPlace : Nat) (A_t_sightLight : Nat) (A_t_pad : Nat) (A_t_act : Nat) (A_t_whose : Nat) (A_t_whom : Nat) (A_t_tens : Nat) (A_t_had : Nat) (A_t_leaves : Nat) (A_t_apart : Nat) (A_t_stop : Nat) (A_t_restOf : Nat) (A_t_group : Nat) (A_t_along : Nat) (A_t_kept : Nat) (A_t_isKept : Nat) (c_t_foggy : Int32) (c_t_walkers : Int32) (c_t_sights : Int32) (c_t_padMany : Int32) (c_t_acts : Int32) (c_t_spent : Int32) (c_t_walks : Int32) (c_t_badAct : Int32) (c_t_badWhy : Int32) (c_t_keptAt : Int32) (c_t_isWriting : Int32) (c_t_carries : Nat → Int32) : va_W := [ob_ A_t 10 [.ref A_t_steps, .ref A_t_wet, .int c_t_foggy, .int c_t_walkers, .ref A_t_where, .ref A_t_home, .ref A_t_light, .ref A_t_carries, .ref A_t_sightPlace, .ref A_t_sightLight, .int c_t_sights, .ref A_t_pad, .int c_t_padMany, .ref A_t_act, .ref A_t_whose, .ref A_t_whom, .ref A_t_tens, .int c_t_acts, .int c_t_spent, .int c_t_walks, .ref A_t_had, .ref A_t_leaves, .int c_t_badAct, .int c_t_badWhy, .ref A_t_apart, .ref A_t_stop, .ref A_t_restOf, .ref A_t_group, .ref A_t_along, .ref A_t_kept, .ref A_t_isKept, .int c_t_keptAt, .int c_t_isWriting], ia_ G A_t_carries 6 c_t_carries]
def fn_X10_isCarried (c_t_walkers : Int32) (c_t_carries : Nat → Int32) (x1 : Int32) : Option (Int32) :=
  b1_ (fn_X10_carrierOf c_t_walkers c_t_carries x1) fun r1 =>
  if r1 < 0 then
    some 0
  else
    some 1
set_option maxHeartbeats 4000000 in
set_option maxRecDepth 100000 in
theorem wn_X10_isCarried {p : Program} {l : Launch} {e : Env} {s : State} {m : MethodId} {args : Array Value} {below : List Frame} {meth : Method} {c : Code} {G : gw_} {A : Nat → Prop} {Q : State → Prop} {A_t : Nat} {A_t_steps : Nat} {A_t_wet : Nat} {A_t_where : Nat} {A_t_home : Nat} {A_t_light : Nat} {A_t_carries : Nat} {A_t_sightPlace : Nat} {A_t_sightLight : Nat} {A_t_pad : Nat} {A_t_act : Nat} {A_t_whose : Nat} {A_t_whom : Nat} {A_t_tens : Nat} {A_t_had : Nat} {A_t_leaves : Nat} {A_t_apart : Nat} {A_t_stop : Nat} {A_t_restOf : Nat} {A_t_group : Nat} {A_t_along : Nat} {A_t_kept : Nat} {A_t_isKept : Nat} {c_t_foggy : Int32} {c_t_walkers : Int32} {c_t_sights : Int32} {c_t_padMany : Int32} {c_t_acts : Int32} {c_t_spent : Int32} {c_t_walks : Int32} {c_t_badAct : Int32} {c_t_badWhy : Int32} {c_t_keptAt : Int32} {c_t_isWriting : Int32} {c_t_carries : Nat → Int32} {r : Int32} {x1 : Int32} (hC : cx_ p s m c G cX10_isCarried 2 RX10) (hret : ∀ (pc : Nat) (H : Heap) (locs : List Loc) (ls : Array Slot), narrow .boolean (.int r) = .int r → decode cX10_isCarried pc = .ok (.ireturn, 1) → wd_ G A s.heap (wl_X10_isCarried G A_t A_t_steps A_t_wet A_t_where A_t_home A_t_light A_t_carries A_t_sightPlace A_t_sightLight A_t_pad A_t_act A_t_whose A_t_whom A_t_tens A_t_had A_t_leaves A_t_apart A_t_stop A_t_restOf A_t_group A_t_along A_t_kept A_t_isKept c_t_foggy c_t_walkers c_t_sights c_t_padMany c_t_acts c_t_spent c_t_walks c_t_badAct c_t_badWhy c_t_keptAt c_t_isWriting c_t_carries) H locs → W p l e { frames := 3, cells := 0, slots := 0, locals := 69 } s m args below meth c H locs 0 0 Q (F0 m pc ls [.int r])) (hf : fn_X10_isCarried c_t_walkers c_t_carries x1 = some r) {H : Heap} {locs : List Loc} {ls : Array Slot} (hl : lv_has ls 2 [(0, .ref A_t), (1, .int x1)]) (hw : wd_ G A s.heap (wl_X10_isCarried G A_t A_t_steps A_t_wet A_t_where A_t_home A_t_light A_t_carries A_t_sightPlace A_t_sightLight A_t_pad A_t_act A_t_whose A_t_whom A_t_tens A_t_had A_t_leaves A_t_apart A_t_stop A_t_restOf A_t_group A_t_along A_t_kept A_t_isKept c_t_foggy c_t_walkers c_t_sights c_t_padMany c_t_acts c_t_spent c_t_walks c_t_badAct c_t_badWhy c_t_keptAt c_t_isWriting c_t_carries) H locs) : W p l e { frames := 3, cells := 0, slots := 0, locals := 69 } s m args below meth c H locs 0 0 Q (F0 m 0 ls []) := by
  have hx := hC.1
  have hb := hC.2.1
  unfold fn_X10_isCarried at hf
  refine lv_aload_n hx hb dX10_isCarried_0 rfl (lv_at hl 0 rfl) ?_
  refine lv_iload_n hx hb dX10_isCarried_1 rfl (lv_at hl 1 rfl) ?_
  obtain ⟨r1, hq2, hf⟩ := b1_s hf
  refine h_cVi hC hw mvX10_153 (cn_X10_carrierOf l G A_t A_t_steps A_t_wet A_t_where A_t_home A_t_light A_t_carries A_t_sightPlace A_t_sightLight A_t_pad A_t_act A_t_whose A_t_whom A_t_tens A_t_had A_t_leaves A_t_apart A_t_stop A_t_restOf A_t_group A_t_along A_t_kept A_t_isKept c_t_foggy c_t_walkers c_t_sights c_t_padMany c_t_acts c_t_spent c_t_walks c_t_badAct c_t_badWhy c_t_keptAt c_t_isWriting c_t_carries x1 r1 hq2) [0, 1] rfl (by decide) 0 rfl rfl rfl hl.1 rfl (Nat.le_of_ble_eq_true rfl) ⟨Nat.le_of_ble_eq_true rfl, Nat.le_of_ble_eq_true rfl⟩ ⟨Nat.le_refl _, Nat.le_refl _⟩ dX10_isCarried_2 (fun H locs hw => ?_)
  refine lv_if_lt (tgt := 12) hx hb dX10_isCarried_5 (by decide) (fun hc => ?_) (fun hc => ?_)
  · replace hf := it_t hc hf
    refine lv_iconst (v := 0) hx hb dX10_isCarried_12 (by decide) ?_
    have h1_ := t1_ hf
    subst h1_
    exact hret _ _ _ _ rfl dX10_isCarried_13 hw
  · replace hf := it_f hc hf
    refine lv_iconst (v := 1) hx hb dX10_isCarried_8 (by decide) ?_
    refine lv_goto (tgt := 13) hx hb dX10_isCarried_9 (by decide) ?_
    have h1_ := t1_ hf
    subst h1_
    exact hret _ _ _ _ rfl dX10_isCarried_13 hw
set_option maxHeartbeats 4000000 in
set_option maxRecDepth 100000 in
theorem cn_X10_isCarried (l : Launch) (G : gw_) (A_t : Nat) (A_t_steps : Nat) (A_t_wet : Nat) (A_t_where : Nat) (A_t_home : Nat) (A_t_light : Nat) (A_t_carries : Nat) (A_t_sightPlace : Nat) (A_t_sightLight : Nat) (A_t_pad : Nat) (A_t_act : Nat) (A_t_whose : Nat) (A_t_whom : Nat) (A_t_tens : Nat) (A_t_had : Nat) (A_t_leaves : Nat) (A_t_apart : Nat) (A_t_stop : Nat) (A_t_restOf : Nat) (A_t_group : Nat) (A_t_along : Nat) (A_t_kept : Nat) (A_t_isKept : Nat) (c_t_foggy : Int32) (c_t_walkers : Int32) (c_t_sights : Int32) (c_t_padMany : Int32) (c_t_acts : Int32) (c_t_spent : Int32) (c_t_walks : Int32) (c_t_badAct : Int32) (c_t_badWhy : Int32) (c_t_keptAt : Int32) (c_t_isWriting : Int32) (c_t_carries : Nat → Int32) (x1 : Int32) (r : Int32) (hf : fn_X10_isCarried c_t_walkers c_t_carries x1 = some r) : ci_ l G yX10_isCarried cX10_isCarried 2 (some .boolean) 3 69 (wl_X10_isCarried G A_t A_t_steps A_t_wet A_t_where A_t_home A_t_light A_t_carries A_t_sightPlace A_t_sightLight A_t_pad A_t_act A_t_whose A_t_whom A_t_tens A_t_had A_t_leaves A_t_apart A_t_stop A_t_restOf A_t_group A_t_along A_t_kept A_t_isKept c_t_foggy c_t_walkers c_t_sights c_t_padMany c_t_acts c_t_spent c_t_walks c_t_badAct c_t_badWhy c_t_keptAt c_t_isWriting c_t_carries) [.ref A_t, .int x1] r (wl_X10_isCarried G A_t A_t_steps A_t_wet A_t_where A_t_home A_t_light A_t_carries A_t_sightPlace A_t_sightLight A_t_pad A_t_act A_t_whose A_t_whom A_t_tens A_t_had A_t_leaves A_t_apart A_t_stop A_t_restOf A_t_group A_t_along A_t_kept A_t_isKept c_t_foggy c_t_walkers c_t_sights c_t_padMany c_t_acts c_t_spent c_t_walks c_t_badAct c_t_badWhy c_t_keptAt c_t_isWriting c_t_carries) := fun sz => met_intro (by decide) (Nat.le_of_ble_eq_true rfl) (fun p e s m args below meth c ls hsz hC hr hlk hnm hl hw => wn_X10_isCarried hC (fun pc H locs ls hn hd hw => g_iret hC hr hlk hw rfl hn hd) hf hl hw)

theorem dX10_whyNotBoth_0 : decode cX10_whyNotBoth 0 = .ok (.aload_n 0, 1) := by decide +kernel
theorem dX10_whyNotBoth_1 : decode cX10_whyNotBoth 1 = .ok (.iload_n 2, 1) := by decide +kernel
theorem dX10_whyNotBoth_2 : decode cX10_whyNotBoth 2 = .ok (.invokevirtual 106, 3) := by decide +kernel
theorem dX10_whyNotBoth_5 : decode cX10_whyNotBoth 5 = .ok (.ifCond .eq 11, 3) := by decide +kernel
theorem dX10_whyNotBoth_8 : decode cX10_whyNotBoth 8 = .ok (.aload_n 0, 1) := by decide +kernel
theorem dX10_whyNotBoth_9 : decode cX10_whyNotBoth 9 = .ok (.iload_n 3, 1) := by decide +kernel
theorem dX10_whyNotBoth_10 : decode cX10_whyNotBoth 10 = .ok (.invokevirtual 106, 3) := by decide +kernel
theorem dX10_whyNotBoth_13 : decode cX10_whyNotBoth 13 = .ok (.ifCond .ne 5, 3) := by decide +kernel
theorem dX10_whyNotBoth_16 : decode cX10_whyNotBoth 16 = .ok (.iconst 1, 1) := by decide +kernel
theorem dX10_whyNotBoth_17 : decode cX10_whyNotBoth 17 = .ok (.ireturn, 1) := by decide +kernel
theorem dX10_whyNotBoth_18 : decode cX10_whyNotBoth 18 = .ok (.iload_n 2, 1) := by decide +kernel
theorem dX10_whyNotBoth_19 : decode cX10_whyNotBoth 19 = .ok (.iload_n 3, 1) := by decide +kernel
theorem dX10_whyNotBoth_20 : decode cX10_whyNotBoth 20 = .ok (.if_icmp .ne 5, 3) := by decide +kernel
theorem dX10_whyNotBoth_23 : decode cX10_whyNotBoth 23 = .ok (.iconst 2, 1) := by decide +kernel
theorem dX10_whyNotBoth_24 : decode cX10_whyNotBoth 24 = .ok (.ireturn, 1) := by decide +kernel
theorem dX10_whyNotBoth_25 : decode cX10_whyNotBoth 25 = .ok (.aload_n 0, 1) := by decide +kernel
theorem dX10_whyNotBoth_26 : decode cX10_whyNotBoth 26 = .ok (.iload_n 2, 1) := by decide +kernel
theorem dX10_whyNotBoth_27 : decode cX10_whyNotBoth 27 = .ok (.invokevirtual 156, 3) := by decide +kernel
theorem dX10_whyNotBoth_30 : decode cX10_whyNotBoth 30 = .ok (.ifCond .ne 11, 3) := by decide +kernel
theorem dX10_whyNotBoth_33 : decode cX10_whyNotBoth 33 = .ok (.aload_n 0, 1) := by decide +kernel
theorem dX10_whyNotBoth_34 : decode cX10_whyNotBoth 34 = .ok (.iload_n 3, 1) := by decide +kernel
theorem dX10_whyNotBoth_35 : decode cX10_whyNotBoth 35 = .ok (.invokevirtual 156, 3) := by decide +kernel
theorem dX10_whyNotBoth_38 : decode cX10_whyNotBoth 38 = .ok (.ifCond .eq 5, 3) := by decide +kernel
theorem dX10_whyNotBoth_41 : decode cX10_whyNotBoth 41 = .ok (.iconst 3, 1) := by decide +kernel
theorem dX10_whyNotBoth_42 : decode cX10_whyNotBoth 42 = .ok (.ireturn, 1) := by decide +kernel
theorem dX10_whyNotBoth_43 : decode cX10_whyNotBoth 43 = .ok (.aload_n 0, 1) := by decide +kernel
theorem dX10_whyNotBoth_44 : decode cX10_whyNotBoth 44 = .ok (.getfield 16, 3) := by decide +kernel
theorem dX10_whyNotBoth_47 : decode cX10_whyNotBoth 47 = .ok (.iload_n 2, 1) := by decide +kernel
theorem dX10_whyNotBoth_48 : decode cX10_whyNotBoth 48 = .ok (.iaload, 1) := by decide +kernel
theorem dX10_whyNotBoth_49 : decode cX10_whyNotBoth 49 = .ok (.aload_n 0, 1) := by decide +kernel
theorem dX10_whyNotBoth_50 : decode cX10_whyNotBoth 50 = .ok (.getfield 16, 3) := by decide +kernel
theorem dX10_whyNotBoth_53 : decode cX10_whyNotBoth 53 = .ok (.iload_n 3, 1) := by decide +kernel
theorem dX10_whyNotBoth_54 : decode cX10_whyNotBoth 54 = .ok (.iaload, 1) := by decide +kernel
theorem dX10_whyNotBoth_55 : decode cX10_whyNotBoth 55 = .ok (.if_icmp .eq 5, 3) := by decide +kernel
theorem dX10_whyNotBoth_58 : decode cX10_whyNotBoth 58 = .ok (.iconst 4, 1) := by decide +kernel
theorem dX10_whyNotBoth_59 : decode cX10_whyNotBoth 59 = .ok (.ireturn, 1) := by decide +kernel
theorem dX10_whyNotBoth_60 : decode cX10_whyNotBoth 60 = .ok (.iload_n 1, 1) := by decide +kernel
theorem dX10_whyNotBoth_61 : decode cX10_whyNotBoth 61 = .ok (.iconst 3, 1) := by decide +kernel
theorem dX10_whyNotBoth_62 : decode cX10_whyNotBoth 62 = .ok (.if_icmp .ne 24, 3) := by decide +kernel
theorem dX10_whyNotBoth_65 : decode cX10_whyNotBoth 65 = .ok (.aload_n 0, 1) := by decide +kernel
theorem dX10_whyNotBoth_66 : decode cX10_whyNotBoth 66 = .ok (.getfield 22, 3) := by decide +kernel
theorem dX10_whyNotBoth_69 : decode cX10_whyNotBoth 69 = .ok (.iload_n 2, 1) := by decide +kernel
theorem dX10_whyNotBoth_70 : decode cX10_whyNotBoth 70 = .ok (.iaload, 1) := by decide +kernel
theorem dX10_whyNotBoth_71 : decode cX10_whyNotBoth 71 = .ok (.bipush 10, 2) := by decide +kernel
theorem dX10_whyNotBoth_73 : decode cX10_whyNotBoth 73 = .ok (.iload 4, 2) := by decide +kernel
theorem dX10_whyNotBoth_75 : decode cX10_whyNotBoth 75 = .ok (.imul, 1) := by decide +kernel
theorem dX10_whyNotBoth_76 : decode cX10_whyNotBoth 76 = .ok (.if_icmp .ge 8, 3) := by decide +kernel
theorem dX10_whyNotBoth_79 : decode cX10_whyNotBoth 79 = .ok (.bipush 6, 2) := by decide +kernel
theorem dX10_whyNotBoth_81 : decode cX10_whyNotBoth 81 = .ok (.goto 4, 3) := by decide +kernel
theorem dX10_whyNotBoth_84 : decode cX10_whyNotBoth 84 = .ok (.iconst 0, 1) := by decide +kernel
theorem dX10_whyNotBoth_85 : decode cX10_whyNotBoth 85 = .ok (.ireturn, 1) := by decide +kernel
theorem dX10_whyNotBoth_86 : decode cX10_whyNotBoth 86 = .ok (.aload_n 0, 1) := by decide +kernel
theorem dX10_whyNotBoth_87 : decode cX10_whyNotBoth 87 = .ok (.getfield 25, 3) := by decide +kernel
theorem dX10_whyNotBoth_90 : decode cX10_whyNotBoth 90 = .ok (.iload_n 2, 1) := by decide +kernel
theorem dX10_whyNotBoth_91 : decode cX10_whyNotBoth 91 = .ok (.iaload, 1) := by decide +kernel
theorem dX10_whyNotBoth_92 : decode cX10_whyNotBoth 92 = .ok (.ifCond .ge 12, 3) := by decide +kernel
theorem dX10_whyNotBoth_95 : decode cX10_whyNotBoth 95 = .ok (.aload_n 0, 1) := by decide +kernel
theorem dX10_whyNotBoth_96 : decode cX10_whyNotBoth 96 = .ok (.getfield 25, 3) := by decide +kernel
theorem dX10_whyNotBoth_99 : decode cX10_whyNotBoth 99 = .ok (.iload_n 3, 1) := by decide +kernel
theorem dX10_whyNotBoth_100 : decode cX10_whyNotBoth 100 = .ok (.iaload, 1) := by decide +kernel
theorem dX10_whyNotBoth_101 : decode cX10_whyNotBoth 101 = .ok (.ifCond .lt 8, 3) := by decide +kernel
theorem dX10_whyNotBoth_104 : decode cX10_whyNotBoth 104 = .ok (.bipush 7, 2) := by decide +kernel
theorem dX10_whyNotBoth_106 : decode cX10_whyNotBoth 106 = .ok (.goto 4, 3) := by decide +kernel
theorem dX10_whyNotBoth_109 : decode cX10_whyNotBoth 109 = .ok (.iconst 0, 1) := by decide +kernel
theorem dX10_whyNotBoth_110 : decode cX10_whyNotBoth 110 = .ok (.ireturn, 1) := by decide +kernel
abbrev wl_X10_whyNotBoth (G : gw_) (A_t : Nat) (A_t_steps : Nat) (A_t_wet : Nat) (A_t_where : Nat) (A_t_home : Nat) (A_t_light : Nat) (A_t_carries : Nat) (A_t_sightPlace : Nat) (A_t_sightLight : Nat) (A_t_pad : Nat) (A_t_act : Nat) (A_t_whose : Nat) (A_t_whom : Nat) (A_t_tens : Nat) (A_t_had : Nat) (A_t_leaves : Nat) (A_t_apart : Nat) (A_t_stop : Nat) (A_t_restOf : Nat) (A_t_group : Nat) (A_t_along : Nat) (A_t_kept : Nat) (A_t_isKept : Nat) (c_t_foggy : Int32) (c_t_walkers : Int32) (c_t_sights : Int32) (c_t_padMany : Int32) (c_t_acts : Int32) (c_t_spent : Int32) (c_t_walks : Int32) (c_t_badAct : Int32) (c_t_badWhy : Int32) (c_t_keptAt : Int32) (c_t_isWriting : Int32) (c_t_where : Nat → Int32) (c_t_light : Nat → Int32) (c_t_carries : Nat → Int32) : va_W := [ob_ A_t 10 [.ref A_t_steps, .ref A_t_wet, .int c_t_foggy, .int c_t_walkers, .ref A_t_where, .ref A_t_home, .ref A_t_light, .ref A_t_carries, .ref A_t_sightPlace, .ref A_t_sightLight, .int c_t_sights, .ref A_t_pad, .int c_t_padMany, .ref A_t_act, .ref A_t_whose, .ref A_t_whom, .ref A_t_tens, .int c_t_acts, .int c_t_spent, .int c_t_walks, .ref A_t_had, .ref A_t_leaves, .int c_t_badAct, .int c_t_badWhy, .ref A_t_apart, .ref A_t_stop, .ref A_t_restOf, .ref A_t_group, .ref A_t_along, .ref A_t_kept, .ref A_t_isKept, .int c_t_keptAt, .int c_t_isWriting], ia_ G A_t_where 6 c_t_where, ia_ G A_t_light 6 c_t_light, ia_ G A_t_carries 6 c_t_carries]
def fn_X10_whyNotBoth (c_t_walkers : Int32) (c_t_where : Nat → Int32) (c_t_light : Nat → Int32) (c_t_carries : Nat → Int32) (x1 : Int32) (x2 : Int32) (x3 : Int32) (x4 : Int32) : Option (Int32) :=
  b1_ (fn_X10_isWalker c_t_walkers x2) fun r1 =>
  if r1 = 0 then
    some 1
  else
    b1_ (fn_X10_isWalker c_t_walkers x3) fun r3 =>
    if r3 = 0 then
      some 1
    else
      if x2 = x3 then
        some 2
      else
        b1_ (fn_X10_isCarried c_t_walkers c_t_carries x2) fun r5 =>
        if r5 = 0 then
          b1_ (fn_X10_isCarried c_t_walkers c_t_carries x3) fun r7 =>
          if r7 = 0 then
            ck_ x2 6 <|
            ck_ x3 6 <|
            if (c_t_where (Int32.toNatClampNeg x2)) = (c_t_where (Int32.toNatClampNeg x3)) then
              if x1 = 3 then
                ck_ x2 6 <|
                if (10 * x4) ≤ (c_t_light (Int32.toNatClampNeg x2)) then
                  some 0
                else
                  some 6
              else
                ck_ x2 6 <|
                if 0 ≤ (c_t_carries (Int32.toNatClampNeg x2)) then
                  some 7
                else
                  ck_ x3 6 <|
                  if (c_t_carries (Int32.toNatClampNeg x3)) < 0 then
                    some 0
                  else
                    some 7
            else
              some 4
          else
            some 3
        else
          some 3
set_option maxHeartbeats 4000000 in
set_option maxRecDepth 100000 in
theorem wn_X10_whyNotBoth {p : Program} {l : Launch} {e : Env} {s : State} {m : MethodId} {args : Array Value} {below : List Frame} {meth : Method} {c : Code} {G : gw_} {A : Nat → Prop} {Q : State → Prop} {A_t : Nat} {A_t_steps : Nat} {A_t_wet : Nat} {A_t_where : Nat} {A_t_home : Nat} {A_t_light : Nat} {A_t_carries : Nat} {A_t_sightPlace : Nat} {A_t_sightLight : Nat} {A_t_pad : Nat} {A_t_act : Nat} {A_t_whose : Nat} {A_t_whom : Nat} {A_t_tens : Nat} {A_t_had : Nat} {A_t_leaves : Nat} {A_t_apart : Nat} {A_t_stop : Nat} {A_t_restOf : Nat} {A_t_group : Nat} {A_t_along : Nat} {A_t_kept : Nat} {A_t_isKept : Nat} {c_t_foggy : Int32} {c_t_walkers : Int32} {c_t_sights : Int32} {c_t_padMany : Int32} {c_t_acts : Int32} {c_t_spent : Int32} {c_t_walks : Int32} {c_t_badAct : Int32} {c_t_badWhy : Int32} {c_t_keptAt : Int32} {c_t_isWriting : Int32} {c_t_where : Nat → Int32} {c_t_light : Nat → Int32} {c_t_carries : Nat → Int32} {r : Int32} {x1 : Int32} {x2 : Int32} {x3 : Int32} {x4 : Int32} (hC : cx_ p s m c G cX10_whyNotBoth 5 RX10) (hret : ∀ (pc : Nat) (H : Heap) (locs : List Loc) (ls : Array Slot), decode cX10_whyNotBoth pc = .ok (.ireturn, 1) → wd_ G A s.heap (wl_X10_whyNotBoth G A_t A_t_steps A_t_wet A_t_where A_t_home A_t_light A_t_carries A_t_sightPlace A_t_sightLight A_t_pad A_t_act A_t_whose A_t_whom A_t_tens A_t_had A_t_leaves A_t_apart A_t_stop A_t_restOf A_t_group A_t_along A_t_kept A_t_isKept c_t_foggy c_t_walkers c_t_sights c_t_padMany c_t_acts c_t_spent c_t_walks c_t_badAct c_t_badWhy c_t_keptAt c_t_isWriting c_t_where c_t_light c_t_carries) H locs → W p l e { frames := 4, cells := 0, slots := 0, locals := 90 } s m args below meth c H locs 0 0 Q (F0 m pc ls [.int r])) (hf : fn_X10_whyNotBoth c_t_walkers c_t_where c_t_light c_t_carries x1 x2 x3 x4 = some r) {H : Heap} {locs : List Loc} {ls : Array Slot} (hl : lv_has ls 5 [(0, .ref A_t), (1, .int x1), (2, .int x2), (3, .int x3), (4, .int x4)]) (hw : wd_ G A s.heap (wl_X10_whyNotBoth G A_t A_t_steps A_t_wet A_t_where A_t_home A_t_light A_t_carries A_t_sightPlace A_t_sightLight A_t_pad A_t_act A_t_whose A_t_whom A_t_tens A_t_had A_t_leaves A_t_apart A_t_stop A_t_restOf A_t_group A_t_along A_t_kept A_t_isKept c_t_foggy c_t_walkers c_t_sights c_t_padMany c_t_acts c_t_spent c_t_walks c_t_badAct c_t_badWhy c_t_keptAt c_t_isWriting c_t_where c_t_light c_t_carries) H locs) : W p l e { frames := 4, cells := 0, slots := 0, locals := 90 } s m args below meth c H locs 0 0 Q (F0 m 0 ls []) := by
  have hx := hC.1
  have hb := hC.2.1
  unfold fn_X10_whyNotBoth at hf
  refine lv_aload_n hx hb dX10_whyNotBoth_0 rfl (lv_at hl 0 rfl) ?_
  refine lv_iload_n hx hb dX10_whyNotBoth_1 rfl (lv_at hl 2 rfl) ?_
  obtain ⟨r1, hq2, hf⟩ := b1_s hf
  refine h_cVi hC hw mvX10_106 (cn_X10_isWalker l G A_t A_t_steps A_t_wet A_t_where A_t_home A_t_light A_t_carries A_t_sightPlace A_t_sightLight A_t_pad A_t_act A_t_whose A_t_whom A_t_tens A_t_had A_t_leaves A_t_apart A_t_stop A_t_restOf A_t_group A_t_along A_t_kept A_t_isKept c_t_foggy c_t_walkers c_t_sights c_t_padMany c_t_acts c_t_spent c_t_walks c_t_badAct c_t_badWhy c_t_keptAt c_t_isWriting x2 r1 hq2) [0] rfl (by decide) 0 rfl rfl rfl hl.1 rfl (Nat.le_of_ble_eq_true rfl) ⟨Nat.le_of_ble_eq_true rfl, Nat.le_of_ble_eq_true rfl⟩ ⟨Nat.le_refl _, Nat.le_refl _⟩ dX10_whyNotBoth_2 (fun H locs hw => ?_)
  refine lv_if_eq (tgt := 16) hx hb dX10_whyNotBoth_5 (by decide) (fun hc => ?_) (fun hc => ?_)
  · replace hf := it_t hc hf
    refine lv_iconst (v := 1) hx hb dX10_whyNotBoth_16 (by decide) ?_
    have h1_ := t1_ hf
    subst h1_
    exact hret _ _ _ _ dX10_whyNotBoth_17 hw
  · replace hf := it_f hc hf
    refine lv_aload_n hx hb dX10_whyNotBoth_8 rfl (lv_at hl 0 rfl) ?_
    refine lv_iload_n hx hb dX10_whyNotBoth_9 rfl (lv_at hl 3 rfl) ?_
    obtain ⟨r3, hq4, hf⟩ := b1_s hf
    refine h_cVi hC hw mvX10_106 (cn_X10_isWalker l G A_t A_t_steps A_t_wet A_t_where A_t_home A_t_light A_t_carries A_t_sightPlace A_t_sightLight A_t_pad A_t_act A_t_whose A_t_whom A_t_tens A_t_had A_t_leaves A_t_apart A_t_stop A_t_restOf A_t_group A_t_along A_t_kept A_t_isKept c_t_foggy c_t_walkers c_t_sights c_t_padMany c_t_acts c_t_spent c_t_walks c_t_badAct c_t_badWhy c_t_keptAt c_t_isWriting x3 r3 hq4) [0] rfl (by decide) 0 rfl rfl rfl hl.1 rfl (Nat.le_of_ble_eq_true rfl) ⟨Nat.le_of_ble_eq_true rfl, Nat.le_of_ble_eq_true rfl⟩ ⟨Nat.le_refl _, Nat.le_refl _⟩ dX10_whyNotBoth_10 (fun H locs hw => ?_)
    refine lv_if_ne (tgt := 18) hx hb dX10_whyNotBoth_13 (by decide) (fun hc => ?_) (fun hc => ?_)
    · replace hf := it_f hc hf
      refine lv_iload_n hx hb dX10_whyNotBoth_18 rfl (lv_at hl 2 rfl) ?_
      refine lv_iload_n hx hb dX10_whyNotBoth_19 rfl (lv_at hl 3 rfl) ?_
      refine lv_icmp_ne (tgt := 25) hx hb dX10_whyNotBoth_20 (by decide) (fun hc => ?_) (fun hc => ?_)
      · replace hf := it_f hc hf
        refine lv_aload_n hx hb dX10_whyNotBoth_25 rfl (lv_at hl 0 rfl) ?_
        refine lv_iload_n hx hb dX10_whyNotBoth_26 rfl (lv_at hl 2 rfl) ?_
        obtain ⟨r5, hq6, hf⟩ := b1_s hf
        refine h_cVi hC hw mvX10_156 (cn_X10_isCarried l G A_t A_t_steps A_t_wet A_t_where A_t_home A_t_light A_t_carries A_t_sightPlace A_t_sightLight A_t_pad A_t_act A_t_whose A_t_whom A_t_tens A_t_had A_t_leaves A_t_apart A_t_stop A_t_restOf A_t_group A_t_along A_t_kept A_t_isKept c_t_foggy c_t_walkers c_t_sights c_t_padMany c_t_acts c_t_spent c_t_walks c_t_badAct c_t_badWhy c_t_keptAt c_t_isWriting c_t_carries x2 r5 hq6) [0, 3] rfl (by decide) 0 rfl rfl rfl hl.1 rfl (Nat.le_of_ble_eq_true rfl) ⟨Nat.le_of_ble_eq_true rfl, Nat.le_of_ble_eq_true rfl⟩ ⟨Nat.le_refl _, Nat.le_refl _⟩ dX10_whyNotBoth_27 (fun H locs hw => ?_)
        refine lv_if_ne (tgt := 41) hx hb dX10_whyNotBoth_30 (by decide) (fun hc => ?_) (fun hc => ?_)
        · replace hf := it_f hc hf
          refine lv_iconst (v := 3) hx hb dX10_whyNotBoth_41 (by decide) ?_
          have h1_ := t1_ hf
          subst h1_
          exact hret _ _ _ _ dX10_whyNotBoth_42 hw
        · replace hf := it_t hc hf
          refine lv_aload_n hx hb dX10_whyNotBoth_33 rfl (lv_at hl 0 rfl) ?_
          refine lv_iload_n hx hb dX10_whyNotBoth_34 rfl (lv_at hl 3 rfl) ?_
          obtain ⟨r7, hq8, hf⟩ := b1_s hf
          refine h_cVi hC hw mvX10_156 (cn_X10_isCarried l G A_t A_t_steps A_t_wet A_t_where A_t_home A_t_light A_t_carries A_t_sightPlace A_t_sightLight A_t_pad A_t_act A_t_whose A_t_whom A_t_tens A_t_had A_t_leaves A_t_apart A_t_stop A_t_restOf A_t_group A_t_along A_t_kept A_t_isKept c_t_foggy c_t_walkers c_t_sights c_t_padMany c_t_acts c_t_spent c_t_walks c_t_badAct c_t_badWhy c_t_keptAt c_t_isWriting c_t_carries x3 r7 hq8) [0, 3] rfl (by decide) 0 rfl rfl rfl hl.1 rfl (Nat.le_of_ble_eq_true rfl) ⟨Nat.le_of_ble_eq_true rfl, Nat.le_of_ble_eq_true rfl⟩ ⟨Nat.le_refl _, Nat.le_refl _⟩ dX10_whyNotBoth_35 (fun H locs hw => ?_)
          refine lv_if_eq (tgt := 43) hx hb dX10_whyNotBoth_38 (by decide) (fun hc => ?_) (fun hc => ?_)
          · replace hf := it_t hc hf
            refine lv_aload_n hx hb dX10_whyNotBoth_43 rfl (lv_at hl 0 rfl) ?_
            refine g_get hC hw fkX10_16 0 rfl rfl dX10_whyNotBoth_44 ?_
            refine lv_iload_n hx hb dX10_whyNotBoth_47 rfl (lv_at hl 2 rfl) ?_
            obtain ⟨hi, hf⟩ := ck_s hf
            refine g_iald hC hw 1 rfl hi dX10_whyNotBoth_48 ?_
            refine lv_aload_n hx hb dX10_whyNotBoth_49 rfl (lv_at hl 0 rfl) ?_
            refine g_get hC hw fkX10_16 0 rfl rfl dX10_whyNotBoth_50 ?_
            refine lv_iload_n hx hb dX10_whyNotBoth_53 rfl (lv_at hl 3 rfl) ?_
            obtain ⟨hi, hf⟩ := ck_s hf
            refine g_iald hC hw 1 rfl hi dX10_whyNotBoth_54 ?_
            refine lv_icmp_eq (tgt := 60) hx hb dX10_whyNotBoth_55 (by decide) (fun hc => ?_) (fun hc => ?_)
            · replace hf := it_t hc hf
              refine lv_iload_n hx hb dX10_whyNotBoth_60 rfl (lv_at hl 1 rfl) ?_
              refine lv_iconst (v := 3) hx hb dX10_whyNotBoth_61 (by decide) ?_
              refine lv_icmp_ne (tgt := 86) hx hb dX10_whyNotBoth_62 (by decide) (fun hc => ?_) (fun hc => ?_)
              · replace hf := it_f hc hf
                refine lv_aload_n hx hb dX10_whyNotBoth_86 rfl (lv_at hl 0 rfl) ?_
                refine g_get hC hw fkX10_25 0 rfl rfl dX10_whyNotBoth_87 ?_
                refine lv_iload_n hx hb dX10_whyNotBoth_90 rfl (lv_at hl 2 rfl) ?_
                obtain ⟨hi, hf⟩ := ck_s hf
                refine g_iald hC hw 3 rfl hi dX10_whyNotBoth_91 ?_
                refine lv_if_ge (tgt := 104) hx hb dX10_whyNotBoth_92 (by decide) (fun hc => ?_) (fun hc => ?_)
                · replace hf := it_t hc hf
                  refine lv_bipush (v := 7) hx hb dX10_whyNotBoth_104 (by decide) ?_
                  refine lv_goto (tgt := 110) hx hb dX10_whyNotBoth_106 (by decide) ?_
                  have h1_ := t1_ hf
                  subst h1_
                  exact hret _ _ _ _ dX10_whyNotBoth_110 hw
                · replace hf := it_f hc hf
                  refine lv_aload_n hx hb dX10_whyNotBoth_95 rfl (lv_at hl 0 rfl) ?_
                  refine g_get hC hw fkX10_25 0 rfl rfl dX10_whyNotBoth_96 ?_
                  refine lv_iload_n hx hb dX10_whyNotBoth_99 rfl (lv_at hl 3 rfl) ?_
                  obtain ⟨hi, hf⟩ := ck_s hf
                  refine g_iald hC hw 3 rfl hi dX10_whyNotBoth_100 ?_
                  refine lv_if_lt (tgt := 109) hx hb dX10_whyNotBoth_101 (by decide) (fun hc => ?_) (fun hc => ?_)
                  · replace hf := it_t hc hf
                    refine lv_iconst (v := 0) hx hb dX10_whyNotBoth_109 (by decide) ?_
                    have h1_ := t1_ hf
                    subst h1_
                    exact hret _ _ _ _ dX10_whyNotBoth_110 hw
                  · replace hf := it_f hc hf
                    refine lv_bipush (v := 7) hx hb dX10_whyNotBoth_104 (by decide) ?_
                    refine lv_goto (tgt := 110) hx hb dX10_whyNotBoth_106 (by decide) ?_
                    have h1_ := t1_ hf
                    subst h1_
                    exact hret _ _ _ _ dX10_whyNotBoth_110 hw
              · replace hf := it_t hc hf
                refine lv_aload_n hx hb dX10_whyNotBoth_65 rfl (lv_at hl 0 rfl) ?_
                refine g_get hC hw fkX10_22 0 rfl rfl dX10_whyNotBoth_66 ?_
                refine lv_iload_n hx hb dX10_whyNotBoth_69 rfl (lv_at hl 2 rfl) ?_
                obtain ⟨hi, hf⟩ := ck_s hf
                refine g_iald hC hw 2 rfl hi dX10_whyNotBoth_70 ?_
                refine lv_bipush (v := 10) hx hb dX10_whyNotBoth_71 (by decide) ?_
                refine lv_iload hx hb dX10_whyNotBoth_73 (lv_at hl 4 rfl) ?_
                refine lv_imul hx hb dX10_whyNotBoth_75 ?_
                refine lv_icmp_ge (tgt := 84) hx hb dX10_whyNotBoth_76 (by decide) (fun hc => ?_) (fun hc => ?_)
                · replace hf := it_t hc hf
                  refine lv_iconst (v := 0) hx hb dX10_whyNotBoth_84 (by decide) ?_
                  have h1_ := t1_ hf
                  subst h1_
                  exact hret _ _ _ _ dX10_whyNotBoth_85 hw
                · replace hf := it_f hc hf
                  refine lv_bipush (v := 6) hx hb dX10_whyNotBoth_79 (by decide) ?_
                  refine lv_goto (tgt := 85) hx hb dX10_whyNotBoth_81 (by decide) ?_
                  have h1_ := t1_ hf
                  subst h1_
                  exact hret _ _ _ _ dX10_whyNotBoth_85 hw
            · replace hf := it_f hc hf
              refine lv_iconst (v := 4) hx hb dX10_whyNotBoth_58 (by decide) ?_
              have h1_ := t1_ hf
              subst h1_
              exact hret _ _ _ _ dX10_whyNotBoth_59 hw
          · replace hf := it_f hc hf
            refine lv_iconst (v := 3) hx hb dX10_whyNotBoth_41 (by decide) ?_
            have h1_ := t1_ hf
            subst h1_
            exact hret _ _ _ _ dX10_whyNotBoth_42 hw
      · replace hf := it_t hc hf
        refine lv_iconst (v := 2) hx hb dX10_whyNotBoth_23 (by decide) ?_
        have h1_ := t1_ hf
        subst h1_
        exact hret _ _ _ _ dX10_whyNotBoth_24 hw
    · replace hf := it_t hc hf
      refine lv_iconst (v := 1) hx hb dX10_whyNotBoth_16 (by decide) ?_
      have h1_ := t1_ hf
      subst h1_
      exact hret _ _ _ _ dX10_whyNotBoth_17 hw
set_option maxHeartbeats 4000000 in
set_option maxRecDepth 100000 in
theorem cn_X10_whyNotBoth (l : Launch) (G : gw_) (A_t : Nat) (A_t_steps : Nat) (A_t_wet : Nat) (A_t_where : Nat) (A_t_home : Nat) (A_t_light : Nat) (A_t_carries : Nat) (A_t_sightPlace : Nat) (A_t_sightLight : Nat) (A_t_pad : Nat) (A_t_act : Nat) (A_t_whose : Nat) (A_t_whom : Nat) (A_t_tens : Nat) (A_t_had : Nat) (A_t_leaves : Nat) (A_t_apart : Nat) (A_t_stop : Nat) (A_t_restOf : Nat) (A_t_group : Nat) (A_t_along : Nat) (A_t_kept : Nat) (A_t_isKept : Nat) (c_t_foggy : Int32) (c_t_walkers : Int32) (c_t_sights : Int32) (c_t_padMany : Int32) (c_t_acts : Int32) (c_t_spent : Int32) (c_t_walks : Int32) (c_t_badAct : Int32) (c_t_badWhy : Int32) (c_t_keptAt : Int32) (c_t_isWriting : Int32) (c_t_where : Nat → Int32) (c_t_light : Nat → Int32) (c_t_carries : Nat → Int32) (x1 : Int32) (x2 : Int32) (x3 : Int32) (x4 : Int32) (r : Int32) (hf : fn_X10_whyNotBoth c_t_walkers c_t_where c_t_light c_t_carries x1 x2 x3 x4 = some r) : ci_ l G yX10_whyNotBoth cX10_whyNotBoth 5 (some .int) 4 90 (wl_X10_whyNotBoth G A_t A_t_steps A_t_wet A_t_where A_t_home A_t_light A_t_carries A_t_sightPlace A_t_sightLight A_t_pad A_t_act A_t_whose A_t_whom A_t_tens A_t_had A_t_leaves A_t_apart A_t_stop A_t_restOf A_t_group A_t_along A_t_kept A_t_isKept c_t_foggy c_t_walkers c_t_sights c_t_padMany c_t_acts c_t_spent c_t_walks c_t_badAct c_t_badWhy c_t_keptAt c_t_isWriting c_t_where c_t_light c_t_carries) [.ref A_t, .int x1, .int x2, .int x3, .int x4] r (wl_X10_whyNotBoth G A_t A_t_steps A_t_wet A_t_where A_t_home A_t_light A_t_carries A_t_sightPlace A_t_sightLight A_t_pad A_t_act A_t_whose A_t_whom A_t_tens A_t_had A_t_leaves A_t_apart A_t_stop A_t_restOf A_t_group A_t_along A_t_kept A_t_isKept c_t_foggy c_t_walkers c_t_sights c_t_padMany c_t_acts c_t_spent c_t_walks c_t_badAct c_t_badWhy c_t_keptAt c_t_isWriting c_t_where c_t_light c_t_carries) := fun sz => met_intro (by decide) (Nat.le_of_ble_eq_true rfl) (fun p e s m args below meth c ls hsz hC hr hlk hnm hl hw => wn_X10_whyNotBoth hC (fun pc H locs ls hd hw => g_iret hC hr hlk hw rfl rfl hd) hf hl hw)

theorem dX10_whyNot_0 : decode cX10_whyNot 0 = .ok (.iload_n 1, 1) := by decide +kernel
theorem dX10_whyNot_1 : decode cX10_whyNot 1 = .ok (.iconst 4, 1) := by decide +kernel
theorem dX10_whyNot_2 : decode cX10_whyNot 2 = .ok (.if_icmp .ne 5, 3) := by decide +kernel
theorem dX10_whyNot_5 : decode cX10_whyNot 5 = .ok (.iconst 0, 1) := by decide +kernel
theorem dX10_whyNot_6 : decode cX10_whyNot 6 = .ok (.ireturn, 1) := by decide +kernel
theorem dX10_whyNot_7 : decode cX10_whyNot 7 = .ok (.iload_n 1, 1) := by decide +kernel
theorem dX10_whyNot_8 : decode cX10_whyNot 8 = .ok (.iconst 1, 1) := by decide +kernel
theorem dX10_whyNot_9 : decode cX10_whyNot 9 = .ok (.if_icmp .eq 8, 3) := by decide +kernel
theorem dX10_whyNot_12 : decode cX10_whyNot 12 = .ok (.iload_n 1, 1) := by decide +kernel
theorem dX10_whyNot_13 : decode cX10_whyNot 13 = .ok (.iconst 3, 1) := by decide +kernel
theorem dX10_whyNot_14 : decode cX10_whyNot 14 = .ok (.if_icmp .ne 13, 3) := by decide +kernel
theorem dX10_whyNot_17 : decode cX10_whyNot 17 = .ok (.aload_n 0, 1) := by decide +kernel
theorem dX10_whyNot_18 : decode cX10_whyNot 18 = .ok (.iload_n 1, 1) := by decide +kernel
theorem dX10_whyNot_19 : decode cX10_whyNot 19 = .ok (.iload_n 2, 1) := by decide +kernel
theorem dX10_whyNot_20 : decode cX10_whyNot 20 = .ok (.iload_n 3, 1) := by decide +kernel
theorem dX10_whyNot_21 : decode cX10_whyNot 21 = .ok (.iload 4, 2) := by decide +kernel
theorem dX10_whyNot_23 : decode cX10_whyNot 23 = .ok (.invokevirtual 159, 3) := by decide +kernel
theorem dX10_whyNot_26 : decode cX10_whyNot 26 = .ok (.ireturn, 1) := by decide +kernel
theorem dX10_whyNot_27 : decode cX10_whyNot 27 = .ok (.aload_n 0, 1) := by decide +kernel
theorem dX10_whyNot_28 : decode cX10_whyNot 28 = .ok (.iload_n 2, 1) := by decide +kernel
theorem dX10_whyNot_29 : decode cX10_whyNot 29 = .ok (.invokevirtual 106, 3) := by decide +kernel
theorem dX10_whyNot_32 : decode cX10_whyNot 32 = .ok (.ifCond .ne 5, 3) := by decide +kernel
theorem dX10_whyNot_35 : decode cX10_whyNot 35 = .ok (.iconst 1, 1) := by decide +kernel
theorem dX10_whyNot_36 : decode cX10_whyNot 36 = .ok (.ireturn, 1) := by decide +kernel
theorem dX10_whyNot_37 : decode cX10_whyNot 37 = .ok (.aload_n 0, 1) := by decide +kernel
theorem dX10_whyNot_38 : decode cX10_whyNot 38 = .ok (.iload_n 2, 1) := by decide +kernel
theorem dX10_whyNot_39 : decode cX10_whyNot 39 = .ok (.invokevirtual 156, 3) := by decide +kernel
theorem dX10_whyNot_42 : decode cX10_whyNot 42 = .ok (.ifCond .eq 5, 3) := by decide +kernel
theorem dX10_whyNot_45 : decode cX10_whyNot 45 = .ok (.iconst 3, 1) := by decide +kernel
theorem dX10_whyNot_46 : decode cX10_whyNot 46 = .ok (.ireturn, 1) := by decide +kernel
theorem dX10_whyNot_47 : decode cX10_whyNot 47 = .ok (.iload_n 1, 1) := by decide +kernel
theorem dX10_whyNot_48 : decode cX10_whyNot 48 = .ok (.iconst 2, 1) := by decide +kernel
theorem dX10_whyNot_49 : decode cX10_whyNot 49 = .ok (.if_icmp .ne 19, 3) := by decide +kernel
theorem dX10_whyNot_52 : decode cX10_whyNot 52 = .ok (.aload_n 0, 1) := by decide +kernel
theorem dX10_whyNot_53 : decode cX10_whyNot 53 = .ok (.getfield 25, 3) := by decide +kernel
theorem dX10_whyNot_56 : decode cX10_whyNot 56 = .ok (.iload_n 2, 1) := by decide +kernel
theorem dX10_whyNot_57 : decode cX10_whyNot 57 = .ok (.iaload, 1) := by decide +kernel
theorem dX10_whyNot_58 : decode cX10_whyNot 58 = .ok (.ifCond .ge 8, 3) := by decide +kernel
theorem dX10_whyNot_61 : decode cX10_whyNot 61 = .ok (.bipush 7, 2) := by decide +kernel
theorem dX10_whyNot_63 : decode cX10_whyNot 63 = .ok (.goto 4, 3) := by decide +kernel
theorem dX10_whyNot_66 : decode cX10_whyNot 66 = .ok (.iconst 0, 1) := by decide +kernel
theorem dX10_whyNot_67 : decode cX10_whyNot 67 = .ok (.ireturn, 1) := by decide +kernel
theorem dX10_whyNot_68 : decode cX10_whyNot 68 = .ok (.aload_n 0, 1) := by decide +kernel
theorem dX10_whyNot_69 : decode cX10_whyNot 69 = .ok (.aload_n 0, 1) := by decide +kernel
theorem dX10_whyNot_70 : decode cX10_whyNot 70 = .ok (.getfield 16, 3) := by decide +kernel
theorem dX10_whyNot_73 : decode cX10_whyNot 73 = .ok (.iload_n 2, 1) := by decide +kernel
theorem dX10_whyNot_74 : decode cX10_whyNot 74 = .ok (.iaload, 1) := by decide +kernel
theorem dX10_whyNot_75 : decode cX10_whyNot 75 = .ok (.iload_n 3, 1) := by decide +kernel
theorem dX10_whyNot_76 : decode cX10_whyNot 76 = .ok (.invokevirtual 163, 3) := by decide +kernel
theorem dX10_whyNot_79 : decode cX10_whyNot 79 = .ok (.istore 5, 2) := by decide +kernel
theorem dX10_whyNot_81 : decode cX10_whyNot 81 = .ok (.iload 5, 2) := by decide +kernel
theorem dX10_whyNot_83 : decode cX10_whyNot 83 = .ok (.ifCond .ge 7, 3) := by decide +kernel
theorem dX10_whyNot_86 : decode cX10_whyNot 86 = .ok (.iconst 5, 1) := by decide +kernel
theorem dX10_whyNot_87 : decode cX10_whyNot 87 = .ok (.goto 20, 3) := by decide +kernel
theorem dX10_whyNot_90 : decode cX10_whyNot 90 = .ok (.aload_n 0, 1) := by decide +kernel
theorem dX10_whyNot_91 : decode cX10_whyNot 91 = .ok (.getfield 22, 3) := by decide +kernel
theorem dX10_whyNot_94 : decode cX10_whyNot 94 = .ok (.iload_n 2, 1) := by decide +kernel
theorem dX10_whyNot_95 : decode cX10_whyNot 95 = .ok (.iaload, 1) := by decide +kernel
theorem dX10_whyNot_96 : decode cX10_whyNot 96 = .ok (.iload 5, 2) := by decide +kernel
theorem dX10_whyNot_98 : decode cX10_whyNot 98 = .ok (.if_icmp .ge 8, 3) := by decide +kernel
theorem dX10_whyNot_101 : decode cX10_whyNot 101 = .ok (.bipush 6, 2) := by decide +kernel
theorem dX10_whyNot_103 : decode cX10_whyNot 103 = .ok (.goto 4, 3) := by decide +kernel
theorem dX10_whyNot_106 : decode cX10_whyNot 106 = .ok (.iconst 0, 1) := by decide +kernel
theorem dX10_whyNot_107 : decode cX10_whyNot 107 = .ok (.ireturn, 1) := by decide +kernel
abbrev wl_X10_whyNot (G : gw_) (A_t : Nat) (A_t_steps : Nat) (A_t_wet : Nat) (A_t_where : Nat) (A_t_home : Nat) (A_t_light : Nat) (A_t_carries : Nat) (A_t_sightPlace : Nat) (A_t_sightLight : Nat) (A_t_pad : Nat) (A_t_act : Nat) (A_t_whose : Nat) (A_t_whom : Nat) (A_t_tens : Nat) (A_t_had : Nat) (A_t_leaves : Nat) (A_t_apart : Nat) (A_t_stop : Nat) (A_t_restOf : Nat) (A_t_group : Nat) (A_t_along : Nat) (A_t_kept : Nat) (A_t_isKept : Nat) (c_t_foggy : Int32) (c_t_walkers : Int32) (c_t_sights : Int32) (c_t_padMany : Int32) (c_t_acts : Int32) (c_t_spent : Int32) (c_t_walks : Int32) (c_t_badAct : Int32) (c_t_badWhy : Int32) (c_t_keptAt : Int32) (c_t_isWriting : Int32) (c_t_steps : Nat → Int32) (c_t_wet : Nat → Int32) (c_t_where : Nat → Int32) (c_t_light : Nat → Int32) (c_t_carries : Nat → Int32) : va_W := [ob_ A_t 10 [.ref A_t_steps, .ref A_t_wet, .int c_t_foggy, .int c_t_walkers, .ref A_t_where, .ref A_t_home, .ref A_t_light, .ref A_t_carries, .ref A_t_sightPlace, .ref A_t_sightLight, .int c_t_sights, .ref A_t_pad, .int c_t_padMany, .ref A_t_act, .ref A_t_whose, .ref A_t_whom, .ref A_t_tens, .int c_t_acts, .int c_t_spent, .int c_t_walks, .ref A_t_had, .ref A_t_leaves, .int c_t_badAct, .int c_t_badWhy, .ref A_t_apart, .ref A_t_stop, .ref A_t_restOf, .ref A_t_group, .ref A_t_along, .ref A_t_kept, .ref A_t_isKept, .int c_t_keptAt, .int c_t_isWriting], ia_ G A_t_steps 144 c_t_steps, ia_ G A_t_wet 144 c_t_wet, ia_ G A_t_where 6 c_t_where, ia_ G A_t_light 6 c_t_light, ia_ G A_t_carries 6 c_t_carries]
def fn_X10_whyNot_j17 (c_t_walkers : Int32) (c_t_where : Nat → Int32) (c_t_light : Nat → Int32) (c_t_carries : Nat → Int32) (x1 : Int32) (x2 : Int32) (x3 : Int32) (x4 : Int32)  : Option (Int32) :=
  b1_ (fn_X10_whyNotBoth c_t_walkers c_t_where c_t_light c_t_carries x1 x2 x3 x4) fun r1 =>
  some r1
def fn_X10_whyNot (c_t_foggy : Int32) (c_t_walkers : Int32) (c_t_steps : Nat → Int32) (c_t_wet : Nat → Int32) (c_t_where : Nat → Int32) (c_t_light : Nat → Int32) (c_t_carries : Nat → Int32) (x1 : Int32) (x2 : Int32) (x3 : Int32) (x4 : Int32) : Option (Int32) :=
  if x1 = 4 then
    some 0
  else
    if x1 = 1 then
      fn_X10_whyNot_j17 c_t_walkers c_t_where c_t_light c_t_carries x1 x2 x3 x4
    else
      if x1 = 3 then
        fn_X10_whyNot_j17 c_t_walkers c_t_where c_t_light c_t_carries x1 x2 x3 x4
      else
        b1_ (fn_X10_isWalker c_t_walkers x2) fun r3 =>
        if r3 = 0 then
          some 1
        else
          b1_ (fn_X10_isCarried c_t_walkers c_t_carries x2) fun r5 =>
          if r5 = 0 then
            if x1 = 2 then
              ck_ x2 6 <|
              if 0 ≤ (c_t_carries (Int32.toNatClampNeg x2)) then
                some 0
              else
                some 7
            else
              ck_ x2 6 <|
              b1_ (fn_X10_cost c_t_foggy c_t_steps c_t_wet (c_t_where (Int32.toNatClampNeg x2)) x3) fun r7 =>
              if 0 ≤ r7 then
                ck_ x2 6 <|
                if r7 ≤ (c_t_light (Int32.toNatClampNeg x2)) then
                  some 0
                else
                  some 6
              else
                some 5
          else
            some 3
set_option maxHeartbeats 4000000 in
set_option maxRecDepth 100000 in
theorem wn_X10_whyNot_j17 {p : Program} {l : Launch} {e : Env} {s : State} {m : MethodId} {args : Array Value} {below : List Frame} {meth : Method} {c : Code} {G : gw_} {A : Nat → Prop} {Q : State → Prop} {A_t : Nat} {A_t_steps : Nat} {A_t_wet : Nat} {A_t_where : Nat} {A_t_home : Nat} {A_t_light : Nat} {A_t_carries : Nat} {A_t_sightPlace : Nat} {A_t_sightLight : Nat} {A_t_pad : Nat} {A_t_act : Nat} {A_t_whose : Nat} {A_t_whom : Nat} {A_t_tens : Nat} {A_t_had : Nat} {A_t_leaves : Nat} {A_t_apart : Nat} {A_t_stop : Nat} {A_t_restOf : Nat} {A_t_group : Nat} {A_t_along : Nat} {A_t_kept : Nat} {A_t_isKept : Nat} {c_t_foggy : Int32} {c_t_walkers : Int32} {c_t_sights : Int32} {c_t_padMany : Int32} {c_t_acts : Int32} {c_t_spent : Int32} {c_t_walks : Int32} {c_t_badAct : Int32} {c_t_badWhy : Int32} {c_t_keptAt : Int32} {c_t_isWriting : Int32} {c_t_steps : Nat → Int32} {c_t_wet : Nat → Int32} {c_t_where : Nat → Int32} {c_t_light : Nat → Int32} {c_t_carries : Nat → Int32} {r : Int32} {x1 : Int32} {x2 : Int32} {x3 : Int32} {x4 : Int32} (hC : cx_ p s m c G cX10_whyNot 6 RX10) (hret : ∀ (pc : Nat) (H : Heap) (locs : List Loc) (ls : Array Slot), decode cX10_whyNot pc = .ok (.ireturn, 1) → wd_ G A s.heap (wl_X10_whyNot G A_t A_t_steps A_t_wet A_t_where A_t_home A_t_light A_t_carries A_t_sightPlace A_t_sightLight A_t_pad A_t_act A_t_whose A_t_whom A_t_tens A_t_had A_t_leaves A_t_apart A_t_stop A_t_restOf A_t_group A_t_along A_t_kept A_t_isKept c_t_foggy c_t_walkers c_t_sights c_t_padMany c_t_acts c_t_spent c_t_walks c_t_badAct c_t_badWhy c_t_keptAt c_t_isWriting c_t_steps c_t_wet c_t_where c_t_light c_t_carries) H locs → W p l e { frames := 5, cells := 0, slots := 0, locals := 114 } s m args below meth c H locs 0 0 Q (F0 m pc ls [.int r]))  (hf : fn_X10_whyNot_j17 c_t_walkers c_t_where c_t_light c_t_carries x1 x2 x3 x4 = some r) {H : Heap} {locs : List Loc} {ls : Array Slot} (hl : lv_has ls 6 [(0, .ref A_t), (1, .int x1), (2, .int x2), (3, .int x3), (4, .int x4)]) (hw : wd_ G A s.heap (wl_X10_whyNot G A_t A_t_steps A_t_wet A_t_where A_t_home A_t_light A_t_carries A_t_sightPlace A_t_sightLight A_t_pad A_t_act A_t_whose A_t_whom A_t_tens A_t_had A_t_leaves A_t_apart A_t_stop A_t_restOf A_t_group A_t_along A_t_kept A_t_isKept c_t_foggy c_t_walkers c_t_sights c_t_padMany c_t_acts c_t_spent c_t_walks c_t_badAct c_t_badWhy c_t_keptAt c_t_isWriting c_t_steps c_t_wet c_t_where c_t_light c_t_carries) H locs) : W p l e { frames := 5, cells := 0, slots := 0, locals := 114 } s m args below meth c H locs 0 0 Q (F0 m 17 ls []) := by
  have hx := hC.1
  have hb := hC.2.1
  unfold fn_X10_whyNot_j17 at hf
  refine lv_aload_n hx hb dX10_whyNot_17 rfl (lv_at hl 0 rfl) ?_
  refine lv_iload_n hx hb dX10_whyNot_18 rfl (lv_at hl 1 rfl) ?_
  refine lv_iload_n hx hb dX10_whyNot_19 rfl (lv_at hl 2 rfl) ?_
  refine lv_iload_n hx hb dX10_whyNot_20 rfl (lv_at hl 3 rfl) ?_
  refine lv_iload hx hb dX10_whyNot_21 (lv_at hl 4 rfl) ?_
  obtain ⟨r1, hq2, hf⟩ := b1_s hf
  refine h_cVi hC hw mvX10_159 (cn_X10_whyNotBoth l G A_t A_t_steps A_t_wet A_t_where A_t_home A_t_light A_t_carries A_t_sightPlace A_t_sightLight A_t_pad A_t_act A_t_whose A_t_whom A_t_tens A_t_had A_t_leaves A_t_apart A_t_stop A_t_restOf A_t_group A_t_along A_t_kept A_t_isKept c_t_foggy c_t_walkers c_t_sights c_t_padMany c_t_acts c_t_spent c_t_walks c_t_badAct c_t_badWhy c_t_keptAt c_t_isWriting c_t_where c_t_light c_t_carries x1 x2 x3 x4 r1 hq2) [0, 3, 4, 5] rfl (by decide) 0 rfl rfl rfl hl.1 rfl (Nat.le_of_ble_eq_true rfl) ⟨Nat.le_of_ble_eq_true rfl, Nat.le_of_ble_eq_true rfl⟩ ⟨Nat.le_refl _, Nat.le_refl _⟩ dX10_whyNot_23 (fun H locs hw => ?_)
  have h1_ := t1_ hf
  subst h1_
  exact hret _ _ _ _ dX10_whyNot_26 hw
set_option maxHeartbeats 4000000 in
set_option maxRecDepth 100000 in
theorem wn_X10_whyNot {p : Program} {l : Launch} {e : Env} {s : State} {m : MethodId} {args : Array Value} {below : List Frame} {meth : Method} {c : Code} {G : gw_} {A : Nat → Prop} {Q : State → Prop} {A_t : Nat} {A_t_steps : Nat} {A_t_wet : Nat} {A_t_where : Nat} {A_t_home : Nat} {A_t_light : Nat} {A_t_carries : Nat} {A_t_sightPlace : Nat} {A_t_sightLight : Nat} {A_t_pad : Nat} {A_t_act : Nat} {A_t_whose : Nat} {A_t_whom : Nat} {A_t_tens : Nat} {A_t_had : Nat} {A_t_leaves : Nat} {A_t_apart : Nat} {A_t_stop : Nat} {A_t_restOf : Nat} {A_t_group : Nat} {A_t_along : Nat} {A_t_kept : Nat} {A_t_isKept : Nat} {c_t_foggy : Int32} {c_t_walkers : Int32} {c_t_sights : Int32} {c_t_padMany : Int32} {c_t_acts : Int32} {c_t_spent : Int32} {c_t_walks : Int32} {c_t_badAct : Int32} {c_t_badWhy : Int32} {c_t_keptAt : Int32} {c_t_isWriting : Int32} {c_t_steps : Nat → Int32} {c_t_wet : Nat → Int32} {c_t_where : Nat → Int32} {c_t_light : Nat → Int32} {c_t_carries : Nat → Int32} {r : Int32} {x1 : Int32} {x2 : Int32} {x3 : Int32} {x4 : Int32} (hC : cx_ p s m c G cX10_whyNot 6 RX10) (hret : ∀ (pc : Nat) (H : Heap) (locs : List Loc) (ls : Array Slot), decode cX10_whyNot pc = .ok (.ireturn, 1) → wd_ G A s.heap (wl_X10_whyNot G A_t A_t_steps A_t_wet A_t_where A_t_home A_t_light A_t_carries A_t_sightPlace A_t_sightLight A_t_pad A_t_act A_t_whose A_t_whom A_t_tens A_t_had A_t_leaves A_t_apart A_t_stop A_t_restOf A_t_group A_t_along A_t_kept A_t_isKept c_t_foggy c_t_walkers c_t_sights c_t_padMany c_t_acts c_t_spent c_t_walks c_t_badAct c_t_badWhy c_t_keptAt c_t_isWriting c_t_steps c_t_wet c_t_where c_t_light c_t_carries) H locs → W p l e { frames := 5, cells := 0, slots := 0, locals := 114 } s m args below meth c H locs 0 0 Q (F0 m pc ls [.int r])) (hf : fn_X10_whyNot c_t_foggy c_t_walkers c_t_steps c_t_wet c_t_where c_t_light c_t_carries x1 x2 x3 x4 = some r) {H : Heap} {locs : List Loc} {ls : Array Slot} (hl : lv_has ls 6 [(0, .ref A_t), (1, .int x1), (2, .int x2), (3, .int x3), (4, .int x4)]) (hw : wd_ G A s.heap (wl_X10_whyNot G A_t A_t_steps A_t_wet A_t_where A_t_home A_t_light A_t_carries A_t_sightPlace A_t_sightLight A_t_pad A_t_act A_t_whose A_t_whom A_t_tens A_t_had A_t_leaves A_t_apart A_t_stop A_t_restOf A_t_group A_t_along A_t_kept A_t_isKept c_t_foggy c_t_walkers c_t_sights c_t_padMany c_t_acts c_t_spent c_t_walks c_t_badAct c_t_badWhy c_t_keptAt c_t_isWriting c_t_steps c_t_wet c_t_where c_t_light c_t_carries) H locs) : W p l e { frames := 5, cells := 0, slots := 0, locals := 114 } s m args below meth c H locs 0 0 Q (F0 m 0 ls []) := by
  have hx := hC.1
  have hb := hC.2.1
  unfold fn_X10_whyNot at hf
  refine lv_iload_n hx hb dX10_whyNot_0 rfl (lv_at hl 1 rfl) ?_
  refine lv_iconst (v := 4) hx hb dX10_whyNot_1 (by decide) ?_
  refine lv_icmp_ne (tgt := 7) hx hb dX10_whyNot_2 (by decide) (fun hc => ?_) (fun hc => ?_)
  · replace hf := it_f hc hf
    refine lv_iload_n hx hb dX10_whyNot_7 rfl (lv_at hl 1 rfl) ?_
    refine lv_iconst (v := 1) hx hb dX10_whyNot_8 (by decide) ?_
    refine lv_icmp_eq (tgt := 17) hx hb dX10_whyNot_9 (by decide) (fun hc => ?_) (fun hc => ?_)
    · replace hf := it_t hc hf
      exact wn_X10_whyNot_j17 hC hret hf (lv_sub hl [0, 1, 2, 3, 4] rfl) hw
    · replace hf := it_f hc hf
      refine lv_iload_n hx hb dX10_whyNot_12 rfl (lv_at hl 1 rfl) ?_
      refine lv_iconst (v := 3) hx hb dX10_whyNot_13 (by decide) ?_
      refine lv_icmp_ne (tgt := 27) hx hb dX10_whyNot_14 (by decide) (fun hc => ?_) (fun hc => ?_)
      · replace hf := it_f hc hf
        refine lv_aload_n hx hb dX10_whyNot_27 rfl (lv_at hl 0 rfl) ?_
        refine lv_iload_n hx hb dX10_whyNot_28 rfl (lv_at hl 2 rfl) ?_
        obtain ⟨r3, hq4, hf⟩ := b1_s hf
        refine h_cVi hC hw mvX10_106 (cn_X10_isWalker l G A_t A_t_steps A_t_wet A_t_where A_t_home A_t_light A_t_carries A_t_sightPlace A_t_sightLight A_t_pad A_t_act A_t_whose A_t_whom A_t_tens A_t_had A_t_leaves A_t_apart A_t_stop A_t_restOf A_t_group A_t_along A_t_kept A_t_isKept c_t_foggy c_t_walkers c_t_sights c_t_padMany c_t_acts c_t_spent c_t_walks c_t_badAct c_t_badWhy c_t_keptAt c_t_isWriting x2 r3 hq4) [0] rfl (by decide) 0 rfl rfl rfl hl.1 rfl (Nat.le_of_ble_eq_true rfl) ⟨Nat.le_of_ble_eq_true rfl, Nat.le_of_ble_eq_true rfl⟩ ⟨Nat.le_refl _, Nat.le_refl _⟩ dX10_whyNot_29 (fun H locs hw => ?_)
        refine lv_if_ne (tgt := 37) hx hb dX10_whyNot_32 (by decide) (fun hc => ?_) (fun hc => ?_)
        · replace hf := it_f hc hf
          refine lv_aload_n hx hb dX10_whyNot_37 rfl (lv_at hl 0 rfl) ?_
          refine lv_iload_n hx hb dX10_whyNot_38 rfl (lv_at hl 2 rfl) ?_
          obtain ⟨r5, hq6, hf⟩ := b1_s hf
          refine h_cVi hC hw mvX10_156 (cn_X10_isCarried l G A_t A_t_steps A_t_wet A_t_where A_t_home A_t_light A_t_carries A_t_sightPlace A_t_sightLight A_t_pad A_t_act A_t_whose A_t_whom A_t_tens A_t_had A_t_leaves A_t_apart A_t_stop A_t_restOf A_t_group A_t_along A_t_kept A_t_isKept c_t_foggy c_t_walkers c_t_sights c_t_padMany c_t_acts c_t_spent c_t_walks c_t_badAct c_t_badWhy c_t_keptAt c_t_isWriting c_t_carries x2 r5 hq6) [0, 5] rfl (by decide) 0 rfl rfl rfl hl.1 rfl (Nat.le_of_ble_eq_true rfl) ⟨Nat.le_of_ble_eq_true rfl, Nat.le_of_ble_eq_true rfl⟩ ⟨Nat.le_refl _, Nat.le_refl _⟩ dX10_whyNot_39 (fun H locs hw => ?_)
          refine lv_if_eq (tgt := 47) hx hb dX10_whyNot_42 (by decide) (fun hc => ?_) (fun hc => ?_)
          · replace hf := it_t hc hf
            refine lv_iload_n hx hb dX10_whyNot_47 rfl (lv_at hl 1 rfl) ?_
            refine lv_iconst (v := 2) hx hb dX10_whyNot_48 (by decide) ?_
            refine lv_icmp_ne (tgt := 68) hx hb dX10_whyNot_49 (by decide) (fun hc => ?_) (fun hc => ?_)
            · replace hf := it_f hc hf
              refine lv_aload_n hx hb dX10_whyNot_68 rfl (lv_at hl 0 rfl) ?_
              refine lv_aload_n hx hb dX10_whyNot_69 rfl (lv_at hl 0 rfl) ?_
              refine g_get hC hw fkX10_16 0 rfl rfl dX10_whyNot_70 ?_
              refine lv_iload_n hx hb dX10_whyNot_73 rfl (lv_at hl 2 rfl) ?_
              obtain ⟨hi, hf⟩ := ck_s hf
              refine g_iald hC hw 3 rfl hi dX10_whyNot_74 ?_
              refine lv_iload_n hx hb dX10_whyNot_75 rfl (lv_at hl 3 rfl) ?_
              obtain ⟨r7, hq8, hf⟩ := b1_s hf
              refine h_cVi hC hw mvX10_163 (cn_X10_cost l G A_t A_t_steps A_t_wet A_t_where A_t_home A_t_light A_t_carries A_t_sightPlace A_t_sightLight A_t_pad A_t_act A_t_whose A_t_whom A_t_tens A_t_had A_t_leaves A_t_apart A_t_stop A_t_restOf A_t_group A_t_along A_t_kept A_t_isKept c_t_foggy c_t_walkers c_t_sights c_t_padMany c_t_acts c_t_spent c_t_walks c_t_badAct c_t_badWhy c_t_keptAt c_t_isWriting c_t_steps c_t_wet (c_t_where (Int32.toNatClampNeg x2)) x3 r7 hq8) [0, 1, 2] rfl (by decide) 0 rfl rfl rfl hl.1 rfl (Nat.le_of_ble_eq_true rfl) ⟨Nat.le_of_ble_eq_true rfl, Nat.le_of_ble_eq_true rfl⟩ ⟨Nat.le_refl _, Nat.le_refl _⟩ dX10_whyNot_76 (fun H locs hw => ?_)
              refine lv_istore (lv' := [(5, .int r7), (0, .ref A_t), (1, .int x1), (2, .int x2), (3, .int x3), (4, .int x4)]) hx hb dX10_whyNot_79 hl (by decide) rfl (fun ls hl => ?_)
              refine lv_iload hx hb dX10_whyNot_81 (lv_at hl 0 rfl) ?_
              refine lv_if_ge (tgt := 90) hx hb dX10_whyNot_83 (by decide) (fun hc => ?_) (fun hc => ?_)
              · replace hf := it_t hc hf
                refine lv_aload_n hx hb dX10_whyNot_90 rfl (lv_at hl 1 rfl) ?_
                refine g_get hC hw fkX10_22 0 rfl rfl dX10_whyNot_91 ?_
                refine lv_iload_n hx hb dX10_whyNot_94 rfl (lv_at hl 3 rfl) ?_
                obtain ⟨hi, hf⟩ := ck_s hf
                refine g_iald hC hw 4 rfl hi dX10_whyNot_95 ?_
                refine lv_iload hx hb dX10_whyNot_96 (lv_at hl 0 rfl) ?_
                refine lv_icmp_ge (tgt := 106) hx hb dX10_whyNot_98 (by decide) (fun hc => ?_) (fun hc => ?_)
                · replace hf := it_t hc hf
                  refine lv_iconst (v := 0) hx hb dX10_whyNot_106 (by decide) ?_
                  have h1_ := t1_ hf
                  subst h1_
                  exact hret _ _ _ _ dX10_whyNot_107 hw
                · replace hf := it_f hc hf
                  refine lv_bipush (v := 6) hx hb dX10_whyNot_101 (by decide) ?_
                  refine lv_goto (tgt := 107) hx hb dX10_whyNot_103 (by decide) ?_
                  have h1_ := t1_ hf
                  subst h1_
                  exact hret _ _ _ _ dX10_whyNot_107 hw
              · replace hf := it_f hc hf
                refine lv_iconst (v := 5) hx hb dX10_whyNot_86 (by decide) ?_
                refine lv_goto (tgt := 107) hx hb dX10_whyNot_87 (by decide) ?_
                have h1_ := t1_ hf
                subst h1_
                exact hret _ _ _ _ dX10_whyNot_107 hw
            · replace hf := it_t hc hf
              refine lv_aload_n hx hb dX10_whyNot_52 rfl (lv_at hl 0 rfl) ?_
              refine g_get hC hw fkX10_25 0 rfl rfl dX10_whyNot_53 ?_
              refine lv_iload_n hx hb dX10_whyNot_56 rfl (lv_at hl 2 rfl) ?_
              obtain ⟨hi, hf⟩ := ck_s hf
              refine g_iald hC hw 5 rfl hi dX10_whyNot_57 ?_
              refine lv_if_ge (tgt := 66) hx hb dX10_whyNot_58 (by decide) (fun hc => ?_) (fun hc => ?_)
              · replace hf := it_t hc hf
                refine lv_iconst (v := 0) hx hb dX10_whyNot_66 (by decide) ?_
                have h1_ := t1_ hf
                subst h1_
                exact hret _ _ _ _ dX10_whyNot_67 hw
              · replace hf := it_f hc hf
                refine lv_bipush (v := 7) hx hb dX10_whyNot_61 (by decide) ?_
                refine lv_goto (tgt := 67) hx hb dX10_whyNot_63 (by decide) ?_
                have h1_ := t1_ hf
                subst h1_
                exact hret _ _ _ _ dX10_whyNot_67 hw
          · replace hf := it_f hc hf
            refine lv_iconst (v := 3) hx hb dX10_whyNot_45 (by decide) ?_
            have h1_ := t1_ hf
            subst h1_
            exact hret _ _ _ _ dX10_whyNot_46 hw
        · replace hf := it_t hc hf
          refine lv_iconst (v := 1) hx hb dX10_whyNot_35 (by decide) ?_
          have h1_ := t1_ hf
          subst h1_
          exact hret _ _ _ _ dX10_whyNot_36 hw
      · replace hf := it_t hc hf
        exact wn_X10_whyNot_j17 hC hret hf (lv_sub hl [0, 1, 2, 3, 4] rfl) hw
  · replace hf := it_t hc hf
    refine lv_iconst (v := 0) hx hb dX10_whyNot_5 (by decide) ?_
    have h1_ := t1_ hf
    subst h1_
    exact hret _ _ _ _ dX10_whyNot_6 hw
set_option maxHeartbeats 4000000 in
set_option maxRecDepth 100000 in
theorem cn_X10_whyNot (l : Launch) (G : gw_) (A_t : Nat) (A_t_steps : Nat) (A_t_wet : Nat) (A_t_where : Nat) (A_t_home : Nat) (A_t_light : Nat) (A_t_carries : Nat) (A_t_sightPlace : Nat) (A_t_sightLight : Nat) (A_t_pad : Nat) (A_t_act : Nat) (A_t_whose : Nat) (A_t_whom : Nat) (A_t_tens : Nat) (A_t_had : Nat) (A_t_leaves : Nat) (A_t_apart : Nat) (A_t_stop : Nat) (A_t_restOf : Nat) (A_t_group : Nat) (A_t_along : Nat) (A_t_kept : Nat) (A_t_isKept : Nat) (c_t_foggy : Int32) (c_t_walkers : Int32) (c_t_sights : Int32) (c_t_padMany : Int32) (c_t_acts : Int32) (c_t_spent : Int32) (c_t_walks : Int32) (c_t_badAct : Int32) (c_t_badWhy : Int32) (c_t_keptAt : Int32) (c_t_isWriting : Int32) (c_t_steps : Nat → Int32) (c_t_wet : Nat → Int32) (c_t_where : Nat → Int32) (c_t_light : Nat → Int32) (c_t_carries : Nat → Int32) (x1 : Int32) (x2 : Int32) (x3 : Int32) (x4 : Int32) (r : Int32) (hf : fn_X10_whyNot c_t_foggy c_t_walkers c_t_steps c_t_wet c_t_where c_t_light c_t_carries x1 x2 x3 x4 = some r) : ci_ l G yX10_whyNot cX10_whyNot 6 (some .int) 5 114 (wl_X10_whyNot G A_t A_t_steps A_t_wet A_t_where A_t_home A_t_light A_t_carries A_t_sightPlace A_t_sightLight A_t_pad A_t_act A_t_whose A_t_whom A_t_tens A_t_had A_t_leaves A_t_apart A_t_stop A_t_restOf A_t_group A_t_along A_t_kept A_t_isKept c_t_foggy c_t_walkers c_t_sights c_t_padMany c_t_acts c_t_spent c_t_walks c_t_badAct c_t_badWhy c_t_keptAt c_t_isWriting c_t_steps c_t_wet c_t_where c_t_light c_t_carries) [.ref A_t, .int x1, .int x2, .int x3, .int x4] r (wl_X10_whyNot G A_t A_t_steps A_t_wet A_t_where A_t_home A_t_light A_t_carries A_t_sightPlace A_t_sightLight A_t_pad A_t_act A_t_whose A_t_whom A_t_tens A_t_had A_t_leaves A_t_apart A_t_stop A_t_restOf A_t_group A_t_along A_t_kept A_t_isKept c_t_foggy c_t_walkers c_t_sights c_t_padMany c_t_acts c_t_spent c_t_walks c_t_badAct c_t_badWhy c_t_keptAt c_t_isWriting c_t_steps c_t_wet c_t_where c_t_light c_t_carries) := fun sz => met_intro (by decide) (Nat.le_of_ble_eq_true rfl) (fun p e s m args below meth c ls hsz hC hr hlk hnm hl hw => wn_X10_whyNot hC (fun pc H locs ls hd hw => g_iret hC hr hlk hw rfl rfl hd) hf hl hw)

theorem dX10_walk_0 : decode cX10_walk 0 = .ok (.aload_n 0, 1) := by decide +kernel
theorem dX10_walk_1 : decode cX10_walk 1 = .ok (.aload_n 0, 1) := by decide +kernel
theorem dX10_walk_2 : decode cX10_walk 2 = .ok (.getfield 16, 3) := by decide +kernel
theorem dX10_walk_5 : decode cX10_walk 5 = .ok (.iload_n 1, 1) := by decide +kernel
theorem dX10_walk_6 : decode cX10_walk 6 = .ok (.iaload, 1) := by decide +kernel
theorem dX10_walk_7 : decode cX10_walk 7 = .ok (.iload_n 2, 1) := by decide +kernel
theorem dX10_walk_8 : decode cX10_walk 8 = .ok (.invokevirtual 163, 3) := by decide +kernel
theorem dX10_walk_11 : decode cX10_walk 11 = .ok (.istore_n 3, 1) := by decide +kernel
theorem dX10_walk_12 : decode cX10_walk 12 = .ok (.aload_n 0, 1) := by decide +kernel
theorem dX10_walk_13 : decode cX10_walk 13 = .ok (.getfield 22, 3) := by decide +kernel
theorem dX10_walk_16 : decode cX10_walk 16 = .ok (.iload_n 1, 1) := by decide +kernel
theorem dX10_walk_17 : decode cX10_walk 17 = .ok (.dup2, 1) := by decide +kernel
theorem dX10_walk_18 : decode cX10_walk 18 = .ok (.iaload, 1) := by decide +kernel
theorem dX10_walk_19 : decode cX10_walk 19 = .ok (.iload_n 3, 1) := by decide +kernel
theorem dX10_walk_20 : decode cX10_walk 20 = .ok (.isub, 1) := by decide +kernel
theorem dX10_walk_21 : decode cX10_walk 21 = .ok (.iastore, 1) := by decide +kernel
theorem dX10_walk_22 : decode cX10_walk 22 = .ok (.aload_n 0, 1) := by decide +kernel
theorem dX10_walk_23 : decode cX10_walk 23 = .ok (.dup, 1) := by decide +kernel
theorem dX10_walk_24 : decode cX10_walk 24 = .ok (.getfield 166, 3) := by decide +kernel
theorem dX10_walk_27 : decode cX10_walk 27 = .ok (.iload_n 3, 1) := by decide +kernel
theorem dX10_walk_28 : decode cX10_walk 28 = .ok (.iadd, 1) := by decide +kernel
theorem dX10_walk_29 : decode cX10_walk 29 = .ok (.putfield 166, 3) := by decide +kernel
theorem dX10_walk_32 : decode cX10_walk 32 = .ok (.aload_n 0, 1) := by decide +kernel
theorem dX10_walk_33 : decode cX10_walk 33 = .ok (.dup, 1) := by decide +kernel
theorem dX10_walk_34 : decode cX10_walk 34 = .ok (.getfield 169, 3) := by decide +kernel
theorem dX10_walk_37 : decode cX10_walk 37 = .ok (.iconst 1, 1) := by decide +kernel
theorem dX10_walk_38 : decode cX10_walk 38 = .ok (.iadd, 1) := by decide +kernel
theorem dX10_walk_39 : decode cX10_walk 39 = .ok (.putfield 169, 3) := by decide +kernel
theorem dX10_walk_42 : decode cX10_walk 42 = .ok (.aload_n 0, 1) := by decide +kernel
theorem dX10_walk_43 : decode cX10_walk 43 = .ok (.getfield 16, 3) := by decide +kernel
theorem dX10_walk_46 : decode cX10_walk 46 = .ok (.iload_n 1, 1) := by decide +kernel
theorem dX10_walk_47 : decode cX10_walk 47 = .ok (.iload_n 2, 1) := by decide +kernel
theorem dX10_walk_48 : decode cX10_walk 48 = .ok (.iastore, 1) := by decide +kernel
theorem dX10_walk_49 : decode cX10_walk 49 = .ok (.aload_n 0, 1) := by decide +kernel
theorem dX10_walk_50 : decode cX10_walk 50 = .ok (.getfield 25, 3) := by decide +kernel
theorem dX10_walk_53 : decode cX10_walk 53 = .ok (.iload_n 1, 1) := by decide +kernel
theorem dX10_walk_54 : decode cX10_walk 54 = .ok (.iaload, 1) := by decide +kernel
theorem dX10_walk_55 : decode cX10_walk 55 = .ok (.ifCond .lt 15, 3) := by decide +kernel
theorem dX10_walk_58 : decode cX10_walk 58 = .ok (.aload_n 0, 1) := by decide +kernel
theorem dX10_walk_59 : decode cX10_walk 59 = .ok (.getfield 16, 3) := by decide +kernel
theorem dX10_walk_62 : decode cX10_walk 62 = .ok (.aload_n 0, 1) := by decide +kernel
theorem dX10_walk_63 : decode cX10_walk 63 = .ok (.getfield 25, 3) := by decide +kernel
theorem dX10_walk_66 : decode cX10_walk 66 = .ok (.iload_n 1, 1) := by decide +kernel
theorem dX10_walk_67 : decode cX10_walk 67 = .ok (.iaload, 1) := by decide +kernel
theorem dX10_walk_68 : decode cX10_walk 68 = .ok (.iload_n 2, 1) := by decide +kernel
theorem dX10_walk_69 : decode cX10_walk 69 = .ok (.iastore, 1) := by decide +kernel
theorem dX10_walk_70 : decode cX10_walk 70 = .ok (.return_, 1) := by decide +kernel
abbrev wl_X10_walk (G : gw_) (A_t : Nat) (A_t_steps : Nat) (A_t_wet : Nat) (A_t_where : Nat) (A_t_home : Nat) (A_t_light : Nat) (A_t_carries : Nat) (A_t_sightPlace : Nat) (A_t_sightLight : Nat) (A_t_pad : Nat) (A_t_act : Nat) (A_t_whose : Nat) (A_t_whom : Nat) (A_t_tens : Nat) (A_t_had : Nat) (A_t_leaves : Nat) (A_t_apart : Nat) (A_t_stop : Nat) (A_t_restOf : Nat) (A_t_group : Nat) (A_t_along : Nat) (A_t_kept : Nat) (A_t_isKept : Nat) (c_t_foggy : Int32) (c_t_walkers : Int32) (c_t_sights : Int32) (c_t_padMany : Int32) (c_t_acts : Int32) (c_t_spent : Int32) (c_t_walks : Int32) (c_t_badAct : Int32) (c_t_badWhy : Int32) (c_t_keptAt : Int32) (c_t_isWriting : Int32) (c_t_steps : Nat → Int32) (c_t_wet : Nat → Int32) (c_t_where : Nat → Int32) (c_t_light : Nat → Int32) (c_t_carries : Nat → Int32) : va_W := [ob_ A_t 10 [.ref A_t_steps, .ref A_t_wet, .int c_t_foggy, .int c_t_walkers, .ref A_t_where, .ref A_t_home, .ref A_t_light, .ref A_t_carries, .ref A_t_sightPlace, .ref A_t_sightLight, .int c_t_sights, .ref A_t_pad, .int c_t_padMany, .ref A_t_act, .ref A_t_whose, .ref A_t_whom, .ref A_t_tens, .int c_t_acts, .int c_t_spent, .int c_t_walks, .ref A_t_had, .ref A_t_leaves, .int c_t_badAct, .int c_t_badWhy, .ref A_t_apart, .ref A_t_stop, .ref A_t_restOf, .ref A_t_group, .ref A_t_along, .ref A_t_kept, .ref A_t_isKept, .int c_t_keptAt, .int c_t_isWriting], ia_ G A_t_steps 144 c_t_steps, ia_ G A_t_wet 144 c_t_wet, ia_ G A_t_where 6 c_t_where, ia_ G A_t_light 6 c_t_light, ia_ G A_t_carries 6 c_t_carries]
def fn_X10_walk (c_t_foggy : Int32) (c_t_spent : Int32) (c_t_walks : Int32) (c_t_steps : Nat → Int32) (c_t_wet : Nat → Int32) (c_t_where : Nat → Int32) (c_t_light : Nat → Int32) (c_t_carries : Nat → Int32) (x1 : Int32) (x2 : Int32) : Option (Int32 × Int32 × (Nat → Int32) × (Nat → Int32)) :=
  ck_ x1 6 <|
  b1_ (fn_X10_cost c_t_foggy c_t_steps c_t_wet (c_t_where (Int32.toNatClampNeg x1)) x2) fun r1 =>
  ck_ x1 6 <|
  ck_ x1 6 <|
  lx_ (upd c_t_light (Int32.toNatClampNeg x1) ((c_t_light (Int32.toNatClampNeg x1)) - r1)) fun f3 =>
  ck_ x1 6 <|
  lx_ (upd c_t_where (Int32.toNatClampNeg x1) x2) fun f4 =>
  ck_ x1 6 <|
  if (c_t_carries (Int32.toNatClampNeg x1)) < 0 then
    some (c_t_spent + r1, c_t_walks + 1, f4, f3)
  else
    ck_ x1 6 <|
    ck_ (c_t_carries (Int32.toNatClampNeg x1)) 6 <|
    lx_ (upd f4 (Int32.toNatClampNeg (c_t_carries (Int32.toNatClampNeg x1))) x2) fun f5 =>
    some (c_t_spent + r1, c_t_walks + 1, f5, f3)
set_option maxHeartbeats 4000000 in
set_option maxRecDepth 100000 in
theorem wn_X10_walk {p : Program} {l : Launch} {e : Env} {s : State} {m : MethodId} {args : Array Value} {below : List Frame} {meth : Method} {c : Code} {G : gw_} {A : Nat → Prop} {Q : State → Prop} {A_t : Nat} {A_t_steps : Nat} {A_t_wet : Nat} {A_t_where : Nat} {A_t_home : Nat} {A_t_light : Nat} {A_t_carries : Nat} {A_t_sightPlace : Nat} {A_t_sightLight : Nat} {A_t_pad : Nat} {A_t_act : Nat} {A_t_whose : Nat} {A_t_whom : Nat} {A_t_tens : Nat} {A_t_had : Nat} {A_t_leaves : Nat} {A_t_apart : Nat} {A_t_stop : Nat} {A_t_restOf : Nat} {A_t_group : Nat} {A_t_along : Nat} {A_t_kept : Nat} {A_t_isKept : Nat} {c_t_foggy : Int32} {c_t_walkers : Int32} {c_t_sights : Int32} {c_t_padMany : Int32} {c_t_acts : Int32} {c_t_spent : Int32} {z_t_spent : Int32} {c_t_walks : Int32} {z_t_walks : Int32} {c_t_badAct : Int32} {c_t_badWhy : Int32} {c_t_keptAt : Int32} {c_t_isWriting : Int32} {c_t_steps : Nat → Int32} {c_t_wet : Nat → Int32} {c_t_where : Nat → Int32} {z_t_where : Nat → Int32} {c_t_light : Nat → Int32} {z_t_light : Nat → Int32} {c_t_carries : Nat → Int32} {x1 : Int32} {x2 : Int32} (hC : cx_ p s m c G cX10_walk 4 RX10) (hret : ∀ (pc : Nat) (H : Heap) (locs : List Loc) (ls : Array Slot), decode cX10_walk pc = .ok (.return_, 1) → wd_ G A s.heap (wl_X10_walk G A_t A_t_steps A_t_wet A_t_where A_t_home A_t_light A_t_carries A_t_sightPlace A_t_sightLight A_t_pad A_t_act A_t_whose A_t_whom A_t_tens A_t_had A_t_leaves A_t_apart A_t_stop A_t_restOf A_t_group A_t_along A_t_kept A_t_isKept c_t_foggy c_t_walkers c_t_sights c_t_padMany c_t_acts z_t_spent z_t_walks c_t_badAct c_t_badWhy c_t_keptAt c_t_isWriting c_t_steps c_t_wet z_t_where z_t_light c_t_carries) H locs → W p l e { frames := 3, cells := 0, slots := 0, locals := 67 } s m args below meth c H locs 0 0 Q (F0 m pc ls [])) (hf : fn_X10_walk c_t_foggy c_t_spent c_t_walks c_t_steps c_t_wet c_t_where c_t_light c_t_carries x1 x2 = some (z_t_spent, z_t_walks, z_t_where, z_t_light)) {H : Heap} {locs : List Loc} {ls : Array Slot} (hl : lv_has ls 4 [(0, .ref A_t), (1, .int x1), (2, .int x2)]) (hw : wd_ G A s.heap (wl_X10_walk G A_t A_t_steps A_t_wet A_t_where A_t_home A_t_light A_t_carries A_t_sightPlace A_t_sightLight A_t_pad A_t_act A_t_whose A_t_whom A_t_tens A_t_had A_t_leaves A_t_apart A_t_stop A_t_restOf A_t_group A_t_along A_t_kept A_t_isKept c_t_foggy c_t_walkers c_t_sights c_t_padMany c_t_acts c_t_spent c_t_walks c_t_badAct c_t_badWhy c_t_keptAt c_t_isWriting c_t_steps c_t_wet c_t_where c_t_light c_t_carries) H locs) : W p l e { frames := 3, cells := 0, slots := 0, locals := 67 } s m args below meth c H locs 0 0 Q (F0 m 0 ls []) := by
  have hx := hC.1
  have hb := hC.2.1
  unfold fn_X10_walk at hf
  refine lv_aload_n hx hb dX10_walk_0 rfl (lv_at hl 0 rfl) ?_
  refine lv_aload_n hx hb dX10_walk_1 rfl (lv_at hl 0 rfl) ?_
  refine g_get hC hw fkX10_16 0 rfl rfl dX10_walk_2 ?_
  refine lv_iload_n hx hb dX10_walk_5 rfl (lv_at hl 1 rfl) ?_
  obtain ⟨hi, hf⟩ := ck_s hf
  refine g_iald hC hw 3 rfl hi dX10_walk_6 ?_
  refine lv_iload_n hx hb dX10_walk_7 rfl (lv_at hl 2 rfl) ?_
  obtain ⟨r1, hq2, hf⟩ := b1_s hf
  refine h_cVi hC hw mvX10_163 (cn_X10_cost l G A_t A_t_steps A_t_wet A_t_where A_t_home A_t_light A_t_carries A_t_sightPlace A_t_sightLight A_t_pad A_t_act A_t_whose A_t_whom A_t_tens A_t_had A_t_leaves A_t_apart A_t_stop A_t_restOf A_t_group A_t_along A_t_kept A_t_isKept c_t_foggy c_t_walkers c_t_sights c_t_padMany c_t_acts c_t_spent c_t_walks c_t_badAct c_t_badWhy c_t_keptAt c_t_isWriting c_t_steps c_t_wet (c_t_where (Int32.toNatClampNeg x1)) x2 r1 hq2) [0, 1, 2] rfl (by decide) 0 rfl rfl rfl hl.1 rfl (Nat.le_of_ble_eq_true rfl) ⟨Nat.le_of_ble_eq_true rfl, Nat.le_of_ble_eq_true rfl⟩ ⟨Nat.le_refl _, Nat.le_refl _⟩ dX10_walk_8 (fun H locs hw => ?_)
  refine lv_istore_n (lv' := [(3, .int r1), (0, .ref A_t), (1, .int x1), (2, .int x2)]) hx hb dX10_walk_11 rfl hl (by decide) rfl (fun ls hl => ?_)
  refine lv_aload_n hx hb dX10_walk_12 rfl (lv_at hl 1 rfl) ?_
  refine g_get hC hw fkX10_22 0 rfl rfl dX10_walk_13 ?_
  refine lv_iload_n hx hb dX10_walk_16 rfl (lv_at hl 2 rfl) ?_
  refine lv_dup2_11 hx hb dX10_walk_17 rfl rfl ?_
  obtain ⟨hi, hf⟩ := ck_s hf
  refine g_iald hC hw 4 rfl hi dX10_walk_18 ?_
  refine lv_iload_n hx hb dX10_walk_19 rfl (lv_at hl 0 rfl) ?_
  refine lv_isub hx hb dX10_walk_20 ?_
  obtain ⟨hi, hf⟩ := ck_s hf
  obtain ⟨f3, ef3, hf⟩ := lx_s hf
  refine g_iast hC hw 4 rfl hi ef3 dX10_walk_21 (fun H locs hw => ?_)
  have hw : wd_ G A s.heap (wl_X10_walk G A_t A_t_steps A_t_wet A_t_where A_t_home A_t_light A_t_carries A_t_sightPlace A_t_sightLight A_t_pad A_t_act A_t_whose A_t_whom A_t_tens A_t_had A_t_leaves A_t_apart A_t_stop A_t_restOf A_t_group A_t_along A_t_kept A_t_isKept c_t_foggy c_t_walkers c_t_sights c_t_padMany c_t_acts c_t_spent c_t_walks c_t_badAct c_t_badWhy c_t_keptAt c_t_isWriting c_t_steps c_t_wet c_t_where f3 c_t_carries) H locs := hw
  refine lv_aload_n hx hb dX10_walk_22 rfl (lv_at hl 1 rfl) ?_
  refine lv_dup hx hb dX10_walk_23 rfl ?_
  refine g_get hC hw fkX10_166 0 rfl rfl dX10_walk_24 ?_
  refine lv_iload_n hx hb dX10_walk_27 rfl (lv_at hl 0 rfl) ?_
  refine lv_iadd hx hb dX10_walk_28 ?_
  refine g_put hC hw fpX10_166 0 rfl rfl rfl (Nat.le_of_ble_eq_true rfl) dX10_walk_29 (fun H locs hw => ?_)
  have hw : wd_ G A s.heap (wl_X10_walk G A_t A_t_steps A_t_wet A_t_where A_t_home A_t_light A_t_carries A_t_sightPlace A_t_sightLight A_t_pad A_t_act A_t_whose A_t_whom A_t_tens A_t_had A_t_leaves A_t_apart A_t_stop A_t_restOf A_t_group A_t_along A_t_kept A_t_isKept c_t_foggy c_t_walkers c_t_sights c_t_padMany c_t_acts (c_t_spent + r1) c_t_walks c_t_badAct c_t_badWhy c_t_keptAt c_t_isWriting c_t_steps c_t_wet c_t_where f3 c_t_carries) H locs := hw
  refine lv_aload_n hx hb dX10_walk_32 rfl (lv_at hl 1 rfl) ?_
  refine lv_dup hx hb dX10_walk_33 rfl ?_
  refine g_get hC hw fkX10_169 0 rfl rfl dX10_walk_34 ?_
  refine lv_iconst (v := 1) hx hb dX10_walk_37 (by decide) ?_
  refine lv_iadd hx hb dX10_walk_38 ?_
  refine g_put hC hw fpX10_169 0 rfl rfl rfl (Nat.le_of_ble_eq_true rfl) dX10_walk_39 (fun H locs hw => ?_)
  have hw : wd_ G A s.heap (wl_X10_walk G A_t A_t_steps A_t_wet A_t_where A_t_home A_t_light A_t_carries A_t_sightPlace A_t_sightLight A_t_pad A_t_act A_t_whose A_t_whom A_t_tens A_t_had A_t_leaves A_t_apart A_t_stop A_t_restOf A_t_group A_t_along A_t_kept A_t_isKept c_t_foggy c_t_walkers c_t_sights c_t_padMany c_t_acts (c_t_spent + r1) (c_t_walks + 1) c_t_badAct c_t_badWhy c_t_keptAt c_t_isWriting c_t_steps c_t_wet c_t_where f3 c_t_carries) H locs := hw
  refine lv_aload_n hx hb dX10_walk_42 rfl (lv_at hl 1 rfl) ?_
  refine g_get hC hw fkX10_16 0 rfl rfl dX10_walk_43 ?_
  refine lv_iload_n hx hb dX10_walk_46 rfl (lv_at hl 2 rfl) ?_
  refine lv_iload_n hx hb dX10_walk_47 rfl (lv_at hl 3 rfl) ?_
  obtain ⟨hi, hf⟩ := ck_s hf
  obtain ⟨f4, ef4, hf⟩ := lx_s hf
  refine g_iast hC hw 3 rfl hi ef4 dX10_walk_48 (fun H locs hw => ?_)
  have hw : wd_ G A s.heap (wl_X10_walk G A_t A_t_steps A_t_wet A_t_where A_t_home A_t_light A_t_carries A_t_sightPlace A_t_sightLight A_t_pad A_t_act A_t_whose A_t_whom A_t_tens A_t_had A_t_leaves A_t_apart A_t_stop A_t_restOf A_t_group A_t_along A_t_kept A_t_isKept c_t_foggy c_t_walkers c_t_sights c_t_padMany c_t_acts (c_t_spent + r1) (c_t_walks + 1) c_t_badAct c_t_badWhy c_t_keptAt c_t_isWriting c_t_steps c_t_wet f4 f3 c_t_carries) H locs := hw
  refine lv_aload_n hx hb dX10_walk_49 rfl (lv_at hl 1 rfl) ?_
  refine g_get hC hw fkX10_25 0 rfl rfl dX10_walk_50 ?_
  refine lv_iload_n hx hb dX10_walk_53 rfl (lv_at hl 2 rfl) ?_
  obtain ⟨hi, hf⟩ := ck_s hf
  refine g_iald hC hw 5 rfl hi dX10_walk_54 ?_
  refine lv_if_lt (tgt := 70) hx hb dX10_walk_55 (by decide) (fun hc => ?_) (fun hc => ?_)
  · replace hf := it_t hc hf
    obtain ⟨h1_, h2_, h3_, h4_⟩ := t4_ hf
    subst h1_
    subst h2_
    subst h3_
    subst h4_
    exact hret _ _ _ _ dX10_walk_70 hw
  · replace hf := it_f hc hf
    refine lv_aload_n hx hb dX10_walk_58 rfl (lv_at hl 1 rfl) ?_
    refine g_get hC hw fkX10_16 0 rfl rfl dX10_walk_59 ?_
    refine lv_aload_n hx hb dX10_walk_62 rfl (lv_at hl 1 rfl) ?_
    refine g_get hC hw fkX10_25 0 rfl rfl dX10_walk_63 ?_
    refine lv_iload_n hx hb dX10_walk_66 rfl (lv_at hl 2 rfl) ?_
    obtain ⟨hi, hf⟩ := ck_s hf
    refine g_iald hC hw 5 rfl hi dX10_walk_67 ?_
    refine lv_iload_n hx hb dX10_walk_68 rfl (lv_at hl 3 rfl) ?_
    obtain ⟨hi, hf⟩ := ck_s hf
    obtain ⟨f5, ef5, hf⟩ := lx_s hf
    refine g_iast hC hw 3 rfl hi ef5 dX10_walk_69 (fun H locs hw => ?_)
    have hw : wd_ G A s.heap (wl_X10_walk G A_t A_t_steps A_t_wet A_t_where A_t_home A_t_light A_t_carries A_t_sightPlace A_t_sightLight A_t_pad A_t_act A_t_whose A_t_whom A_t_tens A_t_had A_t_leaves A_t_apart A_t_stop A_t_restOf A_t_group A_t_along A_t_kept A_t_isKept c_t_foggy c_t_walkers c_t_sights c_t_padMany c_t_acts (c_t_spent + r1) (c_t_walks + 1) c_t_badAct c_t_badWhy c_t_keptAt c_t_isWriting c_t_steps c_t_wet f5 f3 c_t_carries) H locs := hw
    obtain ⟨h1_, h2_, h3_, h4_⟩ := t4_ hf
    subst h1_
    subst h2_
    subst h3_
    subst h4_
    exact hret _ _ _ _ dX10_walk_70 hw
set_option maxHeartbeats 4000000 in
set_option maxRecDepth 100000 in
theorem cn_X10_walk (l : Launch) (G : gw_) (A_t : Nat) (A_t_steps : Nat) (A_t_wet : Nat) (A_t_where : Nat) (A_t_home : Nat) (A_t_light : Nat) (A_t_carries : Nat) (A_t_sightPlace : Nat) (A_t_sightLight : Nat) (A_t_pad : Nat) (A_t_act : Nat) (A_t_whose : Nat) (A_t_whom : Nat) (A_t_tens : Nat) (A_t_had : Nat) (A_t_leaves : Nat) (A_t_apart : Nat) (A_t_stop : Nat) (A_t_restOf : Nat) (A_t_group : Nat) (A_t_along : Nat) (A_t_kept : Nat) (A_t_isKept : Nat) (c_t_foggy : Int32) (c_t_walkers : Int32) (c_t_sights : Int32) (c_t_padMany : Int32) (c_t_acts : Int32) (c_t_spent : Int32) (c_t_walks : Int32) (c_t_badAct : Int32) (c_t_badWhy : Int32) (c_t_keptAt : Int32) (c_t_isWriting : Int32) (c_t_steps : Nat → Int32) (c_t_wet : Nat → Int32) (c_t_where : Nat → Int32) (c_t_light : Nat → Int32) (c_t_carries : Nat → Int32) (x1 : Int32) (x2 : Int32) (z_t_spent : Int32) (z_t_walks : Int32) (z_t_where : Nat → Int32) (z_t_light : Nat → Int32) (hf : fn_X10_walk c_t_foggy c_t_spent c_t_walks c_t_steps c_t_wet c_t_where c_t_light c_t_carries x1 x2 = some (z_t_spent, z_t_walks, z_t_where, z_t_light)) : cv_ l G yX10_walk cX10_walk 4 none 3 67 (wl_X10_walk G A_t A_t_steps A_t_wet A_t_where A_t_home A_t_light A_t_carries A_t_sightPlace A_t_sightLight A_t_pad A_t_act A_t_whose A_t_whom A_t_tens A_t_had A_t_leaves A_t_apart A_t_stop A_t_restOf A_t_group A_t_along A_t_kept A_t_isKept c_t_foggy c_t_walkers c_t_sights c_t_padMany c_t_acts c_t_spent c_t_walks c_t_badAct c_t_badWhy c_t_keptAt c_t_isWriting c_t_steps c_t_wet c_t_where c_t_light c_t_carries) [.ref A_t, .int x1, .int x2] (wl_X10_walk G A_t A_t_steps A_t_wet A_t_where A_t_home A_t_light A_t_carries A_t_sightPlace A_t_sightLight A_t_pad A_t_act A_t_whose A_t_whom A_t_tens A_t_had A_t_leaves A_t_apart A_t_stop A_t_restOf A_t_group A_t_along A_t_kept A_t_isKept c_t_foggy c_t_walkers c_t_sights c_t_padMany c_t_acts z_t_spent z_t_walks c_t_badAct c_t_badWhy c_t_keptAt c_t_isWriting c_t_steps c_t_wet z_t_where z_t_light c_t_carries) := fun sz => met_intro (by decide) (Nat.le_of_ble_eq_true rfl) (fun p e s m args below meth c ls hsz hC hr hlk hnm hl hw => wn_X10_walk hC (fun pc H locs ls hd hw => g_vret hC hr hlk hw hd) hf hl hw)
