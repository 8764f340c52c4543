theorem dX10_told_0 : decode cX10_told 0 = .ok (.iload_n 1, 1) := by decide +kernel
theorem dX10_told_1 : decode cX10_told 1 = .ok (.i2l, 1) := by decide +kernel
theorem dX10_told_2 : decode cX10_told 2 = .ok (.ldc2_w 301, 3) := by decide +kernel
theorem dX10_told_5 : decode cX10_told 5 = .ok (.ldc2_w 303, 3) := by decide +kernel
theorem dX10_told_8 : decode cX10_told 8 = .ok (.invokestatic 79, 3) := by decide +kernel
theorem dX10_told_11 : decode cX10_told 11 = .ok (.ifCond .eq 35, 3) := by decide +kernel
theorem dX10_told_14 : decode cX10_told 14 = .ok (.aload_n 0, 1) := by decide +kernel
theorem dX10_told_15 : decode cX10_told 15 = .ok (.getfield 7, 3) := by decide +kernel
theorem dX10_told_18 : decode cX10_told 18 = .ok (.iload_n 1, 1) := by decide +kernel
theorem dX10_told_19 : decode cX10_told 19 = .ok (.bipush 100, 2) := by decide +kernel
theorem dX10_told_21 : decode cX10_told 21 = .ok (.isub, 1) := by decide +kernel
theorem dX10_told_22 : decode cX10_told 22 = .ok (.iaload, 1) := by decide +kernel
theorem dX10_told_23 : decode cX10_told 23 = .ok (.istore_n 2, 1) := by decide +kernel
theorem dX10_told_24 : decode cX10_told 24 = .ok (.iload_n 2, 1) := by decide +kernel
theorem dX10_told_25 : decode cX10_told 25 = .ok (.ifCond .ne 7, 3) := by decide +kernel
theorem dX10_told_28 : decode cX10_told 28 = .ok (.iconst 0, 1) := by decide +kernel
theorem dX10_told_29 : decode cX10_told 29 = .ok (.goto 16, 3) := by decide +kernel
theorem dX10_told_32 : decode cX10_told 32 = .ok (.iconst 2, 1) := by decide +kernel
theorem dX10_told_33 : decode cX10_told 33 = .ok (.iload_n 2, 1) := by decide +kernel
theorem dX10_told_34 : decode cX10_told 34 = .ok (.imul, 1) := by decide +kernel
theorem dX10_told_35 : decode cX10_told 35 = .ok (.aload_n 0, 1) := by decide +kernel
theorem dX10_told_36 : decode cX10_told 36 = .ok (.getfield 13, 3) := by decide +kernel
theorem dX10_told_39 : decode cX10_told 39 = .ok (.iload_n 1, 1) := by decide +kernel
theorem dX10_told_40 : decode cX10_told 40 = .ok (.bipush 100, 2) := by decide +kernel
theorem dX10_told_42 : decode cX10_told 42 = .ok (.isub, 1) := by decide +kernel
theorem dX10_told_43 : decode cX10_told 43 = .ok (.iaload, 1) := by decide +kernel
theorem dX10_told_44 : decode cX10_told 44 = .ok (.iadd, 1) := by decide +kernel
theorem dX10_told_45 : decode cX10_told 45 = .ok (.ireturn, 1) := by decide +kernel
theorem dX10_told_46 : decode cX10_told 46 = .ok (.iload_n 1, 1) := by decide +kernel
theorem dX10_told_47 : decode cX10_told 47 = .ok (.i2l, 1) := by decide +kernel
theorem dX10_told_48 : decode cX10_told 48 = .ok (.ldc2_w 267, 3) := by decide +kernel
theorem dX10_told_51 : decode cX10_told 51 = .ok (.ldc2_w 305, 3) := by decide +kernel
theorem dX10_told_54 : decode cX10_told 54 = .ok (.invokestatic 79, 3) := by decide +kernel
theorem dX10_told_57 : decode cX10_told 57 = .ok (.ifCond .eq 18, 3) := by decide +kernel
theorem dX10_told_60 : decode cX10_told 60 = .ok (.aload_n 0, 1) := by decide +kernel
theorem dX10_told_61 : decode cX10_told 61 = .ok (.iload_n 1, 1) := by decide +kernel
theorem dX10_told_62 : decode cX10_told 62 = .ok (.bipush 10, 2) := by decide +kernel
theorem dX10_told_64 : decode cX10_told 64 = .ok (.idiv, 1) := by decide +kernel
theorem dX10_told_65 : decode cX10_told 65 = .ok (.iconst 1, 1) := by decide +kernel
theorem dX10_told_66 : decode cX10_told 66 = .ok (.isub, 1) := by decide +kernel
theorem dX10_told_67 : decode cX10_told 67 = .ok (.iload_n 1, 1) := by decide +kernel
theorem dX10_told_68 : decode cX10_told 68 = .ok (.bipush 10, 2) := by decide +kernel
theorem dX10_told_70 : decode cX10_told 70 = .ok (.irem, 1) := by decide +kernel
theorem dX10_told_71 : decode cX10_told 71 = .ok (.invokevirtual 307, 3) := by decide +kernel
theorem dX10_told_74 : decode cX10_told 74 = .ok (.ireturn, 1) := by decide +kernel
theorem dX10_told_75 : decode cX10_told 75 = .ok (.iload_n 1, 1) := by decide +kernel
theorem dX10_told_76 : decode cX10_told 76 = .ok (.ifCond .ne 10, 3) := by decide +kernel
theorem dX10_told_79 : decode cX10_told 79 = .ok (.aload_n 0, 1) := by decide +kernel
theorem dX10_told_80 : decode cX10_told 80 = .ok (.getfield 123, 3) := by decide +kernel
theorem dX10_told_83 : decode cX10_told 83 = .ok (.goto 41, 3) := by decide +kernel
theorem dX10_told_86 : decode cX10_told 86 = .ok (.iload_n 1, 1) := by decide +kernel
theorem dX10_told_87 : decode cX10_told 87 = .ok (.iconst 1, 1) := by decide +kernel
theorem dX10_told_88 : decode cX10_told 88 = .ok (.if_icmp .ne 10, 3) := by decide +kernel
theorem dX10_told_91 : decode cX10_told 91 = .ok (.aload_n 0, 1) := by decide +kernel
theorem dX10_told_92 : decode cX10_told 92 = .ok (.getfield 85, 3) := by decide +kernel
theorem dX10_told_95 : decode cX10_told 95 = .ok (.goto 29, 3) := by decide +kernel
theorem dX10_told_98 : decode cX10_told 98 = .ok (.iload_n 1, 1) := by decide +kernel
theorem dX10_told_99 : decode cX10_told 99 = .ok (.iconst 2, 1) := by decide +kernel
theorem dX10_told_100 : decode cX10_told 100 = .ok (.if_icmp .ne 10, 3) := by decide +kernel
theorem dX10_told_103 : decode cX10_told 103 = .ok (.aload_n 0, 1) := by decide +kernel
theorem dX10_told_104 : decode cX10_told 104 = .ok (.getfield 93, 3) := by decide +kernel
theorem dX10_told_107 : decode cX10_told 107 = .ok (.goto 17, 3) := by decide +kernel
theorem dX10_told_110 : decode cX10_told 110 = .ok (.iload_n 1, 1) := by decide +kernel
theorem dX10_told_111 : decode cX10_told 111 = .ok (.iconst 3, 1) := by decide +kernel
theorem dX10_told_112 : decode cX10_told 112 = .ok (.if_icmp .ne 10, 3) := by decide +kernel
theorem dX10_told_115 : decode cX10_told 115 = .ok (.aload_n 0, 1) := by decide +kernel
theorem dX10_told_116 : decode cX10_told 116 = .ok (.getfield 254, 3) := by decide +kernel
theorem dX10_told_119 : decode cX10_told 119 = .ok (.goto 5, 3) := by decide +kernel
theorem dX10_told_122 : decode cX10_told 122 = .ok (.bipush (-2), 2) := by decide +kernel
theorem dX10_told_124 : decode cX10_told 124 = .ok (.ireturn, 1) := by decide +kernel
abbrev wl_X10_told (G : gw_) (A_t : Nat) (A_t_steps : Nat) (A_t_wet : Nat) (A_t_where : Nat) (A_t_home : Nat) (A_t_light : Nat) (A_t_carries : Nat) (A_t_sightPlace : Nat) (A_t_sightLight : Nat) (A_t_pad : Nat) (A_t_act : Nat) (A_t_whose : Nat) (A_t_whom : Nat) (A_t_tens : Nat) (A_t_had : Nat) (A_t_leaves : Nat) (A_t_apart : Nat) (A_t_stop : Nat) (A_t_restOf : Nat) (A_t_group : Nat) (A_t_along : Nat) (A_t_kept : Nat) (A_t_isKept : Nat) (c_t_foggy : Int32) (c_t_walkers : Int32) (c_t_sights : Int32) (c_t_padMany : Int32) (c_t_acts : Int32) (c_t_spent : Int32) (c_t_walks : Int32) (c_t_badAct : Int32) (c_t_badWhy : Int32) (c_t_keptAt : Int32) (c_t_isWriting : Int32) (c_t_steps : Nat → Int32) (c_t_wet : Nat → Int32) (c_t_where : Nat → Int32) (c_t_home : Nat → Int32) (c_t_light : Nat → Int32) (c_t_carries : Nat → Int32) : va_W := [ob_ A_t 10 [.ref A_t_steps, .ref A_t_wet, .int c_t_foggy, .int c_t_walkers, .ref A_t_where, .ref A_t_home, .ref A_t_light, .ref A_t_carries, .ref A_t_sightPlace, .ref A_t_sightLight, .int c_t_sights, .ref A_t_pad, .int c_t_padMany, .ref A_t_act, .ref A_t_whose, .ref A_t_whom, .ref A_t_tens, .int c_t_acts, .int c_t_spent, .int c_t_walks, .ref A_t_had, .ref A_t_leaves, .int c_t_badAct, .int c_t_badWhy, .ref A_t_apart, .ref A_t_stop, .ref A_t_restOf, .ref A_t_group, .ref A_t_along, .ref A_t_kept, .ref A_t_isKept, .int c_t_keptAt, .int c_t_isWriting], ia_ G A_t_steps 144 c_t_steps, ia_ G A_t_wet 144 c_t_wet, ia_ G A_t_where 6 c_t_where, ia_ G A_t_home 6 c_t_home, ia_ G A_t_light 6 c_t_light, ia_ G A_t_carries 6 c_t_carries]
def fn_X10_told (c_t_foggy : Int32) (c_t_walkers : Int32) (c_t_sights : Int32) (c_t_padMany : Int32) (c_t_steps : Nat → Int32) (c_t_wet : Nat → Int32) (c_t_where : Nat → Int32) (c_t_home : Nat → Int32) (c_t_light : Nat → Int32) (c_t_carries : Nat → Int32) (x1 : Int32) : Option (Int32) :=
  b1_ (fn_X10_in (Int32.toInt64 x1) 100 243) fun r1 =>
  if r1 = 0 then
    b1_ (fn_X10_in (Int32.toInt64 x1) 10 69) fun r3 =>
    if r3 = 0 then
      if x1 = 0 then
        some c_t_padMany
      else
        if x1 = 1 then
          some c_t_walkers
        else
          if x1 = 2 then
            some c_t_foggy
          else
            if x1 = 3 then
              some c_t_sights
            else
              some (-2)
    else
      b1_ (fn_X10_toldOf c_t_walkers c_t_where c_t_home c_t_light c_t_carries ((x1 / 10) - 1) (x1 - x1 / 10 * 10)) fun r5 =>
      some r5
  else
    ck_ (x1 - 100) 144 <|
    lx_ (c_t_steps (Int32.toNatClampNeg (x1 - 100))) fun y7 =>
    if y7 = 0 then
      some 0
    else
      ck_ (x1 - 100) 144 <|
      some ((2 * y7) + (c_t_wet (Int32.toNatClampNeg (x1 - 100))))
set_option maxHeartbeats 4000000 in
set_option maxRecDepth 100000 in
theorem wn_X10_told {p : Program} {l : Launch} {e : Env} {s : State} {m : MethodId} {args : Array Value} {below : List Frame} {meth : Method} {c : Code} {G : gw_} {A : Nat → Prop} {Q : State → Prop} {A_t : Nat} {A_t_steps : Nat} {A_t_wet : Nat} {A_t_where : Nat} {A_t_home : Nat} {A_t_light : Nat} {A_t_carries : Nat} {A_t_sightPlace : Nat} {A_t_sightLight : Nat} {A_t_pad : Nat} {A_t_act : Nat} {A_t_whose : Nat} {A_t_whom : Nat} {A_t_tens : Nat} {A_t_had : Nat} {A_t_leaves : Nat} {A_t_apart : Nat} {A_t_stop : Nat} {A_t_restOf : Nat} {A_t_group : Nat} {A_t_along : Nat} {A_t_kept : Nat} {A_t_isKept : Nat} {c_t_foggy : Int32} {c_t_walkers : Int32} {c_t_sights : Int32} {c_t_padMany : Int32} {c_t_acts : Int32} {c_t_spent : Int32} {c_t_walks : Int32} {c_t_badAct : Int32} {c_t_badWhy : Int32} {c_t_keptAt : Int32} {c_t_isWriting : Int32} {c_t_steps : Nat → Int32} {c_t_wet : Nat → Int32} {c_t_where : Nat → Int32} {c_t_home : Nat → Int32} {c_t_light : Nat → Int32} {c_t_carries : Nat → Int32} {r : Int32} {x1 : Int32} (hC : cx_ p s m c G cX10_told 3 RX10) (hret : ∀ (pc : Nat) (H : Heap) (locs : List Loc) (ls : Array Slot), decode cX10_told pc = .ok (.ireturn, 1) → wd_ G A s.heap (wl_X10_told G A_t A_t_steps A_t_wet A_t_where A_t_home A_t_light A_t_carries A_t_sightPlace A_t_sightLight A_t_pad A_t_act A_t_whose A_t_whom A_t_tens A_t_had A_t_leaves A_t_apart A_t_stop A_t_restOf A_t_group A_t_along A_t_kept A_t_isKept c_t_foggy c_t_walkers c_t_sights c_t_padMany c_t_acts c_t_spent c_t_walks c_t_badAct c_t_badWhy c_t_keptAt c_t_isWriting c_t_steps c_t_wet c_t_where c_t_home c_t_light c_t_carries) H locs → W p l e { frames := 3, cells := 0, slots := 0, locals := 68 } s m args below meth c H locs 0 0 Q (F0 m pc ls [.int r])) (hf : fn_X10_told c_t_foggy c_t_walkers c_t_sights c_t_padMany c_t_steps c_t_wet c_t_where c_t_home c_t_light c_t_carries x1 = some r) {H : Heap} {locs : List Loc} {ls : Array Slot} (hl : lv_has ls 3 [(0, .ref A_t), (1, .int x1)]) (hw : wd_ G A s.heap (wl_X10_told G A_t A_t_steps A_t_wet A_t_where A_t_home A_t_light A_t_carries A_t_sightPlace A_t_sightLight A_t_pad A_t_act A_t_whose A_t_whom A_t_tens A_t_had A_t_leaves A_t_apart A_t_stop A_t_restOf A_t_group A_t_along A_t_kept A_t_isKept c_t_foggy c_t_walkers c_t_sights c_t_padMany c_t_acts c_t_spent c_t_walks c_t_badAct c_t_badWhy c_t_keptAt c_t_isWriting c_t_steps c_t_wet c_t_where c_t_home c_t_light c_t_carries) H locs) : W p l e { frames := 3, cells := 0, slots := 0, locals := 68 } s m args below meth c H locs 0 0 Q (F0 m 0 ls []) := by
  have hx := hC.1
  have hb := hC.2.1
  unfold fn_X10_told at hf
  refine lv_iload_n hx hb dX10_told_0 rfl (lv_at hl 1 rfl) ?_
  refine lv_i2l hx hb dX10_told_1 rfl ?_
  refine g_ldc2 (v := 100) hC (tb5 167 rfl rfl) dX10_told_2 ?_
  refine g_ldc2 (v := 243) hC (tb5 168 rfl rfl) dX10_told_5 ?_
  obtain ⟨r1, hq2, hf⟩ := b1_s hf
  refine h_cSi hC hw msX10_79 (cn_X10_in l G (Int32.toInt64 x1) 100 243 r1 hq2) [] rfl (by decide) rfl hl.1 rfl (Nat.le_of_ble_eq_true rfl) ⟨Nat.le_of_ble_eq_true rfl, Nat.le_of_ble_eq_true rfl⟩ ⟨Nat.le_refl _, Nat.le_refl _⟩ dX10_told_8 (fun H locs hw => ?_)
  refine lv_if_eq (tgt := 46) hx hb dX10_told_11 (by decide) (fun hc => ?_) (fun hc => ?_)
  · replace hf := it_t hc hf
    refine lv_iload_n hx hb dX10_told_46 rfl (lv_at hl 1 rfl) ?_
    refine lv_i2l hx hb dX10_told_47 rfl ?_
    refine g_ldc2 (v := 10) hC (tb5 129 rfl rfl) dX10_told_48 ?_
    refine g_ldc2 (v := 69) hC (tb5 169 rfl rfl) dX10_told_51 ?_
    obtain ⟨r3, hq4, hf⟩ := b1_s hf
    refine h_cSi hC hw msX10_79 (cn_X10_in l G (Int32.toInt64 x1) 10 69 r3 hq4) [] rfl (by decide) rfl hl.1 rfl (Nat.le_of_ble_eq_true rfl) ⟨Nat.le_of_ble_eq_true rfl, Nat.le_of_ble_eq_true rfl⟩ ⟨Nat.le_refl _, Nat.le_refl _⟩ dX10_told_54 (fun H locs hw => ?_)
    refine lv_if_eq (tgt := 75) hx hb dX10_told_57 (by decide) (fun hc => ?_) (fun hc => ?_)
    · replace hf := it_t hc hf
      refine lv_iload_n hx hb dX10_told_75 rfl (lv_at hl 1 rfl) ?_
      refine lv_if_ne (tgt := 86) hx hb dX10_told_76 (by decide) (fun hc => ?_) (fun hc => ?_)
      · replace hf := it_f hc hf
        refine lv_iload_n hx hb dX10_told_86 rfl (lv_at hl 1 rfl) ?_
        refine lv_iconst (v := 1) hx hb dX10_told_87 (by decide) ?_
        refine lv_icmp_ne (tgt := 98) hx hb dX10_told_88 (by decide) (fun hc => ?_) (fun hc => ?_)
        · replace hf := it_f hc hf
          refine lv_iload_n hx hb dX10_told_98 rfl (lv_at hl 1 rfl) ?_
          refine lv_iconst (v := 2) hx hb dX10_told_99 (by decide) ?_
          refine lv_icmp_ne (tgt := 110) hx hb dX10_told_100 (by decide) (fun hc => ?_) (fun hc => ?_)
          · replace hf := it_f hc hf
            refine lv_iload_n hx hb dX10_told_110 rfl (lv_at hl 1 rfl) ?_
            refine lv_iconst (v := 3) hx hb dX10_told_111 (by decide) ?_
            refine lv_icmp_ne (tgt := 122) hx hb dX10_told_112 (by decide) (fun hc => ?_) (fun hc => ?_)
            · replace hf := it_f hc hf
              refine lv_bipush (v := (-2)) hx hb dX10_told_122 (by decide) ?_
              have h1_ := t1_ hf
              subst h1_
              exact hret _ _ _ _ dX10_told_124 hw
            · replace hf := it_t hc hf
              refine lv_aload_n hx hb dX10_told_115 rfl (lv_at hl 0 rfl) ?_
              refine g_get hC hw fkX10_254 0 rfl rfl dX10_told_116 ?_
              refine lv_goto (tgt := 124) hx hb dX10_told_119 (by decide) ?_
              have h1_ := t1_ hf
              subst h1_
              exact hret _ _ _ _ dX10_told_124 hw
          · replace hf := it_t hc hf
            refine lv_aload_n hx hb dX10_told_103 rfl (lv_at hl 0 rfl) ?_
            refine g_get hC hw fkX10_93 0 rfl rfl dX10_told_104 ?_
            refine lv_goto (tgt := 124) hx hb dX10_told_107 (by decide) ?_
            have h1_ := t1_ hf
            subst h1_
            exact hret _ _ _ _ dX10_told_124 hw
        · replace hf := it_t hc hf
          refine lv_aload_n hx hb dX10_told_91 rfl (lv_at hl 0 rfl) ?_
          refine g_get hC hw fkX10_85 0 rfl rfl dX10_told_92 ?_
          refine lv_goto (tgt := 124) hx hb dX10_told_95 (by decide) ?_
          have h1_ := t1_ hf
          subst h1_
          exact hret _ _ _ _ dX10_told_124 hw
      · replace hf := it_t hc hf
        refine lv_aload_n hx hb dX10_told_79 rfl (lv_at hl 0 rfl) ?_
        refine g_get hC hw fkX10_123 0 rfl rfl dX10_told_80 ?_
        refine lv_goto (tgt := 124) hx hb dX10_told_83 (by decide) ?_
        have h1_ := t1_ hf
        subst h1_
        exact hret _ _ _ _ dX10_told_124 hw
    · replace hf := it_f hc hf
      refine lv_aload_n hx hb dX10_told_60 rfl (lv_at hl 0 rfl) ?_
      refine lv_iload_n hx hb dX10_told_61 rfl (lv_at hl 1 rfl) ?_
      refine lv_bipush (v := 10) hx hb dX10_told_62 (by decide) ?_
      refine lv_idiv hx hb dX10_told_64 (by decide) ?_
      refine lv_iconst (v := 1) hx hb dX10_told_65 (by decide) ?_
      refine lv_isub hx hb dX10_told_66 ?_
      refine lv_iload_n hx hb dX10_told_67 rfl (lv_at hl 1 rfl) ?_
      refine lv_bipush (v := 10) hx hb dX10_told_68 (by decide) ?_
      refine lv_irem hx hb dX10_told_70 (by decide) ?_
      obtain ⟨r5, hq6, hf⟩ := b1_s hf
      refine h_cVi hC hw mvX10_307 (cn_X10_toldOf l G A_t A_t_steps A_t_wet A_t_where A_t_home A_t_light A_t_carries A_t_sightPlace A_t_sightLight A_t_pad A_t_act A_t_whose A_t_whom A_t_tens A_t_had A_t_leaves A_t_apart A_t_stop A_t_restOf A_t_group A_t_along A_t_kept A_t_isKept c_t_foggy c_t_walkers c_t_sights c_t_padMany c_t_acts c_t_spent c_t_walks c_t_badAct c_t_badWhy c_t_keptAt c_t_isWriting c_t_where c_t_home c_t_light c_t_carries ((x1 / 10) - 1) (x1 - x1 / 10 * 10) r5 hq6) [0, 3, 4, 5, 6] rfl (by decide) 0 rfl rfl rfl hl.1 rfl (Nat.le_of_ble_eq_true rfl) ⟨Nat.le_of_ble_eq_true rfl, Nat.le_of_ble_eq_true rfl⟩ ⟨Nat.le_refl _, Nat.le_refl _⟩ dX10_told_71 (fun H locs hw => ?_)
      have h1_ := t1_ hf
      subst h1_
      exact hret _ _ _ _ dX10_told_74 hw
  · replace hf := it_f hc hf
    refine lv_aload_n hx hb dX10_told_14 rfl (lv_at hl 0 rfl) ?_
    refine g_get hC hw fkX10_7 0 rfl rfl dX10_told_15 ?_
    refine lv_iload_n hx hb dX10_told_18 rfl (lv_at hl 1 rfl) ?_
    refine lv_bipush (v := 100) hx hb dX10_told_19 (by decide) ?_
    refine lv_isub hx hb dX10_told_21 ?_
    obtain ⟨hi, hf⟩ := ck_s hf
    refine g_iald hC hw 1 rfl hi dX10_told_22 ?_
    obtain ⟨y7, ey7, hf⟩ := lx_s hf
    rw [← ey7]
    refine lv_istore_n (lv' := [(2, .int y7), (0, .ref A_t), (1, .int x1)]) hx hb dX10_told_23 rfl hl (by decide) rfl (fun ls hl => ?_)
    refine lv_iload_n hx hb dX10_told_24 rfl (lv_at hl 0 rfl) ?_
    refine lv_if_ne (tgt := 32) hx hb dX10_told_25 (by decide) (fun hc => ?_) (fun hc => ?_)
    · replace hf := it_f hc hf
      refine lv_iconst (v := 2) hx hb dX10_told_32 (by decide) ?_
      refine lv_iload_n hx hb dX10_told_33 rfl (lv_at hl 0 rfl) ?_
      refine lv_imul hx hb dX10_told_34 ?_
      refine lv_aload_n hx hb dX10_told_35 rfl (lv_at hl 1 rfl) ?_
      refine g_get hC hw fkX10_13 0 rfl rfl dX10_told_36 ?_
      refine lv_iload_n hx hb dX10_told_39 rfl (lv_at hl 2 rfl) ?_
      refine lv_bipush (v := 100) hx hb dX10_told_40 (by decide) ?_
      refine lv_isub hx hb dX10_told_42 ?_
      obtain ⟨hi, hf⟩ := ck_s hf
      refine g_iald hC hw 2 rfl hi dX10_told_43 ?_
      refine lv_iadd hx hb dX10_told_44 ?_
      have h1_ := t1_ hf
      subst h1_
      exact hret _ _ _ _ dX10_told_45 hw
    · replace hf := it_t hc hf
      refine lv_iconst (v := 0) hx hb dX10_told_28 (by decide) ?_
      refine lv_goto (tgt := 45) hx hb dX10_told_29 (by decide) ?_
      have h1_ := t1_ hf
      subst h1_
      exact hret _ _ _ _ dX10_told_45 hw
set_option maxHeartbeats 4000000 in
set_option maxRecDepth 100000 in
theorem cn_X10_told (l : Launch) (G : gw_) (A_t : Nat) (A_t_steps : Nat) (A_t_wet : Nat) (A_t_where : Nat) (A_t_home : Nat) (A_t_light : Nat) (A_t_carries : Nat) (A_t_sightPlace : Nat) (A_t_sightLight : Nat) (A_t_pad : Nat) (A_t_act : Nat) (A_t_whose : Nat) (A_t_whom : Nat) (A_t_tens : Nat) (A_t_had : Nat) (A_t_leaves : Nat) (A_t_apart : Nat) (A_t_stop : Nat) (A_t_restOf : Nat) (A_t_group : Nat) (A_t_along : Nat) (A_t_kept : Nat) (A_t_isKept : Nat) (c_t_foggy : Int32) (c_t_walkers : Int32) (c_t_sights : Int32) (c_t_padMany : Int32) (c_t_acts : Int32) (c_t_spent : Int32) (c_t_walks : Int32) (c_t_badAct : Int32) (c_t_badWhy : Int32) (c_t_keptAt : Int32) (c_t_isWriting : Int32) (c_t_steps : Nat → Int32) (c_t_wet : Nat → Int32) (c_t_where : Nat → Int32) (c_t_home : Nat → Int32) (c_t_light : Nat → Int32) (c_t_carries : Nat → Int32) (x1 : Int32) (r : Int32) (hf : fn_X10_told c_t_foggy c_t_walkers c_t_sights c_t_padMany c_t_steps c_t_wet c_t_where c_t_home c_t_light c_t_carries x1 = some r) : ci_ l G yX10_told cX10_told 3 (some .int) 3 68 (wl_X10_told G A_t A_t_steps A_t_wet A_t_where A_t_home A_t_light A_t_carries A_t_sightPlace A_t_sightLight A_t_pad A_t_act A_t_whose A_t_whom A_t_tens A_t_had A_t_leaves A_t_apart A_t_stop A_t_restOf A_t_group A_t_along A_t_kept A_t_isKept c_t_foggy c_t_walkers c_t_sights c_t_padMany c_t_acts c_t_spent c_t_walks c_t_badAct c_t_badWhy c_t_keptAt c_t_isWriting c_t_steps c_t_wet c_t_where c_t_home c_t_light c_t_carries) [.ref A_t, .int x1] r (wl_X10_told G A_t A_t_steps A_t_wet A_t_where A_t_home A_t_light A_t_carries A_t_sightPlace A_t_sightLight A_t_pad A_t_act A_t_whose A_t_whom A_t_tens A_t_had A_t_leaves A_t_apart A_t_stop A_t_restOf A_t_group A_t_along A_t_kept A_t_isKept c_t_foggy c_t_walkers c_t_sights c_t_padMany c_t_acts c_t_spent c_t_walks c_t_badAct c_t_badWhy c_t_keptAt c_t_isWriting c_t_steps c_t_wet c_t_where c_t_home c_t_light c_t_carries) := fun sz => met_intro (by decide) (Nat.le_of_ble_eq_true rfl) (fun p e s m args below meth c ls hsz hC hr hlk hnm hl hw => wn_X10_told hC (fun pc H locs ls hd hw => g_iret hC hr hlk hw rfl rfl hd) hf hl hw)

theorem dJ7_fill_53178_0 : decode cJ7_fill_53178 0 = .ok (.iconst 0, 1) := by decide +kernel
theorem dJ7_fill_53178_1 : decode cJ7_fill_53178 1 = .ok (.istore_n 2, 1) := by decide +kernel
theorem dJ7_fill_53178_2 : decode cJ7_fill_53178 2 = .ok (.aload_n 0, 1) := by decide +kernel
theorem dJ7_fill_53178_3 : decode cJ7_fill_53178 3 = .ok (.arraylength, 1) := by decide +kernel
theorem dJ7_fill_53178_4 : decode cJ7_fill_53178 4 = .ok (.istore_n 3, 1) := by decide +kernel
theorem dJ7_fill_53178_5 : decode cJ7_fill_53178 5 = .ok (.iload_n 2, 1) := by decide +kernel
theorem dJ7_fill_53178_6 : decode cJ7_fill_53178 6 = .ok (.iload_n 3, 1) := by decide +kernel
theorem dJ7_fill_53178_7 : decode cJ7_fill_53178 7 = .ok (.if_icmp .ge 13, 3) := by decide +kernel
theorem dJ7_fill_53178_10 : decode cJ7_fill_53178 10 = .ok (.aload_n 0, 1) := by decide +kernel
theorem dJ7_fill_53178_11 : decode cJ7_fill_53178 11 = .ok (.iload_n 2, 1) := by decide +kernel
theorem dJ7_fill_53178_12 : decode cJ7_fill_53178 12 = .ok (.iload_n 1, 1) := by decide +kernel
theorem dJ7_fill_53178_13 : decode cJ7_fill_53178 13 = .ok (.iastore, 1) := by decide +kernel
theorem dJ7_fill_53178_14 : decode cJ7_fill_53178 14 = .ok (.iinc 2 1, 3) := by decide +kernel
theorem dJ7_fill_53178_17 : decode cJ7_fill_53178 17 = .ok (.goto (-12), 3) := by decide +kernel
theorem dJ7_fill_53178_20 : decode cJ7_fill_53178 20 = .ok (.return_, 1) := by decide +kernel
abbrev wl_J7_fill_53178 (G : gw_) (A_q0 : Nat) (c_q0 : Nat → Int32) : va_W := [ia_ G A_q0 6 c_q0]
def fn_J7_fill_53178_b5 (x1 : Int32) (x3 : Int32) (rc : Int32 → (Nat → Int32) → Option ((Nat → Int32))) (k : (Nat → Int32) → Option ((Nat → Int32))) (x2 : Int32) (c_q0 : Nat → Int32) : Option ((Nat → Int32)) :=
  if x3 ≤ x2 then
    k c_q0
  else
    ck_ x2 6 <|
    lx_ (upd c_q0 (Int32.toNatClampNeg x2) x1) fun f1 =>
    rc (x2 + 1) f1
def fn_J7_fill_53178_l5 (x1 : Int32) (x3 : Int32) (k : (Nat → Int32) → Option ((Nat → Int32))) : Nat → Int32 → (Nat → Int32) → Option ((Nat → Int32))
  | 0 => fun _ _ => none
  | n + 1 => fun x2 c_q0 => fn_J7_fill_53178_b5 x1 x3 (fn_J7_fill_53178_l5 x1 x3 k n) k x2 c_q0
def fn_J7_fill_53178 (c_q0 : Nat → Int32) (x1 : Int32) : Option ((Nat → Int32)) :=
  fn_J7_fill_53178_l5 x1 6 (fun v2 =>
    some v2) fu_ 0 c_q0
set_option maxHeartbeats 4000000 in
set_option maxRecDepth 100000 in
theorem wn_J7_fill_53178_l5 {p : Program} {l : Launch} {e : Env} {s : State} {m : MethodId} {args : Array Value} {below : List Frame} {meth : Method} {c : Code} {G : gw_} {A : Nat → Prop} {Q : State → Prop} {A_q0 : Nat} {z_q0 : Nat → Int32} {x1 : Int32} {x3 : Int32} {k : (Nat → Int32) → Option ((Nat → Int32))} (hC : cx_ p s m c G cJ7_fill_53178 4 RJ7) (hret : ∀ (pc : Nat) (H : Heap) (locs : List Loc) (ls : Array Slot), decode cJ7_fill_53178 pc = .ok (.return_, 1) → wd_ G A s.heap (wl_J7_fill_53178 G A_q0 z_q0) H locs → W p l e { frames := 0, cells := 0, slots := 0, locals := 0 } s m args below meth c H locs 0 0 Q (F0 m pc ls [])) (hk : ∀ (c_q0 : Nat → Int32) (H : Heap) (locs : List Loc) (ls : Array Slot), k c_q0 = some z_q0 → lv_has ls 4 [] → wd_ G A s.heap (wl_J7_fill_53178 G A_q0 c_q0) H locs → W p l e { frames := 0, cells := 0, slots := 0, locals := 0 } s m args below meth c H locs 0 0 Q (F0 m 20 ls [])) : ∀ (n : Nat) (x2 : Int32) (c_q0 : Nat → Int32) (H : Heap) (locs : List Loc) (ls : Array Slot), fn_J7_fill_53178_l5 x1 x3 k n x2 c_q0 = some z_q0 → lv_has ls 4 [(0, .ref A_q0), (1, .int x1), (2, .int x2), (3, .int x3)] → wd_ G A s.heap (wl_J7_fill_53178 G A_q0 c_q0) H locs → W p l e { frames := 0, cells := 0, slots := 0, locals := 0 } s m args below meth c H locs 0 0 Q (F0 m 5 ls []) := by
  have hx := hC.1
  have hb := hC.2.1
  intro n
  induction n with
  | zero =>
    intro x2 c_q0 H locs ls hf
    cases (show (none : Option ((Nat → Int32))) = some _ from hf)
  | succ n hrc =>
    intro x2 c_q0 H locs ls hf hl hw
    replace hf : fn_J7_fill_53178_b5 x1 x3 (fn_J7_fill_53178_l5 x1 x3 k n) k x2 c_q0 = some z_q0 := hf
    unfold fn_J7_fill_53178_b5 at hf
    refine lv_iload_n hx hb dJ7_fill_53178_5 rfl (lv_at hl 2 rfl) ?_
    refine lv_iload_n hx hb dJ7_fill_53178_6 rfl (lv_at hl 3 rfl) ?_
    refine lv_icmp_ge (tgt := 20) hx hb dJ7_fill_53178_7 (by decide) (fun hc => ?_) (fun hc => ?_)
    · replace hf := it_t hc hf
      exact hk c_q0 _ _ _ hf (lv_sub hl [] rfl) hw
    · replace hf := it_f hc hf
      refine lv_aload_n hx hb dJ7_fill_53178_10 rfl (lv_at hl 0 rfl) ?_
      refine lv_iload_n hx hb dJ7_fill_53178_11 rfl (lv_at hl 2 rfl) ?_
      refine lv_iload_n hx hb dJ7_fill_53178_12 rfl (lv_at hl 1 rfl) ?_
      obtain ⟨hi, hf⟩ := ck_s hf
      obtain ⟨f1, ef1, hf⟩ := lx_s hf
      refine g_iast hC hw 0 rfl hi ef1 dJ7_fill_53178_13 (fun H locs hw => ?_)
      have hw : wd_ G A s.heap (wl_J7_fill_53178 G A_q0 f1) H locs := hw
      refine lv_iinc (v := x2 + 1) (lv' := [(2, .int (x2 + 1)), (0, .ref A_q0), (1, .int x1), (3, .int x3)]) hx hb dJ7_fill_53178_14 hl (k := 2) rfl rfl (by decide) rfl (fun ls hl => ?_)
      refine lv_goto (tgt := 5) hx hb dJ7_fill_53178_17 (by decide) ?_
      exact hrc (x2 + 1) f1 _ _ _ hf (lv_sub hl [1, 2, 0, 3] rfl) hw
set_option maxHeartbeats 4000000 in
set_option maxRecDepth 100000 in
theorem wn_J7_fill_53178 {p : Program} {l : Launch} {e : Env} {s : State} {m : MethodId} {args : Array Value} {below : List Frame} {meth : Method} {c : Code} {G : gw_} {A : Nat → Prop} {Q : State → Prop} {A_q0 : Nat} {c_q0 : Nat → Int32} {z_q0 : Nat → Int32} {x1 : Int32} (hC : cx_ p s m c G cJ7_fill_53178 4 RJ7) (hret : ∀ (pc : Nat) (H : Heap) (locs : List Loc) (ls : Array Slot), decode cJ7_fill_53178 pc = .ok (.return_, 1) → wd_ G A s.heap (wl_J7_fill_53178 G A_q0 z_q0) H locs → W p l e { frames := 0, cells := 0, slots := 0, locals := 0 } s m args below meth c H locs 0 0 Q (F0 m pc ls [])) (hf : fn_J7_fill_53178 c_q0 x1 = some z_q0) {H : Heap} {locs : List Loc} {ls : Array Slot} (hl : lv_has ls 4 [(0, .ref A_q0), (1, .int x1)]) (hw : wd_ G A s.heap (wl_J7_fill_53178 G A_q0 c_q0) H locs) : W p l e { frames := 0, cells := 0, slots := 0, locals := 0 } s m args below meth c H locs 0 0 Q (F0 m 0 ls []) := by
  have hx := hC.1
  have hb := hC.2.1
  unfold fn_J7_fill_53178 at hf
  refine lv_iconst (v := 0) hx hb dJ7_fill_53178_0 (by decide) ?_
  refine lv_istore_n (lv' := [(2, .int 0), (0, .ref A_q0), (1, .int x1)]) hx hb dJ7_fill_53178_1 rfl hl (by decide) rfl (fun ls hl => ?_)
  refine lv_aload_n hx hb dJ7_fill_53178_2 rfl (lv_at hl 1 rfl) ?_
  refine g_alen (v := 6) hC hw 0 rfl (by decide) dJ7_fill_53178_3 ?_
  refine lv_istore_n (lv' := [(3, .int 6), (2, .int 0), (0, .ref A_q0), (1, .int x1)]) hx hb dJ7_fill_53178_4 rfl hl (by decide) rfl (fun ls hl => ?_)
  refine wn_J7_fill_53178_l5 hC hret (fun v2 H locs ls hf hl hw => ?_) fu_ 0 c_q0 _ _ _ hf (lv_sub hl [2, 3, 1, 0] rfl) hw
  have h1_ := t1_ hf
  subst h1_
  exact hret _ _ _ _ dJ7_fill_53178_20 hw
set_option maxHeartbeats 4000000 in
set_option maxRecDepth 100000 in
theorem cn_J7_fill_53178 (l : Launch) (G : gw_) (A_q0 : Nat) (c_q0 : Nat → Int32) (x1 : Int32) (z_q0 : Nat → Int32) (hf : fn_J7_fill_53178 c_q0 x1 = some z_q0) : cv_ l G yJ7_fill_53178 cJ7_fill_53178 4 none 0 0 (wl_J7_fill_53178 G A_q0 c_q0) [.ref A_q0, .int x1] (wl_J7_fill_53178 G A_q0 z_q0) := fun sz => met_intro (by decide) (Nat.le_of_ble_eq_true rfl) (fun p e s m args below meth c ls hsz hC hr hlk hnm hl hw => wn_J7_fill_53178 hC (fun pc H locs ls hd hw => g_vret hC hr hlk hw hd) hf hl hw)
