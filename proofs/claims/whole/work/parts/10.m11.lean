theorem dX9_tellCount_0 : decode cX9_tellCount 0 = .ok (.iload_n 1, 1) := by decide +kernel
theorem dX9_tellCount_1 : decode cX9_tellCount 1 = .ok (.ifCond .ne 11, 3) := by decide +kernel
theorem dX9_tellCount_4 : decode cX9_tellCount 4 = .ok (.aload_n 0, 1) := by decide +kernel
theorem dX9_tellCount_5 : decode cX9_tellCount 5 = .ok (.getfield 23, 3) := by decide +kernel
theorem dX9_tellCount_8 : decode cX9_tellCount 8 = .ok (.getfield 105, 3) := by decide +kernel
theorem dX9_tellCount_11 : decode cX9_tellCount 11 = .ok (.ireturn, 1) := by decide +kernel
theorem dX9_tellCount_12 : decode cX9_tellCount 12 = .ok (.iload_n 1, 1) := by decide +kernel
theorem dX9_tellCount_13 : decode cX9_tellCount 13 = .ok (.iconst 1, 1) := by decide +kernel
theorem dX9_tellCount_14 : decode cX9_tellCount 14 = .ok (.if_icmp .ne 14, 3) := by decide +kernel
theorem dX9_tellCount_17 : decode cX9_tellCount 17 = .ok (.aload_n 0, 1) := by decide +kernel
theorem dX9_tellCount_18 : decode cX9_tellCount 18 = .ok (.getfield 12, 3) := by decide +kernel
theorem dX9_tellCount_21 : decode cX9_tellCount 21 = .ok (.getfield 81, 3) := by decide +kernel
theorem dX9_tellCount_24 : decode cX9_tellCount 24 = .ok (.getfield 205, 3) := by decide +kernel
theorem dX9_tellCount_27 : decode cX9_tellCount 27 = .ok (.ireturn, 1) := by decide +kernel
theorem dX9_tellCount_28 : decode cX9_tellCount 28 = .ok (.iload_n 1, 1) := by decide +kernel
theorem dX9_tellCount_29 : decode cX9_tellCount 29 = .ok (.iconst 2, 1) := by decide +kernel
theorem dX9_tellCount_30 : decode cX9_tellCount 30 = .ok (.if_icmp .ne 22, 3) := by decide +kernel
theorem dX9_tellCount_33 : decode cX9_tellCount 33 = .ok (.aload_n 0, 1) := by decide +kernel
theorem dX9_tellCount_34 : decode cX9_tellCount 34 = .ok (.getfield 12, 3) := by decide +kernel
theorem dX9_tellCount_37 : decode cX9_tellCount 37 = .ok (.getfield 81, 3) := by decide +kernel
theorem dX9_tellCount_40 : decode cX9_tellCount 40 = .ok (.getfield 102, 3) := by decide +kernel
theorem dX9_tellCount_43 : decode cX9_tellCount 43 = .ok (.ifCond .eq 7, 3) := by decide +kernel
theorem dX9_tellCount_46 : decode cX9_tellCount 46 = .ok (.iconst 1, 1) := by decide +kernel
theorem dX9_tellCount_47 : decode cX9_tellCount 47 = .ok (.goto 4, 3) := by decide +kernel
theorem dX9_tellCount_50 : decode cX9_tellCount 50 = .ok (.iconst 0, 1) := by decide +kernel
theorem dX9_tellCount_51 : decode cX9_tellCount 51 = .ok (.ireturn, 1) := by decide +kernel
theorem dX9_tellCount_52 : decode cX9_tellCount 52 = .ok (.aload_n 0, 1) := by decide +kernel
theorem dX9_tellCount_53 : decode cX9_tellCount 53 = .ok (.getfield 12, 3) := by decide +kernel
theorem dX9_tellCount_56 : decode cX9_tellCount 56 = .ok (.getfield 219, 3) := by decide +kernel
theorem dX9_tellCount_59 : decode cX9_tellCount 59 = .ok (.getfield 223, 3) := by decide +kernel
theorem dX9_tellCount_62 : decode cX9_tellCount 62 = .ok (.ireturn, 1) := by decide +kernel
abbrev wl_X9_tellCount (G : gw_) (A_t : Nat) (A_t_now : Nat) (A_t_images : Nat) (A_t_pad : Nat) (A_t_evening : Nat) (A_t_ways : Nat) (A_t_tour : Nat) (A_t_odds : Nat) (A_t_now_marsh : Nat) (A_t_now_crowd : Nat) (A_t_now_sights : Nat) (A_t_now_crowd_at : Nat) (A_t_now_crowd_home : Nat) (A_t_now_crowd_light : Nat) (A_t_now_crowd_carries : Nat) (A_t_now_crowd_bearer : Nat) (A_t_now_sights_places : Nat) (A_t_now_sights_lights : Nat) (A_t_pad_signs : Nat) (c_t_measured : Int32) (c_t_now_crowd_there : Int32) (c_t_now_crowd_foggy : Int32) (c_t_now_sights_count : Int32) (c_t_pad_count : Int32) : va_W := [ob_ A_t 9 [.ref A_t_now, .ref A_t_images, .ref A_t_pad, .ref A_t_evening, .ref A_t_ways, .ref A_t_tour, .ref A_t_odds, .int c_t_measured], ob_ A_t_now 5 [.ref A_t_now_marsh, .ref A_t_now_crowd, .ref A_t_now_sights], ob_ A_t_now_crowd 0 [.int c_t_now_crowd_there, .int c_t_now_crowd_foggy, .ref A_t_now_crowd_at, .ref A_t_now_crowd_home, .ref A_t_now_crowd_light, .ref A_t_now_crowd_carries, .ref A_t_now_crowd_bearer], ob_ A_t_now_sights 6 [.int c_t_now_sights_count, .ref A_t_now_sights_places, .ref A_t_now_sights_lights], ob_ A_t_pad 4 [.int c_t_pad_count, .ref A_t_pad_signs]]
def fn_X9_tellCount (c_t_now_crowd_there : Int32) (c_t_now_crowd_foggy : Int32) (c_t_now_sights_count : Int32) (c_t_pad_count : Int32) (x1 : Int32) : Option (Int32) :=
  if x1 = 0 then
    some c_t_pad_count
  else
    if x1 = 1 then
      some c_t_now_crowd_there
    else
      if x1 = 2 then
        if c_t_now_crowd_foggy = 0 then
          some 0
        else
          some 1
      else
        some c_t_now_sights_count
set_option maxHeartbeats 4000000 in
set_option maxRecDepth 100000 in
theorem wn_X9_tellCount {p : Program} {l : Launch} {e : Env} {s : State} {m : MethodId} {args : Array Value} {below : List Frame} {meth : Method} {c : Code} {G : gw_} {A : Nat → Prop} {Q : State → Prop} {A_t : Nat} {A_t_now : Nat} {A_t_images : Nat} {A_t_pad : Nat} {A_t_evening : Nat} {A_t_ways : Nat} {A_t_tour : Nat} {A_t_odds : Nat} {A_t_now_marsh : Nat} {A_t_now_crowd : Nat} {A_t_now_sights : Nat} {A_t_now_crowd_at : Nat} {A_t_now_crowd_home : Nat} {A_t_now_crowd_light : Nat} {A_t_now_crowd_carries : Nat} {A_t_now_crowd_bearer : Nat} {A_t_now_sights_places : Nat} {A_t_now_sights_lights : Nat} {A_t_pad_signs : Nat} {c_t_measured : Int32} {c_t_now_crowd_there : Int32} {c_t_now_crowd_foggy : Int32} {c_t_now_sights_count : Int32} {c_t_pad_count : Int32} {r : Int32} {x1 : Int32} (hC : cx_ p s m c G cX9_tellCount 2 RX9) (hret : ∀ (pc : Nat) (H : Heap) (locs : List Loc) (ls : Array Slot), decode cX9_tellCount pc = .ok (.ireturn, 1) → wd_ G A s.heap (wl_X9_tellCount G A_t A_t_now A_t_images A_t_pad A_t_evening A_t_ways A_t_tour A_t_odds A_t_now_marsh A_t_now_crowd A_t_now_sights A_t_now_crowd_at A_t_now_crowd_home A_t_now_crowd_light A_t_now_crowd_carries A_t_now_crowd_bearer A_t_now_sights_places A_t_now_sights_lights A_t_pad_signs c_t_measured c_t_now_crowd_there c_t_now_crowd_foggy c_t_now_sights_count c_t_pad_count) H locs → W p l e { frames := 0, cells := 0, slots := 0, locals := 0 } s m args below meth c H locs 0 0 Q (F0 m pc ls [.int r])) (hf : fn_X9_tellCount c_t_now_crowd_there c_t_now_crowd_foggy c_t_now_sights_count c_t_pad_count x1 = some r) {H : Heap} {locs : List Loc} {ls : Array Slot} (hl : lv_has ls 2 [(0, .ref A_t), (1, .int x1)]) (hw : wd_ G A s.heap (wl_X9_tellCount G A_t A_t_now A_t_images A_t_pad A_t_evening A_t_ways A_t_tour A_t_odds A_t_now_marsh A_t_now_crowd A_t_now_sights A_t_now_crowd_at A_t_now_crowd_home A_t_now_crowd_light A_t_now_crowd_carries A_t_now_crowd_bearer A_t_now_sights_places A_t_now_sights_lights A_t_pad_signs c_t_measured c_t_now_crowd_there c_t_now_crowd_foggy c_t_now_sights_count c_t_pad_count) H locs) : W p l e { frames := 0, cells := 0, slots := 0, locals := 0 } s m args below meth c H locs 0 0 Q (F0 m 0 ls []) := by
  have hx := hC.1
  have hb := hC.2.1
  unfold fn_X9_tellCount at hf
  refine lv_iload_n hx hb dX9_tellCount_0 rfl (lv_at hl 1 rfl) ?_
  refine lv_if_ne (tgt := 12) hx hb dX9_tellCount_1 (by decide) (fun hc => ?_) (fun hc => ?_)
  · replace hf := it_f hc hf
    refine lv_iload_n hx hb dX9_tellCount_12 rfl (lv_at hl 1 rfl) ?_
    refine lv_iconst (v := 1) hx hb dX9_tellCount_13 (by decide) ?_
    refine lv_icmp_ne (tgt := 28) hx hb dX9_tellCount_14 (by decide) (fun hc => ?_) (fun hc => ?_)
    · replace hf := it_f hc hf
      refine lv_iload_n hx hb dX9_tellCount_28 rfl (lv_at hl 1 rfl) ?_
      refine lv_iconst (v := 2) hx hb dX9_tellCount_29 (by decide) ?_
      refine lv_icmp_ne (tgt := 52) hx hb dX9_tellCount_30 (by decide) (fun hc => ?_) (fun hc => ?_)
      · replace hf := it_f hc hf
        refine lv_aload_n hx hb dX9_tellCount_52 rfl (lv_at hl 0 rfl) ?_
        refine g_get hC hw fkX9_12 0 rfl rfl dX9_tellCount_53 ?_
        refine g_get hC hw fkX9_219 1 rfl rfl dX9_tellCount_56 ?_
        refine g_get hC hw fkX9_223 3 rfl rfl dX9_tellCount_59 ?_
        have h1_ := t1_ hf
        subst h1_
        exact hret _ _ _ _ dX9_tellCount_62 hw
      · replace hf := it_t hc hf
        refine lv_aload_n hx hb dX9_tellCount_33 rfl (lv_at hl 0 rfl) ?_
        refine g_get hC hw fkX9_12 0 rfl rfl dX9_tellCount_34 ?_
        refine g_get hC hw fkX9_81 1 rfl rfl dX9_tellCount_37 ?_
        refine g_get hC hw fkX9_102 2 rfl rfl dX9_tellCount_40 ?_
        refine lv_if_eq (tgt := 50) hx hb dX9_tellCount_43 (by decide) (fun hc => ?_) (fun hc => ?_)
        · replace hf := it_t hc hf
          refine lv_iconst (v := 0) hx hb dX9_tellCount_50 (by decide) ?_
          have h1_ := t1_ hf
          subst h1_
          exact hret _ _ _ _ dX9_tellCount_51 hw
        · replace hf := it_f hc hf
          refine lv_iconst (v := 1) hx hb dX9_tellCount_46 (by decide) ?_
          refine lv_goto (tgt := 51) hx hb dX9_tellCount_47 (by decide) ?_
          have h1_ := t1_ hf
          subst h1_
          exact hret _ _ _ _ dX9_tellCount_51 hw
    · replace hf := it_t hc hf
      refine lv_aload_n hx hb dX9_tellCount_17 rfl (lv_at hl 0 rfl) ?_
      refine g_get hC hw fkX9_12 0 rfl rfl dX9_tellCount_18 ?_
      refine g_get hC hw fkX9_81 1 rfl rfl dX9_tellCount_21 ?_
      refine g_get hC hw fkX9_205 2 rfl rfl dX9_tellCount_24 ?_
      have h1_ := t1_ hf
      subst h1_
      exact hret _ _ _ _ dX9_tellCount_27 hw
  · replace hf := it_t hc hf
    refine lv_aload_n hx hb dX9_tellCount_4 rfl (lv_at hl 0 rfl) ?_
    refine g_get hC hw fkX9_23 0 rfl rfl dX9_tellCount_5 ?_
    refine g_get hC hw fkX9_105 4 rfl rfl dX9_tellCount_8 ?_
    have h1_ := t1_ hf
    subst h1_
    exact hret _ _ _ _ dX9_tellCount_11 hw
set_option maxHeartbeats 4000000 in
set_option maxRecDepth 100000 in
theorem cn_X9_tellCount (l : Launch) (G : gw_) (A_t : Nat) (A_t_now : Nat) (A_t_images : Nat) (A_t_pad : Nat) (A_t_evening : Nat) (A_t_ways : Nat) (A_t_tour : Nat) (A_t_odds : Nat) (A_t_now_marsh : Nat) (A_t_now_crowd : Nat) (A_t_now_sights : Nat) (A_t_now_crowd_at : Nat) (A_t_now_crowd_home : Nat) (A_t_now_crowd_light : Nat) (A_t_now_crowd_carries : Nat) (A_t_now_crowd_bearer : Nat) (A_t_now_sights_places : Nat) (A_t_now_sights_lights : Nat) (A_t_pad_signs : Nat) (c_t_measured : Int32) (c_t_now_crowd_there : Int32) (c_t_now_crowd_foggy : Int32) (c_t_now_sights_count : Int32) (c_t_pad_count : Int32) (x1 : Int32) (r : Int32) (hf : fn_X9_tellCount c_t_now_crowd_there c_t_now_crowd_foggy c_t_now_sights_count c_t_pad_count x1 = some r) : ci_ l G yX9_tellCount cX9_tellCount 2 (some .int) 0 0 (wl_X9_tellCount G A_t A_t_now A_t_images A_t_pad A_t_evening A_t_ways A_t_tour A_t_odds A_t_now_marsh A_t_now_crowd A_t_now_sights A_t_now_crowd_at A_t_now_crowd_home A_t_now_crowd_light A_t_now_crowd_carries A_t_now_crowd_bearer A_t_now_sights_places A_t_now_sights_lights A_t_pad_signs c_t_measured c_t_now_crowd_there c_t_now_crowd_foggy c_t_now_sights_count c_t_pad_count) [.ref A_t, .int x1] r (wl_X9_tellCount G A_t A_t_now A_t_images A_t_pad A_t_evening A_t_ways A_t_tour A_t_odds A_t_now_marsh A_t_now_crowd A_t_now_sights A_t_now_crowd_at A_t_now_crowd_home A_t_now_crowd_light A_t_now_crowd_carries A_t_now_crowd_bearer A_t_now_sights_places A_t_now_sights_lights A_t_pad_signs c_t_measured c_t_now_crowd_there c_t_now_crowd_foggy c_t_now_sights_count c_t_pad_count) := fun sz => met_intro (by decide) (Nat.le_of_ble_eq_true rfl) (fun p e s m args below meth c ls hsz hC hr hlk hnm hl hw => wn_X9_tellCount hC (fun pc H locs ls hd hw => g_iret hC hr hlk hw rfl rfl hd) hf hl hw)

theorem dX9_tellWalker_0 : decode cX9_tellWalker 0 = .ok (.aload_n 0, 1) := by decide +kernel
theorem dX9_tellWalker_1 : decode cX9_tellWalker 1 = .ok (.getfield 12, 3) := by decide +kernel
theorem dX9_tellWalker_4 : decode cX9_tellWalker 4 = .ok (.getfield 81, 3) := by decide +kernel
theorem dX9_tellWalker_7 : decode cX9_tellWalker 7 = .ok (.iload_n 1, 1) := by decide +kernel
theorem dX9_tellWalker_8 : decode cX9_tellWalker 8 = .ok (.invokevirtual 95, 3) := by decide +kernel
theorem dX9_tellWalker_11 : decode cX9_tellWalker 11 = .ok (.ifCond .eq 12, 3) := by decide +kernel
theorem dX9_tellWalker_14 : decode cX9_tellWalker 14 = .ok (.iload_n 2, 1) := by decide +kernel
theorem dX9_tellWalker_15 : decode cX9_tellWalker 15 = .ok (.iconst 0, 1) := by decide +kernel
theorem dX9_tellWalker_16 : decode cX9_tellWalker 16 = .ok (.iconst 3, 1) := by decide +kernel
theorem dX9_tellWalker_17 : decode cX9_tellWalker 17 = .ok (.invokestatic 63, 3) := by decide +kernel
theorem dX9_tellWalker_20 : decode cX9_tellWalker 20 = .ok (.ifCond .ne 6, 3) := by decide +kernel
theorem dX9_tellWalker_23 : decode cX9_tellWalker 23 = .ok (.bipush (-2), 2) := by decide +kernel
theorem dX9_tellWalker_25 : decode cX9_tellWalker 25 = .ok (.ireturn, 1) := by decide +kernel
theorem dX9_tellWalker_26 : decode cX9_tellWalker 26 = .ok (.iload_n 2, 1) := by decide +kernel
theorem dX9_tellWalker_27 : decode cX9_tellWalker 27 = .ok (.ifCond .ne 16, 3) := by decide +kernel
theorem dX9_tellWalker_30 : decode cX9_tellWalker 30 = .ok (.aload_n 0, 1) := by decide +kernel
theorem dX9_tellWalker_31 : decode cX9_tellWalker 31 = .ok (.getfield 12, 3) := by decide +kernel
theorem dX9_tellWalker_34 : decode cX9_tellWalker 34 = .ok (.getfield 81, 3) := by decide +kernel
theorem dX9_tellWalker_37 : decode cX9_tellWalker 37 = .ok (.getfield 131, 3) := by decide +kernel
theorem dX9_tellWalker_40 : decode cX9_tellWalker 40 = .ok (.iload_n 1, 1) := by decide +kernel
theorem dX9_tellWalker_41 : decode cX9_tellWalker 41 = .ok (.iaload, 1) := by decide +kernel
theorem dX9_tellWalker_42 : decode cX9_tellWalker 42 = .ok (.ireturn, 1) := by decide +kernel
theorem dX9_tellWalker_43 : decode cX9_tellWalker 43 = .ok (.iload_n 2, 1) := by decide +kernel
theorem dX9_tellWalker_44 : decode cX9_tellWalker 44 = .ok (.iconst 1, 1) := by decide +kernel
theorem dX9_tellWalker_45 : decode cX9_tellWalker 45 = .ok (.if_icmp .ne 16, 3) := by decide +kernel
theorem dX9_tellWalker_48 : decode cX9_tellWalker 48 = .ok (.aload_n 0, 1) := by decide +kernel
theorem dX9_tellWalker_49 : decode cX9_tellWalker 49 = .ok (.getfield 12, 3) := by decide +kernel
theorem dX9_tellWalker_52 : decode cX9_tellWalker 52 = .ok (.getfield 81, 3) := by decide +kernel
theorem dX9_tellWalker_55 : decode cX9_tellWalker 55 = .ok (.getfield 248, 3) := by decide +kernel
theorem dX9_tellWalker_58 : decode cX9_tellWalker 58 = .ok (.iload_n 1, 1) := by decide +kernel
theorem dX9_tellWalker_59 : decode cX9_tellWalker 59 = .ok (.iaload, 1) := by decide +kernel
theorem dX9_tellWalker_60 : decode cX9_tellWalker 60 = .ok (.ireturn, 1) := by decide +kernel
theorem dX9_tellWalker_61 : decode cX9_tellWalker 61 = .ok (.iload_n 2, 1) := by decide +kernel
theorem dX9_tellWalker_62 : decode cX9_tellWalker 62 = .ok (.iconst 2, 1) := by decide +kernel
theorem dX9_tellWalker_63 : decode cX9_tellWalker 63 = .ok (.if_icmp .ne 18, 3) := by decide +kernel
theorem dX9_tellWalker_66 : decode cX9_tellWalker 66 = .ok (.aload_n 0, 1) := by decide +kernel
theorem dX9_tellWalker_67 : decode cX9_tellWalker 67 = .ok (.getfield 12, 3) := by decide +kernel
theorem dX9_tellWalker_70 : decode cX9_tellWalker 70 = .ok (.getfield 81, 3) := by decide +kernel
theorem dX9_tellWalker_73 : decode cX9_tellWalker 73 = .ok (.getfield 135, 3) := by decide +kernel
theorem dX9_tellWalker_76 : decode cX9_tellWalker 76 = .ok (.iload_n 1, 1) := by decide +kernel
theorem dX9_tellWalker_77 : decode cX9_tellWalker 77 = .ok (.iaload, 1) := by decide +kernel
theorem dX9_tellWalker_78 : decode cX9_tellWalker 78 = .ok (.goto 15, 3) := by decide +kernel
theorem dX9_tellWalker_81 : decode cX9_tellWalker 81 = .ok (.aload_n 0, 1) := by decide +kernel
theorem dX9_tellWalker_82 : decode cX9_tellWalker 82 = .ok (.getfield 12, 3) := by decide +kernel
theorem dX9_tellWalker_85 : decode cX9_tellWalker 85 = .ok (.getfield 81, 3) := by decide +kernel
theorem dX9_tellWalker_88 : decode cX9_tellWalker 88 = .ok (.getfield 138, 3) := by decide +kernel
theorem dX9_tellWalker_91 : decode cX9_tellWalker 91 = .ok (.iload_n 1, 1) := by decide +kernel
theorem dX9_tellWalker_92 : decode cX9_tellWalker 92 = .ok (.iaload, 1) := by decide +kernel
theorem dX9_tellWalker_93 : decode cX9_tellWalker 93 = .ok (.ireturn, 1) := by decide +kernel
abbrev wl_X9_tellWalker (G : gw_) (A_t : Nat) (A_t_now : Nat) (A_t_images : Nat) (A_t_pad : Nat) (A_t_evening : Nat) (A_t_ways : Nat) (A_t_tour : Nat) (A_t_odds : Nat) (A_t_now_marsh : Nat) (A_t_now_crowd : Nat) (A_t_now_sights : Nat) (A_t_now_crowd_at : Nat) (A_t_now_crowd_home : Nat) (A_t_now_crowd_light : Nat) (A_t_now_crowd_carries : Nat) (A_t_now_crowd_bearer : Nat) (c_t_measured : Int32) (c_t_now_crowd_there : Int32) (c_t_now_crowd_foggy : Int32) (c_t_now_crowd_at : Nat → Int32) (c_t_now_crowd_home : Nat → Int32) (c_t_now_crowd_light : Nat → Int32) (c_t_now_crowd_carries : Nat → Int32) : va_W := [ob_ A_t 9 [.ref A_t_now, .ref A_t_images, .ref A_t_pad, .ref A_t_evening, .ref A_t_ways, .ref A_t_tour, .ref A_t_odds, .int c_t_measured], ob_ A_t_now 5 [.ref A_t_now_marsh, .ref A_t_now_crowd, .ref A_t_now_sights], ob_ A_t_now_crowd 0 [.int c_t_now_crowd_there, .int c_t_now_crowd_foggy, .ref A_t_now_crowd_at, .ref A_t_now_crowd_home, .ref A_t_now_crowd_light, .ref A_t_now_crowd_carries, .ref A_t_now_crowd_bearer], ia_ G A_t_now_crowd_at 6 c_t_now_crowd_at, ia_ G A_t_now_crowd_home 6 c_t_now_crowd_home, ia_ G A_t_now_crowd_light 6 c_t_now_crowd_light, ia_ G A_t_now_crowd_carries 6 c_t_now_crowd_carries]
def fn_X9_tellWalker (c_t_now_crowd_there : Int32) (c_t_now_crowd_at : Nat → Int32) (c_t_now_crowd_home : Nat → Int32) (c_t_now_crowd_light : Nat → Int32) (c_t_now_crowd_carries : Nat → Int32) (x1 : Int32) (x2 : Int32) : Option (Int32) :=
  b1_ (fn_X0_has c_t_now_crowd_there x1) fun r1 =>
  if r1 = 0 then
    some (-2)
  else
    b1_ (fn_X9_isWithin x2 0 3) fun r3 =>
    if r3 = 0 then
      some (-2)
    else
      if x2 = 0 then
        ck_ x1 6 <|
        some (c_t_now_crowd_at (Int32.toNatClampNeg x1))
      else
        if x2 = 1 then
          ck_ x1 6 <|
          some (c_t_now_crowd_home (Int32.toNatClampNeg x1))
        else
          if x2 = 2 then
            ck_ x1 6 <|
            some (c_t_now_crowd_light (Int32.toNatClampNeg x1))
          else
            ck_ x1 6 <|
            some (c_t_now_crowd_carries (Int32.toNatClampNeg x1))
set_option maxHeartbeats 4000000 in
set_option maxRecDepth 100000 in
theorem wn_X9_tellWalker {p : Program} {l : Launch} {e : Env} {s : State} {m : MethodId} {args : Array Value} {below : List Frame} {meth : Method} {c : Code} {G : gw_} {A : Nat → Prop} {Q : State → Prop} {A_t : Nat} {A_t_now : Nat} {A_t_images : Nat} {A_t_pad : Nat} {A_t_evening : Nat} {A_t_ways : Nat} {A_t_tour : Nat} {A_t_odds : Nat} {A_t_now_marsh : Nat} {A_t_now_crowd : Nat} {A_t_now_sights : Nat} {A_t_now_crowd_at : Nat} {A_t_now_crowd_home : Nat} {A_t_now_crowd_light : Nat} {A_t_now_crowd_carries : Nat} {A_t_now_crowd_bearer : Nat} {c_t_measured : Int32} {c_t_now_crowd_there : Int32} {c_t_now_crowd_foggy : Int32} {c_t_now_crowd_at : Nat → Int32} {c_t_now_crowd_home : Nat → Int32} {c_t_now_crowd_light : Nat → Int32} {c_t_now_crowd_carries : Nat → Int32} {r : Int32} {x1 : Int32} {x2 : Int32} (hC : cx_ p s m c G cX9_tellWalker 3 RX9) (hret : ∀ (pc : Nat) (H : Heap) (locs : List Loc) (ls : Array Slot), decode cX9_tellWalker pc = .ok (.ireturn, 1) → wd_ G A s.heap (wl_X9_tellWalker G A_t A_t_now A_t_images A_t_pad A_t_evening A_t_ways A_t_tour A_t_odds A_t_now_marsh A_t_now_crowd A_t_now_sights A_t_now_crowd_at A_t_now_crowd_home A_t_now_crowd_light A_t_now_crowd_carries A_t_now_crowd_bearer c_t_measured c_t_now_crowd_there c_t_now_crowd_foggy c_t_now_crowd_at c_t_now_crowd_home c_t_now_crowd_light c_t_now_crowd_carries) H locs → W p l e { frames := 2, cells := 0, slots := 0, locals := 43 } s m args below meth c H locs 0 0 Q (F0 m pc ls [.int r])) (hf : fn_X9_tellWalker c_t_now_crowd_there c_t_now_crowd_at c_t_now_crowd_home c_t_now_crowd_light c_t_now_crowd_carries x1 x2 = some r) {H : Heap} {locs : List Loc} {ls : Array Slot} (hl : lv_has ls 3 [(0, .ref A_t), (1, .int x1), (2, .int x2)]) (hw : wd_ G A s.heap (wl_X9_tellWalker G A_t A_t_now A_t_images A_t_pad A_t_evening A_t_ways A_t_tour A_t_odds A_t_now_marsh A_t_now_crowd A_t_now_sights A_t_now_crowd_at A_t_now_crowd_home A_t_now_crowd_light A_t_now_crowd_carries A_t_now_crowd_bearer c_t_measured c_t_now_crowd_there c_t_now_crowd_foggy c_t_now_crowd_at c_t_now_crowd_home c_t_now_crowd_light c_t_now_crowd_carries) H locs) : W p l e { frames := 2, cells := 0, slots := 0, locals := 43 } s m args below meth c H locs 0 0 Q (F0 m 0 ls []) := by
  have hx := hC.1
  have hb := hC.2.1
  unfold fn_X9_tellWalker at hf
  refine lv_aload_n hx hb dX9_tellWalker_0 rfl (lv_at hl 0 rfl) ?_
  refine g_get hC hw fkX9_12 0 rfl rfl dX9_tellWalker_1 ?_
  refine g_get hC hw fkX9_81 1 rfl rfl dX9_tellWalker_4 ?_
  refine lv_iload_n hx hb dX9_tellWalker_7 rfl (lv_at hl 1 rfl) ?_
  obtain ⟨r1, hq2, hf⟩ := b1_s hf
  refine h_cVi hC hw mvX9_95 (cn_X0_has l G A_t_now_crowd A_t_now_crowd_at A_t_now_crowd_home A_t_now_crowd_light A_t_now_crowd_carries A_t_now_crowd_bearer c_t_now_crowd_there c_t_now_crowd_foggy x1 r1 hq2) [2] rfl (by decide) 2 rfl rfl rfl hl.1 rfl (Nat.le_of_ble_eq_true rfl) ⟨Nat.le_of_ble_eq_true rfl, Nat.le_of_ble_eq_true rfl⟩ ⟨Nat.le_refl _, Nat.le_refl _⟩ dX9_tellWalker_8 (fun H locs hw => ?_)
  refine lv_if_eq (tgt := 23) hx hb dX9_tellWalker_11 (by decide) (fun hc => ?_) (fun hc => ?_)
  · replace hf := it_t hc hf
    refine lv_bipush (v := (-2)) hx hb dX9_tellWalker_23 (by decide) ?_
    have h1_ := t1_ hf
    subst h1_
    exact hret _ _ _ _ dX9_tellWalker_25 hw
  · replace hf := it_f hc hf
    refine lv_iload_n hx hb dX9_tellWalker_14 rfl (lv_at hl 2 rfl) ?_
    refine lv_iconst (v := 0) hx hb dX9_tellWalker_15 (by decide) ?_
    refine lv_iconst (v := 3) hx hb dX9_tellWalker_16 (by decide) ?_
    obtain ⟨r3, hq4, hf⟩ := b1_s hf
    refine h_cSi hC hw msX9_63 (cn_X9_isWithin l G x2 0 3 r3 hq4) [] rfl (by decide) rfl hl.1 rfl (Nat.le_of_ble_eq_true rfl) ⟨Nat.le_of_ble_eq_true rfl, Nat.le_of_ble_eq_true rfl⟩ ⟨Nat.le_refl _, Nat.le_refl _⟩ dX9_tellWalker_17 (fun H locs hw => ?_)
    refine lv_if_ne (tgt := 26) hx hb dX9_tellWalker_20 (by decide) (fun hc => ?_) (fun hc => ?_)
    · replace hf := it_f hc hf
      refine lv_iload_n hx hb dX9_tellWalker_26 rfl (lv_at hl 2 rfl) ?_
      refine lv_if_ne (tgt := 43) hx hb dX9_tellWalker_27 (by decide) (fun hc => ?_) (fun hc => ?_)
      · replace hf := it_f hc hf
        refine lv_iload_n hx hb dX9_tellWalker_43 rfl (lv_at hl 2 rfl) ?_
        refine lv_iconst (v := 1) hx hb dX9_tellWalker_44 (by decide) ?_
        refine lv_icmp_ne (tgt := 61) hx hb dX9_tellWalker_45 (by decide) (fun hc => ?_) (fun hc => ?_)
        · replace hf := it_f hc hf
          refine lv_iload_n hx hb dX9_tellWalker_61 rfl (lv_at hl 2 rfl) ?_
          refine lv_iconst (v := 2) hx hb dX9_tellWalker_62 (by decide) ?_
          refine lv_icmp_ne (tgt := 81) hx hb dX9_tellWalker_63 (by decide) (fun hc => ?_) (fun hc => ?_)
          · replace hf := it_f hc hf
            refine lv_aload_n hx hb dX9_tellWalker_81 rfl (lv_at hl 0 rfl) ?_
            refine g_get hC hw fkX9_12 0 rfl rfl dX9_tellWalker_82 ?_
            refine g_get hC hw fkX9_81 1 rfl rfl dX9_tellWalker_85 ?_
            refine g_get hC hw fkX9_138 2 rfl rfl dX9_tellWalker_88 ?_
            refine lv_iload_n hx hb dX9_tellWalker_91 rfl (lv_at hl 1 rfl) ?_
            obtain ⟨hi, hf⟩ := ck_s hf
            refine g_iald hC hw 6 rfl hi dX9_tellWalker_92 ?_
            have h1_ := t1_ hf
            subst h1_
            exact hret _ _ _ _ dX9_tellWalker_93 hw
          · replace hf := it_t hc hf
            refine lv_aload_n hx hb dX9_tellWalker_66 rfl (lv_at hl 0 rfl) ?_
            refine g_get hC hw fkX9_12 0 rfl rfl dX9_tellWalker_67 ?_
            refine g_get hC hw fkX9_81 1 rfl rfl dX9_tellWalker_70 ?_
            refine g_get hC hw fkX9_135 2 rfl rfl dX9_tellWalker_73 ?_
            refine lv_iload_n hx hb dX9_tellWalker_76 rfl (lv_at hl 1 rfl) ?_
            obtain ⟨hi, hf⟩ := ck_s hf
            refine g_iald hC hw 5 rfl hi dX9_tellWalker_77 ?_
            refine lv_goto (tgt := 93) hx hb dX9_tellWalker_78 (by decide) ?_
            have h1_ := t1_ hf
            subst h1_
            exact hret _ _ _ _ dX9_tellWalker_93 hw
        · replace hf := it_t hc hf
          refine lv_aload_n hx hb dX9_tellWalker_48 rfl (lv_at hl 0 rfl) ?_
          refine g_get hC hw fkX9_12 0 rfl rfl dX9_tellWalker_49 ?_
          refine g_get hC hw fkX9_81 1 rfl rfl dX9_tellWalker_52 ?_
          refine g_get hC hw fkX9_248 2 rfl rfl dX9_tellWalker_55 ?_
          refine lv_iload_n hx hb dX9_tellWalker_58 rfl (lv_at hl 1 rfl) ?_
          obtain ⟨hi, hf⟩ := ck_s hf
          refine g_iald hC hw 4 rfl hi dX9_tellWalker_59 ?_
          have h1_ := t1_ hf
          subst h1_
          exact hret _ _ _ _ dX9_tellWalker_60 hw
      · replace hf := it_t hc hf
        refine lv_aload_n hx hb dX9_tellWalker_30 rfl (lv_at hl 0 rfl) ?_
        refine g_get hC hw fkX9_12 0 rfl rfl dX9_tellWalker_31 ?_
        refine g_get hC hw fkX9_81 1 rfl rfl dX9_tellWalker_34 ?_
        refine g_get hC hw fkX9_131 2 rfl rfl dX9_tellWalker_37 ?_
        refine lv_iload_n hx hb dX9_tellWalker_40 rfl (lv_at hl 1 rfl) ?_
        obtain ⟨hi, hf⟩ := ck_s hf
        refine g_iald hC hw 3 rfl hi dX9_tellWalker_41 ?_
        have h1_ := t1_ hf
        subst h1_
        exact hret _ _ _ _ dX9_tellWalker_42 hw
    · replace hf := it_t hc hf
      refine lv_bipush (v := (-2)) hx hb dX9_tellWalker_23 (by decide) ?_
      have h1_ := t1_ hf
      subst h1_
      exact hret _ _ _ _ dX9_tellWalker_25 hw
set_option maxHeartbeats 4000000 in
set_option maxRecDepth 100000 in
theorem cn_X9_tellWalker (l : Launch) (G : gw_) (A_t : Nat) (A_t_now : Nat) (A_t_images : Nat) (A_t_pad : Nat) (A_t_evening : Nat) (A_t_ways : Nat) (A_t_tour : Nat) (A_t_odds : Nat) (A_t_now_marsh : Nat) (A_t_now_crowd : Nat) (A_t_now_sights : Nat) (A_t_now_crowd_at : Nat) (A_t_now_crowd_home : Nat) (A_t_now_crowd_light : Nat) (A_t_now_crowd_carries : Nat) (A_t_now_crowd_bearer : Nat) (c_t_measured : Int32) (c_t_now_crowd_there : Int32) (c_t_now_crowd_foggy : Int32) (c_t_now_crowd_at : Nat → Int32) (c_t_now_crowd_home : Nat → Int32) (c_t_now_crowd_light : Nat → Int32) (c_t_now_crowd_carries : Nat → Int32) (x1 : Int32) (x2 : Int32) (r : Int32) (hf : fn_X9_tellWalker c_t_now_crowd_there c_t_now_crowd_at c_t_now_crowd_home c_t_now_crowd_light c_t_now_crowd_carries x1 x2 = some r) : ci_ l G yX9_tellWalker cX9_tellWalker 3 (some .int) 2 43 (wl_X9_tellWalker G A_t A_t_now A_t_images A_t_pad A_t_evening A_t_ways A_t_tour A_t_odds A_t_now_marsh A_t_now_crowd A_t_now_sights A_t_now_crowd_at A_t_now_crowd_home A_t_now_crowd_light A_t_now_crowd_carries A_t_now_crowd_bearer c_t_measured c_t_now_crowd_there c_t_now_crowd_foggy c_t_now_crowd_at c_t_now_crowd_home c_t_now_crowd_light c_t_now_crowd_carries) [.ref A_t, .int x1, .int x2] r (wl_X9_tellWalker G A_t A_t_now A_t_images A_t_pad A_t_evening A_t_ways A_t_tour A_t_odds A_t_now_marsh A_t_now_crowd A_t_now_sights A_t_now_crowd_at A_t_now_crowd_home A_t_now_crowd_light A_t_now_crowd_carries A_t_now_crowd_bearer c_t_measured c_t_now_crowd_there c_t_now_crowd_foggy c_t_now_crowd_at c_t_now_crowd_home c_t_now_crowd_light c_t_now_crowd_carries) := fun sz => met_intro (by decide) (Nat.le_of_ble_eq_true rfl) (fun p e s m args below meth c ls hsz hC hr hlk hnm hl hw => wn_X9_tellWalker hC (fun pc H locs ls hd hw => g_iret hC hr hlk hw rfl rfl hd) hf hl hw)

theorem dX9_told_0 : decode cX9_told 0 = .ok (.iload_n 1, 1) := by decide +kernel
theorem dX9_told_1 : decode cX9_told 1 = .ok (.iconst 0, 1) := by decide +kernel
theorem dX9_told_2 : decode cX9_told 2 = .ok (.iconst 3, 1) := by decide +kernel
theorem dX9_told_3 : decode cX9_told 3 = .ok (.invokestatic 63, 3) := by decide +kernel
theorem dX9_told_6 : decode cX9_told 6 = .ok (.ifCond .eq 9, 3) := by decide +kernel
theorem dX9_told_9 : decode cX9_told 9 = .ok (.aload_n 0, 1) := by decide +kernel
theorem dX9_told_10 : decode cX9_told 10 = .ok (.iload_n 1, 1) := by decide +kernel
theorem dX9_told_11 : decode cX9_told 11 = .ok (.invokevirtual 276, 3) := by decide +kernel
theorem dX9_told_14 : decode cX9_told 14 = .ok (.ireturn, 1) := by decide +kernel
theorem dX9_told_15 : decode cX9_told 15 = .ok (.iload_n 1, 1) := by decide +kernel
theorem dX9_told_16 : decode cX9_told 16 = .ok (.bipush 10, 2) := by decide +kernel
theorem dX9_told_18 : decode cX9_told 18 = .ok (.bipush 69, 2) := by decide +kernel
theorem dX9_told_20 : decode cX9_told 20 = .ok (.invokestatic 63, 3) := by decide +kernel
theorem dX9_told_23 : decode cX9_told 23 = .ok (.ifCond .eq 18, 3) := by decide +kernel
theorem dX9_told_26 : decode cX9_told 26 = .ok (.aload_n 0, 1) := by decide +kernel
theorem dX9_told_27 : decode cX9_told 27 = .ok (.iload_n 1, 1) := by decide +kernel
theorem dX9_told_28 : decode cX9_told 28 = .ok (.bipush 10, 2) := by decide +kernel
theorem dX9_told_30 : decode cX9_told 30 = .ok (.idiv, 1) := by decide +kernel
theorem dX9_told_31 : decode cX9_told 31 = .ok (.iconst 1, 1) := by decide +kernel
theorem dX9_told_32 : decode cX9_told 32 = .ok (.isub, 1) := by decide +kernel
theorem dX9_told_33 : decode cX9_told 33 = .ok (.iload_n 1, 1) := by decide +kernel
theorem dX9_told_34 : decode cX9_told 34 = .ok (.bipush 10, 2) := by decide +kernel
theorem dX9_told_36 : decode cX9_told 36 = .ok (.irem, 1) := by decide +kernel
theorem dX9_told_37 : decode cX9_told 37 = .ok (.invokevirtual 279, 3) := by decide +kernel
theorem dX9_told_40 : decode cX9_told 40 = .ok (.ireturn, 1) := by decide +kernel
theorem dX9_told_41 : decode cX9_told 41 = .ok (.iload_n 1, 1) := by decide +kernel
theorem dX9_told_42 : decode cX9_told 42 = .ok (.bipush 100, 2) := by decide +kernel
theorem dX9_told_44 : decode cX9_told 44 = .ok (.sipush 243, 3) := by decide +kernel
theorem dX9_told_47 : decode cX9_told 47 = .ok (.invokestatic 63, 3) := by decide +kernel
theorem dX9_told_50 : decode cX9_told 50 = .ok (.ifCond .eq 28, 3) := by decide +kernel
theorem dX9_told_53 : decode cX9_told 53 = .ok (.aload_n 0, 1) := by decide +kernel
theorem dX9_told_54 : decode cX9_told 54 = .ok (.getfield 12, 3) := by decide +kernel
theorem dX9_told_57 : decode cX9_told 57 = .ok (.getfield 67, 3) := by decide +kernel
theorem dX9_told_60 : decode cX9_told 60 = .ok (.iload_n 1, 1) := by decide +kernel
theorem dX9_told_61 : decode cX9_told 61 = .ok (.bipush 100, 2) := by decide +kernel
theorem dX9_told_63 : decode cX9_told 63 = .ok (.isub, 1) := by decide +kernel
theorem dX9_told_64 : decode cX9_told 64 = .ok (.bipush 12, 2) := by decide +kernel
theorem dX9_told_66 : decode cX9_told 66 = .ok (.idiv, 1) := by decide +kernel
theorem dX9_told_67 : decode cX9_told 67 = .ok (.iload_n 1, 1) := by decide +kernel
theorem dX9_told_68 : decode cX9_told 68 = .ok (.bipush 100, 2) := by decide +kernel
theorem dX9_told_70 : decode cX9_told 70 = .ok (.isub, 1) := by decide +kernel
theorem dX9_told_71 : decode cX9_told 71 = .ok (.bipush 12, 2) := by decide +kernel
theorem dX9_told_73 : decode cX9_told 73 = .ok (.irem, 1) := by decide +kernel
theorem dX9_told_74 : decode cX9_told 74 = .ok (.invokevirtual 71, 3) := by decide +kernel
theorem dX9_told_77 : decode cX9_told 77 = .ok (.ireturn, 1) := by decide +kernel
theorem dX9_told_78 : decode cX9_told 78 = .ok (.bipush (-2), 2) := by decide +kernel
theorem dX9_told_80 : decode cX9_told 80 = .ok (.ireturn, 1) := by decide +kernel
abbrev wl_X9_told (G : gw_) (A_t : Nat) (A_t_now : Nat) (A_t_images : Nat) (A_t_pad : Nat) (A_t_evening : Nat) (A_t_ways : Nat) (A_t_tour : Nat) (A_t_odds : Nat) (A_t_now_marsh : Nat) (A_t_now_crowd : Nat) (A_t_now_sights : Nat) (A_t_now_marsh_codes : Nat) (A_t_now_crowd_at : Nat) (A_t_now_crowd_home : Nat) (A_t_now_crowd_light : Nat) (A_t_now_crowd_carries : Nat) (A_t_now_crowd_bearer : Nat) (A_t_now_sights_places : Nat) (A_t_now_sights_lights : Nat) (A_t_pad_signs : Nat) (c_t_measured : Int32) (c_t_now_marsh_codes : Nat → Int32) (c_t_now_crowd_there : Int32) (c_t_now_crowd_foggy : Int32) (c_t_now_crowd_at : Nat → Int32) (c_t_now_crowd_home : Nat → Int32) (c_t_now_crowd_light : Nat → Int32) (c_t_now_crowd_carries : Nat → Int32) (c_t_now_sights_count : Int32) (c_t_pad_count : Int32) : va_W := [ob_ A_t 9 [.ref A_t_now, .ref A_t_images, .ref A_t_pad, .ref A_t_evening, .ref A_t_ways, .ref A_t_tour, .ref A_t_odds, .int c_t_measured], ob_ A_t_now 5 [.ref A_t_now_marsh, .ref A_t_now_crowd, .ref A_t_now_sights], ob_ A_t_now_marsh 2 [.ref A_t_now_marsh_codes], ia_ G A_t_now_marsh_codes 144 c_t_now_marsh_codes, ob_ A_t_now_crowd 0 [.int c_t_now_crowd_there, .int c_t_now_crowd_foggy, .ref A_t_now_crowd_at, .ref A_t_now_crowd_home, .ref A_t_now_crowd_light, .ref A_t_now_crowd_carries, .ref A_t_now_crowd_bearer], ia_ G A_t_now_crowd_at 6 c_t_now_crowd_at, ia_ G A_t_now_crowd_home 6 c_t_now_crowd_home, ia_ G A_t_now_crowd_light 6 c_t_now_crowd_light, ia_ G A_t_now_crowd_carries 6 c_t_now_crowd_carries, ob_ A_t_now_sights 6 [.int c_t_now_sights_count, .ref A_t_now_sights_places, .ref A_t_now_sights_lights], ob_ A_t_pad 4 [.int c_t_pad_count, .ref A_t_pad_signs]]
def fn_X9_told (c_t_now_marsh_codes : Nat → Int32) (c_t_now_crowd_there : Int32) (c_t_now_crowd_foggy : Int32) (c_t_now_crowd_at : Nat → Int32) (c_t_now_crowd_home : Nat → Int32) (c_t_now_crowd_light : Nat → Int32) (c_t_now_crowd_carries : Nat → Int32) (c_t_now_sights_count : Int32) (c_t_pad_count : Int32) (x1 : Int32) : Option (Int32) :=
  b1_ (fn_X9_isWithin x1 0 3) fun r1 =>
  if r1 = 0 then
    b1_ (fn_X9_isWithin x1 10 69) fun r3 =>
    if r3 = 0 then
      b1_ (fn_X9_isWithin x1 100 243) fun r5 =>
      if r5 = 0 then
        some (-2)
      else
        b1_ (fn_X2_code c_t_now_marsh_codes ((x1 - 100) / 12) ((x1 - 100) - (x1 - 100) / 12 * 12)) fun r7 =>
        some r7
    else
      b1_ (fn_X9_tellWalker c_t_now_crowd_there c_t_now_crowd_at c_t_now_crowd_home c_t_now_crowd_light c_t_now_crowd_carries ((x1 / 10) - 1) (x1 - x1 / 10 * 10)) fun r9 =>
      some r9
  else
    b1_ (fn_X9_tellCount c_t_now_crowd_there c_t_now_crowd_foggy c_t_now_sights_count c_t_pad_count x1) fun r11 =>
    some r11
set_option maxHeartbeats 4000000 in
set_option maxRecDepth 100000 in
theorem wn_X9_told {p : Program} {l : Launch} {e : Env} {s : State} {m : MethodId} {args : Array Value} {below : List Frame} {meth : Method} {c : Code} {G : gw_} {A : Nat → Prop} {Q : State → Prop} {A_t : Nat} {A_t_now : Nat} {A_t_images : Nat} {A_t_pad : Nat} {A_t_evening : Nat} {A_t_ways : Nat} {A_t_tour : Nat} {A_t_odds : Nat} {A_t_now_marsh : Nat} {A_t_now_crowd : Nat} {A_t_now_sights : Nat} {A_t_now_marsh_codes : Nat} {A_t_now_crowd_at : Nat} {A_t_now_crowd_home : Nat} {A_t_now_crowd_light : Nat} {A_t_now_crowd_carries : Nat} {A_t_now_crowd_bearer : Nat} {A_t_now_sights_places : Nat} {A_t_now_sights_lights : Nat} {A_t_pad_signs : Nat} {c_t_measured : Int32} {c_t_now_marsh_codes : Nat → Int32} {c_t_now_crowd_there : Int32} {c_t_now_crowd_foggy : Int32} {c_t_now_crowd_at : Nat → Int32} {c_t_now_crowd_home : Nat → Int32} {c_t_now_crowd_light : Nat → Int32} {c_t_now_crowd_carries : Nat → Int32} {c_t_now_sights_count : Int32} {c_t_pad_count : Int32} {r : Int32} {x1 : Int32} (hC : cx_ p s m c G cX9_told 2 RX9) (hret : ∀ (pc : Nat) (H : Heap) (locs : List Loc) (ls : Array Slot), decode cX9_told pc = .ok (.ireturn, 1) → wd_ G A s.heap (wl_X9_told G A_t A_t_now A_t_images A_t_pad A_t_evening A_t_ways A_t_tour A_t_odds A_t_now_marsh A_t_now_crowd A_t_now_sights A_t_now_marsh_codes A_t_now_crowd_at A_t_now_crowd_home A_t_now_crowd_light A_t_now_crowd_carries A_t_now_crowd_bearer A_t_now_sights_places A_t_now_sights_lights A_t_pad_signs c_t_measured c_t_now_marsh_codes c_t_now_crowd_there c_t_now_crowd_foggy c_t_now_crowd_at c_t_now_crowd_home c_t_now_crowd_light c_t_now_crowd_carries c_t_now_sights_count c_t_pad_count) H locs → W p l e { frames := 3, cells := 0, slots := 0, locals := 65 } s m args below meth c H locs 0 0 Q (F0 m pc ls [.int r])) (hf : fn_X9_told c_t_now_marsh_codes c_t_now_crowd_there c_t_now_crowd_foggy c_t_now_crowd_at c_t_now_crowd_home c_t_now_crowd_light c_t_now_crowd_carries c_t_now_sights_count c_t_pad_count x1 = some r) {H : Heap} {locs : List Loc} {ls : Array Slot} (hl : lv_has ls 2 [(0, .ref A_t), (1, .int x1)]) (hw : wd_ G A s.heap (wl_X9_told G A_t A_t_now A_t_images A_t_pad A_t_evening A_t_ways A_t_tour A_t_odds A_t_now_marsh A_t_now_crowd A_t_now_sights A_t_now_marsh_codes A_t_now_crowd_at A_t_now_crowd_home A_t_now_crowd_light A_t_now_crowd_carries A_t_now_crowd_bearer A_t_now_sights_places A_t_now_sights_lights A_t_pad_signs c_t_measured c_t_now_marsh_codes c_t_now_crowd_there c_t_now_crowd_foggy c_t_now_crowd_at c_t_now_crowd_home c_t_now_crowd_light c_t_now_crowd_carries c_t_now_sights_count c_t_pad_count) H locs) : W p l e { frames := 3, cells := 0, slots := 0, locals := 65 } s m args below meth c H locs 0 0 Q (F0 m 0 ls []) := by
  have hx := hC.1
  have hb := hC.2.1
  unfold fn_X9_told at hf
  refine lv_iload_n hx hb dX9_told_0 rfl (lv_at hl 1 rfl) ?_
  refine lv_iconst (v := 0) hx hb dX9_told_1 (by decide) ?_
  refine lv_iconst (v := 3) hx hb dX9_told_2 (by decide) ?_
  obtain ⟨r1, hq2, hf⟩ := b1_s hf
  refine h_cSi hC hw msX9_63 (cn_X9_isWithin l G x1 0 3 r1 hq2) [] rfl (by decide) rfl hl.1 rfl (Nat.le_of_ble_eq_true rfl) ⟨Nat.le_of_ble_eq_true rfl, Nat.le_of_ble_eq_true rfl⟩ ⟨Nat.le_refl _, Nat.le_refl _⟩ dX9_told_3 (fun H locs hw => ?_)
  refine lv_if_eq (tgt := 15) hx hb dX9_told_6 (by decide) (fun hc => ?_) (fun hc => ?_)
  · replace hf := it_t hc hf
    refine lv_iload_n hx hb dX9_told_15 rfl (lv_at hl 1 rfl) ?_
    refine lv_bipush (v := 10) hx hb dX9_told_16 (by decide) ?_
    refine lv_bipush (v := 69) hx hb dX9_told_18 (by decide) ?_
    obtain ⟨r3, hq4, hf⟩ := b1_s hf
    refine h_cSi hC hw msX9_63 (cn_X9_isWithin l G x1 10 69 r3 hq4) [] rfl (by decide) rfl hl.1 rfl (Nat.le_of_ble_eq_true rfl) ⟨Nat.le_of_ble_eq_true rfl, Nat.le_of_ble_eq_true rfl⟩ ⟨Nat.le_refl _, Nat.le_refl _⟩ dX9_told_20 (fun H locs hw => ?_)
    refine lv_if_eq (tgt := 41) hx hb dX9_told_23 (by decide) (fun hc => ?_) (fun hc => ?_)
    · replace hf := it_t hc hf
      refine lv_iload_n hx hb dX9_told_41 rfl (lv_at hl 1 rfl) ?_
      refine lv_bipush (v := 100) hx hb dX9_told_42 (by decide) ?_
      refine lv_sipush (v := 243) hx hb dX9_told_44 (by decide) ?_
      obtain ⟨r5, hq6, hf⟩ := b1_s hf
      refine h_cSi hC hw msX9_63 (cn_X9_isWithin l G x1 100 243 r5 hq6) [] rfl (by decide) rfl hl.1 rfl (Nat.le_of_ble_eq_true rfl) ⟨Nat.le_of_ble_eq_true rfl, Nat.le_of_ble_eq_true rfl⟩ ⟨Nat.le_refl _, Nat.le_refl _⟩ dX9_told_47 (fun H locs hw => ?_)
      refine lv_if_eq (tgt := 78) hx hb dX9_told_50 (by decide) (fun hc => ?_) (fun hc => ?_)
      · replace hf := it_t hc hf
        refine lv_bipush (v := (-2)) hx hb dX9_told_78 (by decide) ?_
        have h1_ := t1_ hf
        subst h1_
        exact hret _ _ _ _ dX9_told_80 hw
      · replace hf := it_f hc hf
        refine lv_aload_n hx hb dX9_told_53 rfl (lv_at hl 0 rfl) ?_
        refine g_get hC hw fkX9_12 0 rfl rfl dX9_told_54 ?_
        refine g_get hC hw fkX9_67 1 rfl rfl dX9_told_57 ?_
        refine lv_iload_n hx hb dX9_told_60 rfl (lv_at hl 1 rfl) ?_
        refine lv_bipush (v := 100) hx hb dX9_told_61 (by decide) ?_
        refine lv_isub hx hb dX9_told_63 ?_
        refine lv_bipush (v := 12) hx hb dX9_told_64 (by decide) ?_
        refine lv_idiv hx hb dX9_told_66 (by decide) ?_
        refine lv_iload_n hx hb dX9_told_67 rfl (lv_at hl 1 rfl) ?_
        refine lv_bipush (v := 100) hx hb dX9_told_68 (by decide) ?_
        refine lv_isub hx hb dX9_told_70 ?_
        refine lv_bipush (v := 12) hx hb dX9_told_71 (by decide) ?_
        refine lv_irem hx hb dX9_told_73 (by decide) ?_
        obtain ⟨r7, hq8, hf⟩ := b1_s hf
        refine h_cVi hC hw mvX9_71 (cn_X2_code l G A_t_now_marsh A_t_now_marsh_codes c_t_now_marsh_codes ((x1 - 100) / 12) ((x1 - 100) - (x1 - 100) / 12 * 12) r7 hq8) [2, 3] rfl (by decide) 2 rfl rfl rfl hl.1 rfl (Nat.le_of_ble_eq_true rfl) ⟨Nat.le_of_ble_eq_true rfl, Nat.le_of_ble_eq_true rfl⟩ ⟨Nat.le_refl _, Nat.le_refl _⟩ dX9_told_74 (fun H locs hw => ?_)
        have h1_ := t1_ hf
        subst h1_
        exact hret _ _ _ _ dX9_told_77 hw
    · replace hf := it_f hc hf
      refine lv_aload_n hx hb dX9_told_26 rfl (lv_at hl 0 rfl) ?_
      refine lv_iload_n hx hb dX9_told_27 rfl (lv_at hl 1 rfl) ?_
      refine lv_bipush (v := 10) hx hb dX9_told_28 (by decide) ?_
      refine lv_idiv hx hb dX9_told_30 (by decide) ?_
      refine lv_iconst (v := 1) hx hb dX9_told_31 (by decide) ?_
      refine lv_isub hx hb dX9_told_32 ?_
      refine lv_iload_n hx hb dX9_told_33 rfl (lv_at hl 1 rfl) ?_
      refine lv_bipush (v := 10) hx hb dX9_told_34 (by decide) ?_
      refine lv_irem hx hb dX9_told_36 (by decide) ?_
      obtain ⟨r9, hq10, hf⟩ := b1_s hf
      refine h_cVi hC hw mvX9_279 (cn_X9_tellWalker l G A_t A_t_now A_t_images A_t_pad A_t_evening A_t_ways A_t_tour A_t_odds A_t_now_marsh A_t_now_crowd A_t_now_sights A_t_now_crowd_at A_t_now_crowd_home A_t_now_crowd_light A_t_now_crowd_carries A_t_now_crowd_bearer c_t_measured c_t_now_crowd_there c_t_now_crowd_foggy c_t_now_crowd_at c_t_now_crowd_home c_t_now_crowd_light c_t_now_crowd_carries ((x1 / 10) - 1) (x1 - x1 / 10 * 10) r9 hq10) [0, 1, 4, 5, 6, 7, 8] rfl (by decide) 0 rfl rfl rfl hl.1 rfl (Nat.le_of_ble_eq_true rfl) ⟨Nat.le_of_ble_eq_true rfl, Nat.le_of_ble_eq_true rfl⟩ ⟨Nat.le_refl _, Nat.le_refl _⟩ dX9_told_37 (fun H locs hw => ?_)
      have h1_ := t1_ hf
      subst h1_
      exact hret _ _ _ _ dX9_told_40 hw
  · replace hf := it_f hc hf
    refine lv_aload_n hx hb dX9_told_9 rfl (lv_at hl 0 rfl) ?_
    refine lv_iload_n hx hb dX9_told_10 rfl (lv_at hl 1 rfl) ?_
    obtain ⟨r11, hq12, hf⟩ := b1_s hf
    refine h_cVi hC hw mvX9_276 (cn_X9_tellCount l G A_t A_t_now A_t_images A_t_pad A_t_evening A_t_ways A_t_tour A_t_odds A_t_now_marsh A_t_now_crowd A_t_now_sights A_t_now_crowd_at A_t_now_crowd_home A_t_now_crowd_light A_t_now_crowd_carries A_t_now_crowd_bearer A_t_now_sights_places A_t_now_sights_lights A_t_pad_signs c_t_measured c_t_now_crowd_there c_t_now_crowd_foggy c_t_now_sights_count c_t_pad_count x1 r11 hq12) [0, 1, 4, 9, 10] rfl (by decide) 0 rfl rfl rfl hl.1 rfl (Nat.le_of_ble_eq_true rfl) ⟨Nat.le_of_ble_eq_true rfl, Nat.le_of_ble_eq_true rfl⟩ ⟨Nat.le_refl _, Nat.le_refl _⟩ dX9_told_11 (fun H locs hw => ?_)
    have h1_ := t1_ hf
    subst h1_
    exact hret _ _ _ _ dX9_told_14 hw
set_option maxHeartbeats 4000000 in
set_option maxRecDepth 100000 in
theorem cn_X9_told (l : Launch) (G : gw_) (A_t : Nat) (A_t_now : Nat) (A_t_images : Nat) (A_t_pad : Nat) (A_t_evening : Nat) (A_t_ways : Nat) (A_t_tour : Nat) (A_t_odds : Nat) (A_t_now_marsh : Nat) (A_t_now_crowd : Nat) (A_t_now_sights : Nat) (A_t_now_marsh_codes : Nat) (A_t_now_crowd_at : Nat) (A_t_now_crowd_home : Nat) (A_t_now_crowd_light : Nat) (A_t_now_crowd_carries : Nat) (A_t_now_crowd_bearer : Nat) (A_t_now_sights_places : Nat) (A_t_now_sights_lights : Nat) (A_t_pad_signs : Nat) (c_t_measured : Int32) (c_t_now_marsh_codes : Nat → Int32) (c_t_now_crowd_there : Int32) (c_t_now_crowd_foggy : Int32) (c_t_now_crowd_at : Nat → Int32) (c_t_now_crowd_home : Nat → Int32) (c_t_now_crowd_light : Nat → Int32) (c_t_now_crowd_carries : Nat → Int32) (c_t_now_sights_count : Int32) (c_t_pad_count : Int32) (x1 : Int32) (r : Int32) (hf : fn_X9_told c_t_now_marsh_codes c_t_now_crowd_there c_t_now_crowd_foggy c_t_now_crowd_at c_t_now_crowd_home c_t_now_crowd_light c_t_now_crowd_carries c_t_now_sights_count c_t_pad_count x1 = some r) : ci_ l G yX9_told cX9_told 2 (some .int) 3 65 (wl_X9_told G A_t A_t_now A_t_images A_t_pad A_t_evening A_t_ways A_t_tour A_t_odds A_t_now_marsh A_t_now_crowd A_t_now_sights A_t_now_marsh_codes A_t_now_crowd_at A_t_now_crowd_home A_t_now_crowd_light A_t_now_crowd_carries A_t_now_crowd_bearer A_t_now_sights_places A_t_now_sights_lights A_t_pad_signs c_t_measured c_t_now_marsh_codes c_t_now_crowd_there c_t_now_crowd_foggy c_t_now_crowd_at c_t_now_crowd_home c_t_now_crowd_light c_t_now_crowd_carries c_t_now_sights_count c_t_pad_count) [.ref A_t, .int x1] r (wl_X9_told G A_t A_t_now A_t_images A_t_pad A_t_evening A_t_ways A_t_tour A_t_odds A_t_now_marsh A_t_now_crowd A_t_now_sights A_t_now_marsh_codes A_t_now_crowd_at A_t_now_crowd_home A_t_now_crowd_light A_t_now_crowd_carries A_t_now_crowd_bearer A_t_now_sights_places A_t_now_sights_lights A_t_pad_signs c_t_measured c_t_now_marsh_codes c_t_now_crowd_there c_t_now_crowd_foggy c_t_now_crowd_at c_t_now_crowd_home c_t_now_crowd_light c_t_now_crowd_carries c_t_now_sights_count c_t_pad_count) := fun sz => met_intro (by decide) (Nat.le_of_ble_eq_true rfl) (fun p e s m args below meth c ls hsz hC hr hlk hnm hl hw => wn_X9_told hC (fun pc H locs ls hd hw => g_iret hC hr hlk hw rfl rfl hd) hf hl hw)

theorem dX10_in_0 : decode cX10_in 0 = .ok (.lload_n 0, 1) := by decide +kernel
theorem dX10_in_1 : decode cX10_in 1 = .ok (.lload_n 2, 1) := by decide +kernel
theorem dX10_in_2 : decode cX10_in 2 = .ok (.lcmp, 1) := by decide +kernel
theorem dX10_in_3 : decode cX10_in 3 = .ok (.ifCond .lt 14, 3) := by decide +kernel
theorem dX10_in_6 : decode cX10_in 6 = .ok (.lload_n 0, 1) := by decide +kernel
theorem dX10_in_7 : decode cX10_in 7 = .ok (.lload 4, 2) := by decide +kernel
theorem dX10_in_9 : decode cX10_in 9 = .ok (.lcmp, 1) := by decide +kernel
theorem dX10_in_10 : decode cX10_in 10 = .ok (.ifCond .gt 7, 3) := by decide +kernel
theorem dX10_in_13 : decode cX10_in 13 = .ok (.iconst 1, 1) := by decide +kernel
theorem dX10_in_14 : decode cX10_in 14 = .ok (.goto 4, 3) := by decide +kernel
theorem dX10_in_17 : decode cX10_in 17 = .ok (.iconst 0, 1) := by decide +kernel
theorem dX10_in_18 : decode cX10_in 18 = .ok (.ireturn, 1) := by decide +kernel
def fn_X10_in (x0 : Int64) (x2 : Int64) (x4 : Int64) : Option (Int32) :=
  if (lg_cmp x0 x2) < 0 then
    some 0
  else
    if 0 < (lg_cmp x0 x4) then
      some 0
    else
      some 1
set_option maxHeartbeats 4000000 in
set_option maxRecDepth 100000 in
theorem wn_X10_in {p : Program} {l : Launch} {e : Env} {s : State} {m : MethodId} {args : Array Value} {below : List Frame} {meth : Method} {c : Code} {G : gw_} {A : Nat → Prop} {Q : State → Prop} {r : Int32} {x0 : Int64} {x2 : Int64} {x4 : Int64} (hC : cx_ p s m c G cX10_in 6 RX10) (hret : ∀ (pc : Nat) (H : Heap) (locs : List Loc) (ls : Array Slot), narrow .boolean (.int r) = .int r → decode cX10_in pc = .ok (.ireturn, 1) → wd_ G A s.heap [] H locs → W p l e { frames := 0, cells := 0, slots := 0, locals := 0 } s m args below meth c H locs 0 0 Q (F0 m pc ls [.int r])) (hf : fn_X10_in x0 x2 x4 = some r) {H : Heap} {locs : List Loc} {ls : Array Slot} (hl : lv_has ls 6 [(0, .long x0), (2, .long x2), (4, .long x4)]) (hw : wd_ G A s.heap [] H locs) : W p l e { frames := 0, cells := 0, slots := 0, locals := 0 } s m args below meth c H locs 0 0 Q (F0 m 0 ls []) := by
  have hx := hC.1
  have hb := hC.2.1
  unfold fn_X10_in at hf
  refine lv_lload_n hx hb dX10_in_0 rfl (lv_at hl 0 rfl) ?_
  refine lv_lload_n hx hb dX10_in_1 rfl (lv_at hl 1 rfl) ?_
  refine W.lcmp hx hb dX10_in_2 ?_
  refine lv_if_lt (tgt := 17) hx hb dX10_in_3 (by decide) (fun hc => ?_) (fun hc => ?_)
  · replace hf := it_t hc hf
    refine lv_iconst (v := 0) hx hb dX10_in_17 (by decide) ?_
    have h1_ := t1_ hf
    subst h1_
    exact hret _ _ _ _ rfl dX10_in_18 hw
  · replace hf := it_f hc hf
    refine lv_lload_n hx hb dX10_in_6 rfl (lv_at hl 0 rfl) ?_
    refine lv_lload hx hb dX10_in_7 (lv_at hl 2 rfl) ?_
    refine W.lcmp hx hb dX10_in_9 ?_
    refine lv_if_gt (tgt := 17) hx hb dX10_in_10 (by decide) (fun hc => ?_) (fun hc => ?_)
    · replace hf := it_t hc hf
      refine lv_iconst (v := 0) hx hb dX10_in_17 (by decide) ?_
      have h1_ := t1_ hf
      subst h1_
      exact hret _ _ _ _ rfl dX10_in_18 hw
    · replace hf := it_f hc hf
      refine lv_iconst (v := 1) hx hb dX10_in_13 (by decide) ?_
      refine lv_goto (tgt := 18) hx hb dX10_in_14 (by decide) ?_
      have h1_ := t1_ hf
      subst h1_
      exact hret _ _ _ _ rfl dX10_in_18 hw
set_option maxHeartbeats 4000000 in
set_option maxRecDepth 100000 in
theorem cn_X10_in (l : Launch) (G : gw_) (x0 : Int64) (x2 : Int64) (x4 : Int64) (r : Int32) (hf : fn_X10_in x0 x2 x4 = some r) : ci_ l G yX10_in cX10_in 6 (some .boolean) 0 0 [] [.long x0, .long x2, .long x4] r [] := fun sz => met_intro (by decide) (Nat.le_of_ble_eq_true rfl) (fun p e s m args below meth c ls hsz hC hr hlk hnm hl hw => wn_X10_in hC (fun pc H locs ls hn hd hw => g_iret hC hr hlk hw rfl hn hd) hf hl hw)

theorem dX10_isPlace_0 : decode cX10_isPlace 0 = .ok (.iload_n 0, 1) := by decide +kernel
theorem dX10_isPlace_1 : decode cX10_isPlace 1 = .ok (.i2l, 1) := by decide +kernel
theorem dX10_isPlace_2 : decode cX10_isPlace 2 = .ok (.lconst 0, 1) := by decide +kernel
theorem dX10_isPlace_3 : decode cX10_isPlace 3 = .ok (.ldc2_w 77, 3) := by decide +kernel
theorem dX10_isPlace_6 : decode cX10_isPlace 6 = .ok (.invokestatic 79, 3) := by decide +kernel
theorem dX10_isPlace_9 : decode cX10_isPlace 9 = .ok (.ireturn, 1) := by decide +kernel
def fn_X10_isPlace (x0 : Int32) : Option (Int32) :=
  b1_ (fn_X10_in (Int32.toInt64 x0) 0 11) fun r1 =>
  bz_ r1 <|
  some r1
set_option maxHeartbeats 4000000 in
set_option maxRecDepth 100000 in
theorem wn_X10_isPlace {p : Program} {l : Launch} {e : Env} {s : State} {m : MethodId} {args : Array Value} {below : List Frame} {meth : Method} {c : Code} {G : gw_} {A : Nat → Prop} {Q : State → Prop} {r : Int32} {x0 : Int32} (hC : cx_ p s m c G cX10_isPlace 1 RX10) (hret : ∀ (pc : Nat) (H : Heap) (locs : List Loc) (ls : Array Slot), narrow .boolean (.int r) = .int r → decode cX10_isPlace pc = .ok (.ireturn, 1) → wd_ G A s.heap [] H locs → W p l e { frames := 1, cells := 0, slots := 0, locals := 25 } s m args below meth c H locs 0 0 Q (F0 m pc ls [.int r])) (hf : fn_X10_isPlace x0 = some r) {H : Heap} {locs : List Loc} {ls : Array Slot} (hl : lv_has ls 1 [(0, .int x0)]) (hw : wd_ G A s.heap [] H locs) : W p l e { frames := 1, cells := 0, slots := 0, locals := 25 } s m args below meth c H locs 0 0 Q (F0 m 0 ls []) := by
  have hx := hC.1
  have hb := hC.2.1
  unfold fn_X10_isPlace at hf
  refine lv_iload_n hx hb dX10_isPlace_0 rfl (lv_at hl 0 rfl) ?_
  refine lv_i2l hx hb dX10_isPlace_1 rfl ?_
  refine lv_lconst (v := 0) hx hb dX10_isPlace_2 (by decide) ?_
  refine g_ldc2 (v := 11) hC (tb4 110 rfl rfl) dX10_isPlace_3 ?_
  obtain ⟨r1, hq2, hf⟩ := b1_s hf
  refine h_cSi hC hw msX10_79 (cn_X10_in l G (Int32.toInt64 x0) 0 11 r1 hq2) [] rfl (by decide) rfl hl.1 rfl (Nat.le_of_ble_eq_true rfl) ⟨Nat.le_of_ble_eq_true rfl, Nat.le_of_ble_eq_true rfl⟩ ⟨Nat.le_refl _, Nat.le_refl _⟩ dX10_isPlace_6 (fun H locs hw => ?_)
  obtain ⟨hz0, hf⟩ := bz_s hf
  have h1_ := t1_ hf
  subst h1_
  exact hret _ _ _ _ hz0.1 dX10_isPlace_9 hw
set_option maxHeartbeats 4000000 in
set_option maxRecDepth 100000 in
theorem cn_X10_isPlace (l : Launch) (G : gw_) (x0 : Int32) (r : Int32) (hf : fn_X10_isPlace x0 = some r) : ci_ l G yX10_isPlace cX10_isPlace 1 (some .boolean) 1 25 [] [.int x0] r [] := fun sz => met_intro (by decide) (Nat.le_of_ble_eq_true rfl) (fun p e s m args below meth c ls hsz hC hr hlk hnm hl hw => wn_X10_isPlace hC (fun pc H locs ls hn hd hw => g_iret hC hr hlk hw rfl hn hd) hf hl hw)

theorem dX10_ones_0 : decode cX10_ones 0 = .ok (.iconst 0, 1) := by decide +kernel
theorem dX10_ones_1 : decode cX10_ones 1 = .ok (.istore_n 1, 1) := by decide +kernel
theorem dX10_ones_2 : decode cX10_ones 2 = .ok (.iload_n 0, 1) := by decide +kernel
theorem dX10_ones_3 : decode cX10_ones 3 = .ok (.istore_n 2, 1) := by decide +kernel
theorem dX10_ones_4 : decode cX10_ones 4 = .ok (.iload_n 2, 1) := by decide +kernel
theorem dX10_ones_5 : decode cX10_ones 5 = .ok (.ifCond .eq 15, 3) := by decide +kernel
theorem dX10_ones_8 : decode cX10_ones 8 = .ok (.iinc 1 1, 3) := by decide +kernel
theorem dX10_ones_11 : decode cX10_ones 11 = .ok (.iload_n 2, 1) := by decide +kernel
theorem dX10_ones_12 : decode cX10_ones 12 = .ok (.iload_n 2, 1) := by decide +kernel
theorem dX10_ones_13 : decode cX10_ones 13 = .ok (.iconst 1, 1) := by decide +kernel
theorem dX10_ones_14 : decode cX10_ones 14 = .ok (.isub, 1) := by decide +kernel
theorem dX10_ones_15 : decode cX10_ones 15 = .ok (.iand, 1) := by decide +kernel
theorem dX10_ones_16 : decode cX10_ones 16 = .ok (.istore_n 2, 1) := by decide +kernel
theorem dX10_ones_17 : decode cX10_ones 17 = .ok (.goto (-13), 3) := by decide +kernel
theorem dX10_ones_20 : decode cX10_ones 20 = .ok (.iload_n 1, 1) := by decide +kernel
theorem dX10_ones_21 : decode cX10_ones 21 = .ok (.ireturn, 1) := by decide +kernel
def fn_X10_ones_b4 (rc : Int32 → Int32 → Option (Int32)) (k : Int32 → Option (Int32)) (x1 : Int32) (x2 : Int32) : Option (Int32) :=
  if x2 = 0 then
    k x1
  else
    rc (x1 + 1) (x2 &&& (x2 - 1))
def fn_X10_ones_l4 (k : Int32 → Option (Int32)) : Nat → Int32 → Int32 → Option (Int32)
  | 0 => fun _ _ => none
  | n + 1 => fun x1 x2 => fn_X10_ones_b4 (fn_X10_ones_l4 k n) k x1 x2
def fn_X10_ones (x0 : Int32) : Option (Int32) :=
  fn_X10_ones_l4 (fun v1 =>
    some v1) fu_ 0 x0
set_option maxHeartbeats 4000000 in
set_option maxRecDepth 100000 in
theorem wn_X10_ones_l4 {p : Program} {l : Launch} {e : Env} {s : State} {m : MethodId} {args : Array Value} {below : List Frame} {meth : Method} {c : Code} {G : gw_} {A : Nat → Prop} {Q : State → Prop} {r : Int32} {k : Int32 → Option (Int32)} (hC : cx_ p s m c G cX10_ones 3 RX10) (hret : ∀ (pc : Nat) (H : Heap) (locs : List Loc) (ls : Array Slot), decode cX10_ones pc = .ok (.ireturn, 1) → wd_ G A s.heap [] H locs → W p l e { frames := 0, cells := 0, slots := 0, locals := 0 } s m args below meth c H locs 0 0 Q (F0 m pc ls [.int r])) (hk : ∀ (x1 : Int32) (H : Heap) (locs : List Loc) (ls : Array Slot), k x1 = some r → lv_has ls 3 [(1, .int x1)] → wd_ G A s.heap [] H locs → W p l e { frames := 0, cells := 0, slots := 0, locals := 0 } s m args below meth c H locs 0 0 Q (F0 m 20 ls [])) : ∀ (n : Nat) (x1 : Int32) (x2 : Int32) (H : Heap) (locs : List Loc) (ls : Array Slot), fn_X10_ones_l4 k n x1 x2 = some r → lv_has ls 3 [(1, .int x1), (2, .int x2)] → wd_ G A s.heap [] H locs → W p l e { frames := 0, cells := 0, slots := 0, locals := 0 } s m args below meth c H locs 0 0 Q (F0 m 4 ls []) := by
  have hx := hC.1
  have hb := hC.2.1
  intro n
  induction n with
  | zero =>
    intro x1 x2 H locs ls hf
    cases (show (none : Option (Int32)) = some _ from hf)
  | succ n hrc =>
    intro x1 x2 H locs ls hf hl hw
    replace hf : fn_X10_ones_b4 (fn_X10_ones_l4 k n) k x1 x2 = some r := hf
    unfold fn_X10_ones_b4 at hf
    refine lv_iload_n hx hb dX10_ones_4 rfl (lv_at hl 1 rfl) ?_
    refine lv_if_eq (tgt := 20) hx hb dX10_ones_5 (by decide) (fun hc => ?_) (fun hc => ?_)
    · replace hf := it_t hc hf
      exact hk x1 _ _ _ hf (lv_sub hl [0] rfl) hw
    · replace hf := it_f hc hf
      refine lv_iinc (v := x1 + 1) (lv' := [(1, .int (x1 + 1)), (2, .int x2)]) hx hb dX10_ones_8 hl (k := 0) rfl rfl (by decide) rfl (fun ls hl => ?_)
      refine lv_iload_n hx hb dX10_ones_11 rfl (lv_at hl 1 rfl) ?_
      refine lv_iload_n hx hb dX10_ones_12 rfl (lv_at hl 1 rfl) ?_
      refine lv_iconst (v := 1) hx hb dX10_ones_13 (by decide) ?_
      refine lv_isub hx hb dX10_ones_14 ?_
      refine lv_iand hx hb dX10_ones_15 ?_
      refine lv_istore_n (lv' := [(2, .int (x2 &&& (x2 - 1))), (1, .int (x1 + 1))]) hx hb dX10_ones_16 rfl hl (by decide) rfl (fun ls hl => ?_)
      refine lv_goto (tgt := 4) hx hb dX10_ones_17 (by decide) ?_
      exact hrc (x1 + 1) (x2 &&& (x2 - 1)) _ _ _ hf (lv_sub hl [1, 0] rfl) hw
set_option maxHeartbeats 4000000 in
set_option maxRecDepth 100000 in
theorem wn_X10_ones {p : Program} {l : Launch} {e : Env} {s : State} {m : MethodId} {args : Array Value} {below : List Frame} {meth : Method} {c : Code} {G : gw_} {A : Nat → Prop} {Q : State → Prop} {r : Int32} {x0 : Int32} (hC : cx_ p s m c G cX10_ones 3 RX10) (hret : ∀ (pc : Nat) (H : Heap) (locs : List Loc) (ls : Array Slot), decode cX10_ones pc = .ok (.ireturn, 1) → wd_ G A s.heap [] H locs → W p l e { frames := 0, cells := 0, slots := 0, locals := 0 } s m args below meth c H locs 0 0 Q (F0 m pc ls [.int r])) (hf : fn_X10_ones x0 = some r) {H : Heap} {locs : List Loc} {ls : Array Slot} (hl : lv_has ls 3 [(0, .int x0)]) (hw : wd_ G A s.heap [] H locs) : W p l e { frames := 0, cells := 0, slots := 0, locals := 0 } s m args below meth c H locs 0 0 Q (F0 m 0 ls []) := by
  have hx := hC.1
  have hb := hC.2.1
  unfold fn_X10_ones at hf
  refine lv_iconst (v := 0) hx hb dX10_ones_0 (by decide) ?_
  refine lv_istore_n (lv' := [(1, .int 0), (0, .int x0)]) hx hb dX10_ones_1 rfl hl (by decide) rfl (fun ls hl => ?_)
  refine lv_iload_n hx hb dX10_ones_2 rfl (lv_at hl 1 rfl) ?_
  refine lv_istore_n (lv' := [(2, .int x0), (1, .int 0), (0, .int x0)]) hx hb dX10_ones_3 rfl hl (by decide) rfl (fun ls hl => ?_)
  refine wn_X10_ones_l4 hC hret (fun v1 H locs ls hf hl hw => ?_) fu_ 0 x0 _ _ _ hf (lv_sub hl [1, 0] rfl) hw
  refine lv_iload_n hx hb dX10_ones_20 rfl (lv_at hl 0 rfl) ?_
  have h1_ := t1_ hf
  subst h1_
  exact hret _ _ _ _ dX10_ones_21 hw
set_option maxHeartbeats 4000000 in
set_option maxRecDepth 100000 in
theorem cn_X10_ones (l : Launch) (G : gw_) (x0 : Int32) (r : Int32) (hf : fn_X10_ones x0 = some r) : ci_ l G yX10_ones cX10_ones 3 (some .int) 0 0 [] [.int x0] r [] := fun sz => met_intro (by decide) (Nat.le_of_ble_eq_true rfl) (fun p e s m args below meth c ls hsz hC hr hlk hnm hl hw => wn_X10_ones hC (fun pc H locs ls hd hw => g_iret hC hr hlk hw rfl rfl hd) hf hl hw)

theorem dX10_at_0 : decode cX10_at 0 = .ok (.bipush 12, 2) := by decide +kernel
theorem dX10_at_2 : decode cX10_at 2 = .ok (.iload_n 0, 1) := by decide +kernel
theorem dX10_at_3 : decode cX10_at 3 = .ok (.imul, 1) := by decide +kernel
theorem dX10_at_4 : decode cX10_at 4 = .ok (.iload_n 1, 1) := by decide +kernel
theorem dX10_at_5 : decode cX10_at 5 = .ok (.iadd, 1) := by decide +kernel
theorem dX10_at_6 : decode cX10_at 6 = .ok (.ireturn, 1) := by decide +kernel
def fn_X10_at (x0 : Int32) (x1 : Int32) : Option (Int32) :=
  some ((12 * x0) + x1)
set_option maxHeartbeats 4000000 in
set_option maxRecDepth 100000 in
theorem wn_X10_at {p : Program} {l : Launch} {e : Env} {s : State} {m : MethodId} {args : Array Value} {below : List Frame} {meth : Method} {c : Code} {G : gw_} {A : Nat → Prop} {Q : State → Prop} {r : Int32} {x0 : Int32} {x1 : Int32} (hC : cx_ p s m c G cX10_at 2 RX10) (hret : ∀ (pc : Nat) (H : Heap) (locs : List Loc) (ls : Array Slot), decode cX10_at pc = .ok (.ireturn, 1) → wd_ G A s.heap [] H locs → W p l e { frames := 0, cells := 0, slots := 0, locals := 0 } s m args below meth c H locs 0 0 Q (F0 m pc ls [.int r])) (hf : fn_X10_at x0 x1 = some r) {H : Heap} {locs : List Loc} {ls : Array Slot} (hl : lv_has ls 2 [(0, .int x0), (1, .int x1)]) (hw : wd_ G A s.heap [] H locs) : W p l e { frames := 0, cells := 0, slots := 0, locals := 0 } s m args below meth c H locs 0 0 Q (F0 m 0 ls []) := by
  have hx := hC.1
  have hb := hC.2.1
  unfold fn_X10_at at hf
  refine lv_bipush (v := 12) hx hb dX10_at_0 (by decide) ?_
  refine lv_iload_n hx hb dX10_at_2 rfl (lv_at hl 0 rfl) ?_
  refine lv_imul hx hb dX10_at_3 ?_
  refine lv_iload_n hx hb dX10_at_4 rfl (lv_at hl 1 rfl) ?_
  refine lv_iadd hx hb dX10_at_5 ?_
  have h1_ := t1_ hf
  subst h1_
  exact hret _ _ _ _ dX10_at_6 hw
set_option maxHeartbeats 4000000 in
set_option maxRecDepth 100000 in
theorem cn_X10_at (l : Launch) (G : gw_) (x0 : Int32) (x1 : Int32) (r : Int32) (hf : fn_X10_at x0 x1 = some r) : ci_ l G yX10_at cX10_at 2 (some .int) 0 0 [] [.int x0, .int x1] r [] := fun sz => met_intro (by decide) (Nat.le_of_ble_eq_true rfl) (fun p e s m args below meth c ls hsz hC hr hlk hnm hl hw => wn_X10_at hC (fun pc H locs ls hd hw => g_iret hC hr hlk hw rfl rfl hd) hf hl hw)

theorem dX10_isWalker_0 : decode cX10_isWalker 0 = .ok (.iload_n 1, 1) := by decide +kernel
theorem dX10_isWalker_1 : decode cX10_isWalker 1 = .ok (.i2l, 1) := by decide +kernel
theorem dX10_isWalker_2 : decode cX10_isWalker 2 = .ok (.lconst 0, 1) := by decide +kernel
theorem dX10_isWalker_3 : decode cX10_isWalker 3 = .ok (.ldc2_w 83, 3) := by decide +kernel
theorem dX10_isWalker_6 : decode cX10_isWalker 6 = .ok (.invokestatic 79, 3) := by decide +kernel
theorem dX10_isWalker_9 : decode cX10_isWalker 9 = .ok (.ifCond .eq 19, 3) := by decide +kernel
theorem dX10_isWalker_12 : decode cX10_isWalker 12 = .ok (.aload_n 0, 1) := by decide +kernel
theorem dX10_isWalker_13 : decode cX10_isWalker 13 = .ok (.getfield 85, 3) := by decide +kernel
theorem dX10_isWalker_16 : decode cX10_isWalker 16 = .ok (.iload_n 1, 1) := by decide +kernel
theorem dX10_isWalker_17 : decode cX10_isWalker 17 = .ok (.ishr, 1) := by decide +kernel
theorem dX10_isWalker_18 : decode cX10_isWalker 18 = .ok (.iconst 1, 1) := by decide +kernel
theorem dX10_isWalker_19 : decode cX10_isWalker 19 = .ok (.iand, 1) := by decide +kernel
theorem dX10_isWalker_20 : decode cX10_isWalker 20 = .ok (.iconst 1, 1) := by decide +kernel
theorem dX10_isWalker_21 : decode cX10_isWalker 21 = .ok (.if_icmp .ne 7, 3) := by decide +kernel
theorem dX10_isWalker_24 : decode cX10_isWalker 24 = .ok (.iconst 1, 1) := by decide +kernel
theorem dX10_isWalker_25 : decode cX10_isWalker 25 = .ok (.goto 4, 3) := by decide +kernel
theorem dX10_isWalker_28 : decode cX10_isWalker 28 = .ok (.iconst 0, 1) := by decide +kernel
theorem dX10_isWalker_29 : decode cX10_isWalker 29 = .ok (.ireturn, 1) := by decide +kernel
abbrev wl_X10_isWalker (G : gw_) (A_t : Nat) (A_t_steps : Nat) (A_t_wet : Nat) (A_t_where : Nat) (A_t_home : Nat) (A_t_light : Nat) (A_t_carries : Nat) (A_t_sightPlace : Nat) (A_t_sightLight : Nat) (A_t_pad : Nat) (A_t_act : Nat) (A_t_whose : Nat) (A_t_whom : Nat) (A_t_tens : Nat) (A_t_had : Nat) (A_t_leaves : Nat) (A_t_apart : Nat) (A_t_stop : Nat) (A_t_restOf : Nat) (A_t_group : Nat) (A_t_along : Nat) (A_t_kept : Nat) (A_t_isKept : Nat) (c_t_foggy : Int32) (c_t_walkers : Int32) (c_t_sights : Int32) (c_t_padMany : Int32) (c_t_acts : Int32) (c_t_spent : Int32) (c_t_walks : Int32) (c_t_badAct : Int32) (c_t_badWhy : Int32) (c_t_keptAt : Int32) (c_t_isWriting : Int32) : va_W := [ob_ A_t 10 [.ref A_t_steps, .ref A_t_wet, .int c_t_foggy, .int c_t_walkers, .ref A_t_where, .ref A_t_home, .ref A_t_light, .ref A_t_carries, .ref A_t_sightPlace, .ref A_t_sightLight, .int c_t_sights, .ref A_t_pad, .int c_t_padMany, .ref A_t_act, .ref A_t_whose, .ref A_t_whom, .ref A_t_tens, .int c_t_acts, .int c_t_spent, .int c_t_walks, .ref A_t_had, .ref A_t_leaves, .int c_t_badAct, .int c_t_badWhy, .ref A_t_apart, .ref A_t_stop, .ref A_t_restOf, .ref A_t_group, .ref A_t_along, .ref A_t_kept, .ref A_t_isKept, .int c_t_keptAt, .int c_t_isWriting]]
def fn_X10_isWalker (c_t_walkers : Int32) (x1 : Int32) : Option (Int32) :=
  b1_ (fn_X10_in (Int32.toInt64 x1) 0 5) fun r1 =>
  if r1 = 0 then
    some 0
  else
    if ((c_t_walkers >>> (x1 &&& 31)) &&& 1) = 1 then
      some 1
    else
      some 0
set_option maxHeartbeats 4000000 in
set_option maxRecDepth 100000 in
theorem wn_X10_isWalker {p : Program} {l : Launch} {e : Env} {s : State} {m : MethodId} {args : Array Value} {below : List Frame} {meth : Method} {c : Code} {G : gw_} {A : Nat → Prop} {Q : State → Prop} {A_t : Nat} {A_t_steps : Nat} {A_t_wet : Nat} {A_t_where : Nat} {A_t_home : Nat} {A_t_light : Nat} {A_t_carries : Nat} {A_t_sightPlace : Nat} {A_t_sightLight : Nat} {A_t_pad : Nat} {A_t_act : Nat} {A_t_whose : Nat} {A_t_whom : Nat} {A_t_tens : Nat} {A_t_had : Nat} {A_t_leaves : Nat} {A_t_apart : Nat} {A_t_stop : Nat} {A_t_restOf : Nat} {A_t_group : Nat} {A_t_along : Nat} {A_t_kept : Nat} {A_t_isKept : Nat} {c_t_foggy : Int32} {c_t_walkers : Int32} {c_t_sights : Int32} {c_t_padMany : Int32} {c_t_acts : Int32} {c_t_spent : Int32} {c_t_walks : Int32} {c_t_badAct : Int32} {c_t_badWhy : Int32} {c_t_keptAt : Int32} {c_t_isWriting : Int32} {r : Int32} {x1 : Int32} (hC : cx_ p s m c G cX10_isWalker 2 RX10) (hret : ∀ (pc : Nat) (H : Heap) (locs : List Loc) (ls : Array Slot), narrow .boolean (.int r) = .int r → decode cX10_isWalker pc = .ok (.ireturn, 1) → wd_ G A s.heap (wl_X10_isWalker G A_t A_t_steps A_t_wet A_t_where A_t_home A_t_light A_t_carries A_t_sightPlace A_t_sightLight A_t_pad A_t_act A_t_whose A_t_whom A_t_tens A_t_had A_t_leaves A_t_apart A_t_stop A_t_restOf A_t_group A_t_along A_t_kept A_t_isKept c_t_foggy c_t_walkers c_t_sights c_t_padMany c_t_acts c_t_spent c_t_walks c_t_badAct c_t_badWhy c_t_keptAt c_t_isWriting) H locs → W p l e { frames := 1, cells := 0, slots := 0, locals := 25 } s m args below meth c H locs 0 0 Q (F0 m pc ls [.int r])) (hf : fn_X10_isWalker c_t_walkers x1 = some r) {H : Heap} {locs : List Loc} {ls : Array Slot} (hl : lv_has ls 2 [(0, .ref A_t), (1, .int x1)]) (hw : wd_ G A s.heap (wl_X10_isWalker G A_t A_t_steps A_t_wet A_t_where A_t_home A_t_light A_t_carries A_t_sightPlace A_t_sightLight A_t_pad A_t_act A_t_whose A_t_whom A_t_tens A_t_had A_t_leaves A_t_apart A_t_stop A_t_restOf A_t_group A_t_along A_t_kept A_t_isKept c_t_foggy c_t_walkers c_t_sights c_t_padMany c_t_acts c_t_spent c_t_walks c_t_badAct c_t_badWhy c_t_keptAt c_t_isWriting) H locs) : W p l e { frames := 1, cells := 0, slots := 0, locals := 25 } s m args below meth c H locs 0 0 Q (F0 m 0 ls []) := by
  have hx := hC.1
  have hb := hC.2.1
  unfold fn_X10_isWalker at hf
  refine lv_iload_n hx hb dX10_isWalker_0 rfl (lv_at hl 1 rfl) ?_
  refine lv_i2l hx hb dX10_isWalker_1 rfl ?_
  refine lv_lconst (v := 0) hx hb dX10_isWalker_2 (by decide) ?_
  refine g_ldc2 (v := 5) hC (tb4 122 rfl rfl) dX10_isWalker_3 ?_
  obtain ⟨r1, hq2, hf⟩ := b1_s hf
  refine h_cSi hC hw msX10_79 (cn_X10_in l G (Int32.toInt64 x1) 0 5 r1 hq2) [] rfl (by decide) rfl hl.1 rfl (Nat.le_of_ble_eq_true rfl) ⟨Nat.le_of_ble_eq_true rfl, Nat.le_of_ble_eq_true rfl⟩ ⟨Nat.le_refl _, Nat.le_refl _⟩ dX10_isWalker_6 (fun H locs hw => ?_)
  refine lv_if_eq (tgt := 28) hx hb dX10_isWalker_9 (by decide) (fun hc => ?_) (fun hc => ?_)
  · replace hf := it_t hc hf
    refine lv_iconst (v := 0) hx hb dX10_isWalker_28 (by decide) ?_
    have h1_ := t1_ hf
    subst h1_
    exact hret _ _ _ _ rfl dX10_isWalker_29 hw
  · replace hf := it_f hc hf
    refine lv_aload_n hx hb dX10_isWalker_12 rfl (lv_at hl 0 rfl) ?_
    refine g_get hC hw fkX10_85 0 rfl rfl dX10_isWalker_13 ?_
    refine lv_iload_n hx hb dX10_isWalker_16 rfl (lv_at hl 1 rfl) ?_
    refine lv_ishr hx hb dX10_isWalker_17 ?_
    refine lv_iconst (v := 1) hx hb dX10_isWalker_18 (by decide) ?_
    refine lv_iand hx hb dX10_isWalker_19 ?_
    refine lv_iconst (v := 1) hx hb dX10_isWalker_20 (by decide) ?_
    refine lv_icmp_ne (tgt := 28) hx hb dX10_isWalker_21 (by decide) (fun hc => ?_) (fun hc => ?_)
    · replace hf := it_f hc hf
      refine lv_iconst (v := 0) hx hb dX10_isWalker_28 (by decide) ?_
      have h1_ := t1_ hf
      subst h1_
      exact hret _ _ _ _ rfl dX10_isWalker_29 hw
    · replace hf := it_t hc hf
      refine lv_iconst (v := 1) hx hb dX10_isWalker_24 (by decide) ?_
      refine lv_goto (tgt := 29) hx hb dX10_isWalker_25 (by decide) ?_
      have h1_ := t1_ hf
      subst h1_
      exact hret _ _ _ _ rfl dX10_isWalker_29 hw
set_option maxHeartbeats 4000000 in
set_option maxRecDepth 100000 in
theorem cn_X10_isWalker (l : Launch) (G : gw_) (A_t : Nat) (A_t_steps : Nat) (A_t_wet : Nat) (A_t_where : Nat) (A_t_home : Nat) (A_t_light : Nat) (A_t_carries : Nat) (A_t_sightPlace : Nat) (A_t_sightLight : Nat) (A_t_pad : Nat) (A_t_act : Nat) (A_t_whose : Nat) (A_t_whom : Nat) (A_t_tens : Nat) (A_t_had : Nat) (A_t_leaves : Nat) (A_t_apart : Nat) (A_t_stop : Nat) (A_t_restOf : Nat) (A_t_group : Nat) (A_t_along : Nat) (A_t_kept : Nat) (A_t_isKept : Nat) (c_t_foggy : Int32) (c_t_walkers : Int32) (c_t_sights : Int32) (c_t_padMany : Int32) (c_t_acts : Int32) (c_t_spent : Int32) (c_t_walks : Int32) (c_t_badAct : Int32) (c_t_badWhy : Int32) (c_t_keptAt : Int32) (c_t_isWriting : Int32) (x1 : Int32) (r : Int32) (hf : fn_X10_isWalker c_t_walkers x1 = some r) : ci_ l G yX10_isWalker cX10_isWalker 2 (some .boolean) 1 25 (wl_X10_isWalker G A_t A_t_steps A_t_wet A_t_where A_t_home A_t_light A_t_carries A_t_sightPlace A_t_sightLight A_t_pad A_t_act A_t_whose A_t_whom A_t_tens A_t_had A_t_leaves A_t_apart A_t_stop A_t_restOf A_t_group A_t_along A_t_kept A_t_isKept c_t_foggy c_t_walkers c_t_sights c_t_padMany c_t_acts c_t_spent c_t_walks c_t_badAct c_t_badWhy c_t_keptAt c_t_isWriting) [.ref A_t, .int x1] r (wl_X10_isWalker G A_t A_t_steps A_t_wet A_t_where A_t_home A_t_light A_t_carries A_t_sightPlace A_t_sightLight A_t_pad A_t_act A_t_whose A_t_whom A_t_tens A_t_had A_t_leaves A_t_apart A_t_stop A_t_restOf A_t_group A_t_along A_t_kept A_t_isKept c_t_foggy c_t_walkers c_t_sights c_t_padMany c_t_acts c_t_spent c_t_walks c_t_badAct c_t_badWhy c_t_keptAt c_t_isWriting) := fun sz => met_intro (by decide) (Nat.le_of_ble_eq_true rfl) (fun p e s m args below meth c ls hsz hC hr hlk hnm hl hw => wn_X10_isWalker hC (fun pc H locs ls hn hd hw => g_iret hC hr hlk hw rfl hn hd) hf hl hw)

theorem dX10_costIn_0 : decode cX10_costIn 0 = .ok (.aload_n 0, 1) := by decide +kernel
theorem dX10_costIn_1 : decode cX10_costIn 1 = .ok (.getfield 7, 3) := by decide +kernel
theorem dX10_costIn_4 : decode cX10_costIn 4 = .ok (.iload_n 1, 1) := by decide +kernel
theorem dX10_costIn_5 : decode cX10_costIn 5 = .ok (.iload_n 2, 1) := by decide +kernel
theorem dX10_costIn_6 : decode cX10_costIn 6 = .ok (.invokestatic 89, 3) := by decide +kernel
theorem dX10_costIn_9 : decode cX10_costIn 9 = .ok (.iaload, 1) := by decide +kernel
theorem dX10_costIn_10 : decode cX10_costIn 10 = .ok (.istore 4, 2) := by decide +kernel
theorem dX10_costIn_12 : decode cX10_costIn 12 = .ok (.iload 4, 2) := by decide +kernel
theorem dX10_costIn_14 : decode cX10_costIn 14 = .ok (.ifCond .ne 8, 3) := by decide +kernel
theorem dX10_costIn_17 : decode cX10_costIn 17 = .ok (.bipush (-6), 2) := by decide +kernel
theorem dX10_costIn_19 : decode cX10_costIn 19 = .ok (.goto 22, 3) := by decide +kernel
theorem dX10_costIn_22 : decode cX10_costIn 22 = .ok (.iload 4, 2) := by decide +kernel
theorem dX10_costIn_24 : decode cX10_costIn 24 = .ok (.aload_n 0, 1) := by decide +kernel
theorem dX10_costIn_25 : decode cX10_costIn 25 = .ok (.getfield 13, 3) := by decide +kernel
theorem dX10_costIn_28 : decode cX10_costIn 28 = .ok (.iload_n 1, 1) := by decide +kernel
theorem dX10_costIn_29 : decode cX10_costIn 29 = .ok (.iload_n 2, 1) := by decide +kernel
theorem dX10_costIn_30 : decode cX10_costIn 30 = .ok (.invokestatic 89, 3) := by decide +kernel
theorem dX10_costIn_33 : decode cX10_costIn 33 = .ok (.iaload, 1) := by decide +kernel
theorem dX10_costIn_34 : decode cX10_costIn 34 = .ok (.iconst 1, 1) := by decide +kernel
theorem dX10_costIn_35 : decode cX10_costIn 35 = .ok (.iadd, 1) := by decide +kernel
theorem dX10_costIn_36 : decode cX10_costIn 36 = .ok (.imul, 1) := by decide +kernel
theorem dX10_costIn_37 : decode cX10_costIn 37 = .ok (.iload_n 3, 1) := by decide +kernel
theorem dX10_costIn_38 : decode cX10_costIn 38 = .ok (.iconst 1, 1) := by decide +kernel
theorem dX10_costIn_39 : decode cX10_costIn 39 = .ok (.iadd, 1) := by decide +kernel
theorem dX10_costIn_40 : decode cX10_costIn 40 = .ok (.imul, 1) := by decide +kernel
theorem dX10_costIn_41 : decode cX10_costIn 41 = .ok (.ireturn, 1) := by decide +kernel
abbrev wl_X10_costIn (G : gw_) (A_t : Nat) (A_t_steps : Nat) (A_t_wet : Nat) (A_t_where : Nat) (A_t_home : Nat) (A_t_light : Nat) (A_t_carries : Nat) (A_t_sightPlace : Nat) (A_t_sightLight : Nat) (A_t_pad : Nat) (A_t_act : Nat) (A_t_whose : Nat) (A_t_whom : Nat) (A_t_tens : Nat) (A_t_had : Nat) (A_t_leaves : Nat) (A_t_apart : Nat) (A_t_stop : Nat) (A_t_restOf : Nat) (A_t_group : Nat) (A_t_along : Nat) (A_t_kept : Nat) (A_t_isKept : Nat) (c_t_foggy : Int32) (c_t_walkers : Int32) (c_t_sights : Int32) (c_t_padMany : Int32) (c_t_acts : Int32) (c_t_spent : Int32) (c_t_walks : Int32) (c_t_badAct : Int32) (c_t_badWhy : Int32) (c_t_keptAt : Int32) (c_t_isWriting : Int32) (c_t_steps : Nat → Int32) (c_t_wet : Nat → Int32) : va_W := [ob_ A_t 10 [.ref A_t_steps, .ref A_t_wet, .int c_t_foggy, .int c_t_walkers, .ref A_t_where, .ref A_t_home, .ref A_t_light, .ref A_t_carries, .ref A_t_sightPlace, .ref A_t_sightLight, .int c_t_sights, .ref A_t_pad, .int c_t_padMany, .ref A_t_act, .ref A_t_whose, .ref A_t_whom, .ref A_t_tens, .int c_t_acts, .int c_t_spent, .int c_t_walks, .ref A_t_had, .ref A_t_leaves, .int c_t_badAct, .int c_t_badWhy, .ref A_t_apart, .ref A_t_stop, .ref A_t_restOf, .ref A_t_group, .ref A_t_along, .ref A_t_kept, .ref A_t_isKept, .int c_t_keptAt, .int c_t_isWriting], ia_ G A_t_steps 144 c_t_steps, ia_ G A_t_wet 144 c_t_wet]
def fn_X10_costIn (c_t_steps : Nat → Int32) (c_t_wet : Nat → Int32) (x1 : Int32) (x2 : Int32) (x3 : Int32) : Option (Int32) :=
  b1_ (fn_X10_at x1 x2) fun r1 =>
  ck_ r1 144 <|
  lx_ (c_t_steps (Int32.toNatClampNeg r1)) fun y3 =>
  if y3 = 0 then
    some (-6)
  else
    b1_ (fn_X10_at x1 x2) fun r4 =>
    ck_ r4 144 <|
    some ((y3 * ((c_t_wet (Int32.toNatClampNeg r4)) + 1)) * (x3 + 1))
set_option maxHeartbeats 4000000 in
set_option maxRecDepth 100000 in
theorem wn_X10_costIn {p : Program} {l : Launch} {e : Env} {s : State} {m : MethodId} {args : Array Value} {below : List Frame} {meth : Method} {c : Code} {G : gw_} {A : Nat → Prop} {Q : State → Prop} {A_t : Nat} {A_t_steps : Nat} {A_t_wet : Nat} {A_t_where : Nat} {A_t_home : Nat} {A_t_light : Nat} {A_t_carries : Nat} {A_t_sightPlace : Nat} {A_t_sightLight : Nat} {A_t_pad : Nat} {A_t_act : Nat} {A_t_whose : Nat} {A_t_whom : Nat} {A_t_tens : Nat} {A_t_had : Nat} {A_t_leaves : Nat} {A_t_apart : Nat} {A_t_stop : Nat} {A_t_restOf : Nat} {A_t_group : Nat} {A_t_along : Nat} {A_t_kept : Nat} {A_t_isKept : Nat} {c_t_foggy : Int32} {c_t_walkers : Int32} {c_t_sights : Int32} {c_t_padMany : Int32} {c_t_acts : Int32} {c_t_spent : Int32} {c_t_walks : Int32} {c_t_badAct : Int32} {c_t_badWhy : Int32} {c_t_keptAt : Int32} {c_t_isWriting : Int32} {c_t_steps : Nat → Int32} {c_t_wet : Nat → Int32} {r : Int32} {x1 : Int32} {x2 : Int32} {x3 : Int32} (hC : cx_ p s m c G cX10_costIn 5 RX10) (hret : ∀ (pc : Nat) (H : Heap) (locs : List Loc) (ls : Array Slot), decode cX10_costIn pc = .ok (.ireturn, 1) → wd_ G A s.heap (wl_X10_costIn G A_t A_t_steps A_t_wet A_t_where A_t_home A_t_light A_t_carries A_t_sightPlace A_t_sightLight A_t_pad A_t_act A_t_whose A_t_whom A_t_tens A_t_had A_t_leaves A_t_apart A_t_stop A_t_restOf A_t_group A_t_along A_t_kept A_t_isKept c_t_foggy c_t_walkers c_t_sights c_t_padMany c_t_acts c_t_spent c_t_walks c_t_badAct c_t_badWhy c_t_keptAt c_t_isWriting c_t_steps c_t_wet) H locs → W p l e { frames := 1, cells := 0, slots := 0, locals := 21 } s m args below meth c H locs 0 0 Q (F0 m pc ls [.int r])) (hf : fn_X10_costIn c_t_steps c_t_wet x1 x2 x3 = some r) {H : Heap} {locs : List Loc} {ls : Array Slot} (hl : lv_has ls 5 [(0, .ref A_t), (1, .int x1), (2, .int x2), (3, .int x3)]) (hw : wd_ G A s.heap (wl_X10_costIn G A_t A_t_steps A_t_wet A_t_where A_t_home A_t_light A_t_carries A_t_sightPlace A_t_sightLight A_t_pad A_t_act A_t_whose A_t_whom A_t_tens A_t_had A_t_leaves A_t_apart A_t_stop A_t_restOf A_t_group A_t_along A_t_kept A_t_isKept c_t_foggy c_t_walkers c_t_sights c_t_padMany c_t_acts c_t_spent c_t_walks c_t_badAct c_t_badWhy c_t_keptAt c_t_isWriting c_t_steps c_t_wet) H locs) : W p l e { frames := 1, cells := 0, slots := 0, locals := 21 } s m args below meth c H locs 0 0 Q (F0 m 0 ls []) := by
  have hx := hC.1
  have hb := hC.2.1
  unfold fn_X10_costIn at hf
  refine lv_aload_n hx hb dX10_costIn_0 rfl (lv_at hl 0 rfl) ?_
  refine g_get hC hw fkX10_7 0 rfl rfl dX10_costIn_1 ?_
  refine lv_iload_n hx hb dX10_costIn_4 rfl (lv_at hl 1 rfl) ?_
  refine lv_iload_n hx hb dX10_costIn_5 rfl (lv_at hl 2 rfl) ?_
  obtain ⟨r1, hq2, hf⟩ := b1_s hf
  refine h_cSi hC hw msX10_89 (cn_X10_at l G x1 x2 r1 hq2) [] rfl (by decide) rfl hl.1 rfl (Nat.le_of_ble_eq_true rfl) ⟨Nat.le_of_ble_eq_true rfl, Nat.le_of_ble_eq_true rfl⟩ ⟨Nat.le_refl _, Nat.le_refl _⟩ dX10_costIn_6 (fun H locs hw => ?_)
  obtain ⟨hi, hf⟩ := ck_s hf
  refine g_iald hC hw 1 rfl hi dX10_costIn_9 ?_
  obtain ⟨y3, ey3, hf⟩ := lx_s hf
  rw [← ey3]
  refine lv_istore (lv' := [(4, .int y3), (0, .ref A_t), (1, .int x1), (2, .int x2), (3, .int x3)]) hx hb dX10_costIn_10 hl (by decide) rfl (fun ls hl => ?_)
  refine lv_iload hx hb dX10_costIn_12 (lv_at hl 0 rfl) ?_
  refine lv_if_ne (tgt := 22) hx hb dX10_costIn_14 (by decide) (fun hc => ?_) (fun hc => ?_)
  · replace hf := it_f hc hf
    refine lv_iload hx hb dX10_costIn_22 (lv_at hl 0 rfl) ?_
    refine lv_aload_n hx hb dX10_costIn_24 rfl (lv_at hl 1 rfl) ?_
    refine g_get hC hw fkX10_13 0 rfl rfl dX10_costIn_25 ?_
    refine lv_iload_n hx hb dX10_costIn_28 rfl (lv_at hl 2 rfl) ?_
    refine lv_iload_n hx hb dX10_costIn_29 rfl (lv_at hl 3 rfl) ?_
    obtain ⟨r4, hq5, hf⟩ := b1_s hf
    refine h_cSi hC hw msX10_89 (cn_X10_at l G x1 x2 r4 hq5) [] rfl (by decide) rfl hl.1 rfl (Nat.le_of_ble_eq_true rfl) ⟨Nat.le_of_ble_eq_true rfl, Nat.le_of_ble_eq_true rfl⟩ ⟨Nat.le_refl _, Nat.le_refl _⟩ dX10_costIn_30 (fun H locs hw => ?_)
    obtain ⟨hi, hf⟩ := ck_s hf
    refine g_iald hC hw 2 rfl hi dX10_costIn_33 ?_
    refine lv_iconst (v := 1) hx hb dX10_costIn_34 (by decide) ?_
    refine lv_iadd hx hb dX10_costIn_35 ?_
    refine lv_imul hx hb dX10_costIn_36 ?_
    refine lv_iload_n hx hb dX10_costIn_37 rfl (lv_at hl 4 rfl) ?_
    refine lv_iconst (v := 1) hx hb dX10_costIn_38 (by decide) ?_
    refine lv_iadd hx hb dX10_costIn_39 ?_
    refine lv_imul hx hb dX10_costIn_40 ?_
    have h1_ := t1_ hf
    subst h1_
    exact hret _ _ _ _ dX10_costIn_41 hw
  · replace hf := it_t hc hf
    refine lv_bipush (v := (-6)) hx hb dX10_costIn_17 (by decide) ?_
    refine lv_goto (tgt := 41) hx hb dX10_costIn_19 (by decide) ?_
    have h1_ := t1_ hf
    subst h1_
    exact hret _ _ _ _ dX10_costIn_41 hw
set_option maxHeartbeats 4000000 in
set_option maxRecDepth 100000 in
theorem cn_X10_costIn (l : Launch) (G : gw_) (A_t : Nat) (A_t_steps : Nat) (A_t_wet : Nat) (A_t_where : Nat) (A_t_home : Nat) (A_t_light : Nat) (A_t_carries : Nat) (A_t_sightPlace : Nat) (A_t_sightLight : Nat) (A_t_pad : Nat) (A_t_act : Nat) (A_t_whose : Nat) (A_t_whom : Nat) (A_t_tens : Nat) (A_t_had : Nat) (A_t_leaves : Nat) (A_t_apart : Nat) (A_t_stop : Nat) (A_t_restOf : Nat) (A_t_group : Nat) (A_t_along : Nat) (A_t_kept : Nat) (A_t_isKept : Nat) (c_t_foggy : Int32) (c_t_walkers : Int32) (c_t_sights : Int32) (c_t_padMany : Int32) (c_t_acts : Int32) (c_t_spent : Int32) (c_t_walks : Int32) (c_t_badAct : Int32) (c_t_badWhy : Int32) (c_t_keptAt : Int32) (c_t_isWriting : Int32) (c_t_steps : Nat → Int32) (c_t_wet : Nat → Int32) (x1 : Int32) (x2 : Int32) (x3 : Int32) (r : Int32) (hf : fn_X10_costIn c_t_steps c_t_wet x1 x2 x3 = some r) : ci_ l G yX10_costIn cX10_costIn 5 (some .int) 1 21 (wl_X10_costIn G A_t A_t_steps A_t_wet A_t_where A_t_home A_t_light A_t_carries A_t_sightPlace A_t_sightLight A_t_pad A_t_act A_t_whose A_t_whom A_t_tens A_t_had A_t_leaves A_t_apart A_t_stop A_t_restOf A_t_group A_t_along A_t_kept A_t_isKept c_t_foggy c_t_walkers c_t_sights c_t_padMany c_t_acts c_t_spent c_t_walks c_t_badAct c_t_badWhy c_t_keptAt c_t_isWriting c_t_steps c_t_wet) [.ref A_t, .int x1, .int x2, .int x3] r (wl_X10_costIn G A_t A_t_steps A_t_wet A_t_where A_t_home A_t_light A_t_carries A_t_sightPlace A_t_sightLight A_t_pad A_t_act A_t_whose A_t_whom A_t_tens A_t_had A_t_leaves A_t_apart A_t_stop A_t_restOf A_t_group A_t_along A_t_kept A_t_isKept c_t_foggy c_t_walkers c_t_sights c_t_padMany c_t_acts c_t_spent c_t_walks c_t_badAct c_t_badWhy c_t_keptAt c_t_isWriting c_t_steps c_t_wet) := fun sz => met_intro (by decide) (Nat.le_of_ble_eq_true rfl) (fun p e s m args below meth c ls hsz hC hr hlk hnm hl hw => wn_X10_costIn hC (fun pc H locs ls hd hw => g_iret hC hr hlk hw rfl rfl hd) hf hl hw)

theorem dX10_cost_0 : decode cX10_cost 0 = .ok (.aload_n 0, 1) := by decide +kernel
theorem dX10_cost_1 : decode cX10_cost 1 = .ok (.iload_n 1, 1) := by decide +kernel
theorem dX10_cost_2 : decode cX10_cost 2 = .ok (.iload_n 2, 1) := by decide +kernel
theorem dX10_cost_3 : decode cX10_cost 3 = .ok (.aload_n 0, 1) := by decide +kernel
theorem dX10_cost_4 : decode cX10_cost 4 = .ok (.getfield 93, 3) := by decide +kernel
theorem dX10_cost_7 : decode cX10_cost 7 = .ok (.invokevirtual 96, 3) := by decide +kernel
theorem dX10_cost_10 : decode cX10_cost 10 = .ok (.ireturn, 1) := by decide +kernel
abbrev wl_X10_cost (G : gw_) (A_t : Nat) (A_t_steps : Nat) (A_t_wet : Nat) (A_t_where : Nat) (A_t_home : Nat) (A_t_light : Nat) (A_t_carries : Nat) (A_t_sightPlace : Nat) (A_t_sightLight : Nat) (A_t_pad : Nat) (A_t_act : Nat) (A_t_whose : Nat) (A_t_whom : Nat) (A_t_tens : Nat) (A_t_had : Nat) (A_t_leaves : Nat) (A_t_apart : Nat) (A_t_stop : Nat) (A_t_restOf : Nat) (A_t_group : Nat) (A_t_along : Nat) (A_t_kept : Nat) (A_t_isKept : Nat) (c_t_foggy : Int32) (c_t_walkers : Int32) (c_t_sights : Int32) (c_t_padMany : Int32) (c_t_acts : Int32) (c_t_spent : Int32) (c_t_walks : Int32) (c_t_badAct : Int32) (c_t_badWhy : Int32) (c_t_keptAt : Int32) (c_t_isWriting : Int32) (c_t_steps : Nat → Int32) (c_t_wet : Nat → Int32) : va_W := [ob_ A_t 10 [.ref A_t_steps, .ref A_t_wet, .int c_t_foggy, .int c_t_walkers, .ref A_t_where, .ref A_t_home, .ref A_t_light, .ref A_t_carries, .ref A_t_sightPlace, .ref A_t_sightLight, .int c_t_sights, .ref A_t_pad, .int c_t_padMany, .ref A_t_act, .ref A_t_whose, .ref A_t_whom, .ref A_t_tens, .int c_t_acts, .int c_t_spent, .int c_t_walks, .ref A_t_had, .ref A_t_leaves, .int c_t_badAct, .int c_t_badWhy, .ref A_t_apart, .ref A_t_stop, .ref A_t_restOf, .ref A_t_group, .ref A_t_along, .ref A_t_kept, .ref A_t_isKept, .int c_t_keptAt, .int c_t_isWriting], ia_ G A_t_steps 144 c_t_steps, ia_ G A_t_wet 144 c_t_wet]
def fn_X10_cost (c_t_foggy : Int32) (c_t_steps : Nat → Int32) (c_t_wet : Nat → Int32) (x1 : Int32) (x2 : Int32) : Option (Int32) :=
  b1_ (fn_X10_costIn c_t_steps c_t_wet x1 x2 c_t_foggy) fun r1 =>
  some r1
set_option maxHeartbeats 4000000 in
set_option maxRecDepth 100000 in
theorem wn_X10_cost {p : Program} {l : Launch} {e : Env} {s : State} {m : MethodId} {args : Array Value} {below : List Frame} {meth : Method} {c : Code} {G : gw_} {A : Nat → Prop} {Q : State → Prop} {A_t : Nat} {A_t_steps : Nat} {A_t_wet : Nat} {A_t_where : Nat} {A_t_home : Nat} {A_t_light : Nat} {A_t_carries : Nat} {A_t_sightPlace : Nat} {A_t_sightLight : Nat} {A_t_pad : Nat} {A_t_act : Nat} {A_t_whose : Nat} {A_t_whom : Nat} {A_t_tens : Nat} {A_t_had : Nat} {A_t_leaves : Nat} {A_t_apart : Nat} {A_t_stop : Nat} {A_t_restOf : Nat} {A_t_group : Nat} {A_t_along : Nat} {A_t_kept : Nat} {A_t_isKept : Nat} {c_t_foggy : Int32} {c_t_walkers : Int32} {c_t_sights : Int32} {c_t_padMany : Int32} {c_t_acts : Int32} {c_t_spent : Int32} {c_t_walks : Int32} {c_t_badAct : Int32} {c_t_badWhy : Int32} {c_t_keptAt : Int32} {c_t_isWriting : Int32} {c_t_steps : Nat → Int32} {c_t_wet : Nat → Int32} {r : Int32} {x1 : Int32} {x2 : Int32} (hC : cx_ p s m c G cX10_cost 3 RX10) (hret : ∀ (pc : Nat) (H : Heap) (locs : List Loc) (ls : Array Slot), decode cX10_cost pc = .ok (.ireturn, 1) → wd_ G A s.heap (wl_X10_cost G A_t A_t_steps A_t_wet A_t_where A_t_home A_t_light A_t_carries A_t_sightPlace A_t_sightLight A_t_pad A_t_act A_t_whose A_t_whom A_t_tens A_t_had A_t_leaves A_t_apart A_t_stop A_t_restOf A_t_group A_t_along A_t_kept A_t_isKept c_t_foggy c_t_walkers c_t_sights c_t_padMany c_t_acts c_t_spent c_t_walks c_t_badAct c_t_badWhy c_t_keptAt c_t_isWriting c_t_steps c_t_wet) H locs → W p l e { frames := 2, cells := 0, slots := 0, locals := 45 } s m args below meth c H locs 0 0 Q (F0 m pc ls [.int r])) (hf : fn_X10_cost c_t_foggy c_t_steps c_t_wet x1 x2 = some r) {H : Heap} {locs : List Loc} {ls : Array Slot} (hl : lv_has ls 3 [(0, .ref A_t), (1, .int x1), (2, .int x2)]) (hw : wd_ G A s.heap (wl_X10_cost G A_t A_t_steps A_t_wet A_t_where A_t_home A_t_light A_t_carries A_t_sightPlace A_t_sightLight A_t_pad A_t_act A_t_whose A_t_whom A_t_tens A_t_had A_t_leaves A_t_apart A_t_stop A_t_restOf A_t_group A_t_along A_t_kept A_t_isKept c_t_foggy c_t_walkers c_t_sights c_t_padMany c_t_acts c_t_spent c_t_walks c_t_badAct c_t_badWhy c_t_keptAt c_t_isWriting c_t_steps c_t_wet) H locs) : W p l e { frames := 2, cells := 0, slots := 0, locals := 45 } s m args below meth c H locs 0 0 Q (F0 m 0 ls []) := by
  have hx := hC.1
  have hb := hC.2.1
  unfold fn_X10_cost at hf
  refine lv_aload_n hx hb dX10_cost_0 rfl (lv_at hl 0 rfl) ?_
  refine lv_iload_n hx hb dX10_cost_1 rfl (lv_at hl 1 rfl) ?_
  refine lv_iload_n hx hb dX10_cost_2 rfl (lv_at hl 2 rfl) ?_
  refine lv_aload_n hx hb dX10_cost_3 rfl (lv_at hl 0 rfl) ?_
  refine g_get hC hw fkX10_93 0 rfl rfl dX10_cost_4 ?_
  obtain ⟨r1, hq2, hf⟩ := b1_s hf
  refine h_cVi hC hw mvX10_96 (cn_X10_costIn l G A_t A_t_steps A_t_wet A_t_where A_t_home A_t_light A_t_carries A_t_sightPlace A_t_sightLight A_t_pad A_t_act A_t_whose A_t_whom A_t_tens A_t_had A_t_leaves A_t_apart A_t_stop A_t_restOf A_t_group A_t_along A_t_kept A_t_isKept c_t_foggy c_t_walkers c_t_sights c_t_padMany c_t_acts c_t_spent c_t_walks c_t_badAct c_t_badWhy c_t_keptAt c_t_isWriting c_t_steps c_t_wet x1 x2 c_t_foggy r1 hq2) [0, 1, 2] rfl (by decide) 0 rfl rfl rfl hl.1 rfl (Nat.le_of_ble_eq_true rfl) ⟨Nat.le_of_ble_eq_true rfl, Nat.le_of_ble_eq_true rfl⟩ ⟨Nat.le_refl _, Nat.le_refl _⟩ dX10_cost_7 (fun H locs hw => ?_)
  have h1_ := t1_ hf
  subst h1_
  exact hret _ _ _ _ dX10_cost_10 hw
set_option maxHeartbeats 4000000 in
set_option maxRecDepth 100000 in
theorem cn_X10_cost (l : Launch) (G : gw_) (A_t : Nat) (A_t_steps : Nat) (A_t_wet : Nat) (A_t_where : Nat) (A_t_home : Nat) (A_t_light : Nat) (A_t_carries : Nat) (A_t_sightPlace : Nat) (A_t_sightLight : Nat) (A_t_pad : Nat) (A_t_act : Nat) (A_t_whose : Nat) (A_t_whom : Nat) (A_t_tens : Nat) (A_t_had : Nat) (A_t_leaves : Nat) (A_t_apart : Nat) (A_t_stop : Nat) (A_t_restOf : Nat) (A_t_group : Nat) (A_t_along : Nat) (A_t_kept : Nat) (A_t_isKept : Nat) (c_t_foggy : Int32) (c_t_walkers : Int32) (c_t_sights : Int32) (c_t_padMany : Int32) (c_t_acts : Int32) (c_t_spent : Int32) (c_t_walks : Int32) (c_t_badAct : Int32) (c_t_badWhy : Int32) (c_t_keptAt : Int32) (c_t_isWriting : Int32) (c_t_steps : Nat → Int32) (c_t_wet : Nat → Int32) (x1 : Int32) (x2 : Int32) (r : Int32) (hf : fn_X10_cost c_t_foggy c_t_steps c_t_wet x1 x2 = some r) : ci_ l G yX10_cost cX10_cost 3 (some .int) 2 45 (wl_X10_cost G A_t A_t_steps A_t_wet A_t_where A_t_home A_t_light A_t_carries A_t_sightPlace A_t_sightLight A_t_pad A_t_act A_t_whose A_t_whom A_t_tens A_t_had A_t_leaves A_t_apart A_t_stop A_t_restOf A_t_group A_t_along A_t_kept A_t_isKept c_t_foggy c_t_walkers c_t_sights c_t_padMany c_t_acts c_t_spent c_t_walks c_t_badAct c_t_badWhy c_t_keptAt c_t_isWriting c_t_steps c_t_wet) [.ref A_t, .int x1, .int x2] r (wl_X10_cost G A_t A_t_steps A_t_wet A_t_where A_t_home A_t_light A_t_carries A_t_sightPlace A_t_sightLight A_t_pad A_t_act A_t_whose A_t_whom A_t_tens A_t_had A_t_leaves A_t_apart A_t_stop A_t_restOf A_t_group A_t_along A_t_kept A_t_isKept c_t_foggy c_t_walkers c_t_sights c_t_padMany c_t_acts c_t_spent c_t_walks c_t_badAct c_t_badWhy c_t_keptAt c_t_isWriting c_t_steps c_t_wet) := fun sz => met_intro (by decide) (Nat.le_of_ble_eq_true rfl) (fun p e s m args below meth c ls hsz hC hr hlk hnm hl hw => wn_X10_cost hC (fun pc H locs ls hd hw => g_iret hC hr hlk hw rfl rfl hd) hf hl hw)

theorem dX10_plank_0 : decode cX10_plank 0 = .ok (.iload_n 1, 1) := by decide +kernel
theorem dX10_plank_1 : decode cX10_plank 1 = .ok (.invokestatic 100, 3) := by decide +kernel
theorem dX10_plank_4 : decode cX10_plank 4 = .ok (.ifCond .eq 15, 3) := by decide +kernel
theorem dX10_plank_7 : decode cX10_plank 7 = .ok (.iload_n 2, 1) := by decide +kernel
theorem dX10_plank_8 : decode cX10_plank 8 = .ok (.invokestatic 100, 3) := by decide +kernel
theorem dX10_plank_11 : decode cX10_plank 11 = .ok (.ifCond .eq 8, 3) := by decide +kernel
theorem dX10_plank_14 : decode cX10_plank 14 = .ok (.iload_n 1, 1) := by decide +kernel
theorem dX10_plank_15 : decode cX10_plank 15 = .ok (.iload_n 2, 1) := by decide +kernel
theorem dX10_plank_16 : decode cX10_plank 16 = .ok (.if_icmp .ne 5, 3) := by decide +kernel
theorem dX10_plank_19 : decode cX10_plank 19 = .ok (.iconst (-1), 1) := by decide +kernel
theorem dX10_plank_20 : decode cX10_plank 20 = .ok (.ireturn, 1) := by decide +kernel
theorem dX10_plank_21 : decode cX10_plank 21 = .ok (.iload_n 3, 1) := by decide +kernel
theorem dX10_plank_22 : decode cX10_plank 22 = .ok (.i2l, 1) := by decide +kernel
theorem dX10_plank_23 : decode cX10_plank 23 = .ok (.lconst 0, 1) := by decide +kernel
theorem dX10_plank_24 : decode cX10_plank 24 = .ok (.ldc2_w 104, 3) := by decide +kernel
theorem dX10_plank_27 : decode cX10_plank 27 = .ok (.invokestatic 79, 3) := by decide +kernel
theorem dX10_plank_30 : decode cX10_plank 30 = .ok (.ifCond .ne 6, 3) := by decide +kernel
theorem dX10_plank_33 : decode cX10_plank 33 = .ok (.bipush (-2), 2) := by decide +kernel
theorem dX10_plank_35 : decode cX10_plank 35 = .ok (.ireturn, 1) := by decide +kernel
theorem dX10_plank_36 : decode cX10_plank 36 = .ok (.aload_n 0, 1) := by decide +kernel
theorem dX10_plank_37 : decode cX10_plank 37 = .ok (.getfield 7, 3) := by decide +kernel
theorem dX10_plank_40 : decode cX10_plank 40 = .ok (.iload_n 1, 1) := by decide +kernel
theorem dX10_plank_41 : decode cX10_plank 41 = .ok (.iload_n 2, 1) := by decide +kernel
theorem dX10_plank_42 : decode cX10_plank 42 = .ok (.invokestatic 89, 3) := by decide +kernel
theorem dX10_plank_45 : decode cX10_plank 45 = .ok (.iaload, 1) := by decide +kernel
theorem dX10_plank_46 : decode cX10_plank 46 = .ok (.istore 5, 2) := by decide +kernel
theorem dX10_plank_48 : decode cX10_plank 48 = .ok (.aload_n 0, 1) := by decide +kernel
theorem dX10_plank_49 : decode cX10_plank 49 = .ok (.getfield 7, 3) := by decide +kernel
theorem dX10_plank_52 : decode cX10_plank 52 = .ok (.iload_n 1, 1) := by decide +kernel
theorem dX10_plank_53 : decode cX10_plank 53 = .ok (.iload_n 2, 1) := by decide +kernel
theorem dX10_plank_54 : decode cX10_plank 54 = .ok (.invokestatic 89, 3) := by decide +kernel
theorem dX10_plank_57 : decode cX10_plank 57 = .ok (.iload_n 3, 1) := by decide +kernel
theorem dX10_plank_58 : decode cX10_plank 58 = .ok (.iastore, 1) := by decide +kernel
theorem dX10_plank_59 : decode cX10_plank 59 = .ok (.aload_n 0, 1) := by decide +kernel
theorem dX10_plank_60 : decode cX10_plank 60 = .ok (.getfield 7, 3) := by decide +kernel
theorem dX10_plank_63 : decode cX10_plank 63 = .ok (.iload_n 2, 1) := by decide +kernel
theorem dX10_plank_64 : decode cX10_plank 64 = .ok (.iload_n 1, 1) := by decide +kernel
theorem dX10_plank_65 : decode cX10_plank 65 = .ok (.invokestatic 89, 3) := by decide +kernel
theorem dX10_plank_68 : decode cX10_plank 68 = .ok (.iload_n 3, 1) := by decide +kernel
theorem dX10_plank_69 : decode cX10_plank 69 = .ok (.iastore, 1) := by decide +kernel
theorem dX10_plank_70 : decode cX10_plank 70 = .ok (.aload_n 0, 1) := by decide +kernel
theorem dX10_plank_71 : decode cX10_plank 71 = .ok (.getfield 13, 3) := by decide +kernel
theorem dX10_plank_74 : decode cX10_plank 74 = .ok (.iload_n 1, 1) := by decide +kernel
theorem dX10_plank_75 : decode cX10_plank 75 = .ok (.iload_n 2, 1) := by decide +kernel
theorem dX10_plank_76 : decode cX10_plank 76 = .ok (.invokestatic 89, 3) := by decide +kernel
theorem dX10_plank_79 : decode cX10_plank 79 = .ok (.iload 4, 2) := by decide +kernel
theorem dX10_plank_81 : decode cX10_plank 81 = .ok (.ifCond .eq 7, 3) := by decide +kernel
theorem dX10_plank_84 : decode cX10_plank 84 = .ok (.iconst 1, 1) := by decide +kernel
theorem dX10_plank_85 : decode cX10_plank 85 = .ok (.goto 4, 3) := by decide +kernel
theorem dX10_plank_88 : decode cX10_plank 88 = .ok (.iconst 0, 1) := by decide +kernel
theorem dX10_plank_89 : decode cX10_plank 89 = .ok (.iastore, 1) := by decide +kernel
theorem dX10_plank_90 : decode cX10_plank 90 = .ok (.aload_n 0, 1) := by decide +kernel
theorem dX10_plank_91 : decode cX10_plank 91 = .ok (.getfield 13, 3) := by decide +kernel
theorem dX10_plank_94 : decode cX10_plank 94 = .ok (.iload_n 2, 1) := by decide +kernel
theorem dX10_plank_95 : decode cX10_plank 95 = .ok (.iload_n 1, 1) := by decide +kernel
theorem dX10_plank_96 : decode cX10_plank 96 = .ok (.invokestatic 89, 3) := by decide +kernel
theorem dX10_plank_99 : decode cX10_plank 99 = .ok (.iload 4, 2) := by decide +kernel
theorem dX10_plank_101 : decode cX10_plank 101 = .ok (.ifCond .eq 7, 3) := by decide +kernel
theorem dX10_plank_104 : decode cX10_plank 104 = .ok (.iconst 1, 1) := by decide +kernel
theorem dX10_plank_105 : decode cX10_plank 105 = .ok (.goto 4, 3) := by decide +kernel
theorem dX10_plank_108 : decode cX10_plank 108 = .ok (.iconst 0, 1) := by decide +kernel
theorem dX10_plank_109 : decode cX10_plank 109 = .ok (.iastore, 1) := by decide +kernel
theorem dX10_plank_110 : decode cX10_plank 110 = .ok (.iload 5, 2) := by decide +kernel
theorem dX10_plank_112 : decode cX10_plank 112 = .ok (.ireturn, 1) := by decide +kernel
abbrev wl_X10_plank (G : gw_) (A_t : Nat) (A_t_steps : Nat) (A_t_wet : Nat) (A_t_where : Nat) (A_t_home : Nat) (A_t_light : Nat) (A_t_carries : Nat) (A_t_sightPlace : Nat) (A_t_sightLight : Nat) (A_t_pad : Nat) (A_t_act : Nat) (A_t_whose : Nat) (A_t_whom : Nat) (A_t_tens : Nat) (A_t_had : Nat) (A_t_leaves : Nat) (A_t_apart : Nat) (A_t_stop : Nat) (A_t_restOf : Nat) (A_t_group : Nat) (A_t_along : Nat) (A_t_kept : Nat) (A_t_isKept : Nat) (c_t_foggy : Int32) (c_t_walkers : Int32) (c_t_sights : Int32) (c_t_padMany : Int32) (c_t_acts : Int32) (c_t_spent : Int32) (c_t_walks : Int32) (c_t_badAct : Int32) (c_t_badWhy : Int32) (c_t_keptAt : Int32) (c_t_isWriting : Int32) (c_t_steps : Nat → Int32) (c_t_wet : Nat → Int32) : va_W := [ob_ A_t 10 [.ref A_t_steps, .ref A_t_wet, .int c_t_foggy, .int c_t_walkers, .ref A_t_where, .ref A_t_home, .ref A_t_light, .ref A_t_carries, .ref A_t_sightPlace, .ref A_t_sightLight, .int c_t_sights, .ref A_t_pad, .int c_t_padMany, .ref A_t_act, .ref A_t_whose, .ref A_t_whom, .ref A_t_tens, .int c_t_acts, .int c_t_spent, .int c_t_walks, .ref A_t_had, .ref A_t_leaves, .int c_t_badAct, .int c_t_badWhy, .ref A_t_apart, .ref A_t_stop, .ref A_t_restOf, .ref A_t_group, .ref A_t_along, .ref A_t_kept, .ref A_t_isKept, .int c_t_keptAt, .int c_t_isWriting], ia_ G A_t_steps 144 c_t_steps, ia_ G A_t_wet 144 c_t_wet]
def fn_X10_plank_j89 (c_t_steps : Nat → Int32) (c_t_wet : Nat → Int32) (x1 : Int32) (x2 : Int32) (x4 : Int32) (x5 : Int32) (s1 : Int32) (s2 : Int32)  : Option (Int32 × (Nat → Int32) × (Nat → Int32)) :=
  ck_ s1 144 <|
  lx_ (upd c_t_wet (Int32.toNatClampNeg s1) s2) fun f18 =>
  b1_ (fn_X10_at x2 x1) fun r19 =>
  if x4 = 0 then
    ck_ r19 144 <|
    lx_ (upd f18 (Int32.toNatClampNeg r19) 0) fun f21 =>
    some (x5, c_t_steps, f21)
  else
    ck_ r19 144 <|
    lx_ (upd f18 (Int32.toNatClampNeg r19) 1) fun f22 =>
    some (x5, c_t_steps, f22)
def fn_X10_plank (c_t_steps : Nat → Int32) (c_t_wet : Nat → Int32) (x1 : Int32) (x2 : Int32) (x3 : Int32) (x4 : Int32) : Option (Int32 × (Nat → Int32) × (Nat → Int32)) :=
  b1_ (fn_X10_isPlace x1) fun r1 =>
  if r1 = 0 then
    some ((-1), c_t_steps, c_t_wet)
  else
    b1_ (fn_X10_isPlace x2) fun r3 =>
    if r3 = 0 then
      some ((-1), c_t_steps, c_t_wet)
    else
      if x1 = x2 then
        some ((-1), c_t_steps, c_t_wet)
      else
        b1_ (fn_X10_in (Int32.toInt64 x3) 0 99) fun r5 =>
        if r5 = 0 then
          some ((-2), c_t_steps, c_t_wet)
        else
          b1_ (fn_X10_at x1 x2) fun r7 =>
          ck_ r7 144 <|
          lx_ (c_t_steps (Int32.toNatClampNeg r7)) fun y9 =>
          b1_ (fn_X10_at x1 x2) fun r10 =>
          ck_ r10 144 <|
          lx_ (upd c_t_steps (Int32.toNatClampNeg r10) x3) fun f12 =>
          b1_ (fn_X10_at x2 x1) fun r13 =>
          ck_ r13 144 <|
          lx_ (upd f12 (Int32.toNatClampNeg r13) x3) fun f15 =>
          b1_ (fn_X10_at x1 x2) fun r16 =>
          if x4 = 0 then
            fn_X10_plank_j89 f15 c_t_wet x1 x2 x4 y9 r16 0
          else
            fn_X10_plank_j89 f15 c_t_wet x1 x2 x4 y9 r16 1
set_option maxHeartbeats 4000000 in
set_option maxRecDepth 100000 in
theorem wn_X10_plank_j89 {p : Program} {l : Launch} {e : Env} {s : State} {m : MethodId} {args : Array Value} {below : List Frame} {meth : Method} {c : Code} {G : gw_} {A : Nat → Prop} {Q : State → Prop} {A_t : Nat} {A_t_steps : Nat} {A_t_wet : Nat} {A_t_where : Nat} {A_t_home : Nat} {A_t_light : Nat} {A_t_carries : Nat} {A_t_sightPlace : Nat} {A_t_sightLight : Nat} {A_t_pad : Nat} {A_t_act : Nat} {A_t_whose : Nat} {A_t_whom : Nat} {A_t_tens : Nat} {A_t_had : Nat} {A_t_leaves : Nat} {A_t_apart : Nat} {A_t_stop : Nat} {A_t_restOf : Nat} {A_t_group : Nat} {A_t_along : Nat} {A_t_kept : Nat} {A_t_isKept : Nat} {c_t_foggy : Int32} {c_t_walkers : Int32} {c_t_sights : Int32} {c_t_padMany : Int32} {c_t_acts : Int32} {c_t_spent : Int32} {c_t_walks : Int32} {c_t_badAct : Int32} {c_t_badWhy : Int32} {c_t_keptAt : Int32} {c_t_isWriting : Int32} {c_t_steps : Nat → Int32} {z_t_steps : Nat → Int32} {c_t_wet : Nat → Int32} {z_t_wet : Nat → Int32} {r : Int32} {x1 : Int32} {x2 : Int32} {x4 : Int32} {x5 : Int32} {s1 : Int32} {s2 : Int32} (hC : cx_ p s m c G cX10_plank 6 RX10) (hret : ∀ (pc : Nat) (H : Heap) (locs : List Loc) (ls : Array Slot), decode cX10_plank pc = .ok (.ireturn, 1) → wd_ G A s.heap (wl_X10_plank G A_t A_t_steps A_t_wet A_t_where A_t_home A_t_light A_t_carries A_t_sightPlace A_t_sightLight A_t_pad A_t_act A_t_whose A_t_whom A_t_tens A_t_had A_t_leaves A_t_apart A_t_stop A_t_restOf A_t_group A_t_along A_t_kept A_t_isKept c_t_foggy c_t_walkers c_t_sights c_t_padMany c_t_acts c_t_spent c_t_walks c_t_badAct c_t_badWhy c_t_keptAt c_t_isWriting z_t_steps z_t_wet) H locs → W p l e { frames := 2, cells := 0, slots := 0, locals := 45 } s m args below meth c H locs 0 0 Q (F0 m pc ls [.int r]))  (hf : fn_X10_plank_j89 c_t_steps c_t_wet x1 x2 x4 x5 s1 s2 = some (r, z_t_steps, z_t_wet)) {H : Heap} {locs : List Loc} {ls : Array Slot} (hl : lv_has ls 6 [(0, .ref A_t), (1, .int x1), (2, .int x2), (4, .int x4), (5, .int x5)]) (hw : wd_ G A s.heap (wl_X10_plank G A_t A_t_steps A_t_wet A_t_where A_t_home A_t_light A_t_carries A_t_sightPlace A_t_sightLight A_t_pad A_t_act A_t_whose A_t_whom A_t_tens A_t_had A_t_leaves A_t_apart A_t_stop A_t_restOf A_t_group A_t_along A_t_kept A_t_isKept c_t_foggy c_t_walkers c_t_sights c_t_padMany c_t_acts c_t_spent c_t_walks c_t_badAct c_t_badWhy c_t_keptAt c_t_isWriting c_t_steps c_t_wet) H locs) : W p l e { frames := 2, cells := 0, slots := 0, locals := 45 } s m args below meth c H locs 0 0 Q (F0 m 89 ls [.int s2, .int s1, .ref A_t_wet]) := by
  have hx := hC.1
  have hb := hC.2.1
  unfold fn_X10_plank_j89 at hf
  obtain ⟨hi, hf⟩ := ck_s hf
  obtain ⟨f18, ef18, hf⟩ := lx_s hf
  refine g_iast hC hw 2 rfl hi ef18 dX10_plank_89 (fun H locs hw => ?_)
  have hw : wd_ G A s.heap (wl_X10_plank G A_t A_t_steps A_t_wet A_t_where A_t_home A_t_light A_t_carries A_t_sightPlace A_t_sightLight A_t_pad A_t_act A_t_whose A_t_whom A_t_tens A_t_had A_t_leaves A_t_apart A_t_stop A_t_restOf A_t_group A_t_along A_t_kept A_t_isKept c_t_foggy c_t_walkers c_t_sights c_t_padMany c_t_acts c_t_spent c_t_walks c_t_badAct c_t_badWhy c_t_keptAt c_t_isWriting c_t_steps f18) H locs := hw
  refine lv_aload_n hx hb dX10_plank_90 rfl (lv_at hl 0 rfl) ?_
  refine g_get hC hw fkX10_13 0 rfl rfl dX10_plank_91 ?_
  refine lv_iload_n hx hb dX10_plank_94 rfl (lv_at hl 2 rfl) ?_
  refine lv_iload_n hx hb dX10_plank_95 rfl (lv_at hl 1 rfl) ?_
  obtain ⟨r19, hq20, hf⟩ := b1_s hf
  refine h_cSi hC hw msX10_89 (cn_X10_at l G x2 x1 r19 hq20) [] rfl (by decide) rfl hl.1 rfl (Nat.le_of_ble_eq_true rfl) ⟨Nat.le_of_ble_eq_true rfl, Nat.le_of_ble_eq_true rfl⟩ ⟨Nat.le_refl _, Nat.le_refl _⟩ dX10_plank_96 (fun H locs hw => ?_)
  refine lv_iload hx hb dX10_plank_99 (lv_at hl 3 rfl) ?_
  refine lv_if_eq (tgt := 108) hx hb dX10_plank_101 (by decide) (fun hc => ?_) (fun hc => ?_)
  · replace hf := it_t hc hf
    refine lv_iconst (v := 0) hx hb dX10_plank_108 (by decide) ?_
    obtain ⟨hi, hf⟩ := ck_s hf
    obtain ⟨f21, ef21, hf⟩ := lx_s hf
    refine g_iast hC hw 2 rfl hi ef21 dX10_plank_109 (fun H locs hw => ?_)
    have hw : wd_ G A s.heap (wl_X10_plank G A_t A_t_steps A_t_wet A_t_where A_t_home A_t_light A_t_carries A_t_sightPlace A_t_sightLight A_t_pad A_t_act A_t_whose A_t_whom A_t_tens A_t_had A_t_leaves A_t_apart A_t_stop A_t_restOf A_t_group A_t_along A_t_kept A_t_isKept c_t_foggy c_t_walkers c_t_sights c_t_padMany c_t_acts c_t_spent c_t_walks c_t_badAct c_t_badWhy c_t_keptAt c_t_isWriting c_t_steps f21) H locs := hw
    refine lv_iload hx hb dX10_plank_110 (lv_at hl 4 rfl) ?_
    obtain ⟨h1_, h2_, h3_⟩ := t3_ hf
    subst h1_
    subst h2_
    subst h3_
    exact hret _ _ _ _ dX10_plank_112 hw
  · replace hf := it_f hc hf
    refine lv_iconst (v := 1) hx hb dX10_plank_104 (by decide) ?_
    refine lv_goto (tgt := 109) hx hb dX10_plank_105 (by decide) ?_
    obtain ⟨hi, hf⟩ := ck_s hf
    obtain ⟨f22, ef22, hf⟩ := lx_s hf
    refine g_iast hC hw 2 rfl hi ef22 dX10_plank_109 (fun H locs hw => ?_)
    have hw : wd_ G A s.heap (wl_X10_plank G A_t A_t_steps A_t_wet A_t_where A_t_home A_t_light A_t_carries A_t_sightPlace A_t_sightLight A_t_pad A_t_act A_t_whose A_t_whom A_t_tens A_t_had A_t_leaves A_t_apart A_t_stop A_t_restOf A_t_group A_t_along A_t_kept A_t_isKept c_t_foggy c_t_walkers c_t_sights c_t_padMany c_t_acts c_t_spent c_t_walks c_t_badAct c_t_badWhy c_t_keptAt c_t_isWriting c_t_steps f22) H locs := hw
    refine lv_iload hx hb dX10_plank_110 (lv_at hl 4 rfl) ?_
    obtain ⟨h1_, h2_, h3_⟩ := t3_ hf
    subst h1_
    subst h2_
    subst h3_
    exact hret _ _ _ _ dX10_plank_112 hw
set_option maxHeartbeats 4000000 in
set_option maxRecDepth 100000 in
theorem wn_X10_plank {p : Program} {l : Launch} {e : Env} {s : State} {m : MethodId} {args : Array Value} {below : List Frame} {meth : Method} {c : Code} {G : gw_} {A : Nat → Prop} {Q : State → Prop} {A_t : Nat} {A_t_steps : Nat} {A_t_wet : Nat} {A_t_where : Nat} {A_t_home : Nat} {A_t_light : Nat} {A_t_carries : Nat} {A_t_sightPlace : Nat} {A_t_sightLight : Nat} {A_t_pad : Nat} {A_t_act : Nat} {A_t_whose : Nat} {A_t_whom : Nat} {A_t_tens : Nat} {A_t_had : Nat} {A_t_leaves : Nat} {A_t_apart : Nat} {A_t_stop : Nat} {A_t_restOf : Nat} {A_t_group : Nat} {A_t_along : Nat} {A_t_kept : Nat} {A_t_isKept : Nat} {c_t_foggy : Int32} {c_t_walkers : Int32} {c_t_sights : Int32} {c_t_padMany : Int32} {c_t_acts : Int32} {c_t_spent : Int32} {c_t_walks : Int32} {c_t_badAct : Int32} {c_t_badWhy : Int32} {c_t_keptAt : Int32} {c_t_isWriting : Int32} {c_t_steps : Nat → Int32} {z_t_steps : Nat → Int32} {c_t_wet : Nat → Int32} {z_t_wet : Nat → Int32} {r : Int32} {x1 : Int32} {x2 : Int32} {x3 : Int32} {x4 : Int32} (hC : cx_ p s m c G cX10_plank 6 RX10) (hret : ∀ (pc : Nat) (H : Heap) (locs : List Loc) (ls : Array Slot), decode cX10_plank pc = .ok (.ireturn, 1) → wd_ G A s.heap (wl_X10_plank G A_t A_t_steps A_t_wet A_t_where A_t_home A_t_light A_t_carries A_t_sightPlace A_t_sightLight A_t_pad A_t_act A_t_whose A_t_whom A_t_tens A_t_had A_t_leaves A_t_apart A_t_stop A_t_restOf A_t_group A_t_along A_t_kept A_t_isKept c_t_foggy c_t_walkers c_t_sights c_t_padMany c_t_acts c_t_spent c_t_walks c_t_badAct c_t_badWhy c_t_keptAt c_t_isWriting z_t_steps z_t_wet) H locs → W p l e { frames := 2, cells := 0, slots := 0, locals := 45 } s m args below meth c H locs 0 0 Q (F0 m pc ls [.int r])) (hf : fn_X10_plank c_t_steps c_t_wet x1 x2 x3 x4 = some (r, z_t_steps, z_t_wet)) {H : Heap} {locs : List Loc} {ls : Array Slot} (hl : lv_has ls 6 [(0, .ref A_t), (1, .int x1), (2, .int x2), (3, .int x3), (4, .int x4)]) (hw : wd_ G A s.heap (wl_X10_plank G A_t A_t_steps A_t_wet A_t_where A_t_home A_t_light A_t_carries A_t_sightPlace A_t_sightLight A_t_pad A_t_act A_t_whose A_t_whom A_t_tens A_t_had A_t_leaves A_t_apart A_t_stop A_t_restOf A_t_group A_t_along A_t_kept A_t_isKept c_t_foggy c_t_walkers c_t_sights c_t_padMany c_t_acts c_t_spent c_t_walks c_t_badAct c_t_badWhy c_t_keptAt c_t_isWriting c_t_steps c_t_wet) H locs) : W p l e { frames := 2, cells := 0, slots := 0, locals := 45 } s m args below meth c H locs 0 0 Q (F0 m 0 ls []) := by
  have hx := hC.1
  have hb := hC.2.1
  unfold fn_X10_plank at hf
  refine lv_iload_n hx hb dX10_plank_0 rfl (lv_at hl 1 rfl) ?_
  obtain ⟨r1, hq2, hf⟩ := b1_s hf
  refine h_cSi hC hw msX10_100 (cn_X10_isPlace l G x1 r1 hq2) [] rfl (by decide) rfl hl.1 rfl (Nat.le_of_ble_eq_true rfl) ⟨Nat.le_of_ble_eq_true rfl, Nat.le_of_ble_eq_true rfl⟩ ⟨Nat.le_refl _, Nat.le_refl _⟩ dX10_plank_1 (fun H locs hw => ?_)
  refine lv_if_eq (tgt := 19) hx hb dX10_plank_4 (by decide) (fun hc => ?_) (fun hc => ?_)
  · replace hf := it_t hc hf
    refine lv_iconst (v := (-1)) hx hb dX10_plank_19 (by decide) ?_
    obtain ⟨h1_, h2_, h3_⟩ := t3_ hf
    subst h1_
    subst h2_
    subst h3_
    exact hret _ _ _ _ dX10_plank_20 hw
  · replace hf := it_f hc hf
    refine lv_iload_n hx hb dX10_plank_7 rfl (lv_at hl 2 rfl) ?_
    obtain ⟨r3, hq4, hf⟩ := b1_s hf
    refine h_cSi hC hw msX10_100 (cn_X10_isPlace l G x2 r3 hq4) [] rfl (by decide) rfl hl.1 rfl (Nat.le_of_ble_eq_true rfl) ⟨Nat.le_of_ble_eq_true rfl, Nat.le_of_ble_eq_true rfl⟩ ⟨Nat.le_refl _, Nat.le_refl _⟩ dX10_plank_8 (fun H locs hw => ?_)
    refine lv_if_eq (tgt := 19) hx hb dX10_plank_11 (by decide) (fun hc => ?_) (fun hc => ?_)
    · replace hf := it_t hc hf
      refine lv_iconst (v := (-1)) hx hb dX10_plank_19 (by decide) ?_
      obtain ⟨h1_, h2_, h3_⟩ := t3_ hf
      subst h1_
      subst h2_
      subst h3_
      exact hret _ _ _ _ dX10_plank_20 hw
    · replace hf := it_f hc hf
      refine lv_iload_n hx hb dX10_plank_14 rfl (lv_at hl 1 rfl) ?_
      refine lv_iload_n hx hb dX10_plank_15 rfl (lv_at hl 2 rfl) ?_
      refine lv_icmp_ne (tgt := 21) hx hb dX10_plank_16 (by decide) (fun hc => ?_) (fun hc => ?_)
      · replace hf := it_f hc hf
        refine lv_iload_n hx hb dX10_plank_21 rfl (lv_at hl 3 rfl) ?_
        refine lv_i2l hx hb dX10_plank_22 rfl ?_
        refine lv_lconst (v := 0) hx hb dX10_plank_23 (by decide) ?_
        refine g_ldc2 (v := 99) hC (tb4 114 rfl rfl) dX10_plank_24 ?_
        obtain ⟨r5, hq6, hf⟩ := b1_s hf
        refine h_cSi hC hw msX10_79 (cn_X10_in l G (Int32.toInt64 x3) 0 99 r5 hq6) [] rfl (by decide) rfl hl.1 rfl (Nat.le_of_ble_eq_true rfl) ⟨Nat.le_of_ble_eq_true rfl, Nat.le_of_ble_eq_true rfl⟩ ⟨Nat.le_refl _, Nat.le_refl _⟩ dX10_plank_27 (fun H locs hw => ?_)
        refine lv_if_ne (tgt := 36) hx hb dX10_plank_30 (by decide) (fun hc => ?_) (fun hc => ?_)
        · replace hf := it_f hc hf
          refine lv_aload_n hx hb dX10_plank_36 rfl (lv_at hl 0 rfl) ?_
          refine g_get hC hw fkX10_7 0 rfl rfl dX10_plank_37 ?_
          refine lv_iload_n hx hb dX10_plank_40 rfl (lv_at hl 1 rfl) ?_
          refine lv_iload_n hx hb dX10_plank_41 rfl (lv_at hl 2 rfl) ?_
          obtain ⟨r7, hq8, hf⟩ := b1_s hf
          refine h_cSi hC hw msX10_89 (cn_X10_at l G x1 x2 r7 hq8) [] rfl (by decide) rfl hl.1 rfl (Nat.le_of_ble_eq_true rfl) ⟨Nat.le_of_ble_eq_true rfl, Nat.le_of_ble_eq_true rfl⟩ ⟨Nat.le_refl _, Nat.le_refl _⟩ dX10_plank_42 (fun H locs hw => ?_)
          obtain ⟨hi, hf⟩ := ck_s hf
          refine g_iald hC hw 1 rfl hi dX10_plank_45 ?_
          obtain ⟨y9, ey9, hf⟩ := lx_s hf
          rw [← ey9]
          refine lv_istore (lv' := [(5, .int y9), (0, .ref A_t), (1, .int x1), (2, .int x2), (3, .int x3), (4, .int x4)]) hx hb dX10_plank_46 hl (by decide) rfl (fun ls hl => ?_)
          refine lv_aload_n hx hb dX10_plank_48 rfl (lv_at hl 1 rfl) ?_
          refine g_get hC hw fkX10_7 0 rfl rfl dX10_plank_49 ?_
          refine lv_iload_n hx hb dX10_plank_52 rfl (lv_at hl 2 rfl) ?_
          refine lv_iload_n hx hb dX10_plank_53 rfl (lv_at hl 3 rfl) ?_
          obtain ⟨r10, hq11, hf⟩ := b1_s hf
          refine h_cSi hC hw msX10_89 (cn_X10_at l G x1 x2 r10 hq11) [] rfl (by decide) rfl hl.1 rfl (Nat.le_of_ble_eq_true rfl) ⟨Nat.le_of_ble_eq_true rfl, Nat.le_of_ble_eq_true rfl⟩ ⟨Nat.le_refl _, Nat.le_refl _⟩ dX10_plank_54 (fun H locs hw => ?_)
          refine lv_iload_n hx hb dX10_plank_57 rfl (lv_at hl 4 rfl) ?_
          obtain ⟨hi, hf⟩ := ck_s hf
          obtain ⟨f12, ef12, hf⟩ := lx_s hf
          refine g_iast hC hw 1 rfl hi ef12 dX10_plank_58 (fun H locs hw => ?_)
          have hw : wd_ G A s.heap (wl_X10_plank G A_t A_t_steps A_t_wet A_t_where A_t_home A_t_light A_t_carries A_t_sightPlace A_t_sightLight A_t_pad A_t_act A_t_whose A_t_whom A_t_tens A_t_had A_t_leaves A_t_apart A_t_stop A_t_restOf A_t_group A_t_along A_t_kept A_t_isKept c_t_foggy c_t_walkers c_t_sights c_t_padMany c_t_acts c_t_spent c_t_walks c_t_badAct c_t_badWhy c_t_keptAt c_t_isWriting f12 c_t_wet) H locs := hw
          refine lv_aload_n hx hb dX10_plank_59 rfl (lv_at hl 1 rfl) ?_
          refine g_get hC hw fkX10_7 0 rfl rfl dX10_plank_60 ?_
          refine lv_iload_n hx hb dX10_plank_63 rfl (lv_at hl 3 rfl) ?_
          refine lv_iload_n hx hb dX10_plank_64 rfl (lv_at hl 2 rfl) ?_
          obtain ⟨r13, hq14, hf⟩ := b1_s hf
          refine h_cSi hC hw msX10_89 (cn_X10_at l G x2 x1 r13 hq14) [] rfl (by decide) rfl hl.1 rfl (Nat.le_of_ble_eq_true rfl) ⟨Nat.le_of_ble_eq_true rfl, Nat.le_of_ble_eq_true rfl⟩ ⟨Nat.le_refl _, Nat.le_refl _⟩ dX10_plank_65 (fun H locs hw => ?_)
          refine lv_iload_n hx hb dX10_plank_68 rfl (lv_at hl 4 rfl) ?_
          obtain ⟨hi, hf⟩ := ck_s hf
          obtain ⟨f15, ef15, hf⟩ := lx_s hf
          refine g_iast hC hw 1 rfl hi ef15 dX10_plank_69 (fun H locs hw => ?_)
          have hw : wd_ G A s.heap (wl_X10_plank G A_t A_t_steps A_t_wet A_t_where A_t_home A_t_light A_t_carries A_t_sightPlace A_t_sightLight A_t_pad A_t_act A_t_whose A_t_whom A_t_tens A_t_had A_t_leaves A_t_apart A_t_stop A_t_restOf A_t_group A_t_along A_t_kept A_t_isKept c_t_foggy c_t_walkers c_t_sights c_t_padMany c_t_acts c_t_spent c_t_walks c_t_badAct c_t_badWhy c_t_keptAt c_t_isWriting f15 c_t_wet) H locs := hw
          refine lv_aload_n hx hb dX10_plank_70 rfl (lv_at hl 1 rfl) ?_
          refine g_get hC hw fkX10_13 0 rfl rfl dX10_plank_71 ?_
          refine lv_iload_n hx hb dX10_plank_74 rfl (lv_at hl 2 rfl) ?_
          refine lv_iload_n hx hb dX10_plank_75 rfl (lv_at hl 3 rfl) ?_
          obtain ⟨r16, hq17, hf⟩ := b1_s hf
          refine h_cSi hC hw msX10_89 (cn_X10_at l G x1 x2 r16 hq17) [] rfl (by decide) rfl hl.1 rfl (Nat.le_of_ble_eq_true rfl) ⟨Nat.le_of_ble_eq_true rfl, Nat.le_of_ble_eq_true rfl⟩ ⟨Nat.le_refl _, Nat.le_refl _⟩ dX10_plank_76 (fun H locs hw => ?_)
          refine lv_iload hx hb dX10_plank_79 (lv_at hl 5 rfl) ?_
          refine lv_if_eq (tgt := 88) hx hb dX10_plank_81 (by decide) (fun hc => ?_) (fun hc => ?_)
          · replace hf := it_t hc hf
            refine lv_iconst (v := 0) hx hb dX10_plank_88 (by decide) ?_
            exact wn_X10_plank_j89 hC hret hf (lv_sub hl [1, 2, 3, 5, 0] rfl) hw
          · replace hf := it_f hc hf
            refine lv_iconst (v := 1) hx hb dX10_plank_84 (by decide) ?_
            refine lv_goto (tgt := 89) hx hb dX10_plank_85 (by decide) ?_
            exact wn_X10_plank_j89 hC hret hf (lv_sub hl [1, 2, 3, 5, 0] rfl) hw
        · replace hf := it_t hc hf
          refine lv_bipush (v := (-2)) hx hb dX10_plank_33 (by decide) ?_
          obtain ⟨h1_, h2_, h3_⟩ := t3_ hf
          subst h1_
          subst h2_
          subst h3_
          exact hret _ _ _ _ dX10_plank_35 hw
      · replace hf := it_t hc hf
        refine lv_iconst (v := (-1)) hx hb dX10_plank_19 (by decide) ?_
        obtain ⟨h1_, h2_, h3_⟩ := t3_ hf
        subst h1_
        subst h2_
        subst h3_
        exact hret _ _ _ _ dX10_plank_20 hw
set_option maxHeartbeats 4000000 in
set_option maxRecDepth 100000 in
theorem cn_X10_plank (l : Launch) (G : gw_) (A_t : Nat) (A_t_steps : Nat) (A_t_wet : Nat) (A_t_where : Nat) (A_t_home : Nat) (A_t_light : Nat) (A_t_carries : Nat) (A_t_sightPlace : Nat) (A_t_sightLight : Nat) (A_t_pad : Nat) (A_t_act : Nat) (A_t_whose : Nat) (A_t_whom : Nat) (A_t_tens : Nat) (A_t_had : Nat) (A_t_leaves : Nat) (A_t_apart : Nat) (A_t_stop : Nat) (A_t_restOf : Nat) (A_t_group : Nat) (A_t_along : Nat) (A_t_kept : Nat) (A_t_isKept : Nat) (c_t_foggy : Int32) (c_t_walkers : Int32) (c_t_sights : Int32) (c_t_padMany : Int32) (c_t_acts : Int32) (c_t_spent : Int32) (c_t_walks : Int32) (c_t_badAct : Int32) (c_t_badWhy : Int32) (c_t_keptAt : Int32) (c_t_isWriting : Int32) (c_t_steps : Nat → Int32) (c_t_wet : Nat → Int32) (x1 : Int32) (x2 : Int32) (x3 : Int32) (x4 : Int32) (r : Int32) (z_t_steps : Nat → Int32) (z_t_wet : Nat → Int32) (hf : fn_X10_plank c_t_steps c_t_wet x1 x2 x3 x4 = some (r, z_t_steps, z_t_wet)) : ci_ l G yX10_plank cX10_plank 6 (some .int) 2 45 (wl_X10_plank G A_t A_t_steps A_t_wet A_t_where A_t_home A_t_light A_t_carries A_t_sightPlace A_t_sightLight A_t_pad A_t_act A_t_whose A_t_whom A_t_tens A_t_had A_t_leaves A_t_apart A_t_stop A_t_restOf A_t_group A_t_along A_t_kept A_t_isKept c_t_foggy c_t_walkers c_t_sights c_t_padMany c_t_acts c_t_spent c_t_walks c_t_badAct c_t_badWhy c_t_keptAt c_t_isWriting c_t_steps c_t_wet) [.ref A_t, .int x1, .int x2, .int x3, .int x4] r (wl_X10_plank G A_t A_t_steps A_t_wet A_t_where A_t_home A_t_light A_t_carries A_t_sightPlace A_t_sightLight A_t_pad A_t_act A_t_whose A_t_whom A_t_tens A_t_had A_t_leaves A_t_apart A_t_stop A_t_restOf A_t_group A_t_along A_t_kept A_t_isKept c_t_foggy c_t_walkers c_t_sights c_t_padMany c_t_acts c_t_spent c_t_walks c_t_badAct c_t_badWhy c_t_keptAt c_t_isWriting z_t_steps z_t_wet) := fun sz => met_intro (by decide) (Nat.le_of_ble_eq_true rfl) (fun p e s m args below meth c ls hsz hC hr hlk hnm hl hw => wn_X10_plank hC (fun pc H locs ls hd hw => g_iret hC hr hlk hw rfl rfl hd) hf hl hw)
