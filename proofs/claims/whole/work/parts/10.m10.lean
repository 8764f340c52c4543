theorem dX9_post_0 : decode cX9_post 0 = .ok (.iload_n 1, 1) := by decide +kernel
theorem dX9_post_1 : decode cX9_post 1 = .ok (.iconst 0, 1) := by decide +kernel
theorem dX9_post_2 : decode cX9_post 2 = .ok (.iconst 1, 1) := by decide +kernel
theorem dX9_post_3 : decode cX9_post 3 = .ok (.invokestatic 63, 3) := by decide +kernel
theorem dX9_post_6 : decode cX9_post 6 = .ok (.ifCond .eq 12, 3) := by decide +kernel
theorem dX9_post_9 : decode cX9_post 9 = .ok (.iload_n 2, 1) := by decide +kernel
theorem dX9_post_10 : decode cX9_post 10 = .ok (.iconst 0, 1) := by decide +kernel
theorem dX9_post_11 : decode cX9_post 11 = .ok (.iconst 1, 1) := by decide +kernel
theorem dX9_post_12 : decode cX9_post 12 = .ok (.invokestatic 63, 3) := by decide +kernel
theorem dX9_post_15 : decode cX9_post 15 = .ok (.ifCond .ne 6, 3) := by decide +kernel
theorem dX9_post_18 : decode cX9_post 18 = .ok (.bipush (-2), 2) := by decide +kernel
theorem dX9_post_20 : decode cX9_post 20 = .ok (.ireturn, 1) := by decide +kernel
theorem dX9_post_21 : decode cX9_post 21 = .ok (.aload_n 0, 1) := by decide +kernel
theorem dX9_post_22 : decode cX9_post 22 = .ok (.getfield 12, 3) := by decide +kernel
theorem dX9_post_25 : decode cX9_post 25 = .ok (.getfield 81, 3) := by decide +kernel
theorem dX9_post_28 : decode cX9_post 28 = .ok (.getfield 205, 3) := by decide +kernel
theorem dX9_post_31 : decode cX9_post 31 = .ok (.ifCond .ne 6, 3) := by decide +kernel
theorem dX9_post_34 : decode cX9_post 34 = .ok (.bipush (-6), 2) := by decide +kernel
theorem dX9_post_36 : decode cX9_post 36 = .ok (.ireturn, 1) := by decide +kernel
theorem dX9_post_37 : decode cX9_post 37 = .ok (.aload_n 0, 1) := by decide +kernel
theorem dX9_post_38 : decode cX9_post 38 = .ok (.invokevirtual 155, 3) := by decide +kernel
theorem dX9_post_41 : decode cX9_post 41 = .ok (.iload_n 1, 1) := by decide +kernel
theorem dX9_post_42 : decode cX9_post 42 = .ok (.ifCond .ne 7, 3) := by decide +kernel
theorem dX9_post_45 : decode cX9_post 45 = .ok (.iconst 1, 1) := by decide +kernel
theorem dX9_post_46 : decode cX9_post 46 = .ok (.goto 4, 3) := by decide +kernel
theorem dX9_post_49 : decode cX9_post 49 = .ok (.iconst 0, 1) := by decide +kernel
theorem dX9_post_50 : decode cX9_post 50 = .ok (.istore_n 3, 1) := by decide +kernel
theorem dX9_post_51 : decode cX9_post 51 = .ok (.aload_n 0, 1) := by decide +kernel
theorem dX9_post_52 : decode cX9_post 52 = .ok (.getfield 12, 3) := by decide +kernel
theorem dX9_post_55 : decode cX9_post 55 = .ok (.getfield 81, 3) := by decide +kernel
theorem dX9_post_58 : decode cX9_post 58 = .ok (.aload_n 0, 1) := by decide +kernel
theorem dX9_post_59 : decode cX9_post 59 = .ok (.getfield 37, 3) := by decide +kernel
theorem dX9_post_62 : decode cX9_post 62 = .ok (.iload_n 3, 1) := by decide +kernel
theorem dX9_post_63 : decode cX9_post 63 = .ok (.invokevirtual 208, 3) := by decide +kernel
theorem dX9_post_66 : decode cX9_post 66 = .ok (.istore 4, 2) := by decide +kernel
theorem dX9_post_68 : decode cX9_post 68 = .ok (.iload 4, 2) := by decide +kernel
theorem dX9_post_70 : decode cX9_post 70 = .ok (.bipush (-6), 2) := by decide +kernel
theorem dX9_post_72 : decode cX9_post 72 = .ok (.if_icmp .eq 7, 3) := by decide +kernel
theorem dX9_post_75 : decode cX9_post 75 = .ok (.iload_n 2, 1) := by decide +kernel
theorem dX9_post_76 : decode cX9_post 76 = .ok (.ifCond .ne 6, 3) := by decide +kernel
theorem dX9_post_79 : decode cX9_post 79 = .ok (.iload 4, 2) := by decide +kernel
theorem dX9_post_81 : decode cX9_post 81 = .ok (.ireturn, 1) := by decide +kernel
theorem dX9_post_82 : decode cX9_post 82 = .ok (.aload_n 0, 1) := by decide +kernel
theorem dX9_post_83 : decode cX9_post 83 = .ok (.getfield 12, 3) := by decide +kernel
theorem dX9_post_86 : decode cX9_post 86 = .ok (.getfield 81, 3) := by decide +kernel
theorem dX9_post_89 : decode cX9_post 89 = .ok (.aload_n 0, 1) := by decide +kernel
theorem dX9_post_90 : decode cX9_post 90 = .ok (.getfield 37, 3) := by decide +kernel
theorem dX9_post_93 : decode cX9_post 93 = .ok (.iload 4, 2) := by decide +kernel
theorem dX9_post_95 : decode cX9_post 95 = .ok (.iload_n 3, 1) := by decide +kernel
theorem dX9_post_96 : decode cX9_post 96 = .ok (.invokevirtual 212, 3) := by decide +kernel
theorem dX9_post_99 : decode cX9_post 99 = .ok (.ireturn, 1) := by decide +kernel
abbrev wl_X9_post (G : gw_) (A_t : Nat) (A_t_now : Nat) (A_t_images : Nat) (A_t_pad : Nat) (A_t_evening : Nat) (A_t_ways : Nat) (A_t_tour : Nat) (A_t_odds : Nat) (A_t_now_marsh : Nat) (A_t_now_crowd : Nat) (A_t_now_sights : Nat) (A_t_now_marsh_codes : Nat) (A_t_now_crowd_at : Nat) (A_t_now_crowd_home : Nat) (A_t_now_crowd_light : Nat) (A_t_now_crowd_carries : Nat) (A_t_now_crowd_bearer : Nat) (A_t_ways_planks : Nat) (A_t_ways_least : Nat) (A_t_ways_neighbours : Nat) (c_t_measured : Int32) (c_t_now_marsh_codes : Nat → Int32) (c_t_now_crowd_there : Int32) (c_t_now_crowd_foggy : Int32) (c_t_now_crowd_home : Nat → Int32) (c_t_ways_planks : Nat → Int32) (c_t_ways_least : Nat → Int32) (c_t_ways_neighbours : Nat → Int32) : va_W := [ob_ A_t 9 [.ref A_t_now, .ref A_t_images, .ref A_t_pad, .ref A_t_evening, .ref A_t_ways, .ref A_t_tour, .ref A_t_odds, .int c_t_measured], ob_ A_t_now 5 [.ref A_t_now_marsh, .ref A_t_now_crowd, .ref A_t_now_sights], ob_ A_t_now_marsh 2 [.ref A_t_now_marsh_codes], ia_ G A_t_now_marsh_codes 144 c_t_now_marsh_codes, ob_ A_t_now_crowd 0 [.int c_t_now_crowd_there, .int c_t_now_crowd_foggy, .ref A_t_now_crowd_at, .ref A_t_now_crowd_home, .ref A_t_now_crowd_light, .ref A_t_now_crowd_carries, .ref A_t_now_crowd_bearer], ia_ G A_t_now_crowd_home 6 c_t_now_crowd_home, ob_ A_t_ways 8 [.ref A_t_ways_planks, .ref A_t_ways_least, .ref A_t_ways_neighbours], ia_ G A_t_ways_planks 144 c_t_ways_planks, ia_ G A_t_ways_least 144 c_t_ways_least, ia_ G A_t_ways_neighbours 12 c_t_ways_neighbours]
def fn_X9_post_j50 (c_t_measured : Int32) (c_t_now_crowd_there : Int32) (c_t_now_crowd_home : Nat → Int32) (c_t_ways_planks : Nat → Int32) (c_t_ways_least : Nat → Int32) (c_t_ways_neighbours : Nat → Int32) (x2 : Int32) (s0 : Int32)  : Option (Int32 × Int32 × (Nat → Int32) × (Nat → Int32) × (Nat → Int32)) :=
  b1_ (fn_X0_bestPost c_t_now_crowd_there c_t_now_crowd_home c_t_ways_least s0) fun r10 =>
  if r10 = (-6) then
    some (r10, c_t_measured, c_t_ways_planks, c_t_ways_least, c_t_ways_neighbours)
  else
    if x2 = 0 then
      some (r10, c_t_measured, c_t_ways_planks, c_t_ways_least, c_t_ways_neighbours)
    else
      b1_ (fn_X0_postCosts c_t_now_crowd_there c_t_now_crowd_home c_t_ways_least r10 s0) fun r12 =>
      some (r12, c_t_measured, c_t_ways_planks, c_t_ways_least, c_t_ways_neighbours)
def fn_X9_post (c_t_measured : Int32) (c_t_now_marsh_codes : Nat → Int32) (c_t_now_crowd_there : Int32) (c_t_now_crowd_foggy : Int32) (c_t_now_crowd_home : Nat → Int32) (c_t_ways_planks : Nat → Int32) (c_t_ways_least : Nat → Int32) (c_t_ways_neighbours : Nat → Int32) (x1 : Int32) (x2 : Int32) : Option (Int32 × Int32 × (Nat → Int32) × (Nat → Int32) × (Nat → Int32)) :=
  b1_ (fn_X9_isWithin x1 0 1) fun r1 =>
  if r1 = 0 then
    some ((-2), c_t_measured, c_t_ways_planks, c_t_ways_least, c_t_ways_neighbours)
  else
    b1_ (fn_X9_isWithin x2 0 1) fun r3 =>
    if r3 = 0 then
      some ((-2), c_t_measured, c_t_ways_planks, c_t_ways_least, c_t_ways_neighbours)
    else
      if c_t_now_crowd_there = 0 then
        some ((-6), c_t_measured, c_t_ways_planks, c_t_ways_least, c_t_ways_neighbours)
      else
        b4_ (fn_X9_measure c_t_measured c_t_now_marsh_codes c_t_now_crowd_foggy c_t_ways_planks c_t_ways_least c_t_ways_neighbours) fun w5 w6 w7 w8 =>
        if x1 = 0 then
          fn_X9_post_j50 w5 c_t_now_crowd_there c_t_now_crowd_home w6 w7 w8 x2 1
        else
          fn_X9_post_j50 w5 c_t_now_crowd_there c_t_now_crowd_home w6 w7 w8 x2 0
set_option maxHeartbeats 4000000 in
set_option maxRecDepth 100000 in
theorem wn_X9_post_j50 {p : Program} {l : Launch} {e : Env} {s : State} {m : MethodId} {args : Array Value} {below : List Frame} {meth : Method} {c : Code} {G : gw_} {A : Nat → Prop} {Q : State → Prop} {A_t : Nat} {A_t_now : Nat} {A_t_images : Nat} {A_t_pad : Nat} {A_t_evening : Nat} {A_t_ways : Nat} {A_t_tour : Nat} {A_t_odds : Nat} {A_t_now_marsh : Nat} {A_t_now_crowd : Nat} {A_t_now_sights : Nat} {A_t_now_marsh_codes : Nat} {A_t_now_crowd_at : Nat} {A_t_now_crowd_home : Nat} {A_t_now_crowd_light : Nat} {A_t_now_crowd_carries : Nat} {A_t_now_crowd_bearer : Nat} {A_t_ways_planks : Nat} {A_t_ways_least : Nat} {A_t_ways_neighbours : Nat} {c_t_measured : Int32} {z_t_measured : Int32} {c_t_now_marsh_codes : Nat → Int32} {c_t_now_crowd_there : Int32} {c_t_now_crowd_foggy : Int32} {c_t_now_crowd_home : Nat → Int32} {c_t_ways_planks : Nat → Int32} {z_t_ways_planks : Nat → Int32} {c_t_ways_least : Nat → Int32} {z_t_ways_least : Nat → Int32} {c_t_ways_neighbours : Nat → Int32} {z_t_ways_neighbours : Nat → Int32} {r : Int32} {x2 : Int32} {s0 : Int32} (hC : cx_ p s m c G cX9_post 5 RX9) (hret : ∀ (pc : Nat) (H : Heap) (locs : List Loc) (ls : Array Slot), decode cX9_post pc = .ok (.ireturn, 1) → wd_ G A s.heap (wl_X9_post G A_t A_t_now A_t_images A_t_pad A_t_evening A_t_ways A_t_tour A_t_odds A_t_now_marsh A_t_now_crowd A_t_now_sights A_t_now_marsh_codes A_t_now_crowd_at A_t_now_crowd_home A_t_now_crowd_light A_t_now_crowd_carries A_t_now_crowd_bearer A_t_ways_planks A_t_ways_least A_t_ways_neighbours z_t_measured c_t_now_marsh_codes c_t_now_crowd_there c_t_now_crowd_foggy c_t_now_crowd_home z_t_ways_planks z_t_ways_least z_t_ways_neighbours) H locs → W p l e { frames := 4, cells := 0, slots := 0, locals := 96 } s m args below meth c H locs 0 0 Q (F0 m pc ls [.int r]))  (hf : fn_X9_post_j50 c_t_measured c_t_now_crowd_there c_t_now_crowd_home c_t_ways_planks c_t_ways_least c_t_ways_neighbours x2 s0 = some (r, z_t_measured, z_t_ways_planks, z_t_ways_least, z_t_ways_neighbours)) {H : Heap} {locs : List Loc} {ls : Array Slot} (hl : lv_has ls 5 [(0, .ref A_t), (2, .int x2)]) (hw : wd_ G A s.heap (wl_X9_post G A_t A_t_now A_t_images A_t_pad A_t_evening A_t_ways A_t_tour A_t_odds A_t_now_marsh A_t_now_crowd A_t_now_sights A_t_now_marsh_codes A_t_now_crowd_at A_t_now_crowd_home A_t_now_crowd_light A_t_now_crowd_carries A_t_now_crowd_bearer A_t_ways_planks A_t_ways_least A_t_ways_neighbours c_t_measured c_t_now_marsh_codes c_t_now_crowd_there c_t_now_crowd_foggy c_t_now_crowd_home c_t_ways_planks c_t_ways_least c_t_ways_neighbours) H locs) : W p l e { frames := 4, cells := 0, slots := 0, locals := 96 } s m args below meth c H locs 0 0 Q (F0 m 50 ls [.int s0]) := by
  have hx := hC.1
  have hb := hC.2.1
  unfold fn_X9_post_j50 at hf
  refine lv_istore_n (lv' := [(3, .int s0), (0, .ref A_t), (2, .int x2)]) hx hb dX9_post_50 rfl hl (by decide) rfl (fun ls hl => ?_)
  refine lv_aload_n hx hb dX9_post_51 rfl (lv_at hl 1 rfl) ?_
  refine g_get hC hw fkX9_12 0 rfl rfl dX9_post_52 ?_
  refine g_get hC hw fkX9_81 1 rfl rfl dX9_post_55 ?_
  refine lv_aload_n hx hb dX9_post_58 rfl (lv_at hl 1 rfl) ?_
  refine g_get hC hw fkX9_37 0 rfl rfl dX9_post_59 ?_
  refine lv_iload_n hx hb dX9_post_62 rfl (lv_at hl 0 rfl) ?_
  obtain ⟨r10, hq11, hf⟩ := b1_s hf
  refine h_cVi hC hw mvX9_208 (cn_X0_bestPost l G A_t_now_crowd A_t_now_crowd_at A_t_now_crowd_home A_t_now_crowd_light A_t_now_crowd_carries A_t_now_crowd_bearer A_t_ways A_t_ways_planks A_t_ways_least A_t_ways_neighbours c_t_now_crowd_there c_t_now_crowd_foggy c_t_now_crowd_home c_t_ways_least s0 r10 hq11) [4, 5, 6, 8] rfl (by decide) 4 rfl rfl rfl hl.1 rfl (Nat.le_of_ble_eq_true rfl) ⟨Nat.le_of_ble_eq_true rfl, Nat.le_of_ble_eq_true rfl⟩ ⟨Nat.le_refl _, Nat.le_refl _⟩ dX9_post_63 (fun H locs hw => ?_)
  refine lv_istore (lv' := [(4, .int r10), (3, .int s0), (0, .ref A_t), (2, .int x2)]) hx hb dX9_post_66 hl (by decide) rfl (fun ls hl => ?_)
  refine lv_iload hx hb dX9_post_68 (lv_at hl 0 rfl) ?_
  refine lv_bipush (v := (-6)) hx hb dX9_post_70 (by decide) ?_
  refine lv_icmp_eq (tgt := 79) hx hb dX9_post_72 (by decide) (fun hc => ?_) (fun hc => ?_)
  · replace hf := it_t hc hf
    refine lv_iload hx hb dX9_post_79 (lv_at hl 0 rfl) ?_
    obtain ⟨h1_, h2_, h3_, h4_, h5_⟩ := t5_ hf
    subst h1_
    subst h2_
    subst h3_
    subst h4_
    subst h5_
    exact hret _ _ _ _ dX9_post_81 hw
  · replace hf := it_f hc hf
    refine lv_iload_n hx hb dX9_post_75 rfl (lv_at hl 3 rfl) ?_
    refine lv_if_ne (tgt := 82) hx hb dX9_post_76 (by decide) (fun hc => ?_) (fun hc => ?_)
    · replace hf := it_f hc hf
      refine lv_aload_n hx hb dX9_post_82 rfl (lv_at hl 2 rfl) ?_
      refine g_get hC hw fkX9_12 0 rfl rfl dX9_post_83 ?_
      refine g_get hC hw fkX9_81 1 rfl rfl dX9_post_86 ?_
      refine lv_aload_n hx hb dX9_post_89 rfl (lv_at hl 2 rfl) ?_
      refine g_get hC hw fkX9_37 0 rfl rfl dX9_post_90 ?_
      refine lv_iload hx hb dX9_post_93 (lv_at hl 0 rfl) ?_
      refine lv_iload_n hx hb dX9_post_95 rfl (lv_at hl 1 rfl) ?_
      obtain ⟨r12, hq13, hf⟩ := b1_s hf
      refine h_cVi hC hw mvX9_212 (cn_X0_postCosts l G A_t_now_crowd A_t_now_crowd_at A_t_now_crowd_home A_t_now_crowd_light A_t_now_crowd_carries A_t_now_crowd_bearer A_t_ways A_t_ways_planks A_t_ways_least A_t_ways_neighbours c_t_now_crowd_there c_t_now_crowd_foggy c_t_now_crowd_home c_t_ways_least r10 s0 r12 hq13) [4, 5, 6, 8] rfl (by decide) 4 rfl rfl rfl hl.1 rfl (Nat.le_of_ble_eq_true rfl) ⟨Nat.le_of_ble_eq_true rfl, Nat.le_of_ble_eq_true rfl⟩ ⟨Nat.le_refl _, Nat.le_refl _⟩ dX9_post_96 (fun H locs hw => ?_)
      obtain ⟨h1_, h2_, h3_, h4_, h5_⟩ := t5_ hf
      subst h1_
      subst h2_
      subst h3_
      subst h4_
      subst h5_
      exact hret _ _ _ _ dX9_post_99 hw
    · replace hf := it_t hc hf
      refine lv_iload hx hb dX9_post_79 (lv_at hl 0 rfl) ?_
      obtain ⟨h1_, h2_, h3_, h4_, h5_⟩ := t5_ hf
      subst h1_
      subst h2_
      subst h3_
      subst h4_
      subst h5_
      exact hret _ _ _ _ dX9_post_81 hw
set_option maxHeartbeats 4000000 in
set_option maxRecDepth 100000 in
theorem wn_X9_post {p : Program} {l : Launch} {e : Env} {s : State} {m : MethodId} {args : Array Value} {below : List Frame} {meth : Method} {c : Code} {G : gw_} {A : Nat → Prop} {Q : State → Prop} {A_t : Nat} {A_t_now : Nat} {A_t_images : Nat} {A_t_pad : Nat} {A_t_evening : Nat} {A_t_ways : Nat} {A_t_tour : Nat} {A_t_odds : Nat} {A_t_now_marsh : Nat} {A_t_now_crowd : Nat} {A_t_now_sights : Nat} {A_t_now_marsh_codes : Nat} {A_t_now_crowd_at : Nat} {A_t_now_crowd_home : Nat} {A_t_now_crowd_light : Nat} {A_t_now_crowd_carries : Nat} {A_t_now_crowd_bearer : Nat} {A_t_ways_planks : Nat} {A_t_ways_least : Nat} {A_t_ways_neighbours : Nat} {c_t_measured : Int32} {z_t_measured : Int32} {c_t_now_marsh_codes : Nat → Int32} {c_t_now_crowd_there : Int32} {c_t_now_crowd_foggy : Int32} {c_t_now_crowd_home : Nat → Int32} {c_t_ways_planks : Nat → Int32} {z_t_ways_planks : Nat → Int32} {c_t_ways_least : Nat → Int32} {z_t_ways_least : Nat → Int32} {c_t_ways_neighbours : Nat → Int32} {z_t_ways_neighbours : Nat → Int32} {r : Int32} {x1 : Int32} {x2 : Int32} (hC : cx_ p s m c G cX9_post 5 RX9) (hret : ∀ (pc : Nat) (H : Heap) (locs : List Loc) (ls : Array Slot), decode cX9_post pc = .ok (.ireturn, 1) → wd_ G A s.heap (wl_X9_post G A_t A_t_now A_t_images A_t_pad A_t_evening A_t_ways A_t_tour A_t_odds A_t_now_marsh A_t_now_crowd A_t_now_sights A_t_now_marsh_codes A_t_now_crowd_at A_t_now_crowd_home A_t_now_crowd_light A_t_now_crowd_carries A_t_now_crowd_bearer A_t_ways_planks A_t_ways_least A_t_ways_neighbours z_t_measured c_t_now_marsh_codes c_t_now_crowd_there c_t_now_crowd_foggy c_t_now_crowd_home z_t_ways_planks z_t_ways_least z_t_ways_neighbours) H locs → W p l e { frames := 4, cells := 0, slots := 0, locals := 96 } s m args below meth c H locs 0 0 Q (F0 m pc ls [.int r])) (hf : fn_X9_post c_t_measured c_t_now_marsh_codes c_t_now_crowd_there c_t_now_crowd_foggy c_t_now_crowd_home c_t_ways_planks c_t_ways_least c_t_ways_neighbours x1 x2 = some (r, z_t_measured, z_t_ways_planks, z_t_ways_least, z_t_ways_neighbours)) {H : Heap} {locs : List Loc} {ls : Array Slot} (hl : lv_has ls 5 [(0, .ref A_t), (1, .int x1), (2, .int x2)]) (hw : wd_ G A s.heap (wl_X9_post G A_t A_t_now A_t_images A_t_pad A_t_evening A_t_ways A_t_tour A_t_odds A_t_now_marsh A_t_now_crowd A_t_now_sights A_t_now_marsh_codes A_t_now_crowd_at A_t_now_crowd_home A_t_now_crowd_light A_t_now_crowd_carries A_t_now_crowd_bearer A_t_ways_planks A_t_ways_least A_t_ways_neighbours c_t_measured c_t_now_marsh_codes c_t_now_crowd_there c_t_now_crowd_foggy c_t_now_crowd_home c_t_ways_planks c_t_ways_least c_t_ways_neighbours) H locs) : W p l e { frames := 4, cells := 0, slots := 0, locals := 96 } s m args below meth c H locs 0 0 Q (F0 m 0 ls []) := by
  have hx := hC.1
  have hb := hC.2.1
  unfold fn_X9_post at hf
  refine lv_iload_n hx hb dX9_post_0 rfl (lv_at hl 1 rfl) ?_
  refine lv_iconst (v := 0) hx hb dX9_post_1 (by decide) ?_
  refine lv_iconst (v := 1) hx hb dX9_post_2 (by decide) ?_
  obtain ⟨r1, hq2, hf⟩ := b1_s hf
  refine h_cSi hC hw msX9_63 (cn_X9_isWithin l G x1 0 1 r1 hq2) [] rfl (by decide) rfl hl.1 rfl (Nat.le_of_ble_eq_true rfl) ⟨Nat.le_of_ble_eq_true rfl, Nat.le_of_ble_eq_true rfl⟩ ⟨Nat.le_refl _, Nat.le_refl _⟩ dX9_post_3 (fun H locs hw => ?_)
  refine lv_if_eq (tgt := 18) hx hb dX9_post_6 (by decide) (fun hc => ?_) (fun hc => ?_)
  · replace hf := it_t hc hf
    refine lv_bipush (v := (-2)) hx hb dX9_post_18 (by decide) ?_
    obtain ⟨h1_, h2_, h3_, h4_, h5_⟩ := t5_ hf
    subst h1_
    subst h2_
    subst h3_
    subst h4_
    subst h5_
    exact hret _ _ _ _ dX9_post_20 hw
  · replace hf := it_f hc hf
    refine lv_iload_n hx hb dX9_post_9 rfl (lv_at hl 2 rfl) ?_
    refine lv_iconst (v := 0) hx hb dX9_post_10 (by decide) ?_
    refine lv_iconst (v := 1) hx hb dX9_post_11 (by decide) ?_
    obtain ⟨r3, hq4, hf⟩ := b1_s hf
    refine h_cSi hC hw msX9_63 (cn_X9_isWithin l G x2 0 1 r3 hq4) [] rfl (by decide) rfl hl.1 rfl (Nat.le_of_ble_eq_true rfl) ⟨Nat.le_of_ble_eq_true rfl, Nat.le_of_ble_eq_true rfl⟩ ⟨Nat.le_refl _, Nat.le_refl _⟩ dX9_post_12 (fun H locs hw => ?_)
    refine lv_if_ne (tgt := 21) hx hb dX9_post_15 (by decide) (fun hc => ?_) (fun hc => ?_)
    · replace hf := it_f hc hf
      refine lv_aload_n hx hb dX9_post_21 rfl (lv_at hl 0 rfl) ?_
      refine g_get hC hw fkX9_12 0 rfl rfl dX9_post_22 ?_
      refine g_get hC hw fkX9_81 1 rfl rfl dX9_post_25 ?_
      refine g_get hC hw fkX9_205 4 rfl rfl dX9_post_28 ?_
      refine lv_if_ne (tgt := 37) hx hb dX9_post_31 (by decide) (fun hc => ?_) (fun hc => ?_)
      · replace hf := it_f hc hf
        refine lv_aload_n hx hb dX9_post_37 rfl (lv_at hl 0 rfl) ?_
        obtain ⟨w5, w6, w7, w8, hq9, hf⟩ := b4_s hf
        refine g_cVv hC hw mvX9_155 (cn_X9_measure l G A_t A_t_now A_t_images A_t_pad A_t_evening A_t_ways A_t_tour A_t_odds A_t_now_marsh A_t_now_crowd A_t_now_sights A_t_now_marsh_codes A_t_now_crowd_at A_t_now_crowd_home A_t_now_crowd_light A_t_now_crowd_carries A_t_now_crowd_bearer A_t_ways_planks A_t_ways_least A_t_ways_neighbours c_t_measured c_t_now_marsh_codes c_t_now_crowd_there c_t_now_crowd_foggy c_t_ways_planks c_t_ways_least c_t_ways_neighbours w5 w6 w7 w8 hq9) [0, 1, 2, 3, 4, 6, 7, 8, 9] rfl (by decide) rfl 0 rfl rfl rfl hl.1 rfl (Nat.le_of_ble_eq_true rfl) ⟨Nat.le_of_ble_eq_true rfl, Nat.le_of_ble_eq_true rfl⟩ ⟨Nat.le_refl _, Nat.le_refl _⟩ dX9_post_38 (fun H locs hw => ?_)
        have hw : wd_ G A s.heap (wl_X9_post G A_t A_t_now A_t_images A_t_pad A_t_evening A_t_ways A_t_tour A_t_odds A_t_now_marsh A_t_now_crowd A_t_now_sights A_t_now_marsh_codes A_t_now_crowd_at A_t_now_crowd_home A_t_now_crowd_light A_t_now_crowd_carries A_t_now_crowd_bearer A_t_ways_planks A_t_ways_least A_t_ways_neighbours w5 c_t_now_marsh_codes c_t_now_crowd_there c_t_now_crowd_foggy c_t_now_crowd_home w6 w7 w8) H locs := hw
        refine lv_iload_n hx hb dX9_post_41 rfl (lv_at hl 1 rfl) ?_
        refine lv_if_ne (tgt := 49) hx hb dX9_post_42 (by decide) (fun hc => ?_) (fun hc => ?_)
        · replace hf := it_f hc hf
          refine lv_iconst (v := 0) hx hb dX9_post_49 (by decide) ?_
          exact wn_X9_post_j50 hC hret hf (lv_sub hl [0, 2] rfl) hw
        · replace hf := it_t hc hf
          refine lv_iconst (v := 1) hx hb dX9_post_45 (by decide) ?_
          refine lv_goto (tgt := 50) hx hb dX9_post_46 (by decide) ?_
          exact wn_X9_post_j50 hC hret hf (lv_sub hl [0, 2] rfl) hw
      · replace hf := it_t hc hf
        refine lv_bipush (v := (-6)) hx hb dX9_post_34 (by decide) ?_
        obtain ⟨h1_, h2_, h3_, h4_, h5_⟩ := t5_ hf
        subst h1_
        subst h2_
        subst h3_
        subst h4_
        subst h5_
        exact hret _ _ _ _ dX9_post_36 hw
    · replace hf := it_t hc hf
      refine lv_bipush (v := (-2)) hx hb dX9_post_18 (by decide) ?_
      obtain ⟨h1_, h2_, h3_, h4_, h5_⟩ := t5_ hf
      subst h1_
      subst h2_
      subst h3_
      subst h4_
      subst h5_
      exact hret _ _ _ _ dX9_post_20 hw
set_option maxHeartbeats 4000000 in
set_option maxRecDepth 100000 in
theorem cn_X9_post (l : Launch) (G : gw_) (A_t : Nat) (A_t_now : Nat) (A_t_images : Nat) (A_t_pad : Nat) (A_t_evening : Nat) (A_t_ways : Nat) (A_t_tour : Nat) (A_t_odds : Nat) (A_t_now_marsh : Nat) (A_t_now_crowd : Nat) (A_t_now_sights : Nat) (A_t_now_marsh_codes : Nat) (A_t_now_crowd_at : Nat) (A_t_now_crowd_home : Nat) (A_t_now_crowd_light : Nat) (A_t_now_crowd_carries : Nat) (A_t_now_crowd_bearer : Nat) (A_t_ways_planks : Nat) (A_t_ways_least : Nat) (A_t_ways_neighbours : Nat) (c_t_measured : Int32) (c_t_now_marsh_codes : Nat → Int32) (c_t_now_crowd_there : Int32) (c_t_now_crowd_foggy : Int32) (c_t_now_crowd_home : Nat → Int32) (c_t_ways_planks : Nat → Int32) (c_t_ways_least : Nat → Int32) (c_t_ways_neighbours : Nat → Int32) (x1 : Int32) (x2 : Int32) (r : Int32) (z_t_measured : Int32) (z_t_ways_planks : Nat → Int32) (z_t_ways_least : Nat → Int32) (z_t_ways_neighbours : Nat → Int32) (hf : fn_X9_post c_t_measured c_t_now_marsh_codes c_t_now_crowd_there c_t_now_crowd_foggy c_t_now_crowd_home c_t_ways_planks c_t_ways_least c_t_ways_neighbours x1 x2 = some (r, z_t_measured, z_t_ways_planks, z_t_ways_least, z_t_ways_neighbours)) : ci_ l G yX9_post cX9_post 5 (some .int) 4 96 (wl_X9_post G A_t A_t_now A_t_images A_t_pad A_t_evening A_t_ways A_t_tour A_t_odds A_t_now_marsh A_t_now_crowd A_t_now_sights A_t_now_marsh_codes A_t_now_crowd_at A_t_now_crowd_home A_t_now_crowd_light A_t_now_crowd_carries A_t_now_crowd_bearer A_t_ways_planks A_t_ways_least A_t_ways_neighbours c_t_measured c_t_now_marsh_codes c_t_now_crowd_there c_t_now_crowd_foggy c_t_now_crowd_home c_t_ways_planks c_t_ways_least c_t_ways_neighbours) [.ref A_t, .int x1, .int x2] r (wl_X9_post G A_t A_t_now A_t_images A_t_pad A_t_evening A_t_ways A_t_tour A_t_odds A_t_now_marsh A_t_now_crowd A_t_now_sights A_t_now_marsh_codes A_t_now_crowd_at A_t_now_crowd_home A_t_now_crowd_light A_t_now_crowd_carries A_t_now_crowd_bearer A_t_ways_planks A_t_ways_least A_t_ways_neighbours z_t_measured c_t_now_marsh_codes c_t_now_crowd_there c_t_now_crowd_foggy c_t_now_crowd_home z_t_ways_planks z_t_ways_least z_t_ways_neighbours) := fun sz => met_intro (by decide) (Nat.le_of_ble_eq_true rfl) (fun p e s m args below meth c ls hsz hC hr hlk hnm hl hw => wn_X9_post hC (fun pc H locs ls hd hw => g_iret hC hr hlk hw rfl rfl hd) hf hl hw)

theorem dX9_by_0 : decode cX9_by 0 = .ok (.iload_n 1, 1) := by decide +kernel
theorem dX9_by_1 : decode cX9_by 1 = .ok (.invokestatic 59, 3) := by decide +kernel
theorem dX9_by_4 : decode cX9_by 4 = .ok (.ifCond .ne 5, 3) := by decide +kernel
theorem dX9_by_7 : decode cX9_by 7 = .ok (.iconst (-1), 1) := by decide +kernel
theorem dX9_by_8 : decode cX9_by 8 = .ok (.ireturn, 1) := by decide +kernel
theorem dX9_by_9 : decode cX9_by 9 = .ok (.aload_n 0, 1) := by decide +kernel
theorem dX9_by_10 : decode cX9_by 10 = .ok (.invokevirtual 155, 3) := by decide +kernel
theorem dX9_by_13 : decode cX9_by 13 = .ok (.aload_n 0, 1) := by decide +kernel
theorem dX9_by_14 : decode cX9_by 14 = .ok (.getfield 37, 3) := by decide +kernel
theorem dX9_by_17 : decode cX9_by 17 = .ok (.iload_n 1, 1) := by decide +kernel
theorem dX9_by_18 : decode cX9_by 18 = .ok (.invokevirtual 216, 3) := by decide +kernel
theorem dX9_by_21 : decode cX9_by 21 = .ok (.ireturn, 1) := by decide +kernel
abbrev wl_X9_by (G : gw_) (A_t : Nat) (A_t_now : Nat) (A_t_images : Nat) (A_t_pad : Nat) (A_t_evening : Nat) (A_t_ways : Nat) (A_t_tour : Nat) (A_t_odds : Nat) (A_t_now_marsh : Nat) (A_t_now_crowd : Nat) (A_t_now_sights : Nat) (A_t_now_marsh_codes : Nat) (A_t_now_crowd_at : Nat) (A_t_now_crowd_home : Nat) (A_t_now_crowd_light : Nat) (A_t_now_crowd_carries : Nat) (A_t_now_crowd_bearer : Nat) (A_t_ways_planks : Nat) (A_t_ways_least : Nat) (A_t_ways_neighbours : Nat) (c_t_measured : Int32) (c_t_now_marsh_codes : Nat → Int32) (c_t_now_crowd_there : Int32) (c_t_now_crowd_foggy : Int32) (c_t_ways_planks : Nat → Int32) (c_t_ways_least : Nat → Int32) (c_t_ways_neighbours : Nat → Int32) : va_W := [ob_ A_t 9 [.ref A_t_now, .ref A_t_images, .ref A_t_pad, .ref A_t_evening, .ref A_t_ways, .ref A_t_tour, .ref A_t_odds, .int c_t_measured], ob_ A_t_now 5 [.ref A_t_now_marsh, .ref A_t_now_crowd, .ref A_t_now_sights], ob_ A_t_now_marsh 2 [.ref A_t_now_marsh_codes], ia_ G A_t_now_marsh_codes 144 c_t_now_marsh_codes, ob_ A_t_now_crowd 0 [.int c_t_now_crowd_there, .int c_t_now_crowd_foggy, .ref A_t_now_crowd_at, .ref A_t_now_crowd_home, .ref A_t_now_crowd_light, .ref A_t_now_crowd_carries, .ref A_t_now_crowd_bearer], ob_ A_t_ways 8 [.ref A_t_ways_planks, .ref A_t_ways_least, .ref A_t_ways_neighbours], ia_ G A_t_ways_planks 144 c_t_ways_planks, ia_ G A_t_ways_least 144 c_t_ways_least, ia_ G A_t_ways_neighbours 12 c_t_ways_neighbours]
def fn_X9_by (c_t_measured : Int32) (c_t_now_marsh_codes : Nat → Int32) (c_t_now_crowd_foggy : Int32) (c_t_ways_planks : Nat → Int32) (c_t_ways_least : Nat → Int32) (c_t_ways_neighbours : Nat → Int32) (x1 : Int32) : Option (Int32 × Int32 × (Nat → Int32) × (Nat → Int32) × (Nat → Int32)) :=
  b1_ (fn_X9_isPlace x1) fun r1 =>
  if r1 = 0 then
    some ((-1), c_t_measured, c_t_ways_planks, c_t_ways_least, c_t_ways_neighbours)
  else
    b4_ (fn_X9_measure c_t_measured c_t_now_marsh_codes c_t_now_crowd_foggy c_t_ways_planks c_t_ways_least c_t_ways_neighbours) fun w3 w4 w5 w6 =>
    b1_ (fn_X8_countPassing w5 x1) fun r8 =>
    some (r8, w3, w4, w5, w6)
set_option maxHeartbeats 4000000 in
set_option maxRecDepth 100000 in
theorem wn_X9_by {p : Program} {l : Launch} {e : Env} {s : State} {m : MethodId} {args : Array Value} {below : List Frame} {meth : Method} {c : Code} {G : gw_} {A : Nat → Prop} {Q : State → Prop} {A_t : Nat} {A_t_now : Nat} {A_t_images : Nat} {A_t_pad : Nat} {A_t_evening : Nat} {A_t_ways : Nat} {A_t_tour : Nat} {A_t_odds : Nat} {A_t_now_marsh : Nat} {A_t_now_crowd : Nat} {A_t_now_sights : Nat} {A_t_now_marsh_codes : Nat} {A_t_now_crowd_at : Nat} {A_t_now_crowd_home : Nat} {A_t_now_crowd_light : Nat} {A_t_now_crowd_carries : Nat} {A_t_now_crowd_bearer : Nat} {A_t_ways_planks : Nat} {A_t_ways_least : Nat} {A_t_ways_neighbours : Nat} {c_t_measured : Int32} {z_t_measured : Int32} {c_t_now_marsh_codes : Nat → Int32} {c_t_now_crowd_there : Int32} {c_t_now_crowd_foggy : Int32} {c_t_ways_planks : Nat → Int32} {z_t_ways_planks : Nat → Int32} {c_t_ways_least : Nat → Int32} {z_t_ways_least : Nat → Int32} {c_t_ways_neighbours : Nat → Int32} {z_t_ways_neighbours : Nat → Int32} {r : Int32} {x1 : Int32} (hC : cx_ p s m c G cX9_by 2 RX9) (hret : ∀ (pc : Nat) (H : Heap) (locs : List Loc) (ls : Array Slot), decode cX9_by pc = .ok (.ireturn, 1) → wd_ G A s.heap (wl_X9_by G A_t A_t_now A_t_images A_t_pad A_t_evening A_t_ways A_t_tour A_t_odds A_t_now_marsh A_t_now_crowd A_t_now_sights A_t_now_marsh_codes A_t_now_crowd_at A_t_now_crowd_home A_t_now_crowd_light A_t_now_crowd_carries A_t_now_crowd_bearer A_t_ways_planks A_t_ways_least A_t_ways_neighbours z_t_measured c_t_now_marsh_codes c_t_now_crowd_there c_t_now_crowd_foggy z_t_ways_planks z_t_ways_least z_t_ways_neighbours) H locs → W p l e { frames := 4, cells := 0, slots := 0, locals := 92 } s m args below meth c H locs 0 0 Q (F0 m pc ls [.int r])) (hf : fn_X9_by c_t_measured c_t_now_marsh_codes c_t_now_crowd_foggy c_t_ways_planks c_t_ways_least c_t_ways_neighbours x1 = some (r, z_t_measured, z_t_ways_planks, z_t_ways_least, z_t_ways_neighbours)) {H : Heap} {locs : List Loc} {ls : Array Slot} (hl : lv_has ls 2 [(0, .ref A_t), (1, .int x1)]) (hw : wd_ G A s.heap (wl_X9_by G A_t A_t_now A_t_images A_t_pad A_t_evening A_t_ways A_t_tour A_t_odds A_t_now_marsh A_t_now_crowd A_t_now_sights A_t_now_marsh_codes A_t_now_crowd_at A_t_now_crowd_home A_t_now_crowd_light A_t_now_crowd_carries A_t_now_crowd_bearer A_t_ways_planks A_t_ways_least A_t_ways_neighbours c_t_measured c_t_now_marsh_codes c_t_now_crowd_there c_t_now_crowd_foggy c_t_ways_planks c_t_ways_least c_t_ways_neighbours) H locs) : W p l e { frames := 4, cells := 0, slots := 0, locals := 92 } s m args below meth c H locs 0 0 Q (F0 m 0 ls []) := by
  have hx := hC.1
  have hb := hC.2.1
  unfold fn_X9_by at hf
  refine lv_iload_n hx hb dX9_by_0 rfl (lv_at hl 1 rfl) ?_
  obtain ⟨r1, hq2, hf⟩ := b1_s hf
  refine h_cSi hC hw msX9_59 (cn_X9_isPlace l G x1 r1 hq2) [] rfl (by decide) rfl hl.1 rfl (Nat.le_of_ble_eq_true rfl) ⟨Nat.le_of_ble_eq_true rfl, Nat.le_of_ble_eq_true rfl⟩ ⟨Nat.le_refl _, Nat.le_refl _⟩ dX9_by_1 (fun H locs hw => ?_)
  refine lv_if_ne (tgt := 9) hx hb dX9_by_4 (by decide) (fun hc => ?_) (fun hc => ?_)
  · replace hf := it_f hc hf
    refine lv_aload_n hx hb dX9_by_9 rfl (lv_at hl 0 rfl) ?_
    obtain ⟨w3, w4, w5, w6, hq7, hf⟩ := b4_s hf
    refine g_cVv hC hw mvX9_155 (cn_X9_measure l G A_t A_t_now A_t_images A_t_pad A_t_evening A_t_ways A_t_tour A_t_odds A_t_now_marsh A_t_now_crowd A_t_now_sights A_t_now_marsh_codes A_t_now_crowd_at A_t_now_crowd_home A_t_now_crowd_light A_t_now_crowd_carries A_t_now_crowd_bearer A_t_ways_planks A_t_ways_least A_t_ways_neighbours c_t_measured c_t_now_marsh_codes c_t_now_crowd_there c_t_now_crowd_foggy c_t_ways_planks c_t_ways_least c_t_ways_neighbours w3 w4 w5 w6 hq7) [0, 1, 2, 3, 4, 5, 6, 7, 8] rfl (by decide) rfl 0 rfl rfl rfl hl.1 rfl (Nat.le_of_ble_eq_true rfl) ⟨Nat.le_of_ble_eq_true rfl, Nat.le_of_ble_eq_true rfl⟩ ⟨Nat.le_refl _, Nat.le_refl _⟩ dX9_by_10 (fun H locs hw => ?_)
    have hw : wd_ G A s.heap (wl_X9_by G A_t A_t_now A_t_images A_t_pad A_t_evening A_t_ways A_t_tour A_t_odds A_t_now_marsh A_t_now_crowd A_t_now_sights A_t_now_marsh_codes A_t_now_crowd_at A_t_now_crowd_home A_t_now_crowd_light A_t_now_crowd_carries A_t_now_crowd_bearer A_t_ways_planks A_t_ways_least A_t_ways_neighbours w3 c_t_now_marsh_codes c_t_now_crowd_there c_t_now_crowd_foggy w4 w5 w6) H locs := hw
    refine lv_aload_n hx hb dX9_by_13 rfl (lv_at hl 0 rfl) ?_
    refine g_get hC hw fkX9_37 0 rfl rfl dX9_by_14 ?_
    refine lv_iload_n hx hb dX9_by_17 rfl (lv_at hl 1 rfl) ?_
    obtain ⟨r8, hq9, hf⟩ := b1_s hf
    refine h_cVi hC hw mvX9_216 (cn_X8_countPassing l G A_t_ways A_t_ways_planks A_t_ways_least A_t_ways_neighbours w5 x1 r8 hq9) [5, 7] rfl (by decide) 5 rfl rfl rfl hl.1 rfl (Nat.le_of_ble_eq_true rfl) ⟨Nat.le_of_ble_eq_true rfl, Nat.le_of_ble_eq_true rfl⟩ ⟨Nat.le_refl _, Nat.le_refl _⟩ dX9_by_18 (fun H locs hw => ?_)
    obtain ⟨h1_, h2_, h3_, h4_, h5_⟩ := t5_ hf
    subst h1_
    subst h2_
    subst h3_
    subst h4_
    subst h5_
    exact hret _ _ _ _ dX9_by_21 hw
  · replace hf := it_t hc hf
    refine lv_iconst (v := (-1)) hx hb dX9_by_7 (by decide) ?_
    obtain ⟨h1_, h2_, h3_, h4_, h5_⟩ := t5_ hf
    subst h1_
    subst h2_
    subst h3_
    subst h4_
    subst h5_
    exact hret _ _ _ _ dX9_by_8 hw
set_option maxHeartbeats 4000000 in
set_option maxRecDepth 100000 in
theorem cn_X9_by (l : Launch) (G : gw_) (A_t : Nat) (A_t_now : Nat) (A_t_images : Nat) (A_t_pad : Nat) (A_t_evening : Nat) (A_t_ways : Nat) (A_t_tour : Nat) (A_t_odds : Nat) (A_t_now_marsh : Nat) (A_t_now_crowd : Nat) (A_t_now_sights : Nat) (A_t_now_marsh_codes : Nat) (A_t_now_crowd_at : Nat) (A_t_now_crowd_home : Nat) (A_t_now_crowd_light : Nat) (A_t_now_crowd_carries : Nat) (A_t_now_crowd_bearer : Nat) (A_t_ways_planks : Nat) (A_t_ways_least : Nat) (A_t_ways_neighbours : Nat) (c_t_measured : Int32) (c_t_now_marsh_codes : Nat → Int32) (c_t_now_crowd_there : Int32) (c_t_now_crowd_foggy : Int32) (c_t_ways_planks : Nat → Int32) (c_t_ways_least : Nat → Int32) (c_t_ways_neighbours : Nat → Int32) (x1 : Int32) (r : Int32) (z_t_measured : Int32) (z_t_ways_planks : Nat → Int32) (z_t_ways_least : Nat → Int32) (z_t_ways_neighbours : Nat → Int32) (hf : fn_X9_by c_t_measured c_t_now_marsh_codes c_t_now_crowd_foggy c_t_ways_planks c_t_ways_least c_t_ways_neighbours x1 = some (r, z_t_measured, z_t_ways_planks, z_t_ways_least, z_t_ways_neighbours)) : ci_ l G yX9_by cX9_by 2 (some .int) 4 92 (wl_X9_by G A_t A_t_now A_t_images A_t_pad A_t_evening A_t_ways A_t_tour A_t_odds A_t_now_marsh A_t_now_crowd A_t_now_sights A_t_now_marsh_codes A_t_now_crowd_at A_t_now_crowd_home A_t_now_crowd_light A_t_now_crowd_carries A_t_now_crowd_bearer A_t_ways_planks A_t_ways_least A_t_ways_neighbours c_t_measured c_t_now_marsh_codes c_t_now_crowd_there c_t_now_crowd_foggy c_t_ways_planks c_t_ways_least c_t_ways_neighbours) [.ref A_t, .int x1] r (wl_X9_by G A_t A_t_now A_t_images A_t_pad A_t_evening A_t_ways A_t_tour A_t_odds A_t_now_marsh A_t_now_crowd A_t_now_sights A_t_now_marsh_codes A_t_now_crowd_at A_t_now_crowd_home A_t_now_crowd_light A_t_now_crowd_carries A_t_now_crowd_bearer A_t_ways_planks A_t_ways_least A_t_ways_neighbours z_t_measured c_t_now_marsh_codes c_t_now_crowd_there c_t_now_crowd_foggy z_t_ways_planks z_t_ways_least z_t_ways_neighbours) := fun sz => met_intro (by decide) (Nat.le_of_ble_eq_true rfl) (fun p e s m args below meth c ls hsz hC hr hlk hnm hl hw => wn_X9_by hC (fun pc H locs ls hd hw => g_iret hC hr hlk hw rfl rfl hd) hf hl hw)

theorem dX9_seen_0 : decode cX9_seen 0 = .ok (.iload_n 1, 1) := by decide +kernel
theorem dX9_seen_1 : decode cX9_seen 1 = .ok (.invokestatic 59, 3) := by decide +kernel
theorem dX9_seen_4 : decode cX9_seen 4 = .ok (.ifCond .ne 5, 3) := by decide +kernel
theorem dX9_seen_7 : decode cX9_seen 7 = .ok (.iconst (-1), 1) := by decide +kernel
theorem dX9_seen_8 : decode cX9_seen 8 = .ok (.ireturn, 1) := by decide +kernel
theorem dX9_seen_9 : decode cX9_seen 9 = .ok (.iload_n 2, 1) := by decide +kernel
theorem dX9_seen_10 : decode cX9_seen 10 = .ok (.iconst 0, 1) := by decide +kernel
theorem dX9_seen_11 : decode cX9_seen 11 = .ok (.sipush 999, 3) := by decide +kernel
theorem dX9_seen_14 : decode cX9_seen 14 = .ok (.invokestatic 63, 3) := by decide +kernel
theorem dX9_seen_17 : decode cX9_seen 17 = .ok (.ifCond .ne 6, 3) := by decide +kernel
theorem dX9_seen_20 : decode cX9_seen 20 = .ok (.bipush (-2), 2) := by decide +kernel
theorem dX9_seen_22 : decode cX9_seen 22 = .ok (.ireturn, 1) := by decide +kernel
theorem dX9_seen_23 : decode cX9_seen 23 = .ok (.aload_n 0, 1) := by decide +kernel
theorem dX9_seen_24 : decode cX9_seen 24 = .ok (.getfield 12, 3) := by decide +kernel
theorem dX9_seen_27 : decode cX9_seen 27 = .ok (.getfield 219, 3) := by decide +kernel
theorem dX9_seen_30 : decode cX9_seen 30 = .ok (.getfield 223, 3) := by decide +kernel
theorem dX9_seen_33 : decode cX9_seen 33 = .ok (.bipush 8, 2) := by decide +kernel
theorem dX9_seen_35 : decode cX9_seen 35 = .ok (.if_icmp .lt 6, 3) := by decide +kernel
theorem dX9_seen_38 : decode cX9_seen 38 = .ok (.bipush (-4), 2) := by decide +kernel
theorem dX9_seen_40 : decode cX9_seen 40 = .ok (.ireturn, 1) := by decide +kernel
theorem dX9_seen_41 : decode cX9_seen 41 = .ok (.aload_n 0, 1) := by decide +kernel
theorem dX9_seen_42 : decode cX9_seen 42 = .ok (.getfield 12, 3) := by decide +kernel
theorem dX9_seen_45 : decode cX9_seen 45 = .ok (.getfield 219, 3) := by decide +kernel
theorem dX9_seen_48 : decode cX9_seen 48 = .ok (.iload_n 1, 1) := by decide +kernel
theorem dX9_seen_49 : decode cX9_seen 49 = .ok (.iload_n 2, 1) := by decide +kernel
theorem dX9_seen_50 : decode cX9_seen 50 = .ok (.invokevirtual 226, 3) := by decide +kernel
theorem dX9_seen_53 : decode cX9_seen 53 = .ok (.aload_n 0, 1) := by decide +kernel
theorem dX9_seen_54 : decode cX9_seen 54 = .ok (.getfield 12, 3) := by decide +kernel
theorem dX9_seen_57 : decode cX9_seen 57 = .ok (.getfield 219, 3) := by decide +kernel
theorem dX9_seen_60 : decode cX9_seen 60 = .ok (.getfield 223, 3) := by decide +kernel
theorem dX9_seen_63 : decode cX9_seen 63 = .ok (.ireturn, 1) := by decide +kernel
abbrev wl_X9_seen (G : gw_) (A_t : Nat) (A_t_now : Nat) (A_t_images : Nat) (A_t_pad : Nat) (A_t_evening : Nat) (A_t_ways : Nat) (A_t_tour : Nat) (A_t_odds : Nat) (A_t_now_marsh : Nat) (A_t_now_crowd : Nat) (A_t_now_sights : Nat) (A_t_now_sights_places : Nat) (A_t_now_sights_lights : Nat) (c_t_measured : Int32) (c_t_now_sights_count : Int32) (c_t_now_sights_places : Nat → Int32) (c_t_now_sights_lights : Nat → Int32) : va_W := [ob_ A_t 9 [.ref A_t_now, .ref A_t_images, .ref A_t_pad, .ref A_t_evening, .ref A_t_ways, .ref A_t_tour, .ref A_t_odds, .int c_t_measured], ob_ A_t_now 5 [.ref A_t_now_marsh, .ref A_t_now_crowd, .ref A_t_now_sights], ob_ A_t_now_sights 6 [.int c_t_now_sights_count, .ref A_t_now_sights_places, .ref A_t_now_sights_lights], ia_ G A_t_now_sights_places 8 c_t_now_sights_places, ia_ G A_t_now_sights_lights 8 c_t_now_sights_lights]
def fn_X9_seen (c_t_now_sights_count : Int32) (c_t_now_sights_places : Nat → Int32) (c_t_now_sights_lights : Nat → Int32) (x1 : Int32) (x2 : Int32) : Option (Int32 × Int32 × (Nat → Int32) × (Nat → Int32)) :=
  b1_ (fn_X9_isPlace x1) fun r1 =>
  if r1 = 0 then
    some ((-1), c_t_now_sights_count, c_t_now_sights_places, c_t_now_sights_lights)
  else
    b1_ (fn_X9_isWithin x2 0 999) fun r3 =>
    if r3 = 0 then
      some ((-2), c_t_now_sights_count, c_t_now_sights_places, c_t_now_sights_lights)
    else
      if c_t_now_sights_count < 8 then
        b3_ (fn_X6_add c_t_now_sights_count c_t_now_sights_places c_t_now_sights_lights x1 x2) fun w5 w6 w7 =>
        some (w5, w5, w6, w7)
      else
        some ((-4), c_t_now_sights_count, c_t_now_sights_places, c_t_now_sights_lights)
set_option maxHeartbeats 4000000 in
set_option maxRecDepth 100000 in
theorem wn_X9_seen {p : Program} {l : Launch} {e : Env} {s : State} {m : MethodId} {args : Array Value} {below : List Frame} {meth : Method} {c : Code} {G : gw_} {A : Nat → Prop} {Q : State → Prop} {A_t : Nat} {A_t_now : Nat} {A_t_images : Nat} {A_t_pad : Nat} {A_t_evening : Nat} {A_t_ways : Nat} {A_t_tour : Nat} {A_t_odds : Nat} {A_t_now_marsh : Nat} {A_t_now_crowd : Nat} {A_t_now_sights : Nat} {A_t_now_sights_places : Nat} {A_t_now_sights_lights : Nat} {c_t_measured : Int32} {c_t_now_sights_count : Int32} {z_t_now_sights_count : Int32} {c_t_now_sights_places : Nat → Int32} {z_t_now_sights_places : Nat → Int32} {c_t_now_sights_lights : Nat → Int32} {z_t_now_sights_lights : Nat → Int32} {r : Int32} {x1 : Int32} {x2 : Int32} (hC : cx_ p s m c G cX9_seen 3 RX9) (hret : ∀ (pc : Nat) (H : Heap) (locs : List Loc) (ls : Array Slot), decode cX9_seen pc = .ok (.ireturn, 1) → wd_ G A s.heap (wl_X9_seen G A_t A_t_now A_t_images A_t_pad A_t_evening A_t_ways A_t_tour A_t_odds A_t_now_marsh A_t_now_crowd A_t_now_sights A_t_now_sights_places A_t_now_sights_lights c_t_measured z_t_now_sights_count z_t_now_sights_places z_t_now_sights_lights) H locs → W p l e { frames := 2, cells := 0, slots := 0, locals := 42 } s m args below meth c H locs 0 0 Q (F0 m pc ls [.int r])) (hf : fn_X9_seen c_t_now_sights_count c_t_now_sights_places c_t_now_sights_lights x1 x2 = some (r, z_t_now_sights_count, z_t_now_sights_places, z_t_now_sights_lights)) {H : Heap} {locs : List Loc} {ls : Array Slot} (hl : lv_has ls 3 [(0, .ref A_t), (1, .int x1), (2, .int x2)]) (hw : wd_ G A s.heap (wl_X9_seen G A_t A_t_now A_t_images A_t_pad A_t_evening A_t_ways A_t_tour A_t_odds A_t_now_marsh A_t_now_crowd A_t_now_sights A_t_now_sights_places A_t_now_sights_lights c_t_measured c_t_now_sights_count c_t_now_sights_places c_t_now_sights_lights) H locs) : W p l e { frames := 2, cells := 0, slots := 0, locals := 42 } s m args below meth c H locs 0 0 Q (F0 m 0 ls []) := by
  have hx := hC.1
  have hb := hC.2.1
  unfold fn_X9_seen at hf
  refine lv_iload_n hx hb dX9_seen_0 rfl (lv_at hl 1 rfl) ?_
  obtain ⟨r1, hq2, hf⟩ := b1_s hf
  refine h_cSi hC hw msX9_59 (cn_X9_isPlace l G x1 r1 hq2) [] rfl (by decide) rfl hl.1 rfl (Nat.le_of_ble_eq_true rfl) ⟨Nat.le_of_ble_eq_true rfl, Nat.le_of_ble_eq_true rfl⟩ ⟨Nat.le_refl _, Nat.le_refl _⟩ dX9_seen_1 (fun H locs hw => ?_)
  refine lv_if_ne (tgt := 9) hx hb dX9_seen_4 (by decide) (fun hc => ?_) (fun hc => ?_)
  · replace hf := it_f hc hf
    refine lv_iload_n hx hb dX9_seen_9 rfl (lv_at hl 2 rfl) ?_
    refine lv_iconst (v := 0) hx hb dX9_seen_10 (by decide) ?_
    refine lv_sipush (v := 999) hx hb dX9_seen_11 (by decide) ?_
    obtain ⟨r3, hq4, hf⟩ := b1_s hf
    refine h_cSi hC hw msX9_63 (cn_X9_isWithin l G x2 0 999 r3 hq4) [] rfl (by decide) rfl hl.1 rfl (Nat.le_of_ble_eq_true rfl) ⟨Nat.le_of_ble_eq_true rfl, Nat.le_of_ble_eq_true rfl⟩ ⟨Nat.le_refl _, Nat.le_refl _⟩ dX9_seen_14 (fun H locs hw => ?_)
    refine lv_if_ne (tgt := 23) hx hb dX9_seen_17 (by decide) (fun hc => ?_) (fun hc => ?_)
    · replace hf := it_f hc hf
      refine lv_aload_n hx hb dX9_seen_23 rfl (lv_at hl 0 rfl) ?_
      refine g_get hC hw fkX9_12 0 rfl rfl dX9_seen_24 ?_
      refine g_get hC hw fkX9_219 1 rfl rfl dX9_seen_27 ?_
      refine g_get hC hw fkX9_223 2 rfl rfl dX9_seen_30 ?_
      refine lv_bipush (v := 8) hx hb dX9_seen_33 (by decide) ?_
      refine lv_icmp_lt (tgt := 41) hx hb dX9_seen_35 (by decide) (fun hc => ?_) (fun hc => ?_)
      · replace hf := it_t hc hf
        refine lv_aload_n hx hb dX9_seen_41 rfl (lv_at hl 0 rfl) ?_
        refine g_get hC hw fkX9_12 0 rfl rfl dX9_seen_42 ?_
        refine g_get hC hw fkX9_219 1 rfl rfl dX9_seen_45 ?_
        refine lv_iload_n hx hb dX9_seen_48 rfl (lv_at hl 1 rfl) ?_
        refine lv_iload_n hx hb dX9_seen_49 rfl (lv_at hl 2 rfl) ?_
        obtain ⟨w5, w6, w7, hq8, hf⟩ := b3_s hf
        refine g_cVv hC hw mvX9_226 (cn_X6_add l G A_t_now_sights A_t_now_sights_places A_t_now_sights_lights c_t_now_sights_count c_t_now_sights_places c_t_now_sights_lights x1 x2 w5 w6 w7 hq8) [2, 3, 4] rfl (by decide) rfl 2 rfl rfl rfl hl.1 rfl (Nat.le_of_ble_eq_true rfl) ⟨Nat.le_of_ble_eq_true rfl, Nat.le_of_ble_eq_true rfl⟩ ⟨Nat.le_refl _, Nat.le_refl _⟩ dX9_seen_50 (fun H locs hw => ?_)
        have hw : wd_ G A s.heap (wl_X9_seen G A_t A_t_now A_t_images A_t_pad A_t_evening A_t_ways A_t_tour A_t_odds A_t_now_marsh A_t_now_crowd A_t_now_sights A_t_now_sights_places A_t_now_sights_lights c_t_measured w5 w6 w7) H locs := hw
        refine lv_aload_n hx hb dX9_seen_53 rfl (lv_at hl 0 rfl) ?_
        refine g_get hC hw fkX9_12 0 rfl rfl dX9_seen_54 ?_
        refine g_get hC hw fkX9_219 1 rfl rfl dX9_seen_57 ?_
        refine g_get hC hw fkX9_223 2 rfl rfl dX9_seen_60 ?_
        obtain ⟨h1_, h2_, h3_, h4_⟩ := t4_ hf
        subst h1_
        subst h2_
        subst h3_
        subst h4_
        exact hret _ _ _ _ dX9_seen_63 hw
      · replace hf := it_f hc hf
        refine lv_bipush (v := (-4)) hx hb dX9_seen_38 (by decide) ?_
        obtain ⟨h1_, h2_, h3_, h4_⟩ := t4_ hf
        subst h1_
        subst h2_
        subst h3_
        subst h4_
        exact hret _ _ _ _ dX9_seen_40 hw
    · replace hf := it_t hc hf
      refine lv_bipush (v := (-2)) hx hb dX9_seen_20 (by decide) ?_
      obtain ⟨h1_, h2_, h3_, h4_⟩ := t4_ hf
      subst h1_
      subst h2_
      subst h3_
      subst h4_
      exact hret _ _ _ _ dX9_seen_22 hw
  · replace hf := it_t hc hf
    refine lv_iconst (v := (-1)) hx hb dX9_seen_7 (by decide) ?_
    obtain ⟨h1_, h2_, h3_, h4_⟩ := t4_ hf
    subst h1_
    subst h2_
    subst h3_
    subst h4_
    exact hret _ _ _ _ dX9_seen_8 hw
set_option maxHeartbeats 4000000 in
set_option maxRecDepth 100000 in
theorem cn_X9_seen (l : Launch) (G : gw_) (A_t : Nat) (A_t_now : Nat) (A_t_images : Nat) (A_t_pad : Nat) (A_t_evening : Nat) (A_t_ways : Nat) (A_t_tour : Nat) (A_t_odds : Nat) (A_t_now_marsh : Nat) (A_t_now_crowd : Nat) (A_t_now_sights : Nat) (A_t_now_sights_places : Nat) (A_t_now_sights_lights : Nat) (c_t_measured : Int32) (c_t_now_sights_count : Int32) (c_t_now_sights_places : Nat → Int32) (c_t_now_sights_lights : Nat → Int32) (x1 : Int32) (x2 : Int32) (r : Int32) (z_t_now_sights_count : Int32) (z_t_now_sights_places : Nat → Int32) (z_t_now_sights_lights : Nat → Int32) (hf : fn_X9_seen c_t_now_sights_count c_t_now_sights_places c_t_now_sights_lights x1 x2 = some (r, z_t_now_sights_count, z_t_now_sights_places, z_t_now_sights_lights)) : ci_ l G yX9_seen cX9_seen 3 (some .int) 2 42 (wl_X9_seen G A_t A_t_now A_t_images A_t_pad A_t_evening A_t_ways A_t_tour A_t_odds A_t_now_marsh A_t_now_crowd A_t_now_sights A_t_now_sights_places A_t_now_sights_lights c_t_measured c_t_now_sights_count c_t_now_sights_places c_t_now_sights_lights) [.ref A_t, .int x1, .int x2] r (wl_X9_seen G A_t A_t_now A_t_images A_t_pad A_t_evening A_t_ways A_t_tour A_t_odds A_t_now_marsh A_t_now_crowd A_t_now_sights A_t_now_sights_places A_t_now_sights_lights c_t_measured z_t_now_sights_count z_t_now_sights_places z_t_now_sights_lights) := fun sz => met_intro (by decide) (Nat.le_of_ble_eq_true rfl) (fun p e s m args below meth c ls hsz hC hr hlk hnm hl hw => wn_X9_seen hC (fun pc H locs ls hd hw => g_iret hC hr hlk hw rfl rfl hd) hf hl hw)

theorem dX9_forget_0 : decode cX9_forget 0 = .ok (.aload_n 0, 1) := by decide +kernel
theorem dX9_forget_1 : decode cX9_forget 1 = .ok (.getfield 12, 3) := by decide +kernel
theorem dX9_forget_4 : decode cX9_forget 4 = .ok (.getfield 219, 3) := by decide +kernel
theorem dX9_forget_7 : decode cX9_forget 7 = .ok (.getfield 223, 3) := by decide +kernel
theorem dX9_forget_10 : decode cX9_forget 10 = .ok (.istore_n 1, 1) := by decide +kernel
theorem dX9_forget_11 : decode cX9_forget 11 = .ok (.aload_n 0, 1) := by decide +kernel
theorem dX9_forget_12 : decode cX9_forget 12 = .ok (.getfield 12, 3) := by decide +kernel
theorem dX9_forget_15 : decode cX9_forget 15 = .ok (.getfield 219, 3) := by decide +kernel
theorem dX9_forget_18 : decode cX9_forget 18 = .ok (.invokevirtual 229, 3) := by decide +kernel
theorem dX9_forget_21 : decode cX9_forget 21 = .ok (.iload_n 1, 1) := by decide +kernel
theorem dX9_forget_22 : decode cX9_forget 22 = .ok (.ireturn, 1) := by decide +kernel
abbrev wl_X9_forget (G : gw_) (A_t : Nat) (A_t_now : Nat) (A_t_images : Nat) (A_t_pad : Nat) (A_t_evening : Nat) (A_t_ways : Nat) (A_t_tour : Nat) (A_t_odds : Nat) (A_t_now_marsh : Nat) (A_t_now_crowd : Nat) (A_t_now_sights : Nat) (A_t_now_sights_places : Nat) (A_t_now_sights_lights : Nat) (c_t_measured : Int32) (c_t_now_sights_count : Int32) : va_W := [ob_ A_t 9 [.ref A_t_now, .ref A_t_images, .ref A_t_pad, .ref A_t_evening, .ref A_t_ways, .ref A_t_tour, .ref A_t_odds, .int c_t_measured], ob_ A_t_now 5 [.ref A_t_now_marsh, .ref A_t_now_crowd, .ref A_t_now_sights], ob_ A_t_now_sights 6 [.int c_t_now_sights_count, .ref A_t_now_sights_places, .ref A_t_now_sights_lights]]
def fn_X9_forget (c_t_now_sights_count : Int32) : Option (Int32 × Int32) :=
  b1_ (fn_X6_clear c_t_now_sights_count) fun w1 =>
  some (c_t_now_sights_count, w1)
set_option maxHeartbeats 4000000 in
set_option maxRecDepth 100000 in
theorem wn_X9_forget {p : Program} {l : Launch} {e : Env} {s : State} {m : MethodId} {args : Array Value} {below : List Frame} {meth : Method} {c : Code} {G : gw_} {A : Nat → Prop} {Q : State → Prop} {A_t : Nat} {A_t_now : Nat} {A_t_images : Nat} {A_t_pad : Nat} {A_t_evening : Nat} {A_t_ways : Nat} {A_t_tour : Nat} {A_t_odds : Nat} {A_t_now_marsh : Nat} {A_t_now_crowd : Nat} {A_t_now_sights : Nat} {A_t_now_sights_places : Nat} {A_t_now_sights_lights : Nat} {c_t_measured : Int32} {c_t_now_sights_count : Int32} {z_t_now_sights_count : Int32} {r : Int32} (hC : cx_ p s m c G cX9_forget 2 RX9) (hret : ∀ (pc : Nat) (H : Heap) (locs : List Loc) (ls : Array Slot), decode cX9_forget pc = .ok (.ireturn, 1) → wd_ G A s.heap (wl_X9_forget G A_t A_t_now A_t_images A_t_pad A_t_evening A_t_ways A_t_tour A_t_odds A_t_now_marsh A_t_now_crowd A_t_now_sights A_t_now_sights_places A_t_now_sights_lights c_t_measured z_t_now_sights_count) H locs → W p l e { frames := 1, cells := 0, slots := 0, locals := 20 } s m args below meth c H locs 0 0 Q (F0 m pc ls [.int r])) (hf : fn_X9_forget c_t_now_sights_count = some (r, z_t_now_sights_count)) {H : Heap} {locs : List Loc} {ls : Array Slot} (hl : lv_has ls 2 [(0, .ref A_t)]) (hw : wd_ G A s.heap (wl_X9_forget G A_t A_t_now A_t_images A_t_pad A_t_evening A_t_ways A_t_tour A_t_odds A_t_now_marsh A_t_now_crowd A_t_now_sights A_t_now_sights_places A_t_now_sights_lights c_t_measured c_t_now_sights_count) H locs) : W p l e { frames := 1, cells := 0, slots := 0, locals := 20 } s m args below meth c H locs 0 0 Q (F0 m 0 ls []) := by
  have hx := hC.1
  have hb := hC.2.1
  unfold fn_X9_forget at hf
  refine lv_aload_n hx hb dX9_forget_0 rfl (lv_at hl 0 rfl) ?_
  refine g_get hC hw fkX9_12 0 rfl rfl dX9_forget_1 ?_
  refine g_get hC hw fkX9_219 1 rfl rfl dX9_forget_4 ?_
  refine g_get hC hw fkX9_223 2 rfl rfl dX9_forget_7 ?_
  refine lv_istore_n (lv' := [(1, .int c_t_now_sights_count), (0, .ref A_t)]) hx hb dX9_forget_10 rfl hl (by decide) rfl (fun ls hl => ?_)
  refine lv_aload_n hx hb dX9_forget_11 rfl (lv_at hl 1 rfl) ?_
  refine g_get hC hw fkX9_12 0 rfl rfl dX9_forget_12 ?_
  refine g_get hC hw fkX9_219 1 rfl rfl dX9_forget_15 ?_
  obtain ⟨w1, hq2, hf⟩ := b1_s hf
  refine g_cVv hC hw mvX9_229 (cn_X6_clear l G A_t_now_sights A_t_now_sights_places A_t_now_sights_lights c_t_now_sights_count w1 hq2) [2] rfl (by decide) rfl 2 rfl rfl rfl hl.1 rfl (Nat.le_of_ble_eq_true rfl) ⟨Nat.le_of_ble_eq_true rfl, Nat.le_of_ble_eq_true rfl⟩ ⟨Nat.le_refl _, Nat.le_refl _⟩ dX9_forget_18 (fun H locs hw => ?_)
  have hw : wd_ G A s.heap (wl_X9_forget G A_t A_t_now A_t_images A_t_pad A_t_evening A_t_ways A_t_tour A_t_odds A_t_now_marsh A_t_now_crowd A_t_now_sights A_t_now_sights_places A_t_now_sights_lights c_t_measured w1) H locs := hw
  refine lv_iload_n hx hb dX9_forget_21 rfl (lv_at hl 0 rfl) ?_
  obtain ⟨h1_, h2_⟩ := t2_ hf
  subst h1_
  subst h2_
  exact hret _ _ _ _ dX9_forget_22 hw
set_option maxHeartbeats 4000000 in
set_option maxRecDepth 100000 in
theorem cn_X9_forget (l : Launch) (G : gw_) (A_t : Nat) (A_t_now : Nat) (A_t_images : Nat) (A_t_pad : Nat) (A_t_evening : Nat) (A_t_ways : Nat) (A_t_tour : Nat) (A_t_odds : Nat) (A_t_now_marsh : Nat) (A_t_now_crowd : Nat) (A_t_now_sights : Nat) (A_t_now_sights_places : Nat) (A_t_now_sights_lights : Nat) (c_t_measured : Int32) (c_t_now_sights_count : Int32) (r : Int32) (z_t_now_sights_count : Int32) (hf : fn_X9_forget c_t_now_sights_count = some (r, z_t_now_sights_count)) : ci_ l G yX9_forget cX9_forget 2 (some .int) 1 20 (wl_X9_forget G A_t A_t_now A_t_images A_t_pad A_t_evening A_t_ways A_t_tour A_t_odds A_t_now_marsh A_t_now_crowd A_t_now_sights A_t_now_sights_places A_t_now_sights_lights c_t_measured c_t_now_sights_count) [.ref A_t] r (wl_X9_forget G A_t A_t_now A_t_images A_t_pad A_t_evening A_t_ways A_t_tour A_t_odds A_t_now_marsh A_t_now_crowd A_t_now_sights A_t_now_sights_places A_t_now_sights_lights c_t_measured z_t_now_sights_count) := fun sz => met_intro (by decide) (Nat.le_of_ble_eq_true rfl) (fun p e s m args below meth c ls hsz hC hr hlk hnm hl hw => wn_X9_forget hC (fun pc H locs ls hd hw => g_iret hC hr hlk hw rfl rfl hd) hf hl hw)

theorem dX9_whose_0 : decode cX9_whose 0 = .ok (.aload_n 0, 1) := by decide +kernel
theorem dX9_whose_1 : decode cX9_whose 1 = .ok (.invokevirtual 155, 3) := by decide +kernel
theorem dX9_whose_4 : decode cX9_whose 4 = .ok (.aload_n 0, 1) := by decide +kernel
theorem dX9_whose_5 : decode cX9_whose 5 = .ok (.getfield 12, 3) := by decide +kernel
theorem dX9_whose_8 : decode cX9_whose 8 = .ok (.getfield 219, 3) := by decide +kernel
theorem dX9_whose_11 : decode cX9_whose 11 = .ok (.aload_n 0, 1) := by decide +kernel
theorem dX9_whose_12 : decode cX9_whose 12 = .ok (.getfield 12, 3) := by decide +kernel
theorem dX9_whose_15 : decode cX9_whose 15 = .ok (.getfield 81, 3) := by decide +kernel
theorem dX9_whose_18 : decode cX9_whose 18 = .ok (.aload_n 0, 1) := by decide +kernel
theorem dX9_whose_19 : decode cX9_whose 19 = .ok (.getfield 37, 3) := by decide +kernel
theorem dX9_whose_22 : decode cX9_whose 22 = .ok (.invokevirtual 230, 3) := by decide +kernel
theorem dX9_whose_25 : decode cX9_whose 25 = .ok (.ireturn, 1) := by decide +kernel
abbrev wl_X9_whose (G : gw_) (A_t : Nat) (A_t_now : Nat) (A_t_images : Nat) (A_t_pad : Nat) (A_t_evening : Nat) (A_t_ways : Nat) (A_t_tour : Nat) (A_t_odds : Nat) (A_t_now_marsh : Nat) (A_t_now_crowd : Nat) (A_t_now_sights : Nat) (A_t_now_marsh_codes : Nat) (A_t_now_crowd_at : Nat) (A_t_now_crowd_home : Nat) (A_t_now_crowd_light : Nat) (A_t_now_crowd_carries : Nat) (A_t_now_crowd_bearer : Nat) (A_t_now_sights_places : Nat) (A_t_now_sights_lights : Nat) (A_t_ways_planks : Nat) (A_t_ways_least : Nat) (A_t_ways_neighbours : Nat) (c_t_measured : Int32) (c_t_now_marsh_codes : Nat → Int32) (c_t_now_crowd_there : Int32) (c_t_now_crowd_foggy : Int32) (c_t_now_crowd_at : Nat → Int32) (c_t_now_crowd_light : Nat → Int32) (c_t_now_sights_count : Int32) (c_t_now_sights_places : Nat → Int32) (c_t_now_sights_lights : Nat → Int32) (c_t_ways_planks : Nat → Int32) (c_t_ways_least : Nat → Int32) (c_t_ways_neighbours : Nat → Int32) : va_W := [ob_ A_t 9 [.ref A_t_now, .ref A_t_images, .ref A_t_pad, .ref A_t_evening, .ref A_t_ways, .ref A_t_tour, .ref A_t_odds, .int c_t_measured], ob_ A_t_now 5 [.ref A_t_now_marsh, .ref A_t_now_crowd, .ref A_t_now_sights], ob_ A_t_now_marsh 2 [.ref A_t_now_marsh_codes], ia_ G A_t_now_marsh_codes 144 c_t_now_marsh_codes, ob_ A_t_now_crowd 0 [.int c_t_now_crowd_there, .int c_t_now_crowd_foggy, .ref A_t_now_crowd_at, .ref A_t_now_crowd_home, .ref A_t_now_crowd_light, .ref A_t_now_crowd_carries, .ref A_t_now_crowd_bearer], ia_ G A_t_now_crowd_at 6 c_t_now_crowd_at, ia_ G A_t_now_crowd_light 6 c_t_now_crowd_light, ob_ A_t_now_sights 6 [.int c_t_now_sights_count, .ref A_t_now_sights_places, .ref A_t_now_sights_lights], ia_ G A_t_now_sights_places 8 c_t_now_sights_places, ia_ G A_t_now_sights_lights 8 c_t_now_sights_lights, ob_ A_t_ways 8 [.ref A_t_ways_planks, .ref A_t_ways_least, .ref A_t_ways_neighbours], ia_ G A_t_ways_planks 144 c_t_ways_planks, ia_ G A_t_ways_least 144 c_t_ways_least, ia_ G A_t_ways_neighbours 12 c_t_ways_neighbours]
def fn_X9_whose (c_t_measured : Int32) (c_t_now_marsh_codes : Nat → Int32) (c_t_now_crowd_there : Int32) (c_t_now_crowd_foggy : Int32) (c_t_now_crowd_at : Nat → Int32) (c_t_now_crowd_light : Nat → Int32) (c_t_now_sights_count : Int32) (c_t_now_sights_places : Nat → Int32) (c_t_now_sights_lights : Nat → Int32) (c_t_ways_planks : Nat → Int32) (c_t_ways_least : Nat → Int32) (c_t_ways_neighbours : Nat → Int32) : Option (Int32 × Int32 × (Nat → Int32) × (Nat → Int32) × (Nat → Int32)) :=
  b4_ (fn_X9_measure c_t_measured c_t_now_marsh_codes c_t_now_crowd_foggy c_t_ways_planks c_t_ways_least c_t_ways_neighbours) fun w1 w2 w3 w4 =>
  b1_ (fn_X6_fitting c_t_now_sights_count c_t_now_sights_places c_t_now_sights_lights c_t_now_crowd_there c_t_now_crowd_at c_t_now_crowd_light w3) fun r6 =>
  some (r6, w1, w2, w3, w4)
set_option maxHeartbeats 4000000 in
set_option maxRecDepth 100000 in
theorem wn_X9_whose {p : Program} {l : Launch} {e : Env} {s : State} {m : MethodId} {args : Array Value} {below : List Frame} {meth : Method} {c : Code} {G : gw_} {A : Nat → Prop} {Q : State → Prop} {A_t : Nat} {A_t_now : Nat} {A_t_images : Nat} {A_t_pad : Nat} {A_t_evening : Nat} {A_t_ways : Nat} {A_t_tour : Nat} {A_t_odds : Nat} {A_t_now_marsh : Nat} {A_t_now_crowd : Nat} {A_t_now_sights : Nat} {A_t_now_marsh_codes : Nat} {A_t_now_crowd_at : Nat} {A_t_now_crowd_home : Nat} {A_t_now_crowd_light : Nat} {A_t_now_crowd_carries : Nat} {A_t_now_crowd_bearer : Nat} {A_t_now_sights_places : Nat} {A_t_now_sights_lights : Nat} {A_t_ways_planks : Nat} {A_t_ways_least : Nat} {A_t_ways_neighbours : Nat} {c_t_measured : Int32} {z_t_measured : Int32} {c_t_now_marsh_codes : Nat → Int32} {c_t_now_crowd_there : Int32} {c_t_now_crowd_foggy : Int32} {c_t_now_crowd_at : Nat → Int32} {c_t_now_crowd_light : Nat → Int32} {c_t_now_sights_count : Int32} {c_t_now_sights_places : Nat → Int32} {c_t_now_sights_lights : Nat → Int32} {c_t_ways_planks : Nat → Int32} {z_t_ways_planks : Nat → Int32} {c_t_ways_least : Nat → Int32} {z_t_ways_least : Nat → Int32} {c_t_ways_neighbours : Nat → Int32} {z_t_ways_neighbours : Nat → Int32} {r : Int32} (hC : cx_ p s m c G cX9_whose 1 RX9) (hret : ∀ (pc : Nat) (H : Heap) (locs : List Loc) (ls : Array Slot), decode cX9_whose pc = .ok (.ireturn, 1) → wd_ G A s.heap (wl_X9_whose G A_t A_t_now A_t_images A_t_pad A_t_evening A_t_ways A_t_tour A_t_odds A_t_now_marsh A_t_now_crowd A_t_now_sights A_t_now_marsh_codes A_t_now_crowd_at A_t_now_crowd_home A_t_now_crowd_light A_t_now_crowd_carries A_t_now_crowd_bearer A_t_now_sights_places A_t_now_sights_lights A_t_ways_planks A_t_ways_least A_t_ways_neighbours z_t_measured c_t_now_marsh_codes c_t_now_crowd_there c_t_now_crowd_foggy c_t_now_crowd_at c_t_now_crowd_light c_t_now_sights_count c_t_now_sights_places c_t_now_sights_lights z_t_ways_planks z_t_ways_least z_t_ways_neighbours) H locs → W p l e { frames := 4, cells := 0, slots := 0, locals := 94 } s m args below meth c H locs 0 0 Q (F0 m pc ls [.int r])) (hf : fn_X9_whose c_t_measured c_t_now_marsh_codes c_t_now_crowd_there c_t_now_crowd_foggy c_t_now_crowd_at c_t_now_crowd_light c_t_now_sights_count c_t_now_sights_places c_t_now_sights_lights c_t_ways_planks c_t_ways_least c_t_ways_neighbours = some (r, z_t_measured, z_t_ways_planks, z_t_ways_least, z_t_ways_neighbours)) {H : Heap} {locs : List Loc} {ls : Array Slot} (hl : lv_has ls 1 [(0, .ref A_t)]) (hw : wd_ G A s.heap (wl_X9_whose G A_t A_t_now A_t_images A_t_pad A_t_evening A_t_ways A_t_tour A_t_odds A_t_now_marsh A_t_now_crowd A_t_now_sights A_t_now_marsh_codes A_t_now_crowd_at A_t_now_crowd_home A_t_now_crowd_light A_t_now_crowd_carries A_t_now_crowd_bearer A_t_now_sights_places A_t_now_sights_lights A_t_ways_planks A_t_ways_least A_t_ways_neighbours c_t_measured c_t_now_marsh_codes c_t_now_crowd_there c_t_now_crowd_foggy c_t_now_crowd_at c_t_now_crowd_light c_t_now_sights_count c_t_now_sights_places c_t_now_sights_lights c_t_ways_planks c_t_ways_least c_t_ways_neighbours) H locs) : W p l e { frames := 4, cells := 0, slots := 0, locals := 94 } s m args below meth c H locs 0 0 Q (F0 m 0 ls []) := by
  have hx := hC.1
  have hb := hC.2.1
  unfold fn_X9_whose at hf
  refine lv_aload_n hx hb dX9_whose_0 rfl (lv_at hl 0 rfl) ?_
  obtain ⟨w1, w2, w3, w4, hq5, hf⟩ := b4_s hf
  refine g_cVv hC hw mvX9_155 (cn_X9_measure l G A_t A_t_now A_t_images A_t_pad A_t_evening A_t_ways A_t_tour A_t_odds A_t_now_marsh A_t_now_crowd A_t_now_sights A_t_now_marsh_codes A_t_now_crowd_at A_t_now_crowd_home A_t_now_crowd_light A_t_now_crowd_carries A_t_now_crowd_bearer A_t_ways_planks A_t_ways_least A_t_ways_neighbours c_t_measured c_t_now_marsh_codes c_t_now_crowd_there c_t_now_crowd_foggy c_t_ways_planks c_t_ways_least c_t_ways_neighbours w1 w2 w3 w4 hq5) [0, 1, 2, 3, 4, 10, 11, 12, 13] rfl (by decide) rfl 0 rfl rfl rfl hl.1 rfl (Nat.le_of_ble_eq_true rfl) ⟨Nat.le_of_ble_eq_true rfl, Nat.le_of_ble_eq_true rfl⟩ ⟨Nat.le_refl _, Nat.le_refl _⟩ dX9_whose_1 (fun H locs hw => ?_)
  have hw : wd_ G A s.heap (wl_X9_whose G A_t A_t_now A_t_images A_t_pad A_t_evening A_t_ways A_t_tour A_t_odds A_t_now_marsh A_t_now_crowd A_t_now_sights A_t_now_marsh_codes A_t_now_crowd_at A_t_now_crowd_home A_t_now_crowd_light A_t_now_crowd_carries A_t_now_crowd_bearer A_t_now_sights_places A_t_now_sights_lights A_t_ways_planks A_t_ways_least A_t_ways_neighbours w1 c_t_now_marsh_codes c_t_now_crowd_there c_t_now_crowd_foggy c_t_now_crowd_at c_t_now_crowd_light c_t_now_sights_count c_t_now_sights_places c_t_now_sights_lights w2 w3 w4) H locs := hw
  refine lv_aload_n hx hb dX9_whose_4 rfl (lv_at hl 0 rfl) ?_
  refine g_get hC hw fkX9_12 0 rfl rfl dX9_whose_5 ?_
  refine g_get hC hw fkX9_219 1 rfl rfl dX9_whose_8 ?_
  refine lv_aload_n hx hb dX9_whose_11 rfl (lv_at hl 0 rfl) ?_
  refine g_get hC hw fkX9_12 0 rfl rfl dX9_whose_12 ?_
  refine g_get hC hw fkX9_81 1 rfl rfl dX9_whose_15 ?_
  refine lv_aload_n hx hb dX9_whose_18 rfl (lv_at hl 0 rfl) ?_
  refine g_get hC hw fkX9_37 0 rfl rfl dX9_whose_19 ?_
  obtain ⟨r6, hq7, hf⟩ := b1_s hf
  refine h_cVi hC hw mvX9_230 (cn_X6_fitting l G A_t_now_sights A_t_now_sights_places A_t_now_sights_lights A_t_now_crowd A_t_now_crowd_at A_t_now_crowd_home A_t_now_crowd_light A_t_now_crowd_carries A_t_now_crowd_bearer A_t_ways A_t_ways_planks A_t_ways_least A_t_ways_neighbours c_t_now_sights_count c_t_now_sights_places c_t_now_sights_lights c_t_now_crowd_there c_t_now_crowd_foggy c_t_now_crowd_at c_t_now_crowd_light w3 r6 hq7) [7, 8, 9, 4, 5, 6, 10, 12] rfl (by decide) 7 rfl rfl rfl hl.1 rfl (Nat.le_of_ble_eq_true rfl) ⟨Nat.le_of_ble_eq_true rfl, Nat.le_of_ble_eq_true rfl⟩ ⟨Nat.le_refl _, Nat.le_refl _⟩ dX9_whose_22 (fun H locs hw => ?_)
  obtain ⟨h1_, h2_, h3_, h4_, h5_⟩ := t5_ hf
  subst h1_
  subst h2_
  subst h3_
  subst h4_
  subst h5_
  exact hret _ _ _ _ dX9_whose_25 hw
set_option maxHeartbeats 4000000 in
set_option maxRecDepth 100000 in
theorem cn_X9_whose (l : Launch) (G : gw_) (A_t : Nat) (A_t_now : Nat) (A_t_images : Nat) (A_t_pad : Nat) (A_t_evening : Nat) (A_t_ways : Nat) (A_t_tour : Nat) (A_t_odds : Nat) (A_t_now_marsh : Nat) (A_t_now_crowd : Nat) (A_t_now_sights : Nat) (A_t_now_marsh_codes : Nat) (A_t_now_crowd_at : Nat) (A_t_now_crowd_home : Nat) (A_t_now_crowd_light : Nat) (A_t_now_crowd_carries : Nat) (A_t_now_crowd_bearer : Nat) (A_t_now_sights_places : Nat) (A_t_now_sights_lights : Nat) (A_t_ways_planks : Nat) (A_t_ways_least : Nat) (A_t_ways_neighbours : Nat) (c_t_measured : Int32) (c_t_now_marsh_codes : Nat → Int32) (c_t_now_crowd_there : Int32) (c_t_now_crowd_foggy : Int32) (c_t_now_crowd_at : Nat → Int32) (c_t_now_crowd_light : Nat → Int32) (c_t_now_sights_count : Int32) (c_t_now_sights_places : Nat → Int32) (c_t_now_sights_lights : Nat → Int32) (c_t_ways_planks : Nat → Int32) (c_t_ways_least : Nat → Int32) (c_t_ways_neighbours : Nat → Int32) (r : Int32) (z_t_measured : Int32) (z_t_ways_planks : Nat → Int32) (z_t_ways_least : Nat → Int32) (z_t_ways_neighbours : Nat → Int32) (hf : fn_X9_whose c_t_measured c_t_now_marsh_codes c_t_now_crowd_there c_t_now_crowd_foggy c_t_now_crowd_at c_t_now_crowd_light c_t_now_sights_count c_t_now_sights_places c_t_now_sights_lights c_t_ways_planks c_t_ways_least c_t_ways_neighbours = some (r, z_t_measured, z_t_ways_planks, z_t_ways_least, z_t_ways_neighbours)) : ci_ l G yX9_whose cX9_whose 1 (some .int) 4 94 (wl_X9_whose G A_t A_t_now A_t_images A_t_pad A_t_evening A_t_ways A_t_tour A_t_odds A_t_now_marsh A_t_now_crowd A_t_now_sights A_t_now_marsh_codes A_t_now_crowd_at A_t_now_crowd_home A_t_now_crowd_light A_t_now_crowd_carries A_t_now_crowd_bearer A_t_now_sights_places A_t_now_sights_lights A_t_ways_planks A_t_ways_least A_t_ways_neighbours c_t_measured c_t_now_marsh_codes c_t_now_crowd_there c_t_now_crowd_foggy c_t_now_crowd_at c_t_now_crowd_light c_t_now_sights_count c_t_now_sights_places c_t_now_sights_lights c_t_ways_planks c_t_ways_least c_t_ways_neighbours) [.ref A_t] r (wl_X9_whose G A_t A_t_now A_t_images A_t_pad A_t_evening A_t_ways A_t_tour A_t_odds A_t_now_marsh A_t_now_crowd A_t_now_sights A_t_now_marsh_codes A_t_now_crowd_at A_t_now_crowd_home A_t_now_crowd_light A_t_now_crowd_carries A_t_now_crowd_bearer A_t_now_sights_places A_t_now_sights_lights A_t_ways_planks A_t_ways_least A_t_ways_neighbours z_t_measured c_t_now_marsh_codes c_t_now_crowd_there c_t_now_crowd_foggy c_t_now_crowd_at c_t_now_crowd_light c_t_now_sights_count c_t_now_sights_places c_t_now_sights_lights z_t_ways_planks z_t_ways_least z_t_ways_neighbours) := fun sz => met_intro (by decide) (Nat.le_of_ble_eq_true rfl) (fun p e s m args below meth c ls hsz hC hr hlk hnm hl hw => wn_X9_whose hC (fun pc H locs ls hd hw => g_iret hC hr hlk hw rfl rfl hd) hf hl hw)

theorem dX9_ask_0 : decode cX9_ask 0 = .ok (.iload_n 1, 1) := by decide +kernel
theorem dX9_ask_1 : decode cX9_ask 1 = .ok (.iconst 0, 1) := by decide +kernel
theorem dX9_ask_2 : decode cX9_ask 2 = .ok (.iconst 1, 1) := by decide +kernel
theorem dX9_ask_3 : decode cX9_ask 3 = .ok (.invokestatic 63, 3) := by decide +kernel
theorem dX9_ask_6 : decode cX9_ask 6 = .ok (.ifCond .ne 6, 3) := by decide +kernel
theorem dX9_ask_9 : decode cX9_ask 9 = .ok (.bipush (-2), 2) := by decide +kernel
theorem dX9_ask_11 : decode cX9_ask 11 = .ok (.ireturn, 1) := by decide +kernel
theorem dX9_ask_12 : decode cX9_ask 12 = .ok (.aload_n 0, 1) := by decide +kernel
theorem dX9_ask_13 : decode cX9_ask 13 = .ok (.invokevirtual 155, 3) := by decide +kernel
theorem dX9_ask_16 : decode cX9_ask 16 = .ok (.aload_n 0, 1) := by decide +kernel
theorem dX9_ask_17 : decode cX9_ask 17 = .ok (.getfield 12, 3) := by decide +kernel
theorem dX9_ask_20 : decode cX9_ask 20 = .ok (.getfield 219, 3) := by decide +kernel
theorem dX9_ask_23 : decode cX9_ask 23 = .ok (.aload_n 0, 1) := by decide +kernel
theorem dX9_ask_24 : decode cX9_ask 24 = .ok (.getfield 12, 3) := by decide +kernel
theorem dX9_ask_27 : decode cX9_ask 27 = .ok (.getfield 81, 3) := by decide +kernel
theorem dX9_ask_30 : decode cX9_ask 30 = .ok (.aload_n 0, 1) := by decide +kernel
theorem dX9_ask_31 : decode cX9_ask 31 = .ok (.getfield 37, 3) := by decide +kernel
theorem dX9_ask_34 : decode cX9_ask 34 = .ok (.invokevirtual 230, 3) := by decide +kernel
theorem dX9_ask_37 : decode cX9_ask 37 = .ok (.istore_n 2, 1) := by decide +kernel
theorem dX9_ask_38 : decode cX9_ask 38 = .ok (.iload_n 2, 1) := by decide +kernel
theorem dX9_ask_39 : decode cX9_ask 39 = .ok (.ifCond .ne 6, 3) := by decide +kernel
theorem dX9_ask_42 : decode cX9_ask 42 = .ok (.bipush (-6), 2) := by decide +kernel
theorem dX9_ask_44 : decode cX9_ask 44 = .ok (.ireturn, 1) := by decide +kernel
theorem dX9_ask_45 : decode cX9_ask 45 = .ok (.aload_n 0, 1) := by decide +kernel
theorem dX9_ask_46 : decode cX9_ask 46 = .ok (.getfield 12, 3) := by decide +kernel
theorem dX9_ask_49 : decode cX9_ask 49 = .ok (.getfield 81, 3) := by decide +kernel
theorem dX9_ask_52 : decode cX9_ask 52 = .ok (.aload_n 0, 1) := by decide +kernel
theorem dX9_ask_53 : decode cX9_ask 53 = .ok (.getfield 37, 3) := by decide +kernel
theorem dX9_ask_56 : decode cX9_ask 56 = .ok (.iload_n 2, 1) := by decide +kernel
theorem dX9_ask_57 : decode cX9_ask 57 = .ok (.invokestatic 234, 3) := by decide +kernel
theorem dX9_ask_60 : decode cX9_ask 60 = .ok (.istore_n 3, 1) := by decide +kernel
theorem dX9_ask_61 : decode cX9_ask 61 = .ok (.iload_n 1, 1) := by decide +kernel
theorem dX9_ask_62 : decode cX9_ask 62 = .ok (.ifCond .ne 7, 3) := by decide +kernel
theorem dX9_ask_65 : decode cX9_ask 65 = .ok (.iload_n 3, 1) := by decide +kernel
theorem dX9_ask_66 : decode cX9_ask 66 = .ok (.goto 19, 3) := by decide +kernel
theorem dX9_ask_69 : decode cX9_ask 69 = .ok (.aload_n 0, 1) := by decide +kernel
theorem dX9_ask_70 : decode cX9_ask 70 = .ok (.getfield 12, 3) := by decide +kernel
theorem dX9_ask_73 : decode cX9_ask 73 = .ok (.getfield 81, 3) := by decide +kernel
theorem dX9_ask_76 : decode cX9_ask 76 = .ok (.aload_n 0, 1) := by decide +kernel
theorem dX9_ask_77 : decode cX9_ask 77 = .ok (.getfield 37, 3) := by decide +kernel
theorem dX9_ask_80 : decode cX9_ask 80 = .ok (.iload_n 2, 1) := by decide +kernel
theorem dX9_ask_81 : decode cX9_ask 81 = .ok (.iload_n 3, 1) := by decide +kernel
theorem dX9_ask_82 : decode cX9_ask 82 = .ok (.invokestatic 238, 3) := by decide +kernel
theorem dX9_ask_85 : decode cX9_ask 85 = .ok (.ireturn, 1) := by decide +kernel
abbrev wl_X9_ask (G : gw_) (A_t : Nat) (A_t_now : Nat) (A_t_images : Nat) (A_t_pad : Nat) (A_t_evening : Nat) (A_t_ways : Nat) (A_t_tour : Nat) (A_t_odds : Nat) (A_t_now_marsh : Nat) (A_t_now_crowd : Nat) (A_t_now_sights : Nat) (A_t_now_marsh_codes : Nat) (A_t_now_crowd_at : Nat) (A_t_now_crowd_home : Nat) (A_t_now_crowd_light : Nat) (A_t_now_crowd_carries : Nat) (A_t_now_crowd_bearer : Nat) (A_t_now_sights_places : Nat) (A_t_now_sights_lights : Nat) (A_t_ways_planks : Nat) (A_t_ways_least : Nat) (A_t_ways_neighbours : Nat) (c_t_measured : Int32) (c_t_now_marsh_codes : Nat → Int32) (c_t_now_crowd_there : Int32) (c_t_now_crowd_foggy : Int32) (c_t_now_crowd_at : Nat → Int32) (c_t_now_crowd_light : Nat → Int32) (c_t_now_sights_count : Int32) (c_t_now_sights_places : Nat → Int32) (c_t_now_sights_lights : Nat → Int32) (c_t_ways_planks : Nat → Int32) (c_t_ways_least : Nat → Int32) (c_t_ways_neighbours : Nat → Int32) : va_W := [ob_ A_t 9 [.ref A_t_now, .ref A_t_images, .ref A_t_pad, .ref A_t_evening, .ref A_t_ways, .ref A_t_tour, .ref A_t_odds, .int c_t_measured], ob_ A_t_now 5 [.ref A_t_now_marsh, .ref A_t_now_crowd, .ref A_t_now_sights], ob_ A_t_now_marsh 2 [.ref A_t_now_marsh_codes], ia_ G A_t_now_marsh_codes 144 c_t_now_marsh_codes, ob_ A_t_now_crowd 0 [.int c_t_now_crowd_there, .int c_t_now_crowd_foggy, .ref A_t_now_crowd_at, .ref A_t_now_crowd_home, .ref A_t_now_crowd_light, .ref A_t_now_crowd_carries, .ref A_t_now_crowd_bearer], ia_ G A_t_now_crowd_at 6 c_t_now_crowd_at, ia_ G A_t_now_crowd_light 6 c_t_now_crowd_light, ob_ A_t_now_sights 6 [.int c_t_now_sights_count, .ref A_t_now_sights_places, .ref A_t_now_sights_lights], ia_ G A_t_now_sights_places 8 c_t_now_sights_places, ia_ G A_t_now_sights_lights 8 c_t_now_sights_lights, ob_ A_t_ways 8 [.ref A_t_ways_planks, .ref A_t_ways_least, .ref A_t_ways_neighbours], ia_ G A_t_ways_planks 144 c_t_ways_planks, ia_ G A_t_ways_least 144 c_t_ways_least, ia_ G A_t_ways_neighbours 12 c_t_ways_neighbours]
def fn_X9_ask (c_t_measured : Int32) (c_t_now_marsh_codes : Nat → Int32) (c_t_now_crowd_there : Int32) (c_t_now_crowd_foggy : Int32) (c_t_now_crowd_at : Nat → Int32) (c_t_now_crowd_light : Nat → Int32) (c_t_now_sights_count : Int32) (c_t_now_sights_places : Nat → Int32) (c_t_now_sights_lights : Nat → Int32) (c_t_ways_planks : Nat → Int32) (c_t_ways_least : Nat → Int32) (c_t_ways_neighbours : Nat → Int32) (x1 : Int32) : Option (Int32 × Int32 × (Nat → Int32) × (Nat → Int32) × (Nat → Int32)) :=
  b1_ (fn_X9_isWithin x1 0 1) fun r1 =>
  if r1 = 0 then
    some ((-2), c_t_measured, c_t_ways_planks, c_t_ways_least, c_t_ways_neighbours)
  else
    b4_ (fn_X9_measure c_t_measured c_t_now_marsh_codes c_t_now_crowd_foggy c_t_ways_planks c_t_ways_least c_t_ways_neighbours) fun w3 w4 w5 w6 =>
    b1_ (fn_X6_fitting c_t_now_sights_count c_t_now_sights_places c_t_now_sights_lights c_t_now_crowd_there c_t_now_crowd_at c_t_now_crowd_light w5) fun r8 =>
    if r8 = 0 then
      some ((-6), w3, w4, w5, w6)
    else
      b1_ (fn_X6_bestQuestion c_t_now_crowd_at c_t_now_crowd_light w5 r8) fun r10 =>
      if x1 = 0 then
        some (r10, w3, w4, w5, w6)
      else
        b1_ (fn_X6_mostAlike c_t_now_crowd_at c_t_now_crowd_light w5 r8 r10) fun r12 =>
        some (r12, w3, w4, w5, w6)
set_option maxHeartbeats 4000000 in
set_option maxRecDepth 100000 in
theorem wn_X9_ask {p : Program} {l : Launch} {e : Env} {s : State} {m : MethodId} {args : Array Value} {below : List Frame} {meth : Method} {c : Code} {G : gw_} {A : Nat → Prop} {Q : State → Prop} {A_t : Nat} {A_t_now : Nat} {A_t_images : Nat} {A_t_pad : Nat} {A_t_evening : Nat} {A_t_ways : Nat} {A_t_tour : Nat} {A_t_odds : Nat} {A_t_now_marsh : Nat} {A_t_now_crowd : Nat} {A_t_now_sights : Nat} {A_t_now_marsh_codes : Nat} {A_t_now_crowd_at : Nat} {A_t_now_crowd_home : Nat} {A_t_now_crowd_light : Nat} {A_t_now_crowd_carries : Nat} {A_t_now_crowd_bearer : Nat} {A_t_now_sights_places : Nat} {A_t_now_sights_lights : Nat} {A_t_ways_planks : Nat} {A_t_ways_least : Nat} {A_t_ways_neighbours : Nat} {c_t_measured : Int32} {z_t_measured : Int32} {c_t_now_marsh_codes : Nat → Int32} {c_t_now_crowd_there : Int32} {c_t_now_crowd_foggy : Int32} {c_t_now_crowd_at : Nat → Int32} {c_t_now_crowd_light : Nat → Int32} {c_t_now_sights_count : Int32} {c_t_now_sights_places : Nat → Int32} {c_t_now_sights_lights : Nat → Int32} {c_t_ways_planks : Nat → Int32} {z_t_ways_planks : Nat → Int32} {c_t_ways_least : Nat → Int32} {z_t_ways_least : Nat → Int32} {c_t_ways_neighbours : Nat → Int32} {z_t_ways_neighbours : Nat → Int32} {r : Int32} {x1 : Int32} (hC : cx_ p s m c G cX9_ask 4 RX9) (hret : ∀ (pc : Nat) (H : Heap) (locs : List Loc) (ls : Array Slot), decode cX9_ask pc = .ok (.ireturn, 1) → wd_ G A s.heap (wl_X9_ask G A_t A_t_now A_t_images A_t_pad A_t_evening A_t_ways A_t_tour A_t_odds A_t_now_marsh A_t_now_crowd A_t_now_sights A_t_now_marsh_codes A_t_now_crowd_at A_t_now_crowd_home A_t_now_crowd_light A_t_now_crowd_carries A_t_now_crowd_bearer A_t_now_sights_places A_t_now_sights_lights A_t_ways_planks A_t_ways_least A_t_ways_neighbours z_t_measured c_t_now_marsh_codes c_t_now_crowd_there c_t_now_crowd_foggy c_t_now_crowd_at c_t_now_crowd_light c_t_now_sights_count c_t_now_sights_places c_t_now_sights_lights z_t_ways_planks z_t_ways_least z_t_ways_neighbours) H locs → W p l e { frames := 5, cells := 0, slots := 0, locals := 124 } s m args below meth c H locs 0 0 Q (F0 m pc ls [.int r])) (hf : fn_X9_ask c_t_measured c_t_now_marsh_codes c_t_now_crowd_there c_t_now_crowd_foggy c_t_now_crowd_at c_t_now_crowd_light c_t_now_sights_count c_t_now_sights_places c_t_now_sights_lights c_t_ways_planks c_t_ways_least c_t_ways_neighbours x1 = some (r, z_t_measured, z_t_ways_planks, z_t_ways_least, z_t_ways_neighbours)) {H : Heap} {locs : List Loc} {ls : Array Slot} (hl : lv_has ls 4 [(0, .ref A_t), (1, .int x1)]) (hw : wd_ G A s.heap (wl_X9_ask G A_t A_t_now A_t_images A_t_pad A_t_evening A_t_ways A_t_tour A_t_odds A_t_now_marsh A_t_now_crowd A_t_now_sights A_t_now_marsh_codes A_t_now_crowd_at A_t_now_crowd_home A_t_now_crowd_light A_t_now_crowd_carries A_t_now_crowd_bearer A_t_now_sights_places A_t_now_sights_lights A_t_ways_planks A_t_ways_least A_t_ways_neighbours c_t_measured c_t_now_marsh_codes c_t_now_crowd_there c_t_now_crowd_foggy c_t_now_crowd_at c_t_now_crowd_light c_t_now_sights_count c_t_now_sights_places c_t_now_sights_lights c_t_ways_planks c_t_ways_least c_t_ways_neighbours) H locs) : W p l e { frames := 5, cells := 0, slots := 0, locals := 124 } s m args below meth c H locs 0 0 Q (F0 m 0 ls []) := by
  have hx := hC.1
  have hb := hC.2.1
  unfold fn_X9_ask at hf
  refine lv_iload_n hx hb dX9_ask_0 rfl (lv_at hl 1 rfl) ?_
  refine lv_iconst (v := 0) hx hb dX9_ask_1 (by decide) ?_
  refine lv_iconst (v := 1) hx hb dX9_ask_2 (by decide) ?_
  obtain ⟨r1, hq2, hf⟩ := b1_s hf
  refine h_cSi hC hw msX9_63 (cn_X9_isWithin l G x1 0 1 r1 hq2) [] rfl (by decide) rfl hl.1 rfl (Nat.le_of_ble_eq_true rfl) ⟨Nat.le_of_ble_eq_true rfl, Nat.le_of_ble_eq_true rfl⟩ ⟨Nat.le_refl _, Nat.le_refl _⟩ dX9_ask_3 (fun H locs hw => ?_)
  refine lv_if_ne (tgt := 12) hx hb dX9_ask_6 (by decide) (fun hc => ?_) (fun hc => ?_)
  · replace hf := it_f hc hf
    refine lv_aload_n hx hb dX9_ask_12 rfl (lv_at hl 0 rfl) ?_
    obtain ⟨w3, w4, w5, w6, hq7, hf⟩ := b4_s hf
    refine g_cVv hC hw mvX9_155 (cn_X9_measure l G A_t A_t_now A_t_images A_t_pad A_t_evening A_t_ways A_t_tour A_t_odds A_t_now_marsh A_t_now_crowd A_t_now_sights A_t_now_marsh_codes A_t_now_crowd_at A_t_now_crowd_home A_t_now_crowd_light A_t_now_crowd_carries A_t_now_crowd_bearer A_t_ways_planks A_t_ways_least A_t_ways_neighbours c_t_measured c_t_now_marsh_codes c_t_now_crowd_there c_t_now_crowd_foggy c_t_ways_planks c_t_ways_least c_t_ways_neighbours w3 w4 w5 w6 hq7) [0, 1, 2, 3, 4, 10, 11, 12, 13] rfl (by decide) rfl 0 rfl rfl rfl hl.1 rfl (Nat.le_of_ble_eq_true rfl) ⟨Nat.le_of_ble_eq_true rfl, Nat.le_of_ble_eq_true rfl⟩ ⟨Nat.le_refl _, Nat.le_refl _⟩ dX9_ask_13 (fun H locs hw => ?_)
    have hw : wd_ G A s.heap (wl_X9_ask G A_t A_t_now A_t_images A_t_pad A_t_evening A_t_ways A_t_tour A_t_odds A_t_now_marsh A_t_now_crowd A_t_now_sights A_t_now_marsh_codes A_t_now_crowd_at A_t_now_crowd_home A_t_now_crowd_light A_t_now_crowd_carries A_t_now_crowd_bearer A_t_now_sights_places A_t_now_sights_lights A_t_ways_planks A_t_ways_least A_t_ways_neighbours w3 c_t_now_marsh_codes c_t_now_crowd_there c_t_now_crowd_foggy c_t_now_crowd_at c_t_now_crowd_light c_t_now_sights_count c_t_now_sights_places c_t_now_sights_lights w4 w5 w6) H locs := hw
    refine lv_aload_n hx hb dX9_ask_16 rfl (lv_at hl 0 rfl) ?_
    refine g_get hC hw fkX9_12 0 rfl rfl dX9_ask_17 ?_
    refine g_get hC hw fkX9_219 1 rfl rfl dX9_ask_20 ?_
    refine lv_aload_n hx hb dX9_ask_23 rfl (lv_at hl 0 rfl) ?_
    refine g_get hC hw fkX9_12 0 rfl rfl dX9_ask_24 ?_
    refine g_get hC hw fkX9_81 1 rfl rfl dX9_ask_27 ?_
    refine lv_aload_n hx hb dX9_ask_30 rfl (lv_at hl 0 rfl) ?_
    refine g_get hC hw fkX9_37 0 rfl rfl dX9_ask_31 ?_
    obtain ⟨r8, hq9, hf⟩ := b1_s hf
    refine h_cVi hC hw mvX9_230 (cn_X6_fitting l G A_t_now_sights A_t_now_sights_places A_t_now_sights_lights A_t_now_crowd A_t_now_crowd_at A_t_now_crowd_home A_t_now_crowd_light A_t_now_crowd_carries A_t_now_crowd_bearer A_t_ways A_t_ways_planks A_t_ways_least A_t_ways_neighbours c_t_now_sights_count c_t_now_sights_places c_t_now_sights_lights c_t_now_crowd_there c_t_now_crowd_foggy c_t_now_crowd_at c_t_now_crowd_light w5 r8 hq9) [7, 8, 9, 4, 5, 6, 10, 12] rfl (by decide) 7 rfl rfl rfl hl.1 rfl (Nat.le_of_ble_eq_true rfl) ⟨Nat.le_of_ble_eq_true rfl, Nat.le_of_ble_eq_true rfl⟩ ⟨Nat.le_refl _, Nat.le_refl _⟩ dX9_ask_34 (fun H locs hw => ?_)
    refine lv_istore_n (lv' := [(2, .int r8), (0, .ref A_t), (1, .int x1)]) hx hb dX9_ask_37 rfl hl (by decide) rfl (fun ls hl => ?_)
    refine lv_iload_n hx hb dX9_ask_38 rfl (lv_at hl 0 rfl) ?_
    refine lv_if_ne (tgt := 45) hx hb dX9_ask_39 (by decide) (fun hc => ?_) (fun hc => ?_)
    · replace hf := it_f hc hf
      refine lv_aload_n hx hb dX9_ask_45 rfl (lv_at hl 1 rfl) ?_
      refine g_get hC hw fkX9_12 0 rfl rfl dX9_ask_46 ?_
      refine g_get hC hw fkX9_81 1 rfl rfl dX9_ask_49 ?_
      refine lv_aload_n hx hb dX9_ask_52 rfl (lv_at hl 1 rfl) ?_
      refine g_get hC hw fkX9_37 0 rfl rfl dX9_ask_53 ?_
      refine lv_iload_n hx hb dX9_ask_56 rfl (lv_at hl 0 rfl) ?_
      obtain ⟨r10, hq11, hf⟩ := b1_s hf
      refine h_cSi hC hw msX9_234 (cn_X6_bestQuestion l G A_t_now_crowd A_t_now_crowd_at A_t_now_crowd_home A_t_now_crowd_light A_t_now_crowd_carries A_t_now_crowd_bearer A_t_ways A_t_ways_planks A_t_ways_least A_t_ways_neighbours c_t_now_crowd_there c_t_now_crowd_foggy c_t_now_crowd_at c_t_now_crowd_light w5 r8 r10 hq11) [4, 5, 6, 10, 12] rfl (by decide) rfl hl.1 rfl (Nat.le_of_ble_eq_true rfl) ⟨Nat.le_of_ble_eq_true rfl, Nat.le_of_ble_eq_true rfl⟩ ⟨Nat.le_refl _, Nat.le_refl _⟩ dX9_ask_57 (fun H locs hw => ?_)
      refine lv_istore_n (lv' := [(3, .int r10), (2, .int r8), (0, .ref A_t), (1, .int x1)]) hx hb dX9_ask_60 rfl hl (by decide) rfl (fun ls hl => ?_)
      refine lv_iload_n hx hb dX9_ask_61 rfl (lv_at hl 3 rfl) ?_
      refine lv_if_ne (tgt := 69) hx hb dX9_ask_62 (by decide) (fun hc => ?_) (fun hc => ?_)
      · replace hf := it_f hc hf
        refine lv_aload_n hx hb dX9_ask_69 rfl (lv_at hl 2 rfl) ?_
        refine g_get hC hw fkX9_12 0 rfl rfl dX9_ask_70 ?_
        refine g_get hC hw fkX9_81 1 rfl rfl dX9_ask_73 ?_
        refine lv_aload_n hx hb dX9_ask_76 rfl (lv_at hl 2 rfl) ?_
        refine g_get hC hw fkX9_37 0 rfl rfl dX9_ask_77 ?_
        refine lv_iload_n hx hb dX9_ask_80 rfl (lv_at hl 1 rfl) ?_
        refine lv_iload_n hx hb dX9_ask_81 rfl (lv_at hl 0 rfl) ?_
        obtain ⟨r12, hq13, hf⟩ := b1_s hf
        refine h_cSi hC hw msX9_238 (cn_X6_mostAlike l G A_t_now_crowd A_t_now_crowd_at A_t_now_crowd_home A_t_now_crowd_light A_t_now_crowd_carries A_t_now_crowd_bearer A_t_ways A_t_ways_planks A_t_ways_least A_t_ways_neighbours c_t_now_crowd_there c_t_now_crowd_foggy c_t_now_crowd_at c_t_now_crowd_light w5 r8 r10 r12 hq13) [4, 5, 6, 10, 12] rfl (by decide) rfl hl.1 rfl (Nat.le_of_ble_eq_true rfl) ⟨Nat.le_of_ble_eq_true rfl, Nat.le_of_ble_eq_true rfl⟩ ⟨Nat.le_refl _, Nat.le_refl _⟩ dX9_ask_82 (fun H locs hw => ?_)
        obtain ⟨h1_, h2_, h3_, h4_, h5_⟩ := t5_ hf
        subst h1_
        subst h2_
        subst h3_
        subst h4_
        subst h5_
        exact hret _ _ _ _ dX9_ask_85 hw
      · replace hf := it_t hc hf
        refine lv_iload_n hx hb dX9_ask_65 rfl (lv_at hl 0 rfl) ?_
        refine lv_goto (tgt := 85) hx hb dX9_ask_66 (by decide) ?_
        obtain ⟨h1_, h2_, h3_, h4_, h5_⟩ := t5_ hf
        subst h1_
        subst h2_
        subst h3_
        subst h4_
        subst h5_
        exact hret _ _ _ _ dX9_ask_85 hw
    · replace hf := it_t hc hf
      refine lv_bipush (v := (-6)) hx hb dX9_ask_42 (by decide) ?_
      obtain ⟨h1_, h2_, h3_, h4_, h5_⟩ := t5_ hf
      subst h1_
      subst h2_
      subst h3_
      subst h4_
      subst h5_
      exact hret _ _ _ _ dX9_ask_44 hw
  · replace hf := it_t hc hf
    refine lv_bipush (v := (-2)) hx hb dX9_ask_9 (by decide) ?_
    obtain ⟨h1_, h2_, h3_, h4_, h5_⟩ := t5_ hf
    subst h1_
    subst h2_
    subst h3_
    subst h4_
    subst h5_
    exact hret _ _ _ _ dX9_ask_11 hw
set_option maxHeartbeats 4000000 in
set_option maxRecDepth 100000 in
theorem cn_X9_ask (l : Launch) (G : gw_) (A_t : Nat) (A_t_now : Nat) (A_t_images : Nat) (A_t_pad : Nat) (A_t_evening : Nat) (A_t_ways : Nat) (A_t_tour : Nat) (A_t_odds : Nat) (A_t_now_marsh : Nat) (A_t_now_crowd : Nat) (A_t_now_sights : Nat) (A_t_now_marsh_codes : Nat) (A_t_now_crowd_at : Nat) (A_t_now_crowd_home : Nat) (A_t_now_crowd_light : Nat) (A_t_now_crowd_carries : Nat) (A_t_now_crowd_bearer : Nat) (A_t_now_sights_places : Nat) (A_t_now_sights_lights : Nat) (A_t_ways_planks : Nat) (A_t_ways_least : Nat) (A_t_ways_neighbours : Nat) (c_t_measured : Int32) (c_t_now_marsh_codes : Nat → Int32) (c_t_now_crowd_there : Int32) (c_t_now_crowd_foggy : Int32) (c_t_now_crowd_at : Nat → Int32) (c_t_now_crowd_light : Nat → Int32) (c_t_now_sights_count : Int32) (c_t_now_sights_places : Nat → Int32) (c_t_now_sights_lights : Nat → Int32) (c_t_ways_planks : Nat → Int32) (c_t_ways_least : Nat → Int32) (c_t_ways_neighbours : Nat → Int32) (x1 : Int32) (r : Int32) (z_t_measured : Int32) (z_t_ways_planks : Nat → Int32) (z_t_ways_least : Nat → Int32) (z_t_ways_neighbours : Nat → Int32) (hf : fn_X9_ask c_t_measured c_t_now_marsh_codes c_t_now_crowd_there c_t_now_crowd_foggy c_t_now_crowd_at c_t_now_crowd_light c_t_now_sights_count c_t_now_sights_places c_t_now_sights_lights c_t_ways_planks c_t_ways_least c_t_ways_neighbours x1 = some (r, z_t_measured, z_t_ways_planks, z_t_ways_least, z_t_ways_neighbours)) : ci_ l G yX9_ask cX9_ask 4 (some .int) 5 124 (wl_X9_ask G A_t A_t_now A_t_images A_t_pad A_t_evening A_t_ways A_t_tour A_t_odds A_t_now_marsh A_t_now_crowd A_t_now_sights A_t_now_marsh_codes A_t_now_crowd_at A_t_now_crowd_home A_t_now_crowd_light A_t_now_crowd_carries A_t_now_crowd_bearer A_t_now_sights_places A_t_now_sights_lights A_t_ways_planks A_t_ways_least A_t_ways_neighbours c_t_measured c_t_now_marsh_codes c_t_now_crowd_there c_t_now_crowd_foggy c_t_now_crowd_at c_t_now_crowd_light c_t_now_sights_count c_t_now_sights_places c_t_now_sights_lights c_t_ways_planks c_t_ways_least c_t_ways_neighbours) [.ref A_t, .int x1] r (wl_X9_ask G A_t A_t_now A_t_images A_t_pad A_t_evening A_t_ways A_t_tour A_t_odds A_t_now_marsh A_t_now_crowd A_t_now_sights A_t_now_marsh_codes A_t_now_crowd_at A_t_now_crowd_home A_t_now_crowd_light A_t_now_crowd_carries A_t_now_crowd_bearer A_t_now_sights_places A_t_now_sights_lights A_t_ways_planks A_t_ways_least A_t_ways_neighbours z_t_measured c_t_now_marsh_codes c_t_now_crowd_there c_t_now_crowd_foggy c_t_now_crowd_at c_t_now_crowd_light c_t_now_sights_count c_t_now_sights_places c_t_now_sights_lights z_t_ways_planks z_t_ways_least z_t_ways_neighbours) := fun sz => met_intro (by decide) (Nat.le_of_ble_eq_true rfl) (fun p e s m args below meth c ls hsz hC hr hlk hnm hl hw => wn_X9_ask hC (fun pc H locs ls hd hw => g_iret hC hr hlk hw rfl rfl hd) hf hl hw)

theorem dX9_year_0 : decode cX9_year 0 = .ok (.iload_n 1, 1) := by decide +kernel
theorem dX9_year_1 : decode cX9_year 1 = .ok (.iconst 0, 1) := by decide +kernel
theorem dX9_year_2 : decode cX9_year 2 = .ok (.sipush 9999, 3) := by decide +kernel
theorem dX9_year_5 : decode cX9_year 5 = .ok (.invokestatic 63, 3) := by decide +kernel
theorem dX9_year_8 : decode cX9_year 8 = .ok (.ifCond .eq 22, 3) := by decide +kernel
theorem dX9_year_11 : decode cX9_year 11 = .ok (.iload_n 2, 1) := by decide +kernel
theorem dX9_year_12 : decode cX9_year 12 = .ok (.iconst 1, 1) := by decide +kernel
theorem dX9_year_13 : decode cX9_year 13 = .ok (.bipush 99, 2) := by decide +kernel
theorem dX9_year_15 : decode cX9_year 15 = .ok (.invokestatic 63, 3) := by decide +kernel
theorem dX9_year_18 : decode cX9_year 18 = .ok (.ifCond .eq 12, 3) := by decide +kernel
theorem dX9_year_21 : decode cX9_year 21 = .ok (.iload_n 3, 1) := by decide +kernel
theorem dX9_year_22 : decode cX9_year 22 = .ok (.iconst 0, 1) := by decide +kernel
theorem dX9_year_23 : decode cX9_year 23 = .ok (.iconst 2, 1) := by decide +kernel
theorem dX9_year_24 : decode cX9_year 24 = .ok (.invokestatic 63, 3) := by decide +kernel
theorem dX9_year_27 : decode cX9_year 27 = .ok (.ifCond .ne 6, 3) := by decide +kernel
theorem dX9_year_30 : decode cX9_year 30 = .ok (.bipush (-2), 2) := by decide +kernel
theorem dX9_year_32 : decode cX9_year 32 = .ok (.ireturn, 1) := by decide +kernel
theorem dX9_year_33 : decode cX9_year 33 = .ok (.aload_n 0, 1) := by decide +kernel
theorem dX9_year_34 : decode cX9_year 34 = .ok (.getfield 30, 3) := by decide +kernel
theorem dX9_year_37 : decode cX9_year 37 = .ok (.aload_n 0, 1) := by decide +kernel
theorem dX9_year_38 : decode cX9_year 38 = .ok (.getfield 12, 3) := by decide +kernel
theorem dX9_year_41 : decode cX9_year 41 = .ok (.iload_n 1, 1) := by decide +kernel
theorem dX9_year_42 : decode cX9_year 42 = .ok (.iload_n 2, 1) := by decide +kernel
theorem dX9_year_43 : decode cX9_year 43 = .ok (.invokevirtual 263, 3) := by decide +kernel
theorem dX9_year_46 : decode cX9_year 46 = .ok (.iload_n 3, 1) := by decide +kernel
theorem dX9_year_47 : decode cX9_year 47 = .ok (.ifCond .ne 11, 3) := by decide +kernel
theorem dX9_year_50 : decode cX9_year 50 = .ok (.aload_n 0, 1) := by decide +kernel
theorem dX9_year_51 : decode cX9_year 51 = .ok (.getfield 30, 3) := by decide +kernel
theorem dX9_year_54 : decode cX9_year 54 = .ok (.getfield 127, 3) := by decide +kernel
theorem dX9_year_57 : decode cX9_year 57 = .ok (.ireturn, 1) := by decide +kernel
theorem dX9_year_58 : decode cX9_year 58 = .ok (.iload_n 3, 1) := by decide +kernel
theorem dX9_year_59 : decode cX9_year 59 = .ok (.iconst 1, 1) := by decide +kernel
theorem dX9_year_60 : decode cX9_year 60 = .ok (.if_icmp .ne 16, 3) := by decide +kernel
theorem dX9_year_63 : decode cX9_year 63 = .ok (.aload_n 0, 1) := by decide +kernel
theorem dX9_year_64 : decode cX9_year 64 = .ok (.getfield 30, 3) := by decide +kernel
theorem dX9_year_67 : decode cX9_year 67 = .ok (.getfield 130, 3) := by decide +kernel
theorem dX9_year_70 : decode cX9_year 70 = .ok (.invokevirtual 267, 3) := by decide +kernel
theorem dX9_year_73 : decode cX9_year 73 = .ok (.goto 10, 3) := by decide +kernel
theorem dX9_year_76 : decode cX9_year 76 = .ok (.aload_n 0, 1) := by decide +kernel
theorem dX9_year_77 : decode cX9_year 77 = .ok (.getfield 30, 3) := by decide +kernel
theorem dX9_year_80 : decode cX9_year 80 = .ok (.getfield 270, 3) := by decide +kernel
theorem dX9_year_83 : decode cX9_year 83 = .ok (.ireturn, 1) := by decide +kernel
abbrev wl_X9_year (G : gw_) (A_t : Nat) (A_t_now : Nat) (A_t_images : Nat) (A_t_pad : Nat) (A_t_evening : Nat) (A_t_ways : Nat) (A_t_tour : Nat) (A_t_odds : Nat) (A_t_now_marsh : Nat) (A_t_now_crowd : Nat) (A_t_now_sights : Nat) (A_t_now_marsh_codes : Nat) (A_t_now_crowd_at : Nat) (A_t_now_crowd_home : Nat) (A_t_now_crowd_light : Nat) (A_t_now_crowd_carries : Nat) (A_t_now_crowd_bearer : Nat) (A_t_evening_crowd : Nat) (A_t_evening_crowd_at : Nat) (A_t_evening_crowd_home : Nat) (A_t_evening_crowd_light : Nat) (A_t_evening_crowd_carries : Nat) (A_t_evening_crowd_bearer : Nat) (c_t_measured : Int32) (c_t_now_marsh_codes : Nat → Int32) (c_t_now_crowd_there : Int32) (c_t_now_crowd_foggy : Int32) (c_t_now_crowd_at : Nat → Int32) (c_t_now_crowd_home : Nat → Int32) (c_t_now_crowd_light : Nat → Int32) (c_t_now_crowd_carries : Nat → Int32) (c_t_now_crowd_bearer : Nat → Int32) (c_t_evening_acts : Int32) (c_t_evening_failedAct : Int32) (c_t_evening_reason : Int32) (c_t_evening_costs : Int32) (c_t_evening_walks : Int32) (c_t_evening_crowd_there : Int32) (c_t_evening_crowd_foggy : Int32) (c_t_evening_crowd_at : Nat → Int32) (c_t_evening_crowd_home : Nat → Int32) (c_t_evening_crowd_light : Nat → Int32) (c_t_evening_crowd_carries : Nat → Int32) (c_t_evening_crowd_bearer : Nat → Int32) : va_W := [ob_ A_t 9 [.ref A_t_now, .ref A_t_images, .ref A_t_pad, .ref A_t_evening, .ref A_t_ways, .ref A_t_tour, .ref A_t_odds, .int c_t_measured], ob_ A_t_now 5 [.ref A_t_now_marsh, .ref A_t_now_crowd, .ref A_t_now_sights], ob_ A_t_now_marsh 2 [.ref A_t_now_marsh_codes], ia_ G A_t_now_marsh_codes 144 c_t_now_marsh_codes, ob_ A_t_now_crowd 0 [.int c_t_now_crowd_there, .int c_t_now_crowd_foggy, .ref A_t_now_crowd_at, .ref A_t_now_crowd_home, .ref A_t_now_crowd_light, .ref A_t_now_crowd_carries, .ref A_t_now_crowd_bearer], ia_ G A_t_now_crowd_at 6 c_t_now_crowd_at, ia_ G A_t_now_crowd_home 6 c_t_now_crowd_home, ia_ G A_t_now_crowd_light 6 c_t_now_crowd_light, ia_ G A_t_now_crowd_carries 6 c_t_now_crowd_carries, ia_ G A_t_now_crowd_bearer 6 c_t_now_crowd_bearer, ob_ A_t_evening 1 [.ref A_t_evening_crowd, .int c_t_evening_acts, .int c_t_evening_failedAct, .int c_t_evening_reason, .int c_t_evening_costs, .int c_t_evening_walks], ob_ A_t_evening_crowd 0 [.int c_t_evening_crowd_there, .int c_t_evening_crowd_foggy, .ref A_t_evening_crowd_at, .ref A_t_evening_crowd_home, .ref A_t_evening_crowd_light, .ref A_t_evening_crowd_carries, .ref A_t_evening_crowd_bearer], ia_ G A_t_evening_crowd_at 6 c_t_evening_crowd_at, ia_ G A_t_evening_crowd_home 6 c_t_evening_crowd_home, ia_ G A_t_evening_crowd_light 6 c_t_evening_crowd_light, ia_ G A_t_evening_crowd_carries 6 c_t_evening_crowd_carries, ia_ G A_t_evening_crowd_bearer 6 c_t_evening_crowd_bearer]
def fn_X9_year (c_t_now_marsh_codes : Nat → Int32) (c_t_now_crowd_there : Int32) (c_t_now_crowd_foggy : Int32) (c_t_now_crowd_at : Nat → Int32) (c_t_now_crowd_home : Nat → Int32) (c_t_now_crowd_light : Nat → Int32) (c_t_now_crowd_carries : Nat → Int32) (c_t_now_crowd_bearer : Nat → Int32) (c_t_evening_acts : Int32) (c_t_evening_failedAct : Int32) (c_t_evening_reason : Int32) (c_t_evening_costs : Int32) (c_t_evening_walks : Int32) (c_t_evening_crowd_there : Int32) (c_t_evening_crowd_foggy : Int32) (c_t_evening_crowd_at : Nat → Int32) (c_t_evening_crowd_home : Nat → Int32) (c_t_evening_crowd_light : Nat → Int32) (c_t_evening_crowd_carries : Nat → Int32) (c_t_evening_crowd_bearer : Nat → Int32) (x1 : Int32) (x2 : Int32) (x3 : Int32) : Option (Int32 × Int32 × Int32 × Int32 × Int32 × Int32 × Int32 × Int32 × (Nat → Int32) × (Nat → Int32) × (Nat → Int32) × (Nat → Int32) × (Nat → Int32)) :=
  b1_ (fn_X9_isWithin x1 0 9999) fun r1 =>
  if r1 = 0 then
    some ((-2), c_t_evening_acts, c_t_evening_failedAct, c_t_evening_reason, c_t_evening_costs, c_t_evening_walks, c_t_evening_crowd_there, c_t_evening_crowd_foggy, c_t_evening_crowd_at, c_t_evening_crowd_home, c_t_evening_crowd_light, c_t_evening_crowd_carries, c_t_evening_crowd_bearer)
  else
    b1_ (fn_X9_isWithin x2 1 99) fun r3 =>
    if r3 = 0 then
      some ((-2), c_t_evening_acts, c_t_evening_failedAct, c_t_evening_reason, c_t_evening_costs, c_t_evening_walks, c_t_evening_crowd_there, c_t_evening_crowd_foggy, c_t_evening_crowd_at, c_t_evening_crowd_home, c_t_evening_crowd_light, c_t_evening_crowd_carries, c_t_evening_crowd_bearer)
    else
      b1_ (fn_X9_isWithin x3 0 2) fun r5 =>
      if r5 = 0 then
        some ((-2), c_t_evening_acts, c_t_evening_failedAct, c_t_evening_reason, c_t_evening_costs, c_t_evening_walks, c_t_evening_crowd_there, c_t_evening_crowd_foggy, c_t_evening_crowd_at, c_t_evening_crowd_home, c_t_evening_crowd_light, c_t_evening_crowd_carries, c_t_evening_crowd_bearer)
      else
        b12_ (fn_X1_playYear c_t_evening_acts c_t_evening_failedAct c_t_evening_reason c_t_evening_costs c_t_evening_walks c_t_evening_crowd_there c_t_evening_crowd_foggy c_t_evening_crowd_at c_t_evening_crowd_home c_t_evening_crowd_light c_t_evening_crowd_carries c_t_evening_crowd_bearer c_t_now_marsh_codes c_t_now_crowd_there c_t_now_crowd_foggy c_t_now_crowd_at c_t_now_crowd_home c_t_now_crowd_light c_t_now_crowd_carries c_t_now_crowd_bearer x1 x2) fun w7 w8 w9 w10 w11 w12 w13 w14 w15 w16 w17 w18 =>
        if x3 = 0 then
          some (w10, w7, w8, w9, w10, w11, w12, w13, w14, w15, w16, w17, w18)
        else
          if x3 = 1 then
            b1_ (fn_X0_countAtHome w12 w14 w15) fun r20 =>
            some (r20, w7, w8, w9, w10, w11, w12, w13, w14, w15, w16, w17, w18)
          else
            some (w11, w7, w8, w9, w10, w11, w12, w13, w14, w15, w16, w17, w18)
set_option maxHeartbeats 4000000 in
set_option maxRecDepth 100000 in
theorem wn_X9_year {p : Program} {l : Launch} {e : Env} {s : State} {m : MethodId} {args : Array Value} {below : List Frame} {meth : Method} {c : Code} {G : gw_} {A : Nat → Prop} {Q : State → Prop} {A_t : Nat} {A_t_now : Nat} {A_t_images : Nat} {A_t_pad : Nat} {A_t_evening : Nat} {A_t_ways : Nat} {A_t_tour : Nat} {A_t_odds : Nat} {A_t_now_marsh : Nat} {A_t_now_crowd : Nat} {A_t_now_sights : Nat} {A_t_now_marsh_codes : Nat} {A_t_now_crowd_at : Nat} {A_t_now_crowd_home : Nat} {A_t_now_crowd_light : Nat} {A_t_now_crowd_carries : Nat} {A_t_now_crowd_bearer : Nat} {A_t_evening_crowd : Nat} {A_t_evening_crowd_at : Nat} {A_t_evening_crowd_home : Nat} {A_t_evening_crowd_light : Nat} {A_t_evening_crowd_carries : Nat} {A_t_evening_crowd_bearer : Nat} {c_t_measured : Int32} {c_t_now_marsh_codes : Nat → Int32} {c_t_now_crowd_there : Int32} {c_t_now_crowd_foggy : Int32} {c_t_now_crowd_at : Nat → Int32} {c_t_now_crowd_home : Nat → Int32} {c_t_now_crowd_light : Nat → Int32} {c_t_now_crowd_carries : Nat → Int32} {c_t_now_crowd_bearer : Nat → Int32} {c_t_evening_acts : Int32} {z_t_evening_acts : Int32} {c_t_evening_failedAct : Int32} {z_t_evening_failedAct : Int32} {c_t_evening_reason : Int32} {z_t_evening_reason : Int32} {c_t_evening_costs : Int32} {z_t_evening_costs : Int32} {c_t_evening_walks : Int32} {z_t_evening_walks : Int32} {c_t_evening_crowd_there : Int32} {z_t_evening_crowd_there : Int32} {c_t_evening_crowd_foggy : Int32} {z_t_evening_crowd_foggy : Int32} {c_t_evening_crowd_at : Nat → Int32} {z_t_evening_crowd_at : Nat → Int32} {c_t_evening_crowd_home : Nat → Int32} {z_t_evening_crowd_home : Nat → Int32} {c_t_evening_crowd_light : Nat → Int32} {z_t_evening_crowd_light : Nat → Int32} {c_t_evening_crowd_carries : Nat → Int32} {z_t_evening_crowd_carries : Nat → Int32} {c_t_evening_crowd_bearer : Nat → Int32} {z_t_evening_crowd_bearer : Nat → Int32} {r : Int32} {x1 : Int32} {x2 : Int32} {x3 : Int32} (hC : cx_ p s m c G cX9_year 4 RX9) (hret : ∀ (pc : Nat) (H : Heap) (locs : List Loc) (ls : Array Slot), decode cX9_year pc = .ok (.ireturn, 1) → wd_ G A s.heap (wl_X9_year G A_t A_t_now A_t_images A_t_pad A_t_evening A_t_ways A_t_tour A_t_odds A_t_now_marsh A_t_now_crowd A_t_now_sights A_t_now_marsh_codes A_t_now_crowd_at A_t_now_crowd_home A_t_now_crowd_light A_t_now_crowd_carries A_t_now_crowd_bearer A_t_evening_crowd A_t_evening_crowd_at A_t_evening_crowd_home A_t_evening_crowd_light A_t_evening_crowd_carries A_t_evening_crowd_bearer c_t_measured c_t_now_marsh_codes c_t_now_crowd_there c_t_now_crowd_foggy c_t_now_crowd_at c_t_now_crowd_home c_t_now_crowd_light c_t_now_crowd_carries c_t_now_crowd_bearer z_t_evening_acts z_t_evening_failedAct z_t_evening_reason z_t_evening_costs z_t_evening_walks z_t_evening_crowd_there z_t_evening_crowd_foggy z_t_evening_crowd_at z_t_evening_crowd_home z_t_evening_crowd_light z_t_evening_crowd_carries z_t_evening_crowd_bearer) H locs → W p l e { frames := 5, cells := 0, slots := 0, locals := 120 } s m args below meth c H locs 0 0 Q (F0 m pc ls [.int r])) (hf : fn_X9_year c_t_now_marsh_codes c_t_now_crowd_there c_t_now_crowd_foggy c_t_now_crowd_at c_t_now_crowd_home c_t_now_crowd_light c_t_now_crowd_carries c_t_now_crowd_bearer c_t_evening_acts c_t_evening_failedAct c_t_evening_reason c_t_evening_costs c_t_evening_walks c_t_evening_crowd_there c_t_evening_crowd_foggy c_t_evening_crowd_at c_t_evening_crowd_home c_t_evening_crowd_light c_t_evening_crowd_carries c_t_evening_crowd_bearer x1 x2 x3 = some (r, z_t_evening_acts, z_t_evening_failedAct, z_t_evening_reason, z_t_evening_costs, z_t_evening_walks, z_t_evening_crowd_there, z_t_evening_crowd_foggy, z_t_evening_crowd_at, z_t_evening_crowd_home, z_t_evening_crowd_light, z_t_evening_crowd_carries, z_t_evening_crowd_bearer)) {H : Heap} {locs : List Loc} {ls : Array Slot} (hl : lv_has ls 4 [(0, .ref A_t), (1, .int x1), (2, .int x2), (3, .int x3)]) (hw : wd_ G A s.heap (wl_X9_year G A_t A_t_now A_t_images A_t_pad A_t_evening A_t_ways A_t_tour A_t_odds A_t_now_marsh A_t_now_crowd A_t_now_sights A_t_now_marsh_codes A_t_now_crowd_at A_t_now_crowd_home A_t_now_crowd_light A_t_now_crowd_carries A_t_now_crowd_bearer A_t_evening_crowd A_t_evening_crowd_at A_t_evening_crowd_home A_t_evening_crowd_light A_t_evening_crowd_carries A_t_evening_crowd_bearer c_t_measured c_t_now_marsh_codes c_t_now_crowd_there c_t_now_crowd_foggy c_t_now_crowd_at c_t_now_crowd_home c_t_now_crowd_light c_t_now_crowd_carries c_t_now_crowd_bearer c_t_evening_acts c_t_evening_failedAct c_t_evening_reason c_t_evening_costs c_t_evening_walks c_t_evening_crowd_there c_t_evening_crowd_foggy c_t_evening_crowd_at c_t_evening_crowd_home c_t_evening_crowd_light c_t_evening_crowd_carries c_t_evening_crowd_bearer) H locs) : W p l e { frames := 5, cells := 0, slots := 0, locals := 120 } s m args below meth c H locs 0 0 Q (F0 m 0 ls []) := by
  have hx := hC.1
  have hb := hC.2.1
  unfold fn_X9_year at hf
  refine lv_iload_n hx hb dX9_year_0 rfl (lv_at hl 1 rfl) ?_
  refine lv_iconst (v := 0) hx hb dX9_year_1 (by decide) ?_
  refine lv_sipush (v := 9999) hx hb dX9_year_2 (by decide) ?_
  obtain ⟨r1, hq2, hf⟩ := b1_s hf
  refine h_cSi hC hw msX9_63 (cn_X9_isWithin l G x1 0 9999 r1 hq2) [] rfl (by decide) rfl hl.1 rfl (Nat.le_of_ble_eq_true rfl) ⟨Nat.le_of_ble_eq_true rfl, Nat.le_of_ble_eq_true rfl⟩ ⟨Nat.le_refl _, Nat.le_refl _⟩ dX9_year_5 (fun H locs hw => ?_)
  refine lv_if_eq (tgt := 30) hx hb dX9_year_8 (by decide) (fun hc => ?_) (fun hc => ?_)
  · replace hf := it_t hc hf
    refine lv_bipush (v := (-2)) hx hb dX9_year_30 (by decide) ?_
    obtain ⟨h1_, h2_, h3_, h4_, h5_, h6_, h7_, h8_, h9_, h10_, h11_, h12_, h13_⟩ := t13_ hf
    subst h1_
    subst h2_
    subst h3_
    subst h4_
    subst h5_
    subst h6_
    subst h7_
    subst h8_
    subst h9_
    subst h10_
    subst h11_
    subst h12_
    subst h13_
    exact hret _ _ _ _ dX9_year_32 hw
  · replace hf := it_f hc hf
    refine lv_iload_n hx hb dX9_year_11 rfl (lv_at hl 2 rfl) ?_
    refine lv_iconst (v := 1) hx hb dX9_year_12 (by decide) ?_
    refine lv_bipush (v := 99) hx hb dX9_year_13 (by decide) ?_
    obtain ⟨r3, hq4, hf⟩ := b1_s hf
    refine h_cSi hC hw msX9_63 (cn_X9_isWithin l G x2 1 99 r3 hq4) [] rfl (by decide) rfl hl.1 rfl (Nat.le_of_ble_eq_true rfl) ⟨Nat.le_of_ble_eq_true rfl, Nat.le_of_ble_eq_true rfl⟩ ⟨Nat.le_refl _, Nat.le_refl _⟩ dX9_year_15 (fun H locs hw => ?_)
    refine lv_if_eq (tgt := 30) hx hb dX9_year_18 (by decide) (fun hc => ?_) (fun hc => ?_)
    · replace hf := it_t hc hf
      refine lv_bipush (v := (-2)) hx hb dX9_year_30 (by decide) ?_
      obtain ⟨h1_, h2_, h3_, h4_, h5_, h6_, h7_, h8_, h9_, h10_, h11_, h12_, h13_⟩ := t13_ hf
      subst h1_
      subst h2_
      subst h3_
      subst h4_
      subst h5_
      subst h6_
      subst h7_
      subst h8_
      subst h9_
      subst h10_
      subst h11_
      subst h12_
      subst h13_
      exact hret _ _ _ _ dX9_year_32 hw
    · replace hf := it_f hc hf
      refine lv_iload_n hx hb dX9_year_21 rfl (lv_at hl 3 rfl) ?_
      refine lv_iconst (v := 0) hx hb dX9_year_22 (by decide) ?_
      refine lv_iconst (v := 2) hx hb dX9_year_23 (by decide) ?_
      obtain ⟨r5, hq6, hf⟩ := b1_s hf
      refine h_cSi hC hw msX9_63 (cn_X9_isWithin l G x3 0 2 r5 hq6) [] rfl (by decide) rfl hl.1 rfl (Nat.le_of_ble_eq_true rfl) ⟨Nat.le_of_ble_eq_true rfl, Nat.le_of_ble_eq_true rfl⟩ ⟨Nat.le_refl _, Nat.le_refl _⟩ dX9_year_24 (fun H locs hw => ?_)
      refine lv_if_ne (tgt := 33) hx hb dX9_year_27 (by decide) (fun hc => ?_) (fun hc => ?_)
      · replace hf := it_f hc hf
        refine lv_aload_n hx hb dX9_year_33 rfl (lv_at hl 0 rfl) ?_
        refine g_get hC hw fkX9_30 0 rfl rfl dX9_year_34 ?_
        refine lv_aload_n hx hb dX9_year_37 rfl (lv_at hl 0 rfl) ?_
        refine g_get hC hw fkX9_12 0 rfl rfl dX9_year_38 ?_
        refine lv_iload_n hx hb dX9_year_41 rfl (lv_at hl 1 rfl) ?_
        refine lv_iload_n hx hb dX9_year_42 rfl (lv_at hl 2 rfl) ?_
        obtain ⟨w7, w8, w9, w10, w11, w12, w13, w14, w15, w16, w17, w18, hq19, hf⟩ := b12_s hf
        refine g_cVv hC hw mvX9_263 (cn_X1_playYear l G A_t_evening A_t_evening_crowd A_t_evening_crowd_at A_t_evening_crowd_home A_t_evening_crowd_light A_t_evening_crowd_carries A_t_evening_crowd_bearer A_t_now A_t_now_marsh A_t_now_crowd A_t_now_sights A_t_now_marsh_codes A_t_now_crowd_at A_t_now_crowd_home A_t_now_crowd_light A_t_now_crowd_carries A_t_now_crowd_bearer c_t_evening_acts c_t_evening_failedAct c_t_evening_reason c_t_evening_costs c_t_evening_walks c_t_evening_crowd_there c_t_evening_crowd_foggy c_t_evening_crowd_at c_t_evening_crowd_home c_t_evening_crowd_light c_t_evening_crowd_carries c_t_evening_crowd_bearer c_t_now_marsh_codes c_t_now_crowd_there c_t_now_crowd_foggy c_t_now_crowd_at c_t_now_crowd_home c_t_now_crowd_light c_t_now_crowd_carries c_t_now_crowd_bearer x1 x2 w7 w8 w9 w10 w11 w12 w13 w14 w15 w16 w17 w18 hq19) [10, 11, 12, 13, 14, 15, 16, 1, 2, 3, 4, 5, 6, 7, 8, 9] rfl (by decide) rfl 10 rfl rfl rfl hl.1 rfl (Nat.le_of_ble_eq_true rfl) ⟨Nat.le_of_ble_eq_true rfl, Nat.le_of_ble_eq_true rfl⟩ ⟨Nat.le_refl _, Nat.le_refl _⟩ dX9_year_43 (fun H locs hw => ?_)
        have hw : wd_ G A s.heap (wl_X9_year G A_t A_t_now A_t_images A_t_pad A_t_evening A_t_ways A_t_tour A_t_odds A_t_now_marsh A_t_now_crowd A_t_now_sights A_t_now_marsh_codes A_t_now_crowd_at A_t_now_crowd_home A_t_now_crowd_light A_t_now_crowd_carries A_t_now_crowd_bearer A_t_evening_crowd A_t_evening_crowd_at A_t_evening_crowd_home A_t_evening_crowd_light A_t_evening_crowd_carries A_t_evening_crowd_bearer c_t_measured c_t_now_marsh_codes c_t_now_crowd_there c_t_now_crowd_foggy c_t_now_crowd_at c_t_now_crowd_home c_t_now_crowd_light c_t_now_crowd_carries c_t_now_crowd_bearer w7 w8 w9 w10 w11 w12 w13 w14 w15 w16 w17 w18) H locs := hw
        refine lv_iload_n hx hb dX9_year_46 rfl (lv_at hl 3 rfl) ?_
        refine lv_if_ne (tgt := 58) hx hb dX9_year_47 (by decide) (fun hc => ?_) (fun hc => ?_)
        · replace hf := it_f hc hf
          refine lv_iload_n hx hb dX9_year_58 rfl (lv_at hl 3 rfl) ?_
          refine lv_iconst (v := 1) hx hb dX9_year_59 (by decide) ?_
          refine lv_icmp_ne (tgt := 76) hx hb dX9_year_60 (by decide) (fun hc => ?_) (fun hc => ?_)
          · replace hf := it_f hc hf
            refine lv_aload_n hx hb dX9_year_76 rfl (lv_at hl 0 rfl) ?_
            refine g_get hC hw fkX9_30 0 rfl rfl dX9_year_77 ?_
            refine g_get hC hw fkX9_270 10 rfl rfl dX9_year_80 ?_
            obtain ⟨h1_, h2_, h3_, h4_, h5_, h6_, h7_, h8_, h9_, h10_, h11_, h12_, h13_⟩ := t13_ hf
            subst h1_
            subst h2_
            subst h3_
            subst h4_
            subst h5_
            subst h6_
            subst h7_
            subst h8_
            subst h9_
            subst h10_
            subst h11_
            subst h12_
            subst h13_
            exact hret _ _ _ _ dX9_year_83 hw
          · replace hf := it_t hc hf
            refine lv_aload_n hx hb dX9_year_63 rfl (lv_at hl 0 rfl) ?_
            refine g_get hC hw fkX9_30 0 rfl rfl dX9_year_64 ?_
            refine g_get hC hw fkX9_130 10 rfl rfl dX9_year_67 ?_
            obtain ⟨r20, hq21, hf⟩ := b1_s hf
            refine h_cVi hC hw mvX9_267 (cn_X0_countAtHome l G A_t_evening_crowd A_t_evening_crowd_at A_t_evening_crowd_home A_t_evening_crowd_light A_t_evening_crowd_carries A_t_evening_crowd_bearer w12 w13 w14 w15 r20 hq21) [11, 12, 13] rfl (by decide) 11 rfl rfl rfl hl.1 rfl (Nat.le_of_ble_eq_true rfl) ⟨Nat.le_of_ble_eq_true rfl, Nat.le_of_ble_eq_true rfl⟩ ⟨Nat.le_refl _, Nat.le_refl _⟩ dX9_year_70 (fun H locs hw => ?_)
            refine lv_goto (tgt := 83) hx hb dX9_year_73 (by decide) ?_
            obtain ⟨h1_, h2_, h3_, h4_, h5_, h6_, h7_, h8_, h9_, h10_, h11_, h12_, h13_⟩ := t13_ hf
            subst h1_
            subst h2_
            subst h3_
            subst h4_
            subst h5_
            subst h6_
            subst h7_
            subst h8_
            subst h9_
            subst h10_
            subst h11_
            subst h12_
            subst h13_
            exact hret _ _ _ _ dX9_year_83 hw
        · replace hf := it_t hc hf
          refine lv_aload_n hx hb dX9_year_50 rfl (lv_at hl 0 rfl) ?_
          refine g_get hC hw fkX9_30 0 rfl rfl dX9_year_51 ?_
          refine g_get hC hw fkX9_127 10 rfl rfl dX9_year_54 ?_
          obtain ⟨h1_, h2_, h3_, h4_, h5_, h6_, h7_, h8_, h9_, h10_, h11_, h12_, h13_⟩ := t13_ hf
          subst h1_
          subst h2_
          subst h3_
          subst h4_
          subst h5_
          subst h6_
          subst h7_
          subst h8_
          subst h9_
          subst h10_
          subst h11_
          subst h12_
          subst h13_
          exact hret _ _ _ _ dX9_year_57 hw
      · replace hf := it_t hc hf
        refine lv_bipush (v := (-2)) hx hb dX9_year_30 (by decide) ?_
        obtain ⟨h1_, h2_, h3_, h4_, h5_, h6_, h7_, h8_, h9_, h10_, h11_, h12_, h13_⟩ := t13_ hf
        subst h1_
        subst h2_
        subst h3_
        subst h4_
        subst h5_
        subst h6_
        subst h7_
        subst h8_
        subst h9_
        subst h10_
        subst h11_
        subst h12_
        subst h13_
        exact hret _ _ _ _ dX9_year_32 hw
set_option maxHeartbeats 4000000 in
set_option maxRecDepth 100000 in
theorem cn_X9_year (l : Launch) (G : gw_) (A_t : Nat) (A_t_now : Nat) (A_t_images : Nat) (A_t_pad : Nat) (A_t_evening : Nat) (A_t_ways : Nat) (A_t_tour : Nat) (A_t_odds : Nat) (A_t_now_marsh : Nat) (A_t_now_crowd : Nat) (A_t_now_sights : Nat) (A_t_now_marsh_codes : Nat) (A_t_now_crowd_at : Nat) (A_t_now_crowd_home : Nat) (A_t_now_crowd_light : Nat) (A_t_now_crowd_carries : Nat) (A_t_now_crowd_bearer : Nat) (A_t_evening_crowd : Nat) (A_t_evening_crowd_at : Nat) (A_t_evening_crowd_home : Nat) (A_t_evening_crowd_light : Nat) (A_t_evening_crowd_carries : Nat) (A_t_evening_crowd_bearer : Nat) (c_t_measured : Int32) (c_t_now_marsh_codes : Nat → Int32) (c_t_now_crowd_there : Int32) (c_t_now_crowd_foggy : Int32) (c_t_now_crowd_at : Nat → Int32) (c_t_now_crowd_home : Nat → Int32) (c_t_now_crowd_light : Nat → Int32) (c_t_now_crowd_carries : Nat → Int32) (c_t_now_crowd_bearer : Nat → Int32) (c_t_evening_acts : Int32) (c_t_evening_failedAct : Int32) (c_t_evening_reason : Int32) (c_t_evening_costs : Int32) (c_t_evening_walks : Int32) (c_t_evening_crowd_there : Int32) (c_t_evening_crowd_foggy : Int32) (c_t_evening_crowd_at : Nat → Int32) (c_t_evening_crowd_home : Nat → Int32) (c_t_evening_crowd_light : Nat → Int32) (c_t_evening_crowd_carries : Nat → Int32) (c_t_evening_crowd_bearer : Nat → Int32) (x1 : Int32) (x2 : Int32) (x3 : Int32) (r : Int32) (z_t_evening_acts : Int32) (z_t_evening_failedAct : Int32) (z_t_evening_reason : Int32) (z_t_evening_costs : Int32) (z_t_evening_walks : Int32) (z_t_evening_crowd_there : Int32) (z_t_evening_crowd_foggy : Int32) (z_t_evening_crowd_at : Nat → Int32) (z_t_evening_crowd_home : Nat → Int32) (z_t_evening_crowd_light : Nat → Int32) (z_t_evening_crowd_carries : Nat → Int32) (z_t_evening_crowd_bearer : Nat → Int32) (hf : fn_X9_year c_t_now_marsh_codes c_t_now_crowd_there c_t_now_crowd_foggy c_t_now_crowd_at c_t_now_crowd_home c_t_now_crowd_light c_t_now_crowd_carries c_t_now_crowd_bearer c_t_evening_acts c_t_evening_failedAct c_t_evening_reason c_t_evening_costs c_t_evening_walks c_t_evening_crowd_there c_t_evening_crowd_foggy c_t_evening_crowd_at c_t_evening_crowd_home c_t_evening_crowd_light c_t_evening_crowd_carries c_t_evening_crowd_bearer x1 x2 x3 = some (r, z_t_evening_acts, z_t_evening_failedAct, z_t_evening_reason, z_t_evening_costs, z_t_evening_walks, z_t_evening_crowd_there, z_t_evening_crowd_foggy, z_t_evening_crowd_at, z_t_evening_crowd_home, z_t_evening_crowd_light, z_t_evening_crowd_carries, z_t_evening_crowd_bearer)) : ci_ l G yX9_year cX9_year 4 (some .int) 5 120 (wl_X9_year G A_t A_t_now A_t_images A_t_pad A_t_evening A_t_ways A_t_tour A_t_odds A_t_now_marsh A_t_now_crowd A_t_now_sights A_t_now_marsh_codes A_t_now_crowd_at A_t_now_crowd_home A_t_now_crowd_light A_t_now_crowd_carries A_t_now_crowd_bearer A_t_evening_crowd A_t_evening_crowd_at A_t_evening_crowd_home A_t_evening_crowd_light A_t_evening_crowd_carries A_t_evening_crowd_bearer c_t_measured c_t_now_marsh_codes c_t_now_crowd_there c_t_now_crowd_foggy c_t_now_crowd_at c_t_now_crowd_home c_t_now_crowd_light c_t_now_crowd_carries c_t_now_crowd_bearer c_t_evening_acts c_t_evening_failedAct c_t_evening_reason c_t_evening_costs c_t_evening_walks c_t_evening_crowd_there c_t_evening_crowd_foggy c_t_evening_crowd_at c_t_evening_crowd_home c_t_evening_crowd_light c_t_evening_crowd_carries c_t_evening_crowd_bearer) [.ref A_t, .int x1, .int x2, .int x3] r (wl_X9_year G A_t A_t_now A_t_images A_t_pad A_t_evening A_t_ways A_t_tour A_t_odds A_t_now_marsh A_t_now_crowd A_t_now_sights A_t_now_marsh_codes A_t_now_crowd_at A_t_now_crowd_home A_t_now_crowd_light A_t_now_crowd_carries A_t_now_crowd_bearer A_t_evening_crowd A_t_evening_crowd_at A_t_evening_crowd_home A_t_evening_crowd_light A_t_evening_crowd_carries A_t_evening_crowd_bearer c_t_measured c_t_now_marsh_codes c_t_now_crowd_there c_t_now_crowd_foggy c_t_now_crowd_at c_t_now_crowd_home c_t_now_crowd_light c_t_now_crowd_carries c_t_now_crowd_bearer z_t_evening_acts z_t_evening_failedAct z_t_evening_reason z_t_evening_costs z_t_evening_walks z_t_evening_crowd_there z_t_evening_crowd_foggy z_t_evening_crowd_at z_t_evening_crowd_home z_t_evening_crowd_light z_t_evening_crowd_carries z_t_evening_crowd_bearer) := fun sz => met_intro (by decide) (Nat.le_of_ble_eq_true rfl) (fun p e s m args below meth c ls hsz hC hr hlk hnm hl hw => wn_X9_year hC (fun pc H locs ls hd hw => g_iret hC hr hlk hw rfl rfl hd) hf hl hw)
