theorem dX9_walker_0 : decode cX9_walker 0 = .ok (.iload_n 1, 1) := by decide +kernel
theorem dX9_walker_1 : decode cX9_walker 1 = .ok (.iconst 0, 1) := by decide +kernel
theorem dX9_walker_2 : decode cX9_walker 2 = .ok (.iconst 5, 1) := by decide +kernel
theorem dX9_walker_3 : decode cX9_walker 3 = .ok (.invokestatic 63, 3) := by decide +kernel
theorem dX9_walker_6 : decode cX9_walker 6 = .ok (.ifCond .eq 17, 3) := by decide +kernel
theorem dX9_walker_9 : decode cX9_walker 9 = .ok (.iload_n 2, 1) := by decide +kernel
theorem dX9_walker_10 : decode cX9_walker 10 = .ok (.invokestatic 59, 3) := by decide +kernel
theorem dX9_walker_13 : decode cX9_walker 13 = .ok (.ifCond .eq 10, 3) := by decide +kernel
theorem dX9_walker_16 : decode cX9_walker 16 = .ok (.iload_n 3, 1) := by decide +kernel
theorem dX9_walker_17 : decode cX9_walker 17 = .ok (.invokestatic 59, 3) := by decide +kernel
theorem dX9_walker_20 : decode cX9_walker 20 = .ok (.ifCond .ne 5, 3) := by decide +kernel
theorem dX9_walker_23 : decode cX9_walker 23 = .ok (.iconst (-1), 1) := by decide +kernel
theorem dX9_walker_24 : decode cX9_walker 24 = .ok (.ireturn, 1) := by decide +kernel
theorem dX9_walker_25 : decode cX9_walker 25 = .ok (.iload 4, 2) := by decide +kernel
theorem dX9_walker_27 : decode cX9_walker 27 = .ok (.iconst 0, 1) := by decide +kernel
theorem dX9_walker_28 : decode cX9_walker 28 = .ok (.sipush 999, 3) := by decide +kernel
theorem dX9_walker_31 : decode cX9_walker 31 = .ok (.invokestatic 63, 3) := by decide +kernel
theorem dX9_walker_34 : decode cX9_walker 34 = .ok (.ifCond .ne 6, 3) := by decide +kernel
theorem dX9_walker_37 : decode cX9_walker 37 = .ok (.bipush (-2), 2) := by decide +kernel
theorem dX9_walker_39 : decode cX9_walker 39 = .ok (.ireturn, 1) := by decide +kernel
theorem dX9_walker_40 : decode cX9_walker 40 = .ok (.aload_n 0, 1) := by decide +kernel
theorem dX9_walker_41 : decode cX9_walker 41 = .ok (.getfield 12, 3) := by decide +kernel
theorem dX9_walker_44 : decode cX9_walker 44 = .ok (.getfield 81, 3) := by decide +kernel
theorem dX9_walker_47 : decode cX9_walker 47 = .ok (.iload_n 1, 1) := by decide +kernel
theorem dX9_walker_48 : decode cX9_walker 48 = .ok (.iload_n 2, 1) := by decide +kernel
theorem dX9_walker_49 : decode cX9_walker 49 = .ok (.iload_n 3, 1) := by decide +kernel
theorem dX9_walker_50 : decode cX9_walker 50 = .ok (.iload 4, 2) := by decide +kernel
theorem dX9_walker_52 : decode cX9_walker 52 = .ok (.invokevirtual 85, 3) := by decide +kernel
theorem dX9_walker_55 : decode cX9_walker 55 = .ok (.aload_n 0, 1) := by decide +kernel
theorem dX9_walker_56 : decode cX9_walker 56 = .ok (.getfield 12, 3) := by decide +kernel
theorem dX9_walker_59 : decode cX9_walker 59 = .ok (.getfield 81, 3) := by decide +kernel
theorem dX9_walker_62 : decode cX9_walker 62 = .ok (.invokevirtual 91, 3) := by decide +kernel
theorem dX9_walker_65 : decode cX9_walker 65 = .ok (.ireturn, 1) := by decide +kernel
abbrev wl_X9_walker (G : gw_) (A_t : Nat) (A_t_now : Nat) (A_t_images : Nat) (A_t_pad : Nat) (A_t_evening : Nat) (A_t_ways : Nat) (A_t_tour : Nat) (A_t_odds : Nat) (A_t_now_marsh : Nat) (A_t_now_crowd : Nat) (A_t_now_sights : Nat) (A_t_now_crowd_at : Nat) (A_t_now_crowd_home : Nat) (A_t_now_crowd_light : Nat) (A_t_now_crowd_carries : Nat) (A_t_now_crowd_bearer : Nat) (c_t_measured : Int32) (c_t_now_crowd_there : Int32) (c_t_now_crowd_foggy : Int32) (c_t_now_crowd_at : Nat → Int32) (c_t_now_crowd_home : Nat → Int32) (c_t_now_crowd_light : Nat → Int32) (c_t_now_crowd_carries : Nat → Int32) (c_t_now_crowd_bearer : Nat → Int32) : va_W := [ob_ A_t 9 [.ref A_t_now, .ref A_t_images, .ref A_t_pad, .ref A_t_evening, .ref A_t_ways, .ref A_t_tour, .ref A_t_odds, .int c_t_measured], ob_ A_t_now 5 [.ref A_t_now_marsh, .ref A_t_now_crowd, .ref A_t_now_sights], ob_ A_t_now_crowd 0 [.int c_t_now_crowd_there, .int c_t_now_crowd_foggy, .ref A_t_now_crowd_at, .ref A_t_now_crowd_home, .ref A_t_now_crowd_light, .ref A_t_now_crowd_carries, .ref A_t_now_crowd_bearer], ia_ G A_t_now_crowd_at 6 c_t_now_crowd_at, ia_ G A_t_now_crowd_home 6 c_t_now_crowd_home, ia_ G A_t_now_crowd_light 6 c_t_now_crowd_light, ia_ G A_t_now_crowd_carries 6 c_t_now_crowd_carries, ia_ G A_t_now_crowd_bearer 6 c_t_now_crowd_bearer]
def fn_X9_walker (c_t_now_crowd_there : Int32) (c_t_now_crowd_at : Nat → Int32) (c_t_now_crowd_home : Nat → Int32) (c_t_now_crowd_light : Nat → Int32) (c_t_now_crowd_carries : Nat → Int32) (c_t_now_crowd_bearer : Nat → Int32) (x1 : Int32) (x2 : Int32) (x3 : Int32) (x4 : Int32) : Option (Int32 × Int32 × (Nat → Int32) × (Nat → Int32) × (Nat → Int32) × (Nat → Int32) × (Nat → Int32)) :=
  b1_ (fn_X9_isWithin x1 0 5) fun r1 =>
  if r1 = 0 then
    some ((-1), c_t_now_crowd_there, c_t_now_crowd_at, c_t_now_crowd_home, c_t_now_crowd_light, c_t_now_crowd_carries, c_t_now_crowd_bearer)
  else
    b1_ (fn_X9_isPlace x2) fun r3 =>
    if r3 = 0 then
      some ((-1), c_t_now_crowd_there, c_t_now_crowd_at, c_t_now_crowd_home, c_t_now_crowd_light, c_t_now_crowd_carries, c_t_now_crowd_bearer)
    else
      b1_ (fn_X9_isPlace x3) fun r5 =>
      if r5 = 0 then
        some ((-1), c_t_now_crowd_there, c_t_now_crowd_at, c_t_now_crowd_home, c_t_now_crowd_light, c_t_now_crowd_carries, c_t_now_crowd_bearer)
      else
        b1_ (fn_X9_isWithin x4 0 999) fun r7 =>
        if r7 = 0 then
          some ((-2), c_t_now_crowd_there, c_t_now_crowd_at, c_t_now_crowd_home, c_t_now_crowd_light, c_t_now_crowd_carries, c_t_now_crowd_bearer)
        else
          b6_ (fn_X0_enter c_t_now_crowd_there c_t_now_crowd_at c_t_now_crowd_home c_t_now_crowd_light c_t_now_crowd_carries c_t_now_crowd_bearer x1 x2 x3 x4) fun w9 w10 w11 w12 w13 w14 =>
          b1_ (fn_X0_size w9) fun r16 =>
          some (r16, w9, w10, w11, w12, w13, w14)
set_option maxHeartbeats 4000000 in
set_option maxRecDepth 100000 in
theorem wn_X9_walker {p : Program} {l : Launch} {e : Env} {s : State} {m : MethodId} {args : Array Value} {below : List Frame} {meth : Method} {c : Code} {G : gw_} {A : Nat → Prop} {Q : State → Prop} {A_t : Nat} {A_t_now : Nat} {A_t_images : Nat} {A_t_pad : Nat} {A_t_evening : Nat} {A_t_ways : Nat} {A_t_tour : Nat} {A_t_odds : Nat} {A_t_now_marsh : Nat} {A_t_now_crowd : Nat} {A_t_now_sights : Nat} {A_t_now_crowd_at : Nat} {A_t_now_crowd_home : Nat} {A_t_now_crowd_light : Nat} {A_t_now_crowd_carries : Nat} {A_t_now_crowd_bearer : Nat} {c_t_measured : Int32} {c_t_now_crowd_there : Int32} {z_t_now_crowd_there : Int32} {c_t_now_crowd_foggy : Int32} {c_t_now_crowd_at : Nat → Int32} {z_t_now_crowd_at : Nat → Int32} {c_t_now_crowd_home : Nat → Int32} {z_t_now_crowd_home : Nat → Int32} {c_t_now_crowd_light : Nat → Int32} {z_t_now_crowd_light : Nat → Int32} {c_t_now_crowd_carries : Nat → Int32} {z_t_now_crowd_carries : Nat → Int32} {c_t_now_crowd_bearer : Nat → Int32} {z_t_now_crowd_bearer : Nat → Int32} {r : Int32} {x1 : Int32} {x2 : Int32} {x3 : Int32} {x4 : Int32} (hC : cx_ p s m c G cX9_walker 5 RX9) (hret : ∀ (pc : Nat) (H : Heap) (locs : List Loc) (ls : Array Slot), decode cX9_walker pc = .ok (.ireturn, 1) → wd_ G A s.heap (wl_X9_walker G A_t A_t_now A_t_images A_t_pad A_t_evening A_t_ways A_t_tour A_t_odds A_t_now_marsh A_t_now_crowd A_t_now_sights A_t_now_crowd_at A_t_now_crowd_home A_t_now_crowd_light A_t_now_crowd_carries A_t_now_crowd_bearer c_t_measured z_t_now_crowd_there c_t_now_crowd_foggy z_t_now_crowd_at z_t_now_crowd_home z_t_now_crowd_light z_t_now_crowd_carries z_t_now_crowd_bearer) H locs → W p l e { frames := 3, cells := 0, slots := 0, locals := 66 } s m args below meth c H locs 0 0 Q (F0 m pc ls [.int r])) (hf : fn_X9_walker c_t_now_crowd_there c_t_now_crowd_at c_t_now_crowd_home c_t_now_crowd_light c_t_now_crowd_carries c_t_now_crowd_bearer x1 x2 x3 x4 = some (r, z_t_now_crowd_there, z_t_now_crowd_at, z_t_now_crowd_home, z_t_now_crowd_light, z_t_now_crowd_carries, z_t_now_crowd_bearer)) {H : Heap} {locs : List Loc} {ls : Array Slot} (hl : lv_has ls 5 [(0, .ref A_t), (1, .int x1), (2, .int x2), (3, .int x3), (4, .int x4)]) (hw : wd_ G A s.heap (wl_X9_walker G A_t A_t_now A_t_images A_t_pad A_t_evening A_t_ways A_t_tour A_t_odds A_t_now_marsh A_t_now_crowd A_t_now_sights A_t_now_crowd_at A_t_now_crowd_home A_t_now_crowd_light A_t_now_crowd_carries A_t_now_crowd_bearer c_t_measured c_t_now_crowd_there c_t_now_crowd_foggy c_t_now_crowd_at c_t_now_crowd_home c_t_now_crowd_light c_t_now_crowd_carries c_t_now_crowd_bearer) H locs) : W p l e { frames := 3, cells := 0, slots := 0, locals := 66 } s m args below meth c H locs 0 0 Q (F0 m 0 ls []) := by
  have hx := hC.1
  have hb := hC.2.1
  unfold fn_X9_walker at hf
  refine lv_iload_n hx hb dX9_walker_0 rfl (lv_at hl 1 rfl) ?_
  refine lv_iconst (v := 0) hx hb dX9_walker_1 (by decide) ?_
  refine lv_iconst (v := 5) hx hb dX9_walker_2 (by decide) ?_
  obtain ⟨r1, hq2, hf⟩ := b1_s hf
  refine h_cSi hC hw msX9_63 (cn_X9_isWithin l G x1 0 5 r1 hq2) [] rfl (by decide) rfl hl.1 rfl (Nat.le_of_ble_eq_true rfl) ⟨Nat.le_of_ble_eq_true rfl, Nat.le_of_ble_eq_true rfl⟩ ⟨Nat.le_refl _, Nat.le_refl _⟩ dX9_walker_3 (fun H locs hw => ?_)
  refine lv_if_eq (tgt := 23) hx hb dX9_walker_6 (by decide) (fun hc => ?_) (fun hc => ?_)
  · replace hf := it_t hc hf
    refine lv_iconst (v := (-1)) hx hb dX9_walker_23 (by decide) ?_
    obtain ⟨h1_, h2_, h3_, h4_, h5_, h6_, h7_⟩ := t7_ hf
    subst h1_
    subst h2_
    subst h3_
    subst h4_
    subst h5_
    subst h6_
    subst h7_
    exact hret _ _ _ _ dX9_walker_24 hw
  · replace hf := it_f hc hf
    refine lv_iload_n hx hb dX9_walker_9 rfl (lv_at hl 2 rfl) ?_
    obtain ⟨r3, hq4, hf⟩ := b1_s hf
    refine h_cSi hC hw msX9_59 (cn_X9_isPlace l G x2 r3 hq4) [] rfl (by decide) rfl hl.1 rfl (Nat.le_of_ble_eq_true rfl) ⟨Nat.le_of_ble_eq_true rfl, Nat.le_of_ble_eq_true rfl⟩ ⟨Nat.le_refl _, Nat.le_refl _⟩ dX9_walker_10 (fun H locs hw => ?_)
    refine lv_if_eq (tgt := 23) hx hb dX9_walker_13 (by decide) (fun hc => ?_) (fun hc => ?_)
    · replace hf := it_t hc hf
      refine lv_iconst (v := (-1)) hx hb dX9_walker_23 (by decide) ?_
      obtain ⟨h1_, h2_, h3_, h4_, h5_, h6_, h7_⟩ := t7_ hf
      subst h1_
      subst h2_
      subst h3_
      subst h4_
      subst h5_
      subst h6_
      subst h7_
      exact hret _ _ _ _ dX9_walker_24 hw
    · replace hf := it_f hc hf
      refine lv_iload_n hx hb dX9_walker_16 rfl (lv_at hl 3 rfl) ?_
      obtain ⟨r5, hq6, hf⟩ := b1_s hf
      refine h_cSi hC hw msX9_59 (cn_X9_isPlace l G x3 r5 hq6) [] rfl (by decide) rfl hl.1 rfl (Nat.le_of_ble_eq_true rfl) ⟨Nat.le_of_ble_eq_true rfl, Nat.le_of_ble_eq_true rfl⟩ ⟨Nat.le_refl _, Nat.le_refl _⟩ dX9_walker_17 (fun H locs hw => ?_)
      refine lv_if_ne (tgt := 25) hx hb dX9_walker_20 (by decide) (fun hc => ?_) (fun hc => ?_)
      · replace hf := it_f hc hf
        refine lv_iload hx hb dX9_walker_25 (lv_at hl 4 rfl) ?_
        refine lv_iconst (v := 0) hx hb dX9_walker_27 (by decide) ?_
        refine lv_sipush (v := 999) hx hb dX9_walker_28 (by decide) ?_
        obtain ⟨r7, hq8, hf⟩ := b1_s hf
        refine h_cSi hC hw msX9_63 (cn_X9_isWithin l G x4 0 999 r7 hq8) [] rfl (by decide) rfl hl.1 rfl (Nat.le_of_ble_eq_true rfl) ⟨Nat.le_of_ble_eq_true rfl, Nat.le_of_ble_eq_true rfl⟩ ⟨Nat.le_refl _, Nat.le_refl _⟩ dX9_walker_31 (fun H locs hw => ?_)
        refine lv_if_ne (tgt := 40) hx hb dX9_walker_34 (by decide) (fun hc => ?_) (fun hc => ?_)
        · replace hf := it_f hc hf
          refine lv_aload_n hx hb dX9_walker_40 rfl (lv_at hl 0 rfl) ?_
          refine g_get hC hw fkX9_12 0 rfl rfl dX9_walker_41 ?_
          refine g_get hC hw fkX9_81 1 rfl rfl dX9_walker_44 ?_
          refine lv_iload_n hx hb dX9_walker_47 rfl (lv_at hl 1 rfl) ?_
          refine lv_iload_n hx hb dX9_walker_48 rfl (lv_at hl 2 rfl) ?_
          refine lv_iload_n hx hb dX9_walker_49 rfl (lv_at hl 3 rfl) ?_
          refine lv_iload hx hb dX9_walker_50 (lv_at hl 4 rfl) ?_
          obtain ⟨w9, w10, w11, w12, w13, w14, hq15, hf⟩ := b6_s hf
          refine g_cVv hC hw mvX9_85 (cn_X0_enter l G A_t_now_crowd A_t_now_crowd_at A_t_now_crowd_home A_t_now_crowd_light A_t_now_crowd_carries A_t_now_crowd_bearer c_t_now_crowd_there c_t_now_crowd_foggy c_t_now_crowd_at c_t_now_crowd_home c_t_now_crowd_light c_t_now_crowd_carries c_t_now_crowd_bearer x1 x2 x3 x4 w9 w10 w11 w12 w13 w14 hq15) [2, 3, 4, 5, 6, 7] rfl (by decide) rfl 2 rfl rfl rfl hl.1 rfl (Nat.le_of_ble_eq_true rfl) ⟨Nat.le_of_ble_eq_true rfl, Nat.le_of_ble_eq_true rfl⟩ ⟨Nat.le_refl _, Nat.le_refl _⟩ dX9_walker_52 (fun H locs hw => ?_)
          have hw : wd_ G A s.heap (wl_X9_walker G A_t A_t_now A_t_images A_t_pad A_t_evening A_t_ways A_t_tour A_t_odds A_t_now_marsh A_t_now_crowd A_t_now_sights A_t_now_crowd_at A_t_now_crowd_home A_t_now_crowd_light A_t_now_crowd_carries A_t_now_crowd_bearer c_t_measured w9 c_t_now_crowd_foggy w10 w11 w12 w13 w14) H locs := hw
          refine lv_aload_n hx hb dX9_walker_55 rfl (lv_at hl 0 rfl) ?_
          refine g_get hC hw fkX9_12 0 rfl rfl dX9_walker_56 ?_
          refine g_get hC hw fkX9_81 1 rfl rfl dX9_walker_59 ?_
          obtain ⟨r16, hq17, hf⟩ := b1_s hf
          refine h_cVi hC hw mvX9_91 (cn_X0_size l G A_t_now_crowd A_t_now_crowd_at A_t_now_crowd_home A_t_now_crowd_light A_t_now_crowd_carries A_t_now_crowd_bearer w9 c_t_now_crowd_foggy r16 hq17) [2] rfl (by decide) 2 rfl rfl rfl hl.1 rfl (Nat.le_of_ble_eq_true rfl) ⟨Nat.le_of_ble_eq_true rfl, Nat.le_of_ble_eq_true rfl⟩ ⟨Nat.le_refl _, Nat.le_refl _⟩ dX9_walker_62 (fun H locs hw => ?_)
          obtain ⟨h1_, h2_, h3_, h4_, h5_, h6_, h7_⟩ := t7_ hf
          subst h1_
          subst h2_
          subst h3_
          subst h4_
          subst h5_
          subst h6_
          subst h7_
          exact hret _ _ _ _ dX9_walker_65 hw
        · replace hf := it_t hc hf
          refine lv_bipush (v := (-2)) hx hb dX9_walker_37 (by decide) ?_
          obtain ⟨h1_, h2_, h3_, h4_, h5_, h6_, h7_⟩ := t7_ hf
          subst h1_
          subst h2_
          subst h3_
          subst h4_
          subst h5_
          subst h6_
          subst h7_
          exact hret _ _ _ _ dX9_walker_39 hw
      · replace hf := it_t hc hf
        refine lv_iconst (v := (-1)) hx hb dX9_walker_23 (by decide) ?_
        obtain ⟨h1_, h2_, h3_, h4_, h5_, h6_, h7_⟩ := t7_ hf
        subst h1_
        subst h2_
        subst h3_
        subst h4_
        subst h5_
        subst h6_
        subst h7_
        exact hret _ _ _ _ dX9_walker_24 hw
set_option maxHeartbeats 4000000 in
set_option maxRecDepth 100000 in
theorem cn_X9_walker (l : Launch) (G : gw_) (A_t : Nat) (A_t_now : Nat) (A_t_images : Nat) (A_t_pad : Nat) (A_t_evening : Nat) (A_t_ways : Nat) (A_t_tour : Nat) (A_t_odds : Nat) (A_t_now_marsh : Nat) (A_t_now_crowd : Nat) (A_t_now_sights : Nat) (A_t_now_crowd_at : Nat) (A_t_now_crowd_home : Nat) (A_t_now_crowd_light : Nat) (A_t_now_crowd_carries : Nat) (A_t_now_crowd_bearer : Nat) (c_t_measured : Int32) (c_t_now_crowd_there : Int32) (c_t_now_crowd_foggy : Int32) (c_t_now_crowd_at : Nat → Int32) (c_t_now_crowd_home : Nat → Int32) (c_t_now_crowd_light : Nat → Int32) (c_t_now_crowd_carries : Nat → Int32) (c_t_now_crowd_bearer : Nat → Int32) (x1 : Int32) (x2 : Int32) (x3 : Int32) (x4 : Int32) (r : Int32) (z_t_now_crowd_there : Int32) (z_t_now_crowd_at : Nat → Int32) (z_t_now_crowd_home : Nat → Int32) (z_t_now_crowd_light : Nat → Int32) (z_t_now_crowd_carries : Nat → Int32) (z_t_now_crowd_bearer : Nat → Int32) (hf : fn_X9_walker c_t_now_crowd_there c_t_now_crowd_at c_t_now_crowd_home c_t_now_crowd_light c_t_now_crowd_carries c_t_now_crowd_bearer x1 x2 x3 x4 = some (r, z_t_now_crowd_there, z_t_now_crowd_at, z_t_now_crowd_home, z_t_now_crowd_light, z_t_now_crowd_carries, z_t_now_crowd_bearer)) : ci_ l G yX9_walker cX9_walker 5 (some .int) 3 66 (wl_X9_walker G A_t A_t_now A_t_images A_t_pad A_t_evening A_t_ways A_t_tour A_t_odds A_t_now_marsh A_t_now_crowd A_t_now_sights A_t_now_crowd_at A_t_now_crowd_home A_t_now_crowd_light A_t_now_crowd_carries A_t_now_crowd_bearer c_t_measured c_t_now_crowd_there c_t_now_crowd_foggy c_t_now_crowd_at c_t_now_crowd_home c_t_now_crowd_light c_t_now_crowd_carries c_t_now_crowd_bearer) [.ref A_t, .int x1, .int x2, .int x3, .int x4] r (wl_X9_walker G A_t A_t_now A_t_images A_t_pad A_t_evening A_t_ways A_t_tour A_t_odds A_t_now_marsh A_t_now_crowd A_t_now_sights A_t_now_crowd_at A_t_now_crowd_home A_t_now_crowd_light A_t_now_crowd_carries A_t_now_crowd_bearer c_t_measured z_t_now_crowd_there c_t_now_crowd_foggy z_t_now_crowd_at z_t_now_crowd_home z_t_now_crowd_light z_t_now_crowd_carries z_t_now_crowd_bearer) := fun sz => met_intro (by decide) (Nat.le_of_ble_eq_true rfl) (fun p e s m args below meth c ls hsz hC hr hlk hnm hl hw => wn_X9_walker hC (fun pc H locs ls hd hw => g_iret hC hr hlk hw rfl rfl hd) hf hl hw)

theorem dX9_leave_0 : decode cX9_leave 0 = .ok (.aload_n 0, 1) := by decide +kernel
theorem dX9_leave_1 : decode cX9_leave 1 = .ok (.getfield 12, 3) := by decide +kernel
theorem dX9_leave_4 : decode cX9_leave 4 = .ok (.getfield 81, 3) := by decide +kernel
theorem dX9_leave_7 : decode cX9_leave 7 = .ok (.iload_n 1, 1) := by decide +kernel
theorem dX9_leave_8 : decode cX9_leave 8 = .ok (.invokevirtual 95, 3) := by decide +kernel
theorem dX9_leave_11 : decode cX9_leave 11 = .ok (.ifCond .ne 5, 3) := by decide +kernel
theorem dX9_leave_14 : decode cX9_leave 14 = .ok (.iconst (-1), 1) := by decide +kernel
theorem dX9_leave_15 : decode cX9_leave 15 = .ok (.ireturn, 1) := by decide +kernel
theorem dX9_leave_16 : decode cX9_leave 16 = .ok (.aload_n 0, 1) := by decide +kernel
theorem dX9_leave_17 : decode cX9_leave 17 = .ok (.getfield 12, 3) := by decide +kernel
theorem dX9_leave_20 : decode cX9_leave 20 = .ok (.getfield 81, 3) := by decide +kernel
theorem dX9_leave_23 : decode cX9_leave 23 = .ok (.iload_n 1, 1) := by decide +kernel
theorem dX9_leave_24 : decode cX9_leave 24 = .ok (.invokevirtual 98, 3) := by decide +kernel
theorem dX9_leave_27 : decode cX9_leave 27 = .ok (.aload_n 0, 1) := by decide +kernel
theorem dX9_leave_28 : decode cX9_leave 28 = .ok (.getfield 12, 3) := by decide +kernel
theorem dX9_leave_31 : decode cX9_leave 31 = .ok (.getfield 81, 3) := by decide +kernel
theorem dX9_leave_34 : decode cX9_leave 34 = .ok (.invokevirtual 91, 3) := by decide +kernel
theorem dX9_leave_37 : decode cX9_leave 37 = .ok (.ireturn, 1) := by decide +kernel
abbrev wl_X9_leave (G : gw_) (A_t : Nat) (A_t_now : Nat) (A_t_images : Nat) (A_t_pad : Nat) (A_t_evening : Nat) (A_t_ways : Nat) (A_t_tour : Nat) (A_t_odds : Nat) (A_t_now_marsh : Nat) (A_t_now_crowd : Nat) (A_t_now_sights : Nat) (A_t_now_crowd_at : Nat) (A_t_now_crowd_home : Nat) (A_t_now_crowd_light : Nat) (A_t_now_crowd_carries : Nat) (A_t_now_crowd_bearer : Nat) (c_t_measured : Int32) (c_t_now_crowd_there : Int32) (c_t_now_crowd_foggy : Int32) (c_t_now_crowd_carries : Nat → Int32) (c_t_now_crowd_bearer : Nat → Int32) : va_W := [ob_ A_t 9 [.ref A_t_now, .ref A_t_images, .ref A_t_pad, .ref A_t_evening, .ref A_t_ways, .ref A_t_tour, .ref A_t_odds, .int c_t_measured], ob_ A_t_now 5 [.ref A_t_now_marsh, .ref A_t_now_crowd, .ref A_t_now_sights], ob_ A_t_now_crowd 0 [.int c_t_now_crowd_there, .int c_t_now_crowd_foggy, .ref A_t_now_crowd_at, .ref A_t_now_crowd_home, .ref A_t_now_crowd_light, .ref A_t_now_crowd_carries, .ref A_t_now_crowd_bearer], ia_ G A_t_now_crowd_carries 6 c_t_now_crowd_carries, ia_ G A_t_now_crowd_bearer 6 c_t_now_crowd_bearer]
def fn_X9_leave (c_t_now_crowd_there : Int32) (c_t_now_crowd_carries : Nat → Int32) (c_t_now_crowd_bearer : Nat → Int32) (x1 : Int32) : Option (Int32 × Int32 × (Nat → Int32) × (Nat → Int32)) :=
  b1_ (fn_X0_has c_t_now_crowd_there x1) fun r1 =>
  if r1 = 0 then
    some ((-1), c_t_now_crowd_there, c_t_now_crowd_carries, c_t_now_crowd_bearer)
  else
    b3_ (fn_X0_remove c_t_now_crowd_there c_t_now_crowd_carries c_t_now_crowd_bearer x1) fun w3 w4 w5 =>
    b1_ (fn_X0_size w3) fun r7 =>
    some (r7, w3, w4, w5)
set_option maxHeartbeats 4000000 in
set_option maxRecDepth 100000 in
theorem wn_X9_leave {p : Program} {l : Launch} {e : Env} {s : State} {m : MethodId} {args : Array Value} {below : List Frame} {meth : Method} {c : Code} {G : gw_} {A : Nat → Prop} {Q : State → Prop} {A_t : Nat} {A_t_now : Nat} {A_t_images : Nat} {A_t_pad : Nat} {A_t_evening : Nat} {A_t_ways : Nat} {A_t_tour : Nat} {A_t_odds : Nat} {A_t_now_marsh : Nat} {A_t_now_crowd : Nat} {A_t_now_sights : Nat} {A_t_now_crowd_at : Nat} {A_t_now_crowd_home : Nat} {A_t_now_crowd_light : Nat} {A_t_now_crowd_carries : Nat} {A_t_now_crowd_bearer : Nat} {c_t_measured : Int32} {c_t_now_crowd_there : Int32} {z_t_now_crowd_there : Int32} {c_t_now_crowd_foggy : Int32} {c_t_now_crowd_carries : Nat → Int32} {z_t_now_crowd_carries : Nat → Int32} {c_t_now_crowd_bearer : Nat → Int32} {z_t_now_crowd_bearer : Nat → Int32} {r : Int32} {x1 : Int32} (hC : cx_ p s m c G cX9_leave 2 RX9) (hret : ∀ (pc : Nat) (H : Heap) (locs : List Loc) (ls : Array Slot), decode cX9_leave pc = .ok (.ireturn, 1) → wd_ G A s.heap (wl_X9_leave G A_t A_t_now A_t_images A_t_pad A_t_evening A_t_ways A_t_tour A_t_odds A_t_now_marsh A_t_now_crowd A_t_now_sights A_t_now_crowd_at A_t_now_crowd_home A_t_now_crowd_light A_t_now_crowd_carries A_t_now_crowd_bearer c_t_measured z_t_now_crowd_there c_t_now_crowd_foggy z_t_now_crowd_carries z_t_now_crowd_bearer) H locs → W p l e { frames := 3, cells := 0, slots := 0, locals := 63 } s m args below meth c H locs 0 0 Q (F0 m pc ls [.int r])) (hf : fn_X9_leave c_t_now_crowd_there c_t_now_crowd_carries c_t_now_crowd_bearer x1 = some (r, z_t_now_crowd_there, z_t_now_crowd_carries, z_t_now_crowd_bearer)) {H : Heap} {locs : List Loc} {ls : Array Slot} (hl : lv_has ls 2 [(0, .ref A_t), (1, .int x1)]) (hw : wd_ G A s.heap (wl_X9_leave G A_t A_t_now A_t_images A_t_pad A_t_evening A_t_ways A_t_tour A_t_odds A_t_now_marsh A_t_now_crowd A_t_now_sights A_t_now_crowd_at A_t_now_crowd_home A_t_now_crowd_light A_t_now_crowd_carries A_t_now_crowd_bearer c_t_measured c_t_now_crowd_there c_t_now_crowd_foggy c_t_now_crowd_carries c_t_now_crowd_bearer) H locs) : W p l e { frames := 3, cells := 0, slots := 0, locals := 63 } s m args below meth c H locs 0 0 Q (F0 m 0 ls []) := by
  have hx := hC.1
  have hb := hC.2.1
  unfold fn_X9_leave at hf
  refine lv_aload_n hx hb dX9_leave_0 rfl (lv_at hl 0 rfl) ?_
  refine g_get hC hw fkX9_12 0 rfl rfl dX9_leave_1 ?_
  refine g_get hC hw fkX9_81 1 rfl rfl dX9_leave_4 ?_
  refine lv_iload_n hx hb dX9_leave_7 rfl (lv_at hl 1 rfl) ?_
  obtain ⟨r1, hq2, hf⟩ := b1_s hf
  refine h_cVi hC hw mvX9_95 (cn_X0_has l G A_t_now_crowd A_t_now_crowd_at A_t_now_crowd_home A_t_now_crowd_light A_t_now_crowd_carries A_t_now_crowd_bearer c_t_now_crowd_there c_t_now_crowd_foggy x1 r1 hq2) [2] rfl (by decide) 2 rfl rfl rfl hl.1 rfl (Nat.le_of_ble_eq_true rfl) ⟨Nat.le_of_ble_eq_true rfl, Nat.le_of_ble_eq_true rfl⟩ ⟨Nat.le_refl _, Nat.le_refl _⟩ dX9_leave_8 (fun H locs hw => ?_)
  refine lv_if_ne (tgt := 16) hx hb dX9_leave_11 (by decide) (fun hc => ?_) (fun hc => ?_)
  · replace hf := it_f hc hf
    refine lv_aload_n hx hb dX9_leave_16 rfl (lv_at hl 0 rfl) ?_
    refine g_get hC hw fkX9_12 0 rfl rfl dX9_leave_17 ?_
    refine g_get hC hw fkX9_81 1 rfl rfl dX9_leave_20 ?_
    refine lv_iload_n hx hb dX9_leave_23 rfl (lv_at hl 1 rfl) ?_
    obtain ⟨w3, w4, w5, hq6, hf⟩ := b3_s hf
    refine g_cVv hC hw mvX9_98 (cn_X0_remove l G A_t_now_crowd A_t_now_crowd_at A_t_now_crowd_home A_t_now_crowd_light A_t_now_crowd_carries A_t_now_crowd_bearer c_t_now_crowd_there c_t_now_crowd_foggy c_t_now_crowd_carries c_t_now_crowd_bearer x1 w3 w4 w5 hq6) [2, 3, 4] rfl (by decide) rfl 2 rfl rfl rfl hl.1 rfl (Nat.le_of_ble_eq_true rfl) ⟨Nat.le_of_ble_eq_true rfl, Nat.le_of_ble_eq_true rfl⟩ ⟨Nat.le_refl _, Nat.le_refl _⟩ dX9_leave_24 (fun H locs hw => ?_)
    have hw : wd_ G A s.heap (wl_X9_leave G A_t A_t_now A_t_images A_t_pad A_t_evening A_t_ways A_t_tour A_t_odds A_t_now_marsh A_t_now_crowd A_t_now_sights A_t_now_crowd_at A_t_now_crowd_home A_t_now_crowd_light A_t_now_crowd_carries A_t_now_crowd_bearer c_t_measured w3 c_t_now_crowd_foggy w4 w5) H locs := hw
    refine lv_aload_n hx hb dX9_leave_27 rfl (lv_at hl 0 rfl) ?_
    refine g_get hC hw fkX9_12 0 rfl rfl dX9_leave_28 ?_
    refine g_get hC hw fkX9_81 1 rfl rfl dX9_leave_31 ?_
    obtain ⟨r7, hq8, hf⟩ := b1_s hf
    refine h_cVi hC hw mvX9_91 (cn_X0_size l G A_t_now_crowd A_t_now_crowd_at A_t_now_crowd_home A_t_now_crowd_light A_t_now_crowd_carries A_t_now_crowd_bearer w3 c_t_now_crowd_foggy r7 hq8) [2] rfl (by decide) 2 rfl rfl rfl hl.1 rfl (Nat.le_of_ble_eq_true rfl) ⟨Nat.le_of_ble_eq_true rfl, Nat.le_of_ble_eq_true rfl⟩ ⟨Nat.le_refl _, Nat.le_refl _⟩ dX9_leave_34 (fun H locs hw => ?_)
    obtain ⟨h1_, h2_, h3_, h4_⟩ := t4_ hf
    subst h1_
    subst h2_
    subst h3_
    subst h4_
    exact hret _ _ _ _ dX9_leave_37 hw
  · replace hf := it_t hc hf
    refine lv_iconst (v := (-1)) hx hb dX9_leave_14 (by decide) ?_
    obtain ⟨h1_, h2_, h3_, h4_⟩ := t4_ hf
    subst h1_
    subst h2_
    subst h3_
    subst h4_
    exact hret _ _ _ _ dX9_leave_15 hw
set_option maxHeartbeats 4000000 in
set_option maxRecDepth 100000 in
theorem cn_X9_leave (l : Launch) (G : gw_) (A_t : Nat) (A_t_now : Nat) (A_t_images : Nat) (A_t_pad : Nat) (A_t_evening : Nat) (A_t_ways : Nat) (A_t_tour : Nat) (A_t_odds : Nat) (A_t_now_marsh : Nat) (A_t_now_crowd : Nat) (A_t_now_sights : Nat) (A_t_now_crowd_at : Nat) (A_t_now_crowd_home : Nat) (A_t_now_crowd_light : Nat) (A_t_now_crowd_carries : Nat) (A_t_now_crowd_bearer : Nat) (c_t_measured : Int32) (c_t_now_crowd_there : Int32) (c_t_now_crowd_foggy : Int32) (c_t_now_crowd_carries : Nat → Int32) (c_t_now_crowd_bearer : Nat → Int32) (x1 : Int32) (r : Int32) (z_t_now_crowd_there : Int32) (z_t_now_crowd_carries : Nat → Int32) (z_t_now_crowd_bearer : Nat → Int32) (hf : fn_X9_leave c_t_now_crowd_there c_t_now_crowd_carries c_t_now_crowd_bearer x1 = some (r, z_t_now_crowd_there, z_t_now_crowd_carries, z_t_now_crowd_bearer)) : ci_ l G yX9_leave cX9_leave 2 (some .int) 3 63 (wl_X9_leave G A_t A_t_now A_t_images A_t_pad A_t_evening A_t_ways A_t_tour A_t_odds A_t_now_marsh A_t_now_crowd A_t_now_sights A_t_now_crowd_at A_t_now_crowd_home A_t_now_crowd_light A_t_now_crowd_carries A_t_now_crowd_bearer c_t_measured c_t_now_crowd_there c_t_now_crowd_foggy c_t_now_crowd_carries c_t_now_crowd_bearer) [.ref A_t, .int x1] r (wl_X9_leave G A_t A_t_now A_t_images A_t_pad A_t_evening A_t_ways A_t_tour A_t_odds A_t_now_marsh A_t_now_crowd A_t_now_sights A_t_now_crowd_at A_t_now_crowd_home A_t_now_crowd_light A_t_now_crowd_carries A_t_now_crowd_bearer c_t_measured z_t_now_crowd_there c_t_now_crowd_foggy z_t_now_crowd_carries z_t_now_crowd_bearer) := fun sz => met_intro (by decide) (Nat.le_of_ble_eq_true rfl) (fun p e s m args below meth c ls hsz hC hr hlk hnm hl hw => wn_X9_leave hC (fun pc H locs ls hd hw => g_iret hC hr hlk hw rfl rfl hd) hf hl hw)

theorem dX9_fog_0 : decode cX9_fog 0 = .ok (.aload_n 0, 1) := by decide +kernel
theorem dX9_fog_1 : decode cX9_fog 1 = .ok (.getfield 12, 3) := by decide +kernel
theorem dX9_fog_4 : decode cX9_fog 4 = .ok (.getfield 81, 3) := by decide +kernel
theorem dX9_fog_7 : decode cX9_fog 7 = .ok (.getfield 102, 3) := by decide +kernel
theorem dX9_fog_10 : decode cX9_fog 10 = .ok (.ifCond .eq 7, 3) := by decide +kernel
theorem dX9_fog_13 : decode cX9_fog 13 = .ok (.iconst 1, 1) := by decide +kernel
theorem dX9_fog_14 : decode cX9_fog 14 = .ok (.goto 4, 3) := by decide +kernel
theorem dX9_fog_17 : decode cX9_fog 17 = .ok (.iconst 0, 1) := by decide +kernel
theorem dX9_fog_18 : decode cX9_fog 18 = .ok (.istore_n 2, 1) := by decide +kernel
theorem dX9_fog_19 : decode cX9_fog 19 = .ok (.aload_n 0, 1) := by decide +kernel
theorem dX9_fog_20 : decode cX9_fog 20 = .ok (.getfield 12, 3) := by decide +kernel
theorem dX9_fog_23 : decode cX9_fog 23 = .ok (.getfield 81, 3) := by decide +kernel
theorem dX9_fog_26 : decode cX9_fog 26 = .ok (.iload_n 1, 1) := by decide +kernel
theorem dX9_fog_27 : decode cX9_fog 27 = .ok (.putfield 102, 3) := by decide +kernel
theorem dX9_fog_30 : decode cX9_fog 30 = .ok (.aload_n 0, 1) := by decide +kernel
theorem dX9_fog_31 : decode cX9_fog 31 = .ok (.iconst 0, 1) := by decide +kernel
theorem dX9_fog_32 : decode cX9_fog 32 = .ok (.putfield 55, 3) := by decide +kernel
theorem dX9_fog_35 : decode cX9_fog 35 = .ok (.iload_n 2, 1) := by decide +kernel
theorem dX9_fog_36 : decode cX9_fog 36 = .ok (.ireturn, 1) := by decide +kernel
abbrev wl_X9_fog (G : gw_) (A_t : Nat) (A_t_now : Nat) (A_t_images : Nat) (A_t_pad : Nat) (A_t_evening : Nat) (A_t_ways : Nat) (A_t_tour : Nat) (A_t_odds : Nat) (A_t_now_marsh : Nat) (A_t_now_crowd : Nat) (A_t_now_sights : Nat) (A_t_now_crowd_at : Nat) (A_t_now_crowd_home : Nat) (A_t_now_crowd_light : Nat) (A_t_now_crowd_carries : Nat) (A_t_now_crowd_bearer : Nat) (c_t_measured : Int32) (c_t_now_crowd_there : Int32) (c_t_now_crowd_foggy : Int32) : va_W := [ob_ A_t 9 [.ref A_t_now, .ref A_t_images, .ref A_t_pad, .ref A_t_evening, .ref A_t_ways, .ref A_t_tour, .ref A_t_odds, .int c_t_measured], ob_ A_t_now 5 [.ref A_t_now_marsh, .ref A_t_now_crowd, .ref A_t_now_sights], ob_ A_t_now_crowd 0 [.int c_t_now_crowd_there, .int c_t_now_crowd_foggy, .ref A_t_now_crowd_at, .ref A_t_now_crowd_home, .ref A_t_now_crowd_light, .ref A_t_now_crowd_carries, .ref A_t_now_crowd_bearer]]
def fn_X9_fog_j18 (x1 : Int32) (s0 : Int32)  : Option (Int32 × Int32 × Int32) :=
  bz_ x1 <|
  some (s0, 0, x1)
def fn_X9_fog (c_t_measured : Int32) (c_t_now_crowd_foggy : Int32) (x1 : Int32) : Option (Int32 × Int32 × Int32) :=
  if c_t_now_crowd_foggy = 0 then
    fn_X9_fog_j18 x1 0
  else
    fn_X9_fog_j18 x1 1
set_option maxHeartbeats 4000000 in
set_option maxRecDepth 100000 in
theorem wn_X9_fog_j18 {p : Program} {l : Launch} {e : Env} {s : State} {m : MethodId} {args : Array Value} {below : List Frame} {meth : Method} {c : Code} {G : gw_} {A : Nat → Prop} {Q : State → Prop} {A_t : Nat} {A_t_now : Nat} {A_t_images : Nat} {A_t_pad : Nat} {A_t_evening : Nat} {A_t_ways : Nat} {A_t_tour : Nat} {A_t_odds : Nat} {A_t_now_marsh : Nat} {A_t_now_crowd : Nat} {A_t_now_sights : Nat} {A_t_now_crowd_at : Nat} {A_t_now_crowd_home : Nat} {A_t_now_crowd_light : Nat} {A_t_now_crowd_carries : Nat} {A_t_now_crowd_bearer : Nat} {c_t_measured : Int32} {z_t_measured : Int32} {c_t_now_crowd_there : Int32} {c_t_now_crowd_foggy : Int32} {z_t_now_crowd_foggy : Int32} {r : Int32} {x1 : Int32} {s0 : Int32} (hC : cx_ p s m c G cX9_fog 3 RX9) (hret : ∀ (pc : Nat) (H : Heap) (locs : List Loc) (ls : Array Slot), decode cX9_fog pc = .ok (.ireturn, 1) → wd_ G A s.heap (wl_X9_fog G A_t A_t_now A_t_images A_t_pad A_t_evening A_t_ways A_t_tour A_t_odds A_t_now_marsh A_t_now_crowd A_t_now_sights A_t_now_crowd_at A_t_now_crowd_home A_t_now_crowd_light A_t_now_crowd_carries A_t_now_crowd_bearer z_t_measured c_t_now_crowd_there z_t_now_crowd_foggy) H locs → W p l e { frames := 0, cells := 0, slots := 0, locals := 0 } s m args below meth c H locs 0 0 Q (F0 m pc ls [.int r]))  (hf : fn_X9_fog_j18 x1 s0 = some (r, z_t_measured, z_t_now_crowd_foggy)) {H : Heap} {locs : List Loc} {ls : Array Slot} (hl : lv_has ls 3 [(0, .ref A_t), (1, .int x1)]) (hw : wd_ G A s.heap (wl_X9_fog G A_t A_t_now A_t_images A_t_pad A_t_evening A_t_ways A_t_tour A_t_odds A_t_now_marsh A_t_now_crowd A_t_now_sights A_t_now_crowd_at A_t_now_crowd_home A_t_now_crowd_light A_t_now_crowd_carries A_t_now_crowd_bearer c_t_measured c_t_now_crowd_there c_t_now_crowd_foggy) H locs) : W p l e { frames := 0, cells := 0, slots := 0, locals := 0 } s m args below meth c H locs 0 0 Q (F0 m 18 ls [.int s0]) := by
  have hx := hC.1
  have hb := hC.2.1
  unfold fn_X9_fog_j18 at hf
  refine lv_istore_n (lv' := [(2, .int s0), (0, .ref A_t), (1, .int x1)]) hx hb dX9_fog_18 rfl hl (by decide) rfl (fun ls hl => ?_)
  refine lv_aload_n hx hb dX9_fog_19 rfl (lv_at hl 1 rfl) ?_
  refine g_get hC hw fkX9_12 0 rfl rfl dX9_fog_20 ?_
  refine g_get hC hw fkX9_81 1 rfl rfl dX9_fog_23 ?_
  refine lv_iload_n hx hb dX9_fog_26 rfl (lv_at hl 2 rfl) ?_
  obtain ⟨hz0, hf⟩ := bz_s hf
  refine g_put hC hw fpX9_102 2 rfl hz0.1 hz0.2 (Nat.le_of_ble_eq_true rfl) dX9_fog_27 (fun H locs hw => ?_)
  have hw : wd_ G A s.heap (wl_X9_fog G A_t A_t_now A_t_images A_t_pad A_t_evening A_t_ways A_t_tour A_t_odds A_t_now_marsh A_t_now_crowd A_t_now_sights A_t_now_crowd_at A_t_now_crowd_home A_t_now_crowd_light A_t_now_crowd_carries A_t_now_crowd_bearer c_t_measured c_t_now_crowd_there x1) H locs := hw
  refine lv_aload_n hx hb dX9_fog_30 rfl (lv_at hl 1 rfl) ?_
  refine lv_iconst (v := 0) hx hb dX9_fog_31 (by decide) ?_
  refine g_put hC hw fpX9_55 0 rfl rfl rfl (Nat.le_of_ble_eq_true rfl) dX9_fog_32 (fun H locs hw => ?_)
  have hw : wd_ G A s.heap (wl_X9_fog G A_t A_t_now A_t_images A_t_pad A_t_evening A_t_ways A_t_tour A_t_odds A_t_now_marsh A_t_now_crowd A_t_now_sights A_t_now_crowd_at A_t_now_crowd_home A_t_now_crowd_light A_t_now_crowd_carries A_t_now_crowd_bearer 0 c_t_now_crowd_there x1) H locs := hw
  refine lv_iload_n hx hb dX9_fog_35 rfl (lv_at hl 0 rfl) ?_
  obtain ⟨h1_, h2_, h3_⟩ := t3_ hf
  subst h1_
  subst h2_
  subst h3_
  exact hret _ _ _ _ dX9_fog_36 hw
set_option maxHeartbeats 4000000 in
set_option maxRecDepth 100000 in
theorem wn_X9_fog {p : Program} {l : Launch} {e : Env} {s : State} {m : MethodId} {args : Array Value} {below : List Frame} {meth : Method} {c : Code} {G : gw_} {A : Nat → Prop} {Q : State → Prop} {A_t : Nat} {A_t_now : Nat} {A_t_images : Nat} {A_t_pad : Nat} {A_t_evening : Nat} {A_t_ways : Nat} {A_t_tour : Nat} {A_t_odds : Nat} {A_t_now_marsh : Nat} {A_t_now_crowd : Nat} {A_t_now_sights : Nat} {A_t_now_crowd_at : Nat} {A_t_now_crowd_home : Nat} {A_t_now_crowd_light : Nat} {A_t_now_crowd_carries : Nat} {A_t_now_crowd_bearer : Nat} {c_t_measured : Int32} {z_t_measured : Int32} {c_t_now_crowd_there : Int32} {c_t_now_crowd_foggy : Int32} {z_t_now_crowd_foggy : Int32} {r : Int32} {x1 : Int32} (hC : cx_ p s m c G cX9_fog 3 RX9) (hret : ∀ (pc : Nat) (H : Heap) (locs : List Loc) (ls : Array Slot), decode cX9_fog pc = .ok (.ireturn, 1) → wd_ G A s.heap (wl_X9_fog G A_t A_t_now A_t_images A_t_pad A_t_evening A_t_ways A_t_tour A_t_odds A_t_now_marsh A_t_now_crowd A_t_now_sights A_t_now_crowd_at A_t_now_crowd_home A_t_now_crowd_light A_t_now_crowd_carries A_t_now_crowd_bearer z_t_measured c_t_now_crowd_there z_t_now_crowd_foggy) H locs → W p l e { frames := 0, cells := 0, slots := 0, locals := 0 } s m args below meth c H locs 0 0 Q (F0 m pc ls [.int r])) (hf : fn_X9_fog c_t_measured c_t_now_crowd_foggy x1 = some (r, z_t_measured, z_t_now_crowd_foggy)) {H : Heap} {locs : List Loc} {ls : Array Slot} (hl : lv_has ls 3 [(0, .ref A_t), (1, .int x1)]) (hw : wd_ G A s.heap (wl_X9_fog G A_t A_t_now A_t_images A_t_pad A_t_evening A_t_ways A_t_tour A_t_odds A_t_now_marsh A_t_now_crowd A_t_now_sights A_t_now_crowd_at A_t_now_crowd_home A_t_now_crowd_light A_t_now_crowd_carries A_t_now_crowd_bearer c_t_measured c_t_now_crowd_there c_t_now_crowd_foggy) H locs) : W p l e { frames := 0, cells := 0, slots := 0, locals := 0 } s m args below meth c H locs 0 0 Q (F0 m 0 ls []) := by
  have hx := hC.1
  have hb := hC.2.1
  unfold fn_X9_fog at hf
  refine lv_aload_n hx hb dX9_fog_0 rfl (lv_at hl 0 rfl) ?_
  refine g_get hC hw fkX9_12 0 rfl rfl dX9_fog_1 ?_
  refine g_get hC hw fkX9_81 1 rfl rfl dX9_fog_4 ?_
  refine g_get hC hw fkX9_102 2 rfl rfl dX9_fog_7 ?_
  refine lv_if_eq (tgt := 17) hx hb dX9_fog_10 (by decide) (fun hc => ?_) (fun hc => ?_)
  · replace hf := it_t hc hf
    refine lv_iconst (v := 0) hx hb dX9_fog_17 (by decide) ?_
    exact wn_X9_fog_j18 hC hret hf (lv_sub hl [0, 1] rfl) hw
  · replace hf := it_f hc hf
    refine lv_iconst (v := 1) hx hb dX9_fog_13 (by decide) ?_
    refine lv_goto (tgt := 18) hx hb dX9_fog_14 (by decide) ?_
    exact wn_X9_fog_j18 hC hret hf (lv_sub hl [0, 1] rfl) hw
set_option maxHeartbeats 4000000 in
set_option maxRecDepth 100000 in
theorem cn_X9_fog (l : Launch) (G : gw_) (A_t : Nat) (A_t_now : Nat) (A_t_images : Nat) (A_t_pad : Nat) (A_t_evening : Nat) (A_t_ways : Nat) (A_t_tour : Nat) (A_t_odds : Nat) (A_t_now_marsh : Nat) (A_t_now_crowd : Nat) (A_t_now_sights : Nat) (A_t_now_crowd_at : Nat) (A_t_now_crowd_home : Nat) (A_t_now_crowd_light : Nat) (A_t_now_crowd_carries : Nat) (A_t_now_crowd_bearer : Nat) (c_t_measured : Int32) (c_t_now_crowd_there : Int32) (c_t_now_crowd_foggy : Int32) (x1 : Int32) (r : Int32) (z_t_measured : Int32) (z_t_now_crowd_foggy : Int32) (hf : fn_X9_fog c_t_measured c_t_now_crowd_foggy x1 = some (r, z_t_measured, z_t_now_crowd_foggy)) : ci_ l G yX9_fog cX9_fog 3 (some .int) 0 0 (wl_X9_fog G A_t A_t_now A_t_images A_t_pad A_t_evening A_t_ways A_t_tour A_t_odds A_t_now_marsh A_t_now_crowd A_t_now_sights A_t_now_crowd_at A_t_now_crowd_home A_t_now_crowd_light A_t_now_crowd_carries A_t_now_crowd_bearer c_t_measured c_t_now_crowd_there c_t_now_crowd_foggy) [.ref A_t, .int x1] r (wl_X9_fog G A_t A_t_now A_t_images A_t_pad A_t_evening A_t_ways A_t_tour A_t_odds A_t_now_marsh A_t_now_crowd A_t_now_sights A_t_now_crowd_at A_t_now_crowd_home A_t_now_crowd_light A_t_now_crowd_carries A_t_now_crowd_bearer z_t_measured c_t_now_crowd_there z_t_now_crowd_foggy) := fun sz => met_intro (by decide) (Nat.le_of_ble_eq_true rfl) (fun p e s m args below meth c ls hsz hC hr hlk hnm hl hw => wn_X9_fog hC (fun pc H locs ls hd hw => g_iret hC hr hlk hw rfl rfl hd) hf hl hw)

theorem dX9_say_0 : decode cX9_say 0 = .ok (.iload_n 1, 1) := by decide +kernel
theorem dX9_say_1 : decode cX9_say 1 = .ok (.bipush 33, 2) := by decide +kernel
theorem dX9_say_3 : decode cX9_say 3 = .ok (.bipush 126, 2) := by decide +kernel
theorem dX9_say_5 : decode cX9_say 5 = .ok (.invokestatic 63, 3) := by decide +kernel
theorem dX9_say_8 : decode cX9_say 8 = .ok (.ifCond .ne 6, 3) := by decide +kernel
theorem dX9_say_11 : decode cX9_say 11 = .ok (.bipush (-2), 2) := by decide +kernel
theorem dX9_say_13 : decode cX9_say 13 = .ok (.ireturn, 1) := by decide +kernel
theorem dX9_say_14 : decode cX9_say 14 = .ok (.aload_n 0, 1) := by decide +kernel
theorem dX9_say_15 : decode cX9_say 15 = .ok (.getfield 23, 3) := by decide +kernel
theorem dX9_say_18 : decode cX9_say 18 = .ok (.getfield 105, 3) := by decide +kernel
theorem dX9_say_21 : decode cX9_say 21 = .ok (.bipush 60, 2) := by decide +kernel
theorem dX9_say_23 : decode cX9_say 23 = .ok (.if_icmp .lt 6, 3) := by decide +kernel
theorem dX9_say_26 : decode cX9_say 26 = .ok (.bipush (-4), 2) := by decide +kernel
theorem dX9_say_28 : decode cX9_say 28 = .ok (.ireturn, 1) := by decide +kernel
theorem dX9_say_29 : decode cX9_say 29 = .ok (.aload_n 0, 1) := by decide +kernel
theorem dX9_say_30 : decode cX9_say 30 = .ok (.getfield 23, 3) := by decide +kernel
theorem dX9_say_33 : decode cX9_say 33 = .ok (.iload_n 1, 1) := by decide +kernel
theorem dX9_say_34 : decode cX9_say 34 = .ok (.invokevirtual 109, 3) := by decide +kernel
theorem dX9_say_37 : decode cX9_say 37 = .ok (.aload_n 0, 1) := by decide +kernel
theorem dX9_say_38 : decode cX9_say 38 = .ok (.getfield 23, 3) := by decide +kernel
theorem dX9_say_41 : decode cX9_say 41 = .ok (.getfield 105, 3) := by decide +kernel
theorem dX9_say_44 : decode cX9_say 44 = .ok (.ireturn, 1) := by decide +kernel
abbrev wl_X9_say (G : gw_) (A_t : Nat) (A_t_now : Nat) (A_t_images : Nat) (A_t_pad : Nat) (A_t_evening : Nat) (A_t_ways : Nat) (A_t_tour : Nat) (A_t_odds : Nat) (A_t_pad_signs : Nat) (c_t_measured : Int32) (c_t_pad_count : Int32) (c_t_pad_signs : Nat → Int32) : va_W := [ob_ A_t 9 [.ref A_t_now, .ref A_t_images, .ref A_t_pad, .ref A_t_evening, .ref A_t_ways, .ref A_t_tour, .ref A_t_odds, .int c_t_measured], ob_ A_t_pad 4 [.int c_t_pad_count, .ref A_t_pad_signs], ia_ G A_t_pad_signs 60 c_t_pad_signs]
def fn_X9_say (c_t_pad_count : Int32) (c_t_pad_signs : Nat → Int32) (x1 : Int32) : Option (Int32 × Int32 × (Nat → Int32)) :=
  b1_ (fn_X9_isWithin x1 33 126) fun r1 =>
  if r1 = 0 then
    some ((-2), c_t_pad_count, c_t_pad_signs)
  else
    if c_t_pad_count < 60 then
      b2_ (fn_X4_add c_t_pad_count c_t_pad_signs x1) fun w3 w4 =>
      some (w3, w3, w4)
    else
      some ((-4), c_t_pad_count, c_t_pad_signs)
set_option maxHeartbeats 4000000 in
set_option maxRecDepth 100000 in
theorem wn_X9_say {p : Program} {l : Launch} {e : Env} {s : State} {m : MethodId} {args : Array Value} {below : List Frame} {meth : Method} {c : Code} {G : gw_} {A : Nat → Prop} {Q : State → Prop} {A_t : Nat} {A_t_now : Nat} {A_t_images : Nat} {A_t_pad : Nat} {A_t_evening : Nat} {A_t_ways : Nat} {A_t_tour : Nat} {A_t_odds : Nat} {A_t_pad_signs : Nat} {c_t_measured : Int32} {c_t_pad_count : Int32} {z_t_pad_count : Int32} {c_t_pad_signs : Nat → Int32} {z_t_pad_signs : Nat → Int32} {r : Int32} {x1 : Int32} (hC : cx_ p s m c G cX9_say 2 RX9) (hret : ∀ (pc : Nat) (H : Heap) (locs : List Loc) (ls : Array Slot), decode cX9_say pc = .ok (.ireturn, 1) → wd_ G A s.heap (wl_X9_say G A_t A_t_now A_t_images A_t_pad A_t_evening A_t_ways A_t_tour A_t_odds A_t_pad_signs c_t_measured z_t_pad_count z_t_pad_signs) H locs → W p l e { frames := 1, cells := 0, slots := 0, locals := 22 } s m args below meth c H locs 0 0 Q (F0 m pc ls [.int r])) (hf : fn_X9_say c_t_pad_count c_t_pad_signs x1 = some (r, z_t_pad_count, z_t_pad_signs)) {H : Heap} {locs : List Loc} {ls : Array Slot} (hl : lv_has ls 2 [(0, .ref A_t), (1, .int x1)]) (hw : wd_ G A s.heap (wl_X9_say G A_t A_t_now A_t_images A_t_pad A_t_evening A_t_ways A_t_tour A_t_odds A_t_pad_signs c_t_measured c_t_pad_count c_t_pad_signs) H locs) : W p l e { frames := 1, cells := 0, slots := 0, locals := 22 } s m args below meth c H locs 0 0 Q (F0 m 0 ls []) := by
  have hx := hC.1
  have hb := hC.2.1
  unfold fn_X9_say at hf
  refine lv_iload_n hx hb dX9_say_0 rfl (lv_at hl 1 rfl) ?_
  refine lv_bipush (v := 33) hx hb dX9_say_1 (by decide) ?_
  refine lv_bipush (v := 126) hx hb dX9_say_3 (by decide) ?_
  obtain ⟨r1, hq2, hf⟩ := b1_s hf
  refine h_cSi hC hw msX9_63 (cn_X9_isWithin l G x1 33 126 r1 hq2) [] rfl (by decide) rfl hl.1 rfl (Nat.le_of_ble_eq_true rfl) ⟨Nat.le_of_ble_eq_true rfl, Nat.le_of_ble_eq_true rfl⟩ ⟨Nat.le_refl _, Nat.le_refl _⟩ dX9_say_5 (fun H locs hw => ?_)
  refine lv_if_ne (tgt := 14) hx hb dX9_say_8 (by decide) (fun hc => ?_) (fun hc => ?_)
  · replace hf := it_f hc hf
    refine lv_aload_n hx hb dX9_say_14 rfl (lv_at hl 0 rfl) ?_
    refine g_get hC hw fkX9_23 0 rfl rfl dX9_say_15 ?_
    refine g_get hC hw fkX9_105 1 rfl rfl dX9_say_18 ?_
    refine lv_bipush (v := 60) hx hb dX9_say_21 (by decide) ?_
    refine lv_icmp_lt (tgt := 29) hx hb dX9_say_23 (by decide) (fun hc => ?_) (fun hc => ?_)
    · replace hf := it_t hc hf
      refine lv_aload_n hx hb dX9_say_29 rfl (lv_at hl 0 rfl) ?_
      refine g_get hC hw fkX9_23 0 rfl rfl dX9_say_30 ?_
      refine lv_iload_n hx hb dX9_say_33 rfl (lv_at hl 1 rfl) ?_
      obtain ⟨w3, w4, hq5, hf⟩ := b2_s hf
      refine g_cVv hC hw mvX9_109 (cn_X4_add l G A_t_pad A_t_pad_signs c_t_pad_count c_t_pad_signs x1 w3 w4 hq5) [1, 2] rfl (by decide) rfl 1 rfl rfl rfl hl.1 rfl (Nat.le_of_ble_eq_true rfl) ⟨Nat.le_of_ble_eq_true rfl, Nat.le_of_ble_eq_true rfl⟩ ⟨Nat.le_refl _, Nat.le_refl _⟩ dX9_say_34 (fun H locs hw => ?_)
      have hw : wd_ G A s.heap (wl_X9_say G A_t A_t_now A_t_images A_t_pad A_t_evening A_t_ways A_t_tour A_t_odds A_t_pad_signs c_t_measured w3 w4) H locs := hw
      refine lv_aload_n hx hb dX9_say_37 rfl (lv_at hl 0 rfl) ?_
      refine g_get hC hw fkX9_23 0 rfl rfl dX9_say_38 ?_
      refine g_get hC hw fkX9_105 1 rfl rfl dX9_say_41 ?_
      obtain ⟨h1_, h2_, h3_⟩ := t3_ hf
      subst h1_
      subst h2_
      subst h3_
      exact hret _ _ _ _ dX9_say_44 hw
    · replace hf := it_f hc hf
      refine lv_bipush (v := (-4)) hx hb dX9_say_26 (by decide) ?_
      obtain ⟨h1_, h2_, h3_⟩ := t3_ hf
      subst h1_
      subst h2_
      subst h3_
      exact hret _ _ _ _ dX9_say_28 hw
  · replace hf := it_t hc hf
    refine lv_bipush (v := (-2)) hx hb dX9_say_11 (by decide) ?_
    obtain ⟨h1_, h2_, h3_⟩ := t3_ hf
    subst h1_
    subst h2_
    subst h3_
    exact hret _ _ _ _ dX9_say_13 hw
set_option maxHeartbeats 4000000 in
set_option maxRecDepth 100000 in
theorem cn_X9_say (l : Launch) (G : gw_) (A_t : Nat) (A_t_now : Nat) (A_t_images : Nat) (A_t_pad : Nat) (A_t_evening : Nat) (A_t_ways : Nat) (A_t_tour : Nat) (A_t_odds : Nat) (A_t_pad_signs : Nat) (c_t_measured : Int32) (c_t_pad_count : Int32) (c_t_pad_signs : Nat → Int32) (x1 : Int32) (r : Int32) (z_t_pad_count : Int32) (z_t_pad_signs : Nat → Int32) (hf : fn_X9_say c_t_pad_count c_t_pad_signs x1 = some (r, z_t_pad_count, z_t_pad_signs)) : ci_ l G yX9_say cX9_say 2 (some .int) 1 22 (wl_X9_say G A_t A_t_now A_t_images A_t_pad A_t_evening A_t_ways A_t_tour A_t_odds A_t_pad_signs c_t_measured c_t_pad_count c_t_pad_signs) [.ref A_t, .int x1] r (wl_X9_say G A_t A_t_now A_t_images A_t_pad A_t_evening A_t_ways A_t_tour A_t_odds A_t_pad_signs c_t_measured z_t_pad_count z_t_pad_signs) := fun sz => met_intro (by decide) (Nat.le_of_ble_eq_true rfl) (fun p e s m args below meth c ls hsz hC hr hlk hnm hl hw => wn_X9_say hC (fun pc H locs ls hd hw => g_iret hC hr hlk hw rfl rfl hd) hf hl hw)

theorem dX9_wipe_0 : decode cX9_wipe 0 = .ok (.aload_n 0, 1) := by decide +kernel
theorem dX9_wipe_1 : decode cX9_wipe 1 = .ok (.getfield 23, 3) := by decide +kernel
theorem dX9_wipe_4 : decode cX9_wipe 4 = .ok (.getfield 105, 3) := by decide +kernel
theorem dX9_wipe_7 : decode cX9_wipe 7 = .ok (.istore_n 1, 1) := by decide +kernel
theorem dX9_wipe_8 : decode cX9_wipe 8 = .ok (.aload_n 0, 1) := by decide +kernel
theorem dX9_wipe_9 : decode cX9_wipe 9 = .ok (.getfield 23, 3) := by decide +kernel
theorem dX9_wipe_12 : decode cX9_wipe 12 = .ok (.invokevirtual 112, 3) := by decide +kernel
theorem dX9_wipe_15 : decode cX9_wipe 15 = .ok (.iload_n 1, 1) := by decide +kernel
theorem dX9_wipe_16 : decode cX9_wipe 16 = .ok (.ireturn, 1) := by decide +kernel
abbrev wl_X9_wipe (G : gw_) (A_t : Nat) (A_t_now : Nat) (A_t_images : Nat) (A_t_pad : Nat) (A_t_evening : Nat) (A_t_ways : Nat) (A_t_tour : Nat) (A_t_odds : Nat) (A_t_pad_signs : Nat) (c_t_measured : Int32) (c_t_pad_count : Int32) : va_W := [ob_ A_t 9 [.ref A_t_now, .ref A_t_images, .ref A_t_pad, .ref A_t_evening, .ref A_t_ways, .ref A_t_tour, .ref A_t_odds, .int c_t_measured], ob_ A_t_pad 4 [.int c_t_pad_count, .ref A_t_pad_signs]]
def fn_X9_wipe (c_t_pad_count : Int32) : Option (Int32 × Int32) :=
  b1_ (fn_X4_clear c_t_pad_count) fun w1 =>
  some (c_t_pad_count, w1)
set_option maxHeartbeats 4000000 in
set_option maxRecDepth 100000 in
theorem wn_X9_wipe {p : Program} {l : Launch} {e : Env} {s : State} {m : MethodId} {args : Array Value} {below : List Frame} {meth : Method} {c : Code} {G : gw_} {A : Nat → Prop} {Q : State → Prop} {A_t : Nat} {A_t_now : Nat} {A_t_images : Nat} {A_t_pad : Nat} {A_t_evening : Nat} {A_t_ways : Nat} {A_t_tour : Nat} {A_t_odds : Nat} {A_t_pad_signs : Nat} {c_t_measured : Int32} {c_t_pad_count : Int32} {z_t_pad_count : Int32} {r : Int32} (hC : cx_ p s m c G cX9_wipe 2 RX9) (hret : ∀ (pc : Nat) (H : Heap) (locs : List Loc) (ls : Array Slot), decode cX9_wipe pc = .ok (.ireturn, 1) → wd_ G A s.heap (wl_X9_wipe G A_t A_t_now A_t_images A_t_pad A_t_evening A_t_ways A_t_tour A_t_odds A_t_pad_signs c_t_measured z_t_pad_count) H locs → W p l e { frames := 1, cells := 0, slots := 0, locals := 20 } s m args below meth c H locs 0 0 Q (F0 m pc ls [.int r])) (hf : fn_X9_wipe c_t_pad_count = some (r, z_t_pad_count)) {H : Heap} {locs : List Loc} {ls : Array Slot} (hl : lv_has ls 2 [(0, .ref A_t)]) (hw : wd_ G A s.heap (wl_X9_wipe G A_t A_t_now A_t_images A_t_pad A_t_evening A_t_ways A_t_tour A_t_odds A_t_pad_signs c_t_measured c_t_pad_count) H locs) : W p l e { frames := 1, cells := 0, slots := 0, locals := 20 } s m args below meth c H locs 0 0 Q (F0 m 0 ls []) := by
  have hx := hC.1
  have hb := hC.2.1
  unfold fn_X9_wipe at hf
  refine lv_aload_n hx hb dX9_wipe_0 rfl (lv_at hl 0 rfl) ?_
  refine g_get hC hw fkX9_23 0 rfl rfl dX9_wipe_1 ?_
  refine g_get hC hw fkX9_105 1 rfl rfl dX9_wipe_4 ?_
  refine lv_istore_n (lv' := [(1, .int c_t_pad_count), (0, .ref A_t)]) hx hb dX9_wipe_7 rfl hl (by decide) rfl (fun ls hl => ?_)
  refine lv_aload_n hx hb dX9_wipe_8 rfl (lv_at hl 1 rfl) ?_
  refine g_get hC hw fkX9_23 0 rfl rfl dX9_wipe_9 ?_
  obtain ⟨w1, hq2, hf⟩ := b1_s hf
  refine g_cVv hC hw mvX9_112 (cn_X4_clear l G A_t_pad A_t_pad_signs c_t_pad_count w1 hq2) [1] rfl (by decide) rfl 1 rfl rfl rfl hl.1 rfl (Nat.le_of_ble_eq_true rfl) ⟨Nat.le_of_ble_eq_true rfl, Nat.le_of_ble_eq_true rfl⟩ ⟨Nat.le_refl _, Nat.le_refl _⟩ dX9_wipe_12 (fun H locs hw => ?_)
  have hw : wd_ G A s.heap (wl_X9_wipe G A_t A_t_now A_t_images A_t_pad A_t_evening A_t_ways A_t_tour A_t_odds A_t_pad_signs c_t_measured w1) H locs := hw
  refine lv_iload_n hx hb dX9_wipe_15 rfl (lv_at hl 0 rfl) ?_
  obtain ⟨h1_, h2_⟩ := t2_ hf
  subst h1_
  subst h2_
  exact hret _ _ _ _ dX9_wipe_16 hw
set_option maxHeartbeats 4000000 in
set_option maxRecDepth 100000 in
theorem cn_X9_wipe (l : Launch) (G : gw_) (A_t : Nat) (A_t_now : Nat) (A_t_images : Nat) (A_t_pad : Nat) (A_t_evening : Nat) (A_t_ways : Nat) (A_t_tour : Nat) (A_t_odds : Nat) (A_t_pad_signs : Nat) (c_t_measured : Int32) (c_t_pad_count : Int32) (r : Int32) (z_t_pad_count : Int32) (hf : fn_X9_wipe c_t_pad_count = some (r, z_t_pad_count)) : ci_ l G yX9_wipe cX9_wipe 2 (some .int) 1 20 (wl_X9_wipe G A_t A_t_now A_t_images A_t_pad A_t_evening A_t_ways A_t_tour A_t_odds A_t_pad_signs c_t_measured c_t_pad_count) [.ref A_t] r (wl_X9_wipe G A_t A_t_now A_t_images A_t_pad A_t_evening A_t_ways A_t_tour A_t_odds A_t_pad_signs c_t_measured z_t_pad_count) := fun sz => met_intro (by decide) (Nat.le_of_ble_eq_true rfl) (fun p e s m args below meth c ls hsz hC hr hlk hnm hl hw => wn_X9_wipe hC (fun pc H locs ls hd hw => g_iret hC hr hlk hw rfl rfl hd) hf hl hw)

theorem dX9_fault_0 : decode cX9_fault 0 = .ok (.aload_n 0, 1) := by decide +kernel
theorem dX9_fault_1 : decode cX9_fault 1 = .ok (.getfield 23, 3) := by decide +kernel
theorem dX9_fault_4 : decode cX9_fault 4 = .ok (.invokevirtual 115, 3) := by decide +kernel
theorem dX9_fault_7 : decode cX9_fault 7 = .ok (.ireturn, 1) := by decide +kernel
abbrev wl_X9_fault (G : gw_) (A_t : Nat) (A_t_now : Nat) (A_t_images : Nat) (A_t_pad : Nat) (A_t_evening : Nat) (A_t_ways : Nat) (A_t_tour : Nat) (A_t_odds : Nat) (A_t_pad_signs : Nat) (c_t_measured : Int32) (c_t_pad_count : Int32) (c_t_pad_signs : Nat → Int32) : va_W := [ob_ A_t 9 [.ref A_t_now, .ref A_t_images, .ref A_t_pad, .ref A_t_evening, .ref A_t_ways, .ref A_t_tour, .ref A_t_odds, .int c_t_measured], ob_ A_t_pad 4 [.int c_t_pad_count, .ref A_t_pad_signs], ia_ G A_t_pad_signs 60 c_t_pad_signs]
def fn_X9_fault (c_t_pad_count : Int32) (c_t_pad_signs : Nat → Int32) : Option (Int32) :=
  b1_ (fn_X4_firstFault c_t_pad_count c_t_pad_signs) fun r1 =>
  some r1
set_option maxHeartbeats 4000000 in
set_option maxRecDepth 100000 in
theorem wn_X9_fault {p : Program} {l : Launch} {e : Env} {s : State} {m : MethodId} {args : Array Value} {below : List Frame} {meth : Method} {c : Code} {G : gw_} {A : Nat → Prop} {Q : State → Prop} {A_t : Nat} {A_t_now : Nat} {A_t_images : Nat} {A_t_pad : Nat} {A_t_evening : Nat} {A_t_ways : Nat} {A_t_tour : Nat} {A_t_odds : Nat} {A_t_pad_signs : Nat} {c_t_measured : Int32} {c_t_pad_count : Int32} {c_t_pad_signs : Nat → Int32} {r : Int32} (hC : cx_ p s m c G cX9_fault 1 RX9) (hret : ∀ (pc : Nat) (H : Heap) (locs : List Loc) (ls : Array Slot), decode cX9_fault pc = .ok (.ireturn, 1) → wd_ G A s.heap (wl_X9_fault G A_t A_t_now A_t_images A_t_pad A_t_evening A_t_ways A_t_tour A_t_odds A_t_pad_signs c_t_measured c_t_pad_count c_t_pad_signs) H locs → W p l e { frames := 4, cells := 0, slots := 0, locals := 86 } s m args below meth c H locs 0 0 Q (F0 m pc ls [.int r])) (hf : fn_X9_fault c_t_pad_count c_t_pad_signs = some r) {H : Heap} {locs : List Loc} {ls : Array Slot} (hl : lv_has ls 1 [(0, .ref A_t)]) (hw : wd_ G A s.heap (wl_X9_fault G A_t A_t_now A_t_images A_t_pad A_t_evening A_t_ways A_t_tour A_t_odds A_t_pad_signs c_t_measured c_t_pad_count c_t_pad_signs) H locs) : W p l e { frames := 4, cells := 0, slots := 0, locals := 86 } s m args below meth c H locs 0 0 Q (F0 m 0 ls []) := by
  have hx := hC.1
  have hb := hC.2.1
  unfold fn_X9_fault at hf
  refine lv_aload_n hx hb dX9_fault_0 rfl (lv_at hl 0 rfl) ?_
  refine g_get hC hw fkX9_23 0 rfl rfl dX9_fault_1 ?_
  obtain ⟨r1, hq2, hf⟩ := b1_s hf
  refine h_cVi hC hw mvX9_115 (cn_X4_firstFault l G A_t_pad A_t_pad_signs c_t_pad_count c_t_pad_signs r1 hq2) [1, 2] rfl (by decide) 1 rfl rfl rfl hl.1 rfl (Nat.le_of_ble_eq_true rfl) ⟨Nat.le_of_ble_eq_true rfl, Nat.le_of_ble_eq_true rfl⟩ ⟨Nat.le_refl _, Nat.le_refl _⟩ dX9_fault_4 (fun H locs hw => ?_)
  have h1_ := t1_ hf
  subst h1_
  exact hret _ _ _ _ dX9_fault_7 hw
set_option maxHeartbeats 4000000 in
set_option maxRecDepth 100000 in
theorem cn_X9_fault (l : Launch) (G : gw_) (A_t : Nat) (A_t_now : Nat) (A_t_images : Nat) (A_t_pad : Nat) (A_t_evening : Nat) (A_t_ways : Nat) (A_t_tour : Nat) (A_t_odds : Nat) (A_t_pad_signs : Nat) (c_t_measured : Int32) (c_t_pad_count : Int32) (c_t_pad_signs : Nat → Int32) (r : Int32) (hf : fn_X9_fault c_t_pad_count c_t_pad_signs = some r) : ci_ l G yX9_fault cX9_fault 1 (some .int) 4 86 (wl_X9_fault G A_t A_t_now A_t_images A_t_pad A_t_evening A_t_ways A_t_tour A_t_odds A_t_pad_signs c_t_measured c_t_pad_count c_t_pad_signs) [.ref A_t] r (wl_X9_fault G A_t A_t_now A_t_images A_t_pad A_t_evening A_t_ways A_t_tour A_t_odds A_t_pad_signs c_t_measured c_t_pad_count c_t_pad_signs) := fun sz => met_intro (by decide) (Nat.le_of_ble_eq_true rfl) (fun p e s m args below meth c ls hsz hC hr hlk hnm hl hw => wn_X9_fault hC (fun pc H locs ls hd hw => g_iret hC hr hlk hw rfl rfl hd) hf hl hw)

theorem dX9_playEvening_0 : decode cX9_playEvening 0 = .ok (.aload_n 0, 1) := by decide +kernel
theorem dX9_playEvening_1 : decode cX9_playEvening 1 = .ok (.getfield 23, 3) := by decide +kernel
theorem dX9_playEvening_4 : decode cX9_playEvening 4 = .ok (.invokevirtual 115, 3) := by decide +kernel
theorem dX9_playEvening_7 : decode cX9_playEvening 7 = .ok (.bipush (-6), 2) := by decide +kernel
theorem dX9_playEvening_9 : decode cX9_playEvening 9 = .ok (.if_icmp .eq 6, 3) := by decide +kernel
theorem dX9_playEvening_12 : decode cX9_playEvening 12 = .ok (.bipush (-5), 2) := by decide +kernel
theorem dX9_playEvening_14 : decode cX9_playEvening 14 = .ok (.ireturn, 1) := by decide +kernel
theorem dX9_playEvening_15 : decode cX9_playEvening 15 = .ok (.aload_n 0, 1) := by decide +kernel
theorem dX9_playEvening_16 : decode cX9_playEvening 16 = .ok (.getfield 30, 3) := by decide +kernel
theorem dX9_playEvening_19 : decode cX9_playEvening 19 = .ok (.aload_n 0, 1) := by decide +kernel
theorem dX9_playEvening_20 : decode cX9_playEvening 20 = .ok (.getfield 12, 3) := by decide +kernel
theorem dX9_playEvening_23 : decode cX9_playEvening 23 = .ok (.aload_n 0, 1) := by decide +kernel
theorem dX9_playEvening_24 : decode cX9_playEvening 24 = .ok (.getfield 23, 3) := by decide +kernel
theorem dX9_playEvening_27 : decode cX9_playEvening 27 = .ok (.invokevirtual 282, 3) := by decide +kernel
theorem dX9_playEvening_30 : decode cX9_playEvening 30 = .ok (.aload_n 0, 1) := by decide +kernel
theorem dX9_playEvening_31 : decode cX9_playEvening 31 = .ok (.getfield 30, 3) := by decide +kernel
theorem dX9_playEvening_34 : decode cX9_playEvening 34 = .ok (.getfield 121, 3) := by decide +kernel
theorem dX9_playEvening_37 : decode cX9_playEvening 37 = .ok (.bipush (-6), 2) := by decide +kernel
theorem dX9_playEvening_39 : decode cX9_playEvening 39 = .ok (.if_icmp .ne 7, 3) := by decide +kernel
theorem dX9_playEvening_42 : decode cX9_playEvening 42 = .ok (.iconst 0, 1) := by decide +kernel
theorem dX9_playEvening_43 : decode cX9_playEvening 43 = .ok (.goto 5, 3) := by decide +kernel
theorem dX9_playEvening_46 : decode cX9_playEvening 46 = .ok (.bipush (-3), 2) := by decide +kernel
theorem dX9_playEvening_48 : decode cX9_playEvening 48 = .ok (.ireturn, 1) := by decide +kernel
abbrev wl_X9_playEvening (G : gw_) (A_t : Nat) (A_t_now : Nat) (A_t_images : Nat) (A_t_pad : Nat) (A_t_evening : Nat) (A_t_ways : Nat) (A_t_tour : Nat) (A_t_odds : Nat) (A_t_now_marsh : Nat) (A_t_now_crowd : Nat) (A_t_now_sights : Nat) (A_t_now_marsh_codes : Nat) (A_t_now_crowd_at : Nat) (A_t_now_crowd_home : Nat) (A_t_now_crowd_light : Nat) (A_t_now_crowd_carries : Nat) (A_t_now_crowd_bearer : Nat) (A_t_pad_signs : Nat) (A_t_evening_crowd : Nat) (A_t_evening_crowd_at : Nat) (A_t_evening_crowd_home : Nat) (A_t_evening_crowd_light : Nat) (A_t_evening_crowd_carries : Nat) (A_t_evening_crowd_bearer : Nat) (c_t_measured : Int32) (c_t_now_marsh_codes : Nat → Int32) (c_t_now_crowd_there : Int32) (c_t_now_crowd_foggy : Int32) (c_t_now_crowd_at : Nat → Int32) (c_t_now_crowd_home : Nat → Int32) (c_t_now_crowd_light : Nat → Int32) (c_t_now_crowd_carries : Nat → Int32) (c_t_now_crowd_bearer : Nat → Int32) (c_t_pad_count : Int32) (c_t_pad_signs : Nat → Int32) (c_t_evening_acts : Int32) (c_t_evening_failedAct : Int32) (c_t_evening_reason : Int32) (c_t_evening_costs : Int32) (c_t_evening_walks : Int32) (c_t_evening_crowd_there : Int32) (c_t_evening_crowd_foggy : Int32) (c_t_evening_crowd_at : Nat → Int32) (c_t_evening_crowd_home : Nat → Int32) (c_t_evening_crowd_light : Nat → Int32) (c_t_evening_crowd_carries : Nat → Int32) (c_t_evening_crowd_bearer : Nat → Int32) : va_W := [ob_ A_t 9 [.ref A_t_now, .ref A_t_images, .ref A_t_pad, .ref A_t_evening, .ref A_t_ways, .ref A_t_tour, .ref A_t_odds, .int c_t_measured], ob_ A_t_now 5 [.ref A_t_now_marsh, .ref A_t_now_crowd, .ref A_t_now_sights], ob_ A_t_now_marsh 2 [.ref A_t_now_marsh_codes], ia_ G A_t_now_marsh_codes 144 c_t_now_marsh_codes, ob_ A_t_now_crowd 0 [.int c_t_now_crowd_there, .int c_t_now_crowd_foggy, .ref A_t_now_crowd_at, .ref A_t_now_crowd_home, .ref A_t_now_crowd_light, .ref A_t_now_crowd_carries, .ref A_t_now_crowd_bearer], ia_ G A_t_now_crowd_at 6 c_t_now_crowd_at, ia_ G A_t_now_crowd_home 6 c_t_now_crowd_home, ia_ G A_t_now_crowd_light 6 c_t_now_crowd_light, ia_ G A_t_now_crowd_carries 6 c_t_now_crowd_carries, ia_ G A_t_now_crowd_bearer 6 c_t_now_crowd_bearer, ob_ A_t_pad 4 [.int c_t_pad_count, .ref A_t_pad_signs], ia_ G A_t_pad_signs 60 c_t_pad_signs, ob_ A_t_evening 1 [.ref A_t_evening_crowd, .int c_t_evening_acts, .int c_t_evening_failedAct, .int c_t_evening_reason, .int c_t_evening_costs, .int c_t_evening_walks], ob_ A_t_evening_crowd 0 [.int c_t_evening_crowd_there, .int c_t_evening_crowd_foggy, .ref A_t_evening_crowd_at, .ref A_t_evening_crowd_home, .ref A_t_evening_crowd_light, .ref A_t_evening_crowd_carries, .ref A_t_evening_crowd_bearer], ia_ G A_t_evening_crowd_at 6 c_t_evening_crowd_at, ia_ G A_t_evening_crowd_home 6 c_t_evening_crowd_home, ia_ G A_t_evening_crowd_light 6 c_t_evening_crowd_light, ia_ G A_t_evening_crowd_carries 6 c_t_evening_crowd_carries, ia_ G A_t_evening_crowd_bearer 6 c_t_evening_crowd_bearer]
def fn_X9_playEvening (c_t_now_marsh_codes : Nat → Int32) (c_t_now_crowd_there : Int32) (c_t_now_crowd_foggy : Int32) (c_t_now_crowd_at : Nat → Int32) (c_t_now_crowd_home : Nat → Int32) (c_t_now_crowd_light : Nat → Int32) (c_t_now_crowd_carries : Nat → Int32) (c_t_now_crowd_bearer : Nat → Int32) (c_t_pad_count : Int32) (c_t_pad_signs : Nat → Int32) (c_t_evening_acts : Int32) (c_t_evening_failedAct : Int32) (c_t_evening_reason : Int32) (c_t_evening_costs : Int32) (c_t_evening_walks : Int32) (c_t_evening_crowd_there : Int32) (c_t_evening_crowd_foggy : Int32) (c_t_evening_crowd_at : Nat → Int32) (c_t_evening_crowd_home : Nat → Int32) (c_t_evening_crowd_light : Nat → Int32) (c_t_evening_crowd_carries : Nat → Int32) (c_t_evening_crowd_bearer : Nat → Int32) : Option (Int32 × Int32 × Int32 × Int32 × Int32 × Int32 × Int32 × Int32 × (Nat → Int32) × (Nat → Int32) × (Nat → Int32) × (Nat → Int32) × (Nat → Int32)) :=
  b1_ (fn_X4_firstFault c_t_pad_count c_t_pad_signs) fun r1 =>
  if r1 = (-6) then
    b12_ (fn_X1_play c_t_evening_acts c_t_evening_failedAct c_t_evening_reason c_t_evening_costs c_t_evening_walks c_t_evening_crowd_there c_t_evening_crowd_foggy c_t_evening_crowd_at c_t_evening_crowd_home c_t_evening_crowd_light c_t_evening_crowd_carries c_t_evening_crowd_bearer c_t_now_marsh_codes c_t_now_crowd_there c_t_now_crowd_foggy c_t_now_crowd_at c_t_now_crowd_home c_t_now_crowd_light c_t_now_crowd_carries c_t_now_crowd_bearer c_t_pad_count c_t_pad_signs) fun w3 w4 w5 w6 w7 w8 w9 w10 w11 w12 w13 w14 =>
    if w4 = (-6) then
      some (0, w3, w4, w5, w6, w7, w8, w9, w10, w11, w12, w13, w14)
    else
      some ((-3), w3, w4, w5, w6, w7, w8, w9, w10, w11, w12, w13, w14)
  else
    some ((-5), c_t_evening_acts, c_t_evening_failedAct, c_t_evening_reason, c_t_evening_costs, c_t_evening_walks, c_t_evening_crowd_there, c_t_evening_crowd_foggy, c_t_evening_crowd_at, c_t_evening_crowd_home, c_t_evening_crowd_light, c_t_evening_crowd_carries, c_t_evening_crowd_bearer)
set_option maxHeartbeats 4000000 in
set_option maxRecDepth 100000 in
theorem wn_X9_playEvening {p : Program} {l : Launch} {e : Env} {s : State} {m : MethodId} {args : Array Value} {below : List Frame} {meth : Method} {c : Code} {G : gw_} {A : Nat → Prop} {Q : State → Prop} {A_t : Nat} {A_t_now : Nat} {A_t_images : Nat} {A_t_pad : Nat} {A_t_evening : Nat} {A_t_ways : Nat} {A_t_tour : Nat} {A_t_odds : Nat} {A_t_now_marsh : Nat} {A_t_now_crowd : Nat} {A_t_now_sights : Nat} {A_t_now_marsh_codes : Nat} {A_t_now_crowd_at : Nat} {A_t_now_crowd_home : Nat} {A_t_now_crowd_light : Nat} {A_t_now_crowd_carries : Nat} {A_t_now_crowd_bearer : Nat} {A_t_pad_signs : Nat} {A_t_evening_crowd : Nat} {A_t_evening_crowd_at : Nat} {A_t_evening_crowd_home : Nat} {A_t_evening_crowd_light : Nat} {A_t_evening_crowd_carries : Nat} {A_t_evening_crowd_bearer : Nat} {c_t_measured : Int32} {c_t_now_marsh_codes : Nat → Int32} {c_t_now_crowd_there : Int32} {c_t_now_crowd_foggy : Int32} {c_t_now_crowd_at : Nat → Int32} {c_t_now_crowd_home : Nat → Int32} {c_t_now_crowd_light : Nat → Int32} {c_t_now_crowd_carries : Nat → Int32} {c_t_now_crowd_bearer : Nat → Int32} {c_t_pad_count : Int32} {c_t_pad_signs : Nat → Int32} {c_t_evening_acts : Int32} {z_t_evening_acts : Int32} {c_t_evening_failedAct : Int32} {z_t_evening_failedAct : Int32} {c_t_evening_reason : Int32} {z_t_evening_reason : Int32} {c_t_evening_costs : Int32} {z_t_evening_costs : Int32} {c_t_evening_walks : Int32} {z_t_evening_walks : Int32} {c_t_evening_crowd_there : Int32} {z_t_evening_crowd_there : Int32} {c_t_evening_crowd_foggy : Int32} {z_t_evening_crowd_foggy : Int32} {c_t_evening_crowd_at : Nat → Int32} {z_t_evening_crowd_at : Nat → Int32} {c_t_evening_crowd_home : Nat → Int32} {z_t_evening_crowd_home : Nat → Int32} {c_t_evening_crowd_light : Nat → Int32} {z_t_evening_crowd_light : Nat → Int32} {c_t_evening_crowd_carries : Nat → Int32} {z_t_evening_crowd_carries : Nat → Int32} {c_t_evening_crowd_bearer : Nat → Int32} {z_t_evening_crowd_bearer : Nat → Int32} {r : Int32} (hC : cx_ p s m c G cX9_playEvening 1 RX9) (hret : ∀ (pc : Nat) (H : Heap) (locs : List Loc) (ls : Array Slot), decode cX9_playEvening pc = .ok (.ireturn, 1) → wd_ G A s.heap (wl_X9_playEvening G A_t A_t_now A_t_images A_t_pad A_t_evening A_t_ways A_t_tour A_t_odds A_t_now_marsh A_t_now_crowd A_t_now_sights A_t_now_marsh_codes A_t_now_crowd_at A_t_now_crowd_home A_t_now_crowd_light A_t_now_crowd_carries A_t_now_crowd_bearer A_t_pad_signs A_t_evening_crowd A_t_evening_crowd_at A_t_evening_crowd_home A_t_evening_crowd_light A_t_evening_crowd_carries A_t_evening_crowd_bearer c_t_measured c_t_now_marsh_codes c_t_now_crowd_there c_t_now_crowd_foggy c_t_now_crowd_at c_t_now_crowd_home c_t_now_crowd_light c_t_now_crowd_carries c_t_now_crowd_bearer c_t_pad_count c_t_pad_signs z_t_evening_acts z_t_evening_failedAct z_t_evening_reason z_t_evening_costs z_t_evening_walks z_t_evening_crowd_there z_t_evening_crowd_foggy z_t_evening_crowd_at z_t_evening_crowd_home z_t_evening_crowd_light z_t_evening_crowd_carries z_t_evening_crowd_bearer) H locs → W p l e { frames := 6, cells := 0, slots := 0, locals := 147 } s m args below meth c H locs 0 0 Q (F0 m pc ls [.int r])) (hf : fn_X9_playEvening c_t_now_marsh_codes c_t_now_crowd_there c_t_now_crowd_foggy c_t_now_crowd_at c_t_now_crowd_home c_t_now_crowd_light c_t_now_crowd_carries c_t_now_crowd_bearer c_t_pad_count c_t_pad_signs c_t_evening_acts c_t_evening_failedAct c_t_evening_reason c_t_evening_costs c_t_evening_walks c_t_evening_crowd_there c_t_evening_crowd_foggy c_t_evening_crowd_at c_t_evening_crowd_home c_t_evening_crowd_light c_t_evening_crowd_carries c_t_evening_crowd_bearer = some (r, z_t_evening_acts, z_t_evening_failedAct, z_t_evening_reason, z_t_evening_costs, z_t_evening_walks, z_t_evening_crowd_there, z_t_evening_crowd_foggy, z_t_evening_crowd_at, z_t_evening_crowd_home, z_t_evening_crowd_light, z_t_evening_crowd_carries, z_t_evening_crowd_bearer)) {H : Heap} {locs : List Loc} {ls : Array Slot} (hl : lv_has ls 1 [(0, .ref A_t)]) (hw : wd_ G A s.heap (wl_X9_playEvening G A_t A_t_now A_t_images A_t_pad A_t_evening A_t_ways A_t_tour A_t_odds A_t_now_marsh A_t_now_crowd A_t_now_sights A_t_now_marsh_codes A_t_now_crowd_at A_t_now_crowd_home A_t_now_crowd_light A_t_now_crowd_carries A_t_now_crowd_bearer A_t_pad_signs A_t_evening_crowd A_t_evening_crowd_at A_t_evening_crowd_home A_t_evening_crowd_light A_t_evening_crowd_carries A_t_evening_crowd_bearer c_t_measured c_t_now_marsh_codes c_t_now_crowd_there c_t_now_crowd_foggy c_t_now_crowd_at c_t_now_crowd_home c_t_now_crowd_light c_t_now_crowd_carries c_t_now_crowd_bearer c_t_pad_count c_t_pad_signs c_t_evening_acts c_t_evening_failedAct c_t_evening_reason c_t_evening_costs c_t_evening_walks c_t_evening_crowd_there c_t_evening_crowd_foggy c_t_evening_crowd_at c_t_evening_crowd_home c_t_evening_crowd_light c_t_evening_crowd_carries c_t_evening_crowd_bearer) H locs) : W p l e { frames := 6, cells := 0, slots := 0, locals := 147 } s m args below meth c H locs 0 0 Q (F0 m 0 ls []) := by
  have hx := hC.1
  have hb := hC.2.1
  unfold fn_X9_playEvening at hf
  refine lv_aload_n hx hb dX9_playEvening_0 rfl (lv_at hl 0 rfl) ?_
  refine g_get hC hw fkX9_23 0 rfl rfl dX9_playEvening_1 ?_
  obtain ⟨r1, hq2, hf⟩ := b1_s hf
  refine h_cVi hC hw mvX9_115 (cn_X4_firstFault l G A_t_pad A_t_pad_signs c_t_pad_count c_t_pad_signs r1 hq2) [10, 11] rfl (by decide) 10 rfl rfl rfl hl.1 rfl (Nat.le_of_ble_eq_true rfl) ⟨Nat.le_of_ble_eq_true rfl, Nat.le_of_ble_eq_true rfl⟩ ⟨Nat.le_refl _, Nat.le_refl _⟩ dX9_playEvening_4 (fun H locs hw => ?_)
  refine lv_bipush (v := (-6)) hx hb dX9_playEvening_7 (by decide) ?_
  refine lv_icmp_eq (tgt := 15) hx hb dX9_playEvening_9 (by decide) (fun hc => ?_) (fun hc => ?_)
  · replace hf := it_t hc hf
    refine lv_aload_n hx hb dX9_playEvening_15 rfl (lv_at hl 0 rfl) ?_
    refine g_get hC hw fkX9_30 0 rfl rfl dX9_playEvening_16 ?_
    refine lv_aload_n hx hb dX9_playEvening_19 rfl (lv_at hl 0 rfl) ?_
    refine g_get hC hw fkX9_12 0 rfl rfl dX9_playEvening_20 ?_
    refine lv_aload_n hx hb dX9_playEvening_23 rfl (lv_at hl 0 rfl) ?_
    refine g_get hC hw fkX9_23 0 rfl rfl dX9_playEvening_24 ?_
    obtain ⟨w3, w4, w5, w6, w7, w8, w9, w10, w11, w12, w13, w14, hq15, hf⟩ := b12_s hf
    refine g_cVv hC hw mvX9_282 (cn_X1_play l G A_t_evening A_t_evening_crowd A_t_evening_crowd_at A_t_evening_crowd_home A_t_evening_crowd_light A_t_evening_crowd_carries A_t_evening_crowd_bearer A_t_now A_t_now_marsh A_t_now_crowd A_t_now_sights A_t_now_marsh_codes A_t_now_crowd_at A_t_now_crowd_home A_t_now_crowd_light A_t_now_crowd_carries A_t_now_crowd_bearer A_t_pad A_t_pad_signs c_t_evening_acts c_t_evening_failedAct c_t_evening_reason c_t_evening_costs c_t_evening_walks c_t_evening_crowd_there c_t_evening_crowd_foggy c_t_evening_crowd_at c_t_evening_crowd_home c_t_evening_crowd_light c_t_evening_crowd_carries c_t_evening_crowd_bearer c_t_now_marsh_codes c_t_now_crowd_there c_t_now_crowd_foggy c_t_now_crowd_at c_t_now_crowd_home c_t_now_crowd_light c_t_now_crowd_carries c_t_now_crowd_bearer c_t_pad_count c_t_pad_signs w3 w4 w5 w6 w7 w8 w9 w10 w11 w12 w13 w14 hq15) [12, 13, 14, 15, 16, 17, 18, 1, 2, 3, 4, 5, 6, 7, 8, 9, 10, 11] rfl (by decide) rfl 12 rfl rfl rfl hl.1 rfl (Nat.le_of_ble_eq_true rfl) ⟨Nat.le_of_ble_eq_true rfl, Nat.le_of_ble_eq_true rfl⟩ ⟨Nat.le_refl _, Nat.le_refl _⟩ dX9_playEvening_27 (fun H locs hw => ?_)
    have hw : wd_ G A s.heap (wl_X9_playEvening G A_t A_t_now A_t_images A_t_pad A_t_evening A_t_ways A_t_tour A_t_odds A_t_now_marsh A_t_now_crowd A_t_now_sights A_t_now_marsh_codes A_t_now_crowd_at A_t_now_crowd_home A_t_now_crowd_light A_t_now_crowd_carries A_t_now_crowd_bearer A_t_pad_signs A_t_evening_crowd A_t_evening_crowd_at A_t_evening_crowd_home A_t_evening_crowd_light A_t_evening_crowd_carries A_t_evening_crowd_bearer c_t_measured c_t_now_marsh_codes c_t_now_crowd_there c_t_now_crowd_foggy c_t_now_crowd_at c_t_now_crowd_home c_t_now_crowd_light c_t_now_crowd_carries c_t_now_crowd_bearer c_t_pad_count c_t_pad_signs w3 w4 w5 w6 w7 w8 w9 w10 w11 w12 w13 w14) H locs := hw
    refine lv_aload_n hx hb dX9_playEvening_30 rfl (lv_at hl 0 rfl) ?_
    refine g_get hC hw fkX9_30 0 rfl rfl dX9_playEvening_31 ?_
    refine g_get hC hw fkX9_121 12 rfl rfl dX9_playEvening_34 ?_
    refine lv_bipush (v := (-6)) hx hb dX9_playEvening_37 (by decide) ?_
    refine lv_icmp_ne (tgt := 46) hx hb dX9_playEvening_39 (by decide) (fun hc => ?_) (fun hc => ?_)
    · replace hf := it_f hc hf
      refine lv_bipush (v := (-3)) hx hb dX9_playEvening_46 (by decide) ?_
      obtain ⟨h1_, h2_, h3_, h4_, h5_, h6_, h7_, h8_, h9_, h10_, h11_, h12_, h13_⟩ := t13_ hf
      subst h1_
      subst h2_
      subst h3_
      subst h4_
      subst h5_
      subst h6_
      subst h7_
      subst h8_
      subst h9_
      subst h10_
      subst h11_
      subst h12_
      subst h13_
      exact hret _ _ _ _ dX9_playEvening_48 hw
    · replace hf := it_t hc hf
      refine lv_iconst (v := 0) hx hb dX9_playEvening_42 (by decide) ?_
      refine lv_goto (tgt := 48) hx hb dX9_playEvening_43 (by decide) ?_
      obtain ⟨h1_, h2_, h3_, h4_, h5_, h6_, h7_, h8_, h9_, h10_, h11_, h12_, h13_⟩ := t13_ hf
      subst h1_
      subst h2_
      subst h3_
      subst h4_
      subst h5_
      subst h6_
      subst h7_
      subst h8_
      subst h9_
      subst h10_
      subst h11_
      subst h12_
      subst h13_
      exact hret _ _ _ _ dX9_playEvening_48 hw
  · replace hf := it_f hc hf
    refine lv_bipush (v := (-5)) hx hb dX9_playEvening_12 (by decide) ?_
    obtain ⟨h1_, h2_, h3_, h4_, h5_, h6_, h7_, h8_, h9_, h10_, h11_, h12_, h13_⟩ := t13_ hf
    subst h1_
    subst h2_
    subst h3_
    subst h4_
    subst h5_
    subst h6_
    subst h7_
    subst h8_
    subst h9_
    subst h10_
    subst h11_
    subst h12_
    subst h13_
    exact hret _ _ _ _ dX9_playEvening_14 hw
set_option maxHeartbeats 4000000 in
set_option maxRecDepth 100000 in
theorem cn_X9_playEvening (l : Launch) (G : gw_) (A_t : Nat) (A_t_now : Nat) (A_t_images : Nat) (A_t_pad : Nat) (A_t_evening : Nat) (A_t_ways : Nat) (A_t_tour : Nat) (A_t_odds : Nat) (A_t_now_marsh : Nat) (A_t_now_crowd : Nat) (A_t_now_sights : Nat) (A_t_now_marsh_codes : Nat) (A_t_now_crowd_at : Nat) (A_t_now_crowd_home : Nat) (A_t_now_crowd_light : Nat) (A_t_now_crowd_carries : Nat) (A_t_now_crowd_bearer : Nat) (A_t_pad_signs : Nat) (A_t_evening_crowd : Nat) (A_t_evening_crowd_at : Nat) (A_t_evening_crowd_home : Nat) (A_t_evening_crowd_light : Nat) (A_t_evening_crowd_carries : Nat) (A_t_evening_crowd_bearer : Nat) (c_t_measured : Int32) (c_t_now_marsh_codes : Nat → Int32) (c_t_now_crowd_there : Int32) (c_t_now_crowd_foggy : Int32) (c_t_now_crowd_at : Nat → Int32) (c_t_now_crowd_home : Nat → Int32) (c_t_now_crowd_light : Nat → Int32) (c_t_now_crowd_carries : Nat → Int32) (c_t_now_crowd_bearer : Nat → Int32) (c_t_pad_count : Int32) (c_t_pad_signs : Nat → Int32) (c_t_evening_acts : Int32) (c_t_evening_failedAct : Int32) (c_t_evening_reason : Int32) (c_t_evening_costs : Int32) (c_t_evening_walks : Int32) (c_t_evening_crowd_there : Int32) (c_t_evening_crowd_foggy : Int32) (c_t_evening_crowd_at : Nat → Int32) (c_t_evening_crowd_home : Nat → Int32) (c_t_evening_crowd_light : Nat → Int32) (c_t_evening_crowd_carries : Nat → Int32) (c_t_evening_crowd_bearer : Nat → Int32) (r : Int32) (z_t_evening_acts : Int32) (z_t_evening_failedAct : Int32) (z_t_evening_reason : Int32) (z_t_evening_costs : Int32) (z_t_evening_walks : Int32) (z_t_evening_crowd_there : Int32) (z_t_evening_crowd_foggy : Int32) (z_t_evening_crowd_at : Nat → Int32) (z_t_evening_crowd_home : Nat → Int32) (z_t_evening_crowd_light : Nat → Int32) (z_t_evening_crowd_carries : Nat → Int32) (z_t_evening_crowd_bearer : Nat → Int32) (hf : fn_X9_playEvening c_t_now_marsh_codes c_t_now_crowd_there c_t_now_crowd_foggy c_t_now_crowd_at c_t_now_crowd_home c_t_now_crowd_light c_t_now_crowd_carries c_t_now_crowd_bearer c_t_pad_count c_t_pad_signs c_t_evening_acts c_t_evening_failedAct c_t_evening_reason c_t_evening_costs c_t_evening_walks c_t_evening_crowd_there c_t_evening_crowd_foggy c_t_evening_crowd_at c_t_evening_crowd_home c_t_evening_crowd_light c_t_evening_crowd_carries c_t_evening_crowd_bearer = some (r, z_t_evening_acts, z_t_evening_failedAct, z_t_evening_reason, z_t_evening_costs, z_t_evening_walks, z_t_evening_crowd_there, z_t_evening_crowd_foggy, z_t_evening_crowd_at, z_t_evening_crowd_home, z_t_evening_crowd_light, z_t_evening_crowd_carries, z_t_evening_crowd_bearer)) : ci_ l G yX9_playEvening cX9_playEvening 1 (some .int) 6 147 (wl_X9_playEvening G A_t A_t_now A_t_images A_t_pad A_t_evening A_t_ways A_t_tour A_t_odds A_t_now_marsh A_t_now_crowd A_t_now_sights A_t_now_marsh_codes A_t_now_crowd_at A_t_now_crowd_home A_t_now_crowd_light A_t_now_crowd_carries A_t_now_crowd_bearer A_t_pad_signs A_t_evening_crowd A_t_evening_crowd_at A_t_evening_crowd_home A_t_evening_crowd_light A_t_evening_crowd_carries A_t_evening_crowd_bearer c_t_measured c_t_now_marsh_codes c_t_now_crowd_there c_t_now_crowd_foggy c_t_now_crowd_at c_t_now_crowd_home c_t_now_crowd_light c_t_now_crowd_carries c_t_now_crowd_bearer c_t_pad_count c_t_pad_signs c_t_evening_acts c_t_evening_failedAct c_t_evening_reason c_t_evening_costs c_t_evening_walks c_t_evening_crowd_there c_t_evening_crowd_foggy c_t_evening_crowd_at c_t_evening_crowd_home c_t_evening_crowd_light c_t_evening_crowd_carries c_t_evening_crowd_bearer) [.ref A_t] r (wl_X9_playEvening G A_t A_t_now A_t_images A_t_pad A_t_evening A_t_ways A_t_tour A_t_odds A_t_now_marsh A_t_now_crowd A_t_now_sights A_t_now_marsh_codes A_t_now_crowd_at A_t_now_crowd_home A_t_now_crowd_light A_t_now_crowd_carries A_t_now_crowd_bearer A_t_pad_signs A_t_evening_crowd A_t_evening_crowd_at A_t_evening_crowd_home A_t_evening_crowd_light A_t_evening_crowd_carries A_t_evening_crowd_bearer c_t_measured c_t_now_marsh_codes c_t_now_crowd_there c_t_now_crowd_foggy c_t_now_crowd_at c_t_now_crowd_home c_t_now_crowd_light c_t_now_crowd_carries c_t_now_crowd_bearer c_t_pad_count c_t_pad_signs z_t_evening_acts z_t_evening_failedAct z_t_evening_reason z_t_evening_costs z_t_evening_walks z_t_evening_crowd_there z_t_evening_crowd_foggy z_t_evening_crowd_at z_t_evening_crowd_home z_t_evening_crowd_light z_t_evening_crowd_carries z_t_evening_crowd_bearer) := fun sz => met_intro (by decide) (Nat.le_of_ble_eq_true rfl) (fun p e s m args below meth c ls hsz hC hr hlk hnm hl hw => wn_X9_playEvening hC (fun pc H locs ls hd hw => g_iret hC hr hlk hw rfl rfl hd) hf hl hw)

theorem dX9_judge_0 : decode cX9_judge 0 = .ok (.iload_n 1, 1) := by decide +kernel
theorem dX9_judge_1 : decode cX9_judge 1 = .ok (.iconst 0, 1) := by decide +kernel
theorem dX9_judge_2 : decode cX9_judge 2 = .ok (.iconst 2, 1) := by decide +kernel
theorem dX9_judge_3 : decode cX9_judge 3 = .ok (.invokestatic 63, 3) := by decide +kernel
theorem dX9_judge_6 : decode cX9_judge 6 = .ok (.ifCond .ne 6, 3) := by decide +kernel
theorem dX9_judge_9 : decode cX9_judge 9 = .ok (.bipush (-2), 2) := by decide +kernel
theorem dX9_judge_11 : decode cX9_judge 11 = .ok (.ireturn, 1) := by decide +kernel
theorem dX9_judge_12 : decode cX9_judge 12 = .ok (.aload_n 0, 1) := by decide +kernel
theorem dX9_judge_13 : decode cX9_judge 13 = .ok (.invokevirtual 118, 3) := by decide +kernel
theorem dX9_judge_16 : decode cX9_judge 16 = .ok (.istore_n 2, 1) := by decide +kernel
theorem dX9_judge_17 : decode cX9_judge 17 = .ok (.iload_n 2, 1) := by decide +kernel
theorem dX9_judge_18 : decode cX9_judge 18 = .ok (.bipush (-5), 2) := by decide +kernel
theorem dX9_judge_20 : decode cX9_judge 20 = .ok (.if_icmp .ne 6, 3) := by decide +kernel
theorem dX9_judge_23 : decode cX9_judge 23 = .ok (.bipush (-5), 2) := by decide +kernel
theorem dX9_judge_25 : decode cX9_judge 25 = .ok (.ireturn, 1) := by decide +kernel
theorem dX9_judge_26 : decode cX9_judge 26 = .ok (.iload_n 1, 1) := by decide +kernel
theorem dX9_judge_27 : decode cX9_judge 27 = .ok (.ifCond .ne 11, 3) := by decide +kernel
theorem dX9_judge_30 : decode cX9_judge 30 = .ok (.aload_n 0, 1) := by decide +kernel
theorem dX9_judge_31 : decode cX9_judge 31 = .ok (.getfield 30, 3) := by decide +kernel
theorem dX9_judge_34 : decode cX9_judge 34 = .ok (.getfield 121, 3) := by decide +kernel
theorem dX9_judge_37 : decode cX9_judge 37 = .ok (.ireturn, 1) := by decide +kernel
theorem dX9_judge_38 : decode cX9_judge 38 = .ok (.iload_n 1, 1) := by decide +kernel
theorem dX9_judge_39 : decode cX9_judge 39 = .ok (.iconst 1, 1) := by decide +kernel
theorem dX9_judge_40 : decode cX9_judge 40 = .ok (.if_icmp .ne 11, 3) := by decide +kernel
theorem dX9_judge_43 : decode cX9_judge 43 = .ok (.aload_n 0, 1) := by decide +kernel
theorem dX9_judge_44 : decode cX9_judge 44 = .ok (.getfield 30, 3) := by decide +kernel
theorem dX9_judge_47 : decode cX9_judge 47 = .ok (.getfield 124, 3) := by decide +kernel
theorem dX9_judge_50 : decode cX9_judge 50 = .ok (.ireturn, 1) := by decide +kernel
theorem dX9_judge_51 : decode cX9_judge 51 = .ok (.iload_n 2, 1) := by decide +kernel
theorem dX9_judge_52 : decode cX9_judge 52 = .ok (.ifCond .ne 13, 3) := by decide +kernel
theorem dX9_judge_55 : decode cX9_judge 55 = .ok (.aload_n 0, 1) := by decide +kernel
theorem dX9_judge_56 : decode cX9_judge 56 = .ok (.getfield 30, 3) := by decide +kernel
theorem dX9_judge_59 : decode cX9_judge 59 = .ok (.getfield 127, 3) := by decide +kernel
theorem dX9_judge_62 : decode cX9_judge 62 = .ok (.goto 4, 3) := by decide +kernel
theorem dX9_judge_65 : decode cX9_judge 65 = .ok (.iload_n 2, 1) := by decide +kernel
theorem dX9_judge_66 : decode cX9_judge 66 = .ok (.ireturn, 1) := by decide +kernel
abbrev wl_X9_judge (G : gw_) (A_t : Nat) (A_t_now : Nat) (A_t_images : Nat) (A_t_pad : Nat) (A_t_evening : Nat) (A_t_ways : Nat) (A_t_tour : Nat) (A_t_odds : Nat) (A_t_now_marsh : Nat) (A_t_now_crowd : Nat) (A_t_now_sights : Nat) (A_t_now_marsh_codes : Nat) (A_t_now_crowd_at : Nat) (A_t_now_crowd_home : Nat) (A_t_now_crowd_light : Nat) (A_t_now_crowd_carries : Nat) (A_t_now_crowd_bearer : Nat) (A_t_pad_signs : Nat) (A_t_evening_crowd : Nat) (A_t_evening_crowd_at : Nat) (A_t_evening_crowd_home : Nat) (A_t_evening_crowd_light : Nat) (A_t_evening_crowd_carries : Nat) (A_t_evening_crowd_bearer : Nat) (c_t_measured : Int32) (c_t_now_marsh_codes : Nat → Int32) (c_t_now_crowd_there : Int32) (c_t_now_crowd_foggy : Int32) (c_t_now_crowd_at : Nat → Int32) (c_t_now_crowd_home : Nat → Int32) (c_t_now_crowd_light : Nat → Int32) (c_t_now_crowd_carries : Nat → Int32) (c_t_now_crowd_bearer : Nat → Int32) (c_t_pad_count : Int32) (c_t_pad_signs : Nat → Int32) (c_t_evening_acts : Int32) (c_t_evening_failedAct : Int32) (c_t_evening_reason : Int32) (c_t_evening_costs : Int32) (c_t_evening_walks : Int32) (c_t_evening_crowd_there : Int32) (c_t_evening_crowd_foggy : Int32) (c_t_evening_crowd_at : Nat → Int32) (c_t_evening_crowd_home : Nat → Int32) (c_t_evening_crowd_light : Nat → Int32) (c_t_evening_crowd_carries : Nat → Int32) (c_t_evening_crowd_bearer : Nat → Int32) : va_W := [ob_ A_t 9 [.ref A_t_now, .ref A_t_images, .ref A_t_pad, .ref A_t_evening, .ref A_t_ways, .ref A_t_tour, .ref A_t_odds, .int c_t_measured], ob_ A_t_now 5 [.ref A_t_now_marsh, .ref A_t_now_crowd, .ref A_t_now_sights], ob_ A_t_now_marsh 2 [.ref A_t_now_marsh_codes], ia_ G A_t_now_marsh_codes 144 c_t_now_marsh_codes, ob_ A_t_now_crowd 0 [.int c_t_now_crowd_there, .int c_t_now_crowd_foggy, .ref A_t_now_crowd_at, .ref A_t_now_crowd_home, .ref A_t_now_crowd_light, .ref A_t_now_crowd_carries, .ref A_t_now_crowd_bearer], ia_ G A_t_now_crowd_at 6 c_t_now_crowd_at, ia_ G A_t_now_crowd_home 6 c_t_now_crowd_home, ia_ G A_t_now_crowd_light 6 c_t_now_crowd_light, ia_ G A_t_now_crowd_carries 6 c_t_now_crowd_carries, ia_ G A_t_now_crowd_bearer 6 c_t_now_crowd_bearer, ob_ A_t_pad 4 [.int c_t_pad_count, .ref A_t_pad_signs], ia_ G A_t_pad_signs 60 c_t_pad_signs, ob_ A_t_evening 1 [.ref A_t_evening_crowd, .int c_t_evening_acts, .int c_t_evening_failedAct, .int c_t_evening_reason, .int c_t_evening_costs, .int c_t_evening_walks], ob_ A_t_evening_crowd 0 [.int c_t_evening_crowd_there, .int c_t_evening_crowd_foggy, .ref A_t_evening_crowd_at, .ref A_t_evening_crowd_home, .ref A_t_evening_crowd_light, .ref A_t_evening_crowd_carries, .ref A_t_evening_crowd_bearer], ia_ G A_t_evening_crowd_at 6 c_t_evening_crowd_at, ia_ G A_t_evening_crowd_home 6 c_t_evening_crowd_home, ia_ G A_t_evening_crowd_light 6 c_t_evening_crowd_light, ia_ G A_t_evening_crowd_carries 6 c_t_evening_crowd_carries, ia_ G A_t_evening_crowd_bearer 6 c_t_evening_crowd_bearer]
def fn_X9_judge (c_t_now_marsh_codes : Nat → Int32) (c_t_now_crowd_there : Int32) (c_t_now_crowd_foggy : Int32) (c_t_now_crowd_at : Nat → Int32) (c_t_now_crowd_home : Nat → Int32) (c_t_now_crowd_light : Nat → Int32) (c_t_now_crowd_carries : Nat → Int32) (c_t_now_crowd_bearer : Nat → Int32) (c_t_pad_count : Int32) (c_t_pad_signs : Nat → Int32) (c_t_evening_acts : Int32) (c_t_evening_failedAct : Int32) (c_t_evening_reason : Int32) (c_t_evening_costs : Int32) (c_t_evening_walks : Int32) (c_t_evening_crowd_there : Int32) (c_t_evening_crowd_foggy : Int32) (c_t_evening_crowd_at : Nat → Int32) (c_t_evening_crowd_home : Nat → Int32) (c_t_evening_crowd_light : Nat → Int32) (c_t_evening_crowd_carries : Nat → Int32) (c_t_evening_crowd_bearer : Nat → Int32) (x1 : Int32) : Option (Int32 × Int32 × Int32 × Int32 × Int32 × Int32 × Int32 × Int32 × (Nat → Int32) × (Nat → Int32) × (Nat → Int32) × (Nat → Int32) × (Nat → Int32)) :=
  b1_ (fn_X9_isWithin x1 0 2) fun r1 =>
  if r1 = 0 then
    some ((-2), c_t_evening_acts, c_t_evening_failedAct, c_t_evening_reason, c_t_evening_costs, c_t_evening_walks, c_t_evening_crowd_there, c_t_evening_crowd_foggy, c_t_evening_crowd_at, c_t_evening_crowd_home, c_t_evening_crowd_light, c_t_evening_crowd_carries, c_t_evening_crowd_bearer)
  else
    b13_ (fn_X9_playEvening c_t_now_marsh_codes c_t_now_crowd_there c_t_now_crowd_foggy c_t_now_crowd_at c_t_now_crowd_home c_t_now_crowd_light c_t_now_crowd_carries c_t_now_crowd_bearer c_t_pad_count c_t_pad_signs c_t_evening_acts c_t_evening_failedAct c_t_evening_reason c_t_evening_costs c_t_evening_walks c_t_evening_crowd_there c_t_evening_crowd_foggy c_t_evening_crowd_at c_t_evening_crowd_home c_t_evening_crowd_light c_t_evening_crowd_carries c_t_evening_crowd_bearer) fun r3 w4 w5 w6 w7 w8 w9 w10 w11 w12 w13 w14 w15 =>
    if r3 = (-5) then
      some ((-5), w4, w5, w6, w7, w8, w9, w10, w11, w12, w13, w14, w15)
    else
      if x1 = 0 then
        some (w5, w4, w5, w6, w7, w8, w9, w10, w11, w12, w13, w14, w15)
      else
        if x1 = 1 then
          some (w6, w4, w5, w6, w7, w8, w9, w10, w11, w12, w13, w14, w15)
        else
          if r3 = 0 then
            some (w7, w4, w5, w6, w7, w8, w9, w10, w11, w12, w13, w14, w15)
          else
            some (r3, w4, w5, w6, w7, w8, w9, w10, w11, w12, w13, w14, w15)
set_option maxHeartbeats 4000000 in
set_option maxRecDepth 100000 in
theorem wn_X9_judge {p : Program} {l : Launch} {e : Env} {s : State} {m : MethodId} {args : Array Value} {below : List Frame} {meth : Method} {c : Code} {G : gw_} {A : Nat → Prop} {Q : State → Prop} {A_t : Nat} {A_t_now : Nat} {A_t_images : Nat} {A_t_pad : Nat} {A_t_evening : Nat} {A_t_ways : Nat} {A_t_tour : Nat} {A_t_odds : Nat} {A_t_now_marsh : Nat} {A_t_now_crowd : Nat} {A_t_now_sights : Nat} {A_t_now_marsh_codes : Nat} {A_t_now_crowd_at : Nat} {A_t_now_crowd_home : Nat} {A_t_now_crowd_light : Nat} {A_t_now_crowd_carries : Nat} {A_t_now_crowd_bearer : Nat} {A_t_pad_signs : Nat} {A_t_evening_crowd : Nat} {A_t_evening_crowd_at : Nat} {A_t_evening_crowd_home : Nat} {A_t_evening_crowd_light : Nat} {A_t_evening_crowd_carries : Nat} {A_t_evening_crowd_bearer : Nat} {c_t_measured : Int32} {c_t_now_marsh_codes : Nat → Int32} {c_t_now_crowd_there : Int32} {c_t_now_crowd_foggy : Int32} {c_t_now_crowd_at : Nat → Int32} {c_t_now_crowd_home : Nat → Int32} {c_t_now_crowd_light : Nat → Int32} {c_t_now_crowd_carries : Nat → Int32} {c_t_now_crowd_bearer : Nat → Int32} {c_t_pad_count : Int32} {c_t_pad_signs : Nat → Int32} {c_t_evening_acts : Int32} {z_t_evening_acts : Int32} {c_t_evening_failedAct : Int32} {z_t_evening_failedAct : Int32} {c_t_evening_reason : Int32} {z_t_evening_reason : Int32} {c_t_evening_costs : Int32} {z_t_evening_costs : Int32} {c_t_evening_walks : Int32} {z_t_evening_walks : Int32} {c_t_evening_crowd_there : Int32} {z_t_evening_crowd_there : Int32} {c_t_evening_crowd_foggy : Int32} {z_t_evening_crowd_foggy : Int32} {c_t_evening_crowd_at : Nat → Int32} {z_t_evening_crowd_at : Nat → Int32} {c_t_evening_crowd_home : Nat → Int32} {z_t_evening_crowd_home : Nat → Int32} {c_t_evening_crowd_light : Nat → Int32} {z_t_evening_crowd_light : Nat → Int32} {c_t_evening_crowd_carries : Nat → Int32} {z_t_evening_crowd_carries : Nat → Int32} {c_t_evening_crowd_bearer : Nat → Int32} {z_t_evening_crowd_bearer : Nat → Int32} {r : Int32} {x1 : Int32} (hC : cx_ p s m c G cX9_judge 3 RX9) (hret : ∀ (pc : Nat) (H : Heap) (locs : List Loc) (ls : Array Slot), decode cX9_judge pc = .ok (.ireturn, 1) → wd_ G A s.heap (wl_X9_judge G A_t A_t_now A_t_images A_t_pad A_t_evening A_t_ways A_t_tour A_t_odds A_t_now_marsh A_t_now_crowd A_t_now_sights A_t_now_marsh_codes A_t_now_crowd_at A_t_now_crowd_home A_t_now_crowd_light A_t_now_crowd_carries A_t_now_crowd_bearer A_t_pad_signs A_t_evening_crowd A_t_evening_crowd_at A_t_evening_crowd_home A_t_evening_crowd_light A_t_evening_crowd_carries A_t_evening_crowd_bearer c_t_measured c_t_now_marsh_codes c_t_now_crowd_there c_t_now_crowd_foggy c_t_now_crowd_at c_t_now_crowd_home c_t_now_crowd_light c_t_now_crowd_carries c_t_now_crowd_bearer c_t_pad_count c_t_pad_signs z_t_evening_acts z_t_evening_failedAct z_t_evening_reason z_t_evening_costs z_t_evening_walks z_t_evening_crowd_there z_t_evening_crowd_foggy z_t_evening_crowd_at z_t_evening_crowd_home z_t_evening_crowd_light z_t_evening_crowd_carries z_t_evening_crowd_bearer) H locs → W p l e { frames := 7, cells := 0, slots := 0, locals := 167 } s m args below meth c H locs 0 0 Q (F0 m pc ls [.int r])) (hf : fn_X9_judge c_t_now_marsh_codes c_t_now_crowd_there c_t_now_crowd_foggy c_t_now_crowd_at c_t_now_crowd_home c_t_now_crowd_light c_t_now_crowd_carries c_t_now_crowd_bearer c_t_pad_count c_t_pad_signs c_t_evening_acts c_t_evening_failedAct c_t_evening_reason c_t_evening_costs c_t_evening_walks c_t_evening_crowd_there c_t_evening_crowd_foggy c_t_evening_crowd_at c_t_evening_crowd_home c_t_evening_crowd_light c_t_evening_crowd_carries c_t_evening_crowd_bearer x1 = some (r, z_t_evening_acts, z_t_evening_failedAct, z_t_evening_reason, z_t_evening_costs, z_t_evening_walks, z_t_evening_crowd_there, z_t_evening_crowd_foggy, z_t_evening_crowd_at, z_t_evening_crowd_home, z_t_evening_crowd_light, z_t_evening_crowd_carries, z_t_evening_crowd_bearer)) {H : Heap} {locs : List Loc} {ls : Array Slot} (hl : lv_has ls 3 [(0, .ref A_t), (1, .int x1)]) (hw : wd_ G A s.heap (wl_X9_judge G A_t A_t_now A_t_images A_t_pad A_t_evening A_t_ways A_t_tour A_t_odds A_t_now_marsh A_t_now_crowd A_t_now_sights A_t_now_marsh_codes A_t_now_crowd_at A_t_now_crowd_home A_t_now_crowd_light A_t_now_crowd_carries A_t_now_crowd_bearer A_t_pad_signs A_t_evening_crowd A_t_evening_crowd_at A_t_evening_crowd_home A_t_evening_crowd_light A_t_evening_crowd_carries A_t_evening_crowd_bearer c_t_measured c_t_now_marsh_codes c_t_now_crowd_there c_t_now_crowd_foggy c_t_now_crowd_at c_t_now_crowd_home c_t_now_crowd_light c_t_now_crowd_carries c_t_now_crowd_bearer c_t_pad_count c_t_pad_signs c_t_evening_acts c_t_evening_failedAct c_t_evening_reason c_t_evening_costs c_t_evening_walks c_t_evening_crowd_there c_t_evening_crowd_foggy c_t_evening_crowd_at c_t_evening_crowd_home c_t_evening_crowd_light c_t_evening_crowd_carries c_t_evening_crowd_bearer) H locs) : W p l e { frames := 7, cells := 0, slots := 0, locals := 167 } s m args below meth c H locs 0 0 Q (F0 m 0 ls []) := by
  have hx := hC.1
  have hb := hC.2.1
  unfold fn_X9_judge at hf
  refine lv_iload_n hx hb dX9_judge_0 rfl (lv_at hl 1 rfl) ?_
  refine lv_iconst (v := 0) hx hb dX9_judge_1 (by decide) ?_
  refine lv_iconst (v := 2) hx hb dX9_judge_2 (by decide) ?_
  obtain ⟨r1, hq2, hf⟩ := b1_s hf
  refine h_cSi hC hw msX9_63 (cn_X9_isWithin l G x1 0 2 r1 hq2) [] rfl (by decide) rfl hl.1 rfl (Nat.le_of_ble_eq_true rfl) ⟨Nat.le_of_ble_eq_true rfl, Nat.le_of_ble_eq_true rfl⟩ ⟨Nat.le_refl _, Nat.le_refl _⟩ dX9_judge_3 (fun H locs hw => ?_)
  refine lv_if_ne (tgt := 12) hx hb dX9_judge_6 (by decide) (fun hc => ?_) (fun hc => ?_)
  · replace hf := it_f hc hf
    refine lv_aload_n hx hb dX9_judge_12 rfl (lv_at hl 0 rfl) ?_
    obtain ⟨r3, w4, w5, w6, w7, w8, w9, w10, w11, w12, w13, w14, w15, hq16, hf⟩ := b13_s hf
    refine g_cVi hC hw mvX9_118 (cn_X9_playEvening l G A_t A_t_now A_t_images A_t_pad A_t_evening A_t_ways A_t_tour A_t_odds A_t_now_marsh A_t_now_crowd A_t_now_sights A_t_now_marsh_codes A_t_now_crowd_at A_t_now_crowd_home A_t_now_crowd_light A_t_now_crowd_carries A_t_now_crowd_bearer A_t_pad_signs A_t_evening_crowd A_t_evening_crowd_at A_t_evening_crowd_home A_t_evening_crowd_light A_t_evening_crowd_carries A_t_evening_crowd_bearer c_t_measured c_t_now_marsh_codes c_t_now_crowd_there c_t_now_crowd_foggy c_t_now_crowd_at c_t_now_crowd_home c_t_now_crowd_light c_t_now_crowd_carries c_t_now_crowd_bearer c_t_pad_count c_t_pad_signs c_t_evening_acts c_t_evening_failedAct c_t_evening_reason c_t_evening_costs c_t_evening_walks c_t_evening_crowd_there c_t_evening_crowd_foggy c_t_evening_crowd_at c_t_evening_crowd_home c_t_evening_crowd_light c_t_evening_crowd_carries c_t_evening_crowd_bearer r3 w4 w5 w6 w7 w8 w9 w10 w11 w12 w13 w14 w15 hq16) [0, 1, 2, 3, 4, 5, 6, 7, 8, 9, 10, 11, 12, 13, 14, 15, 16, 17, 18] rfl (by decide) rfl 0 rfl rfl rfl hl.1 rfl (Nat.le_of_ble_eq_true rfl) ⟨Nat.le_of_ble_eq_true rfl, Nat.le_of_ble_eq_true rfl⟩ ⟨Nat.le_refl _, Nat.le_refl _⟩ dX9_judge_13 (fun H locs hw => ?_)
    have hw : wd_ G A s.heap (wl_X9_judge G A_t A_t_now A_t_images A_t_pad A_t_evening A_t_ways A_t_tour A_t_odds A_t_now_marsh A_t_now_crowd A_t_now_sights A_t_now_marsh_codes A_t_now_crowd_at A_t_now_crowd_home A_t_now_crowd_light A_t_now_crowd_carries A_t_now_crowd_bearer A_t_pad_signs A_t_evening_crowd A_t_evening_crowd_at A_t_evening_crowd_home A_t_evening_crowd_light A_t_evening_crowd_carries A_t_evening_crowd_bearer c_t_measured c_t_now_marsh_codes c_t_now_crowd_there c_t_now_crowd_foggy c_t_now_crowd_at c_t_now_crowd_home c_t_now_crowd_light c_t_now_crowd_carries c_t_now_crowd_bearer c_t_pad_count c_t_pad_signs w4 w5 w6 w7 w8 w9 w10 w11 w12 w13 w14 w15) H locs := hw
    refine lv_istore_n (lv' := [(2, .int r3), (0, .ref A_t), (1, .int x1)]) hx hb dX9_judge_16 rfl hl (by decide) rfl (fun ls hl => ?_)
    refine lv_iload_n hx hb dX9_judge_17 rfl (lv_at hl 0 rfl) ?_
    refine lv_bipush (v := (-5)) hx hb dX9_judge_18 (by decide) ?_
    refine lv_icmp_ne (tgt := 26) hx hb dX9_judge_20 (by decide) (fun hc => ?_) (fun hc => ?_)
    · replace hf := it_f hc hf
      refine lv_iload_n hx hb dX9_judge_26 rfl (lv_at hl 2 rfl) ?_
      refine lv_if_ne (tgt := 38) hx hb dX9_judge_27 (by decide) (fun hc => ?_) (fun hc => ?_)
      · replace hf := it_f hc hf
        refine lv_iload_n hx hb dX9_judge_38 rfl (lv_at hl 2 rfl) ?_
        refine lv_iconst (v := 1) hx hb dX9_judge_39 (by decide) ?_
        refine lv_icmp_ne (tgt := 51) hx hb dX9_judge_40 (by decide) (fun hc => ?_) (fun hc => ?_)
        · replace hf := it_f hc hf
          refine lv_iload_n hx hb dX9_judge_51 rfl (lv_at hl 0 rfl) ?_
          refine lv_if_ne (tgt := 65) hx hb dX9_judge_52 (by decide) (fun hc => ?_) (fun hc => ?_)
          · replace hf := it_f hc hf
            refine lv_iload_n hx hb dX9_judge_65 rfl (lv_at hl 0 rfl) ?_
            obtain ⟨h1_, h2_, h3_, h4_, h5_, h6_, h7_, h8_, h9_, h10_, h11_, h12_, h13_⟩ := t13_ hf
            subst h1_
            subst h2_
            subst h3_
            subst h4_
            subst h5_
            subst h6_
            subst h7_
            subst h8_
            subst h9_
            subst h10_
            subst h11_
            subst h12_
            subst h13_
            exact hret _ _ _ _ dX9_judge_66 hw
          · replace hf := it_t hc hf
            refine lv_aload_n hx hb dX9_judge_55 rfl (lv_at hl 1 rfl) ?_
            refine g_get hC hw fkX9_30 0 rfl rfl dX9_judge_56 ?_
            refine g_get hC hw fkX9_127 12 rfl rfl dX9_judge_59 ?_
            refine lv_goto (tgt := 66) hx hb dX9_judge_62 (by decide) ?_
            obtain ⟨h1_, h2_, h3_, h4_, h5_, h6_, h7_, h8_, h9_, h10_, h11_, h12_, h13_⟩ := t13_ hf
            subst h1_
            subst h2_
            subst h3_
            subst h4_
            subst h5_
            subst h6_
            subst h7_
            subst h8_
            subst h9_
            subst h10_
            subst h11_
            subst h12_
            subst h13_
            exact hret _ _ _ _ dX9_judge_66 hw
        · replace hf := it_t hc hf
          refine lv_aload_n hx hb dX9_judge_43 rfl (lv_at hl 1 rfl) ?_
          refine g_get hC hw fkX9_30 0 rfl rfl dX9_judge_44 ?_
          refine g_get hC hw fkX9_124 12 rfl rfl dX9_judge_47 ?_
          obtain ⟨h1_, h2_, h3_, h4_, h5_, h6_, h7_, h8_, h9_, h10_, h11_, h12_, h13_⟩ := t13_ hf
          subst h1_
          subst h2_
          subst h3_
          subst h4_
          subst h5_
          subst h6_
          subst h7_
          subst h8_
          subst h9_
          subst h10_
          subst h11_
          subst h12_
          subst h13_
          exact hret _ _ _ _ dX9_judge_50 hw
      · replace hf := it_t hc hf
        refine lv_aload_n hx hb dX9_judge_30 rfl (lv_at hl 1 rfl) ?_
        refine g_get hC hw fkX9_30 0 rfl rfl dX9_judge_31 ?_
        refine g_get hC hw fkX9_121 12 rfl rfl dX9_judge_34 ?_
        obtain ⟨h1_, h2_, h3_, h4_, h5_, h6_, h7_, h8_, h9_, h10_, h11_, h12_, h13_⟩ := t13_ hf
        subst h1_
        subst h2_
        subst h3_
        subst h4_
        subst h5_
        subst h6_
        subst h7_
        subst h8_
        subst h9_
        subst h10_
        subst h11_
        subst h12_
        subst h13_
        exact hret _ _ _ _ dX9_judge_37 hw
    · replace hf := it_t hc hf
      refine lv_bipush (v := (-5)) hx hb dX9_judge_23 (by decide) ?_
      obtain ⟨h1_, h2_, h3_, h4_, h5_, h6_, h7_, h8_, h9_, h10_, h11_, h12_, h13_⟩ := t13_ hf
      subst h1_
      subst h2_
      subst h3_
      subst h4_
      subst h5_
      subst h6_
      subst h7_
      subst h8_
      subst h9_
      subst h10_
      subst h11_
      subst h12_
      subst h13_
      exact hret _ _ _ _ dX9_judge_25 hw
  · replace hf := it_t hc hf
    refine lv_bipush (v := (-2)) hx hb dX9_judge_9 (by decide) ?_
    obtain ⟨h1_, h2_, h3_, h4_, h5_, h6_, h7_, h8_, h9_, h10_, h11_, h12_, h13_⟩ := t13_ hf
    subst h1_
    subst h2_
    subst h3_
    subst h4_
    subst h5_
    subst h6_
    subst h7_
    subst h8_
    subst h9_
    subst h10_
    subst h11_
    subst h12_
    subst h13_
    exact hret _ _ _ _ dX9_judge_11 hw
set_option maxHeartbeats 4000000 in
set_option maxRecDepth 100000 in
theorem cn_X9_judge (l : Launch) (G : gw_) (A_t : Nat) (A_t_now : Nat) (A_t_images : Nat) (A_t_pad : Nat) (A_t_evening : Nat) (A_t_ways : Nat) (A_t_tour : Nat) (A_t_odds : Nat) (A_t_now_marsh : Nat) (A_t_now_crowd : Nat) (A_t_now_sights : Nat) (A_t_now_marsh_codes : Nat) (A_t_now_crowd_at : Nat) (A_t_now_crowd_home : Nat) (A_t_now_crowd_light : Nat) (A_t_now_crowd_carries : Nat) (A_t_now_crowd_bearer : Nat) (A_t_pad_signs : Nat) (A_t_evening_crowd : Nat) (A_t_evening_crowd_at : Nat) (A_t_evening_crowd_home : Nat) (A_t_evening_crowd_light : Nat) (A_t_evening_crowd_carries : Nat) (A_t_evening_crowd_bearer : Nat) (c_t_measured : Int32) (c_t_now_marsh_codes : Nat → Int32) (c_t_now_crowd_there : Int32) (c_t_now_crowd_foggy : Int32) (c_t_now_crowd_at : Nat → Int32) (c_t_now_crowd_home : Nat → Int32) (c_t_now_crowd_light : Nat → Int32) (c_t_now_crowd_carries : Nat → Int32) (c_t_now_crowd_bearer : Nat → Int32) (c_t_pad_count : Int32) (c_t_pad_signs : Nat → Int32) (c_t_evening_acts : Int32) (c_t_evening_failedAct : Int32) (c_t_evening_reason : Int32) (c_t_evening_costs : Int32) (c_t_evening_walks : Int32) (c_t_evening_crowd_there : Int32) (c_t_evening_crowd_foggy : Int32) (c_t_evening_crowd_at : Nat → Int32) (c_t_evening_crowd_home : Nat → Int32) (c_t_evening_crowd_light : Nat → Int32) (c_t_evening_crowd_carries : Nat → Int32) (c_t_evening_crowd_bearer : Nat → Int32) (x1 : Int32) (r : Int32) (z_t_evening_acts : Int32) (z_t_evening_failedAct : Int32) (z_t_evening_reason : Int32) (z_t_evening_costs : Int32) (z_t_evening_walks : Int32) (z_t_evening_crowd_there : Int32) (z_t_evening_crowd_foggy : Int32) (z_t_evening_crowd_at : Nat → Int32) (z_t_evening_crowd_home : Nat → Int32) (z_t_evening_crowd_light : Nat → Int32) (z_t_evening_crowd_carries : Nat → Int32) (z_t_evening_crowd_bearer : Nat → Int32) (hf : fn_X9_judge c_t_now_marsh_codes c_t_now_crowd_there c_t_now_crowd_foggy c_t_now_crowd_at c_t_now_crowd_home c_t_now_crowd_light c_t_now_crowd_carries c_t_now_crowd_bearer c_t_pad_count c_t_pad_signs c_t_evening_acts c_t_evening_failedAct c_t_evening_reason c_t_evening_costs c_t_evening_walks c_t_evening_crowd_there c_t_evening_crowd_foggy c_t_evening_crowd_at c_t_evening_crowd_home c_t_evening_crowd_light c_t_evening_crowd_carries c_t_evening_crowd_bearer x1 = some (r, z_t_evening_acts, z_t_evening_failedAct, z_t_evening_reason, z_t_evening_costs, z_t_evening_walks, z_t_evening_crowd_there, z_t_evening_crowd_foggy, z_t_evening_crowd_at, z_t_evening_crowd_home, z_t_evening_crowd_light, z_t_evening_crowd_carries, z_t_evening_crowd_bearer)) : ci_ l G yX9_judge cX9_judge 3 (some .int) 7 167 (wl_X9_judge G A_t A_t_now A_t_images A_t_pad A_t_evening A_t_ways A_t_tour A_t_odds A_t_now_marsh A_t_now_crowd A_t_now_sights A_t_now_marsh_codes A_t_now_crowd_at A_t_now_crowd_home A_t_now_crowd_light A_t_now_crowd_carries A_t_now_crowd_bearer A_t_pad_signs A_t_evening_crowd A_t_evening_crowd_at A_t_evening_crowd_home A_t_evening_crowd_light A_t_evening_crowd_carries A_t_evening_crowd_bearer c_t_measured c_t_now_marsh_codes c_t_now_crowd_there c_t_now_crowd_foggy c_t_now_crowd_at c_t_now_crowd_home c_t_now_crowd_light c_t_now_crowd_carries c_t_now_crowd_bearer c_t_pad_count c_t_pad_signs c_t_evening_acts c_t_evening_failedAct c_t_evening_reason c_t_evening_costs c_t_evening_walks c_t_evening_crowd_there c_t_evening_crowd_foggy c_t_evening_crowd_at c_t_evening_crowd_home c_t_evening_crowd_light c_t_evening_crowd_carries c_t_evening_crowd_bearer) [.ref A_t, .int x1] r (wl_X9_judge G A_t A_t_now A_t_images A_t_pad A_t_evening A_t_ways A_t_tour A_t_odds A_t_now_marsh A_t_now_crowd A_t_now_sights A_t_now_marsh_codes A_t_now_crowd_at A_t_now_crowd_home A_t_now_crowd_light A_t_now_crowd_carries A_t_now_crowd_bearer A_t_pad_signs A_t_evening_crowd A_t_evening_crowd_at A_t_evening_crowd_home A_t_evening_crowd_light A_t_evening_crowd_carries A_t_evening_crowd_bearer c_t_measured c_t_now_marsh_codes c_t_now_crowd_there c_t_now_crowd_foggy c_t_now_crowd_at c_t_now_crowd_home c_t_now_crowd_light c_t_now_crowd_carries c_t_now_crowd_bearer c_t_pad_count c_t_pad_signs z_t_evening_acts z_t_evening_failedAct z_t_evening_reason z_t_evening_costs z_t_evening_walks z_t_evening_crowd_there z_t_evening_crowd_foggy z_t_evening_crowd_at z_t_evening_crowd_home z_t_evening_crowd_light z_t_evening_crowd_carries z_t_evening_crowd_bearer) := fun sz => met_intro (by decide) (Nat.le_of_ble_eq_true rfl) (fun p e s m args below meth c ls hsz hC hr hlk hnm hl hw => wn_X9_judge hC (fun pc H locs ls hd hw => g_iret hC hr hlk hw rfl rfl hd) hf hl hw)
