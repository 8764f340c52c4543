theorem dX9_forget_0 : decode cX9_forget 0 = .ok (.aload_n 0, 1) := by decide +kernel
theorem dX9_forget_1 : decode cX9_forget 1 = .ok (.getfield 12, 3) := by decide +kernel
theorem dX9_forget_4 : decode cX9_forget 4 = .ok (.getfield 219, 3) := by decide +kernel
theorem dX9_forget_7 : decode cX9_forget 7 = .ok (.getfield 223, 3) := by decide +kernel
theorem dX9_forget_10 : decode cX9_forget 10 = .ok (.istore_n 1, 1) := by decide +kernel
theorem dX9_forget_11 : decode cX9_forget 11 = .ok (.aload_n 0, 1) := by decide +kernel
theorem dX9_forget_12 : decode cX9_forget 12 = .ok (.getfield 12, 3) := by decide +kernel
theorem dX9_forget_15 : decode cX9_forget 15 = .ok (.getfield 219, 3) := by decide +kernel
theorem dX9_forget_18 : decode cX9_forget 18 = .ok (.invokevirtual 229, 3) := by decide +kernel
theorem dX9_forget_21 : decode cX9_forget 21 = .ok (.iload_n 1, 1) := by decide +kernel
theorem dX9_forget_22 : decode cX9_forget 22 = .ok (.ireturn, 1) := by decide +kernel
def fn_X9_forget (c_t_now_sights_count : Int32) : Option (Int32 × Int32) :=
  b1_ (fn_X6_clear c_t_now_sights_count) fun w1 =>
  some (c_t_now_sights_count, w1)
set_option maxHeartbeats 4000000 in
set_option maxRecDepth 100000 in
theorem wn_X9_forget {p : Program} {l : Launch} {e : Env} {s : State} {m : MethodId} {args : Array Value} {below : List Frame} {meth : Method} {c : Code} {G : gw_} {A : Nat → Prop} {Q : State → Prop} {A_t : Nat} {A_t_now : Nat} {A_t_images : Nat} {A_t_pad : Nat} {A_t_evening : Nat} {A_t_ways : Nat} {A_t_tour : Nat} {A_t_odds : Nat} {A_t_now_marsh : Nat} {A_t_now_crowd : Nat} {A_t_now_sights : Nat} {A_t_now_sights_places : Nat} {A_t_now_sights_lights : Nat} {c_t_measured : Int32} {c_t_now_sights_count : Int32} {z_t_now_sights_count : Int32} {r : Int32} (hC : cx_ p s m c G cX9_forget 2 RX9) (hret : ∀ (pc : Nat) (H : Heap) (locs : List Loc) (ls : Array Slot), decode cX9_forget pc = .ok (.ireturn, 1) → wd_ G A s.heap [ob_ A_t 9 [.ref A_t_now, .ref A_t_images, .ref A_t_pad, .ref A_t_evening, .ref A_t_ways, .ref A_t_tour, .ref A_t_odds, .int c_t_measured], ob_ A_t_now 5 [.ref A_t_now_marsh, .ref A_t_now_crowd, .ref A_t_now_sights], ob_ A_t_now_sights 6 [.int z_t_now_sights_count, .ref A_t_now_sights_places, .ref A_t_now_sights_lights]] H locs → W p l e { frames := 1, cells := 0, slots := 0, locals := 20 } s m args below meth c H locs 0 0 Q (F0 m pc ls [.int r])) (hf : fn_X9_forget c_t_now_sights_count = some (r, z_t_now_sights_count)) {H : Heap} {locs : List Loc} {ls : Array Slot} (hl : lv_has ls 2 [(0, .ref A_t)]) (hw : wd_ G A s.heap [ob_ A_t 9 [.ref A_t_now, .ref A_t_images, .ref A_t_pad, .ref A_t_evening, .ref A_t_ways, .ref A_t_tour, .ref A_t_odds, .int c_t_measured], ob_ A_t_now 5 [.ref A_t_now_marsh, .ref A_t_now_crowd, .ref A_t_now_sights], ob_ A_t_now_sights 6 [.int c_t_now_sights_count, .ref A_t_now_sights_places, .ref A_t_now_sights_lights]] H locs) : W p l e { frames := 1, cells := 0, slots := 0, locals := 20 } s m args below meth c H locs 0 0 Q (F0 m 0 ls []) := by
  have hx := hC.1
  have hb := hC.2.1
  unfold fn_X9_forget at hf
  refine lv_aload_n hx hb dX9_forget_0 rfl (lv_at hl 0 rfl) ?_
  refine g_get hC hw fkX9_12 0 rfl rfl dX9_forget_1 ?_
  refine g_get hC hw fkX9_219 1 rfl rfl dX9_forget_4 ?_
  refine g_get hC hw fkX9_223 2 rfl rfl dX9_forget_7 ?_
  refine lv_istore_n (lv' := [(1, .int c_t_now_sights_count), (0, .ref A_t)]) hx hb dX9_forget_10 rfl hl (by decide) rfl (fun ls hl => ?_)
  refine lv_aload_n hx hb dX9_forget_11 rfl (lv_at hl 1 rfl) ?_
  refine g_get hC hw fkX9_12 0 rfl rfl dX9_forget_12 ?_
  refine g_get hC hw fkX9_219 1 rfl rfl dX9_forget_15 ?_
  obtain ⟨w1, hq2, hf⟩ := b1_s hf
  refine g_cVv hC hw mvX9_229 (cn_X6_clear l G A_t_now_sights A_t_now_sights_places A_t_now_sights_lights c_t_now_sights_count w1 hq2) [2] rfl (by decide) rfl 2 rfl rfl rfl hl.1 rfl (Nat.le_of_ble_eq_true rfl) ⟨Nat.le_of_ble_eq_true rfl, Nat.le_of_ble_eq_true rfl⟩ ⟨Nat.le_refl _, Nat.le_refl _⟩ dX9_forget_18 (fun H locs hw => ?_)
  have hw : wd_ G A s.heap [ob_ A_t 9 [.ref A_t_now, .ref A_t_images, .ref A_t_pad, .ref A_t_evening, .ref A_t_ways, .ref A_t_tour, .ref A_t_odds, .int c_t_measured], ob_ A_t_now 5 [.ref A_t_now_marsh, .ref A_t_now_crowd, .ref A_t_now_sights], ob_ A_t_now_sights 6 [.int w1, .ref A_t_now_sights_places, .ref A_t_now_sights_lights]] H locs := hw
  refine lv_iload_n hx hb dX9_forget_21 rfl (lv_at hl 0 rfl) ?_
  cases hf
  exact hret _ _ _ _ dX9_forget_22 hw
set_option maxHeartbeats 4000000 in
set_option maxRecDepth 100000 in
theorem cn_X9_forget (l : Launch) (G : gw_) (A_t : Nat) (A_t_now : Nat) (A_t_images : Nat) (A_t_pad : Nat) (A_t_evening : Nat) (A_t_ways : Nat) (A_t_tour : Nat) (A_t_odds : Nat) (A_t_now_marsh : Nat) (A_t_now_crowd : Nat) (A_t_now_sights : Nat) (A_t_now_sights_places : Nat) (A_t_now_sights_lights : Nat) (c_t_measured : Int32) (c_t_now_sights_count : Int32) (r : Int32) (z_t_now_sights_count : Int32) (hf : fn_X9_forget c_t_now_sights_count = some (r, z_t_now_sights_count)) : ci_ l G yX9_forget cX9_forget 2 (some .int) 1 20 [ob_ A_t 9 [.ref A_t_now, .ref A_t_images, .ref A_t_pad, .ref A_t_evening, .ref A_t_ways, .ref A_t_tour, .ref A_t_odds, .int c_t_measured], ob_ A_t_now 5 [.ref A_t_now_marsh, .ref A_t_now_crowd, .ref A_t_now_sights], ob_ A_t_now_sights 6 [.int c_t_now_sights_count, .ref A_t_now_sights_places, .ref A_t_now_sights_lights]] [.ref A_t] r [ob_ A_t 9 [.ref A_t_now, .ref A_t_images, .ref A_t_pad, .ref A_t_evening, .ref A_t_ways, .ref A_t_tour, .ref A_t_odds, .int c_t_measured], ob_ A_t_now 5 [.ref A_t_now_marsh, .ref A_t_now_crowd, .ref A_t_now_sights], ob_ A_t_now_sights 6 [.int z_t_now_sights_count, .ref A_t_now_sights_places, .ref A_t_now_sights_lights]] := fun sz => met_intro (by decide) (Nat.le_of_ble_eq_true rfl) (fun p e s m args below meth c ls hsz hC hr hlk hnm hl hw => wn_X9_forget hC (fun pc H locs ls hd hw => g_iret hC hr hlk hw rfl rfl hd) hf hl hw)

theorem dX9_whose_0 : decode cX9_whose 0 = .ok (.aload_n 0, 1) := by decide +kernel
theorem dX9_whose_1 : decode cX9_whose 1 = .ok (.invokevirtual 155, 3) := by decide +kernel
theorem dX9_whose_4 : decode cX9_whose 4 = .ok (.aload_n 0, 1) := by decide +kernel
theorem dX9_whose_5 : decode cX9_whose 5 = .ok (.getfield 12, 3) := by decide +kernel
theorem dX9_whose_8 : decode cX9_whose 8 = .ok (.getfield 219, 3) := by decide +kernel
theorem dX9_whose_11 : decode cX9_whose 11 = .ok (.aload_n 0, 1) := by decide +kernel
theorem dX9_whose_12 : decode cX9_whose 12 = .ok (.getfield 12, 3) := by decide +kernel
theorem dX9_whose_15 : decode cX9_whose 15 = .ok (.getfield 81, 3) := by decide +kernel
theorem dX9_whose_18 : decode cX9_whose 18 = .ok (.aload_n 0, 1) := by decide +kernel
theorem dX9_whose_19 : decode cX9_whose 19 = .ok (.getfield 37, 3) := by decide +kernel
theorem dX9_whose_22 : decode cX9_whose 22 = .ok (.invokevirtual 230, 3) := by decide +kernel
theorem dX9_whose_25 : decode cX9_whose 25 = .ok (.ireturn, 1) := by decide +kernel
def fn_X9_whose (c_t_measured : Int32) (c_t_now_marsh_codes : Nat → Int32) (c_t_now_crowd_there : Int32) (c_t_now_crowd_foggy : Int32) (c_t_now_crowd_at : Nat → Int32) (c_t_now_crowd_light : Nat → Int32) (c_t_now_sights_count : Int32) (c_t_now_sights_places : Nat → Int32) (c_t_now_sights_lights : Nat → Int32) (c_t_ways_planks : Nat → Int32) (c_t_ways_least : Nat → Int32) (c_t_ways_neighbours : Nat → Int32) : Option (Int32 × Int32 × (Nat → Int32) × (Nat → Int32) × (Nat → Int32)) :=
  b4_ (fn_X9_measure c_t_measured c_t_now_marsh_codes c_t_now_crowd_foggy c_t_ways_planks c_t_ways_least c_t_ways_neighbours) fun w1 w2 w3 w4 =>
  b1_ (fn_X6_fitting c_t_now_sights_count c_t_now_sights_places c_t_now_sights_lights c_t_now_crowd_there c_t_now_crowd_at c_t_now_crowd_light w3) fun r6 =>
  some (r6, w1, w2, w3, w4)
set_option maxHeartbeats 4000000 in
set_option maxRecDepth 100000 in
theorem wn_X9_whose {p : Program} {l : Launch} {e : Env} {s : State} {m : MethodId} {args : Array Value} {below : List Frame} {meth : Method} {c : Code} {G : gw_} {A : Nat → Prop} {Q : State → Prop} {A_t : Nat} {A_t_now : Nat} {A_t_images : Nat} {A_t_pad : Nat} {A_t_evening : Nat} {A_t_ways : Nat} {A_t_tour : Nat} {A_t_odds : Nat} {A_t_now_marsh : Nat} {A_t_now_crowd : Nat} {A_t_now_sights : Nat} {A_t_now_marsh_codes : Nat} {A_t_now_crowd_at : Nat} {A_t_now_crowd_home : Nat} {A_t_now_crowd_light : Nat} {A_t_now_crowd_carries : Nat} {A_t_now_crowd_bearer : Nat} {A_t_now_sights_places : Nat} {A_t_now_sights_lights : Nat} {A_t_ways_planks : Nat} {A_t_ways_least : Nat} {A_t_ways_neighbours : Nat} {c_t_measured : Int32} {z_t_measured : Int32} {c_t_now_marsh_codes : Nat → Int32} {c_t_now_crowd_there : Int32} {c_t_now_crowd_foggy : Int32} {c_t_now_crowd_at : Nat → Int32} {c_t_now_crowd_light : Nat → Int32} {c_t_now_sights_count : Int32} {c_t_now_sights_places : Nat → Int32} {c_t_now_sights_lights : Nat → Int32} {c_t_ways_planks : Nat → Int32} {z_t_ways_planks : Nat → Int32} {c_t_ways_least : Nat → Int32} {z_t_ways_least : Nat → Int32} {c_t_ways_neighbours : Nat → Int32} {z_t_ways_neighbours : Nat → Int32} {r : Int32} (hC : cx_ p s m c G cX9_whose 1 RX9) (hret : ∀ (pc : Nat) (H : Heap) (locs : List Loc) (ls : Array Slot), decode cX9_whose pc = .ok (.ireturn, 1) → wd_ G A s.heap [ob_ A_t 9 [.ref A_t_now, .ref A_t_images, .ref A_t_pad, .ref A_t_evening, .ref A_t_ways, .ref A_t_tour, .ref A_t_odds, .int z_t_measured], ob_ A_t_now 5 [.ref A_t_now_marsh, .ref A_t_now_crowd, .ref A_t_now_sights], ob_ A_t_now_marsh 2 [.ref A_t_now_marsh_codes], ia_ G A_t_now_marsh_codes 144 c_t_now_marsh_codes, ob_ A_t_now_crowd 0 [.int c_t_now_crowd_there, .int c_t_now_crowd_foggy, .ref A_t_now_crowd_at, .ref A_t_now_crowd_home, .ref A_t_now_crowd_light, .ref A_t_now_crowd_carries, .ref A_t_now_crowd_bearer], ia_ G A_t_now_crowd_at 6 c_t_now_crowd_at, ia_ G A_t_now_crowd_light 6 c_t_now_crowd_light, ob_ A_t_now_sights 6 [.int c_t_now_sights_count, .ref A_t_now_sights_places, .ref A_t_now_sights_lights], ia_ G A_t_now_sights_places 8 c_t_now_sights_places, ia_ G A_t_now_sights_lights 8 c_t_now_sights_lights, ob_ A_t_ways 8 [.ref A_t_ways_planks, .ref A_t_ways_least, .ref A_t_ways_neighbours], ia_ G A_t_ways_planks 144 z_t_ways_planks, ia_ G A_t_ways_least 144 z_t_ways_least, ia_ G A_t_ways_neighbours 12 z_t_ways_neighbours] H locs → W p l e { frames := 4, cells := 0, slots := 0, locals := 94 } s m args below meth c H locs 0 0 Q (F0 m pc ls [.int r])) (hf : fn_X9_whose c_t_measured c_t_now_marsh_codes c_t_now_crowd_there c_t_now_crowd_foggy c_t_now_crowd_at c_t_now_crowd_light c_t_now_sights_count c_t_now_sights_places c_t_now_sights_lights c_t_ways_planks c_t_ways_least c_t_ways_neighbours = some (r, z_t_measured, z_t_ways_planks, z_t_ways_least, z_t_ways_neighbours)) {H : Heap} {locs : List Loc} {ls : Array Slot} (hl : lv_has ls 1 [(0, .ref A_t)]) (hw : wd_ G A s.heap [ob_ A_t 9 [.ref A_t_now, .ref A_t_images, .ref A_t_pad, .ref A_t_evening, .ref A_t_ways, .ref A_t_tour, .ref A_t_odds, .int c_t_measured], ob_ A_t_now 5 [.ref A_t_now_marsh, .ref A_t_now_crowd, .ref A_t_now_sights], ob_ A_t_now_marsh 2 [.ref A_t_now_marsh_codes], ia_ G A_t_now_marsh_codes 144 c_t_now_marsh_codes, ob_ A_t_now_crowd 0 [.int c_t_now_crowd_there, .int c_t_now_crowd_foggy, .ref A_t_now_crowd_at, .ref A_t_now_crowd_home, .ref A_t_now_crowd_light, .ref A_t_now_crowd_carries, .ref A_t_now_crowd_bearer], ia_ G A_t_now_crowd_at 6 c_t_now_crowd_at, ia_ G A_t_now_crowd_light 6 c_t_now_crowd_light, ob_ A_t_now_sights 6 [.int c_t_now_sights_count, .ref A_t_now_sights_places, .ref A_t_now_sights_lights], ia_ G A_t_now_sights_places 8 c_t_now_sights_places, ia_ G A_t_now_sights_lights 8 c_t_now_sights_lights, ob_ A_t_ways 8 [.ref A_t_ways_planks, .ref A_t_ways_least, .ref A_t_ways_neighbours], ia_ G A_t_ways_planks 144 c_t_ways_planks, ia_ G A_t_ways_least 144 c_t_ways_least, ia_ G A_t_ways_neighbours 12 c_t_ways_neighbours] H locs) : W p l e { frames := 4, cells := 0, slots := 0, locals := 94 } s m args below meth c H locs 0 0 Q (F0 m 0 ls []) := by
  have hx := hC.1
  have hb := hC.2.1
  unfold fn_X9_whose at hf
  refine lv_aload_n hx hb dX9_whose_0 rfl (lv_at hl 0 rfl) ?_
  obtain ⟨w1, w2, w3, w4, hq5, hf⟩ := b4_s hf
  refine g_cVv hC hw mvX9_155 (cn_X9_measure l G A_t A_t_now A_t_images A_t_pad A_t_evening A_t_ways A_t_tour A_t_odds A_t_now_marsh A_t_now_crowd A_t_now_sights A_t_now_marsh_codes A_t_now_crowd_at A_t_now_crowd_home A_t_now_crowd_light A_t_now_crowd_carries A_t_now_crowd_bearer A_t_ways_planks A_t_ways_least A_t_ways_neighbours c_t_measured c_t_now_marsh_codes c_t_now_crowd_there c_t_now_crowd_foggy c_t_ways_planks c_t_ways_least c_t_ways_neighbours w1 w2 w3 w4 hq5) [0, 1, 2, 3, 4, 10, 11, 12, 13] rfl (by decide) rfl 0 rfl rfl rfl hl.1 rfl (Nat.le_of_ble_eq_true rfl) ⟨Nat.le_of_ble_eq_true rfl, Nat.le_of_ble_eq_true rfl⟩ ⟨Nat.le_refl _, Nat.le_refl _⟩ dX9_whose_1 (fun H locs hw => ?_)
  have hw : wd_ G A s.heap [ob_ A_t 9 [.ref A_t_now, .ref A_t_images, .ref A_t_pad, .ref A_t_evening, .ref A_t_ways, .ref A_t_tour, .ref A_t_odds, .int w1], ob_ A_t_now 5 [.ref A_t_now_marsh, .ref A_t_now_crowd, .ref A_t_now_sights], ob_ A_t_now_marsh 2 [.ref A_t_now_marsh_codes], ia_ G A_t_now_marsh_codes 144 c_t_now_marsh_codes, ob_ A_t_now_crowd 0 [.int c_t_now_crowd_there, .int c_t_now_crowd_foggy, .ref A_t_now_crowd_at, .ref A_t_now_crowd_home, .ref A_t_now_crowd_light, .ref A_t_now_crowd_carries, .ref A_t_now_crowd_bearer], ia_ G A_t_now_crowd_at 6 c_t_now_crowd_at, ia_ G A_t_now_crowd_light 6 c_t_now_crowd_light, ob_ A_t_now_sights 6 [.int c_t_now_sights_count, .ref A_t_now_sights_places, .ref A_t_now_sights_lights], ia_ G A_t_now_sights_places 8 c_t_now_sights_places, ia_ G A_t_now_sights_lights 8 c_t_now_sights_lights, ob_ A_t_ways 8 [.ref A_t_ways_planks, .ref A_t_ways_least, .ref A_t_ways_neighbours], ia_ G A_t_ways_planks 144 w2, ia_ G A_t_ways_least 144 w3, ia_ G A_t_ways_neighbours 12 w4] H locs := hw
  refine lv_aload_n hx hb dX9_whose_4 rfl (lv_at hl 0 rfl) ?_
  refine g_get hC hw fkX9_12 0 rfl rfl dX9_whose_5 ?_
  refine g_get hC hw fkX9_219 1 rfl rfl dX9_whose_8 ?_
  refine lv_aload_n hx hb dX9_whose_11 rfl (lv_at hl 0 rfl) ?_
  refine g_get hC hw fkX9_12 0 rfl rfl dX9_whose_12 ?_
  refine g_get hC hw fkX9_81 1 rfl rfl dX9_whose_15 ?_
  refine lv_aload_n hx hb dX9_whose_18 rfl (lv_at hl 0 rfl) ?_
  refine g_get hC hw fkX9_37 0 rfl rfl dX9_whose_19 ?_
  obtain ⟨r6, hq7, hf⟩ := b1_s hf
  refine g_cVi hC hw mvX9_230 (cn_X6_fitting l G A_t_now_sights A_t_now_sights_places A_t_now_sights_lights A_t_now_crowd A_t_now_crowd_at A_t_now_crowd_home A_t_now_crowd_light A_t_now_crowd_carries A_t_now_crowd_bearer A_t_ways A_t_ways_planks A_t_ways_least A_t_ways_neighbours c_t_now_sights_count c_t_now_sights_places c_t_now_sights_lights c_t_now_crowd_there c_t_now_crowd_foggy c_t_now_crowd_at c_t_now_crowd_light w3 r6 hq7) [7, 8, 9, 4, 5, 6, 10, 12] rfl (by decide) rfl 7 rfl rfl rfl hl.1 rfl (Nat.le_of_ble_eq_true rfl) ⟨Nat.le_of_ble_eq_true rfl, Nat.le_of_ble_eq_true rfl⟩ ⟨Nat.le_refl _, Nat.le_refl _⟩ dX9_whose_22 (fun H locs hw => ?_)
  have hw : wd_ G A s.heap [ob_ A_t 9 [.ref A_t_now, .ref A_t_images, .ref A_t_pad, .ref A_t_evening, .ref A_t_ways, .ref A_t_tour, .ref A_t_odds, .int w1], ob_ A_t_now 5 [.ref A_t_now_marsh, .ref A_t_now_crowd, .ref A_t_now_sights], ob_ A_t_now_marsh 2 [.ref A_t_now_marsh_codes], ia_ G A_t_now_marsh_codes 144 c_t_now_marsh_codes, ob_ A_t_now_crowd 0 [.int c_t_now_crowd_there, .int c_t_now_crowd_foggy, .ref A_t_now_crowd_at, .ref A_t_now_crowd_home, .ref A_t_now_crowd_light, .ref A_t_now_crowd_carries, .ref A_t_now_crowd_bearer], ia_ G A_t_now_crowd_at 6 c_t_now_crowd_at, ia_ G A_t_now_crowd_light 6 c_t_now_crowd_light, ob_ A_t_now_sights 6 [.int c_t_now_sights_count, .ref A_t_now_sights_places, .ref A_t_now_sights_lights], ia_ G A_t_now_sights_places 8 c_t_now_sights_places, ia_ G A_t_now_sights_lights 8 c_t_now_sights_lights, ob_ A_t_ways 8 [.ref A_t_ways_planks, .ref A_t_ways_least, .ref A_t_ways_neighbours], ia_ G A_t_ways_planks 144 w2, ia_ G A_t_ways_least 144 w3, ia_ G A_t_ways_neighbours 12 w4] H locs := hw
  cases hf
  exact hret _ _ _ _ dX9_whose_25 hw
set_option maxHeartbeats 4000000 in
set_option maxRecDepth 100000 in
theorem cn_X9_whose (l : Launch) (G : gw_) (A_t : Nat) (A_t_now : Nat) (A_t_images : Nat) (A_t_pad : Nat) (A_t_evening : Nat) (A_t_ways : Nat) (A_t_tour : Nat) (A_t_odds : Nat) (A_t_now_marsh : Nat) (A_t_now_crowd : Nat) (A_t_now_sights : Nat) (A_t_now_marsh_codes : Nat) (A_t_now_crowd_at : Nat) (A_t_now_crowd_home : Nat) (A_t_now_crowd_light : Nat) (A_t_now_crowd_carries : Nat) (A_t_now_crowd_bearer : Nat) (A_t_now_sights_places : Nat) (A_t_now_sights_lights : Nat) (A_t_ways_planks : Nat) (A_t_ways_least : Nat) (A_t_ways_neighbours : Nat) (c_t_measured : Int32) (c_t_now_marsh_codes : Nat → Int32) (c_t_now_crowd_there : Int32) (c_t_now_crowd_foggy : Int32) (c_t_now_crowd_at : Nat → Int32) (c_t_now_crowd_light : Nat → Int32) (c_t_now_sights_count : Int32) (c_t_now_sights_places : Nat → Int32) (c_t_now_sights_lights : Nat → Int32) (c_t_ways_planks : Nat → Int32) (c_t_ways_least : Nat → Int32) (c_t_ways_neighbours : Nat → Int32) (r : Int32) (z_t_measured : Int32) (z_t_ways_planks : Nat → Int32) (z_t_ways_least : Nat → Int32) (z_t_ways_neighbours : Nat → Int32) (hf : fn_X9_whose c_t_measured c_t_now_marsh_codes c_t_now_crowd_there c_t_now_crowd_foggy c_t_now_crowd_at c_t_now_crowd_light c_t_now_sights_count c_t_now_sights_places c_t_now_sights_lights c_t_ways_planks c_t_ways_least c_t_ways_neighbours = some (r, z_t_measured, z_t_ways_planks, z_t_ways_least, z_t_ways_neighbours)) : ci_ l G yX9_whose cX9_whose 1 (some .int) 4 94 [ob_ A_t 9 [.ref A_t_now, .ref A_t_images, .ref A_t_pad, .ref A_t_evening, .ref A_t_ways, .ref A_t_tour, .ref A_t_odds, .int c_t_measured], ob_ A_t_now 5 [.ref A_t_now_marsh, .ref A_t_now_crowd, .ref A_t_now_sights], ob_ A_t_now_marsh 2 [.ref A_t_now_marsh_codes], ia_ G A_t_now_marsh_codes 144 c_t_now_marsh_codes, ob_ A_t_now_crowd 0 [.int c_t_now_crowd_there, .int c_t_now_crowd_foggy, .ref A_t_now_crowd_at, .ref A_t_now_crowd_home, .ref A_t_now_crowd_light, .ref A_t_now_crowd_carries, .ref A_t_now_crowd_bearer], ia_ G A_t_now_crowd_at 6 c_t_now_crowd_at, ia_ G A_t_now_crowd_light 6 c_t_now_crowd_light, ob_ A_t_now_sights 6 [.int c_t_now_sights_count, .ref A_t_now_sights_places, .ref A_t_now_sights_lights], ia_ G A_t_now_sights_places 8 c_t_now_sights_places, ia_ G A_t_now_sights_lights 8 c_t_now_sights_lights, ob_ A_t_ways 8 [.ref A_t_ways_planks, .ref A_t_ways_least, .ref A_t_ways_neighbours], ia_ G A_t_ways_planks 144 c_t_ways_planks, ia_ G A_t_ways_least 144 c_t_ways_least, ia_ G A_t_ways_neighbours 12 c_t_ways_neighbours] [.ref A_t] r [ob_ A_t 9 [.ref A_t_now, .ref A_t_images, .ref A_t_pad, .ref A_t_evening, .ref A_t_ways, .ref A_t_tour, .ref A_t_odds, .int z_t_measured], ob_ A_t_now 5 [.ref A_t_now_marsh, .ref A_t_now_crowd, .ref A_t_now_sights], ob_ A_t_now_marsh 2 [.ref A_t_now_marsh_codes], ia_ G A_t_now_marsh_codes 144 c_t_now_marsh_codes, ob_ A_t_now_crowd 0 [.int c_t_now_crowd_there, .int c_t_now_crowd_foggy, .ref A_t_now_crowd_at, .ref A_t_now_crowd_home, .ref A_t_now_crowd_light, .ref A_t_now_crowd_carries, .ref A_t_now_crowd_bearer], ia_ G A_t_now_crowd_at 6 c_t_now_crowd_at, ia_ G A_t_now_crowd_light 6 c_t_now_crowd_light, ob_ A_t_now_sights 6 [.int c_t_now_sights_count, .ref A_t_now_sights_places, .ref A_t_now_sights_lights], ia_ G A_t_now_sights_places 8 c_t_now_sights_places, ia_ G A_t_now_sights_lights 8 c_t_now_sights_lights, ob_ A_t_ways 8 [.ref A_t_ways_planks, .ref A_t_ways_least, .ref A_t_ways_neighbours], ia_ G A_t_ways_planks 144 z_t_ways_planks, ia_ G A_t_ways_least 144 z_t_ways_least, ia_ G A_t_ways_neighbours 12 z_t_ways_neighbours] := fun sz => met_intro (by decide) (Nat.le_of_ble_eq_true rfl) (fun p e s m args below meth c ls hsz hC hr hlk hnm hl hw => wn_X9_whose hC (fun pc H locs ls hd hw => g_iret hC hr hlk hw rfl rfl hd) hf hl hw)

theorem dX9_ask_0 : decode cX9_ask 0 = .ok (.iload_n 1, 1) := by decide +kernel
theorem dX9_ask_1 : decode cX9_ask 1 = .ok (.iconst 0, 1) := by decide +kernel
theorem dX9_ask_2 : decode cX9_ask 2 = .ok (.iconst 1, 1) := by decide +kernel
theorem dX9_ask_3 : decode cX9_ask 3 = .ok (.invokestatic 63, 3) := by decide +kernel
theorem dX9_ask_6 : decode cX9_ask 6 = .ok (.ifCond .ne 6, 3) := by decide +kernel
theorem dX9_ask_9 : decode cX9_ask 9 = .ok (.bipush (-2), 2) := by decide +kernel
theorem dX9_ask_11 : decode cX9_ask 11 = .ok (.ireturn, 1) := by decide +kernel
theorem dX9_ask_12 : decode cX9_ask 12 = .ok (.aload_n 0, 1) := by decide +kernel
theorem dX9_ask_13 : decode cX9_ask 13 = .ok (.invokevirtual 155, 3) := by decide +kernel
theorem dX9_ask_16 : decode cX9_ask 16 = .ok (.aload_n 0, 1) := by decide +kernel
theorem dX9_ask_17 : decode cX9_ask 17 = .ok (.getfield 12, 3) := by decide +kernel
theorem dX9_ask_20 : decode cX9_ask 20 = .ok (.getfield 219, 3) := by decide +kernel
theorem dX9_ask_23 : decode cX9_ask 23 = .ok (.aload_n 0, 1) := by decide +kernel
theorem dX9_ask_24 : decode cX9_ask 24 = .ok (.getfield 12, 3) := by decide +kernel
theorem dX9_ask_27 : decode cX9_ask 27 = .ok (.getfield 81, 3) := by decide +kernel
theorem dX9_ask_30 : decode cX9_ask 30 = .ok (.aload_n 0, 1) := by decide +kernel
theorem dX9_ask_31 : decode cX9_ask 31 = .ok (.getfield 37, 3) := by decide +kernel
theorem dX9_ask_34 : decode cX9_ask 34 = .ok (.invokevirtual 230, 3) := by decide +kernel
theorem dX9_ask_37 : decode cX9_ask 37 = .ok (.istore_n 2, 1) := by decide +kernel
theorem dX9_ask_38 : decode cX9_ask 38 = .ok (.iload_n 2, 1) := by decide +kernel
theorem dX9_ask_39 : decode cX9_ask 39 = .ok (.ifCond .ne 6, 3) := by decide +kernel
theorem dX9_ask_42 : decode cX9_ask 42 = .ok (.bipush (-6), 2) := by decide +kernel
theorem dX9_ask_44 : decode cX9_ask 44 = .ok (.ireturn, 1) := by decide +kernel
theorem dX9_ask_45 : decode cX9_ask 45 = .ok (.aload_n 0, 1) := by decide +kernel
theorem dX9_ask_46 : decode cX9_ask 46 = .ok (.getfield 12, 3) := by decide +kernel
theorem dX9_ask_49 : decode cX9_ask 49 = .ok (.getfield 81, 3) := by decide +kernel
theorem dX9_ask_52 : decode cX9_ask 52 = .ok (.aload_n 0, 1) := by decide +kernel
theorem dX9_ask_53 : decode cX9_ask 53 = .ok (.getfield 37, 3) := by decide +kernel
theorem dX9_ask_56 : decode cX9_ask 56 = .ok (.iload_n 2, 1) := by decide +kernel
theorem dX9_ask_57 : decode cX9_ask 57 = .ok (.invokestatic 234, 3) := by decide +kernel
theorem dX9_ask_60 : decode cX9_ask 60 = .ok (.istore_n 3, 1) := by decide +kernel
theorem dX9_ask_61 : decode cX9_ask 61 = .ok (.iload_n 1, 1) := by decide +kernel
theorem dX9_ask_62 : decode cX9_ask 62 = .ok (.ifCond .ne 7, 3) := by decide +kernel
theorem dX9_ask_65 : decode cX9_ask 65 = .ok (.iload_n 3, 1) := by decide +kernel
theorem dX9_ask_66 : decode cX9_ask 66 = .ok (.goto 19, 3) := by decide +kernel
theorem dX9_ask_69 : decode cX9_ask 69 = .ok (.aload_n 0, 1) := by decide +kernel
theorem dX9_ask_70 : decode cX9_ask 70 = .ok (.getfield 12, 3) := by decide +kernel
theorem dX9_ask_73 : decode cX9_ask 73 = .ok (.getfield 81, 3) := by decide +kernel
theorem dX9_ask_76 : decode cX9_ask 76 = .ok (.aload_n 0, 1) := by decide +kernel
theorem dX9_ask_77 : decode cX9_ask 77 = .ok (.getfield 37, 3) := by decide +kernel
theorem dX9_ask_80 : decode cX9_ask 80 = .ok (.iload_n 2, 1) := by decide +kernel
theorem dX9_ask_81 : decode cX9_ask 81 = .ok (.iload_n 3, 1) := by decide +kernel
theorem dX9_ask_82 : decode cX9_ask 82 = .ok (.invokestatic 238, 3) := by decide +kernel
theorem dX9_ask_85 : decode cX9_ask 85 = .ok (.ireturn, 1) := by decide +kernel
def fn_X9_ask (c_t_measured : Int32) (c_t_now_marsh_codes : Nat → Int32) (c_t_now_crowd_there : Int32) (c_t_now_crowd_foggy : Int32) (c_t_now_crowd_at : Nat → Int32) (c_t_now_crowd_light : Nat → Int32) (c_t_now_sights_count : Int32) (c_t_now_sights_places : Nat → Int32) (c_t_now_sights_lights : Nat → Int32) (c_t_ways_planks : Nat → Int32) (c_t_ways_least : Nat → Int32) (c_t_ways_neighbours : Nat → Int32) (x1 : Int32) : Option (Int32 × Int32 × (Nat → Int32) × (Nat → Int32) × (Nat → Int32)) :=
  b1_ (fn_X9_isWithin x1 0 1) fun r1 =>
  if r1 = 0 then
    some ((-2), c_t_measured, c_t_ways_planks, c_t_ways_least, c_t_ways_neighbours)
  else
    b4_ (fn_X9_measure c_t_measured c_t_now_marsh_codes c_t_now_crowd_foggy c_t_ways_planks c_t_ways_least c_t_ways_neighbours) fun w3 w4 w5 w6 =>
    b1_ (fn_X6_fitting c_t_now_sights_count c_t_now_sights_places c_t_now_sights_lights c_t_now_crowd_there c_t_now_crowd_at c_t_now_crowd_light w5) fun r8 =>
    if r8 = 0 then
      some ((-6), w3, w4, w5, w6)
    else
      b1_ (fn_X6_bestQuestion c_t_now_crowd_at c_t_now_crowd_light w5 r8) fun r10 =>
      if x1 = 0 then
        some (r10, w3, w4, w5, w6)
      else
        b1_ (fn_X6_mostAlike c_t_now_crowd_at c_t_now_crowd_light w5 r8 r10) fun r12 =>
        some (r12, w3, w4, w5, w6)
set_option maxHeartbeats 4000000 in
set_option maxRecDepth 100000 in
theorem wn_X9_ask {p : Program} {l : Launch} {e : Env} {s : State} {m : MethodId} {args : Array Value} {below : List Frame} {meth : Method} {c : Code} {G : gw_} {A : Nat → Prop} {Q : State → Prop} {A_t : Nat} {A_t_now : Nat} {A_t_images : Nat} {A_t_pad : Nat} {A_t_evening : Nat} {A_t_ways : Nat} {A_t_tour : Nat} {A_t_odds : Nat} {A_t_now_marsh : Nat} {A_t_now_crowd : Nat} {A_t_now_sights : Nat} {A_t_now_marsh_codes : Nat} {A_t_now_crowd_at : Nat} {A_t_now_crowd_home : Nat} {A_t_now_crowd_light : Nat} {A_t_now_crowd_carries : Nat} {A_t_now_crowd_bearer : Nat} {A_t_now_sights_places : Nat} {A_t_now_sights_lights : Nat} {A_t_ways_planks : Nat} {A_t_ways_least : Nat} {A_t_ways_neighbours : Nat} {c_t_measured : Int32} {z_t_measured : Int32} {c_t_now_marsh_codes : Nat → Int32} {c_t_now_crowd_there : Int32} {c_t_now_crowd_foggy : Int32} {c_t_now_crowd_at : Nat → Int32} {c_t_now_crowd_light : Nat → Int32} {c_t_now_sights_count : Int32} {c_t_now_sights_places : Nat → Int32} {c_t_now_sights_lights : Nat → Int32} {c_t_ways_planks : Nat → Int32} {z_t_ways_planks : Nat → Int32} {c_t_ways_least : Nat → Int32} {z_t_ways_least : Nat → Int32} {c_t_ways_neighbours : Nat → Int32} {z_t_ways_neighbours : Nat → Int32} {r : Int32} {x1 : Int32} (hC : cx_ p s m c G cX9_ask 4 RX9) (hret : ∀ (pc : Nat) (H : Heap) (locs : List Loc) (ls : Array Slot), decode cX9_ask pc = .ok (.ireturn, 1) → wd_ G A s.heap [ob_ A_t 9 [.ref A_t_now, .ref A_t_images, .ref A_t_pad, .ref A_t_evening, .ref A_t_ways, .ref A_t_tour, .ref A_t_odds, .int z_t_measured], ob_ A_t_now 5 [.ref A_t_now_marsh, .ref A_t_now_crowd, .ref A_t_now_sights], ob_ A_t_now_marsh 2 [.ref A_t_now_marsh_codes], ia_ G A_t_now_marsh_codes 144 c_t_now_marsh_codes, ob_ A_t_now_crowd 0 [.int c_t_now_crowd_there, .int c_t_now_crowd_foggy, .ref A_t_now_crowd_at, .ref A_t_now_crowd_home, .ref A_t_now_crowd_light, .ref A_t_now_crowd_carries, .ref A_t_now_crowd_bearer], ia_ G A_t_now_crowd_at 6 c_t_now_crowd_at, ia_ G A_t_now_crowd_light 6 c_t_now_crowd_light, ob_ A_t_now_sights 6 [.int c_t_now_sights_count, .ref A_t_now_sights_places, .ref A_t_now_sights_lights], ia_ G A_t_now_sights_places 8 c_t_now_sights_places, ia_ G A_t_now_sights_lights 8 c_t_now_sights_lights, ob_ A_t_ways 8 [.ref A_t_ways_planks, .ref A_t_ways_least, .ref A_t_ways_neighbours], ia_ G A_t_ways_planks 144 z_t_ways_planks, ia_ G A_t_ways_least 144 z_t_ways_least, ia_ G A_t_ways_neighbours 12 z_t_ways_neighbours] H locs → W p l e { frames := 5, cells := 0, slots := 0, locals := 124 } s m args below meth c H locs 0 0 Q (F0 m pc ls [.int r])) (hf : fn_X9_ask c_t_measured c_t_now_marsh_codes c_t_now_crowd_there c_t_now_crowd_foggy c_t_now_crowd_at c_t_now_crowd_light c_t_now_sights_count c_t_now_sights_places c_t_now_sights_lights c_t_ways_planks c_t_ways_least c_t_ways_neighbours x1 = some (r, z_t_measured, z_t_ways_planks, z_t_ways_least, z_t_ways_neighbours)) {H : Heap} {locs : List Loc} {ls : Array Slot} (hl : lv_has ls 4 [(0, .ref A_t), (1, .int x1)]) (hw : wd_ G A s.heap [ob_ A_t 9 [.ref A_t_now, .ref A_t_images, .ref A_t_pad, .ref A_t_evening, .ref A_t_ways, .ref A_t_tour, .ref A_t_odds, .int c_t_measured], ob_ A_t_now 5 [.ref A_t_now_marsh, .ref A_t_now_crowd, .ref A_t_now_sights], ob_ A_t_now_marsh 2 [.ref A_t_now_marsh_codes], ia_ G A_t_now_marsh_codes 144 c_t_now_marsh_codes, ob_ A_t_now_crowd 0 [.int c_t_now_crowd_there, .int c_t_now_crowd_foggy, .ref A_t_now_crowd_at, .ref A_t_now_crowd_home, .ref A_t_now_crowd_light, .ref A_t_now_crowd_carries, .ref A_t_now_crowd_bearer], ia_ G A_t_now_crowd_at 6 c_t_now_crowd_at, ia_ G A_t_now_crowd_light 6 c_t_now_crowd_light, ob_ A_t_now_sights 6 [.int c_t_now_sights_count, .ref A_t_now_sights_places, .ref A_t_now_sights_lights], ia_ G A_t_now_sights_places 8 c_t_now_sights_places, ia_ G A_t_now_sights_lights 8 c_t_now_sights_lights, ob_ A_t_ways 8 [.ref A_t_ways_planks, .ref A_t_ways_least, .ref A_t_ways_neighbours], ia_ G A_t_ways_planks 144 c_t_ways_planks, ia_ G A_t_ways_least 144 c_t_ways_least, ia_ G A_t_ways_neighbours 12 c_t_ways_neighbours] H locs) : W p l e { frames := 5, cells := 0, slots := 0, locals := 124 } s m args below meth c H locs 0 0 Q (F0 m 0 ls []) := by
  have hx := hC.1
  have hb := hC.2.1
  unfold fn_X9_ask at hf
  refine lv_iload_n hx hb dX9_ask_0 rfl (lv_at hl 1 rfl) ?_
  refine lv_iconst (v := 0) hx hb dX9_ask_1 (by decide) ?_
  refine lv_iconst (v := 1) hx hb dX9_ask_2 (by decide) ?_
  obtain ⟨r1, hq2, hf⟩ := b1_s hf
  refine g_cSi hC hw msX9_63 (cn_X9_isWithin l G x1 0 1 r1 hq2) [] rfl (by decide) rfl rfl hl.1 rfl (Nat.le_of_ble_eq_true rfl) ⟨Nat.le_of_ble_eq_true rfl, Nat.le_of_ble_eq_true rfl⟩ ⟨Nat.le_refl _, Nat.le_refl _⟩ dX9_ask_3 (fun H locs hw => ?_)
  have hw : wd_ G A s.heap [ob_ A_t 9 [.ref A_t_now, .ref A_t_images, .ref A_t_pad, .ref A_t_evening, .ref A_t_ways, .ref A_t_tour, .ref A_t_odds, .int c_t_measured], ob_ A_t_now 5 [.ref A_t_now_marsh, .ref A_t_now_crowd, .ref A_t_now_sights], ob_ A_t_now_marsh 2 [.ref A_t_now_marsh_codes], ia_ G A_t_now_marsh_codes 144 c_t_now_marsh_codes, ob_ A_t_now_crowd 0 [.int c_t_now_crowd_there, .int c_t_now_crowd_foggy, .ref A_t_now_crowd_at, .ref A_t_now_crowd_home, .ref A_t_now_crowd_light, .ref A_t_now_crowd_carries, .ref A_t_now_crowd_bearer], ia_ G A_t_now_crowd_at 6 c_t_now_crowd_at, ia_ G A_t_now_crowd_light 6 c_t_now_crowd_light, ob_ A_t_now_sights 6 [.int c_t_now_sights_count, .ref A_t_now_sights_places, .ref A_t_now_sights_lights], ia_ G A_t_now_sights_places 8 c_t_now_sights_places, ia_ G A_t_now_sights_lights 8 c_t_now_sights_lights, ob_ A_t_ways 8 [.ref A_t_ways_planks, .ref A_t_ways_least, .ref A_t_ways_neighbours], ia_ G A_t_ways_planks 144 c_t_ways_planks, ia_ G A_t_ways_least 144 c_t_ways_least, ia_ G A_t_ways_neighbours 12 c_t_ways_neighbours] H locs := hw
  refine lv_if_ne (tgt := 12) hx hb dX9_ask_6 (by decide) (fun hc => ?_) (fun hc => ?_)
  · replace hf := it_f hc hf
    refine lv_aload_n hx hb dX9_ask_12 rfl (lv_at hl 0 rfl) ?_
    obtain ⟨w3, w4, w5, w6, hq7, hf⟩ := b4_s hf
    refine g_cVv hC hw mvX9_155 (cn_X9_measure l G A_t A_t_now A_t_images A_t_pad A_t_evening A_t_ways A_t_tour A_t_odds A_t_now_marsh A_t_now_crowd A_t_now_sights A_t_now_marsh_codes A_t_now_crowd_at A_t_now_crowd_home A_t_now_crowd_light A_t_now_crowd_carries A_t_now_crowd_bearer A_t_ways_planks A_t_ways_least A_t_ways_neighbours c_t_measured c_t_now_marsh_codes c_t_now_crowd_there c_t_now_crowd_foggy c_t_ways_planks c_t_ways_least c_t_ways_neighbours w3 w4 w5 w6 hq7) [0, 1, 2, 3, 4, 10, 11, 12, 13] rfl (by decide) rfl 0 rfl rfl rfl hl.1 rfl (Nat.le_of_ble_eq_true rfl) ⟨Nat.le_of_ble_eq_true rfl, Nat.le_of_ble_eq_true rfl⟩ ⟨Nat.le_refl _, Nat.le_refl _⟩ dX9_ask_13 (fun H locs hw => ?_)
    have hw : wd_ G A s.heap [ob_ A_t 9 [.ref A_t_now, .ref A_t_images, .ref A_t_pad, .ref A_t_evening, .ref A_t_ways, .ref A_t_tour, .ref A_t_odds, .int w3], ob_ A_t_now 5 [.ref A_t_now_marsh, .ref A_t_now_crowd, .ref A_t_now_sights], ob_ A_t_now_marsh 2 [.ref A_t_now_marsh_codes], ia_ G A_t_now_marsh_codes 144 c_t_now_marsh_codes, ob_ A_t_now_crowd 0 [.int c_t_now_crowd_there, .int c_t_now_crowd_foggy, .ref A_t_now_crowd_at, .ref A_t_now_crowd_home, .ref A_t_now_crowd_light, .ref A_t_now_crowd_carries, .ref A_t_now_crowd_bearer], ia_ G A_t_now_crowd_at 6 c_t_now_crowd_at, ia_ G A_t_now_crowd_light 6 c_t_now_crowd_light, ob_ A_t_now_sights 6 [.int c_t_now_sights_count, .ref A_t_now_sights_places, .ref A_t_now_sights_lights], ia_ G A_t_now_sights_places 8 c_t_now_sights_places, ia_ G A_t_now_sights_lights 8 c_t_now_sights_lights, ob_ A_t_ways 8 [.ref A_t_ways_planks, .ref A_t_ways_least, .ref A_t_ways_neighbours], ia_ G A_t_ways_planks 144 w4, ia_ G A_t_ways_least 144 w5, ia_ G A_t_ways_neighbours 12 w6] H locs := hw
    refine lv_aload_n hx hb dX9_ask_16 rfl (lv_at hl 0 rfl) ?_
    refine g_get hC hw fkX9_12 0 rfl rfl dX9_ask_17 ?_
    refine g_get hC hw fkX9_219 1 rfl rfl dX9_ask_20 ?_
    refine lv_aload_n hx hb dX9_ask_23 rfl (lv_at hl 0 rfl) ?_
    refine g_get hC hw fkX9_12 0 rfl rfl dX9_ask_24 ?_
    refine g_get hC hw fkX9_81 1 rfl rfl dX9_ask_27 ?_
    refine lv_aload_n hx hb dX9_ask_30 rfl (lv_at hl 0 rfl) ?_
    refine g_get hC hw fkX9_37 0 rfl rfl dX9_ask_31 ?_
    obtain ⟨r8, hq9, hf⟩ := b1_s hf
    refine g_cVi hC hw mvX9_230 (cn_X6_fitting l G A_t_now_sights A_t_now_sights_places A_t_now_sights_lights A_t_now_crowd A_t_now_crowd_at A_t_now_crowd_home A_t_now_crowd_light A_t_now_crowd_carries A_t_now_crowd_bearer A_t_ways A_t_ways_planks A_t_ways_least A_t_ways_neighbours c_t_now_sights_count c_t_now_sights_places c_t_now_sights_lights c_t_now_crowd_there c_t_now_crowd_foggy c_t_now_crowd_at c_t_now_crowd_light w5 r8 hq9) [7, 8, 9, 4, 5, 6, 10, 12] rfl (by decide) rfl 7 rfl rfl rfl hl.1 rfl (Nat.le_of_ble_eq_true rfl) ⟨Nat.le_of_ble_eq_true rfl, Nat.le_of_ble_eq_true rfl⟩ ⟨Nat.le_refl _, Nat.le_refl _⟩ dX9_ask_34 (fun H locs hw => ?_)
    have hw : wd_ G A s.heap [ob_ A_t 9 [.ref A_t_now, .ref A_t_images, .ref A_t_pad, .ref A_t_evening, .ref A_t_ways, .ref A_t_tour, .ref A_t_odds, .int w3], ob_ A_t_now 5 [.ref A_t_now_marsh, .ref A_t_now_crowd, .ref A_t_now_sights], ob_ A_t_now_marsh 2 [.ref A_t_now_marsh_codes], ia_ G A_t_now_marsh_codes 144 c_t_now_marsh_codes, ob_ A_t_now_crowd 0 [.int c_t_now_crowd_there, .int c_t_now_crowd_foggy, .ref A_t_now_crowd_at, .ref A_t_now_crowd_home, .ref A_t_now_crowd_light, .ref A_t_now_crowd_carries, .ref A_t_now_crowd_bearer], ia_ G A_t_now_crowd_at 6 c_t_now_crowd_at, ia_ G A_t_now_crowd_light 6 c_t_now_crowd_light, ob_ A_t_now_sights 6 [.int c_t_now_sights_count, .ref A_t_now_sights_places, .ref A_t_now_sights_lights], ia_ G A_t_now_sights_places 8 c_t_now_sights_places, ia_ G A_t_now_sights_lights 8 c_t_now_sights_lights, ob_ A_t_ways 8 [.ref A_t_ways_planks, .ref A_t_ways_least, .ref A_t_ways_neighbours], ia_ G A_t_ways_planks 144 w4, ia_ G A_t_ways_least 144 w5, ia_ G A_t_ways_neighbours 12 w6] H locs := hw
    refine lv_istore_n (lv' := [(2, .int r8), (0, .ref A_t), (1, .int x1)]) hx hb dX9_ask_37 rfl hl (by decide) rfl (fun ls hl => ?_)
    refine lv_iload_n hx hb dX9_ask_38 rfl (lv_at hl 0 rfl) ?_
    refine lv_if_ne (tgt := 45) hx hb dX9_ask_39 (by decide) (fun hc => ?_) (fun hc => ?_)
    · replace hf := it_f hc hf
      refine lv_aload_n hx hb dX9_ask_45 rfl (lv_at hl 1 rfl) ?_
      refine g_get hC hw fkX9_12 0 rfl rfl dX9_ask_46 ?_
      refine g_get hC hw fkX9_81 1 rfl rfl dX9_ask_49 ?_
      refine lv_aload_n hx hb dX9_ask_52 rfl (lv_at hl 1 rfl) ?_
      refine g_get hC hw fkX9_37 0 rfl rfl dX9_ask_53 ?_
      refine lv_iload_n hx hb dX9_ask_56 rfl (lv_at hl 0 rfl) ?_
      obtain ⟨r10, hq11, hf⟩ := b1_s hf
      refine g_cSi hC hw msX9_234 (cn_X6_bestQuestion l G A_t_now_crowd A_t_now_crowd_at A_t_now_crowd_home A_t_now_crowd_light A_t_now_crowd_carries A_t_now_crowd_bearer A_t_ways A_t_ways_planks A_t_ways_least A_t_ways_neighbours c_t_now_crowd_there c_t_now_crowd_foggy c_t_now_crowd_at c_t_now_crowd_light w5 r8 r10 hq11) [4, 5, 6, 10, 12] rfl (by decide) rfl rfl hl.1 rfl (Nat.le_of_ble_eq_true rfl) ⟨Nat.le_of_ble_eq_true rfl, Nat.le_of_ble_eq_true rfl⟩ ⟨Nat.le_refl _, Nat.le_refl _⟩ dX9_ask_57 (fun H locs hw => ?_)
      have hw : wd_ G A s.heap [ob_ A_t 9 [.ref A_t_now, .ref A_t_images, .ref A_t_pad, .ref A_t_evening, .ref A_t_ways, .ref A_t_tour, .ref A_t_odds, .int w3], ob_ A_t_now 5 [.ref A_t_now_marsh, .ref A_t_now_crowd, .ref A_t_now_sights], ob_ A_t_now_marsh 2 [.ref A_t_now_marsh_codes], ia_ G A_t_now_marsh_codes 144 c_t_now_marsh_codes, ob_ A_t_now_crowd 0 [.int c_t_now_crowd_there, .int c_t_now_crowd_foggy, .ref A_t_now_crowd_at, .ref A_t_now_crowd_home, .ref A_t_now_crowd_light, .ref A_t_now_crowd_carries, .ref A_t_now_crowd_bearer], ia_ G A_t_now_crowd_at 6 c_t_now_crowd_at, ia_ G A_t_now_crowd_light 6 c_t_now_crowd_light, ob_ A_t_now_sights 6 [.int c_t_now_sights_count, .ref A_t_now_sights_places, .ref A_t_now_sights_lights], ia_ G A_t_now_sights_places 8 c_t_now_sights_places, ia_ G A_t_now_sights_lights 8 c_t_now_sights_lights, ob_ A_t_ways 8 [.ref A_t_ways_planks, .ref A_t_ways_least, .ref A_t_ways_neighbours], ia_ G A_t_ways_planks 144 w4, ia_ G A_t_ways_least 144 w5, ia_ G A_t_ways_neighbours 12 w6] H locs := hw
      refine lv_istore_n (lv' := [(3, .int r10), (2, .int r8), (0, .ref A_t), (1, .int x1)]) hx hb dX9_ask_60 rfl hl (by decide) rfl (fun ls hl => ?_)
      refine lv_iload_n hx hb dX9_ask_61 rfl (lv_at hl 3 rfl) ?_
      refine lv_if_ne (tgt := 69) hx hb dX9_ask_62 (by decide) (fun hc => ?_) (fun hc => ?_)
      · replace hf := it_f hc hf
        refine lv_aload_n hx hb dX9_ask_69 rfl (lv_at hl 2 rfl) ?_
        refine g_get hC hw fkX9_12 0 rfl rfl dX9_ask_70 ?_
        refine g_get hC hw fkX9_81 1 rfl rfl dX9_ask_73 ?_
        refine lv_aload_n hx hb dX9_ask_76 rfl (lv_at hl 2 rfl) ?_
        refine g_get hC hw fkX9_37 0 rfl rfl dX9_ask_77 ?_
        refine lv_iload_n hx hb dX9_ask_80 rfl (lv_at hl 1 rfl) ?_
        refine lv_iload_n hx hb dX9_ask_81 rfl (lv_at hl 0 rfl) ?_
        obtain ⟨r12, hq13, hf⟩ := b1_s hf
        refine g_cSi hC hw msX9_238 (cn_X6_mostAlike l G A_t_now_crowd A_t_now_crowd_at A_t_now_crowd_home A_t_now_crowd_light A_t_now_crowd_carries A_t_now_crowd_bearer A_t_ways A_t_ways_planks A_t_ways_least A_t_ways_neighbours c_t_now_crowd_there c_t_now_crowd_foggy c_t_now_crowd_at c_t_now_crowd_light w5 r8 r10 r12 hq13) [4, 5, 6, 10, 12] rfl (by decide) rfl rfl hl.1 rfl (Nat.le_of_ble_eq_true rfl) ⟨Nat.le_of_ble_eq_true rfl, Nat.le_of_ble_eq_true rfl⟩ ⟨Nat.le_refl _, Nat.le_refl _⟩ dX9_ask_82 (fun H locs hw => ?_)
        have hw : wd_ G A s.heap [ob_ A_t 9 [.ref A_t_now, .ref A_t_images, .ref A_t_pad, .ref A_t_evening, .ref A_t_ways, .ref A_t_tour, .ref A_t_odds, .int w3], ob_ A_t_now 5 [.ref A_t_now_marsh, .ref A_t_now_crowd, .ref A_t_now_sights], ob_ A_t_now_marsh 2 [.ref A_t_now_marsh_codes], ia_ G A_t_now_marsh_codes 144 c_t_now_marsh_codes, ob_ A_t_now_crowd 0 [.int c_t_now_crowd_there, .int c_t_now_crowd_foggy, .ref A_t_now_crowd_at, .ref A_t_now_crowd_home, .ref A_t_now_crowd_light, .ref A_t_now_crowd_carries, .ref A_t_now_crowd_bearer], ia_ G A_t_now_crowd_at 6 c_t_now_crowd_at, ia_ G A_t_now_crowd_light 6 c_t_now_crowd_light, ob_ A_t_now_sights 6 [.int c_t_now_sights_count, .ref A_t_now_sights_places, .ref A_t_now_sights_lights], ia_ G A_t_now_sights_places 8 c_t_now_sights_places, ia_ G A_t_now_sights_lights 8 c_t_now_sights_lights, ob_ A_t_ways 8 [.ref A_t_ways_planks, .ref A_t_ways_least, .ref A_t_ways_neighbours], ia_ G A_t_ways_planks 144 w4, ia_ G A_t_ways_least 144 w5, ia_ G A_t_ways_neighbours 12 w6] H locs := hw
        cases hf
        exact hret _ _ _ _ dX9_ask_85 hw
      · replace hf := it_t hc hf
        refine lv_iload_n hx hb dX9_ask_65 rfl (lv_at hl 0 rfl) ?_
        refine lv_goto (tgt := 85) hx hb dX9_ask_66 (by decide) ?_
        cases hf
        exact hret _ _ _ _ dX9_ask_85 hw
    · replace hf := it_t hc hf
      refine lv_bipush (v := (-6)) hx hb dX9_ask_42 (by decide) ?_
      cases hf
      exact hret _ _ _ _ dX9_ask_44 hw
  · replace hf := it_t hc hf
    refine lv_bipush (v := (-2)) hx hb dX9_ask_9 (by decide) ?_
    cases hf
    exact hret _ _ _ _ dX9_ask_11 hw
set_option maxHeartbeats 4000000 in
set_option maxRecDepth 100000 in
theorem cn_X9_ask (l : Launch) (G : gw_) (A_t : Nat) (A_t_now : Nat) (A_t_images : Nat) (A_t_pad : Nat) (A_t_evening : Nat) (A_t_ways : Nat) (A_t_tour : Nat) (A_t_odds : Nat) (A_t_now_marsh : Nat) (A_t_now_crowd : Nat) (A_t_now_sights : Nat) (A_t_now_marsh_codes : Nat) (A_t_now_crowd_at : Nat) (A_t_now_crowd_home : Nat) (A_t_now_crowd_light : Nat) (A_t_now_crowd_carries : Nat) (A_t_now_crowd_bearer : Nat) (A_t_now_sights_places : Nat) (A_t_now_sights_lights : Nat) (A_t_ways_planks : Nat) (A_t_ways_least : Nat) (A_t_ways_neighbours : Nat) (c_t_measured : Int32) (c_t_now_marsh_codes : Nat → Int32) (c_t_now_crowd_there : Int32) (c_t_now_crowd_foggy : Int32) (c_t_now_crowd_at : Nat → Int32) (c_t_now_crowd_light : Nat → Int32) (c_t_now_sights_count : Int32) (c_t_now_sights_places : Nat → Int32) (c_t_now_sights_lights : Nat → Int32) (c_t_ways_planks : Nat → Int32) (c_t_ways_least : Nat → Int32) (c_t_ways_neighbours : Nat → Int32) (x1 : Int32) (r : Int32) (z_t_measured : Int32) (z_t_ways_planks : Nat → Int32) (z_t_ways_least : Nat → Int32) (z_t_ways_neighbours : Nat → Int32) (hf : fn_X9_ask c_t_measured c_t_now_marsh_codes c_t_now_crowd_there c_t_now_crowd_foggy c_t_now_crowd_at c_t_now_crowd_light c_t_now_sights_count c_t_now_sights_places c_t_now_sights_lights c_t_ways_planks c_t_ways_least c_t_ways_neighbours x1 = some (r, z_t_measured, z_t_ways_planks, z_t_ways_least, z_t_ways_neighbours)) : ci_ l G yX9_ask cX9_ask 4 (some .int) 5 124 [ob_ A_t 9 [.ref A_t_now, .ref A_t_images, .ref A_t_pad, .ref A_t_evening, .ref A_t_ways, .ref A_t_tour, .ref A_t_odds, .int c_t_measured], ob_ A_t_now 5 [.ref A_t_now_marsh, .ref A_t_now_crowd, .ref A_t_now_sights], ob_ A_t_now_marsh 2 [.ref A_t_now_marsh_codes], ia_ G A_t_now_marsh_codes 144 c_t_now_marsh_codes, ob_ A_t_now_crowd 0 [.int c_t_now_crowd_there, .int c_t_now_crowd_foggy, .ref A_t_now_crowd_at, .ref A_t_now_crowd_home, .ref A_t_now_crowd_light, .ref A_t_now_crowd_carries, .ref A_t_now_crowd_bearer], ia_ G A_t_now_crowd_at 6 c_t_now_crowd_at, ia_ G A_t_now_crowd_light 6 c_t_now_crowd_light, ob_ A_t_now_sights 6 [.int c_t_now_sights_count, .ref A_t_now_sights_places, .ref A_t_now_sights_lights], ia_ G A_t_now_sights_places 8 c_t_now_sights_places, ia_ G A_t_now_sights_lights 8 c_t_now_sights_lights, ob_ A_t_ways 8 [.ref A_t_ways_planks, .ref A_t_ways_least, .ref A_t_ways_neighbours], ia_ G A_t_ways_planks 144 c_t_ways_planks, ia_ G A_t_ways_least 144 c_t_ways_least, ia_ G A_t_ways_neighbours 12 c_t_ways_neighbours] [.ref A_t, .int x1] r [ob_ A_t 9 [.ref A_t_now, .ref A_t_images, .ref A_t_pad, .ref A_t_evening, .ref A_t_ways, .ref A_t_tour, .ref A_t_odds, .int z_t_measured], ob_ A_t_now 5 [.ref A_t_now_marsh, .ref A_t_now_crowd, .ref A_t_now_sights], ob_ A_t_now_marsh 2 [.ref A_t_now_marsh_codes], ia_ G A_t_now_marsh_codes 144 c_t_now_marsh_codes, ob_ A_t_now_crowd 0 [.int c_t_now_crowd_there, .int c_t_now_crowd_foggy, .ref A_t_now_crowd_at, .ref A_t_now_crowd_home, .ref A_t_now_crowd_light, .ref A_t_now_crowd_carries, .ref A_t_now_crowd_bearer], ia_ G A_t_now_crowd_at 6 c_t_now_crowd_at, ia_ G A_t_now_crowd_light 6 c_t_now_crowd_light, ob_ A_t_now_sights 6 [.int c_t_now_sights_count, .ref A_t_now_sights_places, .ref A_t_now_sights_lights], ia_ G A_t_now_sights_places 8 c_t_now_sights_places, ia_ G A_t_now_sights_lights 8 c_t_now_sights_lights, ob_ A_t_ways 8 [.ref A_t_ways_planks, .ref A_t_ways_least, .ref A_t_ways_neighbours], ia_ G A_t_ways_planks 144 z_t_ways_planks, ia_ G A_t_ways_least 144 z_t_ways_least, ia_ G A_t_ways_neighbours 12 z_t_ways_neighbours] := fun sz => met_intro (by decide) (Nat.le_of_ble_eq_true rfl) (fun p e s m args below meth c ls hsz hC hr hlk hnm hl hw => wn_X9_ask hC (fun pc H locs ls hd hw => g_iret hC hr hlk hw rfl rfl hd) hf hl hw)

theorem dX9_year_0 : decode cX9_year 0 = .ok (.iload_n 1, 1) := by decide +kernel
theorem dX9_year_1 : decode cX9_year 1 = .ok (.iconst 0, 1) := by decide +kernel
theorem dX9_year_2 : decode cX9_year 2 = .ok (.sipush 9999, 3) := by decide +kernel
theorem dX9_year_5 : decode cX9_year 5 = .ok (.invokestatic 63, 3) := by decide +kernel
theorem dX9_year_8 : decode cX9_year 8 = .ok (.ifCond .eq 22, 3) := by decide +kernel
theorem dX9_year_11 : decode cX9_year 11 = .ok (.iload_n 2, 1) := by decide +kernel
theorem dX9_year_12 : decode cX9_year 12 = .ok (.iconst 1, 1) := by decide +kernel
theorem dX9_year_13 : decode cX9_year 13 = .ok (.bipush 99, 2) := by decide +kernel
theorem dX9_year_15 : decode cX9_year 15 = .ok (.invokestatic 63, 3) := by decide +kernel
theorem dX9_year_18 : decode cX9_year 18 = .ok (.ifCond .eq 12, 3) := by decide +kernel
theorem dX9_year_21 : decode cX9_year 21 = .ok (.iload_n 3, 1) := by decide +kernel
theorem dX9_year_22 : decode cX9_year 22 = .ok (.iconst 0, 1) := by decide +kernel
theorem dX9_year_23 : decode cX9_year 23 = .ok (.iconst 2, 1) := by decide +kernel
theorem dX9_year_24 : decode cX9_year 24 = .ok (.invokestatic 63, 3) := by decide +kernel
theorem dX9_year_27 : decode cX9_year 27 = .ok (.ifCond .ne 6, 3) := by decide +kernel
theorem dX9_year_30 : decode cX9_year 30 = .ok (.bipush (-2), 2) := by decide +kernel
theorem dX9_year_32 : decode cX9_year 32 = .ok (.ireturn, 1) := by decide +kernel
theorem dX9_year_33 : decode cX9_year 33 = .ok (.aload_n 0, 1) := by decide +kernel
theorem dX9_year_34 : decode cX9_year 34 = .ok (.getfield 30, 3) := by decide +kernel
theorem dX9_year_37 : decode cX9_year 37 = .ok (.aload_n 0, 1) := by decide +kernel
theorem dX9_year_38 : decode cX9_year 38 = .ok (.getfield 12, 3) := by decide +kernel
theorem dX9_year_41 : decode cX9_year 41 = .ok (.iload_n 1, 1) := by decide +kernel
theorem dX9_year_42 : decode cX9_year 42 = .ok (.iload_n 2, 1) := by decide +kernel
theorem dX9_year_43 : decode cX9_year 43 = .ok (.invokevirtual 263, 3) := by decide +kernel
theorem dX9_year_46 : decode cX9_year 46 = .ok (.iload_n 3, 1) := by decide +kernel
theorem dX9_year_47 : decode cX9_year 47 = .ok (.ifCond .ne 11, 3) := by decide +kernel
theorem dX9_year_50 : decode cX9_year 50 = .ok (.aload_n 0, 1) := by decide +kernel
theorem dX9_year_51 : decode cX9_year 51 = .ok (.getfield 30, 3) := by decide +kernel
theorem dX9_year_54 : decode cX9_year 54 = .ok (.getfield 127, 3) := by decide +kernel
theorem dX9_year_57 : decode cX9_year 57 = .ok (.ireturn, 1) := by decide +kernel
theorem dX9_year_58 : decode cX9_year 58 = .ok (.iload_n 3, 1) := by decide +kernel
theorem dX9_year_59 : decode cX9_year 59 = .ok (.iconst 1, 1) := by decide +kernel
theorem dX9_year_60 : decode cX9_year 60 = .ok (.if_icmp .ne 16, 3) := by decide +kernel
theorem dX9_year_63 : decode cX9_year 63 = .ok (.aload_n 0, 1) := by decide +kernel
theorem dX9_year_64 : decode cX9_year 64 = .ok (.getfield 30, 3) := by decide +kernel
theorem dX9_year_67 : decode cX9_year 67 = .ok (.getfield 130, 3) := by decide +kernel
theorem dX9_year_70 : decode cX9_year 70 = .ok (.invokevirtual 267, 3) := by decide +kernel
theorem dX9_year_73 : decode cX9_year 73 = .ok (.goto 10, 3) := by decide +kernel
theorem dX9_year_76 : decode cX9_year 76 = .ok (.aload_n 0, 1) := by decide +kernel
theorem dX9_year_77 : decode cX9_year 77 = .ok (.getfield 30, 3) := by decide +kernel
theorem dX9_year_80 : decode cX9_year 80 = .ok (.getfield 270, 3) := by decide +kernel
theorem dX9_year_83 : decode cX9_year 83 = .ok (.ireturn, 1) := by decide +kernel
def fn_X9_year (c_t_now_marsh_codes : Nat → Int32) (c_t_now_crowd_there : Int32) (c_t_now_crowd_foggy : Int32) (c_t_now_crowd_at : Nat → Int32) (c_t_now_crowd_home : Nat → Int32) (c_t_now_crowd_light : Nat → Int32) (c_t_now_crowd_carries : Nat → Int32) (c_t_now_crowd_bearer : Nat → Int32) (c_t_evening_acts : Int32) (c_t_evening_failedAct : Int32) (c_t_evening_reason : Int32) (c_t_evening_costs : Int32) (c_t_evening_walks : Int32) (c_t_evening_crowd_there : Int32) (c_t_evening_crowd_foggy : Int32) (c_t_evening_crowd_at : Nat → Int32) (c_t_evening_crowd_home : Nat → Int32) (c_t_evening_crowd_light : Nat → Int32) (c_t_evening_crowd_carries : Nat → Int32) (c_t_evening_crowd_bearer : Nat → Int32) (x1 : Int32) (x2 : Int32) (x3 : Int32) : Option (Int32 × Int32 × Int32 × Int32 × Int32 × Int32 × Int32 × Int32 × (Nat → Int32) × (Nat → Int32) × (Nat → Int32) × (Nat → Int32) × (Nat → Int32)) :=
  b1_ (fn_X9_isWithin x1 0 9999) fun r1 =>
  if r1 = 0 then
    some ((-2), c_t_evening_acts, c_t_evening_failedAct, c_t_evening_reason, c_t_evening_costs, c_t_evening_walks, c_t_evening_crowd_there, c_t_evening_crowd_foggy, c_t_evening_crowd_at, c_t_evening_crowd_home, c_t_evening_crowd_light, c_t_evening_crowd_carries, c_t_evening_crowd_bearer)
  else
    b1_ (fn_X9_isWithin x2 1 99) fun r3 =>
    if r3 = 0 then
      some ((-2), c_t_evening_acts, c_t_evening_failedAct, c_t_evening_reason, c_t_evening_costs, c_t_evening_walks, c_t_evening_crowd_there, c_t_evening_crowd_foggy, c_t_evening_crowd_at, c_t_evening_crowd_home, c_t_evening_crowd_light, c_t_evening_crowd_carries, c_t_evening_crowd_bearer)
    else
      b1_ (fn_X9_isWithin x3 0 2) fun r5 =>
      if r5 = 0 then
        some ((-2), c_t_evening_acts, c_t_evening_failedAct, c_t_evening_reason, c_t_evening_costs, c_t_evening_walks, c_t_evening_crowd_there, c_t_evening_crowd_foggy, c_t_evening_crowd_at, c_t_evening_crowd_home, c_t_evening_crowd_light, c_t_evening_crowd_carries, c_t_evening_crowd_bearer)
      else
        b12_ (fn_X1_playYear c_t_evening_acts c_t_evening_failedAct c_t_evening_reason c_t_evening_costs c_t_evening_walks c_t_evening_crowd_there c_t_evening_crowd_foggy c_t_evening_crowd_at c_t_evening_crowd_home c_t_evening_crowd_light c_t_evening_crowd_carries c_t_evening_crowd_bearer c_t_now_marsh_codes c_t_now_crowd_there c_t_now_crowd_foggy c_t_now_crowd_at c_t_now_crowd_home c_t_now_crowd_light c_t_now_crowd_carries c_t_now_crowd_bearer x1 x2) fun w7 w8 w9 w10 w11 w12 w13 w14 w15 w16 w17 w18 =>
        if x3 = 0 then
          some (w10, w7, w8, w9, w10, w11, w12, w13, w14, w15, w16, w17, w18)
        else
          if x3 = 1 then
            b1_ (fn_X0_countAtHome w12 w14 w15) fun r20 =>
            some (r20, w7, w8, w9, w10, w11, w12, w13, w14, w15, w16, w17, w18)
          else
            some (w11, w7, w8, w9, w10, w11, w12, w13, w14, w15, w16, w17, w18)
set_option maxHeartbeats 4000000 in
set_option maxRecDepth 100000 in
theorem wn_X9_year {p : Program} {l : Launch} {e : Env} {s : State} {m : MethodId} {args : Array Value} {below : List Frame} {meth : Method} {c : Code} {G : gw_} {A : Nat → Prop} {Q : State → Prop} {A_t : Nat} {A_t_now : Nat} {A_t_images : Nat} {A_t_pad : Nat} {A_t_evening : Nat} {A_t_ways : Nat} {A_t_tour : Nat} {A_t_odds : Nat} {A_t_now_marsh : Nat} {A_t_now_crowd : Nat} {A_t_now_sights : Nat} {A_t_now_marsh_codes : Nat} {A_t_now_crowd_at : Nat} {A_t_now_crowd_home : Nat} {A_t_now_crowd_light : Nat} {A_t_now_crowd_carries : Nat} {A_t_now_crowd_bearer : Nat} {A_t_evening_crowd : Nat} {A_t_evening_crowd_at : Nat} {A_t_evening_crowd_home : Nat} {A_t_evening_crowd_light : Nat} {A_t_evening_crowd_carries : Nat} {A_t_evening_crowd_bearer : Nat} {c_t_measured : Int32} {c_t_now_marsh_codes : Nat → Int32} {c_t_now_crowd_there : Int32} {c_t_now_crowd_foggy : Int32} {c_t_now_crowd_at : Nat → Int32} {c_t_now_crowd_home : Nat → Int32} {c_t_now_crowd_light : Nat → Int32} {c_t_now_crowd_carries : Nat → Int32} {c_t_now_crowd_bearer : Nat → Int32} {c_t_evening_acts : Int32} {z_t_evening_acts : Int32} {c_t_evening_failedAct : Int32} {z_t_evening_failedAct : Int32} {c_t_evening_reason : Int32} {z_t_evening_reason : Int32} {c_t_evening_costs : Int32} {z_t_evening_costs : Int32} {c_t_evening_walks : Int32} {z_t_evening_walks : Int32} {c_t_evening_crowd_there : Int32} {z_t_evening_crowd_there : Int32} {c_t_evening_crowd_foggy : Int32} {z_t_evening_crowd_foggy : Int32} {c_t_evening_crowd_at : Nat → Int32} {z_t_evening_crowd_at : Nat → Int32} {c_t_evening_crowd_home : Nat → Int32} {z_t_evening_crowd_home : Nat → Int32} {c_t_evening_crowd_light : Nat → Int32} {z_t_evening_crowd_light : Nat → Int32} {c_t_evening_crowd_carries : Nat → Int32} {z_t_evening_crowd_carries : Nat → Int32} {c_t_evening_crowd_bearer : Nat → Int32} {z_t_evening_crowd_bearer : Nat → Int32} {r : Int32} {x1 : Int32} {x2 : Int32} {x3 : Int32} (hC : cx_ p s m c G cX9_year 4 RX9) (hret : ∀ (pc : Nat) (H : Heap) (locs : List Loc) (ls : Array Slot), decode cX9_year pc = .ok (.ireturn, 1) → wd_ G A s.heap [ob_ A_t 9 [.ref A_t_now, .ref A_t_images, .ref A_t_pad, .ref A_t_evening, .ref A_t_ways, .ref A_t_tour, .ref A_t_odds, .int c_t_measured], ob_ A_t_now 5 [.ref A_t_now_marsh, .ref A_t_now_crowd, .ref A_t_now_sights], ob_ A_t_now_marsh 2 [.ref A_t_now_marsh_codes], ia_ G A_t_now_marsh_codes 144 c_t_now_marsh_codes, ob_ A_t_now_crowd 0 [.int c_t_now_crowd_there, .int c_t_now_crowd_foggy, .ref A_t_now_crowd_at, .ref A_t_now_crowd_home, .ref A_t_now_crowd_light, .ref A_t_now_crowd_carries, .ref A_t_now_crowd_bearer], ia_ G A_t_now_crowd_at 6 c_t_now_crowd_at, ia_ G A_t_now_crowd_home 6 c_t_now_crowd_home, ia_ G A_t_now_crowd_light 6 c_t_now_crowd_light, ia_ G A_t_now_crowd_carries 6 c_t_now_crowd_carries, ia_ G A_t_now_crowd_bearer 6 c_t_now_crowd_bearer, ob_ A_t_evening 1 [.ref A_t_evening_crowd, .int z_t_evening_acts, .int z_t_evening_failedAct, .int z_t_evening_reason, .int z_t_evening_costs, .int z_t_evening_walks], ob_ A_t_evening_crowd 0 [.int z_t_evening_crowd_there, .int z_t_evening_crowd_foggy, .ref A_t_evening_crowd_at, .ref A_t_evening_crowd_home, .ref A_t_evening_crowd_light, .ref A_t_evening_crowd_carries, .ref A_t_evening_crowd_bearer], ia_ G A_t_evening_crowd_at 6 z_t_evening_crowd_at, ia_ G A_t_evening_crowd_home 6 z_t_evening_crowd_home, ia_ G A_t_evening_crowd_light 6 z_t_evening_crowd_light, ia_ G A_t_evening_crowd_carries 6 z_t_evening_crowd_carries, ia_ G A_t_evening_crowd_bearer 6 z_t_evening_crowd_bearer] H locs → W p l e { frames := 5, cells := 0, slots := 0, locals := 120 } s m args below meth c H locs 0 0 Q (F0 m pc ls [.int r])) (hf : fn_X9_year c_t_now_marsh_codes c_t_now_crowd_there c_t_now_crowd_foggy c_t_now_crowd_at c_t_now_crowd_home c_t_now_crowd_light c_t_now_crowd_carries c_t_now_crowd_bearer c_t_evening_acts c_t_evening_failedAct c_t_evening_reason c_t_evening_costs c_t_evening_walks c_t_evening_crowd_there c_t_evening_crowd_foggy c_t_evening_crowd_at c_t_evening_crowd_home c_t_evening_crowd_light c_t_evening_crowd_carries c_t_evening_crowd_bearer x1 x2 x3 = some (r, z_t_evening_acts, z_t_evening_failedAct, z_t_evening_reason, z_t_evening_costs, z_t_evening_walks, z_t_evening_crowd_there, z_t_evening_crowd_foggy, z_t_evening_crowd_at, z_t_evening_crowd_home, z_t_evening_crowd_light, z_t_evening_crowd_carries, z_t_evening_crowd_bearer)) {H : Heap} {locs : List Loc} {ls : Array Slot} (hl : lv_has ls 4 [(0, .ref A_t), (1, .int x1), (2, .int x2), (3, .int x3)]) (hw : wd_ G A s.heap [ob_ A_t 9 [.ref A_t_now, .ref A_t_images, .ref A_t_pad, .ref A_t_evening, .ref A_t_ways, .ref A_t_tour, .ref A_t_odds, .int c_t_measured], ob_ A_t_now 5 [.ref A_t_now_marsh, .ref A_t_now_crowd, .ref A_t_now_sights], ob_ A_t_now_marsh 2 [.ref A_t_now_marsh_codes], ia_ G A_t_now_marsh_codes 144 c_t_now_marsh_codes, ob_ A_t_now_crowd 0 [.int c_t_now_crowd_there, .int c_t_now_crowd_foggy, .ref A_t_now_crowd_at, .ref A_t_now_crowd_home, .ref A_t_now_crowd_light, .ref A_t_now_crowd_carries, .ref A_t_now_crowd_bearer], ia_ G A_t_now_crowd_at 6 c_t_now_crowd_at, ia_ G A_t_now_crowd_home 6 c_t_now_crowd_home, ia_ G A_t_now_crowd_light 6 c_t_now_crowd_light, ia_ G A_t_now_crowd_carries 6 c_t_now_crowd_carries, ia_ G A_t_now_crowd_bearer 6 c_t_now_crowd_bearer, ob_ A_t_evening 1 [.ref A_t_evening_crowd, .int c_t_evening_acts, .int c_t_evening_failedAct, .int c_t_evening_reason, .int c_t_evening_costs, .int c_t_evening_walks], ob_ A_t_evening_crowd 0 [.int c_t_evening_crowd_there, .int c_t_evening_crowd_foggy, .ref A_t_evening_crowd_at, .ref A_t_evening_crowd_home, .ref A_t_evening_crowd_light, .ref A_t_evening_crowd_carries, .ref A_t_evening_crowd_bearer], ia_ G A_t_evening_crowd_at 6 c_t_evening_crowd_at, ia_ G A_t_evening_crowd_home 6 c_t_evening_crowd_home, ia_ G A_t_evening_crowd_light 6 c_t_evening_crowd_light, ia_ G A_t_evening_crowd_carries 6 c_t_evening_crowd_carries, ia_ G A_t_evening_crowd_bearer 6 c_t_evening_crowd_bearer] H locs) : W p l e { frames := 5, cells := 0, slots := 0, locals := 120 } s m args below meth c H locs 0 0 Q (F0 m 0 ls []) := by
  have hx := hC.1
  have hb := hC.2.1
  unfold fn_X9_year at hf
  refine lv_iload_n hx hb dX9_year_0 rfl (lv_at hl 1 rfl) ?_
  refine lv_iconst (v := 0) hx hb dX9_year_1 (by decide) ?_
  refine lv_sipush (v := 9999) hx hb dX9_year_2 (by decide) ?_
  obtain ⟨r1, hq2, hf⟩ := b1_s hf
  refine g_cSi hC hw msX9_63 (cn_X9_isWithin l G x1 0 9999 r1 hq2) [] rfl (by decide) rfl rfl hl.1 rfl (Nat.le_of_ble_eq_true rfl) ⟨Nat.le_of_ble_eq_true rfl, Nat.le_of_ble_eq_true rfl⟩ ⟨Nat.le_refl _, Nat.le_refl _⟩ dX9_year_5 (fun H locs hw => ?_)
  have hw : wd_ G A s.heap [ob_ A_t 9 [.ref A_t_now, .ref A_t_images, .ref A_t_pad, .ref A_t_evening, .ref A_t_ways, .ref A_t_tour, .ref A_t_odds, .int c_t_measured], ob_ A_t_now 5 [.ref A_t_now_marsh, .ref A_t_now_crowd, .ref A_t_now_sights], ob_ A_t_now_marsh 2 [.ref A_t_now_marsh_codes], ia_ G A_t_now_marsh_codes 144 c_t_now_marsh_codes, ob_ A_t_now_crowd 0 [.int c_t_now_crowd_there, .int c_t_now_crowd_foggy, .ref A_t_now_crowd_at, .ref A_t_now_crowd_home, .ref A_t_now_crowd_light, .ref A_t_now_crowd_carries, .ref A_t_now_crowd_bearer], ia_ G A_t_now_crowd_at 6 c_t_now_crowd_at, ia_ G A_t_now_crowd_home 6 c_t_now_crowd_home, ia_ G A_t_now_crowd_light 6 c_t_now_crowd_light, ia_ G A_t_now_crowd_carries 6 c_t_now_crowd_carries, ia_ G A_t_now_crowd_bearer 6 c_t_now_crowd_bearer, ob_ A_t_evening 1 [.ref A_t_evening_crowd, .int c_t_evening_acts, .int c_t_evening_failedAct, .int c_t_evening_reason, .int c_t_evening_costs, .int c_t_evening_walks], ob_ A_t_evening_crowd 0 [.int c_t_evening_crowd_there, .int c_t_evening_crowd_foggy, .ref A_t_evening_crowd_at, .ref A_t_evening_crowd_home, .ref A_t_evening_crowd_light, .ref A_t_evening_crowd_carries, .ref A_t_evening_crowd_bearer], ia_ G A_t_evening_crowd_at 6 c_t_evening_crowd_at, ia_ G A_t_evening_crowd_home 6 c_t_evening_crowd_home, ia_ G A_t_evening_crowd_light 6 c_t_evening_crowd_light, ia_ G A_t_evening_crowd_carries 6 c_t_evening_crowd_carries, ia_ G A_t_evening_crowd_bearer 6 c_t_evening_crowd_bearer] H locs := hw
  refine lv_if_eq (tgt := 30) hx hb dX9_year_8 (by decide) (fun hc => ?_) (fun hc => ?_)
  · replace hf := it_t hc hf
    refine lv_bipush (v := (-2)) hx hb dX9_year_30 (by decide) ?_
    cases hf
    exact hret _ _ _ _ dX9_year_32 hw
  · replace hf := it_f hc hf
    refine lv_iload_n hx hb dX9_year_11 rfl (lv_at hl 2 rfl) ?_
    refine lv_iconst (v := 1) hx hb dX9_year_12 (by decide) ?_
    refine lv_bipush (v := 99) hx hb dX9_year_13 (by decide) ?_
    obtain ⟨r3, hq4, hf⟩ := b1_s hf
    refine g_cSi hC hw msX9_63 (cn_X9_isWithin l G x2 1 99 r3 hq4) [] rfl (by decide) rfl rfl hl.1 rfl (Nat.le_of_ble_eq_true rfl) ⟨Nat.le_of_ble_eq_true rfl, Nat.le_of_ble_eq_true rfl⟩ ⟨Nat.le_refl _, Nat.le_refl _⟩ dX9_year_15 (fun H locs hw => ?_)
    have hw : wd_ G A s.heap [ob_ A_t 9 [.ref A_t_now, .ref A_t_images, .ref A_t_pad, .ref A_t_evening, .ref A_t_ways, .ref A_t_tour, .ref A_t_odds, .int c_t_measured], ob_ A_t_now 5 [.ref A_t_now_marsh, .ref A_t_now_crowd, .ref A_t_now_sights], ob_ A_t_now_marsh 2 [.ref A_t_now_marsh_codes], ia_ G A_t_now_marsh_codes 144 c_t_now_marsh_codes, ob_ A_t_now_crowd 0 [.int c_t_now_crowd_there, .int c_t_now_crowd_foggy, .ref A_t_now_crowd_at, .ref A_t_now_crowd_home, .ref A_t_now_crowd_light, .ref A_t_now_crowd_carries, .ref A_t_now_crowd_bearer], ia_ G A_t_now_crowd_at 6 c_t_now_crowd_at, ia_ G A_t_now_crowd_home 6 c_t_now_crowd_home, ia_ G A_t_now_crowd_light 6 c_t_now_crowd_light, ia_ G A_t_now_crowd_carries 6 c_t_now_crowd_carries, ia_ G A_t_now_crowd_bearer 6 c_t_now_crowd_bearer, ob_ A_t_evening 1 [.ref A_t_evening_crowd, .int c_t_evening_acts, .int c_t_evening_failedAct, .int c_t_evening_reason, .int c_t_evening_costs, .int c_t_evening_walks], ob_ A_t_evening_crowd 0 [.int c_t_evening_crowd_there, .int c_t_evening_crowd_foggy, .ref A_t_evening_crowd_at, .ref A_t_evening_crowd_home, .ref A_t_evening_crowd_light, .ref A_t_evening_crowd_carries, .ref A_t_evening_crowd_bearer], ia_ G A_t_evening_crowd_at 6 c_t_evening_crowd_at, ia_ G A_t_evening_crowd_home 6 c_t_evening_crowd_home, ia_ G A_t_evening_crowd_light 6 c_t_evening_crowd_light, ia_ G A_t_evening_crowd_carries 6 c_t_evening_crowd_carries, ia_ G A_t_evening_crowd_bearer 6 c_t_evening_crowd_bearer] H locs := hw
    refine lv_if_eq (tgt := 30) hx hb dX9_year_18 (by decide) (fun hc => ?_) (fun hc => ?_)
    · replace hf := it_t hc hf
      refine lv_bipush (v := (-2)) hx hb dX9_year_30 (by decide) ?_
      cases hf
      exact hret _ _ _ _ dX9_year_32 hw
    · replace hf := it_f hc hf
      refine lv_iload_n hx hb dX9_year_21 rfl (lv_at hl 3 rfl) ?_
      refine lv_iconst (v := 0) hx hb dX9_year_22 (by decide) ?_
      refine lv_iconst (v := 2) hx hb dX9_year_23 (by decide) ?_
      obtain ⟨r5, hq6, hf⟩ := b1_s hf
      refine g_cSi hC hw msX9_63 (cn_X9_isWithin l G x3 0 2 r5 hq6) [] rfl (by decide) rfl rfl hl.1 rfl (Nat.le_of_ble_eq_true rfl) ⟨Nat.le_of_ble_eq_true rfl, Nat.le_of_ble_eq_true rfl⟩ ⟨Nat.le_refl _, Nat.le_refl _⟩ dX9_year_24 (fun H locs hw => ?_)
      have hw : wd_ G A s.heap [ob_ A_t 9 [.ref A_t_now, .ref A_t_images, .ref A_t_pad, .ref A_t_evening, .ref A_t_ways, .ref A_t_tour, .ref A_t_odds, .int c_t_measured], ob_ A_t_now 5 [.ref A_t_now_marsh, .ref A_t_now_crowd, .ref A_t_now_sights], ob_ A_t_now_marsh 2 [.ref A_t_now_marsh_codes], ia_ G A_t_now_marsh_codes 144 c_t_now_marsh_codes, ob_ A_t_now_crowd 0 [.int c_t_now_crowd_there, .int c_t_now_crowd_foggy, .ref A_t_now_crowd_at, .ref A_t_now_crowd_home, .ref A_t_now_crowd_light, .ref A_t_now_crowd_carries, .ref A_t_now_crowd_bearer], ia_ G A_t_now_crowd_at 6 c_t_now_crowd_at, ia_ G A_t_now_crowd_home 6 c_t_now_crowd_home, ia_ G A_t_now_crowd_light 6 c_t_now_crowd_light, ia_ G A_t_now_crowd_carries 6 c_t_now_crowd_carries, ia_ G A_t_now_crowd_bearer 6 c_t_now_crowd_bearer, ob_ A_t_evening 1 [.ref A_t_evening_crowd, .int c_t_evening_acts, .int c_t_evening_failedAct, .int c_t_evening_reason, .int c_t_evening_costs, .int c_t_evening_walks], ob_ A_t_evening_crowd 0 [.int c_t_evening_crowd_there, .int c_t_evening_crowd_foggy, .ref A_t_evening_crowd_at, .ref A_t_evening_crowd_home, .ref A_t_evening_crowd_light, .ref A_t_evening_crowd_carries, .ref A_t_evening_crowd_bearer], ia_ G A_t_evening_crowd_at 6 c_t_evening_crowd_at, ia_ G A_t_evening_crowd_home 6 c_t_evening_crowd_home, ia_ G A_t_evening_crowd_light 6 c_t_evening_crowd_light, ia_ G A_t_evening_crowd_carries 6 c_t_evening_crowd_carries, ia_ G A_t_evening_crowd_bearer 6 c_t_evening_crowd_bearer] H locs := hw
      refine lv_if_ne (tgt := 33) hx hb dX9_year_27 (by decide) (fun hc => ?_) (fun hc => ?_)
      · replace hf := it_f hc hf
        refine lv_aload_n hx hb dX9_year_33 rfl (lv_at hl 0 rfl) ?_
        refine g_get hC hw fkX9_30 0 rfl rfl dX9_year_34 ?_
        refine lv_aload_n hx hb dX9_year_37 rfl (lv_at hl 0 rfl) ?_
        refine g_get hC hw fkX9_12 0 rfl rfl dX9_year_38 ?_
        refine lv_iload_n hx hb dX9_year_41 rfl (lv_at hl 1 rfl) ?_
        refine lv_iload_n hx hb dX9_year_42 rfl (lv_at hl 2 rfl) ?_
        obtain ⟨w7, w8, w9, w10, w11, w12, w13, w14, w15, w16, w17, w18, hq19, hf⟩ := b12_s hf
        refine g_cVv hC hw mvX9_263 (cn_X1_playYear l G A_t_evening A_t_evening_crowd A_t_evening_crowd_at A_t_evening_crowd_home A_t_evening_crowd_light A_t_evening_crowd_carries A_t_evening_crowd_bearer A_t_now A_t_now_marsh A_t_now_crowd A_t_now_sights A_t_now_marsh_codes A_t_now_crowd_at A_t_now_crowd_home A_t_now_crowd_light A_t_now_crowd_carries A_t_now_crowd_bearer c_t_evening_acts c_t_evening_failedAct c_t_evening_reason c_t_evening_costs c_t_evening_walks c_t_evening_crowd_there c_t_evening_crowd_foggy c_t_evening_crowd_at c_t_evening_crowd_home c_t_evening_crowd_light c_t_evening_crowd_carries c_t_evening_crowd_bearer c_t_now_marsh_codes c_t_now_crowd_there c_t_now_crowd_foggy c_t_now_crowd_at c_t_now_crowd_home c_t_now_crowd_light c_t_now_crowd_carries c_t_now_crowd_bearer x1 x2 w7 w8 w9 w10 w11 w12 w13 w14 w15 w16 w17 w18 hq19) [10, 11, 12, 13, 14, 15, 16, 1, 2, 3, 4, 5, 6, 7, 8, 9] rfl (by decide) rfl 10 rfl rfl rfl hl.1 rfl (Nat.le_of_ble_eq_true rfl) ⟨Nat.le_of_ble_eq_true rfl, Nat.le_of_ble_eq_true rfl⟩ ⟨Nat.le_refl _, Nat.le_refl _⟩ dX9_year_43 (fun H locs hw => ?_)
        have hw : wd_ G A s.heap [ob_ A_t 9 [.ref A_t_now, .ref A_t_images, .ref A_t_pad, .ref A_t_evening, .ref A_t_ways, .ref A_t_tour, .ref A_t_odds, .int c_t_measured], ob_ A_t_now 5 [.ref A_t_now_marsh, .ref A_t_now_crowd, .ref A_t_now_sights], ob_ A_t_now_marsh 2 [.ref A_t_now_marsh_codes], ia_ G A_t_now_marsh_codes 144 c_t_now_marsh_codes, ob_ A_t_now_crowd 0 [.int c_t_now_crowd_there, .int c_t_now_crowd_foggy, .ref A_t_now_crowd_at, .ref A_t_now_crowd_home, .ref A_t_now_crowd_light, .ref A_t_now_crowd_carries, .ref A_t_now_crowd_bearer], ia_ G A_t_now_crowd_at 6 c_t_now_crowd_at, ia_ G A_t_now_crowd_home 6 c_t_now_crowd_home, ia_ G A_t_now_crowd_light 6 c_t_now_crowd_light, ia_ G A_t_now_crowd_carries 6 c_t_now_crowd_carries, ia_ G A_t_now_crowd_bearer 6 c_t_now_crowd_bearer, ob_ A_t_evening 1 [.ref A_t_evening_crowd, .int w7, .int w8, .int w9, .int w10, .int w11], ob_ A_t_evening_crowd 0 [.int w12, .int w13, .ref A_t_evening_crowd_at, .ref A_t_evening_crowd_home, .ref A_t_evening_crowd_light, .ref A_t_evening_crowd_carries, .ref A_t_evening_crowd_bearer], ia_ G A_t_evening_crowd_at 6 w14, ia_ G A_t_evening_crowd_home 6 w15, ia_ G A_t_evening_crowd_light 6 w16, ia_ G A_t_evening_crowd_carries 6 w17, ia_ G A_t_evening_crowd_bearer 6 w18] H locs := hw
        refine lv_iload_n hx hb dX9_year_46 rfl (lv_at hl 3 rfl) ?_
        refine lv_if_ne (tgt := 58) hx hb dX9_year_47 (by decide) (fun hc => ?_) (fun hc => ?_)
        · replace hf := it_f hc hf
          refine lv_iload_n hx hb dX9_year_58 rfl (lv_at hl 3 rfl) ?_
          refine lv_iconst (v := 1) hx hb dX9_year_59 (by decide) ?_
          refine lv_icmp_ne (tgt := 76) hx hb dX9_year_60 (by decide) (fun hc => ?_) (fun hc => ?_)
          · replace hf := it_f hc hf
            refine lv_aload_n hx hb dX9_year_76 rfl (lv_at hl 0 rfl) ?_
            refine g_get hC hw fkX9_30 0 rfl rfl dX9_year_77 ?_
            refine g_get hC hw fkX9_270 10 rfl rfl dX9_year_80 ?_
            cases hf
            exact hret _ _ _ _ dX9_year_83 hw
          · replace hf := it_t hc hf
            refine lv_aload_n hx hb dX9_year_63 rfl (lv_at hl 0 rfl) ?_
            refine g_get hC hw fkX9_30 0 rfl rfl dX9_year_64 ?_
            refine g_get hC hw fkX9_130 10 rfl rfl dX9_year_67 ?_
            obtain ⟨r20, hq21, hf⟩ := b1_s hf
            refine g_cVi hC hw mvX9_267 (cn_X0_countAtHome l G A_t_evening_crowd A_t_evening_crowd_at A_t_evening_crowd_home A_t_evening_crowd_light A_t_evening_crowd_carries A_t_evening_crowd_bearer w12 w13 w14 w15 r20 hq21) [11, 12, 13] rfl (by decide) rfl 11 rfl rfl rfl hl.1 rfl (Nat.le_of_ble_eq_true rfl) ⟨Nat.le_of_ble_eq_true rfl, Nat.le_of_ble_eq_true rfl⟩ ⟨Nat.le_refl _, Nat.le_refl _⟩ dX9_year_70 (fun H locs hw => ?_)
            have hw : wd_ G A s.heap [ob_ A_t 9 [.ref A_t_now, .ref A_t_images, .ref A_t_pad, .ref A_t_evening, .ref A_t_ways, .ref A_t_tour, .ref A_t_odds, .int c_t_measured], ob_ A_t_now 5 [.ref A_t_now_marsh, .ref A_t_now_crowd, .ref A_t_now_sights], ob_ A_t_now_marsh 2 [.ref A_t_now_marsh_codes], ia_ G A_t_now_marsh_codes 144 c_t_now_marsh_codes, ob_ A_t_now_crowd 0 [.int c_t_now_crowd_there, .int c_t_now_crowd_foggy, .ref A_t_now_crowd_at, .ref A_t_now_crowd_home, .ref A_t_now_crowd_light, .ref A_t_now_crowd_carries, .ref A_t_now_crowd_bearer], ia_ G A_t_now_crowd_at 6 c_t_now_crowd_at, ia_ G A_t_now_crowd_home 6 c_t_now_crowd_home, ia_ G A_t_now_crowd_light 6 c_t_now_crowd_light, ia_ G A_t_now_crowd_carries 6 c_t_now_crowd_carries, ia_ G A_t_now_crowd_bearer 6 c_t_now_crowd_bearer, ob_ A_t_evening 1 [.ref A_t_evening_crowd, .int w7, .int w8, .int w9, .int w10, .int w11], ob_ A_t_evening_crowd 0 [.int w12, .int w13, .ref A_t_evening_crowd_at, .ref A_t_evening_crowd_home, .ref A_t_evening_crowd_light, .ref A_t_evening_crowd_carries, .ref A_t_evening_crowd_bearer], ia_ G A_t_evening_crowd_at 6 w14, ia_ G A_t_evening_crowd_home 6 w15, ia_ G A_t_evening_crowd_light 6 w16, ia_ G A_t_evening_crowd_carries 6 w17, ia_ G A_t_evening_crowd_bearer 6 w18] H locs := hw
            refine lv_goto (tgt := 83) hx hb dX9_year_73 (by decide) ?_
            cases hf
            exact hret _ _ _ _ dX9_year_83 hw
        · replace hf := it_t hc hf
          refine lv_aload_n hx hb dX9_year_50 rfl (lv_at hl 0 rfl) ?_
          refine g_get hC hw fkX9_30 0 rfl rfl dX9_year_51 ?_
          refine g_get hC hw fkX9_127 10 rfl rfl dX9_year_54 ?_
          cases hf
          exact hret _ _ _ _ dX9_year_57 hw
      · replace hf := it_t hc hf
        refine lv_bipush (v := (-2)) hx hb dX9_year_30 (by decide) ?_
        cases hf
        exact hret _ _ _ _ dX9_year_32 hw
set_option maxHeartbeats 4000000 in
set_option maxRecDepth 100000 in
theorem cn_X9_year (l : Launch) (G : gw_) (A_t : Nat) (A_t_now : Nat) (A_t_images : Nat) (A_t_pad : Nat) (A_t_evening : Nat) (A_t_ways : Nat) (A_t_tour : Nat) (A_t_odds : Nat) (A_t_now_marsh : Nat) (A_t_now_crowd : Nat) (A_t_now_sights : Nat) (A_t_now_marsh_codes : Nat) (A_t_now_crowd_at : Nat) (A_t_now_crowd_home : Nat) (A_t_now_crowd_light : Nat) (A_t_now_crowd_carries : Nat) (A_t_now_crowd_bearer : Nat) (A_t_evening_crowd : Nat) (A_t_evening_crowd_at : Nat) (A_t_evening_crowd_home : Nat) (A_t_evening_crowd_light : Nat) (A_t_evening_crowd_carries : Nat) (A_t_evening_crowd_bearer : Nat) (c_t_measured : Int32) (c_t_now_marsh_codes : Nat → Int32) (c_t_now_crowd_there : Int32) (c_t_now_crowd_foggy : Int32) (c_t_now_crowd_at : Nat → Int32) (c_t_now_crowd_home : Nat → Int32) (c_t_now_crowd_light : Nat → Int32) (c_t_now_crowd_carries : Nat → Int32) (c_t_now_crowd_bearer : Nat → Int32) (c_t_evening_acts : Int32) (c_t_evening_failedAct : Int32) (c_t_evening_reason : Int32) (c_t_evening_costs : Int32) (c_t_evening_walks : Int32) (c_t_evening_crowd_there : Int32) (c_t_evening_crowd_foggy : Int32) (c_t_evening_crowd_at : Nat → Int32) (c_t_evening_crowd_home : Nat → Int32) (c_t_evening_crowd_light : Nat → Int32) (c_t_evening_crowd_carries : Nat → Int32) (c_t_evening_crowd_bearer : Nat → Int32) (x1 : Int32) (x2 : Int32) (x3 : Int32) (r : Int32) (z_t_evening_acts : Int32) (z_t_evening_failedAct : Int32) (z_t_evening_reason : Int32) (z_t_evening_costs : Int32) (z_t_evening_walks : Int32) (z_t_evening_crowd_there : Int32) (z_t_evening_crowd_foggy : Int32) (z_t_evening_crowd_at : Nat → Int32) (z_t_evening_crowd_home : Nat → Int32) (z_t_evening_crowd_light : Nat → Int32) (z_t_evening_crowd_carries : Nat → Int32) (z_t_evening_crowd_bearer : Nat → Int32) (hf : fn_X9_year c_t_now_marsh_codes c_t_now_crowd_there c_t_now_crowd_foggy c_t_now_crowd_at c_t_now_crowd_home c_t_now_crowd_light c_t_now_crowd_carries c_t_now_crowd_bearer c_t_evening_acts c_t_evening_failedAct c_t_evening_reason c_t_evening_costs c_t_evening_walks c_t_evening_crowd_there c_t_evening_crowd_foggy c_t_evening_crowd_at c_t_evening_crowd_home c_t_evening_crowd_light c_t_evening_crowd_carries c_t_evening_crowd_bearer x1 x2 x3 = some (r, z_t_evening_acts, z_t_evening_failedAct, z_t_evening_reason, z_t_evening_costs, z_t_evening_walks, z_t_evening_crowd_there, z_t_evening_crowd_foggy, z_t_evening_crowd_at, z_t_evening_crowd_home, z_t_evening_crowd_light, z_t_evening_crowd_carries, z_t_evening_crowd_bearer)) : ci_ l G yX9_year cX9_year 4 (some .int) 5 120 [ob_ A_t 9 [.ref A_t_now, .ref A_t_images, .ref A_t_pad, .ref A_t_evening, .ref A_t_ways, .ref A_t_tour, .ref A_t_odds, .int c_t_measured], ob_ A_t_now 5 [.ref A_t_now_marsh, .ref A_t_now_crowd, .ref A_t_now_sights], ob_ A_t_now_marsh 2 [.ref A_t_now_marsh_codes], ia_ G A_t_now_marsh_codes 144 c_t_now_marsh_codes, ob_ A_t_now_crowd 0 [.int c_t_now_crowd_there, .int c_t_now_crowd_foggy, .ref A_t_now_crowd_at, .ref A_t_now_crowd_home, .ref A_t_now_crowd_light, .ref A_t_now_crowd_carries, .ref A_t_now_crowd_bearer], ia_ G A_t_now_crowd_at 6 c_t_now_crowd_at, ia_ G A_t_now_crowd_home 6 c_t_now_crowd_home, ia_ G A_t_now_crowd_light 6 c_t_now_crowd_light, ia_ G A_t_now_crowd_carries 6 c_t_now_crowd_carries, ia_ G A_t_now_crowd_bearer 6 c_t_now_crowd_bearer, ob_ A_t_evening 1 [.ref A_t_evening_crowd, .int c_t_evening_acts, .int c_t_evening_failedAct, .int c_t_evening_reason, .int c_t_evening_costs, .int c_t_evening_walks], ob_ A_t_evening_crowd 0 [.int c_t_evening_crowd_there, .int c_t_evening_crowd_foggy, .ref A_t_evening_crowd_at, .ref A_t_evening_crowd_home, .ref A_t_evening_crowd_light, .ref A_t_evening_crowd_carries, .ref A_t_evening_crowd_bearer], ia_ G A_t_evening_crowd_at 6 c_t_evening_crowd_at, ia_ G A_t_evening_crowd_home 6 c_t_evening_crowd_home, ia_ G A_t_evening_crowd_light 6 c_t_evening_crowd_light, ia_ G A_t_evening_crowd_carries 6 c_t_evening_crowd_carries, ia_ G A_t_evening_crowd_bearer 6 c_t_evening_crowd_bearer] [.ref A_t, .int x1, .int x2, .int x3] r [ob_ A_t 9 [.ref A_t_now, .ref A_t_images, .ref A_t_pad, .ref A_t_evening, .ref A_t_ways, .ref A_t_tour, .ref A_t_odds, .int c_t_measured], ob_ A_t_now 5 [.ref A_t_now_marsh, .ref A_t_now_crowd, .ref A_t_now_sights], ob_ A_t_now_marsh 2 [.ref A_t_now_marsh_codes], ia_ G A_t_now_marsh_codes 144 c_t_now_marsh_codes, ob_ A_t_now_crowd 0 [.int c_t_now_crowd_there, .int c_t_now_crowd_foggy, .ref A_t_now_crowd_at, .ref A_t_now_crowd_home, .ref A_t_now_crowd_light, .ref A_t_now_crowd_carries, .ref A_t_now_crowd_bearer], ia_ G A_t_now_crowd_at 6 c_t_now_crowd_at, ia_ G A_t_now_crowd_home 6 c_t_now_crowd_home, ia_ G A_t_now_crowd_light 6 c_t_now_crowd_light, ia_ G A_t_now_crowd_carries 6 c_t_now_crowd_carries, ia_ G A_t_now_crowd_bearer 6 c_t_now_crowd_bearer, ob_ A_t_evening 1 [.ref A_t_evening_crowd, .int z_t_evening_acts, .int z_t_evening_failedAct, .int z_t_evening_reason, .int z_t_evening_costs, .int z_t_evening_walks], ob_ A_t_evening_crowd 0 [.int z_t_evening_crowd_there, .int z_t_evening_crowd_foggy, .ref A_t_evening_crowd_at, .ref A_t_evening_crowd_home, .ref A_t_evening_crowd_light, .ref A_t_evening_crowd_carries, .ref A_t_evening_crowd_bearer], ia_ G A_t_evening_crowd_at 6 z_t_evening_crowd_at, ia_ G A_t_evening_crowd_home 6 z_t_evening_crowd_home, ia_ G A_t_evening_crowd_light 6 z_t_evening_crowd_light, ia_ G A_t_evening_crowd_carries 6 z_t_evening_crowd_carries, ia_ G A_t_evening_crowd_bearer 6 z_t_evening_crowd_bearer] := fun sz => met_intro (by decide) (Nat.le_of_ble_eq_true rfl) (fun p e s m args below meth c ls hsz hC hr hlk hnm hl hw => wn_X9_year hC (fun pc H locs ls hd hw => g_iret hC hr hlk hw rfl rfl hd) hf hl hw)

theorem dX9_tellCount_0 : decode cX9_tellCount 0 = .ok (.iload_n 1, 1) := by decide +kernel
theorem dX9_tellCount_1 : decode cX9_tellCount 1 = .ok (.ifCond .ne 11, 3) := by decide +kernel
theorem dX9_tellCount_4 : decode cX9_tellCount 4 = .ok (.aload_n 0, 1) := by decide +kernel
theorem dX9_tellCount_5 : decode cX9_tellCount 5 = .ok (.getfield 23, 3) := by decide +kernel
theorem dX9_tellCount_8 : decode cX9_tellCount 8 = .ok (.getfield 105, 3) := by decide +kernel
theorem dX9_tellCount_11 : decode cX9_tellCount 11 = .ok (.ireturn, 1) := by decide +kernel
theorem dX9_tellCount_12 : decode cX9_tellCount 12 = .ok (.iload_n 1, 1) := by decide +kernel
theorem dX9_tellCount_13 : decode cX9_tellCount 13 = .ok (.iconst 1, 1) := by decide +kernel
theorem dX9_tellCount_14 : decode cX9_tellCount 14 = .ok (.if_icmp .ne 14, 3) := by decide +kernel
theorem dX9_tellCount_17 : decode cX9_tellCount 17 = .ok (.aload_n 0, 1) := by decide +kernel
theorem dX9_tellCount_18 : decode cX9_tellCount 18 = .ok (.getfield 12, 3) := by decide +kernel
theorem dX9_tellCount_21 : decode cX9_tellCount 21 = .ok (.getfield 81, 3) := by decide +kernel
theorem dX9_tellCount_24 : decode cX9_tellCount 24 = .ok (.getfield 205, 3) := by decide +kernel
theorem dX9_tellCount_27 : decode cX9_tellCount 27 = .ok (.ireturn, 1) := by decide +kernel
theorem dX9_tellCount_28 : decode cX9_tellCount 28 = .ok (.iload_n 1, 1) := by decide +kernel
theorem dX9_tellCount_29 : decode cX9_tellCount 29 = .ok (.iconst 2, 1) := by decide +kernel
theorem dX9_tellCount_30 : decode cX9_tellCount 30 = .ok (.if_icmp .ne 22, 3) := by decide +kernel
theorem dX9_tellCount_33 : decode cX9_tellCount 33 = .ok (.aload_n 0, 1) := by decide +kernel
theorem dX9_tellCount_34 : decode cX9_tellCount 34 = .ok (.getfield 12, 3) := by decide +kernel
theorem dX9_tellCount_37 : decode cX9_tellCount 37 = .ok (.getfield 81, 3) := by decide +kernel
theorem dX9_tellCount_40 : decode cX9_tellCount 40 = .ok (.getfield 102, 3) := by decide +kernel
theorem dX9_tellCount_43 : decode cX9_tellCount 43 = .ok (.ifCond .eq 7, 3) := by decide +kernel
theorem dX9_tellCount_46 : decode cX9_tellCount 46 = .ok (.iconst 1, 1) := by decide +kernel
theorem dX9_tellCount_47 : decode cX9_tellCount 47 = .ok (.goto 4, 3) := by decide +kernel
theorem dX9_tellCount_50 : decode cX9_tellCount 50 = .ok (.iconst 0, 1) := by decide +kernel
theorem dX9_tellCount_51 : decode cX9_tellCount 51 = .ok (.ireturn, 1) := by decide +kernel
theorem dX9_tellCount_52 : decode cX9_tellCount 52 = .ok (.aload_n 0, 1) := by decide +kernel
theorem dX9_tellCount_53 : decode cX9_tellCount 53 = .ok (.getfield 12, 3) := by decide +kernel
theorem dX9_tellCount_56 : decode cX9_tellCount 56 = .ok (.getfield 219, 3) := by decide +kernel
theorem dX9_tellCount_59 : decode cX9_tellCount 59 = .ok (.getfield 223, 3) := by decide +kernel
theorem dX9_tellCount_62 : decode cX9_tellCount 62 = .ok (.ireturn, 1) := by decide +kernel
def fn_X9_tellCount (c_t_now_crowd_there : Int32) (c_t_now_crowd_foggy : Int32) (c_t_now_sights_count : Int32) (c_t_pad_count : Int32) (x1 : Int32) : Option (Int32) :=
  if x1 = 0 then
    some c_t_pad_count
  else
    if x1 = 1 then
      some c_t_now_crowd_there
    else
      if x1 = 2 then
        if c_t_now_crowd_foggy = 0 then
          some 0
        else
          some 1
      else
        some c_t_now_sights_count
set_option maxHeartbeats 4000000 in
set_option maxRecDepth 100000 in
theorem wn_X9_tellCount {p : Program} {l : Launch} {e : Env} {s : State} {m : MethodId} {args : Array Value} {below : List Frame} {meth : Method} {c : Code} {G : gw_} {A : Nat → Prop} {Q : State → Prop} {A_t : Nat} {A_t_now : Nat} {A_t_images : Nat} {A_t_pad : Nat} {A_t_evening : Nat} {A_t_ways : Nat} {A_t_tour : Nat} {A_t_odds : Nat} {A_t_now_marsh : Nat} {A_t_now_crowd : Nat} {A_t_now_sights : Nat} {A_t_now_crowd_at : Nat} {A_t_now_crowd_home : Nat} {A_t_now_crowd_light : Nat} {A_t_now_crowd_carries : Nat} {A_t_now_crowd_bearer : Nat} {A_t_now_sights_places : Nat} {A_t_now_sights_lights : Nat} {A_t_pad_signs : Nat} {c_t_measured : Int32} {c_t_now_crowd_there : Int32} {c_t_now_crowd_foggy : Int32} {c_t_now_sights_count : Int32} {c_t_pad_count : Int32} {r : Int32} {x1 : Int32} (hC : cx_ p s m c G cX9_tellCount 2 RX9) (hret : ∀ (pc : Nat) (H : Heap) (locs : List Loc) (ls : Array Slot), decode cX9_tellCount pc = .ok (.ireturn, 1) → wd_ G A s.heap [ob_ A_t 9 [.ref A_t_now, .ref A_t_images, .ref A_t_pad, .ref A_t_evening, .ref A_t_ways, .ref A_t_tour, .ref A_t_odds, .int c_t_measured], ob_ A_t_now 5 [.ref A_t_now_marsh, .ref A_t_now_crowd, .ref A_t_now_sights], ob_ A_t_now_crowd 0 [.int c_t_now_crowd_there, .int c_t_now_crowd_foggy, .ref A_t_now_crowd_at, .ref A_t_now_crowd_home, .ref A_t_now_crowd_light, .ref A_t_now_crowd_carries, .ref A_t_now_crowd_bearer], ob_ A_t_now_sights 6 [.int c_t_now_sights_count, .ref A_t_now_sights_places, .ref A_t_now_sights_lights], ob_ A_t_pad 4 [.int c_t_pad_count, .ref A_t_pad_signs]] H locs → W p l e { frames := 0, cells := 0, slots := 0, locals := 0 } s m args below meth c H locs 0 0 Q (F0 m pc ls [.int r])) (hf : fn_X9_tellCount c_t_now_crowd_there c_t_now_crowd_foggy c_t_now_sights_count c_t_pad_count x1 = some r) {H : Heap} {locs : List Loc} {ls : Array Slot} (hl : lv_has ls 2 [(0, .ref A_t), (1, .int x1)]) (hw : wd_ G A s.heap [ob_ A_t 9 [.ref A_t_now, .ref A_t_images, .ref A_t_pad, .ref A_t_evening, .ref A_t_ways, .ref A_t_tour, .ref A_t_odds, .int c_t_measured], ob_ A_t_now 5 [.ref A_t_now_marsh, .ref A_t_now_crowd, .ref A_t_now_sights], ob_ A_t_now_crowd 0 [.int c_t_now_crowd_there, .int c_t_now_crowd_foggy, .ref A_t_now_crowd_at, .ref A_t_now_crowd_home, .ref A_t_now_crowd_light, .ref A_t_now_crowd_carries, .ref A_t_now_crowd_bearer], ob_ A_t_now_sights 6 [.int c_t_now_sights_count, .ref A_t_now_sights_places, .ref A_t_now_sights_lights], ob_ A_t_pad 4 [.int c_t_pad_count, .ref A_t_pad_signs]] H locs) : W p l e { frames := 0, cells := 0, slots := 0, locals := 0 } s m args below meth c H locs 0 0 Q (F0 m 0 ls []) := by
  have hx := hC.1
  have hb := hC.2.1
  unfold fn_X9_tellCount at hf
  refine lv_iload_n hx hb dX9_tellCount_0 rfl (lv_at hl 1 rfl) ?_
  refine lv_if_ne (tgt := 12) hx hb dX9_tellCount_1 (by decide) (fun hc => ?_) (fun hc => ?_)
  · replace hf := it_f hc hf
    refine lv_iload_n hx hb dX9_tellCount_12 rfl (lv_at hl 1 rfl) ?_
    refine lv_iconst (v := 1) hx hb dX9_tellCount_13 (by decide) ?_
    refine lv_icmp_ne (tgt := 28) hx hb dX9_tellCount_14 (by decide) (fun hc => ?_) (fun hc => ?_)
    · replace hf := it_f hc hf
      refine lv_iload_n hx hb dX9_tellCount_28 rfl (lv_at hl 1 rfl) ?_
      refine lv_iconst (v := 2) hx hb dX9_tellCount_29 (by decide) ?_
      refine lv_icmp_ne (tgt := 52) hx hb dX9_tellCount_30 (by decide) (fun hc => ?_) (fun hc => ?_)
      · replace hf := it_f hc hf
        refine lv_aload_n hx hb dX9_tellCount_52 rfl (lv_at hl 0 rfl) ?_
        refine g_get hC hw fkX9_12 0 rfl rfl dX9_tellCount_53 ?_
        refine g_get hC hw fkX9_219 1 rfl rfl dX9_tellCount_56 ?_
        refine g_get hC hw fkX9_223 3 rfl rfl dX9_tellCount_59 ?_
        cases hf
        exact hret _ _ _ _ dX9_tellCount_62 hw
      · replace hf := it_t hc hf
        refine lv_aload_n hx hb dX9_tellCount_33 rfl (lv_at hl 0 rfl) ?_
        refine g_get hC hw fkX9_12 0 rfl rfl dX9_tellCount_34 ?_
        refine g_get hC hw fkX9_81 1 rfl rfl dX9_tellCount_37 ?_
        refine g_get hC hw fkX9_102 2 rfl rfl dX9_tellCount_40 ?_
        refine lv_if_eq (tgt := 50) hx hb dX9_tellCount_43 (by decide) (fun hc => ?_) (fun hc => ?_)
        · replace hf := it_t hc hf
          refine lv_iconst (v := 0) hx hb dX9_tellCount_50 (by decide) ?_
          cases hf
          exact hret _ _ _ _ dX9_tellCount_51 hw
        · replace hf := it_f hc hf
          refine lv_iconst (v := 1) hx hb dX9_tellCount_46 (by decide) ?_
          refine lv_goto (tgt := 51) hx hb dX9_tellCount_47 (by decide) ?_
          cases hf
          exact hret _ _ _ _ dX9_tellCount_51 hw
    · replace hf := it_t hc hf
      refine lv_aload_n hx hb dX9_tellCount_17 rfl (lv_at hl 0 rfl) ?_
      refine g_get hC hw fkX9_12 0 rfl rfl dX9_tellCount_18 ?_
      refine g_get hC hw fkX9_81 1 rfl rfl dX9_tellCount_21 ?_
      refine g_get hC hw fkX9_205 2 rfl rfl dX9_tellCount_24 ?_
      cases hf
      exact hret _ _ _ _ dX9_tellCount_27 hw
  · replace hf := it_t hc hf
    refine lv_aload_n hx hb dX9_tellCount_4 rfl (lv_at hl 0 rfl) ?_
    refine g_get hC hw fkX9_23 0 rfl rfl dX9_tellCount_5 ?_
    refine g_get hC hw fkX9_105 4 rfl rfl dX9_tellCount_8 ?_
    cases hf
    exact hret _ _ _ _ dX9_tellCount_11 hw
set_option maxHeartbeats 4000000 in
set_option maxRecDepth 100000 in
theorem cn_X9_tellCount (l : Launch) (G : gw_) (A_t : Nat) (A_t_now : Nat) (A_t_images : Nat) (A_t_pad : Nat) (A_t_evening : Nat) (A_t_ways : Nat) (A_t_tour : Nat) (A_t_odds : Nat) (A_t_now_marsh : Nat) (A_t_now_crowd : Nat) (A_t_now_sights : Nat) (A_t_now_crowd_at : Nat) (A_t_now_crowd_home : Nat) (A_t_now_crowd_light : Nat) (A_t_now_crowd_carries : Nat) (A_t_now_crowd_bearer : Nat) (A_t_now_sights_places : Nat) (A_t_now_sights_lights : Nat) (A_t_pad_signs : Nat) (c_t_measured : Int32) (c_t_now_crowd_there : Int32) (c_t_now_crowd_foggy : Int32) (c_t_now_sights_count : Int32) (c_t_pad_count : Int32) (x1 : Int32) (r : Int32) (hf : fn_X9_tellCount c_t_now_crowd_there c_t_now_crowd_foggy c_t_now_sights_count c_t_pad_count x1 = some r) : ci_ l G yX9_tellCount cX9_tellCount 2 (some .int) 0 0 [ob_ A_t 9 [.ref A_t_now, .ref A_t_images, .ref A_t_pad, .ref A_t_evening, .ref A_t_ways, .ref A_t_tour, .ref A_t_odds, .int c_t_measured], ob_ A_t_now 5 [.ref A_t_now_marsh, .ref A_t_now_crowd, .ref A_t_now_sights], ob_ A_t_now_crowd 0 [.int c_t_now_crowd_there, .int c_t_now_crowd_foggy, .ref A_t_now_crowd_at, .ref A_t_now_crowd_home, .ref A_t_now_crowd_light, .ref A_t_now_crowd_carries, .ref A_t_now_crowd_bearer], ob_ A_t_now_sights 6 [.int c_t_now_sights_count, .ref A_t_now_sights_places, .ref A_t_now_sights_lights], ob_ A_t_pad 4 [.int c_t_pad_count, .ref A_t_pad_signs]] [.ref A_t, .int x1] r [ob_ A_t 9 [.ref A_t_now, .ref A_t_images, .ref A_t_pad, .ref A_t_evening, .ref A_t_ways, .ref A_t_tour, .ref A_t_odds, .int c_t_measured], ob_ A_t_now 5 [.ref A_t_now_marsh, .ref A_t_now_crowd, .ref A_t_now_sights], ob_ A_t_now_crowd 0 [.int c_t_now_crowd_there, .int c_t_now_crowd_foggy, .ref A_t_now_crowd_at, .ref A_t_now_crowd_home, .ref A_t_now_crowd_light, .ref A_t_now_crowd_carries, .ref A_t_now_crowd_bearer], ob_ A_t_now_sights 6 [.int c_t_now_sights_count, .ref A_t_now_sights_places, .ref A_t_now_sights_lights], ob_ A_t_pad 4 [.int c_t_pad_count, .ref A_t_pad_signs]] := fun sz => met_intro (by decide) (Nat.le_of_ble_eq_true rfl) (fun p e s m args below meth c ls hsz hC hr hlk hnm hl hw => wn_X9_tellCount hC (fun pc H locs ls hd hw => g_iret hC hr hlk hw rfl rfl hd) hf hl hw)

theorem dX9_tellWalker_0 : decode cX9_tellWalker 0 = .ok (.aload_n 0, 1) := by decide +kernel
theorem dX9_tellWalker_1 : decode cX9_tellWalker 1 = .ok (.getfield 12, 3) := by decide +kernel
theorem dX9_tellWalker_4 : decode cX9_tellWalker 4 = .ok (.getfield 81, 3) := by decide +kernel
theorem dX9_tellWalker_7 : decode cX9_tellWalker 7 = .ok (.iload_n 1, 1) := by decide +kernel
theorem dX9_tellWalker_8 : decode cX9_tellWalker 8 = .ok (.invokevirtual 95, 3) := by decide +kernel
theorem dX9_tellWalker_11 : decode cX9_tellWalker 11 = .ok (.ifCond .eq 12, 3) := by decide +kernel
theorem dX9_tellWalker_14 : decode cX9_tellWalker 14 = .ok (.iload_n 2, 1) := by decide +kernel
theorem dX9_tellWalker_15 : decode cX9_tellWalker 15 = .ok (.iconst 0, 1) := by decide +kernel
theorem dX9_tellWalker_16 : decode cX9_tellWalker 16 = .ok (.iconst 3, 1) := by decide +kernel
theorem dX9_tellWalker_17 : decode cX9_tellWalker 17 = .ok (.invokestatic 63, 3) := by decide +kernel
theorem dX9_tellWalker_20 : decode cX9_tellWalker 20 = .ok (.ifCond .ne 6, 3) := by decide +kernel
theorem dX9_tellWalker_23 : decode cX9_tellWalker 23 = .ok (.bipush (-2), 2) := by decide +kernel
theorem dX9_tellWalker_25 : decode cX9_tellWalker 25 = .ok (.ireturn, 1) := by decide +kernel
theorem dX9_tellWalker_26 : decode cX9_tellWalker 26 = .ok (.iload_n 2, 1) := by decide +kernel
theorem dX9_tellWalker_27 : decode cX9_tellWalker 27 = .ok (.ifCond .ne 16, 3) := by decide +kernel
theorem dX9_tellWalker_30 : decode cX9_tellWalker 30 = .ok (.aload_n 0, 1) := by decide +kernel
theorem dX9_tellWalker_31 : decode cX9_tellWalker 31 = .ok (.getfield 12, 3) := by decide +kernel
theorem dX9_tellWalker_34 : decode cX9_tellWalker 34 = .ok (.getfield 81, 3) := by decide +kernel
theorem dX9_tellWalker_37 : decode cX9_tellWalker 37 = .ok (.getfield 131, 3) := by decide +kernel
theorem dX9_tellWalker_40 : decode cX9_tellWalker 40 = .ok (.iload_n 1, 1) := by decide +kernel
theorem dX9_tellWalker_41 : decode cX9_tellWalker 41 = .ok (.iaload, 1) := by decide +kernel
theorem dX9_tellWalker_42 : decode cX9_tellWalker 42 = .ok (.ireturn, 1) := by decide +kernel
theorem dX9_tellWalker_43 : decode cX9_tellWalker 43 = .ok (.iload_n 2, 1) := by decide +kernel
theorem dX9_tellWalker_44 : decode cX9_tellWalker 44 = .ok (.iconst 1, 1) := by decide +kernel
theorem dX9_tellWalker_45 : decode cX9_tellWalker 45 = .ok (.if_icmp .ne 16, 3) := by decide +kernel
theorem dX9_tellWalker_48 : decode cX9_tellWalker 48 = .ok (.aload_n 0, 1) := by decide +kernel
theorem dX9_tellWalker_49 : decode cX9_tellWalker 49 = .ok (.getfield 12, 3) := by decide +kernel
theorem dX9_tellWalker_52 : decode cX9_tellWalker 52 = .ok (.getfield 81, 3) := by decide +kernel
theorem dX9_tellWalker_55 : decode cX9_tellWalker 55 = .ok (.getfield 248, 3) := by decide +kernel
theorem dX9_tellWalker_58 : decode cX9_tellWalker 58 = .ok (.iload_n 1, 1) := by decide +kernel
theorem dX9_tellWalker_59 : decode cX9_tellWalker 59 = .ok (.iaload, 1) := by decide +kernel
theorem dX9_tellWalker_60 : decode cX9_tellWalker 60 = .ok (.ireturn, 1) := by decide +kernel
theorem dX9_tellWalker_61 : decode cX9_tellWalker 61 = .ok (.iload_n 2, 1) := by decide +kernel
theorem dX9_tellWalker_62 : decode cX9_tellWalker 62 = .ok (.iconst 2, 1) := by decide +kernel
theorem dX9_tellWalker_63 : decode cX9_tellWalker 63 = .ok (.if_icmp .ne 18, 3) := by decide +kernel
theorem dX9_tellWalker_66 : decode cX9_tellWalker 66 = .ok (.aload_n 0, 1) := by decide +kernel
theorem dX9_tellWalker_67 : decode cX9_tellWalker 67 = .ok (.getfield 12, 3) := by decide +kernel
theorem dX9_tellWalker_70 : decode cX9_tellWalker 70 = .ok (.getfield 81, 3) := by decide +kernel
theorem dX9_tellWalker_73 : decode cX9_tellWalker 73 = .ok (.getfield 135, 3) := by decide +kernel
theorem dX9_tellWalker_76 : decode cX9_tellWalker 76 = .ok (.iload_n 1, 1) := by decide +kernel
theorem dX9_tellWalker_77 : decode cX9_tellWalker 77 = .ok (.iaload, 1) := by decide +kernel
theorem dX9_tellWalker_78 : decode cX9_tellWalker 78 = .ok (.goto 15, 3) := by decide +kernel
theorem dX9_tellWalker_81 : decode cX9_tellWalker 81 = .ok (.aload_n 0, 1) := by decide +kernel
theorem dX9_tellWalker_82 : decode cX9_tellWalker 82 = .ok (.getfield 12, 3) := by decide +kernel
theorem dX9_tellWalker_85 : decode cX9_tellWalker 85 = .ok (.getfield 81, 3) := by decide +kernel
theorem dX9_tellWalker_88 : decode cX9_tellWalker 88 = .ok (.getfield 138, 3) := by decide +kernel
theorem dX9_tellWalker_91 : decode cX9_tellWalker 91 = .ok (.iload_n 1, 1) := by decide +kernel
theorem dX9_tellWalker_92 : decode cX9_tellWalker 92 = .ok (.iaload, 1) := by decide +kernel
theorem dX9_tellWalker_93 : decode cX9_tellWalker 93 = .ok (.ireturn, 1) := by decide +kernel
def fn_X9_tellWalker (c_t_now_crowd_there : Int32) (c_t_now_crowd_at : Nat → Int32) (c_t_now_crowd_home : Nat → Int32) (c_t_now_crowd_light : Nat → Int32) (c_t_now_crowd_carries : Nat → Int32) (x1 : Int32) (x2 : Int32) : Option (Int32) :=
  b1_ (fn_X0_has c_t_now_crowd_there x1) fun r1 =>
  if r1 = 0 then
    some (-2)
  else
    b1_ (fn_X9_isWithin x2 0 3) fun r3 =>
    if r3 = 0 then
      some (-2)
    else
      if x2 = 0 then
        ck_ x1 6 <|
        some (c_t_now_crowd_at (Int32.toNatClampNeg x1))
      else
        if x2 = 1 then
          ck_ x1 6 <|
          some (c_t_now_crowd_home (Int32.toNatClampNeg x1))
        else
          if x2 = 2 then
            ck_ x1 6 <|
            some (c_t_now_crowd_light (Int32.toNatClampNeg x1))
          else
            ck_ x1 6 <|
            some (c_t_now_crowd_carries (Int32.toNatClampNeg x1))
set_option maxHeartbeats 4000000 in
set_option maxRecDepth 100000 in
theorem wn_X9_tellWalker {p : Program} {l : Launch} {e : Env} {s : State} {m : MethodId} {args : Array Value} {below : List Frame} {meth : Method} {c : Code} {G : gw_} {A : Nat → Prop} {Q : State → Prop} {A_t : Nat} {A_t_now : Nat} {A_t_images : Nat} {A_t_pad : Nat} {A_t_evening : Nat} {A_t_ways : Nat} {A_t_tour : Nat} {A_t_odds : Nat} {A_t_now_marsh : Nat} {A_t_now_crowd : Nat} {A_t_now_sights : Nat} {A_t_now_crowd_at : Nat} {A_t_now_crowd_home : Nat} {A_t_now_crowd_light : Nat} {A_t_now_crowd_carries : Nat} {A_t_now_crowd_bearer : Nat} {c_t_measured : Int32} {c_t_now_crowd_there : Int32} {c_t_now_crowd_foggy : Int32} {c_t_now_crowd_at : Nat → Int32} {c_t_now_crowd_home : Nat → Int32} {c_t_now_crowd_light : Nat → Int32} {c_t_now_crowd_carries : Nat → Int32} {r : Int32} {x1 : Int32} {x2 : Int32} (hC : cx_ p s m c G cX9_tellWalker 3 RX9) (hret : ∀ (pc : Nat) (H : Heap) (locs : List Loc) (ls : Array Slot), decode cX9_tellWalker pc = .ok (.ireturn, 1) → wd_ G A s.heap [ob_ A_t 9 [.ref A_t_now, .ref A_t_images, .ref A_t_pad, .ref A_t_evening, .ref A_t_ways, .ref A_t_tour, .ref A_t_odds, .int c_t_measured], ob_ A_t_now 5 [.ref A_t_now_marsh, .ref A_t_now_crowd, .ref A_t_now_sights], ob_ A_t_now_crowd 0 [.int c_t_now_crowd_there, .int c_t_now_crowd_foggy, .ref A_t_now_crowd_at, .ref A_t_now_crowd_home, .ref A_t_now_crowd_light, .ref A_t_now_crowd_carries, .ref A_t_now_crowd_bearer], ia_ G A_t_now_crowd_at 6 c_t_now_crowd_at, ia_ G A_t_now_crowd_home 6 c_t_now_crowd_home, ia_ G A_t_now_crowd_light 6 c_t_now_crowd_light, ia_ G A_t_now_crowd_carries 6 c_t_now_crowd_carries] H locs → W p l e { frames := 2, cells := 0, slots := 0, locals := 43 } s m args below meth c H locs 0 0 Q (F0 m pc ls [.int r])) (hf : fn_X9_tellWalker c_t_now_crowd_there c_t_now_crowd_at c_t_now_crowd_home c_t_now_crowd_light c_t_now_crowd_carries x1 x2 = some r) {H : Heap} {locs : List Loc} {ls : Array Slot} (hl : lv_has ls 3 [(0, .ref A_t), (1, .int x1), (2, .int x2)]) (hw : wd_ G A s.heap [ob_ A_t 9 [.ref A_t_now, .ref A_t_images, .ref A_t_pad, .ref A_t_evening, .ref A_t_ways, .ref A_t_tour, .ref A_t_odds, .int c_t_measured], ob_ A_t_now 5 [.ref A_t_now_marsh, .ref A_t_now_crowd, .ref A_t_now_sights], ob_ A_t_now_crowd 0 [.int c_t_now_crowd_there, .int c_t_now_crowd_foggy, .ref A_t_now_crowd_at, .ref A_t_now_crowd_home, .ref A_t_now_crowd_light, .ref A_t_now_crowd_carries, .ref A_t_now_crowd_bearer], ia_ G A_t_now_crowd_at 6 c_t_now_crowd_at, ia_ G A_t_now_crowd_home 6 c_t_now_crowd_home, ia_ G A_t_now_crowd_light 6 c_t_now_crowd_light, ia_ G A_t_now_crowd_carries 6 c_t_now_crowd_carries] H locs) : W p l e { frames := 2, cells := 0, slots := 0, locals := 43 } s m args below meth c H locs 0 0 Q (F0 m 0 ls []) := by
  have hx := hC.1
  have hb := hC.2.1
  unfold fn_X9_tellWalker at hf
  refine lv_aload_n hx hb dX9_tellWalker_0 rfl (lv_at hl 0 rfl) ?_
  refine g_get hC hw fkX9_12 0 rfl rfl dX9_tellWalker_1 ?_
  refine g_get hC hw fkX9_81 1 rfl rfl dX9_tellWalker_4 ?_
  refine lv_iload_n hx hb dX9_tellWalker_7 rfl (lv_at hl 1 rfl) ?_
  obtain ⟨r1, hq2, hf⟩ := b1_s hf
  refine g_cVi hC hw mvX9_95 (cn_X0_has l G A_t_now_crowd A_t_now_crowd_at A_t_now_crowd_home A_t_now_crowd_light A_t_now_crowd_carries A_t_now_crowd_bearer c_t_now_crowd_there c_t_now_crowd_foggy x1 r1 hq2) [2] rfl (by decide) rfl 2 rfl rfl rfl hl.1 rfl (Nat.le_of_ble_eq_true rfl) ⟨Nat.le_of_ble_eq_true rfl, Nat.le_of_ble_eq_true rfl⟩ ⟨Nat.le_refl _, Nat.le_refl _⟩ dX9_tellWalker_8 (fun H locs hw => ?_)
  have hw : wd_ G A s.heap [ob_ A_t 9 [.ref A_t_now, .ref A_t_images, .ref A_t_pad, .ref A_t_evening, .ref A_t_ways, .ref A_t_tour, .ref A_t_odds, .int c_t_measured], ob_ A_t_now 5 [.ref A_t_now_marsh, .ref A_t_now_crowd, .ref A_t_now_sights], ob_ A_t_now_crowd 0 [.int c_t_now_crowd_there, .int c_t_now_crowd_foggy, .ref A_t_now_crowd_at, .ref A_t_now_crowd_home, .ref A_t_now_crowd_light, .ref A_t_now_crowd_carries, .ref A_t_now_crowd_bearer], ia_ G A_t_now_crowd_at 6 c_t_now_crowd_at, ia_ G A_t_now_crowd_home 6 c_t_now_crowd_home, ia_ G A_t_now_crowd_light 6 c_t_now_crowd_light, ia_ G A_t_now_crowd_carries 6 c_t_now_crowd_carries] H locs := hw
  refine lv_if_eq (tgt := 23) hx hb dX9_tellWalker_11 (by decide) (fun hc => ?_) (fun hc => ?_)
  · replace hf := it_t hc hf
    refine lv_bipush (v := (-2)) hx hb dX9_tellWalker_23 (by decide) ?_
    cases hf
    exact hret _ _ _ _ dX9_tellWalker_25 hw
  · replace hf := it_f hc hf
    refine lv_iload_n hx hb dX9_tellWalker_14 rfl (lv_at hl 2 rfl) ?_
    refine lv_iconst (v := 0) hx hb dX9_tellWalker_15 (by decide) ?_
    refine lv_iconst (v := 3) hx hb dX9_tellWalker_16 (by decide) ?_
    obtain ⟨r3, hq4, hf⟩ := b1_s hf
    refine g_cSi hC hw msX9_63 (cn_X9_isWithin l G x2 0 3 r3 hq4) [] rfl (by decide) rfl rfl hl.1 rfl (Nat.le_of_ble_eq_true rfl) ⟨Nat.le_of_ble_eq_true rfl, Nat.le_of_ble_eq_true rfl⟩ ⟨Nat.le_refl _, Nat.le_refl _⟩ dX9_tellWalker_17 (fun H locs hw => ?_)
    have hw : wd_ G A s.heap [ob_ A_t 9 [.ref A_t_now, .ref A_t_images, .ref A_t_pad, .ref A_t_evening, .ref A_t_ways, .ref A_t_tour, .ref A_t_odds, .int c_t_measured], ob_ A_t_now 5 [.ref A_t_now_marsh, .ref A_t_now_crowd, .ref A_t_now_sights], ob_ A_t_now_crowd 0 [.int c_t_now_crowd_there, .int c_t_now_crowd_foggy, .ref A_t_now_crowd_at, .ref A_t_now_crowd_home, .ref A_t_now_crowd_light, .ref A_t_now_crowd_carries, .ref A_t_now_crowd_bearer], ia_ G A_t_now_crowd_at 6 c_t_now_crowd_at, ia_ G A_t_now_crowd_home 6 c_t_now_crowd_home, ia_ G A_t_now_crowd_light 6 c_t_now_crowd_light, ia_ G A_t_now_crowd_carries 6 c_t_now_crowd_carries] H locs := hw
    refine lv_if_ne (tgt := 26) hx hb dX9_tellWalker_20 (by decide) (fun hc => ?_) (fun hc => ?_)
    · replace hf := it_f hc hf
      refine lv_iload_n hx hb dX9_tellWalker_26 rfl (lv_at hl 2 rfl) ?_
      refine lv_if_ne (tgt := 43) hx hb dX9_tellWalker_27 (by decide) (fun hc => ?_) (fun hc => ?_)
      · replace hf := it_f hc hf
        refine lv_iload_n hx hb dX9_tellWalker_43 rfl (lv_at hl 2 rfl) ?_
        refine lv_iconst (v := 1) hx hb dX9_tellWalker_44 (by decide) ?_
        refine lv_icmp_ne (tgt := 61) hx hb dX9_tellWalker_45 (by decide) (fun hc => ?_) (fun hc => ?_)
        · replace hf := it_f hc hf
          refine lv_iload_n hx hb dX9_tellWalker_61 rfl (lv_at hl 2 rfl) ?_
          refine lv_iconst (v := 2) hx hb dX9_tellWalker_62 (by decide) ?_
          refine lv_icmp_ne (tgt := 81) hx hb dX9_tellWalker_63 (by decide) (fun hc => ?_) (fun hc => ?_)
          · replace hf := it_f hc hf
            refine lv_aload_n hx hb dX9_tellWalker_81 rfl (lv_at hl 0 rfl) ?_
            refine g_get hC hw fkX9_12 0 rfl rfl dX9_tellWalker_82 ?_
            refine g_get hC hw fkX9_81 1 rfl rfl dX9_tellWalker_85 ?_
            refine g_get hC hw fkX9_138 2 rfl rfl dX9_tellWalker_88 ?_
            refine lv_iload_n hx hb dX9_tellWalker_91 rfl (lv_at hl 1 rfl) ?_
            obtain ⟨hi, hf⟩ := ck_s hf
            refine g_iald hC hw 6 rfl hi dX9_tellWalker_92 ?_
            cases hf
            exact hret _ _ _ _ dX9_tellWalker_93 hw
          · replace hf := it_t hc hf
            refine lv_aload_n hx hb dX9_tellWalker_66 rfl (lv_at hl 0 rfl) ?_
            refine g_get hC hw fkX9_12 0 rfl rfl dX9_tellWalker_67 ?_
            refine g_get hC hw fkX9_81 1 rfl rfl dX9_tellWalker_70 ?_
            refine g_get hC hw fkX9_135 2 rfl rfl dX9_tellWalker_73 ?_
            refine lv_iload_n hx hb dX9_tellWalker_76 rfl (lv_at hl 1 rfl) ?_
            obtain ⟨hi, hf⟩ := ck_s hf
            refine g_iald hC hw 5 rfl hi dX9_tellWalker_77 ?_
            refine lv_goto (tgt := 93) hx hb dX9_tellWalker_78 (by decide) ?_
            cases hf
            exact hret _ _ _ _ dX9_tellWalker_93 hw
        · replace hf := it_t hc hf
          refine lv_aload_n hx hb dX9_tellWalker_48 rfl (lv_at hl 0 rfl) ?_
          refine g_get hC hw fkX9_12 0 rfl rfl dX9_tellWalker_49 ?_
          refine g_get hC hw fkX9_81 1 rfl rfl dX9_tellWalker_52 ?_
          refine g_get hC hw fkX9_248 2 rfl rfl dX9_tellWalker_55 ?_
          refine lv_iload_n hx hb dX9_tellWalker_58 rfl (lv_at hl 1 rfl) ?_
          obtain ⟨hi, hf⟩ := ck_s hf
          refine g_iald hC hw 4 rfl hi dX9_tellWalker_59 ?_
          cases hf
          exact hret _ _ _ _ dX9_tellWalker_60 hw
      · replace hf := it_t hc hf
        refine lv_aload_n hx hb dX9_tellWalker_30 rfl (lv_at hl 0 rfl) ?_
        refine g_get hC hw fkX9_12 0 rfl rfl dX9_tellWalker_31 ?_
        refine g_get hC hw fkX9_81 1 rfl rfl dX9_tellWalker_34 ?_
        refine g_get hC hw fkX9_131 2 rfl rfl dX9_tellWalker_37 ?_
        refine lv_iload_n hx hb dX9_tellWalker_40 rfl (lv_at hl 1 rfl) ?_
        obtain ⟨hi, hf⟩ := ck_s hf
        refine g_iald hC hw 3 rfl hi dX9_tellWalker_41 ?_
        cases hf
        exact hret _ _ _ _ dX9_tellWalker_42 hw
    · replace hf := it_t hc hf
      refine lv_bipush (v := (-2)) hx hb dX9_tellWalker_23 (by decide) ?_
      cases hf
      exact hret _ _ _ _ dX9_tellWalker_25 hw
set_option maxHeartbeats 4000000 in
set_option maxRecDepth 100000 in
theorem cn_X9_tellWalker (l : Launch) (G : gw_) (A_t : Nat) (A_t_now : Nat) (A_t_images : Nat) (A_t_pad : Nat) (A_t_evening : Nat) (A_t_ways : Nat) (A_t_tour : Nat) (A_t_odds : Nat) (A_t_now_marsh : Nat) (A_t_now_crowd : Nat) (A_t_now_sights : Nat) (A_t_now_crowd_at : Nat) (A_t_now_crowd_home : Nat) (A_t_now_crowd_light : Nat) (A_t_now_crowd_carries : Nat) (A_t_now_crowd_bearer : Nat) (c_t_measured : Int32) (c_t_now_crowd_there : Int32) (c_t_now_crowd_foggy : Int32) (c_t_now_crowd_at : Nat → Int32) (c_t_now_crowd_home : Nat → Int32) (c_t_now_crowd_light : Nat → Int32) (c_t_now_crowd_carries : Nat → Int32) (x1 : Int32) (x2 : Int32) (r : Int32) (hf : fn_X9_tellWalker c_t_now_crowd_there c_t_now_crowd_at c_t_now_crowd_home c_t_now_crowd_light c_t_now_crowd_carries x1 x2 = some r) : ci_ l G yX9_tellWalker cX9_tellWalker 3 (some .int) 2 43 [ob_ A_t 9 [.ref A_t_now, .ref A_t_images, .ref A_t_pad, .ref A_t_evening, .ref A_t_ways, .ref A_t_tour, .ref A_t_odds, .int c_t_measured], ob_ A_t_now 5 [.ref A_t_now_marsh, .ref A_t_now_crowd, .ref A_t_now_sights], ob_ A_t_now_crowd 0 [.int c_t_now_crowd_there, .int c_t_now_crowd_foggy, .ref A_t_now_crowd_at, .ref A_t_now_crowd_home, .ref A_t_now_crowd_light, .ref A_t_now_crowd_carries, .ref A_t_now_crowd_bearer], ia_ G A_t_now_crowd_at 6 c_t_now_crowd_at, ia_ G A_t_now_crowd_home 6 c_t_now_crowd_home, ia_ G A_t_now_crowd_light 6 c_t_now_crowd_light, ia_ G A_t_now_crowd_carries 6 c_t_now_crowd_carries] [.ref A_t, .int x1, .int x2] r [ob_ A_t 9 [.ref A_t_now, .ref A_t_images, .ref A_t_pad, .ref A_t_evening, .ref A_t_ways, .ref A_t_tour, .ref A_t_odds, .int c_t_measured], ob_ A_t_now 5 [.ref A_t_now_marsh, .ref A_t_now_crowd, .ref A_t_now_sights], ob_ A_t_now_crowd 0 [.int c_t_now_crowd_there, .int c_t_now_crowd_foggy, .ref A_t_now_crowd_at, .ref A_t_now_crowd_home, .ref A_t_now_crowd_light, .ref A_t_now_crowd_carries, .ref A_t_now_crowd_bearer], ia_ G A_t_now_crowd_at 6 c_t_now_crowd_at, ia_ G A_t_now_crowd_home 6 c_t_now_crowd_home, ia_ G A_t_now_crowd_light 6 c_t_now_crowd_light, ia_ G A_t_now_crowd_carries 6 c_t_now_crowd_carries] := fun sz => met_intro (by decide) (Nat.le_of_ble_eq_true rfl) (fun p e s m args below meth c ls hsz hC hr hlk hnm hl hw => wn_X9_tellWalker hC (fun pc H locs ls hd hw => g_iret hC hr hlk hw rfl rfl hd) hf hl hw)

theorem dX9_told_0 : decode cX9_told 0 = .ok (.iload_n 1, 1) := by decide +kernel
theorem dX9_told_1 : decode cX9_told 1 = .ok (.iconst 0, 1) := by decide +kernel
theorem dX9_told_2 : decode cX9_told 2 = .ok (.iconst 3, 1) := by decide +kernel
theorem dX9_told_3 : decode cX9_told 3 = .ok (.invokestatic 63, 3) := by decide +kernel
theorem dX9_told_6 : decode cX9_told 6 = .ok (.ifCond .eq 9, 3) := by decide +kernel
theorem dX9_told_9 : decode cX9_told 9 = .ok (.aload_n 0, 1) := by decide +kernel
theorem dX9_told_10 : decode cX9_told 10 = .ok (.iload_n 1, 1) := by decide +kernel
theorem dX9_told_11 : decode cX9_told 11 = .ok (.invokevirtual 276, 3) := by decide +kernel
theorem dX9_told_14 : decode cX9_told 14 = .ok (.ireturn, 1) := by decide +kernel
theorem dX9_told_15 : decode cX9_told 15 = .ok (.iload_n 1, 1) := by decide +kernel
theorem dX9_told_16 : decode cX9_told 16 = .ok (.bipush 10, 2) := by decide +kernel
theorem dX9_told_18 : decode cX9_told 18 = .ok (.bipush 69, 2) := by decide +kernel
theorem dX9_told_20 : decode cX9_told 20 = .ok (.invokestatic 63, 3) := by decide +kernel
theorem dX9_told_23 : decode cX9_told 23 = .ok (.ifCond .eq 18, 3) := by decide +kernel
theorem dX9_told_26 : decode cX9_told 26 = .ok (.aload_n 0, 1) := by decide +kernel
theorem dX9_told_27 : decode cX9_told 27 = .ok (.iload_n 1, 1) := by decide +kernel
theorem dX9_told_28 : decode cX9_told 28 = .ok (.bipush 10, 2) := by decide +kernel
theorem dX9_told_30 : decode cX9_told 30 = .ok (.idiv, 1) := by decide +kernel
theorem dX9_told_31 : decode cX9_told 31 = .ok (.iconst 1, 1) := by decide +kernel
theorem dX9_told_32 : decode cX9_told 32 = .ok (.isub, 1) := by decide +kernel
theorem dX9_told_33 : decode cX9_told 33 = .ok (.iload_n 1, 1) := by decide +kernel
theorem dX9_told_34 : decode cX9_told 34 = .ok (.bipush 10, 2) := by decide +kernel
theorem dX9_told_36 : decode cX9_told 36 = .ok (.irem, 1) := by decide +kernel
theorem dX9_told_37 : decode cX9_told 37 = .ok (.invokevirtual 279, 3) := by decide +kernel
theorem dX9_told_40 : decode cX9_told 40 = .ok (.ireturn, 1) := by decide +kernel
theorem dX9_told_41 : decode cX9_told 41 = .ok (.iload_n 1, 1) := by decide +kernel
theorem dX9_told_42 : decode cX9_told 42 = .ok (.bipush 100, 2) := by decide +kernel
theorem dX9_told_44 : decode cX9_told 44 = .ok (.sipush 243, 3) := by decide +kernel
theorem dX9_told_47 : decode cX9_told 47 = .ok (.invokestatic 63, 3) := by decide +kernel
theorem dX9_told_50 : decode cX9_told 50 = .ok (.ifCond .eq 28, 3) := by decide +kernel
theorem dX9_told_53 : decode cX9_told 53 = .ok (.aload_n 0, 1) := by decide +kernel
theorem dX9_told_54 : decode cX9_told 54 = .ok (.getfield 12, 3) := by decide +kernel
theorem dX9_told_57 : decode cX9_told 57 = .ok (.getfield 67, 3) := by decide +kernel
theorem dX9_told_60 : decode cX9_told 60 = .ok (.iload_n 1, 1) := by decide +kernel
theorem dX9_told_61 : decode cX9_told 61 = .ok (.bipush 100, 2) := by decide +kernel
theorem dX9_told_63 : decode cX9_told 63 = .ok (.isub, 1) := by decide +kernel
theorem dX9_told_64 : decode cX9_told 64 = .ok (.bipush 12, 2) := by decide +kernel
theorem dX9_told_66 : decode cX9_told 66 = .ok (.idiv, 1) := by decide +kernel
theorem dX9_told_67 : decode cX9_told 67 = .ok (.iload_n 1, 1) := by decide +kernel
theorem dX9_told_68 : decode cX9_told 68 = .ok (.bipush 100, 2) := by decide +kernel
theorem dX9_told_70 : decode cX9_told 70 = .ok (.isub, 1) := by decide +kernel
theorem dX9_told_71 : decode cX9_told 71 = .ok (.bipush 12, 2) := by decide +kernel
theorem dX9_told_73 : decode cX9_told 73 = .ok (.irem, 1) := by decide +kernel
theorem dX9_told_74 : decode cX9_told 74 = .ok (.invokevirtual 71, 3) := by decide +kernel
theorem dX9_told_77 : decode cX9_told 77 = .ok (.ireturn, 1) := by decide +kernel
theorem dX9_told_78 : decode cX9_told 78 = .ok (.bipush (-2), 2) := by decide +kernel
theorem dX9_told_80 : decode cX9_told 80 = .ok (.ireturn, 1) := by decide +kernel
def fn_X9_told (c_t_now_marsh_codes : Nat → Int32) (c_t_now_crowd_there : Int32) (c_t_now_crowd_foggy : Int32) (c_t_now_crowd_at : Nat → Int32) (c_t_now_crowd_home : Nat → Int32) (c_t_now_crowd_light : Nat → Int32) (c_t_now_crowd_carries : Nat → Int32) (c_t_now_sights_count : Int32) (c_t_pad_count : Int32) (x1 : Int32) : Option (Int32) :=
  b1_ (fn_X9_isWithin x1 0 3) fun r1 =>
  if r1 = 0 then
    b1_ (fn_X9_isWithin x1 10 69) fun r3 =>
    if r3 = 0 then
      b1_ (fn_X9_isWithin x1 100 243) fun r5 =>
      if r5 = 0 then
        some (-2)
      else
        b1_ (fn_X2_code c_t_now_marsh_codes ((x1 - 100) / 12) ((x1 - 100) - (x1 - 100) / 12 * 12)) fun r7 =>
        some r7
    else
      b1_ (fn_X9_tellWalker c_t_now_crowd_there c_t_now_crowd_at c_t_now_crowd_home c_t_now_crowd_light c_t_now_crowd_carries ((x1 / 10) - 1) (x1 - x1 / 10 * 10)) fun r9 =>
      some r9
  else
    b1_ (fn_X9_tellCount c_t_now_crowd_there c_t_now_crowd_foggy c_t_now_sights_count c_t_pad_count x1) fun r11 =>
    some r11
set_option maxHeartbeats 4000000 in
set_option maxRecDepth 100000 in
theorem wn_X9_told {p : Program} {l : Launch} {e : Env} {s : State} {m : MethodId} {args : Array Value} {below : List Frame} {meth : Method} {c : Code} {G : gw_} {A : Nat → Prop} {Q : State → Prop} {A_t : Nat} {A_t_now : Nat} {A_t_images : Nat} {A_t_pad : Nat} {A_t_evening : Nat} {A_t_ways : Nat} {A_t_tour : Nat} {A_t_odds : Nat} {A_t_now_marsh : Nat} {A_t_now_crowd : Nat} {A_t_now_sights : Nat} {A_t_now_marsh_codes : Nat} {A_t_now_crowd_at : Nat} {A_t_now_crowd_home : Nat} {A_t_now_crowd_light : Nat} {A_t_now_crowd_carries : Nat} {A_t_now_crowd_bearer : Nat} {A_t_now_sights_places : Nat} {A_t_now_sights_lights : Nat} {A_t_pad_signs : Nat} {c_t_measured : Int32} {c_t_now_marsh_codes : Nat → Int32} {c_t_now_crowd_there : Int32} {c_t_now_crowd_foggy : Int32} {c_t_now_crowd_at : Nat → Int32} {c_t_now_crowd_home : Nat → Int32} {c_t_now_crowd_light : Nat → Int32} {c_t_now_crowd_carries : Nat → Int32} {c_t_now_sights_count : Int32} {c_t_pad_count : Int32} {r : Int32} {x1 : Int32} (hC : cx_ p s m c G cX9_told 2 RX9) (hret : ∀ (pc : Nat) (H : Heap) (locs : List Loc) (ls : Array Slot), decode cX9_told pc = .ok (.ireturn, 1) → wd_ G A s.heap [ob_ A_t 9 [.ref A_t_now, .ref A_t_images, .ref A_t_pad, .ref A_t_evening, .ref A_t_ways, .ref A_t_tour, .ref A_t_odds, .int c_t_measured], ob_ A_t_now 5 [.ref A_t_now_marsh, .ref A_t_now_crowd, .ref A_t_now_sights], ob_ A_t_now_marsh 2 [.ref A_t_now_marsh_codes], ia_ G A_t_now_marsh_codes 144 c_t_now_marsh_codes, ob_ A_t_now_crowd 0 [.int c_t_now_crowd_there, .int c_t_now_crowd_foggy, .ref A_t_now_crowd_at, .ref A_t_now_crowd_home, .ref A_t_now_crowd_light, .ref A_t_now_crowd_carries, .ref A_t_now_crowd_bearer], ia_ G A_t_now_crowd_at 6 c_t_now_crowd_at, ia_ G A_t_now_crowd_home 6 c_t_now_crowd_home, ia_ G A_t_now_crowd_light 6 c_t_now_crowd_light, ia_ G A_t_now_crowd_carries 6 c_t_now_crowd_carries, ob_ A_t_now_sights 6 [.int c_t_now_sights_count, .ref A_t_now_sights_places, .ref A_t_now_sights_lights], ob_ A_t_pad 4 [.int c_t_pad_count, .ref A_t_pad_signs]] H locs → W p l e { frames := 3, cells := 0, slots := 0, locals := 65 } s m args below meth c H locs 0 0 Q (F0 m pc ls [.int r])) (hf : fn_X9_told c_t_now_marsh_codes c_t_now_crowd_there c_t_now_crowd_foggy c_t_now_crowd_at c_t_now_crowd_home c_t_now_crowd_light c_t_now_crowd_carries c_t_now_sights_count c_t_pad_count x1 = some r) {H : Heap} {locs : List Loc} {ls : Array Slot} (hl : lv_has ls 2 [(0, .ref A_t), (1, .int x1)]) (hw : wd_ G A s.heap [ob_ A_t 9 [.ref A_t_now, .ref A_t_images, .ref A_t_pad, .ref A_t_evening, .ref A_t_ways, .ref A_t_tour, .ref A_t_odds, .int c_t_measured], ob_ A_t_now 5 [.ref A_t_now_marsh, .ref A_t_now_crowd, .ref A_t_now_sights], ob_ A_t_now_marsh 2 [.ref A_t_now_marsh_codes], ia_ G A_t_now_marsh_codes 144 c_t_now_marsh_codes, ob_ A_t_now_crowd 0 [.int c_t_now_crowd_there, .int c_t_now_crowd_foggy, .ref A_t_now_crowd_at, .ref A_t_now_crowd_home, .ref A_t_now_crowd_light, .ref A_t_now_crowd_carries, .ref A_t_now_crowd_bearer], ia_ G A_t_now_crowd_at 6 c_t_now_crowd_at, ia_ G A_t_now_crowd_home 6 c_t_now_crowd_home, ia_ G A_t_now_crowd_light 6 c_t_now_crowd_light, ia_ G A_t_now_crowd_carries 6 c_t_now_crowd_carries, ob_ A_t_now_sights 6 [.int c_t_now_sights_count, .ref A_t_now_sights_places, .ref A_t_now_sights_lights], ob_ A_t_pad 4 [.int c_t_pad_count, .ref A_t_pad_signs]] H locs) : W p l e { frames := 3, cells := 0, slots := 0, locals := 65 } s m args below meth c H locs 0 0 Q (F0 m 0 ls []) := by
  have hx := hC.1
  have hb := hC.2.1
  unfold fn_X9_told at hf
  refine lv_iload_n hx hb dX9_told_0 rfl (lv_at hl 1 rfl) ?_
  refine lv_iconst (v := 0) hx hb dX9_told_1 (by decide) ?_
  refine lv_iconst (v := 3) hx hb dX9_told_2 (by decide) ?_
  obtain ⟨r1, hq2, hf⟩ := b1_s hf
  refine g_cSi hC hw msX9_63 (cn_X9_isWithin l G x1 0 3 r1 hq2) [] rfl (by decide) rfl rfl hl.1 rfl (Nat.le_of_ble_eq_true rfl) ⟨Nat.le_of_ble_eq_true rfl, Nat.le_of_ble_eq_true rfl⟩ ⟨Nat.le_refl _, Nat.le_refl _⟩ dX9_told_3 (fun H locs hw => ?_)
  have hw : wd_ G A s.heap [ob_ A_t 9 [.ref A_t_now, .ref A_t_images, .ref A_t_pad, .ref A_t_evening, .ref A_t_ways, .ref A_t_tour, .ref A_t_odds, .int c_t_measured], ob_ A_t_now 5 [.ref A_t_now_marsh, .ref A_t_now_crowd, .ref A_t_now_sights], ob_ A_t_now_marsh 2 [.ref A_t_now_marsh_codes], ia_ G A_t_now_marsh_codes 144 c_t_now_marsh_codes, ob_ A_t_now_crowd 0 [.int c_t_now_crowd_there, .int c_t_now_crowd_foggy, .ref A_t_now_crowd_at, .ref A_t_now_crowd_home, .ref A_t_now_crowd_light, .ref A_t_now_crowd_carries, .ref A_t_now_crowd_bearer], ia_ G A_t_now_crowd_at 6 c_t_now_crowd_at, ia_ G A_t_now_crowd_home 6 c_t_now_crowd_home, ia_ G A_t_now_crowd_light 6 c_t_now_crowd_light, ia_ G A_t_now_crowd_carries 6 c_t_now_crowd_carries, ob_ A_t_now_sights 6 [.int c_t_now_sights_count, .ref A_t_now_sights_places, .ref A_t_now_sights_lights], ob_ A_t_pad 4 [.int c_t_pad_count, .ref A_t_pad_signs]] H locs := hw
  refine lv_if_eq (tgt := 15) hx hb dX9_told_6 (by decide) (fun hc => ?_) (fun hc => ?_)
  · replace hf := it_t hc hf
    refine lv_iload_n hx hb dX9_told_15 rfl (lv_at hl 1 rfl) ?_
    refine lv_bipush (v := 10) hx hb dX9_told_16 (by decide) ?_
    refine lv_bipush (v := 69) hx hb dX9_told_18 (by decide) ?_
    obtain ⟨r3, hq4, hf⟩ := b1_s hf
    refine g_cSi hC hw msX9_63 (cn_X9_isWithin l G x1 10 69 r3 hq4) [] rfl (by decide) rfl rfl hl.1 rfl (Nat.le_of_ble_eq_true rfl) ⟨Nat.le_of_ble_eq_true rfl, Nat.le_of_ble_eq_true rfl⟩ ⟨Nat.le_refl _, Nat.le_refl _⟩ dX9_told_20 (fun H locs hw => ?_)
    have hw : wd_ G A s.heap [ob_ A_t 9 [.ref A_t_now, .ref A_t_images, .ref A_t_pad, .ref A_t_evening, .ref A_t_ways, .ref A_t_tour, .ref A_t_odds, .int c_t_measured], ob_ A_t_now 5 [.ref A_t_now_marsh, .ref A_t_now_crowd, .ref A_t_now_sights], ob_ A_t_now_marsh 2 [.ref A_t_now_marsh_codes], ia_ G A_t_now_marsh_codes 144 c_t_now_marsh_codes, ob_ A_t_now_crowd 0 [.int c_t_now_crowd_there, .int c_t_now_crowd_foggy, .ref A_t_now_crowd_at, .ref A_t_now_crowd_home, .ref A_t_now_crowd_light, .ref A_t_now_crowd_carries, .ref A_t_now_crowd_bearer], ia_ G A_t_now_crowd_at 6 c_t_now_crowd_at, ia_ G A_t_now_crowd_home 6 c_t_now_crowd_home, ia_ G A_t_now_crowd_light 6 c_t_now_crowd_light, ia_ G A_t_now_crowd_carries 6 c_t_now_crowd_carries, ob_ A_t_now_sights 6 [.int c_t_now_sights_count, .ref A_t_now_sights_places, .ref A_t_now_sights_lights], ob_ A_t_pad 4 [.int c_t_pad_count, .ref A_t_pad_signs]] H locs := hw
    refine lv_if_eq (tgt := 41) hx hb dX9_told_23 (by decide) (fun hc => ?_) (fun hc => ?_)
    · replace hf := it_t hc hf
      refine lv_iload_n hx hb dX9_told_41 rfl (lv_at hl 1 rfl) ?_
      refine lv_bipush (v := 100) hx hb dX9_told_42 (by decide) ?_
      refine lv_sipush (v := 243) hx hb dX9_told_44 (by decide) ?_
      obtain ⟨r5, hq6, hf⟩ := b1_s hf
      refine g_cSi hC hw msX9_63 (cn_X9_isWithin l G x1 100 243 r5 hq6) [] rfl (by decide) rfl rfl hl.1 rfl (Nat.le_of_ble_eq_true rfl) ⟨Nat.le_of_ble_eq_true rfl, Nat.le_of_ble_eq_true rfl⟩ ⟨Nat.le_refl _, Nat.le_refl _⟩ dX9_told_47 (fun H locs hw => ?_)
      have hw : wd_ G A s.heap [ob_ A_t 9 [.ref A_t_now, .ref A_t_images, .ref A_t_pad, .ref A_t_evening, .ref A_t_ways, .ref A_t_tour, .ref A_t_odds, .int c_t_measured], ob_ A_t_now 5 [.ref A_t_now_marsh, .ref A_t_now_crowd, .ref A_t_now_sights], ob_ A_t_now_marsh 2 [.ref A_t_now_marsh_codes], ia_ G A_t_now_marsh_codes 144 c_t_now_marsh_codes, ob_ A_t_now_crowd 0 [.int c_t_now_crowd_there, .int c_t_now_crowd_foggy, .ref A_t_now_crowd_at, .ref A_t_now_crowd_home, .ref A_t_now_crowd_light, .ref A_t_now_crowd_carries, .ref A_t_now_crowd_bearer], ia_ G A_t_now_crowd_at 6 c_t_now_crowd_at, ia_ G A_t_now_crowd_home 6 c_t_now_crowd_home, ia_ G A_t_now_crowd_light 6 c_t_now_crowd_light, ia_ G A_t_now_crowd_carries 6 c_t_now_crowd_carries, ob_ A_t_now_sights 6 [.int c_t_now_sights_count, .ref A_t_now_sights_places, .ref A_t_now_sights_lights], ob_ A_t_pad 4 [.int c_t_pad_count, .ref A_t_pad_signs]] H locs := hw
      refine lv_if_eq (tgt := 78) hx hb dX9_told_50 (by decide) (fun hc => ?_) (fun hc => ?_)
      · replace hf := it_t hc hf
        refine lv_bipush (v := (-2)) hx hb dX9_told_78 (by decide) ?_
        cases hf
        exact hret _ _ _ _ dX9_told_80 hw
      · replace hf := it_f hc hf
        refine lv_aload_n hx hb dX9_told_53 rfl (lv_at hl 0 rfl) ?_
        refine g_get hC hw fkX9_12 0 rfl rfl dX9_told_54 ?_
        refine g_get hC hw fkX9_67 1 rfl rfl dX9_told_57 ?_
        refine lv_iload_n hx hb dX9_told_60 rfl (lv_at hl 1 rfl) ?_
        refine lv_bipush (v := 100) hx hb dX9_told_61 (by decide) ?_
        refine lv_isub hx hb dX9_told_63 ?_
        refine lv_bipush (v := 12) hx hb dX9_told_64 (by decide) ?_
        refine lv_idiv hx hb dX9_told_66 (by decide) ?_
        refine lv_iload_n hx hb dX9_told_67 rfl (lv_at hl 1 rfl) ?_
        refine lv_bipush (v := 100) hx hb dX9_told_68 (by decide) ?_
        refine lv_isub hx hb dX9_told_70 ?_
        refine lv_bipush (v := 12) hx hb dX9_told_71 (by decide) ?_
        refine lv_irem hx hb dX9_told_73 (by decide) ?_
        obtain ⟨r7, hq8, hf⟩ := b1_s hf
        refine g_cVi hC hw mvX9_71 (cn_X2_code l G A_t_now_marsh A_t_now_marsh_codes c_t_now_marsh_codes ((x1 - 100) / 12) ((x1 - 100) - (x1 - 100) / 12 * 12) r7 hq8) [2, 3] rfl (by decide) rfl 2 rfl rfl rfl hl.1 rfl (Nat.le_of_ble_eq_true rfl) ⟨Nat.le_of_ble_eq_true rfl, Nat.le_of_ble_eq_true rfl⟩ ⟨Nat.le_refl _, Nat.le_refl _⟩ dX9_told_74 (fun H locs hw => ?_)
        have hw : wd_ G A s.heap [ob_ A_t 9 [.ref A_t_now, .ref A_t_images, .ref A_t_pad, .ref A_t_evening, .ref A_t_ways, .ref A_t_tour, .ref A_t_odds, .int c_t_measured], ob_ A_t_now 5 [.ref A_t_now_marsh, .ref A_t_now_crowd, .ref A_t_now_sights], ob_ A_t_now_marsh 2 [.ref A_t_now_marsh_codes], ia_ G A_t_now_marsh_codes 144 c_t_now_marsh_codes, ob_ A_t_now_crowd 0 [.int c_t_now_crowd_there, .int c_t_now_crowd_foggy, .ref A_t_now_crowd_at, .ref A_t_now_crowd_home, .ref A_t_now_crowd_light, .ref A_t_now_crowd_carries, .ref A_t_now_crowd_bearer], ia_ G A_t_now_crowd_at 6 c_t_now_crowd_at, ia_ G A_t_now_crowd_home 6 c_t_now_crowd_home, ia_ G A_t_now_crowd_light 6 c_t_now_crowd_light, ia_ G A_t_now_crowd_carries 6 c_t_now_crowd_carries, ob_ A_t_now_sights 6 [.int c_t_now_sights_count, .ref A_t_now_sights_places, .ref A_t_now_sights_lights], ob_ A_t_pad 4 [.int c_t_pad_count, .ref A_t_pad_signs]] H locs := hw
        cases hf
        exact hret _ _ _ _ dX9_told_77 hw
    · replace hf := it_f hc hf
      refine lv_aload_n hx hb dX9_told_26 rfl (lv_at hl 0 rfl) ?_
      refine lv_iload_n hx hb dX9_told_27 rfl (lv_at hl 1 rfl) ?_
      refine lv_bipush (v := 10) hx hb dX9_told_28 (by decide) ?_
      refine lv_idiv hx hb dX9_told_30 (by decide) ?_
      refine lv_iconst (v := 1) hx hb dX9_told_31 (by decide) ?_
      refine lv_isub hx hb dX9_told_32 ?_
      refine lv_iload_n hx hb dX9_told_33 rfl (lv_at hl 1 rfl) ?_
      refine lv_bipush (v := 10) hx hb dX9_told_34 (by decide) ?_
      refine lv_irem hx hb dX9_told_36 (by decide) ?_
      obtain ⟨r9, hq10, hf⟩ := b1_s hf
      refine g_cVi hC hw mvX9_279 (cn_X9_tellWalker l G A_t A_t_now A_t_images A_t_pad A_t_evening A_t_ways A_t_tour A_t_odds A_t_now_marsh A_t_now_crowd A_t_now_sights A_t_now_crowd_at A_t_now_crowd_home A_t_now_crowd_light A_t_now_crowd_carries A_t_now_crowd_bearer c_t_measured c_t_now_crowd_there c_t_now_crowd_foggy c_t_now_crowd_at c_t_now_crowd_home c_t_now_crowd_light c_t_now_crowd_carries ((x1 / 10) - 1) (x1 - x1 / 10 * 10) r9 hq10) [0, 1, 4, 5, 6, 7, 8] rfl (by decide) rfl 0 rfl rfl rfl hl.1 rfl (Nat.le_of_ble_eq_true rfl) ⟨Nat.le_of_ble_eq_true rfl, Nat.le_of_ble_eq_true rfl⟩ ⟨Nat.le_refl _, Nat.le_refl _⟩ dX9_told_37 (fun H locs hw => ?_)
      have hw : wd_ G A s.heap [ob_ A_t 9 [.ref A_t_now, .ref A_t_images, .ref A_t_pad, .ref A_t_evening, .ref A_t_ways, .ref A_t_tour, .ref A_t_odds, .int c_t_measured], ob_ A_t_now 5 [.ref A_t_now_marsh, .ref A_t_now_crowd, .ref A_t_now_sights], ob_ A_t_now_marsh 2 [.ref A_t_now_marsh_codes], ia_ G A_t_now_marsh_codes 144 c_t_now_marsh_codes, ob_ A_t_now_crowd 0 [.int c_t_now_crowd_there, .int c_t_now_crowd_foggy, .ref A_t_now_crowd_at, .ref A_t_now_crowd_home, .ref A_t_now_crowd_light, .ref A_t_now_crowd_carries, .ref A_t_now_crowd_bearer], ia_ G A_t_now_crowd_at 6 c_t_now_crowd_at, ia_ G A_t_now_crowd_home 6 c_t_now_crowd_home, ia_ G A_t_now_crowd_light 6 c_t_now_crowd_light, ia_ G A_t_now_crowd_carries 6 c_t_now_crowd_carries, ob_ A_t_now_sights 6 [.int c_t_now_sights_count, .ref A_t_now_sights_places, .ref A_t_now_sights_lights], ob_ A_t_pad 4 [.int c_t_pad_count, .ref A_t_pad_signs]] H locs := hw
      cases hf
      exact hret _ _ _ _ dX9_told_40 hw
  · replace hf := it_f hc hf
    refine lv_aload_n hx hb dX9_told_9 rfl (lv_at hl 0 rfl) ?_
    refine lv_iload_n hx hb dX9_told_10 rfl (lv_at hl 1 rfl) ?_
    obtain ⟨r11, hq12, hf⟩ := b1_s hf
    refine g_cVi hC hw mvX9_276 (cn_X9_tellCount l G A_t A_t_now A_t_images A_t_pad A_t_evening A_t_ways A_t_tour A_t_odds A_t_now_marsh A_t_now_crowd A_t_now_sights A_t_now_crowd_at A_t_now_crowd_home A_t_now_crowd_light A_t_now_crowd_carries A_t_now_crowd_bearer A_t_now_sights_places A_t_now_sights_lights A_t_pad_signs c_t_measured c_t_now_crowd_there c_t_now_crowd_foggy c_t_now_sights_count c_t_pad_count x1 r11 hq12) [0, 1, 4, 9, 10] rfl (by decide) rfl 0 rfl rfl rfl hl.1 rfl (Nat.le_of_ble_eq_true rfl) ⟨Nat.le_of_ble_eq_true rfl, Nat.le_of_ble_eq_true rfl⟩ ⟨Nat.le_refl _, Nat.le_refl _⟩ dX9_told_11 (fun H locs hw => ?_)
    have hw : wd_ G A s.heap [ob_ A_t 9 [.ref A_t_now, .ref A_t_images, .ref A_t_pad, .ref A_t_evening, .ref A_t_ways, .ref A_t_tour, .ref A_t_odds, .int c_t_measured], ob_ A_t_now 5 [.ref A_t_now_marsh, .ref A_t_now_crowd, .ref A_t_now_sights], ob_ A_t_now_marsh 2 [.ref A_t_now_marsh_codes], ia_ G A_t_now_marsh_codes 144 c_t_now_marsh_codes, ob_ A_t_now_crowd 0 [.int c_t_now_crowd_there, .int c_t_now_crowd_foggy, .ref A_t_now_crowd_at, .ref A_t_now_crowd_home, .ref A_t_now_crowd_light, .ref A_t_now_crowd_carries, .ref A_t_now_crowd_bearer], ia_ G A_t_now_crowd_at 6 c_t_now_crowd_at, ia_ G A_t_now_crowd_home 6 c_t_now_crowd_home, ia_ G A_t_now_crowd_light 6 c_t_now_crowd_light, ia_ G A_t_now_crowd_carries 6 c_t_now_crowd_carries, ob_ A_t_now_sights 6 [.int c_t_now_sights_count, .ref A_t_now_sights_places, .ref A_t_now_sights_lights], ob_ A_t_pad 4 [.int c_t_pad_count, .ref A_t_pad_signs]] H locs := hw
    cases hf
    exact hret _ _ _ _ dX9_told_14 hw
set_option maxHeartbeats 4000000 in
set_option maxRecDepth 100000 in
theorem cn_X9_told (l : Launch) (G : gw_) (A_t : Nat) (A_t_now : Nat) (A_t_images : Nat) (A_t_pad : Nat) (A_t_evening : Nat) (A_t_ways : Nat) (A_t_tour : Nat) (A_t_odds : Nat) (A_t_now_marsh : Nat) (A_t_now_crowd : Nat) (A_t_now_sights : Nat) (A_t_now_marsh_codes : Nat) (A_t_now_crowd_at : Nat) (A_t_now_crowd_home : Nat) (A_t_now_crowd_light : Nat) (A_t_now_crowd_carries : Nat) (A_t_now_crowd_bearer : Nat) (A_t_now_sights_places : Nat) (A_t_now_sights_lights : Nat) (A_t_pad_signs : Nat) (c_t_measured : Int32) (c_t_now_marsh_codes : Nat → Int32) (c_t_now_crowd_there : Int32) (c_t_now_crowd_foggy : Int32) (c_t_now_crowd_at : Nat → Int32) (c_t_now_crowd_home : Nat → Int32) (c_t_now_crowd_light : Nat → Int32) (c_t_now_crowd_carries : Nat → Int32) (c_t_now_sights_count : Int32) (c_t_pad_count : Int32) (x1 : Int32) (r : Int32) (hf : fn_X9_told c_t_now_marsh_codes c_t_now_crowd_there c_t_now_crowd_foggy c_t_now_crowd_at c_t_now_crowd_home c_t_now_crowd_light c_t_now_crowd_carries c_t_now_sights_count c_t_pad_count x1 = some r) : ci_ l G yX9_told cX9_told 2 (some .int) 3 65 [ob_ A_t 9 [.ref A_t_now, .ref A_t_images, .ref A_t_pad, .ref A_t_evening, .ref A_t_ways, .ref A_t_tour, .ref A_t_odds, .int c_t_measured], ob_ A_t_now 5 [.ref A_t_now_marsh, .ref A_t_now_crowd, .ref A_t_now_sights], ob_ A_t_now_marsh 2 [.ref A_t_now_marsh_codes], ia_ G A_t_now_marsh_codes 144 c_t_now_marsh_codes, ob_ A_t_now_crowd 0 [.int c_t_now_crowd_there, .int c_t_now_crowd_foggy, .ref A_t_now_crowd_at, .ref A_t_now_crowd_home, .ref A_t_now_crowd_light, .ref A_t_now_crowd_carries, .ref A_t_now_crowd_bearer], ia_ G A_t_now_crowd_at 6 c_t_now_crowd_at, ia_ G A_t_now_crowd_home 6 c_t_now_crowd_home, ia_ G A_t_now_crowd_light 6 c_t_now_crowd_light, ia_ G A_t_now_crowd_carries 6 c_t_now_crowd_carries, ob_ A_t_now_sights 6 [.int c_t_now_sights_count, .ref A_t_now_sights_places, .ref A_t_now_sights_lights], ob_ A_t_pad 4 [.int c_t_pad_count, .ref A_t_pad_signs]] [.ref A_t, .int x1] r [ob_ A_t 9 [.ref A_t_now, .ref A_t_images, .ref A_t_pad, .ref A_t_evening, .ref A_t_ways, .ref A_t_tour, .ref A_t_odds, .int c_t_measured], ob_ A_t_now 5 [.ref A_t_now_marsh, .ref A_t_now_crowd, .ref A_t_now_sights], ob_ A_t_now_marsh 2 [.ref A_t_now_marsh_codes], ia_ G A_t_now_marsh_codes 144 c_t_now_marsh_codes, ob_ A_t_now_crowd 0 [.int c_t_now_crowd_there, .int c_t_now_crowd_foggy, .ref A_t_now_crowd_at, .ref A_t_now_crowd_home, .ref A_t_now_crowd_light, .ref A_t_now_crowd_carries, .ref A_t_now_crowd_bearer], ia_ G A_t_now_crowd_at 6 c_t_now_crowd_at, ia_ G A_t_now_crowd_home 6 c_t_now_crowd_home, ia_ G A_t_now_crowd_light 6 c_t_now_crowd_light, ia_ G A_t_now_crowd_carries 6 c_t_now_crowd_carries, ob_ A_t_now_sights 6 [.int c_t_now_sights_count, .ref A_t_now_sights_places, .ref A_t_now_sights_lights], ob_ A_t_pad 4 [.int c_t_pad_count, .ref A_t_pad_signs]] := fun sz => met_intro (by decide) (Nat.le_of_ble_eq_true rfl) (fun p e s m args below meth c ls hsz hC hr hlk hnm hl hw => wn_X9_told hC (fun pc H locs ls hd hw => g_iret hC hr hlk hw rfl rfl hd) hf hl hw)

theorem dX10_in_0 : decode cX10_in 0 = .ok (.lload_n 0, 1) := by decide +kernel
theorem dX10_in_1 : decode cX10_in 1 = .ok (.lload_n 2, 1) := by decide +kernel
theorem dX10_in_2 : decode cX10_in 2 = .ok (.lcmp, 1) := by decide +kernel
theorem dX10_in_3 : decode cX10_in 3 = .ok (.ifCond .lt 14, 3) := by decide +kernel
theorem dX10_in_6 : decode cX10_in 6 = .ok (.lload_n 0, 1) := by decide +kernel
theorem dX10_in_7 : decode cX10_in 7 = .ok (.lload 4, 2) := by decide +kernel
theorem dX10_in_9 : decode cX10_in 9 = .ok (.lcmp, 1) := by decide +kernel
theorem dX10_in_10 : decode cX10_in 10 = .ok (.ifCond .gt 7, 3) := by decide +kernel
theorem dX10_in_13 : decode cX10_in 13 = .ok (.iconst 1, 1) := by decide +kernel
theorem dX10_in_14 : decode cX10_in 14 = .ok (.goto 4, 3) := by decide +kernel
theorem dX10_in_17 : decode cX10_in 17 = .ok (.iconst 0, 1) := by decide +kernel
theorem dX10_in_18 : decode cX10_in 18 = .ok (.ireturn, 1) := by decide +kernel
def fn_X10_in (x0 : Int64) (x2 : Int64) (x4 : Int64) : Option (Int32) :=
  if (lg_cmp x0 x2) < 0 then
    some 0
  else
    if 0 < (lg_cmp x0 x4) then
      some 0
    else
      some 1
set_option maxHeartbeats 4000000 in
set_option maxRecDepth 100000 in
theorem wn_X10_in {p : Program} {l : Launch} {e : Env} {s : State} {m : MethodId} {args : Array Value} {below : List Frame} {meth : Method} {c : Code} {G : gw_} {A : Nat → Prop} {Q : State → Prop} {r : Int32} {x0 : Int64} {x2 : Int64} {x4 : Int64} (hC : cx_ p s m c G cX10_in 6 RX10) (hret : ∀ (pc : Nat) (H : Heap) (locs : List Loc) (ls : Array Slot), narrow .boolean (.int r) = .int r → decode cX10_in pc = .ok (.ireturn, 1) → wd_ G A s.heap [] H locs → W p l e { frames := 0, cells := 0, slots := 0, locals := 0 } s m args below meth c H locs 0 0 Q (F0 m pc ls [.int r])) (hf : fn_X10_in x0 x2 x4 = some r) {H : Heap} {locs : List Loc} {ls : Array Slot} (hl : lv_has ls 6 [(0, .long x0), (2, .long x2), (4, .long x4)]) (hw : wd_ G A s.heap [] H locs) : W p l e { frames := 0, cells := 0, slots := 0, locals := 0 } s m args below meth c H locs 0 0 Q (F0 m 0 ls []) := by
  have hx := hC.1
  have hb := hC.2.1
  unfold fn_X10_in at hf
  refine lv_lload_n hx hb dX10_in_0 rfl (lv_at hl 0 rfl) ?_
  refine lv_lload_n hx hb dX10_in_1 rfl (lv_at hl 1 rfl) ?_
  refine W.lcmp hx hb dX10_in_2 ?_
  refine lv_if_lt (tgt := 17) hx hb dX10_in_3 (by decide) (fun hc => ?_) (fun hc => ?_)
  · replace hf := it_t hc hf
    refine lv_iconst (v := 0) hx hb dX10_in_17 (by decide) ?_
    cases hf
    exact hret _ _ _ _ rfl dX10_in_18 hw
  · replace hf := it_f hc hf
    refine lv_lload_n hx hb dX10_in_6 rfl (lv_at hl 0 rfl) ?_
    refine lv_lload hx hb dX10_in_7 (lv_at hl 2 rfl) ?_
    refine W.lcmp hx hb dX10_in_9 ?_
    refine lv_if_gt (tgt := 17) hx hb dX10_in_10 (by decide) (fun hc => ?_) (fun hc => ?_)
    · replace hf := it_t hc hf
      refine lv_iconst (v := 0) hx hb dX10_in_17 (by decide) ?_
      cases hf
      exact hret _ _ _ _ rfl dX10_in_18 hw
    · replace hf := it_f hc hf
      refine lv_iconst (v := 1) hx hb dX10_in_13 (by decide) ?_
      refine lv_goto (tgt := 18) hx hb dX10_in_14 (by decide) ?_
      cases hf
      exact hret _ _ _ _ rfl dX10_in_18 hw
set_option maxHeartbeats 4000000 in
set_option maxRecDepth 100000 in
theorem cn_X10_in (l : Launch) (G : gw_) (x0 : Int64) (x2 : Int64) (x4 : Int64) (r : Int32) (hf : fn_X10_in x0 x2 x4 = some r) : ci_ l G yX10_in cX10_in 6 (some .boolean) 0 0 [] [.long x0, .long x2, .long x4] r [] := fun sz => met_intro (by decide) (Nat.le_of_ble_eq_true rfl) (fun p e s m args below meth c ls hsz hC hr hlk hnm hl hw => wn_X10_in hC (fun pc H locs ls hn hd hw => g_iret hC hr hlk hw rfl hn hd) hf hl hw)

theorem dX10_isPlace_0 : decode cX10_isPlace 0 = .ok (.iload_n 0, 1) := by decide +kernel
theorem dX10_isPlace_1 : decode cX10_isPlace 1 = .ok (.i2l, 1) := by decide +kernel
theorem dX10_isPlace_2 : decode cX10_isPlace 2 = .ok (.lconst 0, 1) := by decide +kernel
theorem dX10_isPlace_3 : decode cX10_isPlace 3 = .ok (.ldc2_w 77, 3) := by decide +kernel
theorem dX10_isPlace_6 : decode cX10_isPlace 6 = .ok (.invokestatic 79, 3) := by decide +kernel
theorem dX10_isPlace_9 : decode cX10_isPlace 9 = .ok (.ireturn, 1) := by decide +kernel
def fn_X10_isPlace (x0 : Int32) : Option (Int32) :=
  b1_ (fn_X10_in (Int32.toInt64 x0) 0 11) fun r1 =>
  bz_ r1 <|
  some r1
set_option maxHeartbeats 4000000 in
set_option maxRecDepth 100000 in
theorem wn_X10_isPlace {p : Program} {l : Launch} {e : Env} {s : State} {m : MethodId} {args : Array Value} {below : List Frame} {meth : Method} {c : Code} {G : gw_} {A : Nat → Prop} {Q : State → Prop} {r : Int32} {x0 : Int32} (hC : cx_ p s m c G cX10_isPlace 1 RX10) (hret : ∀ (pc : Nat) (H : Heap) (locs : List Loc) (ls : Array Slot), narrow .boolean (.int r) = .int r → decode cX10_isPlace pc = .ok (.ireturn, 1) → wd_ G A s.heap [] H locs → W p l e { frames := 1, cells := 0, slots := 0, locals := 25 } s m args below meth c H locs 0 0 Q (F0 m pc ls [.int r])) (hf : fn_X10_isPlace x0 = some r) {H : Heap} {locs : List Loc} {ls : Array Slot} (hl : lv_has ls 1 [(0, .int x0)]) (hw : wd_ G A s.heap [] H locs) : W p l e { frames := 1, cells := 0, slots := 0, locals := 25 } s m args below meth c H locs 0 0 Q (F0 m 0 ls []) := by
  have hx := hC.1
  have hb := hC.2.1
  unfold fn_X10_isPlace at hf
  refine lv_iload_n hx hb dX10_isPlace_0 rfl (lv_at hl 0 rfl) ?_
  refine lv_i2l hx hb dX10_isPlace_1 rfl ?_
  refine lv_lconst (v := 0) hx hb dX10_isPlace_2 (by decide) ?_
  refine g_ldc2 (v := 11) hC (tb4 110 rfl rfl) dX10_isPlace_3 ?_
  obtain ⟨r1, hq2, hf⟩ := b1_s hf
  refine g_cSi hC hw msX10_79 (cn_X10_in l G (Int32.toInt64 x0) 0 11 r1 hq2) [] rfl (by decide) rfl rfl hl.1 rfl (Nat.le_of_ble_eq_true rfl) ⟨Nat.le_of_ble_eq_true rfl, Nat.le_of_ble_eq_true rfl⟩ ⟨Nat.le_refl _, Nat.le_refl _⟩ dX10_isPlace_6 (fun H locs hw => ?_)
  have hw : wd_ G A s.heap [] H locs := hw
  obtain ⟨hz0, hf⟩ := bz_s hf
  cases hf
  exact hret _ _ _ _ hz0.1 dX10_isPlace_9 hw
set_option maxHeartbeats 4000000 in
set_option maxRecDepth 100000 in
theorem cn_X10_isPlace (l : Launch) (G : gw_) (x0 : Int32) (r : Int32) (hf : fn_X10_isPlace x0 = some r) : ci_ l G yX10_isPlace cX10_isPlace 1 (some .boolean) 1 25 [] [.int x0] r [] := fun sz => met_intro (by decide) (Nat.le_of_ble_eq_true rfl) (fun p e s m args below meth c ls hsz hC hr hlk hnm hl hw => wn_X10_isPlace hC (fun pc H locs ls hn hd hw => g_iret hC hr hlk hw rfl hn hd) hf hl hw)

theorem dX10_ones_0 : decode cX10_ones 0 = .ok (.iconst 0, 1) := by decide +kernel
theorem dX10_ones_1 : decode cX10_ones 1 = .ok (.istore_n 1, 1) := by decide +kernel
theorem dX10_ones_2 : decode cX10_ones 2 = .ok (.iload_n 0, 1) := by decide +kernel
theorem dX10_ones_3 : decode cX10_ones 3 = .ok (.istore_n 2, 1) := by decide +kernel
theorem dX10_ones_4 : decode cX10_ones 4 = .ok (.iload_n 2, 1) := by decide +kernel
theorem dX10_ones_5 : decode cX10_ones 5 = .ok (.ifCond .eq 15, 3) := by decide +kernel
theorem dX10_ones_8 : decode cX10_ones 8 = .ok (.iinc 1 1, 3) := by decide +kernel
theorem dX10_ones_11 : decode cX10_ones 11 = .ok (.iload_n 2, 1) := by decide +kernel
theorem dX10_ones_12 : decode cX10_ones 12 = .ok (.iload_n 2, 1) := by decide +kernel
theorem dX10_ones_13 : decode cX10_ones 13 = .ok (.iconst 1, 1) := by decide +kernel
theorem dX10_ones_14 : decode cX10_ones 14 = .ok (.isub, 1) := by decide +kernel
theorem dX10_ones_15 : decode cX10_ones 15 = .ok (.iand, 1) := by decide +kernel
theorem dX10_ones_16 : decode cX10_ones 16 = .ok (.istore_n 2, 1) := by decide +kernel
theorem dX10_ones_17 : decode cX10_ones 17 = .ok (.goto (-13), 3) := by decide +kernel
theorem dX10_ones_20 : decode cX10_ones 20 = .ok (.iload_n 1, 1) := by decide +kernel
theorem dX10_ones_21 : decode cX10_ones 21 = .ok (.ireturn, 1) := by decide +kernel
def fn_X10_ones_b4 (rc : Int32 → Int32 → Option (Int32)) (k : Int32 → Option (Int32)) (x1 : Int32) (x2 : Int32) : Option (Int32) :=
  if x2 = 0 then
    k x1
  else
    rc (x1 + 1) (x2 &&& (x2 - 1))
def fn_X10_ones_l4 (k : Int32 → Option (Int32)) : Nat → Int32 → Int32 → Option (Int32)
  | 0 => fun _ _ => none
  | n + 1 => fun x1 x2 => fn_X10_ones_b4 (fn_X10_ones_l4 k n) k x1 x2
def fn_X10_ones (x0 : Int32) : Option (Int32) :=
  fn_X10_ones_l4 (fun v1 =>
    some v1) fu_ 0 x0
set_option maxHeartbeats 4000000 in
set_option maxRecDepth 100000 in
theorem wn_X10_ones_l4 {p : Program} {l : Launch} {e : Env} {s : State} {m : MethodId} {args : Array Value} {below : List Frame} {meth : Method} {c : Code} {G : gw_} {A : Nat → Prop} {Q : State → Prop} {r : Int32} {k : Int32 → Option (Int32)} (hC : cx_ p s m c G cX10_ones 3 RX10) (hret : ∀ (pc : Nat) (H : Heap) (locs : List Loc) (ls : Array Slot), decode cX10_ones pc = .ok (.ireturn, 1) → wd_ G A s.heap [] H locs → W p l e { frames := 0, cells := 0, slots := 0, locals := 0 } s m args below meth c H locs 0 0 Q (F0 m pc ls [.int r])) (hk : ∀ (x1 : Int32) (H : Heap) (locs : List Loc) (ls : Array Slot), k x1 = some r → lv_has ls 3 [(1, .int x1)] → wd_ G A s.heap [] H locs → W p l e { frames := 0, cells := 0, slots := 0, locals := 0 } s m args below meth c H locs 0 0 Q (F0 m 20 ls [])) : ∀ (n : Nat) (x1 : Int32) (x2 : Int32) (H : Heap) (locs : List Loc) (ls : Array Slot), fn_X10_ones_l4 k n x1 x2 = some r → lv_has ls 3 [(1, .int x1), (2, .int x2)] → wd_ G A s.heap [] H locs → W p l e { frames := 0, cells := 0, slots := 0, locals := 0 } s m args below meth c H locs 0 0 Q (F0 m 4 ls []) := by
  have hx := hC.1
  have hb := hC.2.1
  intro n
  induction n with
  | zero =>
    intro x1 x2 H locs ls hf
    cases (show (none : Option (Int32)) = some _ from hf)
  | succ n hrc =>
    intro x1 x2 H locs ls hf hl hw
    replace hf : fn_X10_ones_b4 (fn_X10_ones_l4 k n) k x1 x2 = some r := hf
    unfold fn_X10_ones_b4 at hf
    refine lv_iload_n hx hb dX10_ones_4 rfl (lv_at hl 1 rfl) ?_
    refine lv_if_eq (tgt := 20) hx hb dX10_ones_5 (by decide) (fun hc => ?_) (fun hc => ?_)
    · replace hf := it_t hc hf
      exact hk x1 _ _ _ hf (lv_sub hl [0] rfl) hw
    · replace hf := it_f hc hf
      refine lv_iinc (v := x1 + 1) (lv' := [(1, .int (x1 + 1)), (2, .int x2)]) hx hb dX10_ones_8 hl (k := 0) rfl rfl (by decide) rfl (fun ls hl => ?_)
      refine lv_iload_n hx hb dX10_ones_11 rfl (lv_at hl 1 rfl) ?_
      refine lv_iload_n hx hb dX10_ones_12 rfl (lv_at hl 1 rfl) ?_
      refine lv_iconst (v := 1) hx hb dX10_ones_13 (by decide) ?_
      refine lv_isub hx hb dX10_ones_14 ?_
      refine lv_iand hx hb dX10_ones_15 ?_
      refine lv_istore_n (lv' := [(2, .int (x2 &&& (x2 - 1))), (1, .int (x1 + 1))]) hx hb dX10_ones_16 rfl hl (by decide) rfl (fun ls hl => ?_)
      refine lv_goto (tgt := 4) hx hb dX10_ones_17 (by decide) ?_
      exact hrc (x1 + 1) (x2 &&& (x2 - 1)) _ _ _ hf (lv_sub hl [1, 0] rfl) hw
set_option maxHeartbeats 4000000 in
set_option maxRecDepth 100000 in
theorem wn_X10_ones {p : Program} {l : Launch} {e : Env} {s : State} {m : MethodId} {args : Array Value} {below : List Frame} {meth : Method} {c : Code} {G : gw_} {A : Nat → Prop} {Q : State → Prop} {r : Int32} {x0 : Int32} (hC : cx_ p s m c G cX10_ones 3 RX10) (hret : ∀ (pc : Nat) (H : Heap) (locs : List Loc) (ls : Array Slot), decode cX10_ones pc = .ok (.ireturn, 1) → wd_ G A s.heap [] H locs → W p l e { frames := 0, cells := 0, slots := 0, locals := 0 } s m args below meth c H locs 0 0 Q (F0 m pc ls [.int r])) (hf : fn_X10_ones x0 = some r) {H : Heap} {locs : List Loc} {ls : Array Slot} (hl : lv_has ls 3 [(0, .int x0)]) (hw : wd_ G A s.heap [] H locs) : W p l e { frames := 0, cells := 0, slots := 0, locals := 0 } s m args below meth c H locs 0 0 Q (F0 m 0 ls []) := by
  have hx := hC.1
  have hb := hC.2.1
  unfold fn_X10_ones at hf
  refine lv_iconst (v := 0) hx hb dX10_ones_0 (by decide) ?_
  refine lv_istore_n (lv' := [(1, .int 0), (0, .int x0)]) hx hb dX10_ones_1 rfl hl (by decide) rfl (fun ls hl => ?_)
  refine lv_iload_n hx hb dX10_ones_2 rfl (lv_at hl 1 rfl) ?_
  refine lv_istore_n (lv' := [(2, .int x0), (1, .int 0), (0, .int x0)]) hx hb dX10_ones_3 rfl hl (by decide) rfl (fun ls hl => ?_)
  refine wn_X10_ones_l4 hC hret (fun v1 H locs ls hf hl hw => ?_) fu_ 0 x0 _ _ _ hf (lv_sub hl [1, 0] rfl) hw
  refine lv_iload_n hx hb dX10_ones_20 rfl (lv_at hl 0 rfl) ?_
  cases hf
  exact hret _ _ _ _ dX10_ones_21 hw
set_option maxHeartbeats 4000000 in
set_option maxRecDepth 100000 in
theorem cn_X10_ones (l : Launch) (G : gw_) (x0 : Int32) (r : Int32) (hf : fn_X10_ones x0 = some r) : ci_ l G yX10_ones cX10_ones 3 (some .int) 0 0 [] [.int x0] r [] := fun sz => met_intro (by decide) (Nat.le_of_ble_eq_true rfl) (fun p e s m args below meth c ls hsz hC hr hlk hnm hl hw => wn_X10_ones hC (fun pc H locs ls hd hw => g_iret hC hr hlk hw rfl rfl hd) hf hl hw)
