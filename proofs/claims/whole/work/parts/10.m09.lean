theorem dX9_far_0 : decode cX9_far 0 = .ok (.aload_n 0, 1) := by decide +kernel
theorem dX9_far_1 : decode cX9_far 1 = .ok (.getfield 12, 3) := by decide +kernel
theorem dX9_far_4 : decode cX9_far 4 = .ok (.getfield 81, 3) := by decide +kernel
theorem dX9_far_7 : decode cX9_far 7 = .ok (.iload_n 1, 1) := by decide +kernel
theorem dX9_far_8 : decode cX9_far 8 = .ok (.invokevirtual 95, 3) := by decide +kernel
theorem dX9_far_11 : decode cX9_far 11 = .ok (.ifCond .ne 5, 3) := by decide +kernel
theorem dX9_far_14 : decode cX9_far 14 = .ok (.iconst (-1), 1) := by decide +kernel
theorem dX9_far_15 : decode cX9_far 15 = .ok (.ireturn, 1) := by decide +kernel
theorem dX9_far_16 : decode cX9_far 16 = .ok (.aload_n 0, 1) := by decide +kernel
theorem dX9_far_17 : decode cX9_far 17 = .ok (.invokevirtual 155, 3) := by decide +kernel
theorem dX9_far_20 : decode cX9_far 20 = .ok (.iconst 0, 1) := by decide +kernel
theorem dX9_far_21 : decode cX9_far 21 = .ok (.istore_n 2, 1) := by decide +kernel
theorem dX9_far_22 : decode cX9_far 22 = .ok (.iconst 0, 1) := by decide +kernel
theorem dX9_far_23 : decode cX9_far 23 = .ok (.istore_n 3, 1) := by decide +kernel
theorem dX9_far_24 : decode cX9_far 24 = .ok (.iload_n 3, 1) := by decide +kernel
theorem dX9_far_25 : decode cX9_far 25 = .ok (.bipush 12, 2) := by decide +kernel
theorem dX9_far_27 : decode cX9_far 27 = .ok (.if_icmp .ge 36, 3) := by decide +kernel
theorem dX9_far_30 : decode cX9_far 30 = .ok (.aload_n 0, 1) := by decide +kernel
theorem dX9_far_31 : decode cX9_far 31 = .ok (.getfield 12, 3) := by decide +kernel
theorem dX9_far_34 : decode cX9_far 34 = .ok (.getfield 81, 3) := by decide +kernel
theorem dX9_far_37 : decode cX9_far 37 = .ok (.aload_n 0, 1) := by decide +kernel
theorem dX9_far_38 : decode cX9_far 38 = .ok (.getfield 37, 3) := by decide +kernel
theorem dX9_far_41 : decode cX9_far 41 = .ok (.iload_n 1, 1) := by decide +kernel
theorem dX9_far_42 : decode cX9_far 42 = .ok (.iload_n 3, 1) := by decide +kernel
theorem dX9_far_43 : decode cX9_far 43 = .ok (.invokevirtual 167, 3) := by decide +kernel
theorem dX9_far_46 : decode cX9_far 46 = .ok (.bipush (-6), 2) := by decide +kernel
theorem dX9_far_48 : decode cX9_far 48 = .ok (.if_icmp .eq 9, 3) := by decide +kernel
theorem dX9_far_51 : decode cX9_far 51 = .ok (.iload_n 2, 1) := by decide +kernel
theorem dX9_far_52 : decode cX9_far 52 = .ok (.iconst 1, 1) := by decide +kernel
theorem dX9_far_53 : decode cX9_far 53 = .ok (.iload_n 3, 1) := by decide +kernel
theorem dX9_far_54 : decode cX9_far 54 = .ok (.ishl, 1) := by decide +kernel
theorem dX9_far_55 : decode cX9_far 55 = .ok (.ior, 1) := by decide +kernel
theorem dX9_far_56 : decode cX9_far 56 = .ok (.istore_n 2, 1) := by decide +kernel
theorem dX9_far_57 : decode cX9_far 57 = .ok (.iinc 3 1, 3) := by decide +kernel
theorem dX9_far_60 : decode cX9_far 60 = .ok (.goto (-36), 3) := by decide +kernel
theorem dX9_far_63 : decode cX9_far 63 = .ok (.iload_n 2, 1) := by decide +kernel
theorem dX9_far_64 : decode cX9_far 64 = .ok (.ireturn, 1) := by decide +kernel
abbrev wl_X9_far (G : gw_) (A_t : Nat) (A_t_now : Nat) (A_t_images : Nat) (A_t_pad : Nat) (A_t_evening : Nat) (A_t_ways : Nat) (A_t_tour : Nat) (A_t_odds : Nat) (A_t_now_marsh : Nat) (A_t_now_crowd : Nat) (A_t_now_sights : Nat) (A_t_now_marsh_codes : Nat) (A_t_now_crowd_at : Nat) (A_t_now_crowd_home : Nat) (A_t_now_crowd_light : Nat) (A_t_now_crowd_carries : Nat) (A_t_now_crowd_bearer : Nat) (A_t_ways_planks : Nat) (A_t_ways_least : Nat) (A_t_ways_neighbours : Nat) (c_t_measured : Int32) (c_t_now_marsh_codes : Nat → Int32) (c_t_now_crowd_there : Int32) (c_t_now_crowd_foggy : Int32) (c_t_now_crowd_at : Nat → Int32) (c_t_now_crowd_light : Nat → Int32) (c_t_ways_planks : Nat → Int32) (c_t_ways_least : Nat → Int32) (c_t_ways_neighbours : Nat → Int32) : va_W := [ob_ A_t 9 [.ref A_t_now, .ref A_t_images, .ref A_t_pad, .ref A_t_evening, .ref A_t_ways, .ref A_t_tour, .ref A_t_odds, .int c_t_measured], ob_ A_t_now 5 [.ref A_t_now_marsh, .ref A_t_now_crowd, .ref A_t_now_sights], ob_ A_t_now_marsh 2 [.ref A_t_now_marsh_codes], ia_ G A_t_now_marsh_codes 144 c_t_now_marsh_codes, ob_ A_t_now_crowd 0 [.int c_t_now_crowd_there, .int c_t_now_crowd_foggy, .ref A_t_now_crowd_at, .ref A_t_now_crowd_home, .ref A_t_now_crowd_light, .ref A_t_now_crowd_carries, .ref A_t_now_crowd_bearer], ia_ G A_t_now_crowd_at 6 c_t_now_crowd_at, ia_ G A_t_now_crowd_light 6 c_t_now_crowd_light, ob_ A_t_ways 8 [.ref A_t_ways_planks, .ref A_t_ways_least, .ref A_t_ways_neighbours], ia_ G A_t_ways_planks 144 c_t_ways_planks, ia_ G A_t_ways_least 144 c_t_ways_least, ia_ G A_t_ways_neighbours 12 c_t_ways_neighbours]
def fn_X9_far_b24 (c_t_now_crowd_at : Nat → Int32) (c_t_now_crowd_light : Nat → Int32) (c_t_ways_least : Nat → Int32) (x1 : Int32) (rc : Int32 → Int32 → Option (Int32 × Int32 × (Nat → Int32) × (Nat → Int32) × (Nat → Int32))) (k : Int32 → Option (Int32 × Int32 × (Nat → Int32) × (Nat → Int32) × (Nat → Int32))) (x2 : Int32) (x3 : Int32) : Option (Int32 × Int32 × (Nat → Int32) × (Nat → Int32) × (Nat → Int32)) :=
  if 12 ≤ x3 then
    k x2
  else
    b1_ (fn_X0_lightAfter c_t_now_crowd_at c_t_now_crowd_light c_t_ways_least x1 x3) fun r8 =>
    if r8 = (-6) then
      rc x2 (x3 + 1)
    else
      lx_ (x2 ||| (1 <<< (x3 &&& 31))) fun y10 =>
      rc y10 (x3 + 1)
def fn_X9_far_l24 (c_t_now_crowd_at : Nat → Int32) (c_t_now_crowd_light : Nat → Int32) (c_t_ways_least : Nat → Int32) (x1 : Int32) (k : Int32 → Option (Int32 × Int32 × (Nat → Int32) × (Nat → Int32) × (Nat → Int32))) : Nat → Int32 → Int32 → Option (Int32 × Int32 × (Nat → Int32) × (Nat → Int32) × (Nat → Int32))
  | 0 => fun _ _ => none
  | n + 1 => fun x2 x3 => fn_X9_far_b24 c_t_now_crowd_at c_t_now_crowd_light c_t_ways_least x1 (fn_X9_far_l24 c_t_now_crowd_at c_t_now_crowd_light c_t_ways_least x1 k n) k x2 x3
def fn_X9_far (c_t_measured : Int32) (c_t_now_marsh_codes : Nat → Int32) (c_t_now_crowd_there : Int32) (c_t_now_crowd_foggy : Int32) (c_t_now_crowd_at : Nat → Int32) (c_t_now_crowd_light : Nat → Int32) (c_t_ways_planks : Nat → Int32) (c_t_ways_least : Nat → Int32) (c_t_ways_neighbours : Nat → Int32) (x1 : Int32) : Option (Int32 × Int32 × (Nat → Int32) × (Nat → Int32) × (Nat → Int32)) :=
  b1_ (fn_X0_has c_t_now_crowd_there x1) fun r1 =>
  if r1 = 0 then
    some ((-1), c_t_measured, c_t_ways_planks, c_t_ways_least, c_t_ways_neighbours)
  else
    b4_ (fn_X9_measure c_t_measured c_t_now_marsh_codes c_t_now_crowd_foggy c_t_ways_planks c_t_ways_least c_t_ways_neighbours) fun w3 w4 w5 w6 =>
    fn_X9_far_l24 c_t_now_crowd_at c_t_now_crowd_light w5 x1 (fun v11 =>
      some (v11, w3, w4, w5, w6)) fu_ 0 0
set_option maxHeartbeats 4000000 in
set_option maxRecDepth 100000 in
theorem wn_X9_far_l24 {p : Program} {l : Launch} {e : Env} {s : State} {m : MethodId} {args : Array Value} {below : List Frame} {meth : Method} {c : Code} {G : gw_} {A : Nat → Prop} {Q : State → Prop} {A_t : Nat} {A_t_now : Nat} {A_t_images : Nat} {A_t_pad : Nat} {A_t_evening : Nat} {A_t_ways : Nat} {A_t_tour : Nat} {A_t_odds : Nat} {A_t_now_marsh : Nat} {A_t_now_crowd : Nat} {A_t_now_sights : Nat} {A_t_now_marsh_codes : Nat} {A_t_now_crowd_at : Nat} {A_t_now_crowd_home : Nat} {A_t_now_crowd_light : Nat} {A_t_now_crowd_carries : Nat} {A_t_now_crowd_bearer : Nat} {A_t_ways_planks : Nat} {A_t_ways_least : Nat} {A_t_ways_neighbours : Nat} {c_t_measured : Int32} {z_t_measured : Int32} {c_t_now_marsh_codes : Nat → Int32} {c_t_now_crowd_there : Int32} {c_t_now_crowd_foggy : Int32} {c_t_now_crowd_at : Nat → Int32} {c_t_now_crowd_light : Nat → Int32} {c_t_ways_planks : Nat → Int32} {z_t_ways_planks : Nat → Int32} {c_t_ways_least : Nat → Int32} {z_t_ways_least : Nat → Int32} {c_t_ways_neighbours : Nat → Int32} {z_t_ways_neighbours : Nat → Int32} {r : Int32} {x1 : Int32} {k : Int32 → Option (Int32 × Int32 × (Nat → Int32) × (Nat → Int32) × (Nat → Int32))} (hC : cx_ p s m c G cX9_far 4 RX9) (hret : ∀ (pc : Nat) (H : Heap) (locs : List Loc) (ls : Array Slot), decode cX9_far pc = .ok (.ireturn, 1) → wd_ G A s.heap (wl_X9_far G A_t A_t_now A_t_images A_t_pad A_t_evening A_t_ways A_t_tour A_t_odds A_t_now_marsh A_t_now_crowd A_t_now_sights A_t_now_marsh_codes A_t_now_crowd_at A_t_now_crowd_home A_t_now_crowd_light A_t_now_crowd_carries A_t_now_crowd_bearer A_t_ways_planks A_t_ways_least A_t_ways_neighbours z_t_measured c_t_now_marsh_codes c_t_now_crowd_there c_t_now_crowd_foggy c_t_now_crowd_at c_t_now_crowd_light z_t_ways_planks z_t_ways_least z_t_ways_neighbours) H locs → W p l e { frames := 4, cells := 0, slots := 0, locals := 92 } s m args below meth c H locs 0 0 Q (F0 m pc ls [.int r])) (hk : ∀ (x2 : Int32) (H : Heap) (locs : List Loc) (ls : Array Slot), k x2 = some (r, z_t_measured, z_t_ways_planks, z_t_ways_least, z_t_ways_neighbours) → lv_has ls 4 [(2, .int x2)] → wd_ G A s.heap (wl_X9_far G A_t A_t_now A_t_images A_t_pad A_t_evening A_t_ways A_t_tour A_t_odds A_t_now_marsh A_t_now_crowd A_t_now_sights A_t_now_marsh_codes A_t_now_crowd_at A_t_now_crowd_home A_t_now_crowd_light A_t_now_crowd_carries A_t_now_crowd_bearer A_t_ways_planks A_t_ways_least A_t_ways_neighbours c_t_measured c_t_now_marsh_codes c_t_now_crowd_there c_t_now_crowd_foggy c_t_now_crowd_at c_t_now_crowd_light c_t_ways_planks c_t_ways_least c_t_ways_neighbours) H locs → W p l e { frames := 4, cells := 0, slots := 0, locals := 92 } s m args below meth c H locs 0 0 Q (F0 m 63 ls [])) : ∀ (n : Nat) (x2 : Int32) (x3 : Int32) (H : Heap) (locs : List Loc) (ls : Array Slot), fn_X9_far_l24 c_t_now_crowd_at c_t_now_crowd_light c_t_ways_least x1 k n x2 x3 = some (r, z_t_measured, z_t_ways_planks, z_t_ways_least, z_t_ways_neighbours) → lv_has ls 4 [(0, .ref A_t), (1, .int x1), (2, .int x2), (3, .int x3)] → wd_ G A s.heap (wl_X9_far G A_t A_t_now A_t_images A_t_pad A_t_evening A_t_ways A_t_tour A_t_odds A_t_now_marsh A_t_now_crowd A_t_now_sights A_t_now_marsh_codes A_t_now_crowd_at A_t_now_crowd_home A_t_now_crowd_light A_t_now_crowd_carries A_t_now_crowd_bearer A_t_ways_planks A_t_ways_least A_t_ways_neighbours c_t_measured c_t_now_marsh_codes c_t_now_crowd_there c_t_now_crowd_foggy c_t_now_crowd_at c_t_now_crowd_light c_t_ways_planks c_t_ways_least c_t_ways_neighbours) H locs → W p l e { frames := 4, cells := 0, slots := 0, locals := 92 } s m args below meth c H locs 0 0 Q (F0 m 24 ls []) := by
  have hx := hC.1
  have hb := hC.2.1
  intro n
  induction n with
  | zero =>
    intro x2 x3 H locs ls hf
    cases (show (none : Option (Int32 × Int32 × (Nat → Int32) × (Nat → Int32) × (Nat → Int32))) = some _ from hf)
  | succ n hrc =>
    intro x2 x3 H locs ls hf hl hw
    replace hf : fn_X9_far_b24 c_t_now_crowd_at c_t_now_crowd_light c_t_ways_least x1 (fn_X9_far_l24 c_t_now_crowd_at c_t_now_crowd_light c_t_ways_least x1 k n) k x2 x3 = some (r, z_t_measured, z_t_ways_planks, z_t_ways_least, z_t_ways_neighbours) := hf
    unfold fn_X9_far_b24 at hf
    refine lv_iload_n hx hb dX9_far_24 rfl (lv_at hl 3 rfl) ?_
    refine lv_bipush (v := 12) hx hb dX9_far_25 (by decide) ?_
    refine lv_icmp_ge (tgt := 63) hx hb dX9_far_27 (by decide) (fun hc => ?_) (fun hc => ?_)
    · replace hf := it_t hc hf
      exact hk x2 _ _ _ hf (lv_sub hl [2] rfl) hw
    · replace hf := it_f hc hf
      refine lv_aload_n hx hb dX9_far_30 rfl (lv_at hl 0 rfl) ?_
      refine g_get hC hw fkX9_12 0 rfl rfl dX9_far_31 ?_
      refine g_get hC hw fkX9_81 1 rfl rfl dX9_far_34 ?_
      refine lv_aload_n hx hb dX9_far_37 rfl (lv_at hl 0 rfl) ?_
      refine g_get hC hw fkX9_37 0 rfl rfl dX9_far_38 ?_
      refine lv_iload_n hx hb dX9_far_41 rfl (lv_at hl 1 rfl) ?_
      refine lv_iload_n hx hb dX9_far_42 rfl (lv_at hl 3 rfl) ?_
      obtain ⟨r8, hq9, hf⟩ := b1_s hf
      refine h_cVi hC hw mvX9_167 (cn_X0_lightAfter l G A_t_now_crowd A_t_now_crowd_at A_t_now_crowd_home A_t_now_crowd_light A_t_now_crowd_carries A_t_now_crowd_bearer A_t_ways A_t_ways_planks A_t_ways_least A_t_ways_neighbours c_t_now_crowd_there c_t_now_crowd_foggy c_t_now_crowd_at c_t_now_crowd_light c_t_ways_least x1 x3 r8 hq9) [4, 5, 6, 7, 9] rfl (by decide) 4 rfl rfl rfl hl.1 rfl (Nat.le_of_ble_eq_true rfl) ⟨Nat.le_of_ble_eq_true rfl, Nat.le_of_ble_eq_true rfl⟩ ⟨Nat.le_refl _, Nat.le_refl _⟩ dX9_far_43 (fun H locs hw => ?_)
      refine lv_bipush (v := (-6)) hx hb dX9_far_46 (by decide) ?_
      refine lv_icmp_eq (tgt := 57) hx hb dX9_far_48 (by decide) (fun hc => ?_) (fun hc => ?_)
      · replace hf := it_t hc hf
        refine lv_iinc (v := x3 + 1) (lv' := [(3, .int (x3 + 1)), (0, .ref A_t), (1, .int x1), (2, .int x2)]) hx hb dX9_far_57 hl (k := 3) rfl rfl (by decide) rfl (fun ls hl => ?_)
        refine lv_goto (tgt := 24) hx hb dX9_far_60 (by decide) ?_
        exact hrc x2 (x3 + 1) _ _ _ hf (lv_sub hl [1, 2, 3, 0] rfl) hw
      · replace hf := it_f hc hf
        refine lv_iload_n hx hb dX9_far_51 rfl (lv_at hl 2 rfl) ?_
        refine lv_iconst (v := 1) hx hb dX9_far_52 (by decide) ?_
        refine lv_iload_n hx hb dX9_far_53 rfl (lv_at hl 3 rfl) ?_
        refine lv_ishl hx hb dX9_far_54 ?_
        refine lv_ior hx hb dX9_far_55 ?_
        obtain ⟨y10, ey10, hf⟩ := lx_s hf
        rw [← ey10]
        refine lv_istore_n (lv' := [(2, .int y10), (0, .ref A_t), (1, .int x1), (3, .int x3)]) hx hb dX9_far_56 rfl hl (by decide) rfl (fun ls hl => ?_)
        refine lv_iinc (v := x3 + 1) (lv' := [(3, .int (x3 + 1)), (2, .int y10), (0, .ref A_t), (1, .int x1)]) hx hb dX9_far_57 hl (k := 3) rfl rfl (by decide) rfl (fun ls hl => ?_)
        refine lv_goto (tgt := 24) hx hb dX9_far_60 (by decide) ?_
        exact hrc y10 (x3 + 1) _ _ _ hf (lv_sub hl [2, 3, 1, 0] rfl) hw
set_option maxHeartbeats 4000000 in
set_option maxRecDepth 100000 in
theorem wn_X9_far {p : Program} {l : Launch} {e : Env} {s : State} {m : MethodId} {args : Array Value} {below : List Frame} {meth : Method} {c : Code} {G : gw_} {A : Nat → Prop} {Q : State → Prop} {A_t : Nat} {A_t_now : Nat} {A_t_images : Nat} {A_t_pad : Nat} {A_t_evening : Nat} {A_t_ways : Nat} {A_t_tour : Nat} {A_t_odds : Nat} {A_t_now_marsh : Nat} {A_t_now_crowd : Nat} {A_t_now_sights : Nat} {A_t_now_marsh_codes : Nat} {A_t_now_crowd_at : Nat} {A_t_now_crowd_home : Nat} {A_t_now_crowd_light : Nat} {A_t_now_crowd_carries : Nat} {A_t_now_crowd_bearer : Nat} {A_t_ways_planks : Nat} {A_t_ways_least : Nat} {A_t_ways_neighbours : Nat} {c_t_measured : Int32} {z_t_measured : Int32} {c_t_now_marsh_codes : Nat → Int32} {c_t_now_crowd_there : Int32} {c_t_now_crowd_foggy : Int32} {c_t_now_crowd_at : Nat → Int32} {c_t_now_crowd_light : Nat → Int32} {c_t_ways_planks : Nat → Int32} {z_t_ways_planks : Nat → Int32} {c_t_ways_least : Nat → Int32} {z_t_ways_least : Nat → Int32} {c_t_ways_neighbours : Nat → Int32} {z_t_ways_neighbours : Nat → Int32} {r : Int32} {x1 : Int32} (hC : cx_ p s m c G cX9_far 4 RX9) (hret : ∀ (pc : Nat) (H : Heap) (locs : List Loc) (ls : Array Slot), decode cX9_far pc = .ok (.ireturn, 1) → wd_ G A s.heap (wl_X9_far G A_t A_t_now A_t_images A_t_pad A_t_evening A_t_ways A_t_tour A_t_odds A_t_now_marsh A_t_now_crowd A_t_now_sights A_t_now_marsh_codes A_t_now_crowd_at A_t_now_crowd_home A_t_now_crowd_light A_t_now_crowd_carries A_t_now_crowd_bearer A_t_ways_planks A_t_ways_least A_t_ways_neighbours z_t_measured c_t_now_marsh_codes c_t_now_crowd_there c_t_now_crowd_foggy c_t_now_crowd_at c_t_now_crowd_light z_t_ways_planks z_t_ways_least z_t_ways_neighbours) H locs → W p l e { frames := 4, cells := 0, slots := 0, locals := 92 } s m args below meth c H locs 0 0 Q (F0 m pc ls [.int r])) (hf : fn_X9_far c_t_measured c_t_now_marsh_codes c_t_now_crowd_there c_t_now_crowd_foggy c_t_now_crowd_at c_t_now_crowd_light c_t_ways_planks c_t_ways_least c_t_ways_neighbours x1 = some (r, z_t_measured, z_t_ways_planks, z_t_ways_least, z_t_ways_neighbours)) {H : Heap} {locs : List Loc} {ls : Array Slot} (hl : lv_has ls 4 [(0, .ref A_t), (1, .int x1)]) (hw : wd_ G A s.heap (wl_X9_far G A_t A_t_now A_t_images A_t_pad A_t_evening A_t_ways A_t_tour A_t_odds A_t_now_marsh A_t_now_crowd A_t_now_sights A_t_now_marsh_codes A_t_now_crowd_at A_t_now_crowd_home A_t_now_crowd_light A_t_now_crowd_carries A_t_now_crowd_bearer A_t_ways_planks A_t_ways_least A_t_ways_neighbours c_t_measured c_t_now_marsh_codes c_t_now_crowd_there c_t_now_crowd_foggy c_t_now_crowd_at c_t_now_crowd_light c_t_ways_planks c_t_ways_least c_t_ways_neighbours) H locs) : W p l e { frames := 4, cells := 0, slots := 0, locals := 92 } s m args below meth c H locs 0 0 Q (F0 m 0 ls []) := by
  have hx := hC.1
  have hb := hC.2.1
  unfold fn_X9_far at hf
  refine lv_aload_n hx hb dX9_far_0 rfl (lv_at hl 0 rfl) ?_
  refine g_get hC hw fkX9_12 0 rfl rfl dX9_far_1 ?_
  refine g_get hC hw fkX9_81 1 rfl rfl dX9_far_4 ?_
  refine lv_iload_n hx hb dX9_far_7 rfl (lv_at hl 1 rfl) ?_
  obtain ⟨r1, hq2, hf⟩ := b1_s hf
  refine h_cVi hC hw mvX9_95 (cn_X0_has l G A_t_now_crowd A_t_now_crowd_at A_t_now_crowd_home A_t_now_crowd_light A_t_now_crowd_carries A_t_now_crowd_bearer c_t_now_crowd_there c_t_now_crowd_foggy x1 r1 hq2) [4] rfl (by decide) 4 rfl rfl rfl hl.1 rfl (Nat.le_of_ble_eq_true rfl) ⟨Nat.le_of_ble_eq_true rfl, Nat.le_of_ble_eq_true rfl⟩ ⟨Nat.le_refl _, Nat.le_refl _⟩ dX9_far_8 (fun H locs hw => ?_)
  refine lv_if_ne (tgt := 16) hx hb dX9_far_11 (by decide) (fun hc => ?_) (fun hc => ?_)
  · replace hf := it_f hc hf
    refine lv_aload_n hx hb dX9_far_16 rfl (lv_at hl 0 rfl) ?_
    obtain ⟨w3, w4, w5, w6, hq7, hf⟩ := b4_s hf
    refine g_cVv hC hw mvX9_155 (cn_X9_measure l G A_t A_t_now A_t_images A_t_pad A_t_evening A_t_ways A_t_tour A_t_odds A_t_now_marsh A_t_now_crowd A_t_now_sights A_t_now_marsh_codes A_t_now_crowd_at A_t_now_crowd_home A_t_now_crowd_light A_t_now_crowd_carries A_t_now_crowd_bearer A_t_ways_planks A_t_ways_least A_t_ways_neighbours c_t_measured c_t_now_marsh_codes c_t_now_crowd_there c_t_now_crowd_foggy c_t_ways_planks c_t_ways_least c_t_ways_neighbours w3 w4 w5 w6 hq7) [0, 1, 2, 3, 4, 7, 8, 9, 10] rfl (by decide) rfl 0 rfl rfl rfl hl.1 rfl (Nat.le_of_ble_eq_true rfl) ⟨Nat.le_of_ble_eq_true rfl, Nat.le_of_ble_eq_true rfl⟩ ⟨Nat.le_refl _, Nat.le_refl _⟩ dX9_far_17 (fun H locs hw => ?_)
    have hw : wd_ G A s.heap (wl_X9_far G A_t A_t_now A_t_images A_t_pad A_t_evening A_t_ways A_t_tour A_t_odds A_t_now_marsh A_t_now_crowd A_t_now_sights A_t_now_marsh_codes A_t_now_crowd_at A_t_now_crowd_home A_t_now_crowd_light A_t_now_crowd_carries A_t_now_crowd_bearer A_t_ways_planks A_t_ways_least A_t_ways_neighbours w3 c_t_now_marsh_codes c_t_now_crowd_there c_t_now_crowd_foggy c_t_now_crowd_at c_t_now_crowd_light w4 w5 w6) H locs := hw
    refine lv_iconst (v := 0) hx hb dX9_far_20 (by decide) ?_
    refine lv_istore_n (lv' := [(2, .int 0), (0, .ref A_t), (1, .int x1)]) hx hb dX9_far_21 rfl hl (by decide) rfl (fun ls hl => ?_)
    refine lv_iconst (v := 0) hx hb dX9_far_22 (by decide) ?_
    refine lv_istore_n (lv' := [(3, .int 0), (2, .int 0), (0, .ref A_t), (1, .int x1)]) hx hb dX9_far_23 rfl hl (by decide) rfl (fun ls hl => ?_)
    refine wn_X9_far_l24 hC hret (fun v11 H locs ls hf hl hw => ?_) fu_ 0 0 _ _ _ hf (lv_sub hl [2, 3, 1, 0] rfl) hw
    refine lv_iload_n hx hb dX9_far_63 rfl (lv_at hl 0 rfl) ?_
    obtain ⟨h1_, h2_, h3_, h4_, h5_⟩ := t5_ hf
    subst h1_
    subst h2_
    subst h3_
    subst h4_
    subst h5_
    exact hret _ _ _ _ dX9_far_64 hw
  · replace hf := it_t hc hf
    refine lv_iconst (v := (-1)) hx hb dX9_far_14 (by decide) ?_
    obtain ⟨h1_, h2_, h3_, h4_, h5_⟩ := t5_ hf
    subst h1_
    subst h2_
    subst h3_
    subst h4_
    subst h5_
    exact hret _ _ _ _ dX9_far_15 hw
set_option maxHeartbeats 4000000 in
set_option maxRecDepth 100000 in
theorem cn_X9_far (l : Launch) (G : gw_) (A_t : Nat) (A_t_now : Nat) (A_t_images : Nat) (A_t_pad : Nat) (A_t_evening : Nat) (A_t_ways : Nat) (A_t_tour : Nat) (A_t_odds : Nat) (A_t_now_marsh : Nat) (A_t_now_crowd : Nat) (A_t_now_sights : Nat) (A_t_now_marsh_codes : Nat) (A_t_now_crowd_at : Nat) (A_t_now_crowd_home : Nat) (A_t_now_crowd_light : Nat) (A_t_now_crowd_carries : Nat) (A_t_now_crowd_bearer : Nat) (A_t_ways_planks : Nat) (A_t_ways_least : Nat) (A_t_ways_neighbours : Nat) (c_t_measured : Int32) (c_t_now_marsh_codes : Nat → Int32) (c_t_now_crowd_there : Int32) (c_t_now_crowd_foggy : Int32) (c_t_now_crowd_at : Nat → Int32) (c_t_now_crowd_light : Nat → Int32) (c_t_ways_planks : Nat → Int32) (c_t_ways_least : Nat → Int32) (c_t_ways_neighbours : Nat → Int32) (x1 : Int32) (r : Int32) (z_t_measured : Int32) (z_t_ways_planks : Nat → Int32) (z_t_ways_least : Nat → Int32) (z_t_ways_neighbours : Nat → Int32) (hf : fn_X9_far c_t_measured c_t_now_marsh_codes c_t_now_crowd_there c_t_now_crowd_foggy c_t_now_crowd_at c_t_now_crowd_light c_t_ways_planks c_t_ways_least c_t_ways_neighbours x1 = some (r, z_t_measured, z_t_ways_planks, z_t_ways_least, z_t_ways_neighbours)) : ci_ l G yX9_far cX9_far 4 (some .int) 4 92 (wl_X9_far G A_t A_t_now A_t_images A_t_pad A_t_evening A_t_ways A_t_tour A_t_odds A_t_now_marsh A_t_now_crowd A_t_now_sights A_t_now_marsh_codes A_t_now_crowd_at A_t_now_crowd_home A_t_now_crowd_light A_t_now_crowd_carries A_t_now_crowd_bearer A_t_ways_planks A_t_ways_least A_t_ways_neighbours c_t_measured c_t_now_marsh_codes c_t_now_crowd_there c_t_now_crowd_foggy c_t_now_crowd_at c_t_now_crowd_light c_t_ways_planks c_t_ways_least c_t_ways_neighbours) [.ref A_t, .int x1] r (wl_X9_far G A_t A_t_now A_t_images A_t_pad A_t_evening A_t_ways A_t_tour A_t_odds A_t_now_marsh A_t_now_crowd A_t_now_sights A_t_now_marsh_codes A_t_now_crowd_at A_t_now_crowd_home A_t_now_crowd_light A_t_now_crowd_carries A_t_now_crowd_bearer A_t_ways_planks A_t_ways_least A_t_ways_neighbours z_t_measured c_t_now_marsh_codes c_t_now_crowd_there c_t_now_crowd_foggy c_t_now_crowd_at c_t_now_crowd_light z_t_ways_planks z_t_ways_least z_t_ways_neighbours) := fun sz => met_intro (by decide) (Nat.le_of_ble_eq_true rfl) (fun p e s m args below meth c ls hsz hC hr hlk hnm hl hw => wn_X9_far hC (fun pc H locs ls hd hw => g_iret hC hr hlk hw rfl rfl hd) hf hl hw)

theorem dX9_left_0 : decode cX9_left 0 = .ok (.aload_n 0, 1) := by decide +kernel
theorem dX9_left_1 : decode cX9_left 1 = .ok (.getfield 12, 3) := by decide +kernel
theorem dX9_left_4 : decode cX9_left 4 = .ok (.getfield 81, 3) := by decide +kernel
theorem dX9_left_7 : decode cX9_left 7 = .ok (.iload_n 1, 1) := by decide +kernel
theorem dX9_left_8 : decode cX9_left 8 = .ok (.invokevirtual 95, 3) := by decide +kernel
theorem dX9_left_11 : decode cX9_left 11 = .ok (.ifCond .ne 5, 3) := by decide +kernel
theorem dX9_left_14 : decode cX9_left 14 = .ok (.iconst (-1), 1) := by decide +kernel
theorem dX9_left_15 : decode cX9_left 15 = .ok (.ireturn, 1) := by decide +kernel
theorem dX9_left_16 : decode cX9_left 16 = .ok (.aload_n 0, 1) := by decide +kernel
theorem dX9_left_17 : decode cX9_left 17 = .ok (.invokevirtual 155, 3) := by decide +kernel
theorem dX9_left_20 : decode cX9_left 20 = .ok (.aload_n 0, 1) := by decide +kernel
theorem dX9_left_21 : decode cX9_left 21 = .ok (.getfield 12, 3) := by decide +kernel
theorem dX9_left_24 : decode cX9_left 24 = .ok (.getfield 81, 3) := by decide +kernel
theorem dX9_left_27 : decode cX9_left 27 = .ok (.aload_n 0, 1) := by decide +kernel
theorem dX9_left_28 : decode cX9_left 28 = .ok (.getfield 37, 3) := by decide +kernel
theorem dX9_left_31 : decode cX9_left 31 = .ok (.iload_n 1, 1) := by decide +kernel
theorem dX9_left_32 : decode cX9_left 32 = .ok (.invokevirtual 171, 3) := by decide +kernel
theorem dX9_left_35 : decode cX9_left 35 = .ok (.istore_n 2, 1) := by decide +kernel
theorem dX9_left_36 : decode cX9_left 36 = .ok (.iload_n 2, 1) := by decide +kernel
theorem dX9_left_37 : decode cX9_left 37 = .ok (.ldc 175, 2) := by decide +kernel
theorem dX9_left_39 : decode cX9_left 39 = .ok (.if_icmp .lt 8, 3) := by decide +kernel
theorem dX9_left_42 : decode cX9_left 42 = .ok (.bipush (-6), 2) := by decide +kernel
theorem dX9_left_44 : decode cX9_left 44 = .ok (.goto 21, 3) := by decide +kernel
theorem dX9_left_47 : decode cX9_left 47 = .ok (.aload_n 0, 1) := by decide +kernel
theorem dX9_left_48 : decode cX9_left 48 = .ok (.getfield 12, 3) := by decide +kernel
theorem dX9_left_51 : decode cX9_left 51 = .ok (.getfield 81, 3) := by decide +kernel
theorem dX9_left_54 : decode cX9_left 54 = .ok (.getfield 135, 3) := by decide +kernel
theorem dX9_left_57 : decode cX9_left 57 = .ok (.iload_n 1, 1) := by decide +kernel
theorem dX9_left_58 : decode cX9_left 58 = .ok (.iaload, 1) := by decide +kernel
theorem dX9_left_59 : decode cX9_left 59 = .ok (.iload_n 2, 1) := by decide +kernel
theorem dX9_left_60 : decode cX9_left 60 = .ok (.isub, 1) := by decide +kernel
theorem dX9_left_61 : decode cX9_left 61 = .ok (.sipush 10000, 3) := by decide +kernel
theorem dX9_left_64 : decode cX9_left 64 = .ok (.iadd, 1) := by decide +kernel
theorem dX9_left_65 : decode cX9_left 65 = .ok (.ireturn, 1) := by decide +kernel
abbrev wl_X9_left (G : gw_) (A_t : Nat) (A_t_now : Nat) (A_t_images : Nat) (A_t_pad : Nat) (A_t_evening : Nat) (A_t_ways : Nat) (A_t_tour : Nat) (A_t_odds : Nat) (A_t_now_marsh : Nat) (A_t_now_crowd : Nat) (A_t_now_sights : Nat) (A_t_now_marsh_codes : Nat) (A_t_now_crowd_at : Nat) (A_t_now_crowd_home : Nat) (A_t_now_crowd_light : Nat) (A_t_now_crowd_carries : Nat) (A_t_now_crowd_bearer : Nat) (A_t_ways_planks : Nat) (A_t_ways_least : Nat) (A_t_ways_neighbours : Nat) (c_t_measured : Int32) (c_t_now_marsh_codes : Nat → Int32) (c_t_now_crowd_there : Int32) (c_t_now_crowd_foggy : Int32) (c_t_now_crowd_at : Nat → Int32) (c_t_now_crowd_home : Nat → Int32) (c_t_now_crowd_light : Nat → Int32) (c_t_ways_planks : Nat → Int32) (c_t_ways_least : Nat → Int32) (c_t_ways_neighbours : Nat → Int32) : va_W := [ob_ A_t 9 [.ref A_t_now, .ref A_t_images, .ref A_t_pad, .ref A_t_evening, .ref A_t_ways, .ref A_t_tour, .ref A_t_odds, .int c_t_measured], ob_ A_t_now 5 [.ref A_t_now_marsh, .ref A_t_now_crowd, .ref A_t_now_sights], ob_ A_t_now_marsh 2 [.ref A_t_now_marsh_codes], ia_ G A_t_now_marsh_codes 144 c_t_now_marsh_codes, ob_ A_t_now_crowd 0 [.int c_t_now_crowd_there, .int c_t_now_crowd_foggy, .ref A_t_now_crowd_at, .ref A_t_now_crowd_home, .ref A_t_now_crowd_light, .ref A_t_now_crowd_carries, .ref A_t_now_crowd_bearer], ia_ G A_t_now_crowd_at 6 c_t_now_crowd_at, ia_ G A_t_now_crowd_home 6 c_t_now_crowd_home, ia_ G A_t_now_crowd_light 6 c_t_now_crowd_light, ob_ A_t_ways 8 [.ref A_t_ways_planks, .ref A_t_ways_least, .ref A_t_ways_neighbours], ia_ G A_t_ways_planks 144 c_t_ways_planks, ia_ G A_t_ways_least 144 c_t_ways_least, ia_ G A_t_ways_neighbours 12 c_t_ways_neighbours]
def fn_X9_left (c_t_measured : Int32) (c_t_now_marsh_codes : Nat → Int32) (c_t_now_crowd_there : Int32) (c_t_now_crowd_foggy : Int32) (c_t_now_crowd_at : Nat → Int32) (c_t_now_crowd_home : Nat → Int32) (c_t_now_crowd_light : Nat → Int32) (c_t_ways_planks : Nat → Int32) (c_t_ways_least : Nat → Int32) (c_t_ways_neighbours : Nat → Int32) (x1 : Int32) : Option (Int32 × Int32 × (Nat → Int32) × (Nat → Int32) × (Nat → Int32)) :=
  b1_ (fn_X0_has c_t_now_crowd_there x1) fun r1 =>
  if r1 = 0 then
    some ((-1), c_t_measured, c_t_ways_planks, c_t_ways_least, c_t_ways_neighbours)
  else
    b4_ (fn_X9_measure c_t_measured c_t_now_marsh_codes c_t_now_crowd_foggy c_t_ways_planks c_t_ways_least c_t_ways_neighbours) fun w3 w4 w5 w6 =>
    b1_ (fn_X0_costsHome c_t_now_crowd_at c_t_now_crowd_home w5 x1) fun r8 =>
    if r8 < 1000000 then
      ck_ x1 6 <|
      some (((c_t_now_crowd_light (Int32.toNatClampNeg x1)) - r8) + 10000, w3, w4, w5, w6)
    else
      some ((-6), w3, w4, w5, w6)
set_option maxHeartbeats 4000000 in
set_option maxRecDepth 100000 in
theorem wn_X9_left {p : Program} {l : Launch} {e : Env} {s : State} {m : MethodId} {args : Array Value} {below : List Frame} {meth : Method} {c : Code} {G : gw_} {A : Nat → Prop} {Q : State → Prop} {A_t : Nat} {A_t_now : Nat} {A_t_images : Nat} {A_t_pad : Nat} {A_t_evening : Nat} {A_t_ways : Nat} {A_t_tour : Nat} {A_t_odds : Nat} {A_t_now_marsh : Nat} {A_t_now_crowd : Nat} {A_t_now_sights : Nat} {A_t_now_marsh_codes : Nat} {A_t_now_crowd_at : Nat} {A_t_now_crowd_home : Nat} {A_t_now_crowd_light : Nat} {A_t_now_crowd_carries : Nat} {A_t_now_crowd_bearer : Nat} {A_t_ways_planks : Nat} {A_t_ways_least : Nat} {A_t_ways_neighbours : Nat} {c_t_measured : Int32} {z_t_measured : Int32} {c_t_now_marsh_codes : Nat → Int32} {c_t_now_crowd_there : Int32} {c_t_now_crowd_foggy : Int32} {c_t_now_crowd_at : Nat → Int32} {c_t_now_crowd_home : Nat → Int32} {c_t_now_crowd_light : Nat → Int32} {c_t_ways_planks : Nat → Int32} {z_t_ways_planks : Nat → Int32} {c_t_ways_least : Nat → Int32} {z_t_ways_least : Nat → Int32} {c_t_ways_neighbours : Nat → Int32} {z_t_ways_neighbours : Nat → Int32} {r : Int32} {x1 : Int32} (hC : cx_ p s m c G cX9_left 3 RX9) (hret : ∀ (pc : Nat) (H : Heap) (locs : List Loc) (ls : Array Slot), decode cX9_left pc = .ok (.ireturn, 1) → wd_ G A s.heap (wl_X9_left G A_t A_t_now A_t_images A_t_pad A_t_evening A_t_ways A_t_tour A_t_odds A_t_now_marsh A_t_now_crowd A_t_now_sights A_t_now_marsh_codes A_t_now_crowd_at A_t_now_crowd_home A_t_now_crowd_light A_t_now_crowd_carries A_t_now_crowd_bearer A_t_ways_planks A_t_ways_least A_t_ways_neighbours z_t_measured c_t_now_marsh_codes c_t_now_crowd_there c_t_now_crowd_foggy c_t_now_crowd_at c_t_now_crowd_home c_t_now_crowd_light z_t_ways_planks z_t_ways_least z_t_ways_neighbours) H locs → W p l e { frames := 4, cells := 0, slots := 0, locals := 92 } s m args below meth c H locs 0 0 Q (F0 m pc ls [.int r])) (hf : fn_X9_left c_t_measured c_t_now_marsh_codes c_t_now_crowd_there c_t_now_crowd_foggy c_t_now_crowd_at c_t_now_crowd_home c_t_now_crowd_light c_t_ways_planks c_t_ways_least c_t_ways_neighbours x1 = some (r, z_t_measured, z_t_ways_planks, z_t_ways_least, z_t_ways_neighbours)) {H : Heap} {locs : List Loc} {ls : Array Slot} (hl : lv_has ls 3 [(0, .ref A_t), (1, .int x1)]) (hw : wd_ G A s.heap (wl_X9_left G A_t A_t_now A_t_images A_t_pad A_t_evening A_t_ways A_t_tour A_t_odds A_t_now_marsh A_t_now_crowd A_t_now_sights A_t_now_marsh_codes A_t_now_crowd_at A_t_now_crowd_home A_t_now_crowd_light A_t_now_crowd_carries A_t_now_crowd_bearer A_t_ways_planks A_t_ways_least A_t_ways_neighbours c_t_measured c_t_now_marsh_codes c_t_now_crowd_there c_t_now_crowd_foggy c_t_now_crowd_at c_t_now_crowd_home c_t_now_crowd_light c_t_ways_planks c_t_ways_least c_t_ways_neighbours) H locs) : W p l e { frames := 4, cells := 0, slots := 0, locals := 92 } s m args below meth c H locs 0 0 Q (F0 m 0 ls []) := by
  have hx := hC.1
  have hb := hC.2.1
  unfold fn_X9_left at hf
  refine lv_aload_n hx hb dX9_left_0 rfl (lv_at hl 0 rfl) ?_
  refine g_get hC hw fkX9_12 0 rfl rfl dX9_left_1 ?_
  refine g_get hC hw fkX9_81 1 rfl rfl dX9_left_4 ?_
  refine lv_iload_n hx hb dX9_left_7 rfl (lv_at hl 1 rfl) ?_
  obtain ⟨r1, hq2, hf⟩ := b1_s hf
  refine h_cVi hC hw mvX9_95 (cn_X0_has l G A_t_now_crowd A_t_now_crowd_at A_t_now_crowd_home A_t_now_crowd_light A_t_now_crowd_carries A_t_now_crowd_bearer c_t_now_crowd_there c_t_now_crowd_foggy x1 r1 hq2) [4] rfl (by decide) 4 rfl rfl rfl hl.1 rfl (Nat.le_of_ble_eq_true rfl) ⟨Nat.le_of_ble_eq_true rfl, Nat.le_of_ble_eq_true rfl⟩ ⟨Nat.le_refl _, Nat.le_refl _⟩ dX9_left_8 (fun H locs hw => ?_)
  refine lv_if_ne (tgt := 16) hx hb dX9_left_11 (by decide) (fun hc => ?_) (fun hc => ?_)
  · replace hf := it_f hc hf
    refine lv_aload_n hx hb dX9_left_16 rfl (lv_at hl 0 rfl) ?_
    obtain ⟨w3, w4, w5, w6, hq7, hf⟩ := b4_s hf
    refine g_cVv hC hw mvX9_155 (cn_X9_measure l G A_t A_t_now A_t_images A_t_pad A_t_evening A_t_ways A_t_tour A_t_odds A_t_now_marsh A_t_now_crowd A_t_now_sights A_t_now_marsh_codes A_t_now_crowd_at A_t_now_crowd_home A_t_now_crowd_light A_t_now_crowd_carries A_t_now_crowd_bearer A_t_ways_planks A_t_ways_least A_t_ways_neighbours c_t_measured c_t_now_marsh_codes c_t_now_crowd_there c_t_now_crowd_foggy c_t_ways_planks c_t_ways_least c_t_ways_neighbours w3 w4 w5 w6 hq7) [0, 1, 2, 3, 4, 8, 9, 10, 11] rfl (by decide) rfl 0 rfl rfl rfl hl.1 rfl (Nat.le_of_ble_eq_true rfl) ⟨Nat.le_of_ble_eq_true rfl, Nat.le_of_ble_eq_true rfl⟩ ⟨Nat.le_refl _, Nat.le_refl _⟩ dX9_left_17 (fun H locs hw => ?_)
    have hw : wd_ G A s.heap (wl_X9_left G A_t A_t_now A_t_images A_t_pad A_t_evening A_t_ways A_t_tour A_t_odds A_t_now_marsh A_t_now_crowd A_t_now_sights A_t_now_marsh_codes A_t_now_crowd_at A_t_now_crowd_home A_t_now_crowd_light A_t_now_crowd_carries A_t_now_crowd_bearer A_t_ways_planks A_t_ways_least A_t_ways_neighbours w3 c_t_now_marsh_codes c_t_now_crowd_there c_t_now_crowd_foggy c_t_now_crowd_at c_t_now_crowd_home c_t_now_crowd_light w4 w5 w6) H locs := hw
    refine lv_aload_n hx hb dX9_left_20 rfl (lv_at hl 0 rfl) ?_
    refine g_get hC hw fkX9_12 0 rfl rfl dX9_left_21 ?_
    refine g_get hC hw fkX9_81 1 rfl rfl dX9_left_24 ?_
    refine lv_aload_n hx hb dX9_left_27 rfl (lv_at hl 0 rfl) ?_
    refine g_get hC hw fkX9_37 0 rfl rfl dX9_left_28 ?_
    refine lv_iload_n hx hb dX9_left_31 rfl (lv_at hl 1 rfl) ?_
    obtain ⟨r8, hq9, hf⟩ := b1_s hf
    refine h_cVi hC hw mvX9_171 (cn_X0_costsHome l G A_t_now_crowd A_t_now_crowd_at A_t_now_crowd_home A_t_now_crowd_light A_t_now_crowd_carries A_t_now_crowd_bearer A_t_ways A_t_ways_planks A_t_ways_least A_t_ways_neighbours c_t_now_crowd_there c_t_now_crowd_foggy c_t_now_crowd_at c_t_now_crowd_home w5 x1 r8 hq9) [4, 5, 6, 8, 10] rfl (by decide) 4 rfl rfl rfl hl.1 rfl (Nat.le_of_ble_eq_true rfl) ⟨Nat.le_of_ble_eq_true rfl, Nat.le_of_ble_eq_true rfl⟩ ⟨Nat.le_refl _, Nat.le_refl _⟩ dX9_left_32 (fun H locs hw => ?_)
    refine lv_istore_n (lv' := [(2, .int r8), (0, .ref A_t), (1, .int x1)]) hx hb dX9_left_35 rfl hl (by decide) rfl (fun ls hl => ?_)
    refine lv_iload_n hx hb dX9_left_36 rfl (lv_at hl 0 rfl) ?_
    refine g_ldc (v := 1000000) hC (tb2 211 rfl rfl) dX9_left_37 ?_
    refine lv_icmp_lt (tgt := 47) hx hb dX9_left_39 (by decide) (fun hc => ?_) (fun hc => ?_)
    · replace hf := it_t hc hf
      refine lv_aload_n hx hb dX9_left_47 rfl (lv_at hl 1 rfl) ?_
      refine g_get hC hw fkX9_12 0 rfl rfl dX9_left_48 ?_
      refine g_get hC hw fkX9_81 1 rfl rfl dX9_left_51 ?_
      refine g_get hC hw fkX9_135 4 rfl rfl dX9_left_54 ?_
      refine lv_iload_n hx hb dX9_left_57 rfl (lv_at hl 2 rfl) ?_
      obtain ⟨hi, hf⟩ := ck_s hf
      refine g_iald hC hw 7 rfl hi dX9_left_58 ?_
      refine lv_iload_n hx hb dX9_left_59 rfl (lv_at hl 0 rfl) ?_
      refine lv_isub hx hb dX9_left_60 ?_
      refine lv_sipush (v := 10000) hx hb dX9_left_61 (by decide) ?_
      refine lv_iadd hx hb dX9_left_64 ?_
      obtain ⟨h1_, h2_, h3_, h4_, h5_⟩ := t5_ hf
      subst h1_
      subst h2_
      subst h3_
      subst h4_
      subst h5_
      exact hret _ _ _ _ dX9_left_65 hw
    · replace hf := it_f hc hf
      refine lv_bipush (v := (-6)) hx hb dX9_left_42 (by decide) ?_
      refine lv_goto (tgt := 65) hx hb dX9_left_44 (by decide) ?_
      obtain ⟨h1_, h2_, h3_, h4_, h5_⟩ := t5_ hf
      subst h1_
      subst h2_
      subst h3_
      subst h4_
      subst h5_
      exact hret _ _ _ _ dX9_left_65 hw
  · replace hf := it_t hc hf
    refine lv_iconst (v := (-1)) hx hb dX9_left_14 (by decide) ?_
    obtain ⟨h1_, h2_, h3_, h4_, h5_⟩ := t5_ hf
    subst h1_
    subst h2_
    subst h3_
    subst h4_
    subst h5_
    exact hret _ _ _ _ dX9_left_15 hw
set_option maxHeartbeats 4000000 in
set_option maxRecDepth 100000 in
theorem cn_X9_left (l : Launch) (G : gw_) (A_t : Nat) (A_t_now : Nat) (A_t_images : Nat) (A_t_pad : Nat) (A_t_evening : Nat) (A_t_ways : Nat) (A_t_tour : Nat) (A_t_odds : Nat) (A_t_now_marsh : Nat) (A_t_now_crowd : Nat) (A_t_now_sights : Nat) (A_t_now_marsh_codes : Nat) (A_t_now_crowd_at : Nat) (A_t_now_crowd_home : Nat) (A_t_now_crowd_light : Nat) (A_t_now_crowd_carries : Nat) (A_t_now_crowd_bearer : Nat) (A_t_ways_planks : Nat) (A_t_ways_least : Nat) (A_t_ways_neighbours : Nat) (c_t_measured : Int32) (c_t_now_marsh_codes : Nat → Int32) (c_t_now_crowd_there : Int32) (c_t_now_crowd_foggy : Int32) (c_t_now_crowd_at : Nat → Int32) (c_t_now_crowd_home : Nat → Int32) (c_t_now_crowd_light : Nat → Int32) (c_t_ways_planks : Nat → Int32) (c_t_ways_least : Nat → Int32) (c_t_ways_neighbours : Nat → Int32) (x1 : Int32) (r : Int32) (z_t_measured : Int32) (z_t_ways_planks : Nat → Int32) (z_t_ways_least : Nat → Int32) (z_t_ways_neighbours : Nat → Int32) (hf : fn_X9_left c_t_measured c_t_now_marsh_codes c_t_now_crowd_there c_t_now_crowd_foggy c_t_now_crowd_at c_t_now_crowd_home c_t_now_crowd_light c_t_ways_planks c_t_ways_least c_t_ways_neighbours x1 = some (r, z_t_measured, z_t_ways_planks, z_t_ways_least, z_t_ways_neighbours)) : ci_ l G yX9_left cX9_left 3 (some .int) 4 92 (wl_X9_left G A_t A_t_now A_t_images A_t_pad A_t_evening A_t_ways A_t_tour A_t_odds A_t_now_marsh A_t_now_crowd A_t_now_sights A_t_now_marsh_codes A_t_now_crowd_at A_t_now_crowd_home A_t_now_crowd_light A_t_now_crowd_carries A_t_now_crowd_bearer A_t_ways_planks A_t_ways_least A_t_ways_neighbours c_t_measured c_t_now_marsh_codes c_t_now_crowd_there c_t_now_crowd_foggy c_t_now_crowd_at c_t_now_crowd_home c_t_now_crowd_light c_t_ways_planks c_t_ways_least c_t_ways_neighbours) [.ref A_t, .int x1] r (wl_X9_left G A_t A_t_now A_t_images A_t_pad A_t_evening A_t_ways A_t_tour A_t_odds A_t_now_marsh A_t_now_crowd A_t_now_sights A_t_now_marsh_codes A_t_now_crowd_at A_t_now_crowd_home A_t_now_crowd_light A_t_now_crowd_carries A_t_now_crowd_bearer A_t_ways_planks A_t_ways_least A_t_ways_neighbours z_t_measured c_t_now_marsh_codes c_t_now_crowd_there c_t_now_crowd_foggy c_t_now_crowd_at c_t_now_crowd_home c_t_now_crowd_light z_t_ways_planks z_t_ways_least z_t_ways_neighbours) := fun sz => met_intro (by decide) (Nat.le_of_ble_eq_true rfl) (fun p e s m args below meth c ls hsz hC hr hlk hnm hl hw => wn_X9_left hC (fun pc H locs ls hd hw => g_iret hC hr hlk hw rfl rfl hd) hf hl hw)

theorem dX9_out_0 : decode cX9_out 0 = .ok (.iload_n 1, 1) := by decide +kernel
theorem dX9_out_1 : decode cX9_out 1 = .ok (.iconst (-1), 1) := by decide +kernel
theorem dX9_out_2 : decode cX9_out 2 = .ok (.if_icmp .ne 14, 3) := by decide +kernel
theorem dX9_out_5 : decode cX9_out 5 = .ok (.aload_n 0, 1) := by decide +kernel
theorem dX9_out_6 : decode cX9_out 6 = .ok (.getfield 12, 3) := by decide +kernel
theorem dX9_out_9 : decode cX9_out 9 = .ok (.getfield 81, 3) := by decide +kernel
theorem dX9_out_12 : decode cX9_out 12 = .ok (.invokevirtual 91, 3) := by decide +kernel
theorem dX9_out_15 : decode cX9_out 15 = .ok (.ireturn, 1) := by decide +kernel
theorem dX9_out_16 : decode cX9_out 16 = .ok (.aload_n 0, 1) := by decide +kernel
theorem dX9_out_17 : decode cX9_out 17 = .ok (.invokevirtual 155, 3) := by decide +kernel
theorem dX9_out_20 : decode cX9_out 20 = .ok (.aload_n 0, 1) := by decide +kernel
theorem dX9_out_21 : decode cX9_out 21 = .ok (.getfield 12, 3) := by decide +kernel
theorem dX9_out_24 : decode cX9_out 24 = .ok (.getfield 81, 3) := by decide +kernel
theorem dX9_out_27 : decode cX9_out 27 = .ok (.aload_n 0, 1) := by decide +kernel
theorem dX9_out_28 : decode cX9_out 28 = .ok (.getfield 37, 3) := by decide +kernel
theorem dX9_out_31 : decode cX9_out 31 = .ok (.iload_n 1, 1) := by decide +kernel
theorem dX9_out_32 : decode cX9_out 32 = .ok (.invokevirtual 176, 3) := by decide +kernel
theorem dX9_out_35 : decode cX9_out 35 = .ok (.ireturn, 1) := by decide +kernel
abbrev wl_X9_out (G : gw_) (A_t : Nat) (A_t_now : Nat) (A_t_images : Nat) (A_t_pad : Nat) (A_t_evening : Nat) (A_t_ways : Nat) (A_t_tour : Nat) (A_t_odds : Nat) (A_t_now_marsh : Nat) (A_t_now_crowd : Nat) (A_t_now_sights : Nat) (A_t_now_marsh_codes : Nat) (A_t_now_crowd_at : Nat) (A_t_now_crowd_home : Nat) (A_t_now_crowd_light : Nat) (A_t_now_crowd_carries : Nat) (A_t_now_crowd_bearer : Nat) (A_t_ways_planks : Nat) (A_t_ways_least : Nat) (A_t_ways_neighbours : Nat) (c_t_measured : Int32) (c_t_now_marsh_codes : Nat → Int32) (c_t_now_crowd_there : Int32) (c_t_now_crowd_foggy : Int32) (c_t_now_crowd_at : Nat → Int32) (c_t_now_crowd_home : Nat → Int32) (c_t_ways_planks : Nat → Int32) (c_t_ways_least : Nat → Int32) (c_t_ways_neighbours : Nat → Int32) : va_W := [ob_ A_t 9 [.ref A_t_now, .ref A_t_images, .ref A_t_pad, .ref A_t_evening, .ref A_t_ways, .ref A_t_tour, .ref A_t_odds, .int c_t_measured], ob_ A_t_now 5 [.ref A_t_now_marsh, .ref A_t_now_crowd, .ref A_t_now_sights], ob_ A_t_now_marsh 2 [.ref A_t_now_marsh_codes], ia_ G A_t_now_marsh_codes 144 c_t_now_marsh_codes, ob_ A_t_now_crowd 0 [.int c_t_now_crowd_there, .int c_t_now_crowd_foggy, .ref A_t_now_crowd_at, .ref A_t_now_crowd_home, .ref A_t_now_crowd_light, .ref A_t_now_crowd_carries, .ref A_t_now_crowd_bearer], ia_ G A_t_now_crowd_at 6 c_t_now_crowd_at, ia_ G A_t_now_crowd_home 6 c_t_now_crowd_home, ob_ A_t_ways 8 [.ref A_t_ways_planks, .ref A_t_ways_least, .ref A_t_ways_neighbours], ia_ G A_t_ways_planks 144 c_t_ways_planks, ia_ G A_t_ways_least 144 c_t_ways_least, ia_ G A_t_ways_neighbours 12 c_t_ways_neighbours]
def fn_X9_out (c_t_measured : Int32) (c_t_now_marsh_codes : Nat → Int32) (c_t_now_crowd_there : Int32) (c_t_now_crowd_foggy : Int32) (c_t_now_crowd_at : Nat → Int32) (c_t_now_crowd_home : Nat → Int32) (c_t_ways_planks : Nat → Int32) (c_t_ways_least : Nat → Int32) (c_t_ways_neighbours : Nat → Int32) (x1 : Int32) : Option (Int32 × Int32 × (Nat → Int32) × (Nat → Int32) × (Nat → Int32)) :=
  if x1 = (-1) then
    b1_ (fn_X0_size c_t_now_crowd_there) fun r8 =>
    some (r8, c_t_measured, c_t_ways_planks, c_t_ways_least, c_t_ways_neighbours)
  else
    b4_ (fn_X9_measure c_t_measured c_t_now_marsh_codes c_t_now_crowd_foggy c_t_ways_planks c_t_ways_least c_t_ways_neighbours) fun w1 w2 w3 w4 =>
    b1_ (fn_X0_nthHome c_t_now_crowd_there c_t_now_crowd_at c_t_now_crowd_home w3 x1) fun r6 =>
    some (r6, w1, w2, w3, w4)
set_option maxHeartbeats 4000000 in
set_option maxRecDepth 100000 in
theorem wn_X9_out {p : Program} {l : Launch} {e : Env} {s : State} {m : MethodId} {args : Array Value} {below : List Frame} {meth : Method} {c : Code} {G : gw_} {A : Nat → Prop} {Q : State → Prop} {A_t : Nat} {A_t_now : Nat} {A_t_images : Nat} {A_t_pad : Nat} {A_t_evening : Nat} {A_t_ways : Nat} {A_t_tour : Nat} {A_t_odds : Nat} {A_t_now_marsh : Nat} {A_t_now_crowd : Nat} {A_t_now_sights : Nat} {A_t_now_marsh_codes : Nat} {A_t_now_crowd_at : Nat} {A_t_now_crowd_home : Nat} {A_t_now_crowd_light : Nat} {A_t_now_crowd_carries : Nat} {A_t_now_crowd_bearer : Nat} {A_t_ways_planks : Nat} {A_t_ways_least : Nat} {A_t_ways_neighbours : Nat} {c_t_measured : Int32} {z_t_measured : Int32} {c_t_now_marsh_codes : Nat → Int32} {c_t_now_crowd_there : Int32} {c_t_now_crowd_foggy : Int32} {c_t_now_crowd_at : Nat → Int32} {c_t_now_crowd_home : Nat → Int32} {c_t_ways_planks : Nat → Int32} {z_t_ways_planks : Nat → Int32} {c_t_ways_least : Nat → Int32} {z_t_ways_least : Nat → Int32} {c_t_ways_neighbours : Nat → Int32} {z_t_ways_neighbours : Nat → Int32} {r : Int32} {x1 : Int32} (hC : cx_ p s m c G cX9_out 2 RX9) (hret : ∀ (pc : Nat) (H : Heap) (locs : List Loc) (ls : Array Slot), decode cX9_out pc = .ok (.ireturn, 1) → wd_ G A s.heap (wl_X9_out G A_t A_t_now A_t_images A_t_pad A_t_evening A_t_ways A_t_tour A_t_odds A_t_now_marsh A_t_now_crowd A_t_now_sights A_t_now_marsh_codes A_t_now_crowd_at A_t_now_crowd_home A_t_now_crowd_light A_t_now_crowd_carries A_t_now_crowd_bearer A_t_ways_planks A_t_ways_least A_t_ways_neighbours z_t_measured c_t_now_marsh_codes c_t_now_crowd_there c_t_now_crowd_foggy c_t_now_crowd_at c_t_now_crowd_home z_t_ways_planks z_t_ways_least z_t_ways_neighbours) H locs → W p l e { frames := 4, cells := 0, slots := 0, locals := 92 } s m args below meth c H locs 0 0 Q (F0 m pc ls [.int r])) (hf : fn_X9_out c_t_measured c_t_now_marsh_codes c_t_now_crowd_there c_t_now_crowd_foggy c_t_now_crowd_at c_t_now_crowd_home c_t_ways_planks c_t_ways_least c_t_ways_neighbours x1 = some (r, z_t_measured, z_t_ways_planks, z_t_ways_least, z_t_ways_neighbours)) {H : Heap} {locs : List Loc} {ls : Array Slot} (hl : lv_has ls 2 [(0, .ref A_t), (1, .int x1)]) (hw : wd_ G A s.heap (wl_X9_out G A_t A_t_now A_t_images A_t_pad A_t_evening A_t_ways A_t_tour A_t_odds A_t_now_marsh A_t_now_crowd A_t_now_sights A_t_now_marsh_codes A_t_now_crowd_at A_t_now_crowd_home A_t_now_crowd_light A_t_now_crowd_carries A_t_now_crowd_bearer A_t_ways_planks A_t_ways_least A_t_ways_neighbours c_t_measured c_t_now_marsh_codes c_t_now_crowd_there c_t_now_crowd_foggy c_t_now_crowd_at c_t_now_crowd_home c_t_ways_planks c_t_ways_least c_t_ways_neighbours) H locs) : W p l e { frames := 4, cells := 0, slots := 0, locals := 92 } s m args below meth c H locs 0 0 Q (F0 m 0 ls []) := by
  have hx := hC.1
  have hb := hC.2.1
  unfold fn_X9_out at hf
  refine lv_iload_n hx hb dX9_out_0 rfl (lv_at hl 1 rfl) ?_
  refine lv_iconst (v := (-1)) hx hb dX9_out_1 (by decide) ?_
  refine lv_icmp_ne (tgt := 16) hx hb dX9_out_2 (by decide) (fun hc => ?_) (fun hc => ?_)
  · replace hf := it_f hc hf
    refine lv_aload_n hx hb dX9_out_16 rfl (lv_at hl 0 rfl) ?_
    obtain ⟨w1, w2, w3, w4, hq5, hf⟩ := b4_s hf
    refine g_cVv hC hw mvX9_155 (cn_X9_measure l G A_t A_t_now A_t_images A_t_pad A_t_evening A_t_ways A_t_tour A_t_odds A_t_now_marsh A_t_now_crowd A_t_now_sights A_t_now_marsh_codes A_t_now_crowd_at A_t_now_crowd_home A_t_now_crowd_light A_t_now_crowd_carries A_t_now_crowd_bearer A_t_ways_planks A_t_ways_least A_t_ways_neighbours c_t_measured c_t_now_marsh_codes c_t_now_crowd_there c_t_now_crowd_foggy c_t_ways_planks c_t_ways_least c_t_ways_neighbours w1 w2 w3 w4 hq5) [0, 1, 2, 3, 4, 7, 8, 9, 10] rfl (by decide) rfl 0 rfl rfl rfl hl.1 rfl (Nat.le_of_ble_eq_true rfl) ⟨Nat.le_of_ble_eq_true rfl, Nat.le_of_ble_eq_true rfl⟩ ⟨Nat.le_refl _, Nat.le_refl _⟩ dX9_out_17 (fun H locs hw => ?_)
    have hw : wd_ G A s.heap (wl_X9_out G A_t A_t_now A_t_images A_t_pad A_t_evening A_t_ways A_t_tour A_t_odds A_t_now_marsh A_t_now_crowd A_t_now_sights A_t_now_marsh_codes A_t_now_crowd_at A_t_now_crowd_home A_t_now_crowd_light A_t_now_crowd_carries A_t_now_crowd_bearer A_t_ways_planks A_t_ways_least A_t_ways_neighbours w1 c_t_now_marsh_codes c_t_now_crowd_there c_t_now_crowd_foggy c_t_now_crowd_at c_t_now_crowd_home w2 w3 w4) H locs := hw
    refine lv_aload_n hx hb dX9_out_20 rfl (lv_at hl 0 rfl) ?_
    refine g_get hC hw fkX9_12 0 rfl rfl dX9_out_21 ?_
    refine g_get hC hw fkX9_81 1 rfl rfl dX9_out_24 ?_
    refine lv_aload_n hx hb dX9_out_27 rfl (lv_at hl 0 rfl) ?_
    refine g_get hC hw fkX9_37 0 rfl rfl dX9_out_28 ?_
    refine lv_iload_n hx hb dX9_out_31 rfl (lv_at hl 1 rfl) ?_
    obtain ⟨r6, hq7, hf⟩ := b1_s hf
    refine h_cVi hC hw mvX9_176 (cn_X0_nthHome l G A_t_now_crowd A_t_now_crowd_at A_t_now_crowd_home A_t_now_crowd_light A_t_now_crowd_carries A_t_now_crowd_bearer A_t_ways A_t_ways_planks A_t_ways_least A_t_ways_neighbours c_t_now_crowd_there c_t_now_crowd_foggy c_t_now_crowd_at c_t_now_crowd_home w3 x1 r6 hq7) [4, 5, 6, 7, 9] rfl (by decide) 4 rfl rfl rfl hl.1 rfl (Nat.le_of_ble_eq_true rfl) ⟨Nat.le_of_ble_eq_true rfl, Nat.le_of_ble_eq_true rfl⟩ ⟨Nat.le_refl _, Nat.le_refl _⟩ dX9_out_32 (fun H locs hw => ?_)
    obtain ⟨h1_, h2_, h3_, h4_, h5_⟩ := t5_ hf
    subst h1_
    subst h2_
    subst h3_
    subst h4_
    subst h5_
    exact hret _ _ _ _ dX9_out_35 hw
  · replace hf := it_t hc hf
    refine lv_aload_n hx hb dX9_out_5 rfl (lv_at hl 0 rfl) ?_
    refine g_get hC hw fkX9_12 0 rfl rfl dX9_out_6 ?_
    refine g_get hC hw fkX9_81 1 rfl rfl dX9_out_9 ?_
    obtain ⟨r8, hq9, hf⟩ := b1_s hf
    refine h_cVi hC hw mvX9_91 (cn_X0_size l G A_t_now_crowd A_t_now_crowd_at A_t_now_crowd_home A_t_now_crowd_light A_t_now_crowd_carries A_t_now_crowd_bearer c_t_now_crowd_there c_t_now_crowd_foggy r8 hq9) [4] rfl (by decide) 4 rfl rfl rfl hl.1 rfl (Nat.le_of_ble_eq_true rfl) ⟨Nat.le_of_ble_eq_true rfl, Nat.le_of_ble_eq_true rfl⟩ ⟨Nat.le_refl _, Nat.le_refl _⟩ dX9_out_12 (fun H locs hw => ?_)
    obtain ⟨h1_, h2_, h3_, h4_, h5_⟩ := t5_ hf
    subst h1_
    subst h2_
    subst h3_
    subst h4_
    subst h5_
    exact hret _ _ _ _ dX9_out_15 hw
set_option maxHeartbeats 4000000 in
set_option maxRecDepth 100000 in
theorem cn_X9_out (l : Launch) (G : gw_) (A_t : Nat) (A_t_now : Nat) (A_t_images : Nat) (A_t_pad : Nat) (A_t_evening : Nat) (A_t_ways : Nat) (A_t_tour : Nat) (A_t_odds : Nat) (A_t_now_marsh : Nat) (A_t_now_crowd : Nat) (A_t_now_sights : Nat) (A_t_now_marsh_codes : Nat) (A_t_now_crowd_at : Nat) (A_t_now_crowd_home : Nat) (A_t_now_crowd_light : Nat) (A_t_now_crowd_carries : Nat) (A_t_now_crowd_bearer : Nat) (A_t_ways_planks : Nat) (A_t_ways_least : Nat) (A_t_ways_neighbours : Nat) (c_t_measured : Int32) (c_t_now_marsh_codes : Nat → Int32) (c_t_now_crowd_there : Int32) (c_t_now_crowd_foggy : Int32) (c_t_now_crowd_at : Nat → Int32) (c_t_now_crowd_home : Nat → Int32) (c_t_ways_planks : Nat → Int32) (c_t_ways_least : Nat → Int32) (c_t_ways_neighbours : Nat → Int32) (x1 : Int32) (r : Int32) (z_t_measured : Int32) (z_t_ways_planks : Nat → Int32) (z_t_ways_least : Nat → Int32) (z_t_ways_neighbours : Nat → Int32) (hf : fn_X9_out c_t_measured c_t_now_marsh_codes c_t_now_crowd_there c_t_now_crowd_foggy c_t_now_crowd_at c_t_now_crowd_home c_t_ways_planks c_t_ways_least c_t_ways_neighbours x1 = some (r, z_t_measured, z_t_ways_planks, z_t_ways_least, z_t_ways_neighbours)) : ci_ l G yX9_out cX9_out 2 (some .int) 4 92 (wl_X9_out G A_t A_t_now A_t_images A_t_pad A_t_evening A_t_ways A_t_tour A_t_odds A_t_now_marsh A_t_now_crowd A_t_now_sights A_t_now_marsh_codes A_t_now_crowd_at A_t_now_crowd_home A_t_now_crowd_light A_t_now_crowd_carries A_t_now_crowd_bearer A_t_ways_planks A_t_ways_least A_t_ways_neighbours c_t_measured c_t_now_marsh_codes c_t_now_crowd_there c_t_now_crowd_foggy c_t_now_crowd_at c_t_now_crowd_home c_t_ways_planks c_t_ways_least c_t_ways_neighbours) [.ref A_t, .int x1] r (wl_X9_out G A_t A_t_now A_t_images A_t_pad A_t_evening A_t_ways A_t_tour A_t_odds A_t_now_marsh A_t_now_crowd A_t_now_sights A_t_now_marsh_codes A_t_now_crowd_at A_t_now_crowd_home A_t_now_crowd_light A_t_now_crowd_carries A_t_now_crowd_bearer A_t_ways_planks A_t_ways_least A_t_ways_neighbours z_t_measured c_t_now_marsh_codes c_t_now_crowd_there c_t_now_crowd_foggy c_t_now_crowd_at c_t_now_crowd_home z_t_ways_planks z_t_ways_least z_t_ways_neighbours) := fun sz => met_intro (by decide) (Nat.le_of_ble_eq_true rfl) (fun p e s m args below meth c ls hsz hC hr hlk hnm hl hw => wn_X9_out hC (fun pc H locs ls hd hw => g_iret hC hr hlk hw rfl rfl hd) hf hl hw)

theorem dX9_round_0 : decode cX9_round 0 = .ok (.iload_n 1, 1) := by decide +kernel
theorem dX9_round_1 : decode cX9_round 1 = .ok (.invokestatic 59, 3) := by decide +kernel
theorem dX9_round_4 : decode cX9_round 4 = .ok (.ifCond .eq 14, 3) := by decide +kernel
theorem dX9_round_7 : decode cX9_round 7 = .ok (.iload_n 2, 1) := by decide +kernel
theorem dX9_round_8 : decode cX9_round 8 = .ok (.iconst 0, 1) := by decide +kernel
theorem dX9_round_9 : decode cX9_round 9 = .ok (.sipush 4095, 3) := by decide +kernel
theorem dX9_round_12 : decode cX9_round 12 = .ok (.invokestatic 63, 3) := by decide +kernel
theorem dX9_round_15 : decode cX9_round 15 = .ok (.ifCond .ne 5, 3) := by decide +kernel
theorem dX9_round_18 : decode cX9_round 18 = .ok (.iconst (-1), 1) := by decide +kernel
theorem dX9_round_19 : decode cX9_round 19 = .ok (.ireturn, 1) := by decide +kernel
theorem dX9_round_20 : decode cX9_round 20 = .ok (.iload_n 3, 1) := by decide +kernel
theorem dX9_round_21 : decode cX9_round 21 = .ok (.iconst 0, 1) := by decide +kernel
theorem dX9_round_22 : decode cX9_round 22 = .ok (.iconst 1, 1) := by decide +kernel
theorem dX9_round_23 : decode cX9_round 23 = .ok (.invokestatic 63, 3) := by decide +kernel
theorem dX9_round_26 : decode cX9_round 26 = .ok (.ifCond .ne 6, 3) := by decide +kernel
theorem dX9_round_29 : decode cX9_round 29 = .ok (.bipush (-2), 2) := by decide +kernel
theorem dX9_round_31 : decode cX9_round 31 = .ok (.ireturn, 1) := by decide +kernel
theorem dX9_round_32 : decode cX9_round 32 = .ok (.iload_n 2, 1) := by decide +kernel
theorem dX9_round_33 : decode cX9_round 33 = .ok (.invokestatic 179, 3) := by decide +kernel
theorem dX9_round_36 : decode cX9_round 36 = .ok (.bipush 6, 2) := by decide +kernel
theorem dX9_round_38 : decode cX9_round 38 = .ok (.if_icmp .le 6, 3) := by decide +kernel
theorem dX9_round_41 : decode cX9_round 41 = .ok (.bipush (-4), 2) := by decide +kernel
theorem dX9_round_43 : decode cX9_round 43 = .ok (.ireturn, 1) := by decide +kernel
theorem dX9_round_44 : decode cX9_round 44 = .ok (.aload_n 0, 1) := by decide +kernel
theorem dX9_round_45 : decode cX9_round 45 = .ok (.invokevirtual 155, 3) := by decide +kernel
theorem dX9_round_48 : decode cX9_round 48 = .ok (.aload_n 0, 1) := by decide +kernel
theorem dX9_round_49 : decode cX9_round 49 = .ok (.getfield 44, 3) := by decide +kernel
theorem dX9_round_52 : decode cX9_round 52 = .ok (.aload_n 0, 1) := by decide +kernel
theorem dX9_round_53 : decode cX9_round 53 = .ok (.getfield 37, 3) := by decide +kernel
theorem dX9_round_56 : decode cX9_round 56 = .ok (.iload_n 1, 1) := by decide +kernel
theorem dX9_round_57 : decode cX9_round 57 = .ok (.iload_n 2, 1) := by decide +kernel
theorem dX9_round_58 : decode cX9_round 58 = .ok (.invokevirtual 184, 3) := by decide +kernel
theorem dX9_round_61 : decode cX9_round 61 = .ok (.iload_n 3, 1) := by decide +kernel
theorem dX9_round_62 : decode cX9_round 62 = .ok (.ifCond .ne 16, 3) := by decide +kernel
theorem dX9_round_65 : decode cX9_round 65 = .ok (.aload_n 0, 1) := by decide +kernel
theorem dX9_round_66 : decode cX9_round 66 = .ok (.getfield 44, 3) := by decide +kernel
theorem dX9_round_69 : decode cX9_round 69 = .ok (.getfield 188, 3) := by decide +kernel
theorem dX9_round_72 : decode cX9_round 72 = .ok (.invokestatic 161, 3) := by decide +kernel
theorem dX9_round_75 : decode cX9_round 75 = .ok (.goto 10, 3) := by decide +kernel
theorem dX9_round_78 : decode cX9_round 78 = .ok (.aload_n 0, 1) := by decide +kernel
theorem dX9_round_79 : decode cX9_round 79 = .ok (.getfield 44, 3) := by decide +kernel
theorem dX9_round_82 : decode cX9_round 82 = .ok (.getfield 189, 3) := by decide +kernel
theorem dX9_round_85 : decode cX9_round 85 = .ok (.ireturn, 1) := by decide +kernel
abbrev wl_X9_round (G : gw_) (A_t : Nat) (A_t_now : Nat) (A_t_images : Nat) (A_t_pad : Nat) (A_t_evening : Nat) (A_t_ways : Nat) (A_t_tour : Nat) (A_t_odds : Nat) (A_t_now_marsh : Nat) (A_t_now_crowd : Nat) (A_t_now_sights : Nat) (A_t_now_marsh_codes : Nat) (A_t_now_crowd_at : Nat) (A_t_now_crowd_home : Nat) (A_t_now_crowd_light : Nat) (A_t_now_crowd_carries : Nat) (A_t_now_crowd_bearer : Nat) (A_t_ways_planks : Nat) (A_t_ways_least : Nat) (A_t_ways_neighbours : Nat) (A_t_tour_stops : Nat) (A_t_tour_rest : Nat) (c_t_measured : Int32) (c_t_now_marsh_codes : Nat → Int32) (c_t_now_crowd_there : Int32) (c_t_now_crowd_foggy : Int32) (c_t_ways_planks : Nat → Int32) (c_t_ways_least : Nat → Int32) (c_t_ways_neighbours : Nat → Int32) (c_t_tour_costs : Int32) (c_t_tour_firstStop : Int32) (c_t_tour_stops : Nat → Int32) (c_t_tour_rest : Nat → Int32) : va_W := [ob_ A_t 9 [.ref A_t_now, .ref A_t_images, .ref A_t_pad, .ref A_t_evening, .ref A_t_ways, .ref A_t_tour, .ref A_t_odds, .int c_t_measured], ob_ A_t_now 5 [.ref A_t_now_marsh, .ref A_t_now_crowd, .ref A_t_now_sights], ob_ A_t_now_marsh 2 [.ref A_t_now_marsh_codes], ia_ G A_t_now_marsh_codes 144 c_t_now_marsh_codes, ob_ A_t_now_crowd 0 [.int c_t_now_crowd_there, .int c_t_now_crowd_foggy, .ref A_t_now_crowd_at, .ref A_t_now_crowd_home, .ref A_t_now_crowd_light, .ref A_t_now_crowd_carries, .ref A_t_now_crowd_bearer], ob_ A_t_ways 8 [.ref A_t_ways_planks, .ref A_t_ways_least, .ref A_t_ways_neighbours], ia_ G A_t_ways_planks 144 c_t_ways_planks, ia_ G A_t_ways_least 144 c_t_ways_least, ia_ G A_t_ways_neighbours 12 c_t_ways_neighbours, ob_ A_t_tour 7 [.int c_t_tour_costs, .int c_t_tour_firstStop, .ref A_t_tour_stops, .ref A_t_tour_rest], ia_ G A_t_tour_stops 6 c_t_tour_stops, ia_ G A_t_tour_rest 384 c_t_tour_rest]
def fn_X9_round (c_t_measured : Int32) (c_t_now_marsh_codes : Nat → Int32) (c_t_now_crowd_foggy : Int32) (c_t_ways_planks : Nat → Int32) (c_t_ways_least : Nat → Int32) (c_t_ways_neighbours : Nat → Int32) (c_t_tour_costs : Int32) (c_t_tour_firstStop : Int32) (c_t_tour_stops : Nat → Int32) (c_t_tour_rest : Nat → Int32) (x1 : Int32) (x2 : Int32) (x3 : Int32) : Option (Int32 × Int32 × (Nat → Int32) × (Nat → Int32) × (Nat → Int32) × Int32 × Int32 × (Nat → Int32) × (Nat → Int32)) :=
  b1_ (fn_X9_isPlace x1) fun r1 =>
  if r1 = 0 then
    some ((-1), c_t_measured, c_t_ways_planks, c_t_ways_least, c_t_ways_neighbours, c_t_tour_costs, c_t_tour_firstStop, c_t_tour_stops, c_t_tour_rest)
  else
    b1_ (fn_X9_isWithin x2 0 4095) fun r3 =>
    if r3 = 0 then
      some ((-1), c_t_measured, c_t_ways_planks, c_t_ways_least, c_t_ways_neighbours, c_t_tour_costs, c_t_tour_firstStop, c_t_tour_stops, c_t_tour_rest)
    else
      b1_ (fn_X9_isWithin x3 0 1) fun r5 =>
      if r5 = 0 then
        some ((-2), c_t_measured, c_t_ways_planks, c_t_ways_least, c_t_ways_neighbours, c_t_tour_costs, c_t_tour_firstStop, c_t_tour_stops, c_t_tour_rest)
      else
        b1_ (fn_J6_bitCount_0f7a4 x2) fun r7 =>
        if r7 ≤ 6 then
          b4_ (fn_X9_measure c_t_measured c_t_now_marsh_codes c_t_now_crowd_foggy c_t_ways_planks c_t_ways_least c_t_ways_neighbours) fun w9 w10 w11 w12 =>
          b4_ (fn_X7_plan c_t_tour_costs c_t_tour_firstStop c_t_tour_stops c_t_tour_rest w11 x1 x2) fun w14 w15 w16 w17 =>
          if x3 = 0 then
            b1_ (fn_X9_orNone w14) fun r19 =>
            some (r19, w9, w10, w11, w12, w14, w15, w16, w17)
          else
            some (w15, w9, w10, w11, w12, w14, w15, w16, w17)
        else
          some ((-4), c_t_measured, c_t_ways_planks, c_t_ways_least, c_t_ways_neighbours, c_t_tour_costs, c_t_tour_firstStop, c_t_tour_stops, c_t_tour_rest)
set_option maxHeartbeats 4000000 in
set_option maxRecDepth 100000 in
theorem wn_X9_round {p : Program} {l : Launch} {e : Env} {s : State} {m : MethodId} {args : Array Value} {below : List Frame} {meth : Method} {c : Code} {G : gw_} {A : Nat → Prop} {Q : State → Prop} {A_t : Nat} {A_t_now : Nat} {A_t_images : Nat} {A_t_pad : Nat} {A_t_evening : Nat} {A_t_ways : Nat} {A_t_tour : Nat} {A_t_odds : Nat} {A_t_now_marsh : Nat} {A_t_now_crowd : Nat} {A_t_now_sights : Nat} {A_t_now_marsh_codes : Nat} {A_t_now_crowd_at : Nat} {A_t_now_crowd_home : Nat} {A_t_now_crowd_light : Nat} {A_t_now_crowd_carries : Nat} {A_t_now_crowd_bearer : Nat} {A_t_ways_planks : Nat} {A_t_ways_least : Nat} {A_t_ways_neighbours : Nat} {A_t_tour_stops : Nat} {A_t_tour_rest : Nat} {c_t_measured : Int32} {z_t_measured : Int32} {c_t_now_marsh_codes : Nat → Int32} {c_t_now_crowd_there : Int32} {c_t_now_crowd_foggy : Int32} {c_t_ways_planks : Nat → Int32} {z_t_ways_planks : Nat → Int32} {c_t_ways_least : Nat → Int32} {z_t_ways_least : Nat → Int32} {c_t_ways_neighbours : Nat → Int32} {z_t_ways_neighbours : Nat → Int32} {c_t_tour_costs : Int32} {z_t_tour_costs : Int32} {c_t_tour_firstStop : Int32} {z_t_tour_firstStop : Int32} {c_t_tour_stops : Nat → Int32} {z_t_tour_stops : Nat → Int32} {c_t_tour_rest : Nat → Int32} {z_t_tour_rest : Nat → Int32} {r : Int32} {x1 : Int32} {x2 : Int32} {x3 : Int32} (hC : cx_ p s m c G cX9_round 4 RX9) (hret : ∀ (pc : Nat) (H : Heap) (locs : List Loc) (ls : Array Slot), decode cX9_round pc = .ok (.ireturn, 1) → wd_ G A s.heap (wl_X9_round G A_t A_t_now A_t_images A_t_pad A_t_evening A_t_ways A_t_tour A_t_odds A_t_now_marsh A_t_now_crowd A_t_now_sights A_t_now_marsh_codes A_t_now_crowd_at A_t_now_crowd_home A_t_now_crowd_light A_t_now_crowd_carries A_t_now_crowd_bearer A_t_ways_planks A_t_ways_least A_t_ways_neighbours A_t_tour_stops A_t_tour_rest z_t_measured c_t_now_marsh_codes c_t_now_crowd_there c_t_now_crowd_foggy z_t_ways_planks z_t_ways_least z_t_ways_neighbours z_t_tour_costs z_t_tour_firstStop z_t_tour_stops z_t_tour_rest) H locs → W p l e { frames := 4, cells := 0, slots := 0, locals := 99 } s m args below meth c H locs 0 0 Q (F0 m pc ls [.int r])) (hf : fn_X9_round c_t_measured c_t_now_marsh_codes c_t_now_crowd_foggy c_t_ways_planks c_t_ways_least c_t_ways_neighbours c_t_tour_costs c_t_tour_firstStop c_t_tour_stops c_t_tour_rest x1 x2 x3 = some (r, z_t_measured, z_t_ways_planks, z_t_ways_least, z_t_ways_neighbours, z_t_tour_costs, z_t_tour_firstStop, z_t_tour_stops, z_t_tour_rest)) {H : Heap} {locs : List Loc} {ls : Array Slot} (hl : lv_has ls 4 [(0, .ref A_t), (1, .int x1), (2, .int x2), (3, .int x3)]) (hw : wd_ G A s.heap (wl_X9_round G A_t A_t_now A_t_images A_t_pad A_t_evening A_t_ways A_t_tour A_t_odds A_t_now_marsh A_t_now_crowd A_t_now_sights A_t_now_marsh_codes A_t_now_crowd_at A_t_now_crowd_home A_t_now_crowd_light A_t_now_crowd_carries A_t_now_crowd_bearer A_t_ways_planks A_t_ways_least A_t_ways_neighbours A_t_tour_stops A_t_tour_rest c_t_measured c_t_now_marsh_codes c_t_now_crowd_there c_t_now_crowd_foggy c_t_ways_planks c_t_ways_least c_t_ways_neighbours c_t_tour_costs c_t_tour_firstStop c_t_tour_stops c_t_tour_rest) H locs) : W p l e { frames := 4, cells := 0, slots := 0, locals := 99 } s m args below meth c H locs 0 0 Q (F0 m 0 ls []) := by
  have hx := hC.1
  have hb := hC.2.1
  unfold fn_X9_round at hf
  refine lv_iload_n hx hb dX9_round_0 rfl (lv_at hl 1 rfl) ?_
  obtain ⟨r1, hq2, hf⟩ := b1_s hf
  refine h_cSi hC hw msX9_59 (cn_X9_isPlace l G x1 r1 hq2) [] rfl (by decide) rfl hl.1 rfl (Nat.le_of_ble_eq_true rfl) ⟨Nat.le_of_ble_eq_true rfl, Nat.le_of_ble_eq_true rfl⟩ ⟨Nat.le_refl _, Nat.le_refl _⟩ dX9_round_1 (fun H locs hw => ?_)
  refine lv_if_eq (tgt := 18) hx hb dX9_round_4 (by decide) (fun hc => ?_) (fun hc => ?_)
  · replace hf := it_t hc hf
    refine lv_iconst (v := (-1)) hx hb dX9_round_18 (by decide) ?_
    obtain ⟨h1_, h2_, h3_, h4_, h5_, h6_, h7_, h8_, h9_⟩ := t9_ hf
    subst h1_
    subst h2_
    subst h3_
    subst h4_
    subst h5_
    subst h6_
    subst h7_
    subst h8_
    subst h9_
    exact hret _ _ _ _ dX9_round_19 hw
  · replace hf := it_f hc hf
    refine lv_iload_n hx hb dX9_round_7 rfl (lv_at hl 2 rfl) ?_
    refine lv_iconst (v := 0) hx hb dX9_round_8 (by decide) ?_
    refine lv_sipush (v := 4095) hx hb dX9_round_9 (by decide) ?_
    obtain ⟨r3, hq4, hf⟩ := b1_s hf
    refine h_cSi hC hw msX9_63 (cn_X9_isWithin l G x2 0 4095 r3 hq4) [] rfl (by decide) rfl hl.1 rfl (Nat.le_of_ble_eq_true rfl) ⟨Nat.le_of_ble_eq_true rfl, Nat.le_of_ble_eq_true rfl⟩ ⟨Nat.le_refl _, Nat.le_refl _⟩ dX9_round_12 (fun H locs hw => ?_)
    refine lv_if_ne (tgt := 20) hx hb dX9_round_15 (by decide) (fun hc => ?_) (fun hc => ?_)
    · replace hf := it_f hc hf
      refine lv_iload_n hx hb dX9_round_20 rfl (lv_at hl 3 rfl) ?_
      refine lv_iconst (v := 0) hx hb dX9_round_21 (by decide) ?_
      refine lv_iconst (v := 1) hx hb dX9_round_22 (by decide) ?_
      obtain ⟨r5, hq6, hf⟩ := b1_s hf
      refine h_cSi hC hw msX9_63 (cn_X9_isWithin l G x3 0 1 r5 hq6) [] rfl (by decide) rfl hl.1 rfl (Nat.le_of_ble_eq_true rfl) ⟨Nat.le_of_ble_eq_true rfl, Nat.le_of_ble_eq_true rfl⟩ ⟨Nat.le_refl _, Nat.le_refl _⟩ dX9_round_23 (fun H locs hw => ?_)
      refine lv_if_ne (tgt := 32) hx hb dX9_round_26 (by decide) (fun hc => ?_) (fun hc => ?_)
      · replace hf := it_f hc hf
        refine lv_iload_n hx hb dX9_round_32 rfl (lv_at hl 2 rfl) ?_
        obtain ⟨r7, hq8, hf⟩ := b1_s hf
        refine h_cSi hC hw msX9_179 (cn_J6_bitCount_0f7a4 l G x2 r7 hq8) [] rfl (by decide) rfl hl.1 rfl (Nat.le_of_ble_eq_true rfl) ⟨Nat.le_of_ble_eq_true rfl, Nat.le_of_ble_eq_true rfl⟩ ⟨Nat.le_refl _, Nat.le_refl _⟩ dX9_round_33 (fun H locs hw => ?_)
        refine lv_bipush (v := 6) hx hb dX9_round_36 (by decide) ?_
        refine lv_icmp_le (tgt := 44) hx hb dX9_round_38 (by decide) (fun hc => ?_) (fun hc => ?_)
        · replace hf := it_t hc hf
          refine lv_aload_n hx hb dX9_round_44 rfl (lv_at hl 0 rfl) ?_
          obtain ⟨w9, w10, w11, w12, hq13, hf⟩ := b4_s hf
          refine g_cVv hC hw mvX9_155 (cn_X9_measure l G A_t A_t_now A_t_images A_t_pad A_t_evening A_t_ways A_t_tour A_t_odds A_t_now_marsh A_t_now_crowd A_t_now_sights A_t_now_marsh_codes A_t_now_crowd_at A_t_now_crowd_home A_t_now_crowd_light A_t_now_crowd_carries A_t_now_crowd_bearer A_t_ways_planks A_t_ways_least A_t_ways_neighbours c_t_measured c_t_now_marsh_codes c_t_now_crowd_there c_t_now_crowd_foggy c_t_ways_planks c_t_ways_least c_t_ways_neighbours w9 w10 w11 w12 hq13) [0, 1, 2, 3, 4, 5, 6, 7, 8] rfl (by decide) rfl 0 rfl rfl rfl hl.1 rfl (Nat.le_of_ble_eq_true rfl) ⟨Nat.le_of_ble_eq_true rfl, Nat.le_of_ble_eq_true rfl⟩ ⟨Nat.le_refl _, Nat.le_refl _⟩ dX9_round_45 (fun H locs hw => ?_)
          have hw : wd_ G A s.heap (wl_X9_round G A_t A_t_now A_t_images A_t_pad A_t_evening A_t_ways A_t_tour A_t_odds A_t_now_marsh A_t_now_crowd A_t_now_sights A_t_now_marsh_codes A_t_now_crowd_at A_t_now_crowd_home A_t_now_crowd_light A_t_now_crowd_carries A_t_now_crowd_bearer A_t_ways_planks A_t_ways_least A_t_ways_neighbours A_t_tour_stops A_t_tour_rest w9 c_t_now_marsh_codes c_t_now_crowd_there c_t_now_crowd_foggy w10 w11 w12 c_t_tour_costs c_t_tour_firstStop c_t_tour_stops c_t_tour_rest) H locs := hw
          refine lv_aload_n hx hb dX9_round_48 rfl (lv_at hl 0 rfl) ?_
          refine g_get hC hw fkX9_44 0 rfl rfl dX9_round_49 ?_
          refine lv_aload_n hx hb dX9_round_52 rfl (lv_at hl 0 rfl) ?_
          refine g_get hC hw fkX9_37 0 rfl rfl dX9_round_53 ?_
          refine lv_iload_n hx hb dX9_round_56 rfl (lv_at hl 1 rfl) ?_
          refine lv_iload_n hx hb dX9_round_57 rfl (lv_at hl 2 rfl) ?_
          obtain ⟨w14, w15, w16, w17, hq18, hf⟩ := b4_s hf
          refine g_cVv hC hw mvX9_184 (cn_X7_plan l G A_t_tour A_t_tour_stops A_t_tour_rest A_t_ways A_t_ways_planks A_t_ways_least A_t_ways_neighbours c_t_tour_costs c_t_tour_firstStop c_t_tour_stops c_t_tour_rest w11 x1 x2 w14 w15 w16 w17 hq18) [9, 10, 11, 5, 7] rfl (by decide) rfl 9 rfl rfl rfl hl.1 rfl (Nat.le_of_ble_eq_true rfl) ⟨Nat.le_of_ble_eq_true rfl, Nat.le_of_ble_eq_true rfl⟩ ⟨Nat.le_refl _, Nat.le_refl _⟩ dX9_round_58 (fun H locs hw => ?_)
          have hw : wd_ G A s.heap (wl_X9_round G A_t A_t_now A_t_images A_t_pad A_t_evening A_t_ways A_t_tour A_t_odds A_t_now_marsh A_t_now_crowd A_t_now_sights A_t_now_marsh_codes A_t_now_crowd_at A_t_now_crowd_home A_t_now_crowd_light A_t_now_crowd_carries A_t_now_crowd_bearer A_t_ways_planks A_t_ways_least A_t_ways_neighbours A_t_tour_stops A_t_tour_rest w9 c_t_now_marsh_codes c_t_now_crowd_there c_t_now_crowd_foggy w10 w11 w12 w14 w15 w16 w17) H locs := hw
          refine lv_iload_n hx hb dX9_round_61 rfl (lv_at hl 3 rfl) ?_
          refine lv_if_ne (tgt := 78) hx hb dX9_round_62 (by decide) (fun hc => ?_) (fun hc => ?_)
          · replace hf := it_f hc hf
            refine lv_aload_n hx hb dX9_round_78 rfl (lv_at hl 0 rfl) ?_
            refine g_get hC hw fkX9_44 0 rfl rfl dX9_round_79 ?_
            refine g_get hC hw fkX9_189 9 rfl rfl dX9_round_82 ?_
            obtain ⟨h1_, h2_, h3_, h4_, h5_, h6_, h7_, h8_, h9_⟩ := t9_ hf
            subst h1_
            subst h2_
            subst h3_
            subst h4_
            subst h5_
            subst h6_
            subst h7_
            subst h8_
            subst h9_
            exact hret _ _ _ _ dX9_round_85 hw
          · replace hf := it_t hc hf
            refine lv_aload_n hx hb dX9_round_65 rfl (lv_at hl 0 rfl) ?_
            refine g_get hC hw fkX9_44 0 rfl rfl dX9_round_66 ?_
            refine g_get hC hw fkX9_188 9 rfl rfl dX9_round_69 ?_
            obtain ⟨r19, hq20, hf⟩ := b1_s hf
            refine h_cSi hC hw msX9_161 (cn_X9_orNone l G w14 r19 hq20) [] rfl (by decide) rfl hl.1 rfl (Nat.le_of_ble_eq_true rfl) ⟨Nat.le_of_ble_eq_true rfl, Nat.le_of_ble_eq_true rfl⟩ ⟨Nat.le_refl _, Nat.le_refl _⟩ dX9_round_72 (fun H locs hw => ?_)
            refine lv_goto (tgt := 85) hx hb dX9_round_75 (by decide) ?_
            obtain ⟨h1_, h2_, h3_, h4_, h5_, h6_, h7_, h8_, h9_⟩ := t9_ hf
            subst h1_
            subst h2_
            subst h3_
            subst h4_
            subst h5_
            subst h6_
            subst h7_
            subst h8_
            subst h9_
            exact hret _ _ _ _ dX9_round_85 hw
        · replace hf := it_f hc hf
          refine lv_bipush (v := (-4)) hx hb dX9_round_41 (by decide) ?_
          obtain ⟨h1_, h2_, h3_, h4_, h5_, h6_, h7_, h8_, h9_⟩ := t9_ hf
          subst h1_
          subst h2_
          subst h3_
          subst h4_
          subst h5_
          subst h6_
          subst h7_
          subst h8_
          subst h9_
          exact hret _ _ _ _ dX9_round_43 hw
      · replace hf := it_t hc hf
        refine lv_bipush (v := (-2)) hx hb dX9_round_29 (by decide) ?_
        obtain ⟨h1_, h2_, h3_, h4_, h5_, h6_, h7_, h8_, h9_⟩ := t9_ hf
        subst h1_
        subst h2_
        subst h3_
        subst h4_
        subst h5_
        subst h6_
        subst h7_
        subst h8_
        subst h9_
        exact hret _ _ _ _ dX9_round_31 hw
    · replace hf := it_t hc hf
      refine lv_iconst (v := (-1)) hx hb dX9_round_18 (by decide) ?_
      obtain ⟨h1_, h2_, h3_, h4_, h5_, h6_, h7_, h8_, h9_⟩ := t9_ hf
      subst h1_
      subst h2_
      subst h3_
      subst h4_
      subst h5_
      subst h6_
      subst h7_
      subst h8_
      subst h9_
      exact hret _ _ _ _ dX9_round_19 hw
set_option maxHeartbeats 4000000 in
set_option maxRecDepth 100000 in
theorem cn_X9_round (l : Launch) (G : gw_) (A_t : Nat) (A_t_now : Nat) (A_t_images : Nat) (A_t_pad : Nat) (A_t_evening : Nat) (A_t_ways : Nat) (A_t_tour : Nat) (A_t_odds : Nat) (A_t_now_marsh : Nat) (A_t_now_crowd : Nat) (A_t_now_sights : Nat) (A_t_now_marsh_codes : Nat) (A_t_now_crowd_at : Nat) (A_t_now_crowd_home : Nat) (A_t_now_crowd_light : Nat) (A_t_now_crowd_carries : Nat) (A_t_now_crowd_bearer : Nat) (A_t_ways_planks : Nat) (A_t_ways_least : Nat) (A_t_ways_neighbours : Nat) (A_t_tour_stops : Nat) (A_t_tour_rest : Nat) (c_t_measured : Int32) (c_t_now_marsh_codes : Nat → Int32) (c_t_now_crowd_there : Int32) (c_t_now_crowd_foggy : Int32) (c_t_ways_planks : Nat → Int32) (c_t_ways_least : Nat → Int32) (c_t_ways_neighbours : Nat → Int32) (c_t_tour_costs : Int32) (c_t_tour_firstStop : Int32) (c_t_tour_stops : Nat → Int32) (c_t_tour_rest : Nat → Int32) (x1 : Int32) (x2 : Int32) (x3 : Int32) (r : Int32) (z_t_measured : Int32) (z_t_ways_planks : Nat → Int32) (z_t_ways_least : Nat → Int32) (z_t_ways_neighbours : Nat → Int32) (z_t_tour_costs : Int32) (z_t_tour_firstStop : Int32) (z_t_tour_stops : Nat → Int32) (z_t_tour_rest : Nat → Int32) (hf : fn_X9_round c_t_measured c_t_now_marsh_codes c_t_now_crowd_foggy c_t_ways_planks c_t_ways_least c_t_ways_neighbours c_t_tour_costs c_t_tour_firstStop c_t_tour_stops c_t_tour_rest x1 x2 x3 = some (r, z_t_measured, z_t_ways_planks, z_t_ways_least, z_t_ways_neighbours, z_t_tour_costs, z_t_tour_firstStop, z_t_tour_stops, z_t_tour_rest)) : ci_ l G yX9_round cX9_round 4 (some .int) 4 99 (wl_X9_round G A_t A_t_now A_t_images A_t_pad A_t_evening A_t_ways A_t_tour A_t_odds A_t_now_marsh A_t_now_crowd A_t_now_sights A_t_now_marsh_codes A_t_now_crowd_at A_t_now_crowd_home A_t_now_crowd_light A_t_now_crowd_carries A_t_now_crowd_bearer A_t_ways_planks A_t_ways_least A_t_ways_neighbours A_t_tour_stops A_t_tour_rest c_t_measured c_t_now_marsh_codes c_t_now_crowd_there c_t_now_crowd_foggy c_t_ways_planks c_t_ways_least c_t_ways_neighbours c_t_tour_costs c_t_tour_firstStop c_t_tour_stops c_t_tour_rest) [.ref A_t, .int x1, .int x2, .int x3] r (wl_X9_round G A_t A_t_now A_t_images A_t_pad A_t_evening A_t_ways A_t_tour A_t_odds A_t_now_marsh A_t_now_crowd A_t_now_sights A_t_now_marsh_codes A_t_now_crowd_at A_t_now_crowd_home A_t_now_crowd_light A_t_now_crowd_carries A_t_now_crowd_bearer A_t_ways_planks A_t_ways_least A_t_ways_neighbours A_t_tour_stops A_t_tour_rest z_t_measured c_t_now_marsh_codes c_t_now_crowd_there c_t_now_crowd_foggy z_t_ways_planks z_t_ways_least z_t_ways_neighbours z_t_tour_costs z_t_tour_firstStop z_t_tour_stops z_t_tour_rest) := fun sz => met_intro (by decide) (Nat.le_of_ble_eq_true rfl) (fun p e s m args below meth c ls hsz hC hr hlk hnm hl hw => wn_X9_round hC (fun pc H locs ls hd hw => g_iret hC hr hlk hw rfl rfl hd) hf hl hw)

theorem dX9_more_0 : decode cX9_more 0 = .ok (.iload_n 1, 1) := by decide +kernel
theorem dX9_more_1 : decode cX9_more 1 = .ok (.invokestatic 59, 3) := by decide +kernel
theorem dX9_more_4 : decode cX9_more 4 = .ok (.ifCond .ne 5, 3) := by decide +kernel
theorem dX9_more_7 : decode cX9_more 7 = .ok (.iconst (-1), 1) := by decide +kernel
theorem dX9_more_8 : decode cX9_more 8 = .ok (.ireturn, 1) := by decide +kernel
theorem dX9_more_9 : decode cX9_more 9 = .ok (.aload_n 0, 1) := by decide +kernel
theorem dX9_more_10 : decode cX9_more 10 = .ok (.invokevirtual 155, 3) := by decide +kernel
theorem dX9_more_13 : decode cX9_more 13 = .ok (.aload_n 0, 1) := by decide +kernel
theorem dX9_more_14 : decode cX9_more 14 = .ok (.getfield 12, 3) := by decide +kernel
theorem dX9_more_17 : decode cX9_more 17 = .ok (.getfield 81, 3) := by decide +kernel
theorem dX9_more_20 : decode cX9_more 20 = .ok (.aload_n 0, 1) := by decide +kernel
theorem dX9_more_21 : decode cX9_more 21 = .ok (.getfield 37, 3) := by decide +kernel
theorem dX9_more_24 : decode cX9_more 24 = .ok (.iload_n 1, 1) := by decide +kernel
theorem dX9_more_25 : decode cX9_more 25 = .ok (.invokevirtual 192, 3) := by decide +kernel
theorem dX9_more_28 : decode cX9_more 28 = .ok (.ireturn, 1) := by decide +kernel
abbrev wl_X9_more (G : gw_) (A_t : Nat) (A_t_now : Nat) (A_t_images : Nat) (A_t_pad : Nat) (A_t_evening : Nat) (A_t_ways : Nat) (A_t_tour : Nat) (A_t_odds : Nat) (A_t_now_marsh : Nat) (A_t_now_crowd : Nat) (A_t_now_sights : Nat) (A_t_now_marsh_codes : Nat) (A_t_now_crowd_at : Nat) (A_t_now_crowd_home : Nat) (A_t_now_crowd_light : Nat) (A_t_now_crowd_carries : Nat) (A_t_now_crowd_bearer : Nat) (A_t_ways_planks : Nat) (A_t_ways_least : Nat) (A_t_ways_neighbours : Nat) (c_t_measured : Int32) (c_t_now_marsh_codes : Nat → Int32) (c_t_now_crowd_there : Int32) (c_t_now_crowd_foggy : Int32) (c_t_now_crowd_at : Nat → Int32) (c_t_now_crowd_home : Nat → Int32) (c_t_now_crowd_light : Nat → Int32) (c_t_ways_planks : Nat → Int32) (c_t_ways_least : Nat → Int32) (c_t_ways_neighbours : Nat → Int32) : va_W := [ob_ A_t 9 [.ref A_t_now, .ref A_t_images, .ref A_t_pad, .ref A_t_evening, .ref A_t_ways, .ref A_t_tour, .ref A_t_odds, .int c_t_measured], ob_ A_t_now 5 [.ref A_t_now_marsh, .ref A_t_now_crowd, .ref A_t_now_sights], ob_ A_t_now_marsh 2 [.ref A_t_now_marsh_codes], ia_ G A_t_now_marsh_codes 144 c_t_now_marsh_codes, ob_ A_t_now_crowd 0 [.int c_t_now_crowd_there, .int c_t_now_crowd_foggy, .ref A_t_now_crowd_at, .ref A_t_now_crowd_home, .ref A_t_now_crowd_light, .ref A_t_now_crowd_carries, .ref A_t_now_crowd_bearer], ia_ G A_t_now_crowd_at 6 c_t_now_crowd_at, ia_ G A_t_now_crowd_home 6 c_t_now_crowd_home, ia_ G A_t_now_crowd_light 6 c_t_now_crowd_light, ob_ A_t_ways 8 [.ref A_t_ways_planks, .ref A_t_ways_least, .ref A_t_ways_neighbours], ia_ G A_t_ways_planks 144 c_t_ways_planks, ia_ G A_t_ways_least 144 c_t_ways_least, ia_ G A_t_ways_neighbours 12 c_t_ways_neighbours]
def fn_X9_more (c_t_measured : Int32) (c_t_now_marsh_codes : Nat → Int32) (c_t_now_crowd_there : Int32) (c_t_now_crowd_foggy : Int32) (c_t_now_crowd_at : Nat → Int32) (c_t_now_crowd_home : Nat → Int32) (c_t_now_crowd_light : Nat → Int32) (c_t_ways_planks : Nat → Int32) (c_t_ways_least : Nat → Int32) (c_t_ways_neighbours : Nat → Int32) (x1 : Int32) : Option (Int32 × Int32 × (Nat → Int32) × (Nat → Int32) × (Nat → Int32)) :=
  b1_ (fn_X9_isPlace x1) fun r1 =>
  if r1 = 0 then
    some ((-1), c_t_measured, c_t_ways_planks, c_t_ways_least, c_t_ways_neighbours)
  else
    b4_ (fn_X9_measure c_t_measured c_t_now_marsh_codes c_t_now_crowd_foggy c_t_ways_planks c_t_ways_least c_t_ways_neighbours) fun w3 w4 w5 w6 =>
    b1_ (fn_X0_lackAt c_t_now_crowd_there c_t_now_crowd_at c_t_now_crowd_home c_t_now_crowd_light w5 x1) fun r8 =>
    some (r8, w3, w4, w5, w6)
set_option maxHeartbeats 4000000 in
set_option maxRecDepth 100000 in
theorem wn_X9_more {p : Program} {l : Launch} {e : Env} {s : State} {m : MethodId} {args : Array Value} {below : List Frame} {meth : Method} {c : Code} {G : gw_} {A : Nat → Prop} {Q : State → Prop} {A_t : Nat} {A_t_now : Nat} {A_t_images : Nat} {A_t_pad : Nat} {A_t_evening : Nat} {A_t_ways : Nat} {A_t_tour : Nat} {A_t_odds : Nat} {A_t_now_marsh : Nat} {A_t_now_crowd : Nat} {A_t_now_sights : Nat} {A_t_now_marsh_codes : Nat} {A_t_now_crowd_at : Nat} {A_t_now_crowd_home : Nat} {A_t_now_crowd_light : Nat} {A_t_now_crowd_carries : Nat} {A_t_now_crowd_bearer : Nat} {A_t_ways_planks : Nat} {A_t_ways_least : Nat} {A_t_ways_neighbours : Nat} {c_t_measured : Int32} {z_t_measured : Int32} {c_t_now_marsh_codes : Nat → Int32} {c_t_now_crowd_there : Int32} {c_t_now_crowd_foggy : Int32} {c_t_now_crowd_at : Nat → Int32} {c_t_now_crowd_home : Nat → Int32} {c_t_now_crowd_light : Nat → Int32} {c_t_ways_planks : Nat → Int32} {z_t_ways_planks : Nat → Int32} {c_t_ways_least : Nat → Int32} {z_t_ways_least : Nat → Int32} {c_t_ways_neighbours : Nat → Int32} {z_t_ways_neighbours : Nat → Int32} {r : Int32} {x1 : Int32} (hC : cx_ p s m c G cX9_more 2 RX9) (hret : ∀ (pc : Nat) (H : Heap) (locs : List Loc) (ls : Array Slot), decode cX9_more pc = .ok (.ireturn, 1) → wd_ G A s.heap (wl_X9_more G A_t A_t_now A_t_images A_t_pad A_t_evening A_t_ways A_t_tour A_t_odds A_t_now_marsh A_t_now_crowd A_t_now_sights A_t_now_marsh_codes A_t_now_crowd_at A_t_now_crowd_home A_t_now_crowd_light A_t_now_crowd_carries A_t_now_crowd_bearer A_t_ways_planks A_t_ways_least A_t_ways_neighbours z_t_measured c_t_now_marsh_codes c_t_now_crowd_there c_t_now_crowd_foggy c_t_now_crowd_at c_t_now_crowd_home c_t_now_crowd_light z_t_ways_planks z_t_ways_least z_t_ways_neighbours) H locs → W p l e { frames := 4, cells := 0, slots := 0, locals := 92 } s m args below meth c H locs 0 0 Q (F0 m pc ls [.int r])) (hf : fn_X9_more c_t_measured c_t_now_marsh_codes c_t_now_crowd_there c_t_now_crowd_foggy c_t_now_crowd_at c_t_now_crowd_home c_t_now_crowd_light c_t_ways_planks c_t_ways_least c_t_ways_neighbours x1 = some (r, z_t_measured, z_t_ways_planks, z_t_ways_least, z_t_ways_neighbours)) {H : Heap} {locs : List Loc} {ls : Array Slot} (hl : lv_has ls 2 [(0, .ref A_t), (1, .int x1)]) (hw : wd_ G A s.heap (wl_X9_more G A_t A_t_now A_t_images A_t_pad A_t_evening A_t_ways A_t_tour A_t_odds A_t_now_marsh A_t_now_crowd A_t_now_sights A_t_now_marsh_codes A_t_now_crowd_at A_t_now_crowd_home A_t_now_crowd_light A_t_now_crowd_carries A_t_now_crowd_bearer A_t_ways_planks A_t_ways_least A_t_ways_neighbours c_t_measured c_t_now_marsh_codes c_t_now_crowd_there c_t_now_crowd_foggy c_t_now_crowd_at c_t_now_crowd_home c_t_now_crowd_light c_t_ways_planks c_t_ways_least c_t_ways_neighbours) H locs) : W p l e { frames := 4, cells := 0, slots := 0, locals := 92 } s m args below meth c H locs 0 0 Q (F0 m 0 ls []) := by
  have hx := hC.1
  have hb := hC.2.1
  unfold fn_X9_more at hf
  refine lv_iload_n hx hb dX9_more_0 rfl (lv_at hl 1 rfl) ?_
  obtain ⟨r1, hq2, hf⟩ := b1_s hf
  refine h_cSi hC hw msX9_59 (cn_X9_isPlace l G x1 r1 hq2) [] rfl (by decide) rfl hl.1 rfl (Nat.le_of_ble_eq_true rfl) ⟨Nat.le_of_ble_eq_true rfl, Nat.le_of_ble_eq_true rfl⟩ ⟨Nat.le_refl _, Nat.le_refl _⟩ dX9_more_1 (fun H locs hw => ?_)
  refine lv_if_ne (tgt := 9) hx hb dX9_more_4 (by decide) (fun hc => ?_) (fun hc => ?_)
  · replace hf := it_f hc hf
    refine lv_aload_n hx hb dX9_more_9 rfl (lv_at hl 0 rfl) ?_
    obtain ⟨w3, w4, w5, w6, hq7, hf⟩ := b4_s hf
    refine g_cVv hC hw mvX9_155 (cn_X9_measure l G A_t A_t_now A_t_images A_t_pad A_t_evening A_t_ways A_t_tour A_t_odds A_t_now_marsh A_t_now_crowd A_t_now_sights A_t_now_marsh_codes A_t_now_crowd_at A_t_now_crowd_home A_t_now_crowd_light A_t_now_crowd_carries A_t_now_crowd_bearer A_t_ways_planks A_t_ways_least A_t_ways_neighbours c_t_measured c_t_now_marsh_codes c_t_now_crowd_there c_t_now_crowd_foggy c_t_ways_planks c_t_ways_least c_t_ways_neighbours w3 w4 w5 w6 hq7) [0, 1, 2, 3, 4, 8, 9, 10, 11] rfl (by decide) rfl 0 rfl rfl rfl hl.1 rfl (Nat.le_of_ble_eq_true rfl) ⟨Nat.le_of_ble_eq_true rfl, Nat.le_of_ble_eq_true rfl⟩ ⟨Nat.le_refl _, Nat.le_refl _⟩ dX9_more_10 (fun H locs hw => ?_)
    have hw : wd_ G A s.heap (wl_X9_more G A_t A_t_now A_t_images A_t_pad A_t_evening A_t_ways A_t_tour A_t_odds A_t_now_marsh A_t_now_crowd A_t_now_sights A_t_now_marsh_codes A_t_now_crowd_at A_t_now_crowd_home A_t_now_crowd_light A_t_now_crowd_carries A_t_now_crowd_bearer A_t_ways_planks A_t_ways_least A_t_ways_neighbours w3 c_t_now_marsh_codes c_t_now_crowd_there c_t_now_crowd_foggy c_t_now_crowd_at c_t_now_crowd_home c_t_now_crowd_light w4 w5 w6) H locs := hw
    refine lv_aload_n hx hb dX9_more_13 rfl (lv_at hl 0 rfl) ?_
    refine g_get hC hw fkX9_12 0 rfl rfl dX9_more_14 ?_
    refine g_get hC hw fkX9_81 1 rfl rfl dX9_more_17 ?_
    refine lv_aload_n hx hb dX9_more_20 rfl (lv_at hl 0 rfl) ?_
    refine g_get hC hw fkX9_37 0 rfl rfl dX9_more_21 ?_
    refine lv_iload_n hx hb dX9_more_24 rfl (lv_at hl 1 rfl) ?_
    obtain ⟨r8, hq9, hf⟩ := b1_s hf
    refine h_cVi hC hw mvX9_192 (cn_X0_lackAt l G A_t_now_crowd A_t_now_crowd_at A_t_now_crowd_home A_t_now_crowd_light A_t_now_crowd_carries A_t_now_crowd_bearer A_t_ways A_t_ways_planks A_t_ways_least A_t_ways_neighbours c_t_now_crowd_there c_t_now_crowd_foggy c_t_now_crowd_at c_t_now_crowd_home c_t_now_crowd_light w5 x1 r8 hq9) [4, 5, 6, 7, 8, 10] rfl (by decide) 4 rfl rfl rfl hl.1 rfl (Nat.le_of_ble_eq_true rfl) ⟨Nat.le_of_ble_eq_true rfl, Nat.le_of_ble_eq_true rfl⟩ ⟨Nat.le_refl _, Nat.le_refl _⟩ dX9_more_25 (fun H locs hw => ?_)
    obtain ⟨h1_, h2_, h3_, h4_, h5_⟩ := t5_ hf
    subst h1_
    subst h2_
    subst h3_
    subst h4_
    subst h5_
    exact hret _ _ _ _ dX9_more_28 hw
  · replace hf := it_t hc hf
    refine lv_iconst (v := (-1)) hx hb dX9_more_7 (by decide) ?_
    obtain ⟨h1_, h2_, h3_, h4_, h5_⟩ := t5_ hf
    subst h1_
    subst h2_
    subst h3_
    subst h4_
    subst h5_
    exact hret _ _ _ _ dX9_more_8 hw
set_option maxHeartbeats 4000000 in
set_option maxRecDepth 100000 in
theorem cn_X9_more (l : Launch) (G : gw_) (A_t : Nat) (A_t_now : Nat) (A_t_images : Nat) (A_t_pad : Nat) (A_t_evening : Nat) (A_t_ways : Nat) (A_t_tour : Nat) (A_t_odds : Nat) (A_t_now_marsh : Nat) (A_t_now_crowd : Nat) (A_t_now_sights : Nat) (A_t_now_marsh_codes : Nat) (A_t_now_crowd_at : Nat) (A_t_now_crowd_home : Nat) (A_t_now_crowd_light : Nat) (A_t_now_crowd_carries : Nat) (A_t_now_crowd_bearer : Nat) (A_t_ways_planks : Nat) (A_t_ways_least : Nat) (A_t_ways_neighbours : Nat) (c_t_measured : Int32) (c_t_now_marsh_codes : Nat → Int32) (c_t_now_crowd_there : Int32) (c_t_now_crowd_foggy : Int32) (c_t_now_crowd_at : Nat → Int32) (c_t_now_crowd_home : Nat → Int32) (c_t_now_crowd_light : Nat → Int32) (c_t_ways_planks : Nat → Int32) (c_t_ways_least : Nat → Int32) (c_t_ways_neighbours : Nat → Int32) (x1 : Int32) (r : Int32) (z_t_measured : Int32) (z_t_ways_planks : Nat → Int32) (z_t_ways_least : Nat → Int32) (z_t_ways_neighbours : Nat → Int32) (hf : fn_X9_more c_t_measured c_t_now_marsh_codes c_t_now_crowd_there c_t_now_crowd_foggy c_t_now_crowd_at c_t_now_crowd_home c_t_now_crowd_light c_t_ways_planks c_t_ways_least c_t_ways_neighbours x1 = some (r, z_t_measured, z_t_ways_planks, z_t_ways_least, z_t_ways_neighbours)) : ci_ l G yX9_more cX9_more 2 (some .int) 4 92 (wl_X9_more G A_t A_t_now A_t_images A_t_pad A_t_evening A_t_ways A_t_tour A_t_odds A_t_now_marsh A_t_now_crowd A_t_now_sights A_t_now_marsh_codes A_t_now_crowd_at A_t_now_crowd_home A_t_now_crowd_light A_t_now_crowd_carries A_t_now_crowd_bearer A_t_ways_planks A_t_ways_least A_t_ways_neighbours c_t_measured c_t_now_marsh_codes c_t_now_crowd_there c_t_now_crowd_foggy c_t_now_crowd_at c_t_now_crowd_home c_t_now_crowd_light c_t_ways_planks c_t_ways_least c_t_ways_neighbours) [.ref A_t, .int x1] r (wl_X9_more G A_t A_t_now A_t_images A_t_pad A_t_evening A_t_ways A_t_tour A_t_odds A_t_now_marsh A_t_now_crowd A_t_now_sights A_t_now_marsh_codes A_t_now_crowd_at A_t_now_crowd_home A_t_now_crowd_light A_t_now_crowd_carries A_t_now_crowd_bearer A_t_ways_planks A_t_ways_least A_t_ways_neighbours z_t_measured c_t_now_marsh_codes c_t_now_crowd_there c_t_now_crowd_foggy c_t_now_crowd_at c_t_now_crowd_home c_t_now_crowd_light z_t_ways_planks z_t_ways_least z_t_ways_neighbours) := fun sz => met_intro (by decide) (Nat.le_of_ble_eq_true rfl) (fun p e s m args below meth c ls hsz hC hr hlk hnm hl hw => wn_X9_more hC (fun pc H locs ls hd hw => g_iret hC hr hlk hw rfl rfl hd) hf hl hw)

theorem dX9_decides_0 : decode cX9_decides 0 = .ok (.aload_n 0, 1) := by decide +kernel
theorem dX9_decides_1 : decode cX9_decides 1 = .ok (.invokevirtual 155, 3) := by decide +kernel
theorem dX9_decides_4 : decode cX9_decides 4 = .ok (.iload_n 1, 1) := by decide +kernel
theorem dX9_decides_5 : decode cX9_decides 5 = .ok (.iconst (-1), 1) := by decide +kernel
theorem dX9_decides_6 : decode cX9_decides 6 = .ok (.if_icmp .ne 13, 3) := by decide +kernel
theorem dX9_decides_9 : decode cX9_decides 9 = .ok (.aload_n 0, 1) := by decide +kernel
theorem dX9_decides_10 : decode cX9_decides 10 = .ok (.getfield 37, 3) := by decide +kernel
theorem dX9_decides_13 : decode cX9_decides 13 = .ok (.invokevirtual 195, 3) := by decide +kernel
theorem dX9_decides_16 : decode cX9_decides 16 = .ok (.goto 11, 3) := by decide +kernel
theorem dX9_decides_19 : decode cX9_decides 19 = .ok (.aload_n 0, 1) := by decide +kernel
theorem dX9_decides_20 : decode cX9_decides 20 = .ok (.getfield 37, 3) := by decide +kernel
theorem dX9_decides_23 : decode cX9_decides 23 = .ok (.iload_n 1, 1) := by decide +kernel
theorem dX9_decides_24 : decode cX9_decides 24 = .ok (.invokevirtual 198, 3) := by decide +kernel
theorem dX9_decides_27 : decode cX9_decides 27 = .ok (.ireturn, 1) := by decide +kernel
abbrev wl_X9_decides (G : gw_) (A_t : Nat) (A_t_now : Nat) (A_t_images : Nat) (A_t_pad : Nat) (A_t_evening : Nat) (A_t_ways : Nat) (A_t_tour : Nat) (A_t_odds : Nat) (A_t_now_marsh : Nat) (A_t_now_crowd : Nat) (A_t_now_sights : Nat) (A_t_now_marsh_codes : Nat) (A_t_now_crowd_at : Nat) (A_t_now_crowd_home : Nat) (A_t_now_crowd_light : Nat) (A_t_now_crowd_carries : Nat) (A_t_now_crowd_bearer : Nat) (A_t_ways_planks : Nat) (A_t_ways_least : Nat) (A_t_ways_neighbours : Nat) (c_t_measured : Int32) (c_t_now_marsh_codes : Nat → Int32) (c_t_now_crowd_there : Int32) (c_t_now_crowd_foggy : Int32) (c_t_ways_planks : Nat → Int32) (c_t_ways_least : Nat → Int32) (c_t_ways_neighbours : Nat → Int32) : va_W := [ob_ A_t 9 [.ref A_t_now, .ref A_t_images, .ref A_t_pad, .ref A_t_evening, .ref A_t_ways, .ref A_t_tour, .ref A_t_odds, .int c_t_measured], ob_ A_t_now 5 [.ref A_t_now_marsh, .ref A_t_now_crowd, .ref A_t_now_sights], ob_ A_t_now_marsh 2 [.ref A_t_now_marsh_codes], ia_ G A_t_now_marsh_codes 144 c_t_now_marsh_codes, ob_ A_t_now_crowd 0 [.int c_t_now_crowd_there, .int c_t_now_crowd_foggy, .ref A_t_now_crowd_at, .ref A_t_now_crowd_home, .ref A_t_now_crowd_light, .ref A_t_now_crowd_carries, .ref A_t_now_crowd_bearer], ob_ A_t_ways 8 [.ref A_t_ways_planks, .ref A_t_ways_least, .ref A_t_ways_neighbours], ia_ G A_t_ways_planks 144 c_t_ways_planks, ia_ G A_t_ways_least 144 c_t_ways_least, ia_ G A_t_ways_neighbours 12 c_t_ways_neighbours]
def fn_X9_decides (c_t_measured : Int32) (c_t_now_marsh_codes : Nat → Int32) (c_t_now_crowd_foggy : Int32) (c_t_ways_planks : Nat → Int32) (c_t_ways_least : Nat → Int32) (c_t_ways_neighbours : Nat → Int32) (x1 : Int32) : Option (Int32 × Int32 × (Nat → Int32) × (Nat → Int32) × (Nat → Int32)) :=
  b4_ (fn_X9_measure c_t_measured c_t_now_marsh_codes c_t_now_crowd_foggy c_t_ways_planks c_t_ways_least c_t_ways_neighbours) fun w1 w2 w3 w4 =>
  if x1 = (-1) then
    b1_ (fn_X8_countDeciding w4) fun r8 =>
    some (r8, w1, w2, w3, w4)
  else
    b1_ (fn_X8_nthDeciding w4 x1) fun r6 =>
    some (r6, w1, w2, w3, w4)
set_option maxHeartbeats 4000000 in
set_option maxRecDepth 100000 in
theorem wn_X9_decides {p : Program} {l : Launch} {e : Env} {s : State} {m : MethodId} {args : Array Value} {below : List Frame} {meth : Method} {c : Code} {G : gw_} {A : Nat → Prop} {Q : State → Prop} {A_t : Nat} {A_t_now : Nat} {A_t_images : Nat} {A_t_pad : Nat} {A_t_evening : Nat} {A_t_ways : Nat} {A_t_tour : Nat} {A_t_odds : Nat} {A_t_now_marsh : Nat} {A_t_now_crowd : Nat} {A_t_now_sights : Nat} {A_t_now_marsh_codes : Nat} {A_t_now_crowd_at : Nat} {A_t_now_crowd_home : Nat} {A_t_now_crowd_light : Nat} {A_t_now_crowd_carries : Nat} {A_t_now_crowd_bearer : Nat} {A_t_ways_planks : Nat} {A_t_ways_least : Nat} {A_t_ways_neighbours : Nat} {c_t_measured : Int32} {z_t_measured : Int32} {c_t_now_marsh_codes : Nat → Int32} {c_t_now_crowd_there : Int32} {c_t_now_crowd_foggy : Int32} {c_t_ways_planks : Nat → Int32} {z_t_ways_planks : Nat → Int32} {c_t_ways_least : Nat → Int32} {z_t_ways_least : Nat → Int32} {c_t_ways_neighbours : Nat → Int32} {z_t_ways_neighbours : Nat → Int32} {r : Int32} {x1 : Int32} (hC : cx_ p s m c G cX9_decides 2 RX9) (hret : ∀ (pc : Nat) (H : Heap) (locs : List Loc) (ls : Array Slot), decode cX9_decides pc = .ok (.ireturn, 1) → wd_ G A s.heap (wl_X9_decides G A_t A_t_now A_t_images A_t_pad A_t_evening A_t_ways A_t_tour A_t_odds A_t_now_marsh A_t_now_crowd A_t_now_sights A_t_now_marsh_codes A_t_now_crowd_at A_t_now_crowd_home A_t_now_crowd_light A_t_now_crowd_carries A_t_now_crowd_bearer A_t_ways_planks A_t_ways_least A_t_ways_neighbours z_t_measured c_t_now_marsh_codes c_t_now_crowd_there c_t_now_crowd_foggy z_t_ways_planks z_t_ways_least z_t_ways_neighbours) H locs → W p l e { frames := 4, cells := 0, slots := 0, locals := 92 } s m args below meth c H locs 0 0 Q (F0 m pc ls [.int r])) (hf : fn_X9_decides c_t_measured c_t_now_marsh_codes c_t_now_crowd_foggy c_t_ways_planks c_t_ways_least c_t_ways_neighbours x1 = some (r, z_t_measured, z_t_ways_planks, z_t_ways_least, z_t_ways_neighbours)) {H : Heap} {locs : List Loc} {ls : Array Slot} (hl : lv_has ls 2 [(0, .ref A_t), (1, .int x1)]) (hw : wd_ G A s.heap (wl_X9_decides G A_t A_t_now A_t_images A_t_pad A_t_evening A_t_ways A_t_tour A_t_odds A_t_now_marsh A_t_now_crowd A_t_now_sights A_t_now_marsh_codes A_t_now_crowd_at A_t_now_crowd_home A_t_now_crowd_light A_t_now_crowd_carries A_t_now_crowd_bearer A_t_ways_planks A_t_ways_least A_t_ways_neighbours c_t_measured c_t_now_marsh_codes c_t_now_crowd_there c_t_now_crowd_foggy c_t_ways_planks c_t_ways_least c_t_ways_neighbours) H locs) : W p l e { frames := 4, cells := 0, slots := 0, locals := 92 } s m args below meth c H locs 0 0 Q (F0 m 0 ls []) := by
  have hx := hC.1
  have hb := hC.2.1
  unfold fn_X9_decides at hf
  refine lv_aload_n hx hb dX9_decides_0 rfl (lv_at hl 0 rfl) ?_
  obtain ⟨w1, w2, w3, w4, hq5, hf⟩ := b4_s hf
  refine g_cVv hC hw mvX9_155 (cn_X9_measure l G A_t A_t_now A_t_images A_t_pad A_t_evening A_t_ways A_t_tour A_t_odds A_t_now_marsh A_t_now_crowd A_t_now_sights A_t_now_marsh_codes A_t_now_crowd_at A_t_now_crowd_home A_t_now_crowd_light A_t_now_crowd_carries A_t_now_crowd_bearer A_t_ways_planks A_t_ways_least A_t_ways_neighbours c_t_measured c_t_now_marsh_codes c_t_now_crowd_there c_t_now_crowd_foggy c_t_ways_planks c_t_ways_least c_t_ways_neighbours w1 w2 w3 w4 hq5) [0, 1, 2, 3, 4, 5, 6, 7, 8] rfl (by decide) rfl 0 rfl rfl rfl hl.1 rfl (Nat.le_of_ble_eq_true rfl) ⟨Nat.le_of_ble_eq_true rfl, Nat.le_of_ble_eq_true rfl⟩ ⟨Nat.le_refl _, Nat.le_refl _⟩ dX9_decides_1 (fun H locs hw => ?_)
  have hw : wd_ G A s.heap (wl_X9_decides G A_t A_t_now A_t_images A_t_pad A_t_evening A_t_ways A_t_tour A_t_odds A_t_now_marsh A_t_now_crowd A_t_now_sights A_t_now_marsh_codes A_t_now_crowd_at A_t_now_crowd_home A_t_now_crowd_light A_t_now_crowd_carries A_t_now_crowd_bearer A_t_ways_planks A_t_ways_least A_t_ways_neighbours w1 c_t_now_marsh_codes c_t_now_crowd_there c_t_now_crowd_foggy w2 w3 w4) H locs := hw
  refine lv_iload_n hx hb dX9_decides_4 rfl (lv_at hl 1 rfl) ?_
  refine lv_iconst (v := (-1)) hx hb dX9_decides_5 (by decide) ?_
  refine lv_icmp_ne (tgt := 19) hx hb dX9_decides_6 (by decide) (fun hc => ?_) (fun hc => ?_)
  · replace hf := it_f hc hf
    refine lv_aload_n hx hb dX9_decides_19 rfl (lv_at hl 0 rfl) ?_
    refine g_get hC hw fkX9_37 0 rfl rfl dX9_decides_20 ?_
    refine lv_iload_n hx hb dX9_decides_23 rfl (lv_at hl 1 rfl) ?_
    obtain ⟨r6, hq7, hf⟩ := b1_s hf
    refine h_cVi hC hw mvX9_198 (cn_X8_nthDeciding l G A_t_ways A_t_ways_planks A_t_ways_least A_t_ways_neighbours w4 x1 r6 hq7) [5, 8] rfl (by decide) 5 rfl rfl rfl hl.1 rfl (Nat.le_of_ble_eq_true rfl) ⟨Nat.le_of_ble_eq_true rfl, Nat.le_of_ble_eq_true rfl⟩ ⟨Nat.le_refl _, Nat.le_refl _⟩ dX9_decides_24 (fun H locs hw => ?_)
    obtain ⟨h1_, h2_, h3_, h4_, h5_⟩ := t5_ hf
    subst h1_
    subst h2_
    subst h3_
    subst h4_
    subst h5_
    exact hret _ _ _ _ dX9_decides_27 hw
  · replace hf := it_t hc hf
    refine lv_aload_n hx hb dX9_decides_9 rfl (lv_at hl 0 rfl) ?_
    refine g_get hC hw fkX9_37 0 rfl rfl dX9_decides_10 ?_
    obtain ⟨r8, hq9, hf⟩ := b1_s hf
    refine h_cVi hC hw mvX9_195 (cn_X8_countDeciding l G A_t_ways A_t_ways_planks A_t_ways_least A_t_ways_neighbours w4 r8 hq9) [5, 8] rfl (by decide) 5 rfl rfl rfl hl.1 rfl (Nat.le_of_ble_eq_true rfl) ⟨Nat.le_of_ble_eq_true rfl, Nat.le_of_ble_eq_true rfl⟩ ⟨Nat.le_refl _, Nat.le_refl _⟩ dX9_decides_13 (fun H locs hw => ?_)
    refine lv_goto (tgt := 27) hx hb dX9_decides_16 (by decide) ?_
    obtain ⟨h1_, h2_, h3_, h4_, h5_⟩ := t5_ hf
    subst h1_
    subst h2_
    subst h3_
    subst h4_
    subst h5_
    exact hret _ _ _ _ dX9_decides_27 hw
set_option maxHeartbeats 4000000 in
set_option maxRecDepth 100000 in
theorem cn_X9_decides (l : Launch) (G : gw_) (A_t : Nat) (A_t_now : Nat) (A_t_images : Nat) (A_t_pad : Nat) (A_t_evening : Nat) (A_t_ways : Nat) (A_t_tour : Nat) (A_t_odds : Nat) (A_t_now_marsh : Nat) (A_t_now_crowd : Nat) (A_t_now_sights : Nat) (A_t_now_marsh_codes : Nat) (A_t_now_crowd_at : Nat) (A_t_now_crowd_home : Nat) (A_t_now_crowd_light : Nat) (A_t_now_crowd_carries : Nat) (A_t_now_crowd_bearer : Nat) (A_t_ways_planks : Nat) (A_t_ways_least : Nat) (A_t_ways_neighbours : Nat) (c_t_measured : Int32) (c_t_now_marsh_codes : Nat → Int32) (c_t_now_crowd_there : Int32) (c_t_now_crowd_foggy : Int32) (c_t_ways_planks : Nat → Int32) (c_t_ways_least : Nat → Int32) (c_t_ways_neighbours : Nat → Int32) (x1 : Int32) (r : Int32) (z_t_measured : Int32) (z_t_ways_planks : Nat → Int32) (z_t_ways_least : Nat → Int32) (z_t_ways_neighbours : Nat → Int32) (hf : fn_X9_decides c_t_measured c_t_now_marsh_codes c_t_now_crowd_foggy c_t_ways_planks c_t_ways_least c_t_ways_neighbours x1 = some (r, z_t_measured, z_t_ways_planks, z_t_ways_least, z_t_ways_neighbours)) : ci_ l G yX9_decides cX9_decides 2 (some .int) 4 92 (wl_X9_decides G A_t A_t_now A_t_images A_t_pad A_t_evening A_t_ways A_t_tour A_t_odds A_t_now_marsh A_t_now_crowd A_t_now_sights A_t_now_marsh_codes A_t_now_crowd_at A_t_now_crowd_home A_t_now_crowd_light A_t_now_crowd_carries A_t_now_crowd_bearer A_t_ways_planks A_t_ways_least A_t_ways_neighbours c_t_measured c_t_now_marsh_codes c_t_now_crowd_there c_t_now_crowd_foggy c_t_ways_planks c_t_ways_least c_t_ways_neighbours) [.ref A_t, .int x1] r (wl_X9_decides G A_t A_t_now A_t_images A_t_pad A_t_evening A_t_ways A_t_tour A_t_odds A_t_now_marsh A_t_now_crowd A_t_now_sights A_t_now_marsh_codes A_t_now_crowd_at A_t_now_crowd_home A_t_now_crowd_light A_t_now_crowd_carries A_t_now_crowd_bearer A_t_ways_planks A_t_ways_least A_t_ways_neighbours z_t_measured c_t_now_marsh_codes c_t_now_crowd_there c_t_now_crowd_foggy z_t_ways_planks z_t_ways_least z_t_ways_neighbours) := fun sz => met_intro (by decide) (Nat.le_of_ble_eq_true rfl) (fun p e s m args below meth c ls hsz hC hr hlk hnm hl hw => wn_X9_decides hC (fun pc H locs ls hd hw => g_iret hC hr hlk hw rfl rfl hd) hf hl hw)

theorem dX9_wax_0 : decode cX9_wax 0 = .ok (.iload_n 1, 1) := by decide +kernel
theorem dX9_wax_1 : decode cX9_wax 1 = .ok (.iconst 0, 1) := by decide +kernel
theorem dX9_wax_2 : decode cX9_wax 2 = .ok (.iconst 1, 1) := by decide +kernel
theorem dX9_wax_3 : decode cX9_wax 3 = .ok (.invokestatic 63, 3) := by decide +kernel
theorem dX9_wax_6 : decode cX9_wax 6 = .ok (.ifCond .ne 6, 3) := by decide +kernel
theorem dX9_wax_9 : decode cX9_wax 9 = .ok (.bipush (-2), 2) := by decide +kernel
theorem dX9_wax_11 : decode cX9_wax 11 = .ok (.ireturn, 1) := by decide +kernel
theorem dX9_wax_12 : decode cX9_wax 12 = .ok (.aload_n 0, 1) := by decide +kernel
theorem dX9_wax_13 : decode cX9_wax 13 = .ok (.invokevirtual 155, 3) := by decide +kernel
theorem dX9_wax_16 : decode cX9_wax 16 = .ok (.aload_n 0, 1) := by decide +kernel
theorem dX9_wax_17 : decode cX9_wax 17 = .ok (.getfield 37, 3) := by decide +kernel
theorem dX9_wax_20 : decode cX9_wax 20 = .ok (.iload_n 1, 1) := by decide +kernel
theorem dX9_wax_21 : decode cX9_wax 21 = .ok (.ifCond .ne 7, 3) := by decide +kernel
theorem dX9_wax_24 : decode cX9_wax 24 = .ok (.iconst 1, 1) := by decide +kernel
theorem dX9_wax_25 : decode cX9_wax 25 = .ok (.goto 4, 3) := by decide +kernel
theorem dX9_wax_28 : decode cX9_wax 28 = .ok (.iconst 0, 1) := by decide +kernel
theorem dX9_wax_29 : decode cX9_wax 29 = .ok (.invokevirtual 201, 3) := by decide +kernel
theorem dX9_wax_32 : decode cX9_wax 32 = .ok (.ireturn, 1) := by decide +kernel
abbrev wl_X9_wax (G : gw_) (A_t : Nat) (A_t_now : Nat) (A_t_images : Nat) (A_t_pad : Nat) (A_t_evening : Nat) (A_t_ways : Nat) (A_t_tour : Nat) (A_t_odds : Nat) (A_t_now_marsh : Nat) (A_t_now_crowd : Nat) (A_t_now_sights : Nat) (A_t_now_marsh_codes : Nat) (A_t_now_crowd_at : Nat) (A_t_now_crowd_home : Nat) (A_t_now_crowd_light : Nat) (A_t_now_crowd_carries : Nat) (A_t_now_crowd_bearer : Nat) (A_t_ways_planks : Nat) (A_t_ways_least : Nat) (A_t_ways_neighbours : Nat) (c_t_measured : Int32) (c_t_now_marsh_codes : Nat → Int32) (c_t_now_crowd_there : Int32) (c_t_now_crowd_foggy : Int32) (c_t_ways_planks : Nat → Int32) (c_t_ways_least : Nat → Int32) (c_t_ways_neighbours : Nat → Int32) : va_W := [ob_ A_t 9 [.ref A_t_now, .ref A_t_images, .ref A_t_pad, .ref A_t_evening, .ref A_t_ways, .ref A_t_tour, .ref A_t_odds, .int c_t_measured], ob_ A_t_now 5 [.ref A_t_now_marsh, .ref A_t_now_crowd, .ref A_t_now_sights], ob_ A_t_now_marsh 2 [.ref A_t_now_marsh_codes], ia_ G A_t_now_marsh_codes 144 c_t_now_marsh_codes, ob_ A_t_now_crowd 0 [.int c_t_now_crowd_there, .int c_t_now_crowd_foggy, .ref A_t_now_crowd_at, .ref A_t_now_crowd_home, .ref A_t_now_crowd_light, .ref A_t_now_crowd_carries, .ref A_t_now_crowd_bearer], ob_ A_t_ways 8 [.ref A_t_ways_planks, .ref A_t_ways_least, .ref A_t_ways_neighbours], ia_ G A_t_ways_planks 144 c_t_ways_planks, ia_ G A_t_ways_least 144 c_t_ways_least, ia_ G A_t_ways_neighbours 12 c_t_ways_neighbours]
def fn_X9_wax_j29 (c_t_measured : Int32) (c_t_ways_planks : Nat → Int32) (c_t_ways_least : Nat → Int32) (c_t_ways_neighbours : Nat → Int32) (s1 : Int32)  : Option (Int32 × Int32 × (Nat → Int32) × (Nat → Int32) × (Nat → Int32)) :=
  b1_ (fn_X8_leastFrame c_t_ways_planks s1) fun r8 =>
  some (r8, c_t_measured, c_t_ways_planks, c_t_ways_least, c_t_ways_neighbours)
def fn_X9_wax (c_t_measured : Int32) (c_t_now_marsh_codes : Nat → Int32) (c_t_now_crowd_foggy : Int32) (c_t_ways_planks : Nat → Int32) (c_t_ways_least : Nat → Int32) (c_t_ways_neighbours : Nat → Int32) (x1 : Int32) : Option (Int32 × Int32 × (Nat → Int32) × (Nat → Int32) × (Nat → Int32)) :=
  b1_ (fn_X9_isWithin x1 0 1) fun r1 =>
  if r1 = 0 then
    some ((-2), c_t_measured, c_t_ways_planks, c_t_ways_least, c_t_ways_neighbours)
  else
    b4_ (fn_X9_measure c_t_measured c_t_now_marsh_codes c_t_now_crowd_foggy c_t_ways_planks c_t_ways_least c_t_ways_neighbours) fun w3 w4 w5 w6 =>
    if x1 = 0 then
      fn_X9_wax_j29 w3 w4 w5 w6 1
    else
      fn_X9_wax_j29 w3 w4 w5 w6 0
set_option maxHeartbeats 4000000 in
set_option maxRecDepth 100000 in
theorem wn_X9_wax_j29 {p : Program} {l : Launch} {e : Env} {s : State} {m : MethodId} {args : Array Value} {below : List Frame} {meth : Method} {c : Code} {G : gw_} {A : Nat → Prop} {Q : State → Prop} {A_t : Nat} {A_t_now : Nat} {A_t_images : Nat} {A_t_pad : Nat} {A_t_evening : Nat} {A_t_ways : Nat} {A_t_tour : Nat} {A_t_odds : Nat} {A_t_now_marsh : Nat} {A_t_now_crowd : Nat} {A_t_now_sights : Nat} {A_t_now_marsh_codes : Nat} {A_t_now_crowd_at : Nat} {A_t_now_crowd_home : Nat} {A_t_now_crowd_light : Nat} {A_t_now_crowd_carries : Nat} {A_t_now_crowd_bearer : Nat} {A_t_ways_planks : Nat} {A_t_ways_least : Nat} {A_t_ways_neighbours : Nat} {c_t_measured : Int32} {z_t_measured : Int32} {c_t_now_marsh_codes : Nat → Int32} {c_t_now_crowd_there : Int32} {c_t_now_crowd_foggy : Int32} {c_t_ways_planks : Nat → Int32} {z_t_ways_planks : Nat → Int32} {c_t_ways_least : Nat → Int32} {z_t_ways_least : Nat → Int32} {c_t_ways_neighbours : Nat → Int32} {z_t_ways_neighbours : Nat → Int32} {r : Int32} {s1 : Int32} (hC : cx_ p s m c G cX9_wax 2 RX9) (hret : ∀ (pc : Nat) (H : Heap) (locs : List Loc) (ls : Array Slot), decode cX9_wax pc = .ok (.ireturn, 1) → wd_ G A s.heap (wl_X9_wax G A_t A_t_now A_t_images A_t_pad A_t_evening A_t_ways A_t_tour A_t_odds A_t_now_marsh A_t_now_crowd A_t_now_sights A_t_now_marsh_codes A_t_now_crowd_at A_t_now_crowd_home A_t_now_crowd_light A_t_now_crowd_carries A_t_now_crowd_bearer A_t_ways_planks A_t_ways_least A_t_ways_neighbours z_t_measured c_t_now_marsh_codes c_t_now_crowd_there c_t_now_crowd_foggy z_t_ways_planks z_t_ways_least z_t_ways_neighbours) H locs → W p l e { frames := 4, cells := 0, slots := 0, locals := 92 } s m args below meth c H locs 0 0 Q (F0 m pc ls [.int r]))  (hf : fn_X9_wax_j29 c_t_measured c_t_ways_planks c_t_ways_least c_t_ways_neighbours s1 = some (r, z_t_measured, z_t_ways_planks, z_t_ways_least, z_t_ways_neighbours)) {H : Heap} {locs : List Loc} {ls : Array Slot} (hl : lv_has ls 2 []) (hw : wd_ G A s.heap (wl_X9_wax G A_t A_t_now A_t_images A_t_pad A_t_evening A_t_ways A_t_tour A_t_odds A_t_now_marsh A_t_now_crowd A_t_now_sights A_t_now_marsh_codes A_t_now_crowd_at A_t_now_crowd_home A_t_now_crowd_light A_t_now_crowd_carries A_t_now_crowd_bearer A_t_ways_planks A_t_ways_least A_t_ways_neighbours c_t_measured c_t_now_marsh_codes c_t_now_crowd_there c_t_now_crowd_foggy c_t_ways_planks c_t_ways_least c_t_ways_neighbours) H locs) : W p l e { frames := 4, cells := 0, slots := 0, locals := 92 } s m args below meth c H locs 0 0 Q (F0 m 29 ls [.int s1, .ref A_t_ways]) := by
  have hx := hC.1
  have hb := hC.2.1
  unfold fn_X9_wax_j29 at hf
  obtain ⟨r8, hq9, hf⟩ := b1_s hf
  refine h_cVi hC hw mvX9_201 (cn_X8_leastFrame l G A_t_ways A_t_ways_planks A_t_ways_least A_t_ways_neighbours c_t_ways_planks s1 r8 hq9) [5, 6] rfl (by decide) 5 rfl rfl rfl hl.1 rfl (Nat.le_of_ble_eq_true rfl) ⟨Nat.le_of_ble_eq_true rfl, Nat.le_of_ble_eq_true rfl⟩ ⟨Nat.le_refl _, Nat.le_refl _⟩ dX9_wax_29 (fun H locs hw => ?_)
  obtain ⟨h1_, h2_, h3_, h4_, h5_⟩ := t5_ hf
  subst h1_
  subst h2_
  subst h3_
  subst h4_
  subst h5_
  exact hret _ _ _ _ dX9_wax_32 hw
set_option maxHeartbeats 4000000 in
set_option maxRecDepth 100000 in
theorem wn_X9_wax {p : Program} {l : Launch} {e : Env} {s : State} {m : MethodId} {args : Array Value} {below : List Frame} {meth : Method} {c : Code} {G : gw_} {A : Nat → Prop} {Q : State → Prop} {A_t : Nat} {A_t_now : Nat} {A_t_images : Nat} {A_t_pad : Nat} {A_t_evening : Nat} {A_t_ways : Nat} {A_t_tour : Nat} {A_t_odds : Nat} {A_t_now_marsh : Nat} {A_t_now_crowd : Nat} {A_t_now_sights : Nat} {A_t_now_marsh_codes : Nat} {A_t_now_crowd_at : Nat} {A_t_now_crowd_home : Nat} {A_t_now_crowd_light : Nat} {A_t_now_crowd_carries : Nat} {A_t_now_crowd_bearer : Nat} {A_t_ways_planks : Nat} {A_t_ways_least : Nat} {A_t_ways_neighbours : Nat} {c_t_measured : Int32} {z_t_measured : Int32} {c_t_now_marsh_codes : Nat → Int32} {c_t_now_crowd_there : Int32} {c_t_now_crowd_foggy : Int32} {c_t_ways_planks : Nat → Int32} {z_t_ways_planks : Nat → Int32} {c_t_ways_least : Nat → Int32} {z_t_ways_least : Nat → Int32} {c_t_ways_neighbours : Nat → Int32} {z_t_ways_neighbours : Nat → Int32} {r : Int32} {x1 : Int32} (hC : cx_ p s m c G cX9_wax 2 RX9) (hret : ∀ (pc : Nat) (H : Heap) (locs : List Loc) (ls : Array Slot), decode cX9_wax pc = .ok (.ireturn, 1) → wd_ G A s.heap (wl_X9_wax G A_t A_t_now A_t_images A_t_pad A_t_evening A_t_ways A_t_tour A_t_odds A_t_now_marsh A_t_now_crowd A_t_now_sights A_t_now_marsh_codes A_t_now_crowd_at A_t_now_crowd_home A_t_now_crowd_light A_t_now_crowd_carries A_t_now_crowd_bearer A_t_ways_planks A_t_ways_least A_t_ways_neighbours z_t_measured c_t_now_marsh_codes c_t_now_crowd_there c_t_now_crowd_foggy z_t_ways_planks z_t_ways_least z_t_ways_neighbours) H locs → W p l e { frames := 4, cells := 0, slots := 0, locals := 92 } s m args below meth c H locs 0 0 Q (F0 m pc ls [.int r])) (hf : fn_X9_wax c_t_measured c_t_now_marsh_codes c_t_now_crowd_foggy c_t_ways_planks c_t_ways_least c_t_ways_neighbours x1 = some (r, z_t_measured, z_t_ways_planks, z_t_ways_least, z_t_ways_neighbours)) {H : Heap} {locs : List Loc} {ls : Array Slot} (hl : lv_has ls 2 [(0, .ref A_t), (1, .int x1)]) (hw : wd_ G A s.heap (wl_X9_wax G A_t A_t_now A_t_images A_t_pad A_t_evening A_t_ways A_t_tour A_t_odds A_t_now_marsh A_t_now_crowd A_t_now_sights A_t_now_marsh_codes A_t_now_crowd_at A_t_now_crowd_home A_t_now_crowd_light A_t_now_crowd_carries A_t_now_crowd_bearer A_t_ways_planks A_t_ways_least A_t_ways_neighbours c_t_measured c_t_now_marsh_codes c_t_now_crowd_there c_t_now_crowd_foggy c_t_ways_planks c_t_ways_least c_t_ways_neighbours) H locs) : W p l e { frames := 4, cells := 0, slots := 0, locals := 92 } s m args below meth c H locs 0 0 Q (F0 m 0 ls []) := by
  have hx := hC.1
  have hb := hC.2.1
  unfold fn_X9_wax at hf
  refine lv_iload_n hx hb dX9_wax_0 rfl (lv_at hl 1 rfl) ?_
  refine lv_iconst (v := 0) hx hb dX9_wax_1 (by decide) ?_
  refine lv_iconst (v := 1) hx hb dX9_wax_2 (by decide) ?_
  obtain ⟨r1, hq2, hf⟩ := b1_s hf
  refine h_cSi hC hw msX9_63 (cn_X9_isWithin l G x1 0 1 r1 hq2) [] rfl (by decide) rfl hl.1 rfl (Nat.le_of_ble_eq_true rfl) ⟨Nat.le_of_ble_eq_true rfl, Nat.le_of_ble_eq_true rfl⟩ ⟨Nat.le_refl _, Nat.le_refl _⟩ dX9_wax_3 (fun H locs hw => ?_)
  refine lv_if_ne (tgt := 12) hx hb dX9_wax_6 (by decide) (fun hc => ?_) (fun hc => ?_)
  · replace hf := it_f hc hf
    refine lv_aload_n hx hb dX9_wax_12 rfl (lv_at hl 0 rfl) ?_
    obtain ⟨w3, w4, w5, w6, hq7, hf⟩ := b4_s hf
    refine g_cVv hC hw mvX9_155 (cn_X9_measure l G A_t A_t_now A_t_images A_t_pad A_t_evening A_t_ways A_t_tour A_t_odds A_t_now_marsh A_t_now_crowd A_t_now_sights A_t_now_marsh_codes A_t_now_crowd_at A_t_now_crowd_home A_t_now_crowd_light A_t_now_crowd_carries A_t_now_crowd_bearer A_t_ways_planks A_t_ways_least A_t_ways_neighbours c_t_measured c_t_now_marsh_codes c_t_now_crowd_there c_t_now_crowd_foggy c_t_ways_planks c_t_ways_least c_t_ways_neighbours w3 w4 w5 w6 hq7) [0, 1, 2, 3, 4, 5, 6, 7, 8] rfl (by decide) rfl 0 rfl rfl rfl hl.1 rfl (Nat.le_of_ble_eq_true rfl) ⟨Nat.le_of_ble_eq_true rfl, Nat.le_of_ble_eq_true rfl⟩ ⟨Nat.le_refl _, Nat.le_refl _⟩ dX9_wax_13 (fun H locs hw => ?_)
    have hw : wd_ G A s.heap (wl_X9_wax G A_t A_t_now A_t_images A_t_pad A_t_evening A_t_ways A_t_tour A_t_odds A_t_now_marsh A_t_now_crowd A_t_now_sights A_t_now_marsh_codes A_t_now_crowd_at A_t_now_crowd_home A_t_now_crowd_light A_t_now_crowd_carries A_t_now_crowd_bearer A_t_ways_planks A_t_ways_least A_t_ways_neighbours w3 c_t_now_marsh_codes c_t_now_crowd_there c_t_now_crowd_foggy w4 w5 w6) H locs := hw
    refine lv_aload_n hx hb dX9_wax_16 rfl (lv_at hl 0 rfl) ?_
    refine g_get hC hw fkX9_37 0 rfl rfl dX9_wax_17 ?_
    refine lv_iload_n hx hb dX9_wax_20 rfl (lv_at hl 1 rfl) ?_
    refine lv_if_ne (tgt := 28) hx hb dX9_wax_21 (by decide) (fun hc => ?_) (fun hc => ?_)
    · replace hf := it_f hc hf
      refine lv_iconst (v := 0) hx hb dX9_wax_28 (by decide) ?_
      exact wn_X9_wax_j29 hC hret hf (lv_sub hl [] rfl) hw
    · replace hf := it_t hc hf
      refine lv_iconst (v := 1) hx hb dX9_wax_24 (by decide) ?_
      refine lv_goto (tgt := 29) hx hb dX9_wax_25 (by decide) ?_
      exact wn_X9_wax_j29 hC hret hf (lv_sub hl [] rfl) hw
  · replace hf := it_t hc hf
    refine lv_bipush (v := (-2)) hx hb dX9_wax_9 (by decide) ?_
    obtain ⟨h1_, h2_, h3_, h4_, h5_⟩ := t5_ hf
    subst h1_
    subst h2_
    subst h3_
    subst h4_
    subst h5_
    exact hret _ _ _ _ dX9_wax_11 hw
set_option maxHeartbeats 4000000 in
set_option maxRecDepth 100000 in
theorem cn_X9_wax (l : Launch) (G : gw_) (A_t : Nat) (A_t_now : Nat) (A_t_images : Nat) (A_t_pad : Nat) (A_t_evening : Nat) (A_t_ways : Nat) (A_t_tour : Nat) (A_t_odds : Nat) (A_t_now_marsh : Nat) (A_t_now_crowd : Nat) (A_t_now_sights : Nat) (A_t_now_marsh_codes : Nat) (A_t_now_crowd_at : Nat) (A_t_now_crowd_home : Nat) (A_t_now_crowd_light : Nat) (A_t_now_crowd_carries : Nat) (A_t_now_crowd_bearer : Nat) (A_t_ways_planks : Nat) (A_t_ways_least : Nat) (A_t_ways_neighbours : Nat) (c_t_measured : Int32) (c_t_now_marsh_codes : Nat → Int32) (c_t_now_crowd_there : Int32) (c_t_now_crowd_foggy : Int32) (c_t_ways_planks : Nat → Int32) (c_t_ways_least : Nat → Int32) (c_t_ways_neighbours : Nat → Int32) (x1 : Int32) (r : Int32) (z_t_measured : Int32) (z_t_ways_planks : Nat → Int32) (z_t_ways_least : Nat → Int32) (z_t_ways_neighbours : Nat → Int32) (hf : fn_X9_wax c_t_measured c_t_now_marsh_codes c_t_now_crowd_foggy c_t_ways_planks c_t_ways_least c_t_ways_neighbours x1 = some (r, z_t_measured, z_t_ways_planks, z_t_ways_least, z_t_ways_neighbours)) : ci_ l G yX9_wax cX9_wax 2 (some .int) 4 92 (wl_X9_wax G A_t A_t_now A_t_images A_t_pad A_t_evening A_t_ways A_t_tour A_t_odds A_t_now_marsh A_t_now_crowd A_t_now_sights A_t_now_marsh_codes A_t_now_crowd_at A_t_now_crowd_home A_t_now_crowd_light A_t_now_crowd_carries A_t_now_crowd_bearer A_t_ways_planks A_t_ways_least A_t_ways_neighbours c_t_measured c_t_now_marsh_codes c_t_now_crowd_there c_t_now_crowd_foggy c_t_ways_planks c_t_ways_least c_t_ways_neighbours) [.ref A_t, .int x1] r (wl_X9_wax G A_t A_t_now A_t_images A_t_pad A_t_evening A_t_ways A_t_tour A_t_odds A_t_now_marsh A_t_now_crowd A_t_now_sights A_t_now_marsh_codes A_t_now_crowd_at A_t_now_crowd_home A_t_now_crowd_light A_t_now_crowd_carries A_t_now_crowd_bearer A_t_ways_planks A_t_ways_least A_t_ways_neighbours z_t_measured c_t_now_marsh_codes c_t_now_crowd_there c_t_now_crowd_foggy z_t_ways_planks z_t_ways_least z_t_ways_neighbours) := fun sz => met_intro (by decide) (Nat.le_of_ble_eq_true rfl) (fun p e s m args below meth c ls hsz hC hr hlk hnm hl hw => wn_X9_wax hC (fun pc H locs ls hd hw => g_iret hC hr hlk hw rfl rfl hd) hf hl hw)
