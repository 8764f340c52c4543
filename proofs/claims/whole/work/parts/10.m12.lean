theorem dX10_fog_0 : decode cX10_fog 0 = .ok (.aload_n 0, 1) := by decide +kernel
theorem dX10_fog_1 : decode cX10_fog 1 = .ok (.getfield 93, 3) := by decide +kernel
theorem dX10_fog_4 : decode cX10_fog 4 = .ok (.istore_n 2, 1) := by decide +kernel
theorem dX10_fog_5 : decode cX10_fog 5 = .ok (.aload_n 0, 1) := by decide +kernel
theorem dX10_fog_6 : decode cX10_fog 6 = .ok (.iload_n 1, 1) := by decide +kernel
theorem dX10_fog_7 : decode cX10_fog 7 = .ok (.ifCond .eq 7, 3) := by decide +kernel
theorem dX10_fog_10 : decode cX10_fog 10 = .ok (.iconst 1, 1) := by decide +kernel
theorem dX10_fog_11 : decode cX10_fog 11 = .ok (.goto 4, 3) := by decide +kernel
theorem dX10_fog_14 : decode cX10_fog 14 = .ok (.iconst 0, 1) := by decide +kernel
theorem dX10_fog_15 : decode cX10_fog 15 = .ok (.putfield 93, 3) := by decide +kernel
theorem dX10_fog_18 : decode cX10_fog 18 = .ok (.iload_n 2, 1) := by decide +kernel
theorem dX10_fog_19 : decode cX10_fog 19 = .ok (.ireturn, 1) := by decide +kernel
def fn_X10_fog (c_t_foggy : Int32) (x1 : Int32) : Option (Int32 × Int32) :=
  if x1 = 0 then
    some (c_t_foggy, 0)
  else
    some (c_t_foggy, 1)
set_option maxHeartbeats 4000000 in
set_option maxRecDepth 100000 in
theorem wn_X10_fog {p : Program} {l : Launch} {e : Env} {s : State} {m : MethodId} {args : Array Value} {below : List Frame} {meth : Method} {c : Code} {G : gw_} {A : Nat → Prop} {Q : State → Prop} {A_t : Nat} {A_t_steps : Nat} {A_t_wet : Nat} {A_t_where : Nat} {A_t_home : Nat} {A_t_light : Nat} {A_t_carries : Nat} {A_t_sightPlace : Nat} {A_t_sightLight : Nat} {A_t_pad : Nat} {A_t_act : Nat} {A_t_whose : Nat} {A_t_whom : Nat} {A_t_tens : Nat} {A_t_had : Nat} {A_t_leaves : Nat} {A_t_apart : Nat} {A_t_stop : Nat} {A_t_restOf : Nat} {A_t_group : Nat} {A_t_along : Nat} {A_t_kept : Nat} {A_t_isKept : Nat} {c_t_foggy : Int32} {z_t_foggy : Int32} {c_t_walkers : Int32} {c_t_sights : Int32} {c_t_padMany : Int32} {c_t_acts : Int32} {c_t_spent : Int32} {c_t_walks : Int32} {c_t_badAct : Int32} {c_t_badWhy : Int32} {c_t_keptAt : Int32} {c_t_isWriting : Int32} {r : Int32} {x1 : Int32} (hC : cx_ p s m c G cX10_fog 3 RX10) (hret : ∀ (pc : Nat) (H : Heap) (locs : List Loc) (ls : Array Slot), decode cX10_fog pc = .ok (.ireturn, 1) → wd_ G A s.heap [ob_ A_t 10 [.ref A_t_steps, .ref A_t_wet, .int z_t_foggy, .int c_t_walkers, .ref A_t_where, .ref A_t_home, .ref A_t_light, .ref A_t_carries, .ref A_t_sightPlace, .ref A_t_sightLight, .int c_t_sights, .ref A_t_pad, .int c_t_padMany, .ref A_t_act, .ref A_t_whose, .ref A_t_whom, .ref A_t_tens, .int c_t_acts, .int c_t_spent, .int c_t_walks, .ref A_t_had, .ref A_t_leaves, .int c_t_badAct, .int c_t_badWhy, .ref A_t_apart, .ref A_t_stop, .ref A_t_restOf, .ref A_t_group, .ref A_t_along, .ref A_t_kept, .ref A_t_isKept, .int c_t_keptAt, .int c_t_isWriting]] H locs → W p l e { frames := 0, cells := 0, slots := 0, locals := 0 } s m args below meth c H locs 0 0 Q (F0 m pc ls [.int r])) (hf : fn_X10_fog c_t_foggy x1 = some (r, z_t_foggy)) {H : Heap} {locs : List Loc} {ls : Array Slot} (hl : lv_has ls 3 [(0, .ref A_t), (1, .int x1)]) (hw : wd_ G A s.heap [ob_ A_t 10 [.ref A_t_steps, .ref A_t_wet, .int c_t_foggy, .int c_t_walkers, .ref A_t_where, .ref A_t_home, .ref A_t_light, .ref A_t_carries, .ref A_t_sightPlace, .ref A_t_sightLight, .int c_t_sights, .ref A_t_pad, .int c_t_padMany, .ref A_t_act, .ref A_t_whose, .ref A_t_whom, .ref A_t_tens, .int c_t_acts, .int c_t_spent, .int c_t_walks, .ref A_t_had, .ref A_t_leaves, .int c_t_badAct, .int c_t_badWhy, .ref A_t_apart, .ref A_t_stop, .ref A_t_restOf, .ref A_t_group, .ref A_t_along, .ref A_t_kept, .ref A_t_isKept, .int c_t_keptAt, .int c_t_isWriting]] H locs) : W p l e { frames := 0, cells := 0, slots := 0, locals := 0 } s m args below meth c H locs 0 0 Q (F0 m 0 ls []) := by
  have hx := hC.1
  have hb := hC.2.1
  unfold fn_X10_fog at hf
  refine lv_aload_n hx hb dX10_fog_0 rfl (lv_at hl 0 rfl) ?_
  refine g_get hC hw fkX10_93 0 rfl rfl dX10_fog_1 ?_
  refine lv_istore_n (lv' := [(2, .int c_t_foggy), (0, .ref A_t), (1, .int x1)]) hx hb dX10_fog_4 rfl hl (by decide) rfl (fun ls hl => ?_)
  refine lv_aload_n hx hb dX10_fog_5 rfl (lv_at hl 1 rfl) ?_
  refine lv_iload_n hx hb dX10_fog_6 rfl (lv_at hl 2 rfl) ?_
  refine lv_if_eq (tgt := 14) hx hb dX10_fog_7 (by decide) (fun hc => ?_) (fun hc => ?_)
  · replace hf := it_t hc hf
    refine lv_iconst (v := 0) hx hb dX10_fog_14 (by decide) ?_
    refine g_put hC hw fpX10_93 0 rfl rfl rfl (Nat.le_of_ble_eq_true rfl) dX10_fog_15 (fun H locs hw => ?_)
    have hw : wd_ G A s.heap [ob_ A_t 10 [.ref A_t_steps, .ref A_t_wet, .int 0, .int c_t_walkers, .ref A_t_where, .ref A_t_home, .ref A_t_light, .ref A_t_carries, .ref A_t_sightPlace, .ref A_t_sightLight, .int c_t_sights, .ref A_t_pad, .int c_t_padMany, .ref A_t_act, .ref A_t_whose, .ref A_t_whom, .ref A_t_tens, .int c_t_acts, .int c_t_spent, .int c_t_walks, .ref A_t_had, .ref A_t_leaves, .int c_t_badAct, .int c_t_badWhy, .ref A_t_apart, .ref A_t_stop, .ref A_t_restOf, .ref A_t_group, .ref A_t_along, .ref A_t_kept, .ref A_t_isKept, .int c_t_keptAt, .int c_t_isWriting]] H locs := hw
    refine lv_iload_n hx hb dX10_fog_18 rfl (lv_at hl 0 rfl) ?_
    cases hf
    exact hret _ _ _ _ dX10_fog_19 hw
  · replace hf := it_f hc hf
    refine lv_iconst (v := 1) hx hb dX10_fog_10 (by decide) ?_
    refine lv_goto (tgt := 15) hx hb dX10_fog_11 (by decide) ?_
    refine g_put hC hw fpX10_93 0 rfl rfl rfl (Nat.le_of_ble_eq_true rfl) dX10_fog_15 (fun H locs hw => ?_)
    have hw : wd_ G A s.heap [ob_ A_t 10 [.ref A_t_steps, .ref A_t_wet, .int 1, .int c_t_walkers, .ref A_t_where, .ref A_t_home, .ref A_t_light, .ref A_t_carries, .ref A_t_sightPlace, .ref A_t_sightLight, .int c_t_sights, .ref A_t_pad, .int c_t_padMany, .ref A_t_act, .ref A_t_whose, .ref A_t_whom, .ref A_t_tens, .int c_t_acts, .int c_t_spent, .int c_t_walks, .ref A_t_had, .ref A_t_leaves, .int c_t_badAct, .int c_t_badWhy, .ref A_t_apart, .ref A_t_stop, .ref A_t_restOf, .ref A_t_group, .ref A_t_along, .ref A_t_kept, .ref A_t_isKept, .int c_t_keptAt, .int c_t_isWriting]] H locs := hw
    refine lv_iload_n hx hb dX10_fog_18 rfl (lv_at hl 0 rfl) ?_
    cases hf
    exact hret _ _ _ _ dX10_fog_19 hw
set_option maxHeartbeats 4000000 in
set_option maxRecDepth 100000 in
theorem cn_X10_fog (l : Launch) (G : gw_) (A_t : Nat) (A_t_steps : Nat) (A_t_wet : Nat) (A_t_where : Nat) (A_t_home : Nat) (A_t_light : Nat) (A_t_carries : Nat) (A_t_sightPlace : Nat) (A_t_sightLight : Nat) (A_t_pad : Nat) (A_t_act : Nat) (A_t_whose : Nat) (A_t_whom : Nat) (A_t_tens : Nat) (A_t_had : Nat) (A_t_leaves : Nat) (A_t_apart : Nat) (A_t_stop : Nat) (A_t_restOf : Nat) (A_t_group : Nat) (A_t_along : Nat) (A_t_kept : Nat) (A_t_isKept : Nat) (c_t_foggy : Int32) (c_t_walkers : Int32) (c_t_sights : Int32) (c_t_padMany : Int32) (c_t_acts : Int32) (c_t_spent : Int32) (c_t_walks : Int32) (c_t_badAct : Int32) (c_t_badWhy : Int32) (c_t_keptAt : Int32) (c_t_isWriting : Int32) (x1 : Int32) (r : Int32) (z_t_foggy : Int32) (hf : fn_X10_fog c_t_foggy x1 = some (r, z_t_foggy)) : ci_ l G yX10_fog cX10_fog 3 (some .int) 0 0 [ob_ A_t 10 [.ref A_t_steps, .ref A_t_wet, .int c_t_foggy, .int c_t_walkers, .ref A_t_where, .ref A_t_home, .ref A_t_light, .ref A_t_carries, .ref A_t_sightPlace, .ref A_t_sightLight, .int c_t_sights, .ref A_t_pad, .int c_t_padMany, .ref A_t_act, .ref A_t_whose, .ref A_t_whom, .ref A_t_tens, .int c_t_acts, .int c_t_spent, .int c_t_walks, .ref A_t_had, .ref A_t_leaves, .int c_t_badAct, .int c_t_badWhy, .ref A_t_apart, .ref A_t_stop, .ref A_t_restOf, .ref A_t_group, .ref A_t_along, .ref A_t_kept, .ref A_t_isKept, .int c_t_keptAt, .int c_t_isWriting]] [.ref A_t, .int x1] r [ob_ A_t 10 [.ref A_t_steps, .ref A_t_wet, .int z_t_foggy, .int c_t_walkers, .ref A_t_where, .ref A_t_home, .ref A_t_light, .ref A_t_carries, .ref A_t_sightPlace, .ref A_t_sightLight, .int c_t_sights, .ref A_t_pad, .int c_t_padMany, .ref A_t_act, .ref A_t_whose, .ref A_t_whom, .ref A_t_tens, .int c_t_acts, .int c_t_spent, .int c_t_walks, .ref A_t_had, .ref A_t_leaves, .int c_t_badAct, .int c_t_badWhy, .ref A_t_apart, .ref A_t_stop, .ref A_t_restOf, .ref A_t_group, .ref A_t_along, .ref A_t_kept, .ref A_t_isKept, .int c_t_keptAt, .int c_t_isWriting]] := fun sz => met_intro (by decide) (Nat.le_of_ble_eq_true rfl) (fun p e s m args below meth c ls hsz hC hr hlk hnm hl hw => wn_X10_fog hC (fun pc H locs ls hd hw => g_iret hC hr hlk hw rfl rfl hd) hf hl hw)

theorem dX10_say_0 : decode cX10_say 0 = .ok (.iload_n 1, 1) := by decide +kernel
theorem dX10_say_1 : decode cX10_say 1 = .ok (.i2l, 1) := by decide +kernel
theorem dX10_say_2 : decode cX10_say 2 = .ok (.ldc2_w 119, 3) := by decide +kernel
theorem dX10_say_5 : decode cX10_say 5 = .ok (.ldc2_w 121, 3) := by decide +kernel
theorem dX10_say_8 : decode cX10_say 8 = .ok (.invokestatic 79, 3) := by decide +kernel
theorem dX10_say_11 : decode cX10_say 11 = .ok (.ifCond .ne 6, 3) := by decide +kernel
theorem dX10_say_14 : decode cX10_say 14 = .ok (.bipush (-2), 2) := by decide +kernel
theorem dX10_say_16 : decode cX10_say 16 = .ok (.ireturn, 1) := by decide +kernel
theorem dX10_say_17 : decode cX10_say 17 = .ok (.aload_n 0, 1) := by decide +kernel
theorem dX10_say_18 : decode cX10_say 18 = .ok (.getfield 123, 3) := by decide +kernel
theorem dX10_say_21 : decode cX10_say 21 = .ok (.bipush 60, 2) := by decide +kernel
theorem dX10_say_23 : decode cX10_say 23 = .ok (.if_icmp .ne 6, 3) := by decide +kernel
theorem dX10_say_26 : decode cX10_say 26 = .ok (.bipush (-4), 2) := by decide +kernel
theorem dX10_say_28 : decode cX10_say 28 = .ok (.ireturn, 1) := by decide +kernel
theorem dX10_say_29 : decode cX10_say 29 = .ok (.aload_n 0, 1) := by decide +kernel
theorem dX10_say_30 : decode cX10_say 30 = .ok (.getfield 34, 3) := by decide +kernel
theorem dX10_say_33 : decode cX10_say 33 = .ok (.aload_n 0, 1) := by decide +kernel
theorem dX10_say_34 : decode cX10_say 34 = .ok (.getfield 123, 3) := by decide +kernel
theorem dX10_say_37 : decode cX10_say 37 = .ok (.iload_n 1, 1) := by decide +kernel
theorem dX10_say_38 : decode cX10_say 38 = .ok (.iastore, 1) := by decide +kernel
theorem dX10_say_39 : decode cX10_say 39 = .ok (.aload_n 0, 1) := by decide +kernel
theorem dX10_say_40 : decode cX10_say 40 = .ok (.dup, 1) := by decide +kernel
theorem dX10_say_41 : decode cX10_say 41 = .ok (.getfield 123, 3) := by decide +kernel
theorem dX10_say_44 : decode cX10_say 44 = .ok (.iconst 1, 1) := by decide +kernel
theorem dX10_say_45 : decode cX10_say 45 = .ok (.iadd, 1) := by decide +kernel
theorem dX10_say_46 : decode cX10_say 46 = .ok (.putfield 123, 3) := by decide +kernel
theorem dX10_say_49 : decode cX10_say 49 = .ok (.aload_n 0, 1) := by decide +kernel
theorem dX10_say_50 : decode cX10_say 50 = .ok (.getfield 123, 3) := by decide +kernel
theorem dX10_say_53 : decode cX10_say 53 = .ok (.ireturn, 1) := by decide +kernel
def fn_X10_say (c_t_padMany : Int32) (c_t_pad : Nat → Int32) (x1 : Int32) : Option (Int32 × Int32 × (Nat → Int32)) :=
  b1_ (fn_X10_in (Int32.toInt64 x1) 33 126) fun r1 =>
  if r1 = 0 then
    some ((-2), c_t_padMany, c_t_pad)
  else
    if c_t_padMany = 60 then
      some ((-4), c_t_padMany, c_t_pad)
    else
      ck_ c_t_padMany 60 <|
      lx_ (upd c_t_pad (Int32.toNatClampNeg c_t_padMany) x1) fun f3 =>
      some (c_t_padMany + 1, c_t_padMany + 1, f3)
set_option maxHeartbeats 4000000 in
set_option maxRecDepth 100000 in
theorem wn_X10_say {p : Program} {l : Launch} {e : Env} {s : State} {m : MethodId} {args : Array Value} {below : List Frame} {meth : Method} {c : Code} {G : gw_} {A : Nat → Prop} {Q : State → Prop} {A_t : Nat} {A_t_steps : Nat} {A_t_wet : Nat} {A_t_where : Nat} {A_t_home : Nat} {A_t_light : Nat} {A_t_carries : Nat} {A_t_sightPlace : Nat} {A_t_sightLight : Nat} {A_t_pad : Nat} {A_t_act : Nat} {A_t_whose : Nat} {A_t_whom : Nat} {A_t_tens : Nat} {A_t_had : Nat} {A_t_leaves : Nat} {A_t_apart : Nat} {A_t_stop : Nat} {A_t_restOf : Nat} {A_t_group : Nat} {A_t_along : Nat} {A_t_kept : Nat} {A_t_isKept : Nat} {c_t_foggy : Int32} {c_t_walkers : Int32} {c_t_sights : Int32} {c_t_padMany : Int32} {z_t_padMany : Int32} {c_t_acts : Int32} {c_t_spent : Int32} {c_t_walks : Int32} {c_t_badAct : Int32} {c_t_badWhy : Int32} {c_t_keptAt : Int32} {c_t_isWriting : Int32} {c_t_pad : Nat → Int32} {z_t_pad : Nat → Int32} {r : Int32} {x1 : Int32} (hC : cx_ p s m c G cX10_say 2 RX10) (hret : ∀ (pc : Nat) (H : Heap) (locs : List Loc) (ls : Array Slot), decode cX10_say pc = .ok (.ireturn, 1) → wd_ G A s.heap [ob_ A_t 10 [.ref A_t_steps, .ref A_t_wet, .int c_t_foggy, .int c_t_walkers, .ref A_t_where, .ref A_t_home, .ref A_t_light, .ref A_t_carries, .ref A_t_sightPlace, .ref A_t_sightLight, .int c_t_sights, .ref A_t_pad, .int z_t_padMany, .ref A_t_act, .ref A_t_whose, .ref A_t_whom, .ref A_t_tens, .int c_t_acts, .int c_t_spent, .int c_t_walks, .ref A_t_had, .ref A_t_leaves, .int c_t_badAct, .int c_t_badWhy, .ref A_t_apart, .ref A_t_stop, .ref A_t_restOf, .ref A_t_group, .ref A_t_along, .ref A_t_kept, .ref A_t_isKept, .int c_t_keptAt, .int c_t_isWriting], ia_ G A_t_pad 60 z_t_pad] H locs → W p l e { frames := 1, cells := 0, slots := 0, locals := 25 } s m args below meth c H locs 0 0 Q (F0 m pc ls [.int r])) (hf : fn_X10_say c_t_padMany c_t_pad x1 = some (r, z_t_padMany, z_t_pad)) {H : Heap} {locs : List Loc} {ls : Array Slot} (hl : lv_has ls 2 [(0, .ref A_t), (1, .int x1)]) (hw : wd_ G A s.heap [ob_ A_t 10 [.ref A_t_steps, .ref A_t_wet, .int c_t_foggy, .int c_t_walkers, .ref A_t_where, .ref A_t_home, .ref A_t_light, .ref A_t_carries, .ref A_t_sightPlace, .ref A_t_sightLight, .int c_t_sights, .ref A_t_pad, .int c_t_padMany, .ref A_t_act, .ref A_t_whose, .ref A_t_whom, .ref A_t_tens, .int c_t_acts, .int c_t_spent, .int c_t_walks, .ref A_t_had, .ref A_t_leaves, .int c_t_badAct, .int c_t_badWhy, .ref A_t_apart, .ref A_t_stop, .ref A_t_restOf, .ref A_t_group, .ref A_t_along, .ref A_t_kept, .ref A_t_isKept, .int c_t_keptAt, .int c_t_isWriting], ia_ G A_t_pad 60 c_t_pad] H locs) : W p l e { frames := 1, cells := 0, slots := 0, locals := 25 } s m args below meth c H locs 0 0 Q (F0 m 0 ls []) := by
  have hx := hC.1
  have hb := hC.2.1
  unfold fn_X10_say at hf
  refine lv_iload_n hx hb dX10_say_0 rfl (lv_at hl 1 rfl) ?_
  refine lv_i2l hx hb dX10_say_1 rfl ?_
  refine g_ldc2 (v := 33) hC (tb4 147 rfl rfl) dX10_say_2 ?_
  refine g_ldc2 (v := 126) hC (tb4 148 rfl rfl) dX10_say_5 ?_
  obtain ⟨r1, hq2, hf⟩ := b1_s hf
  refine g_cSi hC hw msX10_79 (cn_X10_in l G (Int32.toInt64 x1) 33 126 r1 hq2) [] rfl (by decide) rfl rfl hl.1 rfl (Nat.le_of_ble_eq_true rfl) ⟨Nat.le_of_ble_eq_true rfl, Nat.le_of_ble_eq_true rfl⟩ ⟨Nat.le_refl _, Nat.le_refl _⟩ dX10_say_8 (fun H locs hw => ?_)
  have hw : wd_ G A s.heap [ob_ A_t 10 [.ref A_t_steps, .ref A_t_wet, .int c_t_foggy, .int c_t_walkers, .ref A_t_where, .ref A_t_home, .ref A_t_light, .ref A_t_carries, .ref A_t_sightPlace, .ref A_t_sightLight, .int c_t_sights, .ref A_t_pad, .int c_t_padMany, .ref A_t_act, .ref A_t_whose, .ref A_t_whom, .ref A_t_tens, .int c_t_acts, .int c_t_spent, .int c_t_walks, .ref A_t_had, .ref A_t_leaves, .int c_t_badAct, .int c_t_badWhy, .ref A_t_apart, .ref A_t_stop, .ref A_t_restOf, .ref A_t_group, .ref A_t_along, .ref A_t_kept, .ref A_t_isKept, .int c_t_keptAt, .int c_t_isWriting], ia_ G A_t_pad 60 c_t_pad] H locs := hw
  refine lv_if_ne (tgt := 17) hx hb dX10_say_11 (by decide) (fun hc => ?_) (fun hc => ?_)
  · replace hf := it_f hc hf
    refine lv_aload_n hx hb dX10_say_17 rfl (lv_at hl 0 rfl) ?_
    refine g_get hC hw fkX10_123 0 rfl rfl dX10_say_18 ?_
    refine lv_bipush (v := 60) hx hb dX10_say_21 (by decide) ?_
    refine lv_icmp_ne (tgt := 29) hx hb dX10_say_23 (by decide) (fun hc => ?_) (fun hc => ?_)
    · replace hf := it_f hc hf
      refine lv_aload_n hx hb dX10_say_29 rfl (lv_at hl 0 rfl) ?_
      refine g_get hC hw fkX10_34 0 rfl rfl dX10_say_30 ?_
      refine lv_aload_n hx hb dX10_say_33 rfl (lv_at hl 0 rfl) ?_
      refine g_get hC hw fkX10_123 0 rfl rfl dX10_say_34 ?_
      refine lv_iload_n hx hb dX10_say_37 rfl (lv_at hl 1 rfl) ?_
      obtain ⟨hi, hf⟩ := ck_s hf
      obtain ⟨f3, ef3, hf⟩ := lx_s hf
      refine g_iast hC hw 1 rfl hi ef3 dX10_say_38 (fun H locs hw => ?_)
      have hw : wd_ G A s.heap [ob_ A_t 10 [.ref A_t_steps, .ref A_t_wet, .int c_t_foggy, .int c_t_walkers, .ref A_t_where, .ref A_t_home, .ref A_t_light, .ref A_t_carries, .ref A_t_sightPlace, .ref A_t_sightLight, .int c_t_sights, .ref A_t_pad, .int c_t_padMany, .ref A_t_act, .ref A_t_whose, .ref A_t_whom, .ref A_t_tens, .int c_t_acts, .int c_t_spent, .int c_t_walks, .ref A_t_had, .ref A_t_leaves, .int c_t_badAct, .int c_t_badWhy, .ref A_t_apart, .ref A_t_stop, .ref A_t_restOf, .ref A_t_group, .ref A_t_along, .ref A_t_kept, .ref A_t_isKept, .int c_t_keptAt, .int c_t_isWriting], ia_ G A_t_pad 60 f3] H locs := hw
      refine lv_aload_n hx hb dX10_say_39 rfl (lv_at hl 0 rfl) ?_
      refine lv_dup hx hb dX10_say_40 rfl ?_
      refine g_get hC hw fkX10_123 0 rfl rfl dX10_say_41 ?_
      refine lv_iconst (v := 1) hx hb dX10_say_44 (by decide) ?_
      refine lv_iadd hx hb dX10_say_45 ?_
      refine g_put hC hw fpX10_123 0 rfl rfl rfl (Nat.le_of_ble_eq_true rfl) dX10_say_46 (fun H locs hw => ?_)
      have hw : wd_ G A s.heap [ob_ A_t 10 [.ref A_t_steps, .ref A_t_wet, .int c_t_foggy, .int c_t_walkers, .ref A_t_where, .ref A_t_home, .ref A_t_light, .ref A_t_carries, .ref A_t_sightPlace, .ref A_t_sightLight, .int c_t_sights, .ref A_t_pad, .int (c_t_padMany + 1), .ref A_t_act, .ref A_t_whose, .ref A_t_whom, .ref A_t_tens, .int c_t_acts, .int c_t_spent, .int c_t_walks, .ref A_t_had, .ref A_t_leaves, .int c_t_badAct, .int c_t_badWhy, .ref A_t_apart, .ref A_t_stop, .ref A_t_restOf, .ref A_t_group, .ref A_t_along, .ref A_t_kept, .ref A_t_isKept, .int c_t_keptAt, .int c_t_isWriting], ia_ G A_t_pad 60 f3] H locs := hw
      refine lv_aload_n hx hb dX10_say_49 rfl (lv_at hl 0 rfl) ?_
      refine g_get hC hw fkX10_123 0 rfl rfl dX10_say_50 ?_
      cases hf
      exact hret _ _ _ _ dX10_say_53 hw
    · replace hf := it_t hc hf
      refine lv_bipush (v := (-4)) hx hb dX10_say_26 (by decide) ?_
      cases hf
      exact hret _ _ _ _ dX10_say_28 hw
  · replace hf := it_t hc hf
    refine lv_bipush (v := (-2)) hx hb dX10_say_14 (by decide) ?_
    cases hf
    exact hret _ _ _ _ dX10_say_16 hw
set_option maxHeartbeats 4000000 in
set_option maxRecDepth 100000 in
theorem cn_X10_say (l : Launch) (G : gw_) (A_t : Nat) (A_t_steps : Nat) (A_t_wet : Nat) (A_t_where : Nat) (A_t_home : Nat) (A_t_light : Nat) (A_t_carries : Nat) (A_t_sightPlace : Nat) (A_t_sightLight : Nat) (A_t_pad : Nat) (A_t_act : Nat) (A_t_whose : Nat) (A_t_whom : Nat) (A_t_tens : Nat) (A_t_had : Nat) (A_t_leaves : Nat) (A_t_apart : Nat) (A_t_stop : Nat) (A_t_restOf : Nat) (A_t_group : Nat) (A_t_along : Nat) (A_t_kept : Nat) (A_t_isKept : Nat) (c_t_foggy : Int32) (c_t_walkers : Int32) (c_t_sights : Int32) (c_t_padMany : Int32) (c_t_acts : Int32) (c_t_spent : Int32) (c_t_walks : Int32) (c_t_badAct : Int32) (c_t_badWhy : Int32) (c_t_keptAt : Int32) (c_t_isWriting : Int32) (c_t_pad : Nat → Int32) (x1 : Int32) (r : Int32) (z_t_padMany : Int32) (z_t_pad : Nat → Int32) (hf : fn_X10_say c_t_padMany c_t_pad x1 = some (r, z_t_padMany, z_t_pad)) : ci_ l G yX10_say cX10_say 2 (some .int) 1 25 [ob_ A_t 10 [.ref A_t_steps, .ref A_t_wet, .int c_t_foggy, .int c_t_walkers, .ref A_t_where, .ref A_t_home, .ref A_t_light, .ref A_t_carries, .ref A_t_sightPlace, .ref A_t_sightLight, .int c_t_sights, .ref A_t_pad, .int c_t_padMany, .ref A_t_act, .ref A_t_whose, .ref A_t_whom, .ref A_t_tens, .int c_t_acts, .int c_t_spent, .int c_t_walks, .ref A_t_had, .ref A_t_leaves, .int c_t_badAct, .int c_t_badWhy, .ref A_t_apart, .ref A_t_stop, .ref A_t_restOf, .ref A_t_group, .ref A_t_along, .ref A_t_kept, .ref A_t_isKept, .int c_t_keptAt, .int c_t_isWriting], ia_ G A_t_pad 60 c_t_pad] [.ref A_t, .int x1] r [ob_ A_t 10 [.ref A_t_steps, .ref A_t_wet, .int c_t_foggy, .int c_t_walkers, .ref A_t_where, .ref A_t_home, .ref A_t_light, .ref A_t_carries, .ref A_t_sightPlace, .ref A_t_sightLight, .int c_t_sights, .ref A_t_pad, .int z_t_padMany, .ref A_t_act, .ref A_t_whose, .ref A_t_whom, .ref A_t_tens, .int c_t_acts, .int c_t_spent, .int c_t_walks, .ref A_t_had, .ref A_t_leaves, .int c_t_badAct, .int c_t_badWhy, .ref A_t_apart, .ref A_t_stop, .ref A_t_restOf, .ref A_t_group, .ref A_t_along, .ref A_t_kept, .ref A_t_isKept, .int c_t_keptAt, .int c_t_isWriting], ia_ G A_t_pad 60 z_t_pad] := fun sz => met_intro (by decide) (Nat.le_of_ble_eq_true rfl) (fun p e s m args below meth c ls hsz hC hr hlk hnm hl hw => wn_X10_say hC (fun pc H locs ls hd hw => g_iret hC hr hlk hw rfl rfl hd) hf hl hw)

theorem dX10_wipe_0 : decode cX10_wipe 0 = .ok (.aload_n 0, 1) := by decide +kernel
theorem dX10_wipe_1 : decode cX10_wipe 1 = .ok (.getfield 123, 3) := by decide +kernel
theorem dX10_wipe_4 : decode cX10_wipe 4 = .ok (.istore_n 1, 1) := by decide +kernel
theorem dX10_wipe_5 : decode cX10_wipe 5 = .ok (.aload_n 0, 1) := by decide +kernel
theorem dX10_wipe_6 : decode cX10_wipe 6 = .ok (.iconst 0, 1) := by decide +kernel
theorem dX10_wipe_7 : decode cX10_wipe 7 = .ok (.putfield 123, 3) := by decide +kernel
theorem dX10_wipe_10 : decode cX10_wipe 10 = .ok (.iload_n 1, 1) := by decide +kernel
theorem dX10_wipe_11 : decode cX10_wipe 11 = .ok (.ireturn, 1) := by decide +kernel
def fn_X10_wipe (c_t_padMany : Int32) : Option (Int32 × Int32) :=
  some (c_t_padMany, 0)
set_option maxHeartbeats 4000000 in
set_option maxRecDepth 100000 in
theorem wn_X10_wipe {p : Program} {l : Launch} {e : Env} {s : State} {m : MethodId} {args : Array Value} {below : List Frame} {meth : Method} {c : Code} {G : gw_} {A : Nat → Prop} {Q : State → Prop} {A_t : Nat} {A_t_steps : Nat} {A_t_wet : Nat} {A_t_where : Nat} {A_t_home : Nat} {A_t_light : Nat} {A_t_carries : Nat} {A_t_sightPlace : Nat} {A_t_sightLight : Nat} {A_t_pad : Nat} {A_t_act : Nat} {A_t_whose : Nat} {A_t_whom : Nat} {A_t_tens : Nat} {A_t_had : Nat} {A_t_leaves : Nat} {A_t_apart : Nat} {A_t_stop : Nat} {A_t_restOf : Nat} {A_t_group : Nat} {A_t_along : Nat} {A_t_kept : Nat} {A_t_isKept : Nat} {c_t_foggy : Int32} {c_t_walkers : Int32} {c_t_sights : Int32} {c_t_padMany : Int32} {z_t_padMany : Int32} {c_t_acts : Int32} {c_t_spent : Int32} {c_t_walks : Int32} {c_t_badAct : Int32} {c_t_badWhy : Int32} {c_t_keptAt : Int32} {c_t_isWriting : Int32} {r : Int32} (hC : cx_ p s m c G cX10_wipe 2 RX10) (hret : ∀ (pc : Nat) (H : Heap) (locs : List Loc) (ls : Array Slot), decode cX10_wipe pc = .ok (.ireturn, 1) → wd_ G A s.heap [ob_ A_t 10 [.ref A_t_steps, .ref A_t_wet, .int c_t_foggy, .int c_t_walkers, .ref A_t_where, .ref A_t_home, .ref A_t_light, .ref A_t_carries, .ref A_t_sightPlace, .ref A_t_sightLight, .int c_t_sights, .ref A_t_pad, .int z_t_padMany, .ref A_t_act, .ref A_t_whose, .ref A_t_whom, .ref A_t_tens, .int c_t_acts, .int c_t_spent, .int c_t_walks, .ref A_t_had, .ref A_t_leaves, .int c_t_badAct, .int c_t_badWhy, .ref A_t_apart, .ref A_t_stop, .ref A_t_restOf, .ref A_t_group, .ref A_t_along, .ref A_t_kept, .ref A_t_isKept, .int c_t_keptAt, .int c_t_isWriting]] H locs → W p l e { frames := 0, cells := 0, slots := 0, locals := 0 } s m args below meth c H locs 0 0 Q (F0 m pc ls [.int r])) (hf : fn_X10_wipe c_t_padMany = some (r, z_t_padMany)) {H : Heap} {locs : List Loc} {ls : Array Slot} (hl : lv_has ls 2 [(0, .ref A_t)]) (hw : wd_ G A s.heap [ob_ A_t 10 [.ref A_t_steps, .ref A_t_wet, .int c_t_foggy, .int c_t_walkers, .ref A_t_where, .ref A_t_home, .ref A_t_light, .ref A_t_carries, .ref A_t_sightPlace, .ref A_t_sightLight, .int c_t_sights, .ref A_t_pad, .int c_t_padMany, .ref A_t_act, .ref A_t_whose, .ref A_t_whom, .ref A_t_tens, .int c_t_acts, .int c_t_spent, .int c_t_walks, .ref A_t_had, .ref A_t_leaves, .int c_t_badAct, .int c_t_badWhy, .ref A_t_apart, .ref A_t_stop, .ref A_t_restOf, .ref A_t_group, .ref A_t_along, .ref A_t_kept, .ref A_t_isKept, .int c_t_keptAt, .int c_t_isWriting]] H locs) : W p l e { frames := 0, cells := 0, slots := 0, locals := 0 } s m args below meth c H locs 0 0 Q (F0 m 0 ls []) := by
  have hx := hC.1
  have hb := hC.2.1
  unfold fn_X10_wipe at hf
  refine lv_aload_n hx hb dX10_wipe_0 rfl (lv_at hl 0 rfl) ?_
  refine g_get hC hw fkX10_123 0 rfl rfl dX10_wipe_1 ?_
  refine lv_istore_n (lv' := [(1, .int c_t_padMany), (0, .ref A_t)]) hx hb dX10_wipe_4 rfl hl (by decide) rfl (fun ls hl => ?_)
  refine lv_aload_n hx hb dX10_wipe_5 rfl (lv_at hl 1 rfl) ?_
  refine lv_iconst (v := 0) hx hb dX10_wipe_6 (by decide) ?_
  refine g_put hC hw fpX10_123 0 rfl rfl rfl (Nat.le_of_ble_eq_true rfl) dX10_wipe_7 (fun H locs hw => ?_)
  have hw : wd_ G A s.heap [ob_ A_t 10 [.ref A_t_steps, .ref A_t_wet, .int c_t_foggy, .int c_t_walkers, .ref A_t_where, .ref A_t_home, .ref A_t_light, .ref A_t_carries, .ref A_t_sightPlace, .ref A_t_sightLight, .int c_t_sights, .ref A_t_pad, .int 0, .ref A_t_act, .ref A_t_whose, .ref A_t_whom, .ref A_t_tens, .int c_t_acts, .int c_t_spent, .int c_t_walks, .ref A_t_had, .ref A_t_leaves, .int c_t_badAct, .int c_t_badWhy, .ref A_t_apart, .ref A_t_stop, .ref A_t_restOf, .ref A_t_group, .ref A_t_along, .ref A_t_kept, .ref A_t_isKept, .int c_t_keptAt, .int c_t_isWriting]] H locs := hw
  refine lv_iload_n hx hb dX10_wipe_10 rfl (lv_at hl 0 rfl) ?_
  cases hf
  exact hret _ _ _ _ dX10_wipe_11 hw
set_option maxHeartbeats 4000000 in
set_option maxRecDepth 100000 in
theorem cn_X10_wipe (l : Launch) (G : gw_) (A_t : Nat) (A_t_steps : Nat) (A_t_wet : Nat) (A_t_where : Nat) (A_t_home : Nat) (A_t_light : Nat) (A_t_carries : Nat) (A_t_sightPlace : Nat) (A_t_sightLight : Nat) (A_t_pad : Nat) (A_t_act : Nat) (A_t_whose : Nat) (A_t_whom : Nat) (A_t_tens : Nat) (A_t_had : Nat) (A_t_leaves : Nat) (A_t_apart : Nat) (A_t_stop : Nat) (A_t_restOf : Nat) (A_t_group : Nat) (A_t_along : Nat) (A_t_kept : Nat) (A_t_isKept : Nat) (c_t_foggy : Int32) (c_t_walkers : Int32) (c_t_sights : Int32) (c_t_padMany : Int32) (c_t_acts : Int32) (c_t_spent : Int32) (c_t_walks : Int32) (c_t_badAct : Int32) (c_t_badWhy : Int32) (c_t_keptAt : Int32) (c_t_isWriting : Int32) (r : Int32) (z_t_padMany : Int32) (hf : fn_X10_wipe c_t_padMany = some (r, z_t_padMany)) : ci_ l G yX10_wipe cX10_wipe 2 (some .int) 0 0 [ob_ A_t 10 [.ref A_t_steps, .ref A_t_wet, .int c_t_foggy, .int c_t_walkers, .ref A_t_where, .ref A_t_home, .ref A_t_light, .ref A_t_carries, .ref A_t_sightPlace, .ref A_t_sightLight, .int c_t_sights, .ref A_t_pad, .int c_t_padMany, .ref A_t_act, .ref A_t_whose, .ref A_t_whom, .ref A_t_tens, .int c_t_acts, .int c_t_spent, .int c_t_walks, .ref A_t_had, .ref A_t_leaves, .int c_t_badAct, .int c_t_badWhy, .ref A_t_apart, .ref A_t_stop, .ref A_t_restOf, .ref A_t_group, .ref A_t_along, .ref A_t_kept, .ref A_t_isKept, .int c_t_keptAt, .int c_t_isWriting]] [.ref A_t] r [ob_ A_t 10 [.ref A_t_steps, .ref A_t_wet, .int c_t_foggy, .int c_t_walkers, .ref A_t_where, .ref A_t_home, .ref A_t_light, .ref A_t_carries, .ref A_t_sightPlace, .ref A_t_sightLight, .int c_t_sights, .ref A_t_pad, .int z_t_padMany, .ref A_t_act, .ref A_t_whose, .ref A_t_whom, .ref A_t_tens, .int c_t_acts, .int c_t_spent, .int c_t_walks, .ref A_t_had, .ref A_t_leaves, .int c_t_badAct, .int c_t_badWhy, .ref A_t_apart, .ref A_t_stop, .ref A_t_restOf, .ref A_t_group, .ref A_t_along, .ref A_t_kept, .ref A_t_isKept, .int c_t_keptAt, .int c_t_isWriting]] := fun sz => met_intro (by decide) (Nat.le_of_ble_eq_true rfl) (fun p e s m args below meth c ls hsz hC hr hlk hnm hl hw => wn_X10_wipe hC (fun pc H locs ls hd hw => g_iret hC hr hlk hw rfl rfl hd) hf hl hw)

theorem dX10_isLetter_0 : decode cX10_isLetter 0 = .ok (.iload_n 0, 1) := by decide +kernel
theorem dX10_isLetter_1 : decode cX10_isLetter 1 = .ok (.i2l, 1) := by decide +kernel
theorem dX10_isLetter_2 : decode cX10_isLetter 2 = .ok (.ldc2_w 126, 3) := by decide +kernel
theorem dX10_isLetter_5 : decode cX10_isLetter 5 = .ok (.ldc2_w 128, 3) := by decide +kernel
theorem dX10_isLetter_8 : decode cX10_isLetter 8 = .ok (.invokestatic 79, 3) := by decide +kernel
theorem dX10_isLetter_11 : decode cX10_isLetter 11 = .ok (.ireturn, 1) := by decide +kernel
def fn_X10_isLetter (x0 : Int32) : Option (Int32) :=
  b1_ (fn_X10_in (Int32.toInt64 x0) 65 70) fun r1 =>
  bz_ r1 <|
  some r1
set_option maxHeartbeats 4000000 in
set_option maxRecDepth 100000 in
theorem wn_X10_isLetter {p : Program} {l : Launch} {e : Env} {s : State} {m : MethodId} {args : Array Value} {below : List Frame} {meth : Method} {c : Code} {G : gw_} {A : Nat → Prop} {Q : State → Prop} {r : Int32} {x0 : Int32} (hC : cx_ p s m c G cX10_isLetter 1 RX10) (hret : ∀ (pc : Nat) (H : Heap) (locs : List Loc) (ls : Array Slot), narrow .boolean (.int r) = .int r → decode cX10_isLetter pc = .ok (.ireturn, 1) → wd_ G A s.heap [] H locs → W p l e { frames := 1, cells := 0, slots := 0, locals := 25 } s m args below meth c H locs 0 0 Q (F0 m pc ls [.int r])) (hf : fn_X10_isLetter x0 = some r) {H : Heap} {locs : List Loc} {ls : Array Slot} (hl : lv_has ls 1 [(0, .int x0)]) (hw : wd_ G A s.heap [] H locs) : W p l e { frames := 1, cells := 0, slots := 0, locals := 25 } s m args below meth c H locs 0 0 Q (F0 m 0 ls []) := by
  have hx := hC.1
  have hb := hC.2.1
  unfold fn_X10_isLetter at hf
  refine lv_iload_n hx hb dX10_isLetter_0 rfl (lv_at hl 0 rfl) ?_
  refine lv_i2l hx hb dX10_isLetter_1 rfl ?_
  refine g_ldc2 (v := 65) hC (tb4 168 rfl rfl) dX10_isLetter_2 ?_
  refine g_ldc2 (v := 70) hC (tb4 169 rfl rfl) dX10_isLetter_5 ?_
  obtain ⟨r1, hq2, hf⟩ := b1_s hf
  refine g_cSi hC hw msX10_79 (cn_X10_in l G (Int32.toInt64 x0) 65 70 r1 hq2) [] rfl (by decide) rfl rfl hl.1 rfl (Nat.le_of_ble_eq_true rfl) ⟨Nat.le_of_ble_eq_true rfl, Nat.le_of_ble_eq_true rfl⟩ ⟨Nat.le_refl _, Nat.le_refl _⟩ dX10_isLetter_8 (fun H locs hw => ?_)
  have hw : wd_ G A s.heap [] H locs := hw
  obtain ⟨hz0, hf⟩ := bz_s hf
  cases hf
  exact hret _ _ _ _ hz0.1 dX10_isLetter_11 hw
set_option maxHeartbeats 4000000 in
set_option maxRecDepth 100000 in
theorem cn_X10_isLetter (l : Launch) (G : gw_) (x0 : Int32) (r : Int32) (hf : fn_X10_isLetter x0 = some r) : ci_ l G yX10_isLetter cX10_isLetter 1 (some .boolean) 1 25 [] [.int x0] r [] := fun sz => met_intro (by decide) (Nat.le_of_ble_eq_true rfl) (fun p e s m args below meth c ls hsz hC hr hlk hnm hl hw => wn_X10_isLetter hC (fun pc H locs ls hn hd hw => g_iret hC hr hlk hw rfl hn hd) hf hl hw)

theorem dX10_close_0 : decode cX10_close 0 = .ok (.aload_n 0, 1) := by decide +kernel
theorem dX10_close_1 : decode cX10_close 1 = .ok (.getfield 37, 3) := by decide +kernel
theorem dX10_close_4 : decode cX10_close 4 = .ok (.aload_n 0, 1) := by decide +kernel
theorem dX10_close_5 : decode cX10_close 5 = .ok (.getfield 130, 3) := by decide +kernel
theorem dX10_close_8 : decode cX10_close 8 = .ok (.iload_n 1, 1) := by decide +kernel
theorem dX10_close_9 : decode cX10_close 9 = .ok (.iastore, 1) := by decide +kernel
theorem dX10_close_10 : decode cX10_close 10 = .ok (.aload_n 0, 1) := by decide +kernel
theorem dX10_close_11 : decode cX10_close 11 = .ok (.getfield 43, 3) := by decide +kernel
theorem dX10_close_14 : decode cX10_close 14 = .ok (.aload_n 0, 1) := by decide +kernel
theorem dX10_close_15 : decode cX10_close 15 = .ok (.getfield 130, 3) := by decide +kernel
theorem dX10_close_18 : decode cX10_close 18 = .ok (.iload_n 2, 1) := by decide +kernel
theorem dX10_close_19 : decode cX10_close 19 = .ok (.iastore, 1) := by decide +kernel
theorem dX10_close_20 : decode cX10_close 20 = .ok (.aload_n 0, 1) := by decide +kernel
theorem dX10_close_21 : decode cX10_close 21 = .ok (.dup, 1) := by decide +kernel
theorem dX10_close_22 : decode cX10_close 22 = .ok (.getfield 130, 3) := by decide +kernel
theorem dX10_close_25 : decode cX10_close 25 = .ok (.iconst 1, 1) := by decide +kernel
theorem dX10_close_26 : decode cX10_close 26 = .ok (.iadd, 1) := by decide +kernel
theorem dX10_close_27 : decode cX10_close 27 = .ok (.putfield 130, 3) := by decide +kernel
theorem dX10_close_30 : decode cX10_close 30 = .ok (.iconst 0, 1) := by decide +kernel
theorem dX10_close_31 : decode cX10_close 31 = .ok (.ireturn, 1) := by decide +kernel
def fn_X10_close (c_t_acts : Int32) (c_t_act : Nat → Int32) (c_t_whom : Nat → Int32) (x1 : Int32) (x2 : Int32) : Option (Int32 × Int32 × (Nat → Int32) × (Nat → Int32)) :=
  ck_ c_t_acts 60 <|
  lx_ (upd c_t_act (Int32.toNatClampNeg c_t_acts) x1) fun f1 =>
  ck_ c_t_acts 60 <|
  lx_ (upd c_t_whom (Int32.toNatClampNeg c_t_acts) x2) fun f2 =>
  some (0, c_t_acts + 1, f1, f2)
set_option maxHeartbeats 4000000 in
set_option maxRecDepth 100000 in
theorem wn_X10_close {p : Program} {l : Launch} {e : Env} {s : State} {m : MethodId} {args : Array Value} {below : List Frame} {meth : Method} {c : Code} {G : gw_} {A : Nat → Prop} {Q : State → Prop} {A_t : Nat} {A_t_steps : Nat} {A_t_wet : Nat} {A_t_where : Nat} {A_t_home : Nat} {A_t_light : Nat} {A_t_carries : Nat} {A_t_sightPlace : Nat} {A_t_sightLight : Nat} {A_t_pad : Nat} {A_t_act : Nat} {A_t_whose : Nat} {A_t_whom : Nat} {A_t_tens : Nat} {A_t_had : Nat} {A_t_leaves : Nat} {A_t_apart : Nat} {A_t_stop : Nat} {A_t_restOf : Nat} {A_t_group : Nat} {A_t_along : Nat} {A_t_kept : Nat} {A_t_isKept : Nat} {c_t_foggy : Int32} {c_t_walkers : Int32} {c_t_sights : Int32} {c_t_padMany : Int32} {c_t_acts : Int32} {z_t_acts : Int32} {c_t_spent : Int32} {c_t_walks : Int32} {c_t_badAct : Int32} {c_t_badWhy : Int32} {c_t_keptAt : Int32} {c_t_isWriting : Int32} {c_t_act : Nat → Int32} {z_t_act : Nat → Int32} {c_t_whom : Nat → Int32} {z_t_whom : Nat → Int32} {r : Int32} {x1 : Int32} {x2 : Int32} (hC : cx_ p s m c G cX10_close 3 RX10) (hret : ∀ (pc : Nat) (H : Heap) (locs : List Loc) (ls : Array Slot), decode cX10_close pc = .ok (.ireturn, 1) → wd_ G A s.heap [ob_ A_t 10 [.ref A_t_steps, .ref A_t_wet, .int c_t_foggy, .int c_t_walkers, .ref A_t_where, .ref A_t_home, .ref A_t_light, .ref A_t_carries, .ref A_t_sightPlace, .ref A_t_sightLight, .int c_t_sights, .ref A_t_pad, .int c_t_padMany, .ref A_t_act, .ref A_t_whose, .ref A_t_whom, .ref A_t_tens, .int z_t_acts, .int c_t_spent, .int c_t_walks, .ref A_t_had, .ref A_t_leaves, .int c_t_badAct, .int c_t_badWhy, .ref A_t_apart, .ref A_t_stop, .ref A_t_restOf, .ref A_t_group, .ref A_t_along, .ref A_t_kept, .ref A_t_isKept, .int c_t_keptAt, .int c_t_isWriting], ia_ G A_t_act 60 z_t_act, ia_ G A_t_whom 60 z_t_whom] H locs → W p l e { frames := 0, cells := 0, slots := 0, locals := 0 } s m args below meth c H locs 0 0 Q (F0 m pc ls [.int r])) (hf : fn_X10_close c_t_acts c_t_act c_t_whom x1 x2 = some (r, z_t_acts, z_t_act, z_t_whom)) {H : Heap} {locs : List Loc} {ls : Array Slot} (hl : lv_has ls 3 [(0, .ref A_t), (1, .int x1), (2, .int x2)]) (hw : wd_ G A s.heap [ob_ A_t 10 [.ref A_t_steps, .ref A_t_wet, .int c_t_foggy, .int c_t_walkers, .ref A_t_where, .ref A_t_home, .ref A_t_light, .ref A_t_carries, .ref A_t_sightPlace, .ref A_t_sightLight, .int c_t_sights, .ref A_t_pad, .int c_t_padMany, .ref A_t_act, .ref A_t_whose, .ref A_t_whom, .ref A_t_tens, .int c_t_acts, .int c_t_spent, .int c_t_walks, .ref A_t_had, .ref A_t_leaves, .int c_t_badAct, .int c_t_badWhy, .ref A_t_apart, .ref A_t_stop, .ref A_t_restOf, .ref A_t_group, .ref A_t_along, .ref A_t_kept, .ref A_t_isKept, .int c_t_keptAt, .int c_t_isWriting], ia_ G A_t_act 60 c_t_act, ia_ G A_t_whom 60 c_t_whom] H locs) : W p l e { frames := 0, cells := 0, slots := 0, locals := 0 } s m args below meth c H locs 0 0 Q (F0 m 0 ls []) := by
  have hx := hC.1
  have hb := hC.2.1
  unfold fn_X10_close at hf
  refine lv_aload_n hx hb dX10_close_0 rfl (lv_at hl 0 rfl) ?_
  refine g_get hC hw fkX10_37 0 rfl rfl dX10_close_1 ?_
  refine lv_aload_n hx hb dX10_close_4 rfl (lv_at hl 0 rfl) ?_
  refine g_get hC hw fkX10_130 0 rfl rfl dX10_close_5 ?_
  refine lv_iload_n hx hb dX10_close_8 rfl (lv_at hl 1 rfl) ?_
  obtain ⟨hi, hf⟩ := ck_s hf
  obtain ⟨f1, ef1, hf⟩ := lx_s hf
  refine g_iast hC hw 1 rfl hi ef1 dX10_close_9 (fun H locs hw => ?_)
  have hw : wd_ G A s.heap [ob_ A_t 10 [.ref A_t_steps, .ref A_t_wet, .int c_t_foggy, .int c_t_walkers, .ref A_t_where, .ref A_t_home, .ref A_t_light, .ref A_t_carries, .ref A_t_sightPlace, .ref A_t_sightLight, .int c_t_sights, .ref A_t_pad, .int c_t_padMany, .ref A_t_act, .ref A_t_whose, .ref A_t_whom, .ref A_t_tens, .int c_t_acts, .int c_t_spent, .int c_t_walks, .ref A_t_had, .ref A_t_leaves, .int c_t_badAct, .int c_t_badWhy, .ref A_t_apart, .ref A_t_stop, .ref A_t_restOf, .ref A_t_group, .ref A_t_along, .ref A_t_kept, .ref A_t_isKept, .int c_t_keptAt, .int c_t_isWriting], ia_ G A_t_act 60 f1, ia_ G A_t_whom 60 c_t_whom] H locs := hw
  refine lv_aload_n hx hb dX10_close_10 rfl (lv_at hl 0 rfl) ?_
  refine g_get hC hw fkX10_43 0 rfl rfl dX10_close_11 ?_
  refine lv_aload_n hx hb dX10_close_14 rfl (lv_at hl 0 rfl) ?_
  refine g_get hC hw fkX10_130 0 rfl rfl dX10_close_15 ?_
  refine lv_iload_n hx hb dX10_close_18 rfl (lv_at hl 2 rfl) ?_
  obtain ⟨hi, hf⟩ := ck_s hf
  obtain ⟨f2, ef2, hf⟩ := lx_s hf
  refine g_iast hC hw 2 rfl hi ef2 dX10_close_19 (fun H locs hw => ?_)
  have hw : wd_ G A s.heap [ob_ A_t 10 [.ref A_t_steps, .ref A_t_wet, .int c_t_foggy, .int c_t_walkers, .ref A_t_where, .ref A_t_home, .ref A_t_light, .ref A_t_carries, .ref A_t_sightPlace, .ref A_t_sightLight, .int c_t_sights, .ref A_t_pad, .int c_t_padMany, .ref A_t_act, .ref A_t_whose, .ref A_t_whom, .ref A_t_tens, .int c_t_acts, .int c_t_spent, .int c_t_walks, .ref A_t_had, .ref A_t_leaves, .int c_t_badAct, .int c_t_badWhy, .ref A_t_apart, .ref A_t_stop, .ref A_t_restOf, .ref A_t_group, .ref A_t_along, .ref A_t_kept, .ref A_t_isKept, .int c_t_keptAt, .int c_t_isWriting], ia_ G A_t_act 60 f1, ia_ G A_t_whom 60 f2] H locs := hw
  refine lv_aload_n hx hb dX10_close_20 rfl (lv_at hl 0 rfl) ?_
  refine lv_dup hx hb dX10_close_21 rfl ?_
  refine g_get hC hw fkX10_130 0 rfl rfl dX10_close_22 ?_
  refine lv_iconst (v := 1) hx hb dX10_close_25 (by decide) ?_
  refine lv_iadd hx hb dX10_close_26 ?_
  refine g_put hC hw fpX10_130 0 rfl rfl rfl (Nat.le_of_ble_eq_true rfl) dX10_close_27 (fun H locs hw => ?_)
  have hw : wd_ G A s.heap [ob_ A_t 10 [.ref A_t_steps, .ref A_t_wet, .int c_t_foggy, .int c_t_walkers, .ref A_t_where, .ref A_t_home, .ref A_t_light, .ref A_t_carries, .ref A_t_sightPlace, .ref A_t_sightLight, .int c_t_sights, .ref A_t_pad, .int c_t_padMany, .ref A_t_act, .ref A_t_whose, .ref A_t_whom, .ref A_t_tens, .int (c_t_acts + 1), .int c_t_spent, .int c_t_walks, .ref A_t_had, .ref A_t_leaves, .int c_t_badAct, .int c_t_badWhy, .ref A_t_apart, .ref A_t_stop, .ref A_t_restOf, .ref A_t_group, .ref A_t_along, .ref A_t_kept, .ref A_t_isKept, .int c_t_keptAt, .int c_t_isWriting], ia_ G A_t_act 60 f1, ia_ G A_t_whom 60 f2] H locs := hw
  refine lv_iconst (v := 0) hx hb dX10_close_30 (by decide) ?_
  cases hf
  exact hret _ _ _ _ dX10_close_31 hw
set_option maxHeartbeats 4000000 in
set_option maxRecDepth 100000 in
theorem cn_X10_close (l : Launch) (G : gw_) (A_t : Nat) (A_t_steps : Nat) (A_t_wet : Nat) (A_t_where : Nat) (A_t_home : Nat) (A_t_light : Nat) (A_t_carries : Nat) (A_t_sightPlace : Nat) (A_t_sightLight : Nat) (A_t_pad : Nat) (A_t_act : Nat) (A_t_whose : Nat) (A_t_whom : Nat) (A_t_tens : Nat) (A_t_had : Nat) (A_t_leaves : Nat) (A_t_apart : Nat) (A_t_stop : Nat) (A_t_restOf : Nat) (A_t_group : Nat) (A_t_along : Nat) (A_t_kept : Nat) (A_t_isKept : Nat) (c_t_foggy : Int32) (c_t_walkers : Int32) (c_t_sights : Int32) (c_t_padMany : Int32) (c_t_acts : Int32) (c_t_spent : Int32) (c_t_walks : Int32) (c_t_badAct : Int32) (c_t_badWhy : Int32) (c_t_keptAt : Int32) (c_t_isWriting : Int32) (c_t_act : Nat → Int32) (c_t_whom : Nat → Int32) (x1 : Int32) (x2 : Int32) (r : Int32) (z_t_acts : Int32) (z_t_act : Nat → Int32) (z_t_whom : Nat → Int32) (hf : fn_X10_close c_t_acts c_t_act c_t_whom x1 x2 = some (r, z_t_acts, z_t_act, z_t_whom)) : ci_ l G yX10_close cX10_close 3 (some .int) 0 0 [ob_ A_t 10 [.ref A_t_steps, .ref A_t_wet, .int c_t_foggy, .int c_t_walkers, .ref A_t_where, .ref A_t_home, .ref A_t_light, .ref A_t_carries, .ref A_t_sightPlace, .ref A_t_sightLight, .int c_t_sights, .ref A_t_pad, .int c_t_padMany, .ref A_t_act, .ref A_t_whose, .ref A_t_whom, .ref A_t_tens, .int c_t_acts, .int c_t_spent, .int c_t_walks, .ref A_t_had, .ref A_t_leaves, .int c_t_badAct, .int c_t_badWhy, .ref A_t_apart, .ref A_t_stop, .ref A_t_restOf, .ref A_t_group, .ref A_t_along, .ref A_t_kept, .ref A_t_isKept, .int c_t_keptAt, .int c_t_isWriting], ia_ G A_t_act 60 c_t_act, ia_ G A_t_whom 60 c_t_whom] [.ref A_t, .int x1, .int x2] r [ob_ A_t 10 [.ref A_t_steps, .ref A_t_wet, .int c_t_foggy, .int c_t_walkers, .ref A_t_where, .ref A_t_home, .ref A_t_light, .ref A_t_carries, .ref A_t_sightPlace, .ref A_t_sightLight, .int c_t_sights, .ref A_t_pad, .int c_t_padMany, .ref A_t_act, .ref A_t_whose, .ref A_t_whom, .ref A_t_tens, .int z_t_acts, .int c_t_spent, .int c_t_walks, .ref A_t_had, .ref A_t_leaves, .int c_t_badAct, .int c_t_badWhy, .ref A_t_apart, .ref A_t_stop, .ref A_t_restOf, .ref A_t_group, .ref A_t_along, .ref A_t_kept, .ref A_t_isKept, .int c_t_keptAt, .int c_t_isWriting], ia_ G A_t_act 60 z_t_act, ia_ G A_t_whom 60 z_t_whom] := fun sz => met_intro (by decide) (Nat.le_of_ble_eq_true rfl) (fun p e s m args below meth c ls hsz hC hr hlk hnm hl hw => wn_X10_close hC (fun pc H locs ls hd hw => g_iret hC hr hlk hw rfl rfl hd) hf hl hw)

theorem dX10_begin_0 : decode cX10_begin 0 = .ok (.aload_n 0, 1) := by decide +kernel
theorem dX10_begin_1 : decode cX10_begin 1 = .ok (.getfield 40, 3) := by decide +kernel
theorem dX10_begin_4 : decode cX10_begin 4 = .ok (.aload_n 0, 1) := by decide +kernel
theorem dX10_begin_5 : decode cX10_begin 5 = .ok (.getfield 130, 3) := by decide +kernel
theorem dX10_begin_8 : decode cX10_begin 8 = .ok (.iload_n 1, 1) := by decide +kernel
theorem dX10_begin_9 : decode cX10_begin 9 = .ok (.invokestatic 133, 3) := by decide +kernel
theorem dX10_begin_12 : decode cX10_begin 12 = .ok (.ifCond .eq 10, 3) := by decide +kernel
theorem dX10_begin_15 : decode cX10_begin 15 = .ok (.iload_n 1, 1) := by decide +kernel
theorem dX10_begin_16 : decode cX10_begin 16 = .ok (.bipush 65, 2) := by decide +kernel
theorem dX10_begin_18 : decode cX10_begin 18 = .ok (.isub, 1) := by decide +kernel
theorem dX10_begin_19 : decode cX10_begin 19 = .ok (.goto 4, 3) := by decide +kernel
theorem dX10_begin_22 : decode cX10_begin 22 = .ok (.iconst 0, 1) := by decide +kernel
theorem dX10_begin_23 : decode cX10_begin 23 = .ok (.iastore, 1) := by decide +kernel
theorem dX10_begin_24 : decode cX10_begin 24 = .ok (.aload_n 0, 1) := by decide +kernel
theorem dX10_begin_25 : decode cX10_begin 25 = .ok (.getfield 46, 3) := by decide +kernel
theorem dX10_begin_28 : decode cX10_begin 28 = .ok (.aload_n 0, 1) := by decide +kernel
theorem dX10_begin_29 : decode cX10_begin 29 = .ok (.getfield 130, 3) := by decide +kernel
theorem dX10_begin_32 : decode cX10_begin 32 = .ok (.iconst 0, 1) := by decide +kernel
theorem dX10_begin_33 : decode cX10_begin 33 = .ok (.iastore, 1) := by decide +kernel
theorem dX10_begin_34 : decode cX10_begin 34 = .ok (.iload_n 1, 1) := by decide +kernel
theorem dX10_begin_35 : decode cX10_begin 35 = .ok (.invokestatic 133, 3) := by decide +kernel
theorem dX10_begin_38 : decode cX10_begin 38 = .ok (.ifCond .eq 7, 3) := by decide +kernel
theorem dX10_begin_41 : decode cX10_begin 41 = .ok (.iconst 1, 1) := by decide +kernel
theorem dX10_begin_42 : decode cX10_begin 42 = .ok (.goto 20, 3) := by decide +kernel
theorem dX10_begin_45 : decode cX10_begin 45 = .ok (.iload_n 1, 1) := by decide +kernel
theorem dX10_begin_46 : decode cX10_begin 46 = .ok (.bipush 126, 2) := by decide +kernel
theorem dX10_begin_48 : decode cX10_begin 48 = .ok (.if_icmp .ne 12, 3) := by decide +kernel
theorem dX10_begin_51 : decode cX10_begin 51 = .ok (.aload_n 0, 1) := by decide +kernel
theorem dX10_begin_52 : decode cX10_begin 52 = .ok (.iconst 4, 1) := by decide +kernel
theorem dX10_begin_53 : decode cX10_begin 53 = .ok (.iconst 0, 1) := by decide +kernel
theorem dX10_begin_54 : decode cX10_begin 54 = .ok (.invokevirtual 136, 3) := by decide +kernel
theorem dX10_begin_57 : decode cX10_begin 57 = .ok (.goto 5, 3) := by decide +kernel
theorem dX10_begin_60 : decode cX10_begin 60 = .ok (.bipush (-6), 2) := by decide +kernel
theorem dX10_begin_62 : decode cX10_begin 62 = .ok (.ireturn, 1) := by decide +kernel
def fn_X10_begin_j23 (c_t_acts : Int32) (c_t_act : Nat → Int32) (c_t_whose : Nat → Int32) (c_t_whom : Nat → Int32) (c_t_tens : Nat → Int32) (x1 : Int32) (s1 : Int32) (s2 : Int32)  : Option (Int32 × Int32 × (Nat → Int32) × (Nat → Int32) × (Nat → Int32) × (Nat → Int32)) :=
  ck_ s1 60 <|
  lx_ (upd c_t_whose (Int32.toNatClampNeg s1) s2) fun f3 =>
  ck_ c_t_acts 60 <|
  lx_ (upd c_t_tens (Int32.toNatClampNeg c_t_acts) 0) fun f4 =>
  b1_ (fn_X10_isLetter x1) fun r5 =>
  if r5 = 0 then
    if x1 = 126 then
      b4_ (fn_X10_close c_t_acts c_t_act c_t_whom 4 0) fun r7 w8 w9 w10 =>
      some (r7, w8, w9, f3, w10, f4)
    else
      some ((-6), c_t_acts, c_t_act, f3, c_t_whom, f4)
  else
    some (1, c_t_acts, c_t_act, f3, c_t_whom, f4)
def fn_X10_begin (c_t_acts : Int32) (c_t_act : Nat → Int32) (c_t_whose : Nat → Int32) (c_t_whom : Nat → Int32) (c_t_tens : Nat → Int32) (x1 : Int32) : Option (Int32 × Int32 × (Nat → Int32) × (Nat → Int32) × (Nat → Int32) × (Nat → Int32)) :=
  b1_ (fn_X10_isLetter x1) fun r1 =>
  if r1 = 0 then
    fn_X10_begin_j23 c_t_acts c_t_act c_t_whose c_t_whom c_t_tens x1 c_t_acts 0
  else
    fn_X10_begin_j23 c_t_acts c_t_act c_t_whose c_t_whom c_t_tens x1 c_t_acts (x1 - 65)
set_option maxHeartbeats 4000000 in
set_option maxRecDepth 100000 in
theorem wn_X10_begin_j23 {p : Program} {l : Launch} {e : Env} {s : State} {m : MethodId} {args : Array Value} {below : List Frame} {meth : Method} {c : Code} {G : gw_} {A : Nat → Prop} {Q : State → Prop} {A_t : Nat} {A_t_steps : Nat} {A_t_wet : Nat} {A_t_where : Nat} {A_t_home : Nat} {A_t_light : Nat} {A_t_carries : Nat} {A_t_sightPlace : Nat} {A_t_sightLight : Nat} {A_t_pad : Nat} {A_t_act : Nat} {A_t_whose : Nat} {A_t_whom : Nat} {A_t_tens : Nat} {A_t_had : Nat} {A_t_leaves : Nat} {A_t_apart : Nat} {A_t_stop : Nat} {A_t_restOf : Nat} {A_t_group : Nat} {A_t_along : Nat} {A_t_kept : Nat} {A_t_isKept : Nat} {c_t_foggy : Int32} {c_t_walkers : Int32} {c_t_sights : Int32} {c_t_padMany : Int32} {c_t_acts : Int32} {z_t_acts : Int32} {c_t_spent : Int32} {c_t_walks : Int32} {c_t_badAct : Int32} {c_t_badWhy : Int32} {c_t_keptAt : Int32} {c_t_isWriting : Int32} {c_t_act : Nat → Int32} {z_t_act : Nat → Int32} {c_t_whose : Nat → Int32} {z_t_whose : Nat → Int32} {c_t_whom : Nat → Int32} {z_t_whom : Nat → Int32} {c_t_tens : Nat → Int32} {z_t_tens : Nat → Int32} {r : Int32} {x1 : Int32} {s1 : Int32} {s2 : Int32} (hC : cx_ p s m c G cX10_begin 2 RX10) (hret : ∀ (pc : Nat) (H : Heap) (locs : List Loc) (ls : Array Slot), decode cX10_begin pc = .ok (.ireturn, 1) → wd_ G A s.heap [ob_ A_t 10 [.ref A_t_steps, .ref A_t_wet, .int c_t_foggy, .int c_t_walkers, .ref A_t_where, .ref A_t_home, .ref A_t_light, .ref A_t_carries, .ref A_t_sightPlace, .ref A_t_sightLight, .int c_t_sights, .ref A_t_pad, .int c_t_padMany, .ref A_t_act, .ref A_t_whose, .ref A_t_whom, .ref A_t_tens, .int z_t_acts, .int c_t_spent, .int c_t_walks, .ref A_t_had, .ref A_t_leaves, .int c_t_badAct, .int c_t_badWhy, .ref A_t_apart, .ref A_t_stop, .ref A_t_restOf, .ref A_t_group, .ref A_t_along, .ref A_t_kept, .ref A_t_isKept, .int c_t_keptAt, .int c_t_isWriting], ia_ G A_t_act 60 z_t_act, ia_ G A_t_whose 60 z_t_whose, ia_ G A_t_whom 60 z_t_whom, ia_ G A_t_tens 60 z_t_tens] H locs → W p l e { frames := 2, cells := 0, slots := 0, locals := 45 } s m args below meth c H locs 0 0 Q (F0 m pc ls [.int r]))  (hf : fn_X10_begin_j23 c_t_acts c_t_act c_t_whose c_t_whom c_t_tens x1 s1 s2 = some (r, z_t_acts, z_t_act, z_t_whose, z_t_whom, z_t_tens)) {H : Heap} {locs : List Loc} {ls : Array Slot} (hl : lv_has ls 2 [(0, .ref A_t), (1, .int x1)]) (hw : wd_ G A s.heap [ob_ A_t 10 [.ref A_t_steps, .ref A_t_wet, .int c_t_foggy, .int c_t_walkers, .ref A_t_where, .ref A_t_home, .ref A_t_light, .ref A_t_carries, .ref A_t_sightPlace, .ref A_t_sightLight, .int c_t_sights, .ref A_t_pad, .int c_t_padMany, .ref A_t_act, .ref A_t_whose, .ref A_t_whom, .ref A_t_tens, .int c_t_acts, .int c_t_spent, .int c_t_walks, .ref A_t_had, .ref A_t_leaves, .int c_t_badAct, .int c_t_badWhy, .ref A_t_apart, .ref A_t_stop, .ref A_t_restOf, .ref A_t_group, .ref A_t_along, .ref A_t_kept, .ref A_t_isKept, .int c_t_keptAt, .int c_t_isWriting], ia_ G A_t_act 60 c_t_act, ia_ G A_t_whose 60 c_t_whose, ia_ G A_t_whom 60 c_t_whom, ia_ G A_t_tens 60 c_t_tens] H locs) : W p l e { frames := 2, cells := 0, slots := 0, locals := 45 } s m args below meth c H locs 0 0 Q (F0 m 23 ls [.int s2, .int s1, .ref A_t_whose]) := by
  have hx := hC.1
  have hb := hC.2.1
  unfold fn_X10_begin_j23 at hf
  obtain ⟨hi, hf⟩ := ck_s hf
  obtain ⟨f3, ef3, hf⟩ := lx_s hf
  refine g_iast hC hw 2 rfl hi ef3 dX10_begin_23 (fun H locs hw => ?_)
  have hw : wd_ G A s.heap [ob_ A_t 10 [.ref A_t_steps, .ref A_t_wet, .int c_t_foggy, .int c_t_walkers, .ref A_t_where, .ref A_t_home, .ref A_t_light, .ref A_t_carries, .ref A_t_sightPlace, .ref A_t_sightLight, .int c_t_sights, .ref A_t_pad, .int c_t_padMany, .ref A_t_act, .ref A_t_whose, .ref A_t_whom, .ref A_t_tens, .int c_t_acts, .int c_t_spent, .int c_t_walks, .ref A_t_had, .ref A_t_leaves, .int c_t_badAct, .int c_t_badWhy, .ref A_t_apart, .ref A_t_stop, .ref A_t_restOf, .ref A_t_group, .ref A_t_along, .ref A_t_kept, .ref A_t_isKept, .int c_t_keptAt, .int c_t_isWriting], ia_ G A_t_act 60 c_t_act, ia_ G A_t_whose 60 f3, ia_ G A_t_whom 60 c_t_whom, ia_ G A_t_tens 60 c_t_tens] H locs := hw
  refine lv_aload_n hx hb dX10_begin_24 rfl (lv_at hl 0 rfl) ?_
  refine g_get hC hw fkX10_46 0 rfl rfl dX10_begin_25 ?_
  refine lv_aload_n hx hb dX10_begin_28 rfl (lv_at hl 0 rfl) ?_
  refine g_get hC hw fkX10_130 0 rfl rfl dX10_begin_29 ?_
  refine lv_iconst (v := 0) hx hb dX10_begin_32 (by decide) ?_
  obtain ⟨hi, hf⟩ := ck_s hf
  obtain ⟨f4, ef4, hf⟩ := lx_s hf
  refine g_iast hC hw 4 rfl hi ef4 dX10_begin_33 (fun H locs hw => ?_)
  have hw : wd_ G A s.heap [ob_ A_t 10 [.ref A_t_steps, .ref A_t_wet, .int c_t_foggy, .int c_t_walkers, .ref A_t_where, .ref A_t_home, .ref A_t_light, .ref A_t_carries, .ref A_t_sightPlace, .ref A_t_sightLight, .int c_t_sights, .ref A_t_pad, .int c_t_padMany, .ref A_t_act, .ref A_t_whose, .ref A_t_whom, .ref A_t_tens, .int c_t_acts, .int c_t_spent, .int c_t_walks, .ref A_t_had, .ref A_t_leaves, .int c_t_badAct, .int c_t_badWhy, .ref A_t_apart, .ref A_t_stop, .ref A_t_restOf, .ref A_t_group, .ref A_t_along, .ref A_t_kept, .ref A_t_isKept, .int c_t_keptAt, .int c_t_isWriting], ia_ G A_t_act 60 c_t_act, ia_ G A_t_whose 60 f3, ia_ G A_t_whom 60 c_t_whom, ia_ G A_t_tens 60 f4] H locs := hw
  refine lv_iload_n hx hb dX10_begin_34 rfl (lv_at hl 1 rfl) ?_
  obtain ⟨r5, hq6, hf⟩ := b1_s hf
  refine g_cSi hC hw msX10_133 (cn_X10_isLetter l G x1 r5 hq6) [] rfl (by decide) rfl rfl hl.1 rfl (Nat.le_of_ble_eq_true rfl) ⟨Nat.le_of_ble_eq_true rfl, Nat.le_of_ble_eq_true rfl⟩ ⟨Nat.le_refl _, Nat.le_refl _⟩ dX10_begin_35 (fun H locs hw => ?_)
  have hw : wd_ G A s.heap [ob_ A_t 10 [.ref A_t_steps, .ref A_t_wet, .int c_t_foggy, .int c_t_walkers, .ref A_t_where, .ref A_t_home, .ref A_t_light, .ref A_t_carries, .ref A_t_sightPlace, .ref A_t_sightLight, .int c_t_sights, .ref A_t_pad, .int c_t_padMany, .ref A_t_act, .ref A_t_whose, .ref A_t_whom, .ref A_t_tens, .int c_t_acts, .int c_t_spent, .int c_t_walks, .ref A_t_had, .ref A_t_leaves, .int c_t_badAct, .int c_t_badWhy, .ref A_t_apart, .ref A_t_stop, .ref A_t_restOf, .ref A_t_group, .ref A_t_along, .ref A_t_kept, .ref A_t_isKept, .int c_t_keptAt, .int c_t_isWriting], ia_ G A_t_act 60 c_t_act, ia_ G A_t_whose 60 f3, ia_ G A_t_whom 60 c_t_whom, ia_ G A_t_tens 60 f4] H locs := hw
  refine lv_if_eq (tgt := 45) hx hb dX10_begin_38 (by decide) (fun hc => ?_) (fun hc => ?_)
  · replace hf := it_t hc hf
    refine lv_iload_n hx hb dX10_begin_45 rfl (lv_at hl 1 rfl) ?_
    refine lv_bipush (v := 126) hx hb dX10_begin_46 (by decide) ?_
    refine lv_icmp_ne (tgt := 60) hx hb dX10_begin_48 (by decide) (fun hc => ?_) (fun hc => ?_)
    · replace hf := it_f hc hf
      refine lv_bipush (v := (-6)) hx hb dX10_begin_60 (by decide) ?_
      cases hf
      exact hret _ _ _ _ dX10_begin_62 hw
    · replace hf := it_t hc hf
      refine lv_aload_n hx hb dX10_begin_51 rfl (lv_at hl 0 rfl) ?_
      refine lv_iconst (v := 4) hx hb dX10_begin_52 (by decide) ?_
      refine lv_iconst (v := 0) hx hb dX10_begin_53 (by decide) ?_
      obtain ⟨r7, w8, w9, w10, hq11, hf⟩ := b4_s hf
      refine g_cVi hC hw mvX10_136 (cn_X10_close l G A_t A_t_steps A_t_wet A_t_where A_t_home A_t_light A_t_carries A_t_sightPlace A_t_sightLight A_t_pad A_t_act A_t_whose A_t_whom A_t_tens A_t_had A_t_leaves A_t_apart A_t_stop A_t_restOf A_t_group A_t_along A_t_kept A_t_isKept c_t_foggy c_t_walkers c_t_sights c_t_padMany c_t_acts c_t_spent c_t_walks c_t_badAct c_t_badWhy c_t_keptAt c_t_isWriting c_t_act c_t_whom 4 0 r7 w8 w9 w10 hq11) [0, 1, 3] rfl (by decide) rfl 0 rfl rfl rfl hl.1 rfl (Nat.le_of_ble_eq_true rfl) ⟨Nat.le_of_ble_eq_true rfl, Nat.le_of_ble_eq_true rfl⟩ ⟨Nat.le_refl _, Nat.le_refl _⟩ dX10_begin_54 (fun H locs hw => ?_)
      have hw : wd_ G A s.heap [ob_ A_t 10 [.ref A_t_steps, .ref A_t_wet, .int c_t_foggy, .int c_t_walkers, .ref A_t_where, .ref A_t_home, .ref A_t_light, .ref A_t_carries, .ref A_t_sightPlace, .ref A_t_sightLight, .int c_t_sights, .ref A_t_pad, .int c_t_padMany, .ref A_t_act, .ref A_t_whose, .ref A_t_whom, .ref A_t_tens, .int w8, .int c_t_spent, .int c_t_walks, .ref A_t_had, .ref A_t_leaves, .int c_t_badAct, .int c_t_badWhy, .ref A_t_apart, .ref A_t_stop, .ref A_t_restOf, .ref A_t_group, .ref A_t_along, .ref A_t_kept, .ref A_t_isKept, .int c_t_keptAt, .int c_t_isWriting], ia_ G A_t_act 60 w9, ia_ G A_t_whose 60 f3, ia_ G A_t_whom 60 w10, ia_ G A_t_tens 60 f4] H locs := hw
      refine lv_goto (tgt := 62) hx hb dX10_begin_57 (by decide) ?_
      cases hf
      exact hret _ _ _ _ dX10_begin_62 hw
  · replace hf := it_f hc hf
    refine lv_iconst (v := 1) hx hb dX10_begin_41 (by decide) ?_
    refine lv_goto (tgt := 62) hx hb dX10_begin_42 (by decide) ?_
    cases hf
    exact hret _ _ _ _ dX10_begin_62 hw
set_option maxHeartbeats 4000000 in
set_option maxRecDepth 100000 in
theorem wn_X10_begin {p : Program} {l : Launch} {e : Env} {s : State} {m : MethodId} {args : Array Value} {below : List Frame} {meth : Method} {c : Code} {G : gw_} {A : Nat → Prop} {Q : State → Prop} {A_t : Nat} {A_t_steps : Nat} {A_t_wet : Nat} {A_t_where : Nat} {A_t_home : Nat} {A_t_light : Nat} {A_t_carries : Nat} {A_t_sightPlace : Nat} {A_t_sightLight : Nat} {A_t_pad : Nat} {A_t_act : Nat} {A_t_whose : Nat} {A_t_whom : Nat} {A_t_tens : Nat} {A_t_had : Nat} {A_t_leaves : Nat} {A_t_apart : Nat} {A_t_stop : Nat} {A_t_restOf : Nat} {A_t_group : Nat} {A_t_along : Nat} {A_t_kept : Nat} {A_t_isKept : Nat} {c_t_foggy : Int32} {c_t_walkers : Int32} {c_t_sights : Int32} {c_t_padMany : Int32} {c_t_acts : Int32} {z_t_acts : Int32} {c_t_spent : Int32} {c_t_walks : Int32} {c_t_badAct : Int32} {c_t_badWhy : Int32} {c_t_keptAt : Int32} {c_t_isWriting : Int32} {c_t_act : Nat → Int32} {z_t_act : Nat → Int32} {c_t_whose : Nat → Int32} {z_t_whose : Nat → Int32} {c_t_whom : Nat → Int32} {z_t_whom : Nat → Int32} {c_t_tens : Nat → Int32} {z_t_tens : Nat → Int32} {r : Int32} {x1 : Int32} (hC : cx_ p s m c G cX10_begin 2 RX10) (hret : ∀ (pc : Nat) (H : Heap) (locs : List Loc) (ls : Array Slot), decode cX10_begin pc = .ok (.ireturn, 1) → wd_ G A s.heap [ob_ A_t 10 [.ref A_t_steps, .ref A_t_wet, .int c_t_foggy, .int c_t_walkers, .ref A_t_where, .ref A_t_home, .ref A_t_light, .ref A_t_carries, .ref A_t_sightPlace, .ref A_t_sightLight, .int c_t_sights, .ref A_t_pad, .int c_t_padMany, .ref A_t_act, .ref A_t_whose, .ref A_t_whom, .ref A_t_tens, .int z_t_acts, .int c_t_spent, .int c_t_walks, .ref A_t_had, .ref A_t_leaves, .int c_t_badAct, .int c_t_badWhy, .ref A_t_apart, .ref A_t_stop, .ref A_t_restOf, .ref A_t_group, .ref A_t_along, .ref A_t_kept, .ref A_t_isKept, .int c_t_keptAt, .int c_t_isWriting], ia_ G A_t_act 60 z_t_act, ia_ G A_t_whose 60 z_t_whose, ia_ G A_t_whom 60 z_t_whom, ia_ G A_t_tens 60 z_t_tens] H locs → W p l e { frames := 2, cells := 0, slots := 0, locals := 45 } s m args below meth c H locs 0 0 Q (F0 m pc ls [.int r])) (hf : fn_X10_begin c_t_acts c_t_act c_t_whose c_t_whom c_t_tens x1 = some (r, z_t_acts, z_t_act, z_t_whose, z_t_whom, z_t_tens)) {H : Heap} {locs : List Loc} {ls : Array Slot} (hl : lv_has ls 2 [(0, .ref A_t), (1, .int x1)]) (hw : wd_ G A s.heap [ob_ A_t 10 [.ref A_t_steps, .ref A_t_wet, .int c_t_foggy, .int c_t_walkers, .ref A_t_where, .ref A_t_home, .ref A_t_light, .ref A_t_carries, .ref A_t_sightPlace, .ref A_t_sightLight, .int c_t_sights, .ref A_t_pad, .int c_t_padMany, .ref A_t_act, .ref A_t_whose, .ref A_t_whom, .ref A_t_tens, .int c_t_acts, .int c_t_spent, .int c_t_walks, .ref A_t_had, .ref A_t_leaves, .int c_t_badAct, .int c_t_badWhy, .ref A_t_apart, .ref A_t_stop, .ref A_t_restOf, .ref A_t_group, .ref A_t_along, .ref A_t_kept, .ref A_t_isKept, .int c_t_keptAt, .int c_t_isWriting], ia_ G A_t_act 60 c_t_act, ia_ G A_t_whose 60 c_t_whose, ia_ G A_t_whom 60 c_t_whom, ia_ G A_t_tens 60 c_t_tens] H locs) : W p l e { frames := 2, cells := 0, slots := 0, locals := 45 } s m args below meth c H locs 0 0 Q (F0 m 0 ls []) := by
  have hx := hC.1
  have hb := hC.2.1
  unfold fn_X10_begin at hf
  refine lv_aload_n hx hb dX10_begin_0 rfl (lv_at hl 0 rfl) ?_
  refine g_get hC hw fkX10_40 0 rfl rfl dX10_begin_1 ?_
  refine lv_aload_n hx hb dX10_begin_4 rfl (lv_at hl 0 rfl) ?_
  refine g_get hC hw fkX10_130 0 rfl rfl dX10_begin_5 ?_
  refine lv_iload_n hx hb dX10_begin_8 rfl (lv_at hl 1 rfl) ?_
  obtain ⟨r1, hq2, hf⟩ := b1_s hf
  refine g_cSi hC hw msX10_133 (cn_X10_isLetter l G x1 r1 hq2) [] rfl (by decide) rfl rfl hl.1 rfl (Nat.le_of_ble_eq_true rfl) ⟨Nat.le_of_ble_eq_true rfl, Nat.le_of_ble_eq_true rfl⟩ ⟨Nat.le_refl _, Nat.le_refl _⟩ dX10_begin_9 (fun H locs hw => ?_)
  have hw : wd_ G A s.heap [ob_ A_t 10 [.ref A_t_steps, .ref A_t_wet, .int c_t_foggy, .int c_t_walkers, .ref A_t_where, .ref A_t_home, .ref A_t_light, .ref A_t_carries, .ref A_t_sightPlace, .ref A_t_sightLight, .int c_t_sights, .ref A_t_pad, .int c_t_padMany, .ref A_t_act, .ref A_t_whose, .ref A_t_whom, .ref A_t_tens, .int c_t_acts, .int c_t_spent, .int c_t_walks, .ref A_t_had, .ref A_t_leaves, .int c_t_badAct, .int c_t_badWhy, .ref A_t_apart, .ref A_t_stop, .ref A_t_restOf, .ref A_t_group, .ref A_t_along, .ref A_t_kept, .ref A_t_isKept, .int c_t_keptAt, .int c_t_isWriting], ia_ G A_t_act 60 c_t_act, ia_ G A_t_whose 60 c_t_whose, ia_ G A_t_whom 60 c_t_whom, ia_ G A_t_tens 60 c_t_tens] H locs := hw
  refine lv_if_eq (tgt := 22) hx hb dX10_begin_12 (by decide) (fun hc => ?_) (fun hc => ?_)
  · replace hf := it_t hc hf
    refine lv_iconst (v := 0) hx hb dX10_begin_22 (by decide) ?_
    exact wn_X10_begin_j23 hC hret hf (lv_sub hl [0, 1] rfl) hw
  · replace hf := it_f hc hf
    refine lv_iload_n hx hb dX10_begin_15 rfl (lv_at hl 1 rfl) ?_
    refine lv_bipush (v := 65) hx hb dX10_begin_16 (by decide) ?_
    refine lv_isub hx hb dX10_begin_18 ?_
    refine lv_goto (tgt := 23) hx hb dX10_begin_19 (by decide) ?_
    exact wn_X10_begin_j23 hC hret hf (lv_sub hl [0, 1] rfl) hw
set_option maxHeartbeats 4000000 in
set_option maxRecDepth 100000 in
theorem cn_X10_begin (l : Launch) (G : gw_) (A_t : Nat) (A_t_steps : Nat) (A_t_wet : Nat) (A_t_where : Nat) (A_t_home : Nat) (A_t_light : Nat) (A_t_carries : Nat) (A_t_sightPlace : Nat) (A_t_sightLight : Nat) (A_t_pad : Nat) (A_t_act : Nat) (A_t_whose : Nat) (A_t_whom : Nat) (A_t_tens : Nat) (A_t_had : Nat) (A_t_leaves : Nat) (A_t_apart : Nat) (A_t_stop : Nat) (A_t_restOf : Nat) (A_t_group : Nat) (A_t_along : Nat) (A_t_kept : Nat) (A_t_isKept : Nat) (c_t_foggy : Int32) (c_t_walkers : Int32) (c_t_sights : Int32) (c_t_padMany : Int32) (c_t_acts : Int32) (c_t_spent : Int32) (c_t_walks : Int32) (c_t_badAct : Int32) (c_t_badWhy : Int32) (c_t_keptAt : Int32) (c_t_isWriting : Int32) (c_t_act : Nat → Int32) (c_t_whose : Nat → Int32) (c_t_whom : Nat → Int32) (c_t_tens : Nat → Int32) (x1 : Int32) (r : Int32) (z_t_acts : Int32) (z_t_act : Nat → Int32) (z_t_whose : Nat → Int32) (z_t_whom : Nat → Int32) (z_t_tens : Nat → Int32) (hf : fn_X10_begin c_t_acts c_t_act c_t_whose c_t_whom c_t_tens x1 = some (r, z_t_acts, z_t_act, z_t_whose, z_t_whom, z_t_tens)) : ci_ l G yX10_begin cX10_begin 2 (some .int) 2 45 [ob_ A_t 10 [.ref A_t_steps, .ref A_t_wet, .int c_t_foggy, .int c_t_walkers, .ref A_t_where, .ref A_t_home, .ref A_t_light, .ref A_t_carries, .ref A_t_sightPlace, .ref A_t_sightLight, .int c_t_sights, .ref A_t_pad, .int c_t_padMany, .ref A_t_act, .ref A_t_whose, .ref A_t_whom, .ref A_t_tens, .int c_t_acts, .int c_t_spent, .int c_t_walks, .ref A_t_had, .ref A_t_leaves, .int c_t_badAct, .int c_t_badWhy, .ref A_t_apart, .ref A_t_stop, .ref A_t_restOf, .ref A_t_group, .ref A_t_along, .ref A_t_kept, .ref A_t_isKept, .int c_t_keptAt, .int c_t_isWriting], ia_ G A_t_act 60 c_t_act, ia_ G A_t_whose 60 c_t_whose, ia_ G A_t_whom 60 c_t_whom, ia_ G A_t_tens 60 c_t_tens] [.ref A_t, .int x1] r [ob_ A_t 10 [.ref A_t_steps, .ref A_t_wet, .int c_t_foggy, .int c_t_walkers, .ref A_t_where, .ref A_t_home, .ref A_t_light, .ref A_t_carries, .ref A_t_sightPlace, .ref A_t_sightLight, .int c_t_sights, .ref A_t_pad, .int c_t_padMany, .ref A_t_act, .ref A_t_whose, .ref A_t_whom, .ref A_t_tens, .int z_t_acts, .int c_t_spent, .int c_t_walks, .ref A_t_had, .ref A_t_leaves, .int c_t_badAct, .int c_t_badWhy, .ref A_t_apart, .ref A_t_stop, .ref A_t_restOf, .ref A_t_group, .ref A_t_along, .ref A_t_kept, .ref A_t_isKept, .int c_t_keptAt, .int c_t_isWriting], ia_ G A_t_act 60 z_t_act, ia_ G A_t_whose 60 z_t_whose, ia_ G A_t_whom 60 z_t_whom, ia_ G A_t_tens 60 z_t_tens] := fun sz => met_intro (by decide) (Nat.le_of_ble_eq_true rfl) (fun p e s m args below meth c ls hsz hC hr hlk hnm hl hw => wn_X10_begin hC (fun pc H locs ls hd hw => g_iret hC hr hlk hw rfl rfl hd) hf hl hw)

theorem dX10_readOn_0 : decode cX10_readOn 0 = .ok (.iload_n 1, 1) := by decide +kernel
theorem dX10_readOn_1 : decode cX10_readOn 1 = .ok (.ifCond .ne 9, 3) := by decide +kernel
theorem dX10_readOn_4 : decode cX10_readOn 4 = .ok (.aload_n 0, 1) := by decide +kernel
theorem dX10_readOn_5 : decode cX10_readOn 5 = .ok (.iload_n 2, 1) := by decide +kernel
theorem dX10_readOn_6 : decode cX10_readOn 6 = .ok (.invokevirtual 139, 3) := by decide +kernel
theorem dX10_readOn_9 : decode cX10_readOn 9 = .ok (.ireturn, 1) := by decide +kernel
theorem dX10_readOn_10 : decode cX10_readOn 10 = .ok (.iload_n 1, 1) := by decide +kernel
theorem dX10_readOn_11 : decode cX10_readOn 11 = .ok (.iconst 1, 1) := by decide +kernel
theorem dX10_readOn_12 : decode cX10_readOn 12 = .ok (.if_icmp .le 34, 3) := by decide +kernel
theorem dX10_readOn_15 : decode cX10_readOn 15 = .ok (.iload_n 2, 1) := by decide +kernel
theorem dX10_readOn_16 : decode cX10_readOn 16 = .ok (.invokestatic 133, 3) := by decide +kernel
theorem dX10_readOn_19 : decode cX10_readOn 19 = .ok (.ifCond .eq 24, 3) := by decide +kernel
theorem dX10_readOn_22 : decode cX10_readOn 22 = .ok (.aload_n 0, 1) := by decide +kernel
theorem dX10_readOn_23 : decode cX10_readOn 23 = .ok (.iload_n 1, 1) := by decide +kernel
theorem dX10_readOn_24 : decode cX10_readOn 24 = .ok (.iconst 2, 1) := by decide +kernel
theorem dX10_readOn_25 : decode cX10_readOn 25 = .ok (.if_icmp .ne 7, 3) := by decide +kernel
theorem dX10_readOn_28 : decode cX10_readOn 28 = .ok (.iconst 1, 1) := by decide +kernel
theorem dX10_readOn_29 : decode cX10_readOn 29 = .ok (.goto 4, 3) := by decide +kernel
theorem dX10_readOn_32 : decode cX10_readOn 32 = .ok (.iconst 3, 1) := by decide +kernel
theorem dX10_readOn_33 : decode cX10_readOn 33 = .ok (.iload_n 2, 1) := by decide +kernel
theorem dX10_readOn_34 : decode cX10_readOn 34 = .ok (.bipush 65, 2) := by decide +kernel
theorem dX10_readOn_36 : decode cX10_readOn 36 = .ok (.isub, 1) := by decide +kernel
theorem dX10_readOn_37 : decode cX10_readOn 37 = .ok (.invokevirtual 136, 3) := by decide +kernel
theorem dX10_readOn_40 : decode cX10_readOn 40 = .ok (.goto 5, 3) := by decide +kernel
theorem dX10_readOn_43 : decode cX10_readOn 43 = .ok (.bipush (-6), 2) := by decide +kernel
theorem dX10_readOn_45 : decode cX10_readOn 45 = .ok (.ireturn, 1) := by decide +kernel
theorem dX10_readOn_46 : decode cX10_readOn 46 = .ok (.iload_n 2, 1) := by decide +kernel
theorem dX10_readOn_47 : decode cX10_readOn 47 = .ok (.i2l, 1) := by decide +kernel
theorem dX10_readOn_48 : decode cX10_readOn 48 = .ok (.ldc2_w 142, 3) := by decide +kernel
theorem dX10_readOn_51 : decode cX10_readOn 51 = .ok (.ldc2_w 144, 3) := by decide +kernel
theorem dX10_readOn_54 : decode cX10_readOn 54 = .ok (.invokestatic 79, 3) := by decide +kernel
theorem dX10_readOn_57 : decode cX10_readOn 57 = .ok (.ifCond .eq 13, 3) := by decide +kernel
theorem dX10_readOn_60 : decode cX10_readOn 60 = .ok (.aload_n 0, 1) := by decide +kernel
theorem dX10_readOn_61 : decode cX10_readOn 61 = .ok (.iconst 0, 1) := by decide +kernel
theorem dX10_readOn_62 : decode cX10_readOn 62 = .ok (.iload_n 2, 1) := by decide +kernel
theorem dX10_readOn_63 : decode cX10_readOn 63 = .ok (.bipush 97, 2) := by decide +kernel
theorem dX10_readOn_65 : decode cX10_readOn 65 = .ok (.isub, 1) := by decide +kernel
theorem dX10_readOn_66 : decode cX10_readOn 66 = .ok (.invokevirtual 136, 3) := by decide +kernel
theorem dX10_readOn_69 : decode cX10_readOn 69 = .ok (.ireturn, 1) := by decide +kernel
theorem dX10_readOn_70 : decode cX10_readOn 70 = .ok (.iload_n 2, 1) := by decide +kernel
theorem dX10_readOn_71 : decode cX10_readOn 71 = .ok (.bipush 45, 2) := by decide +kernel
theorem dX10_readOn_73 : decode cX10_readOn 73 = .ok (.if_icmp .ne 10, 3) := by decide +kernel
theorem dX10_readOn_76 : decode cX10_readOn 76 = .ok (.aload_n 0, 1) := by decide +kernel
theorem dX10_readOn_77 : decode cX10_readOn 77 = .ok (.iconst 2, 1) := by decide +kernel
theorem dX10_readOn_78 : decode cX10_readOn 78 = .ok (.iconst 0, 1) := by decide +kernel
theorem dX10_readOn_79 : decode cX10_readOn 79 = .ok (.invokevirtual 136, 3) := by decide +kernel
theorem dX10_readOn_82 : decode cX10_readOn 82 = .ok (.ireturn, 1) := by decide +kernel
theorem dX10_readOn_83 : decode cX10_readOn 83 = .ok (.aload_n 0, 1) := by decide +kernel
theorem dX10_readOn_84 : decode cX10_readOn 84 = .ok (.getfield 46, 3) := by decide +kernel
theorem dX10_readOn_87 : decode cX10_readOn 87 = .ok (.aload_n 0, 1) := by decide +kernel
theorem dX10_readOn_88 : decode cX10_readOn 88 = .ok (.getfield 130, 3) := by decide +kernel
theorem dX10_readOn_91 : decode cX10_readOn 91 = .ok (.iload_n 2, 1) := by decide +kernel
theorem dX10_readOn_92 : decode cX10_readOn 92 = .ok (.bipush 48, 2) := by decide +kernel
theorem dX10_readOn_94 : decode cX10_readOn 94 = .ok (.isub, 1) := by decide +kernel
theorem dX10_readOn_95 : decode cX10_readOn 95 = .ok (.iastore, 1) := by decide +kernel
theorem dX10_readOn_96 : decode cX10_readOn 96 = .ok (.iload_n 2, 1) := by decide +kernel
theorem dX10_readOn_97 : decode cX10_readOn 97 = .ok (.bipush 43, 2) := by decide +kernel
theorem dX10_readOn_99 : decode cX10_readOn 99 = .ok (.if_icmp .ne 7, 3) := by decide +kernel
theorem dX10_readOn_102 : decode cX10_readOn 102 = .ok (.iconst 2, 1) := by decide +kernel
theorem dX10_readOn_103 : decode cX10_readOn 103 = .ok (.goto 23, 3) := by decide +kernel
theorem dX10_readOn_106 : decode cX10_readOn 106 = .ok (.iload_n 2, 1) := by decide +kernel
theorem dX10_readOn_107 : decode cX10_readOn 107 = .ok (.i2l, 1) := by decide +kernel
theorem dX10_readOn_108 : decode cX10_readOn 108 = .ok (.ldc2_w 146, 3) := by decide +kernel
theorem dX10_readOn_111 : decode cX10_readOn 111 = .ok (.ldc2_w 148, 3) := by decide +kernel
theorem dX10_readOn_114 : decode cX10_readOn 114 = .ok (.invokestatic 79, 3) := by decide +kernel
theorem dX10_readOn_117 : decode cX10_readOn 117 = .ok (.ifCond .eq 7, 3) := by decide +kernel
theorem dX10_readOn_120 : decode cX10_readOn 120 = .ok (.iconst 3, 1) := by decide +kernel
theorem dX10_readOn_121 : decode cX10_readOn 121 = .ok (.goto 5, 3) := by decide +kernel
theorem dX10_readOn_124 : decode cX10_readOn 124 = .ok (.bipush (-6), 2) := by decide +kernel
theorem dX10_readOn_126 : decode cX10_readOn 126 = .ok (.ireturn, 1) := by decide +kernel
def fn_X10_readOn_j33 (c_t_acts : Int32) (c_t_act : Nat → Int32) (c_t_whose : Nat → Int32) (c_t_whom : Nat → Int32) (c_t_tens : Nat → Int32) (x2 : Int32) (s1 : Int32)  : Option (Int32 × Int32 × (Nat → Int32) × (Nat → Int32) × (Nat → Int32) × (Nat → Int32)) :=
  b4_ (fn_X10_close c_t_acts c_t_act c_t_whom s1 (x2 - 65)) fun r18 w19 w20 w21 =>
  some (r18, w19, w20, c_t_whose, w21, c_t_tens)
def fn_X10_readOn (c_t_acts : Int32) (c_t_act : Nat → Int32) (c_t_whose : Nat → Int32) (c_t_whom : Nat → Int32) (c_t_tens : Nat → Int32) (x1 : Int32) (x2 : Int32) : Option (Int32 × Int32 × (Nat → Int32) × (Nat → Int32) × (Nat → Int32) × (Nat → Int32)) :=
  if x1 = 0 then
    b6_ (fn_X10_begin c_t_acts c_t_act c_t_whose c_t_whom c_t_tens x2) fun r23 w24 w25 w26 w27 w28 =>
    some (r23, w24, w25, w26, w27, w28)
  else
    if x1 ≤ 1 then
      b1_ (fn_X10_in (Int32.toInt64 x2) 97 108) fun r1 =>
      if r1 = 0 then
        if x2 = 45 then
          b4_ (fn_X10_close c_t_acts c_t_act c_t_whom 2 0) fun r6 w7 w8 w9 =>
          some (r6, w7, w8, c_t_whose, w9, c_t_tens)
        else
          ck_ c_t_acts 60 <|
          lx_ (upd c_t_tens (Int32.toNatClampNeg c_t_acts) (x2 - 48)) fun f3 =>
          if x2 = 43 then
            some (2, c_t_acts, c_t_act, c_t_whose, c_t_whom, f3)
          else
            b1_ (fn_X10_in (Int32.toInt64 x2) 49 57) fun r4 =>
            if r4 = 0 then
              some ((-6), c_t_acts, c_t_act, c_t_whose, c_t_whom, f3)
            else
              some (3, c_t_acts, c_t_act, c_t_whose, c_t_whom, f3)
      else
        b4_ (fn_X10_close c_t_acts c_t_act c_t_whom 0 (x2 - 97)) fun r11 w12 w13 w14 =>
        some (r11, w12, w13, c_t_whose, w14, c_t_tens)
    else
      b1_ (fn_X10_isLetter x2) fun r16 =>
      if r16 = 0 then
        some ((-6), c_t_acts, c_t_act, c_t_whose, c_t_whom, c_t_tens)
      else
        if x1 = 2 then
          fn_X10_readOn_j33 c_t_acts c_t_act c_t_whose c_t_whom c_t_tens x2 1
        else
          fn_X10_readOn_j33 c_t_acts c_t_act c_t_whose c_t_whom c_t_tens x2 3
set_option maxHeartbeats 4000000 in
set_option maxRecDepth 100000 in
theorem wn_X10_readOn_j33 {p : Program} {l : Launch} {e : Env} {s : State} {m : MethodId} {args : Array Value} {below : List Frame} {meth : Method} {c : Code} {G : gw_} {A : Nat → Prop} {Q : State → Prop} {A_t : Nat} {A_t_steps : Nat} {A_t_wet : Nat} {A_t_where : Nat} {A_t_home : Nat} {A_t_light : Nat} {A_t_carries : Nat} {A_t_sightPlace : Nat} {A_t_sightLight : Nat} {A_t_pad : Nat} {A_t_act : Nat} {A_t_whose : Nat} {A_t_whom : Nat} {A_t_tens : Nat} {A_t_had : Nat} {A_t_leaves : Nat} {A_t_apart : Nat} {A_t_stop : Nat} {A_t_restOf : Nat} {A_t_group : Nat} {A_t_along : Nat} {A_t_kept : Nat} {A_t_isKept : Nat} {c_t_foggy : Int32} {c_t_walkers : Int32} {c_t_sights : Int32} {c_t_padMany : Int32} {c_t_acts : Int32} {z_t_acts : Int32} {c_t_spent : Int32} {c_t_walks : Int32} {c_t_badAct : Int32} {c_t_badWhy : Int32} {c_t_keptAt : Int32} {c_t_isWriting : Int32} {c_t_act : Nat → Int32} {z_t_act : Nat → Int32} {c_t_whose : Nat → Int32} {z_t_whose : Nat → Int32} {c_t_whom : Nat → Int32} {z_t_whom : Nat → Int32} {c_t_tens : Nat → Int32} {z_t_tens : Nat → Int32} {r : Int32} {x2 : Int32} {s1 : Int32} (hC : cx_ p s m c G cX10_readOn 3 RX10) (hret : ∀ (pc : Nat) (H : Heap) (locs : List Loc) (ls : Array Slot), decode cX10_readOn pc = .ok (.ireturn, 1) → wd_ G A s.heap [ob_ A_t 10 [.ref A_t_steps, .ref A_t_wet, .int c_t_foggy, .int c_t_walkers, .ref A_t_where, .ref A_t_home, .ref A_t_light, .ref A_t_carries, .ref A_t_sightPlace, .ref A_t_sightLight, .int c_t_sights, .ref A_t_pad, .int c_t_padMany, .ref A_t_act, .ref A_t_whose, .ref A_t_whom, .ref A_t_tens, .int z_t_acts, .int c_t_spent, .int c_t_walks, .ref A_t_had, .ref A_t_leaves, .int c_t_badAct, .int c_t_badWhy, .ref A_t_apart, .ref A_t_stop, .ref A_t_restOf, .ref A_t_group, .ref A_t_along, .ref A_t_kept, .ref A_t_isKept, .int c_t_keptAt, .int c_t_isWriting], ia_ G A_t_act 60 z_t_act, ia_ G A_t_whose 60 z_t_whose, ia_ G A_t_whom 60 z_t_whom, ia_ G A_t_tens 60 z_t_tens] H locs → W p l e { frames := 3, cells := 0, slots := 0, locals := 66 } s m args below meth c H locs 0 0 Q (F0 m pc ls [.int r]))  (hf : fn_X10_readOn_j33 c_t_acts c_t_act c_t_whose c_t_whom c_t_tens x2 s1 = some (r, z_t_acts, z_t_act, z_t_whose, z_t_whom, z_t_tens)) {H : Heap} {locs : List Loc} {ls : Array Slot} (hl : lv_has ls 3 [(2, .int x2)]) (hw : wd_ G A s.heap [ob_ A_t 10 [.ref A_t_steps, .ref A_t_wet, .int c_t_foggy, .int c_t_walkers, .ref A_t_where, .ref A_t_home, .ref A_t_light, .ref A_t_carries, .ref A_t_sightPlace, .ref A_t_sightLight, .int c_t_sights, .ref A_t_pad, .int c_t_padMany, .ref A_t_act, .ref A_t_whose, .ref A_t_whom, .ref A_t_tens, .int c_t_acts, .int c_t_spent, .int c_t_walks, .ref A_t_had, .ref A_t_leaves, .int c_t_badAct, .int c_t_badWhy, .ref A_t_apart, .ref A_t_stop, .ref A_t_restOf, .ref A_t_group, .ref A_t_along, .ref A_t_kept, .ref A_t_isKept, .int c_t_keptAt, .int c_t_isWriting], ia_ G A_t_act 60 c_t_act, ia_ G A_t_whose 60 c_t_whose, ia_ G A_t_whom 60 c_t_whom, ia_ G A_t_tens 60 c_t_tens] H locs) : W p l e { frames := 3, cells := 0, slots := 0, locals := 66 } s m args below meth c H locs 0 0 Q (F0 m 33 ls [.int s1, .ref A_t]) := by
  have hx := hC.1
  have hb := hC.2.1
  unfold fn_X10_readOn_j33 at hf
  refine lv_iload_n hx hb dX10_readOn_33 rfl (lv_at hl 0 rfl) ?_
  refine lv_bipush (v := 65) hx hb dX10_readOn_34 (by decide) ?_
  refine lv_isub hx hb dX10_readOn_36 ?_
  obtain ⟨r18, w19, w20, w21, hq22, hf⟩ := b4_s hf
  refine g_cVi hC hw mvX10_136 (cn_X10_close l G A_t A_t_steps A_t_wet A_t_where A_t_home A_t_light A_t_carries A_t_sightPlace A_t_sightLight A_t_pad A_t_act A_t_whose A_t_whom A_t_tens A_t_had A_t_leaves A_t_apart A_t_stop A_t_restOf A_t_group A_t_along A_t_kept A_t_isKept c_t_foggy c_t_walkers c_t_sights c_t_padMany c_t_acts c_t_spent c_t_walks c_t_badAct c_t_badWhy c_t_keptAt c_t_isWriting c_t_act c_t_whom s1 (x2 - 65) r18 w19 w20 w21 hq22) [0, 1, 3] rfl (by decide) rfl 0 rfl rfl rfl hl.1 rfl (Nat.le_of_ble_eq_true rfl) ⟨Nat.le_of_ble_eq_true rfl, Nat.le_of_ble_eq_true rfl⟩ ⟨Nat.le_refl _, Nat.le_refl _⟩ dX10_readOn_37 (fun H locs hw => ?_)
  have hw : wd_ G A s.heap [ob_ A_t 10 [.ref A_t_steps, .ref A_t_wet, .int c_t_foggy, .int c_t_walkers, .ref A_t_where, .ref A_t_home, .ref A_t_light, .ref A_t_carries, .ref A_t_sightPlace, .ref A_t_sightLight, .int c_t_sights, .ref A_t_pad, .int c_t_padMany, .ref A_t_act, .ref A_t_whose, .ref A_t_whom, .ref A_t_tens, .int w19, .int c_t_spent, .int c_t_walks, .ref A_t_had, .ref A_t_leaves, .int c_t_badAct, .int c_t_badWhy, .ref A_t_apart, .ref A_t_stop, .ref A_t_restOf, .ref A_t_group, .ref A_t_along, .ref A_t_kept, .ref A_t_isKept, .int c_t_keptAt, .int c_t_isWriting], ia_ G A_t_act 60 w20, ia_ G A_t_whose 60 c_t_whose, ia_ G A_t_whom 60 w21, ia_ G A_t_tens 60 c_t_tens] H locs := hw
  refine lv_goto (tgt := 45) hx hb dX10_readOn_40 (by decide) ?_
  cases hf
  exact hret _ _ _ _ dX10_readOn_45 hw
set_option maxHeartbeats 4000000 in
set_option maxRecDepth 100000 in
theorem wn_X10_readOn {p : Program} {l : Launch} {e : Env} {s : State} {m : MethodId} {args : Array Value} {below : List Frame} {meth : Method} {c : Code} {G : gw_} {A : Nat → Prop} {Q : State → Prop} {A_t : Nat} {A_t_steps : Nat} {A_t_wet : Nat} {A_t_where : Nat} {A_t_home : Nat} {A_t_light : Nat} {A_t_carries : Nat} {A_t_sightPlace : Nat} {A_t_sightLight : Nat} {A_t_pad : Nat} {A_t_act : Nat} {A_t_whose : Nat} {A_t_whom : Nat} {A_t_tens : Nat} {A_t_had : Nat} {A_t_leaves : Nat} {A_t_apart : Nat} {A_t_stop : Nat} {A_t_restOf : Nat} {A_t_group : Nat} {A_t_along : Nat} {A_t_kept : Nat} {A_t_isKept : Nat} {c_t_foggy : Int32} {c_t_walkers : Int32} {c_t_sights : Int32} {c_t_padMany : Int32} {c_t_acts : Int32} {z_t_acts : Int32} {c_t_spent : Int32} {c_t_walks : Int32} {c_t_badAct : Int32} {c_t_badWhy : Int32} {c_t_keptAt : Int32} {c_t_isWriting : Int32} {c_t_act : Nat → Int32} {z_t_act : Nat → Int32} {c_t_whose : Nat → Int32} {z_t_whose : Nat → Int32} {c_t_whom : Nat → Int32} {z_t_whom : Nat → Int32} {c_t_tens : Nat → Int32} {z_t_tens : Nat → Int32} {r : Int32} {x1 : Int32} {x2 : Int32} (hC : cx_ p s m c G cX10_readOn 3 RX10) (hret : ∀ (pc : Nat) (H : Heap) (locs : List Loc) (ls : Array Slot), decode cX10_readOn pc = .ok (.ireturn, 1) → wd_ G A s.heap [ob_ A_t 10 [.ref A_t_steps, .ref A_t_wet, .int c_t_foggy, .int c_t_walkers, .ref A_t_where, .ref A_t_home, .ref A_t_light, .ref A_t_carries, .ref A_t_sightPlace, .ref A_t_sightLight, .int c_t_sights, .ref A_t_pad, .int c_t_padMany, .ref A_t_act, .ref A_t_whose, .ref A_t_whom, .ref A_t_tens, .int z_t_acts, .int c_t_spent, .int c_t_walks, .ref A_t_had, .ref A_t_leaves, .int c_t_badAct, .int c_t_badWhy, .ref A_t_apart, .ref A_t_stop, .ref A_t_restOf, .ref A_t_group, .ref A_t_along, .ref A_t_kept, .ref A_t_isKept, .int c_t_keptAt, .int c_t_isWriting], ia_ G A_t_act 60 z_t_act, ia_ G A_t_whose 60 z_t_whose, ia_ G A_t_whom 60 z_t_whom, ia_ G A_t_tens 60 z_t_tens] H locs → W p l e { frames := 3, cells := 0, slots := 0, locals := 66 } s m args below meth c H locs 0 0 Q (F0 m pc ls [.int r])) (hf : fn_X10_readOn c_t_acts c_t_act c_t_whose c_t_whom c_t_tens x1 x2 = some (r, z_t_acts, z_t_act, z_t_whose, z_t_whom, z_t_tens)) {H : Heap} {locs : List Loc} {ls : Array Slot} (hl : lv_has ls 3 [(0, .ref A_t), (1, .int x1), (2, .int x2)]) (hw : wd_ G A s.heap [ob_ A_t 10 [.ref A_t_steps, .ref A_t_wet, .int c_t_foggy, .int c_t_walkers, .ref A_t_where, .ref A_t_home, .ref A_t_light, .ref A_t_carries, .ref A_t_sightPlace, .ref A_t_sightLight, .int c_t_sights, .ref A_t_pad, .int c_t_padMany, .ref A_t_act, .ref A_t_whose, .ref A_t_whom, .ref A_t_tens, .int c_t_acts, .int c_t_spent, .int c_t_walks, .ref A_t_had, .ref A_t_leaves, .int c_t_badAct, .int c_t_badWhy, .ref A_t_apart, .ref A_t_stop, .ref A_t_restOf, .ref A_t_group, .ref A_t_along, .ref A_t_kept, .ref A_t_isKept, .int c_t_keptAt, .int c_t_isWriting], ia_ G A_t_act 60 c_t_act, ia_ G A_t_whose 60 c_t_whose, ia_ G A_t_whom 60 c_t_whom, ia_ G A_t_tens 60 c_t_tens] H locs) : W p l e { frames := 3, cells := 0, slots := 0, locals := 66 } s m args below meth c H locs 0 0 Q (F0 m 0 ls []) := by
  have hx := hC.1
  have hb := hC.2.1
  unfold fn_X10_readOn at hf
  refine lv_iload_n hx hb dX10_readOn_0 rfl (lv_at hl 1 rfl) ?_
  refine lv_if_ne (tgt := 10) hx hb dX10_readOn_1 (by decide) (fun hc => ?_) (fun hc => ?_)
  · replace hf := it_f hc hf
    refine lv_iload_n hx hb dX10_readOn_10 rfl (lv_at hl 1 rfl) ?_
    refine lv_iconst (v := 1) hx hb dX10_readOn_11 (by decide) ?_
    refine lv_icmp_le (tgt := 46) hx hb dX10_readOn_12 (by decide) (fun hc => ?_) (fun hc => ?_)
    · replace hf := it_t hc hf
      refine lv_iload_n hx hb dX10_readOn_46 rfl (lv_at hl 2 rfl) ?_
      refine lv_i2l hx hb dX10_readOn_47 rfl ?_
      refine g_ldc2 (v := 97) hC (tb4 174 rfl rfl) dX10_readOn_48 ?_
      refine g_ldc2 (v := 108) hC (tb4 175 rfl rfl) dX10_readOn_51 ?_
      obtain ⟨r1, hq2, hf⟩ := b1_s hf
      refine g_cSi hC hw msX10_79 (cn_X10_in l G (Int32.toInt64 x2) 97 108 r1 hq2) [] rfl (by decide) rfl rfl hl.1 rfl (Nat.le_of_ble_eq_true rfl) ⟨Nat.le_of_ble_eq_true rfl, Nat.le_of_ble_eq_true rfl⟩ ⟨Nat.le_refl _, Nat.le_refl _⟩ dX10_readOn_54 (fun H locs hw => ?_)
      have hw : wd_ G A s.heap [ob_ A_t 10 [.ref A_t_steps, .ref A_t_wet, .int c_t_foggy, .int c_t_walkers, .ref A_t_where, .ref A_t_home, .ref A_t_light, .ref A_t_carries, .ref A_t_sightPlace, .ref A_t_sightLight, .int c_t_sights, .ref A_t_pad, .int c_t_padMany, .ref A_t_act, .ref A_t_whose, .ref A_t_whom, .ref A_t_tens, .int c_t_acts, .int c_t_spent, .int c_t_walks, .ref A_t_had, .ref A_t_leaves, .int c_t_badAct, .int c_t_badWhy, .ref A_t_apart, .ref A_t_stop, .ref A_t_restOf, .ref A_t_group, .ref A_t_along, .ref A_t_kept, .ref A_t_isKept, .int c_t_keptAt, .int c_t_isWriting], ia_ G A_t_act 60 c_t_act, ia_ G A_t_whose 60 c_t_whose, ia_ G A_t_whom 60 c_t_whom, ia_ G A_t_tens 60 c_t_tens] H locs := hw
      refine lv_if_eq (tgt := 70) hx hb dX10_readOn_57 (by decide) (fun hc => ?_) (fun hc => ?_)
      · replace hf := it_t hc hf
        refine lv_iload_n hx hb dX10_readOn_70 rfl (lv_at hl 2 rfl) ?_
        refine lv_bipush (v := 45) hx hb dX10_readOn_71 (by decide) ?_
        refine lv_icmp_ne (tgt := 83) hx hb dX10_readOn_73 (by decide) (fun hc => ?_) (fun hc => ?_)
        · replace hf := it_f hc hf
          refine lv_aload_n hx hb dX10_readOn_83 rfl (lv_at hl 0 rfl) ?_
          refine g_get hC hw fkX10_46 0 rfl rfl dX10_readOn_84 ?_
          refine lv_aload_n hx hb dX10_readOn_87 rfl (lv_at hl 0 rfl) ?_
          refine g_get hC hw fkX10_130 0 rfl rfl dX10_readOn_88 ?_
          refine lv_iload_n hx hb dX10_readOn_91 rfl (lv_at hl 2 rfl) ?_
          refine lv_bipush (v := 48) hx hb dX10_readOn_92 (by decide) ?_
          refine lv_isub hx hb dX10_readOn_94 ?_
          obtain ⟨hi, hf⟩ := ck_s hf
          obtain ⟨f3, ef3, hf⟩ := lx_s hf
          refine g_iast hC hw 4 rfl hi ef3 dX10_readOn_95 (fun H locs hw => ?_)
          have hw : wd_ G A s.heap [ob_ A_t 10 [.ref A_t_steps, .ref A_t_wet, .int c_t_foggy, .int c_t_walkers, .ref A_t_where, .ref A_t_home, .ref A_t_light, .ref A_t_carries, .ref A_t_sightPlace, .ref A_t_sightLight, .int c_t_sights, .ref A_t_pad, .int c_t_padMany, .ref A_t_act, .ref A_t_whose, .ref A_t_whom, .ref A_t_tens, .int c_t_acts, .int c_t_spent, .int c_t_walks, .ref A_t_had, .ref A_t_leaves, .int c_t_badAct, .int c_t_badWhy, .ref A_t_apart, .ref A_t_stop, .ref A_t_restOf, .ref A_t_group, .ref A_t_along, .ref A_t_kept, .ref A_t_isKept, .int c_t_keptAt, .int c_t_isWriting], ia_ G A_t_act 60 c_t_act, ia_ G A_t_whose 60 c_t_whose, ia_ G A_t_whom 60 c_t_whom, ia_ G A_t_tens 60 f3] H locs := hw
          refine lv_iload_n hx hb dX10_readOn_96 rfl (lv_at hl 2 rfl) ?_
          refine lv_bipush (v := 43) hx hb dX10_readOn_97 (by decide) ?_
          refine lv_icmp_ne (tgt := 106) hx hb dX10_readOn_99 (by decide) (fun hc => ?_) (fun hc => ?_)
          · replace hf := it_f hc hf
            refine lv_iload_n hx hb dX10_readOn_106 rfl (lv_at hl 2 rfl) ?_
            refine lv_i2l hx hb dX10_readOn_107 rfl ?_
            refine g_ldc2 (v := 49) hC (tb4 176 rfl rfl) dX10_readOn_108 ?_
            refine g_ldc2 (v := 57) hC (tb4 177 rfl rfl) dX10_readOn_111 ?_
            obtain ⟨r4, hq5, hf⟩ := b1_s hf
            refine g_cSi hC hw msX10_79 (cn_X10_in l G (Int32.toInt64 x2) 49 57 r4 hq5) [] rfl (by decide) rfl rfl hl.1 rfl (Nat.le_of_ble_eq_true rfl) ⟨Nat.le_of_ble_eq_true rfl, Nat.le_of_ble_eq_true rfl⟩ ⟨Nat.le_refl _, Nat.le_refl _⟩ dX10_readOn_114 (fun H locs hw => ?_)
            have hw : wd_ G A s.heap [ob_ A_t 10 [.ref A_t_steps, .ref A_t_wet, .int c_t_foggy, .int c_t_walkers, .ref A_t_where, .ref A_t_home, .ref A_t_light, .ref A_t_carries, .ref A_t_sightPlace, .ref A_t_sightLight, .int c_t_sights, .ref A_t_pad, .int c_t_padMany, .ref A_t_act, .ref A_t_whose, .ref A_t_whom, .ref A_t_tens, .int c_t_acts, .int c_t_spent, .int c_t_walks, .ref A_t_had, .ref A_t_leaves, .int c_t_badAct, .int c_t_badWhy, .ref A_t_apart, .ref A_t_stop, .ref A_t_restOf, .ref A_t_group, .ref A_t_along, .ref A_t_kept, .ref A_t_isKept, .int c_t_keptAt, .int c_t_isWriting], ia_ G A_t_act 60 c_t_act, ia_ G A_t_whose 60 c_t_whose, ia_ G A_t_whom 60 c_t_whom, ia_ G A_t_tens 60 f3] H locs := hw
            refine lv_if_eq (tgt := 124) hx hb dX10_readOn_117 (by decide) (fun hc => ?_) (fun hc => ?_)
            · replace hf := it_t hc hf
              refine lv_bipush (v := (-6)) hx hb dX10_readOn_124 (by decide) ?_
              cases hf
              exact hret _ _ _ _ dX10_readOn_126 hw
            · replace hf := it_f hc hf
              refine lv_iconst (v := 3) hx hb dX10_readOn_120 (by decide) ?_
              refine lv_goto (tgt := 126) hx hb dX10_readOn_121 (by decide) ?_
              cases hf
              exact hret _ _ _ _ dX10_readOn_126 hw
          · replace hf := it_t hc hf
            refine lv_iconst (v := 2) hx hb dX10_readOn_102 (by decide) ?_
            refine lv_goto (tgt := 126) hx hb dX10_readOn_103 (by decide) ?_
            cases hf
            exact hret _ _ _ _ dX10_readOn_126 hw
        · replace hf := it_t hc hf
          refine lv_aload_n hx hb dX10_readOn_76 rfl (lv_at hl 0 rfl) ?_
          refine lv_iconst (v := 2) hx hb dX10_readOn_77 (by decide) ?_
          refine lv_iconst (v := 0) hx hb dX10_readOn_78 (by decide) ?_
          obtain ⟨r6, w7, w8, w9, hq10, hf⟩ := b4_s hf
          refine g_cVi hC hw mvX10_136 (cn_X10_close l G A_t A_t_steps A_t_wet A_t_where A_t_home A_t_light A_t_carries A_t_sightPlace A_t_sightLight A_t_pad A_t_act A_t_whose A_t_whom A_t_tens A_t_had A_t_leaves A_t_apart A_t_stop A_t_restOf A_t_group A_t_along A_t_kept A_t_isKept c_t_foggy c_t_walkers c_t_sights c_t_padMany c_t_acts c_t_spent c_t_walks c_t_badAct c_t_badWhy c_t_keptAt c_t_isWriting c_t_act c_t_whom 2 0 r6 w7 w8 w9 hq10) [0, 1, 3] rfl (by decide) rfl 0 rfl rfl rfl hl.1 rfl (Nat.le_of_ble_eq_true rfl) ⟨Nat.le_of_ble_eq_true rfl, Nat.le_of_ble_eq_true rfl⟩ ⟨Nat.le_refl _, Nat.le_refl _⟩ dX10_readOn_79 (fun H locs hw => ?_)
          have hw : wd_ G A s.heap [ob_ A_t 10 [.ref A_t_steps, .ref A_t_wet, .int c_t_foggy, .int c_t_walkers, .ref A_t_where, .ref A_t_home, .ref A_t_light, .ref A_t_carries, .ref A_t_sightPlace, .ref A_t_sightLight, .int c_t_sights, .ref A_t_pad, .int c_t_padMany, .ref A_t_act, .ref A_t_whose, .ref A_t_whom, .ref A_t_tens, .int w7, .int c_t_spent, .int c_t_walks, .ref A_t_had, .ref A_t_leaves, .int c_t_badAct, .int c_t_badWhy, .ref A_t_apart, .ref A_t_stop, .ref A_t_restOf, .ref A_t_group, .ref A_t_along, .ref A_t_kept, .ref A_t_isKept, .int c_t_keptAt, .int c_t_isWriting], ia_ G A_t_act 60 w8, ia_ G A_t_whose 60 c_t_whose, ia_ G A_t_whom 60 w9, ia_ G A_t_tens 60 c_t_tens] H locs := hw
          cases hf
          exact hret _ _ _ _ dX10_readOn_82 hw
      · replace hf := it_f hc hf
        refine lv_aload_n hx hb dX10_readOn_60 rfl (lv_at hl 0 rfl) ?_
        refine lv_iconst (v := 0) hx hb dX10_readOn_61 (by decide) ?_
        refine lv_iload_n hx hb dX10_readOn_62 rfl (lv_at hl 2 rfl) ?_
        refine lv_bipush (v := 97) hx hb dX10_readOn_63 (by decide) ?_
        refine lv_isub hx hb dX10_readOn_65 ?_
        obtain ⟨r11, w12, w13, w14, hq15, hf⟩ := b4_s hf
        refine g_cVi hC hw mvX10_136 (cn_X10_close l G A_t A_t_steps A_t_wet A_t_where A_t_home A_t_light A_t_carries A_t_sightPlace A_t_sightLight A_t_pad A_t_act A_t_whose A_t_whom A_t_tens A_t_had A_t_leaves A_t_apart A_t_stop A_t_restOf A_t_group A_t_along A_t_kept A_t_isKept c_t_foggy c_t_walkers c_t_sights c_t_padMany c_t_acts c_t_spent c_t_walks c_t_badAct c_t_badWhy c_t_keptAt c_t_isWriting c_t_act c_t_whom 0 (x2 - 97) r11 w12 w13 w14 hq15) [0, 1, 3] rfl (by decide) rfl 0 rfl rfl rfl hl.1 rfl (Nat.le_of_ble_eq_true rfl) ⟨Nat.le_of_ble_eq_true rfl, Nat.le_of_ble_eq_true rfl⟩ ⟨Nat.le_refl _, Nat.le_refl _⟩ dX10_readOn_66 (fun H locs hw => ?_)
        have hw : wd_ G A s.heap [ob_ A_t 10 [.ref A_t_steps, .ref A_t_wet, .int c_t_foggy, .int c_t_walkers, .ref A_t_where, .ref A_t_home, .ref A_t_light, .ref A_t_carries, .ref A_t_sightPlace, .ref A_t_sightLight, .int c_t_sights, .ref A_t_pad, .int c_t_padMany, .ref A_t_act, .ref A_t_whose, .ref A_t_whom, .ref A_t_tens, .int w12, .int c_t_spent, .int c_t_walks, .ref A_t_had, .ref A_t_leaves, .int c_t_badAct, .int c_t_badWhy, .ref A_t_apart, .ref A_t_stop, .ref A_t_restOf, .ref A_t_group, .ref A_t_along, .ref A_t_kept, .ref A_t_isKept, .int c_t_keptAt, .int c_t_isWriting], ia_ G A_t_act 60 w13, ia_ G A_t_whose 60 c_t_whose, ia_ G A_t_whom 60 w14, ia_ G A_t_tens 60 c_t_tens] H locs := hw
        cases hf
        exact hret _ _ _ _ dX10_readOn_69 hw
    · replace hf := it_f hc hf
      refine lv_iload_n hx hb dX10_readOn_15 rfl (lv_at hl 2 rfl) ?_
      obtain ⟨r16, hq17, hf⟩ := b1_s hf
      refine g_cSi hC hw msX10_133 (cn_X10_isLetter l G x2 r16 hq17) [] rfl (by decide) rfl rfl hl.1 rfl (Nat.le_of_ble_eq_true rfl) ⟨Nat.le_of_ble_eq_true rfl, Nat.le_of_ble_eq_true rfl⟩ ⟨Nat.le_refl _, Nat.le_refl _⟩ dX10_readOn_16 (fun H locs hw => ?_)
      have hw : wd_ G A s.heap [ob_ A_t 10 [.ref A_t_steps, .ref A_t_wet, .int c_t_foggy, .int c_t_walkers, .ref A_t_where, .ref A_t_home, .ref A_t_light, .ref A_t_carries, .ref A_t_sightPlace, .ref A_t_sightLight, .int c_t_sights, .ref A_t_pad, .int c_t_padMany, .ref A_t_act, .ref A_t_whose, .ref A_t_whom, .ref A_t_tens, .int c_t_acts, .int c_t_spent, .int c_t_walks, .ref A_t_had, .ref A_t_leaves, .int c_t_badAct, .int c_t_badWhy, .ref A_t_apart, .ref A_t_stop, .ref A_t_restOf, .ref A_t_group, .ref A_t_along, .ref A_t_kept, .ref A_t_isKept, .int c_t_keptAt, .int c_t_isWriting], ia_ G A_t_act 60 c_t_act, ia_ G A_t_whose 60 c_t_whose, ia_ G A_t_whom 60 c_t_whom, ia_ G A_t_tens 60 c_t_tens] H locs := hw
      refine lv_if_eq (tgt := 43) hx hb dX10_readOn_19 (by decide) (fun hc => ?_) (fun hc => ?_)
      · replace hf := it_t hc hf
        refine lv_bipush (v := (-6)) hx hb dX10_readOn_43 (by decide) ?_
        cases hf
        exact hret _ _ _ _ dX10_readOn_45 hw
      · replace hf := it_f hc hf
        refine lv_aload_n hx hb dX10_readOn_22 rfl (lv_at hl 0 rfl) ?_
        refine lv_iload_n hx hb dX10_readOn_23 rfl (lv_at hl 1 rfl) ?_
        refine lv_iconst (v := 2) hx hb dX10_readOn_24 (by decide) ?_
        refine lv_icmp_ne (tgt := 32) hx hb dX10_readOn_25 (by decide) (fun hc => ?_) (fun hc => ?_)
        · replace hf := it_f hc hf
          refine lv_iconst (v := 3) hx hb dX10_readOn_32 (by decide) ?_
          exact wn_X10_readOn_j33 hC hret hf (lv_sub hl [2] rfl) hw
        · replace hf := it_t hc hf
          refine lv_iconst (v := 1) hx hb dX10_readOn_28 (by decide) ?_
          refine lv_goto (tgt := 33) hx hb dX10_readOn_29 (by decide) ?_
          exact wn_X10_readOn_j33 hC hret hf (lv_sub hl [2] rfl) hw
  · replace hf := it_t hc hf
    refine lv_aload_n hx hb dX10_readOn_4 rfl (lv_at hl 0 rfl) ?_
    refine lv_iload_n hx hb dX10_readOn_5 rfl (lv_at hl 2 rfl) ?_
    obtain ⟨r23, w24, w25, w26, w27, w28, hq29, hf⟩ := b6_s hf
    refine g_cVi hC hw mvX10_139 (cn_X10_begin l G A_t A_t_steps A_t_wet A_t_where A_t_home A_t_light A_t_carries A_t_sightPlace A_t_sightLight A_t_pad A_t_act A_t_whose A_t_whom A_t_tens A_t_had A_t_leaves A_t_apart A_t_stop A_t_restOf A_t_group A_t_along A_t_kept A_t_isKept c_t_foggy c_t_walkers c_t_sights c_t_padMany c_t_acts c_t_spent c_t_walks c_t_badAct c_t_badWhy c_t_keptAt c_t_isWriting c_t_act c_t_whose c_t_whom c_t_tens x2 r23 w24 w25 w26 w27 w28 hq29) [0, 1, 2, 3, 4] rfl (by decide) rfl 0 rfl rfl rfl hl.1 rfl (Nat.le_of_ble_eq_true rfl) ⟨Nat.le_of_ble_eq_true rfl, Nat.le_of_ble_eq_true rfl⟩ ⟨Nat.le_refl _, Nat.le_refl _⟩ dX10_readOn_6 (fun H locs hw => ?_)
    have hw : wd_ G A s.heap [ob_ A_t 10 [.ref A_t_steps, .ref A_t_wet, .int c_t_foggy, .int c_t_walkers, .ref A_t_where, .ref A_t_home, .ref A_t_light, .ref A_t_carries, .ref A_t_sightPlace, .ref A_t_sightLight, .int c_t_sights, .ref A_t_pad, .int c_t_padMany, .ref A_t_act, .ref A_t_whose, .ref A_t_whom, .ref A_t_tens, .int w24, .int c_t_spent, .int c_t_walks, .ref A_t_had, .ref A_t_leaves, .int c_t_badAct, .int c_t_badWhy, .ref A_t_apart, .ref A_t_stop, .ref A_t_restOf, .ref A_t_group, .ref A_t_along, .ref A_t_kept, .ref A_t_isKept, .int c_t_keptAt, .int c_t_isWriting], ia_ G A_t_act 60 w25, ia_ G A_t_whose 60 w26, ia_ G A_t_whom 60 w27, ia_ G A_t_tens 60 w28] H locs := hw
    cases hf
    exact hret _ _ _ _ dX10_readOn_9 hw
set_option maxHeartbeats 4000000 in
set_option maxRecDepth 100000 in
theorem cn_X10_readOn (l : Launch) (G : gw_) (A_t : Nat) (A_t_steps : Nat) (A_t_wet : Nat) (A_t_where : Nat) (A_t_home : Nat) (A_t_light : Nat) (A_t_carries : Nat) (A_t_sightPlace : Nat) (A_t_sightLight : Nat) (A_t_pad : Nat) (A_t_act : Nat) (A_t_whose : Nat) (A_t_whom : Nat) (A_t_tens : Nat) (A_t_had : Nat) (A_t_leaves : Nat) (A_t_apart : Nat) (A_t_stop : Nat) (A_t_restOf : Nat) (A_t_group : Nat) (A_t_along : Nat) (A_t_kept : Nat) (A_t_isKept : Nat) (c_t_foggy : Int32) (c_t_walkers : Int32) (c_t_sights : Int32) (c_t_padMany : Int32) (c_t_acts : Int32) (c_t_spent : Int32) (c_t_walks : Int32) (c_t_badAct : Int32) (c_t_badWhy : Int32) (c_t_keptAt : Int32) (c_t_isWriting : Int32) (c_t_act : Nat → Int32) (c_t_whose : Nat → Int32) (c_t_whom : Nat → Int32) (c_t_tens : Nat → Int32) (x1 : Int32) (x2 : Int32) (r : Int32) (z_t_acts : Int32) (z_t_act : Nat → Int32) (z_t_whose : Nat → Int32) (z_t_whom : Nat → Int32) (z_t_tens : Nat → Int32) (hf : fn_X10_readOn c_t_acts c_t_act c_t_whose c_t_whom c_t_tens x1 x2 = some (r, z_t_acts, z_t_act, z_t_whose, z_t_whom, z_t_tens)) : ci_ l G yX10_readOn cX10_readOn 3 (some .int) 3 66 [ob_ A_t 10 [.ref A_t_steps, .ref A_t_wet, .int c_t_foggy, .int c_t_walkers, .ref A_t_where, .ref A_t_home, .ref A_t_light, .ref A_t_carries, .ref A_t_sightPlace, .ref A_t_sightLight, .int c_t_sights, .ref A_t_pad, .int c_t_padMany, .ref A_t_act, .ref A_t_whose, .ref A_t_whom, .ref A_t_tens, .int c_t_acts, .int c_t_spent, .int c_t_walks, .ref A_t_had, .ref A_t_leaves, .int c_t_badAct, .int c_t_badWhy, .ref A_t_apart, .ref A_t_stop, .ref A_t_restOf, .ref A_t_group, .ref A_t_along, .ref A_t_kept, .ref A_t_isKept, .int c_t_keptAt, .int c_t_isWriting], ia_ G A_t_act 60 c_t_act, ia_ G A_t_whose 60 c_t_whose, ia_ G A_t_whom 60 c_t_whom, ia_ G A_t_tens 60 c_t_tens] [.ref A_t, .int x1, .int x2] r [ob_ A_t 10 [.ref A_t_steps, .ref A_t_wet, .int c_t_foggy, .int c_t_walkers, .ref A_t_where, .ref A_t_home, .ref A_t_light, .ref A_t_carries, .ref A_t_sightPlace, .ref A_t_sightLight, .int c_t_sights, .ref A_t_pad, .int c_t_padMany, .ref A_t_act, .ref A_t_whose, .ref A_t_whom, .ref A_t_tens, .int z_t_acts, .int c_t_spent, .int c_t_walks, .ref A_t_had, .ref A_t_leaves, .int c_t_badAct, .int c_t_badWhy, .ref A_t_apart, .ref A_t_stop, .ref A_t_restOf, .ref A_t_group, .ref A_t_along, .ref A_t_kept, .ref A_t_isKept, .int c_t_keptAt, .int c_t_isWriting], ia_ G A_t_act 60 z_t_act, ia_ G A_t_whose 60 z_t_whose, ia_ G A_t_whom 60 z_t_whom, ia_ G A_t_tens 60 z_t_tens] := fun sz => met_intro (by decide) (Nat.le_of_ble_eq_true rfl) (fun p e s m args below meth c ls hsz hC hr hlk hnm hl hw => wn_X10_readOn hC (fun pc H locs ls hd hw => g_iret hC hr hlk hw rfl rfl hd) hf hl hw)

theorem dX10_fault_0 : decode cX10_fault 0 = .ok (.aload_n 0, 1) := by decide +kernel
theorem dX10_fault_1 : decode cX10_fault 1 = .ok (.iconst 0, 1) := by decide +kernel
theorem dX10_fault_2 : decode cX10_fault 2 = .ok (.putfield 130, 3) := by decide +kernel
theorem dX10_fault_5 : decode cX10_fault 5 = .ok (.iconst 0, 1) := by decide +kernel
theorem dX10_fault_6 : decode cX10_fault 6 = .ok (.istore_n 1, 1) := by decide +kernel
theorem dX10_fault_7 : decode cX10_fault 7 = .ok (.iconst 0, 1) := by decide +kernel
theorem dX10_fault_8 : decode cX10_fault 8 = .ok (.istore_n 2, 1) := by decide +kernel
theorem dX10_fault_9 : decode cX10_fault 9 = .ok (.iload_n 2, 1) := by decide +kernel
theorem dX10_fault_10 : decode cX10_fault 10 = .ok (.aload_n 0, 1) := by decide +kernel
theorem dX10_fault_11 : decode cX10_fault 11 = .ok (.getfield 123, 3) := by decide +kernel
theorem dX10_fault_14 : decode cX10_fault 14 = .ok (.if_icmp .ge 27, 3) := by decide +kernel
theorem dX10_fault_17 : decode cX10_fault 17 = .ok (.aload_n 0, 1) := by decide +kernel
theorem dX10_fault_18 : decode cX10_fault 18 = .ok (.iload_n 1, 1) := by decide +kernel
theorem dX10_fault_19 : decode cX10_fault 19 = .ok (.aload_n 0, 1) := by decide +kernel
theorem dX10_fault_20 : decode cX10_fault 20 = .ok (.getfield 34, 3) := by decide +kernel
theorem dX10_fault_23 : decode cX10_fault 23 = .ok (.iload_n 2, 1) := by decide +kernel
theorem dX10_fault_24 : decode cX10_fault 24 = .ok (.iaload, 1) := by decide +kernel
theorem dX10_fault_25 : decode cX10_fault 25 = .ok (.invokevirtual 150, 3) := by decide +kernel
theorem dX10_fault_28 : decode cX10_fault 28 = .ok (.istore_n 1, 1) := by decide +kernel
theorem dX10_fault_29 : decode cX10_fault 29 = .ok (.iload_n 1, 1) := by decide +kernel
theorem dX10_fault_30 : decode cX10_fault 30 = .ok (.ifCond .ge 5, 3) := by decide +kernel
theorem dX10_fault_33 : decode cX10_fault 33 = .ok (.iload_n 2, 1) := by decide +kernel
theorem dX10_fault_34 : decode cX10_fault 34 = .ok (.ireturn, 1) := by decide +kernel
theorem dX10_fault_35 : decode cX10_fault 35 = .ok (.iinc 2 1, 3) := by decide +kernel
theorem dX10_fault_38 : decode cX10_fault 38 = .ok (.goto (-29), 3) := by decide +kernel
theorem dX10_fault_41 : decode cX10_fault 41 = .ok (.iload_n 1, 1) := by decide +kernel
theorem dX10_fault_42 : decode cX10_fault 42 = .ok (.ifCond .ne 8, 3) := by decide +kernel
theorem dX10_fault_45 : decode cX10_fault 45 = .ok (.bipush (-6), 2) := by decide +kernel
theorem dX10_fault_47 : decode cX10_fault 47 = .ok (.goto 7, 3) := by decide +kernel
theorem dX10_fault_50 : decode cX10_fault 50 = .ok (.aload_n 0, 1) := by decide +kernel
theorem dX10_fault_51 : decode cX10_fault 51 = .ok (.getfield 123, 3) := by decide +kernel
theorem dX10_fault_54 : decode cX10_fault 54 = .ok (.ireturn, 1) := by decide +kernel
def fn_X10_fault_b9 (c_t_padMany : Int32) (c_t_pad : Nat → Int32) (rc : Int32 → Int32 → Int32 → (Nat → Int32) → (Nat → Int32) → (Nat → Int32) → (Nat → Int32) → Option (Int32 × Int32 × (Nat → Int32) × (Nat → Int32) × (Nat → Int32) × (Nat → Int32))) (k : Int32 → Int32 → (Nat → Int32) → (Nat → Int32) → (Nat → Int32) → (Nat → Int32) → Option (Int32 × Int32 × (Nat → Int32) × (Nat → Int32) × (Nat → Int32) × (Nat → Int32))) (x1 : Int32) (x2 : Int32) (c_t_acts : Int32) (c_t_act : Nat → Int32) (c_t_whose : Nat → Int32) (c_t_whom : Nat → Int32) (c_t_tens : Nat → Int32) : Option (Int32 × Int32 × (Nat → Int32) × (Nat → Int32) × (Nat → Int32) × (Nat → Int32)) :=
  if c_t_padMany ≤ x2 then
    k x1 c_t_acts c_t_act c_t_whose c_t_whom c_t_tens
  else
    ck_ x2 60 <|
    b6_ (fn_X10_readOn c_t_acts c_t_act c_t_whose c_t_whom c_t_tens x1 (c_t_pad (Int32.toNatClampNeg x2))) fun r1 w2 w3 w4 w5 w6 =>
    if 0 ≤ r1 then
      rc r1 (x2 + 1) w2 w3 w4 w5 w6
    else
      some (x2, w2, w3, w4, w5, w6)
def fn_X10_fault_l9 (c_t_padMany : Int32) (c_t_pad : Nat → Int32) (k : Int32 → Int32 → (Nat → Int32) → (Nat → Int32) → (Nat → Int32) → (Nat → Int32) → Option (Int32 × Int32 × (Nat → Int32) × (Nat → Int32) × (Nat → Int32) × (Nat → Int32))) : Nat → Int32 → Int32 → Int32 → (Nat → Int32) → (Nat → Int32) → (Nat → Int32) → (Nat → Int32) → Option (Int32 × Int32 × (Nat → Int32) × (Nat → Int32) × (Nat → Int32) × (Nat → Int32))
  | 0 => fun _ _ _ _ _ _ _ => none
  | n + 1 => fun x1 x2 c_t_acts c_t_act c_t_whose c_t_whom c_t_tens => fn_X10_fault_b9 c_t_padMany c_t_pad (fn_X10_fault_l9 c_t_padMany c_t_pad k n) k x1 x2 c_t_acts c_t_act c_t_whose c_t_whom c_t_tens
def fn_X10_fault (c_t_padMany : Int32) (c_t_acts : Int32) (c_t_pad : Nat → Int32) (c_t_act : Nat → Int32) (c_t_whose : Nat → Int32) (c_t_whom : Nat → Int32) (c_t_tens : Nat → Int32) : Option (Int32 × Int32 × (Nat → Int32) × (Nat → Int32) × (Nat → Int32) × (Nat → Int32)) :=
  fn_X10_fault_l9 c_t_padMany c_t_pad (fun v8 v9 v10 v11 v12 v13 =>
    if v8 = 0 then
      some ((-6), v9, v10, v11, v12, v13)
    else
      some (c_t_padMany, v9, v10, v11, v12, v13)) fu_ 0 0 0 c_t_act c_t_whose c_t_whom c_t_tens
set_option maxHeartbeats 4000000 in
set_option maxRecDepth 100000 in
theorem wn_X10_fault_l9 {p : Program} {l : Launch} {e : Env} {s : State} {m : MethodId} {args : Array Value} {below : List Frame} {meth : Method} {c : Code} {G : gw_} {A : Nat → Prop} {Q : State → Prop} {A_t : Nat} {A_t_steps : Nat} {A_t_wet : Nat} {A_t_where : Nat} {A_t_home : Nat} {A_t_light : Nat} {A_t_carries : Nat} {A_t_sightPlace : Nat} {A_t_sightLight : Nat} {A_t_pad : Nat} {A_t_act : Nat} {A_t_whose : Nat} {A_t_whom : Nat} {A_t_tens : Nat} {A_t_had : Nat} {A_t_leaves : Nat} {A_t_apart : Nat} {A_t_stop : Nat} {A_t_restOf : Nat} {A_t_group : Nat} {A_t_along : Nat} {A_t_kept : Nat} {A_t_isKept : Nat} {c_t_foggy : Int32} {c_t_walkers : Int32} {c_t_sights : Int32} {c_t_padMany : Int32} {z_t_acts : Int32} {c_t_spent : Int32} {c_t_walks : Int32} {c_t_badAct : Int32} {c_t_badWhy : Int32} {c_t_keptAt : Int32} {c_t_isWriting : Int32} {c_t_pad : Nat → Int32} {z_t_act : Nat → Int32} {z_t_whose : Nat → Int32} {z_t_whom : Nat → Int32} {z_t_tens : Nat → Int32} {r : Int32} {k : Int32 → Int32 → (Nat → Int32) → (Nat → Int32) → (Nat → Int32) → (Nat → Int32) → Option (Int32 × Int32 × (Nat → Int32) × (Nat → Int32) × (Nat → Int32) × (Nat → Int32))} (hC : cx_ p s m c G cX10_fault 3 RX10) (hret : ∀ (pc : Nat) (H : Heap) (locs : List Loc) (ls : Array Slot), decode cX10_fault pc = .ok (.ireturn, 1) → wd_ G A s.heap [ob_ A_t 10 [.ref A_t_steps, .ref A_t_wet, .int c_t_foggy, .int c_t_walkers, .ref A_t_where, .ref A_t_home, .ref A_t_light, .ref A_t_carries, .ref A_t_sightPlace, .ref A_t_sightLight, .int c_t_sights, .ref A_t_pad, .int c_t_padMany, .ref A_t_act, .ref A_t_whose, .ref A_t_whom, .ref A_t_tens, .int z_t_acts, .int c_t_spent, .int c_t_walks, .ref A_t_had, .ref A_t_leaves, .int c_t_badAct, .int c_t_badWhy, .ref A_t_apart, .ref A_t_stop, .ref A_t_restOf, .ref A_t_group, .ref A_t_along, .ref A_t_kept, .ref A_t_isKept, .int c_t_keptAt, .int c_t_isWriting], ia_ G A_t_pad 60 c_t_pad, ia_ G A_t_act 60 z_t_act, ia_ G A_t_whose 60 z_t_whose, ia_ G A_t_whom 60 z_t_whom, ia_ G A_t_tens 60 z_t_tens] H locs → W p l e { frames := 4, cells := 0, slots := 0, locals := 88 } s m args below meth c H locs 0 0 Q (F0 m pc ls [.int r])) (hk : ∀ (x1 : Int32) (c_t_acts : Int32) (c_t_act : Nat → Int32) (c_t_whose : Nat → Int32) (c_t_whom : Nat → Int32) (c_t_tens : Nat → Int32) (H : Heap) (locs : List Loc) (ls : Array Slot), k x1 c_t_acts c_t_act c_t_whose c_t_whom c_t_tens = some (r, z_t_acts, z_t_act, z_t_whose, z_t_whom, z_t_tens) → lv_has ls 3 [(0, .ref A_t), (1, .int x1)] → wd_ G A s.heap [ob_ A_t 10 [.ref A_t_steps, .ref A_t_wet, .int c_t_foggy, .int c_t_walkers, .ref A_t_where, .ref A_t_home, .ref A_t_light, .ref A_t_carries, .ref A_t_sightPlace, .ref A_t_sightLight, .int c_t_sights, .ref A_t_pad, .int c_t_padMany, .ref A_t_act, .ref A_t_whose, .ref A_t_whom, .ref A_t_tens, .int c_t_acts, .int c_t_spent, .int c_t_walks, .ref A_t_had, .ref A_t_leaves, .int c_t_badAct, .int c_t_badWhy, .ref A_t_apart, .ref A_t_stop, .ref A_t_restOf, .ref A_t_group, .ref A_t_along, .ref A_t_kept, .ref A_t_isKept, .int c_t_keptAt, .int c_t_isWriting], ia_ G A_t_pad 60 c_t_pad, ia_ G A_t_act 60 c_t_act, ia_ G A_t_whose 60 c_t_whose, ia_ G A_t_whom 60 c_t_whom, ia_ G A_t_tens 60 c_t_tens] H locs → W p l e { frames := 4, cells := 0, slots := 0, locals := 88 } s m args below meth c H locs 0 0 Q (F0 m 41 ls [])) : ∀ (n : Nat) (x1 : Int32) (x2 : Int32) (c_t_acts : Int32) (c_t_act : Nat → Int32) (c_t_whose : Nat → Int32) (c_t_whom : Nat → Int32) (c_t_tens : Nat → Int32) (H : Heap) (locs : List Loc) (ls : Array Slot), fn_X10_fault_l9 c_t_padMany c_t_pad k n x1 x2 c_t_acts c_t_act c_t_whose c_t_whom c_t_tens = some (r, z_t_acts, z_t_act, z_t_whose, z_t_whom, z_t_tens) → lv_has ls 3 [(0, .ref A_t), (1, .int x1), (2, .int x2)] → wd_ G A s.heap [ob_ A_t 10 [.ref A_t_steps, .ref A_t_wet, .int c_t_foggy, .int c_t_walkers, .ref A_t_where, .ref A_t_home, .ref A_t_light, .ref A_t_carries, .ref A_t_sightPlace, .ref A_t_sightLight, .int c_t_sights, .ref A_t_pad, .int c_t_padMany, .ref A_t_act, .ref A_t_whose, .ref A_t_whom, .ref A_t_tens, .int c_t_acts, .int c_t_spent, .int c_t_walks, .ref A_t_had, .ref A_t_leaves, .int c_t_badAct, .int c_t_badWhy, .ref A_t_apart, .ref A_t_stop, .ref A_t_restOf, .ref A_t_group, .ref A_t_along, .ref A_t_kept, .ref A_t_isKept, .int c_t_keptAt, .int c_t_isWriting], ia_ G A_t_pad 60 c_t_pad, ia_ G A_t_act 60 c_t_act, ia_ G A_t_whose 60 c_t_whose, ia_ G A_t_whom 60 c_t_whom, ia_ G A_t_tens 60 c_t_tens] H locs → W p l e { frames := 4, cells := 0, slots := 0, locals := 88 } s m args below meth c H locs 0 0 Q (F0 m 9 ls []) := by
  have hx := hC.1
  have hb := hC.2.1
  intro n
  induction n with
  | zero =>
    intro x1 x2 c_t_acts c_t_act c_t_whose c_t_whom c_t_tens H locs ls hf
    cases (show (none : Option (Int32 × Int32 × (Nat → Int32) × (Nat → Int32) × (Nat → Int32) × (Nat → Int32))) = some _ from hf)
  | succ n hrc =>
    intro x1 x2 c_t_acts c_t_act c_t_whose c_t_whom c_t_tens H locs ls hf hl hw
    replace hf : fn_X10_fault_b9 c_t_padMany c_t_pad (fn_X10_fault_l9 c_t_padMany c_t_pad k n) k x1 x2 c_t_acts c_t_act c_t_whose c_t_whom c_t_tens = some (r, z_t_acts, z_t_act, z_t_whose, z_t_whom, z_t_tens) := hf
    unfold fn_X10_fault_b9 at hf
    refine lv_iload_n hx hb dX10_fault_9 rfl (lv_at hl 2 rfl) ?_
    refine lv_aload_n hx hb dX10_fault_10 rfl (lv_at hl 0 rfl) ?_
    refine g_get hC hw fkX10_123 0 rfl rfl dX10_fault_11 ?_
    refine lv_icmp_ge (tgt := 41) hx hb dX10_fault_14 (by decide) (fun hc => ?_) (fun hc => ?_)
    · replace hf := it_t hc hf
      exact hk x1 c_t_acts c_t_act c_t_whose c_t_whom c_t_tens _ _ _ hf (lv_sub hl [0, 1] rfl) hw
    · replace hf := it_f hc hf
      refine lv_aload_n hx hb dX10_fault_17 rfl (lv_at hl 0 rfl) ?_
      refine lv_iload_n hx hb dX10_fault_18 rfl (lv_at hl 1 rfl) ?_
      refine lv_aload_n hx hb dX10_fault_19 rfl (lv_at hl 0 rfl) ?_
      refine g_get hC hw fkX10_34 0 rfl rfl dX10_fault_20 ?_
      refine lv_iload_n hx hb dX10_fault_23 rfl (lv_at hl 2 rfl) ?_
      obtain ⟨hi, hf⟩ := ck_s hf
      refine g_iald hC hw 1 rfl hi dX10_fault_24 ?_
      obtain ⟨r1, w2, w3, w4, w5, w6, hq7, hf⟩ := b6_s hf
      refine g_cVi hC hw mvX10_150 (cn_X10_readOn l G A_t A_t_steps A_t_wet A_t_where A_t_home A_t_light A_t_carries A_t_sightPlace A_t_sightLight A_t_pad A_t_act A_t_whose A_t_whom A_t_tens A_t_had A_t_leaves A_t_apart A_t_stop A_t_restOf A_t_group A_t_along A_t_kept A_t_isKept c_t_foggy c_t_walkers c_t_sights c_t_padMany c_t_acts c_t_spent c_t_walks c_t_badAct c_t_badWhy c_t_keptAt c_t_isWriting c_t_act c_t_whose c_t_whom c_t_tens x1 (c_t_pad (Int32.toNatClampNeg x2)) r1 w2 w3 w4 w5 w6 hq7) [0, 2, 3, 4, 5] rfl (by decide) rfl 0 rfl rfl rfl hl.1 rfl (Nat.le_of_ble_eq_true rfl) ⟨Nat.le_of_ble_eq_true rfl, Nat.le_of_ble_eq_true rfl⟩ ⟨Nat.le_refl _, Nat.le_refl _⟩ dX10_fault_25 (fun H locs hw => ?_)
      have hw : wd_ G A s.heap [ob_ A_t 10 [.ref A_t_steps, .ref A_t_wet, .int c_t_foggy, .int c_t_walkers, .ref A_t_where, .ref A_t_home, .ref A_t_light, .ref A_t_carries, .ref A_t_sightPlace, .ref A_t_sightLight, .int c_t_sights, .ref A_t_pad, .int c_t_padMany, .ref A_t_act, .ref A_t_whose, .ref A_t_whom, .ref A_t_tens, .int w2, .int c_t_spent, .int c_t_walks, .ref A_t_had, .ref A_t_leaves, .int c_t_badAct, .int c_t_badWhy, .ref A_t_apart, .ref A_t_stop, .ref A_t_restOf, .ref A_t_group, .ref A_t_along, .ref A_t_kept, .ref A_t_isKept, .int c_t_keptAt, .int c_t_isWriting], ia_ G A_t_pad 60 c_t_pad, ia_ G A_t_act 60 w3, ia_ G A_t_whose 60 w4, ia_ G A_t_whom 60 w5, ia_ G A_t_tens 60 w6] H locs := hw
      refine lv_istore_n (lv' := [(1, .int r1), (0, .ref A_t), (2, .int x2)]) hx hb dX10_fault_28 rfl hl (by decide) rfl (fun ls hl => ?_)
      refine lv_iload_n hx hb dX10_fault_29 rfl (lv_at hl 0 rfl) ?_
      refine lv_if_ge (tgt := 35) hx hb dX10_fault_30 (by decide) (fun hc => ?_) (fun hc => ?_)
      · replace hf := it_t hc hf
        refine lv_iinc (v := x2 + 1) (lv' := [(2, .int (x2 + 1)), (1, .int r1), (0, .ref A_t)]) hx hb dX10_fault_35 hl (k := 2) rfl rfl (by decide) rfl (fun ls hl => ?_)
        refine lv_goto (tgt := 9) hx hb dX10_fault_38 (by decide) ?_
        exact hrc r1 (x2 + 1) w2 w3 w4 w5 w6 _ _ _ hf (lv_sub hl [2, 1, 0] rfl) hw
      · replace hf := it_f hc hf
        refine lv_iload_n hx hb dX10_fault_33 rfl (lv_at hl 2 rfl) ?_
        cases hf
        exact hret _ _ _ _ dX10_fault_34 hw
set_option maxHeartbeats 4000000 in
set_option maxRecDepth 100000 in
theorem wn_X10_fault {p : Program} {l : Launch} {e : Env} {s : State} {m : MethodId} {args : Array Value} {below : List Frame} {meth : Method} {c : Code} {G : gw_} {A : Nat → Prop} {Q : State → Prop} {A_t : Nat} {A_t_steps : Nat} {A_t_wet : Nat} {A_t_where : Nat} {A_t_home : Nat} {A_t_light : Nat} {A_t_carries : Nat} {A_t_sightPlace : Nat} {A_t_sightLight : Nat} {A_t_pad : Nat} {A_t_act : Nat} {A_t_whose : Nat} {A_t_whom : Nat} {A_t_tens : Nat} {A_t_had : Nat} {A_t_leaves : Nat} {A_t_apart : Nat} {A_t_stop : Nat} {A_t_restOf : Nat} {A_t_group : Nat} {A_t_along : Nat} {A_t_kept : Nat} {A_t_isKept : Nat} {c_t_foggy : Int32} {c_t_walkers : Int32} {c_t_sights : Int32} {c_t_padMany : Int32} {c_t_acts : Int32} {z_t_acts : Int32} {c_t_spent : Int32} {c_t_walks : Int32} {c_t_badAct : Int32} {c_t_badWhy : Int32} {c_t_keptAt : Int32} {c_t_isWriting : Int32} {c_t_pad : Nat → Int32} {c_t_act : Nat → Int32} {z_t_act : Nat → Int32} {c_t_whose : Nat → Int32} {z_t_whose : Nat → Int32} {c_t_whom : Nat → Int32} {z_t_whom : Nat → Int32} {c_t_tens : Nat → Int32} {z_t_tens : Nat → Int32} {r : Int32} (hC : cx_ p s m c G cX10_fault 3 RX10) (hret : ∀ (pc : Nat) (H : Heap) (locs : List Loc) (ls : Array Slot), decode cX10_fault pc = .ok (.ireturn, 1) → wd_ G A s.heap [ob_ A_t 10 [.ref A_t_steps, .ref A_t_wet, .int c_t_foggy, .int c_t_walkers, .ref A_t_where, .ref A_t_home, .ref A_t_light, .ref A_t_carries, .ref A_t_sightPlace, .ref A_t_sightLight, .int c_t_sights, .ref A_t_pad, .int c_t_padMany, .ref A_t_act, .ref A_t_whose, .ref A_t_whom, .ref A_t_tens, .int z_t_acts, .int c_t_spent, .int c_t_walks, .ref A_t_had, .ref A_t_leaves, .int c_t_badAct, .int c_t_badWhy, .ref A_t_apart, .ref A_t_stop, .ref A_t_restOf, .ref A_t_group, .ref A_t_along, .ref A_t_kept, .ref A_t_isKept, .int c_t_keptAt, .int c_t_isWriting], ia_ G A_t_pad 60 c_t_pad, ia_ G A_t_act 60 z_t_act, ia_ G A_t_whose 60 z_t_whose, ia_ G A_t_whom 60 z_t_whom, ia_ G A_t_tens 60 z_t_tens] H locs → W p l e { frames := 4, cells := 0, slots := 0, locals := 88 } s m args below meth c H locs 0 0 Q (F0 m pc ls [.int r])) (hf : fn_X10_fault c_t_padMany c_t_acts c_t_pad c_t_act c_t_whose c_t_whom c_t_tens = some (r, z_t_acts, z_t_act, z_t_whose, z_t_whom, z_t_tens)) {H : Heap} {locs : List Loc} {ls : Array Slot} (hl : lv_has ls 3 [(0, .ref A_t)]) (hw : wd_ G A s.heap [ob_ A_t 10 [.ref A_t_steps, .ref A_t_wet, .int c_t_foggy, .int c_t_walkers, .ref A_t_where, .ref A_t_home, .ref A_t_light, .ref A_t_carries, .ref A_t_sightPlace, .ref A_t_sightLight, .int c_t_sights, .ref A_t_pad, .int c_t_padMany, .ref A_t_act, .ref A_t_whose, .ref A_t_whom, .ref A_t_tens, .int c_t_acts, .int c_t_spent, .int c_t_walks, .ref A_t_had, .ref A_t_leaves, .int c_t_badAct, .int c_t_badWhy, .ref A_t_apart, .ref A_t_stop, .ref A_t_restOf, .ref A_t_group, .ref A_t_along, .ref A_t_kept, .ref A_t_isKept, .int c_t_keptAt, .int c_t_isWriting], ia_ G A_t_pad 60 c_t_pad, ia_ G A_t_act 60 c_t_act, ia_ G A_t_whose 60 c_t_whose, ia_ G A_t_whom 60 c_t_whom, ia_ G A_t_tens 60 c_t_tens] H locs) : W p l e { frames := 4, cells := 0, slots := 0, locals := 88 } s m args below meth c H locs 0 0 Q (F0 m 0 ls []) := by
  have hx := hC.1
  have hb := hC.2.1
  unfold fn_X10_fault at hf
  refine lv_aload_n hx hb dX10_fault_0 rfl (lv_at hl 0 rfl) ?_
  refine lv_iconst (v := 0) hx hb dX10_fault_1 (by decide) ?_
  refine g_put hC hw fpX10_130 0 rfl rfl rfl (Nat.le_of_ble_eq_true rfl) dX10_fault_2 (fun H locs hw => ?_)
  have hw : wd_ G A s.heap [ob_ A_t 10 [.ref A_t_steps, .ref A_t_wet, .int c_t_foggy, .int c_t_walkers, .ref A_t_where, .ref A_t_home, .ref A_t_light, .ref A_t_carries, .ref A_t_sightPlace, .ref A_t_sightLight, .int c_t_sights, .ref A_t_pad, .int c_t_padMany, .ref A_t_act, .ref A_t_whose, .ref A_t_whom, .ref A_t_tens, .int 0, .int c_t_spent, .int c_t_walks, .ref A_t_had, .ref A_t_leaves, .int c_t_badAct, .int c_t_badWhy, .ref A_t_apart, .ref A_t_stop, .ref A_t_restOf, .ref A_t_group, .ref A_t_along, .ref A_t_kept, .ref A_t_isKept, .int c_t_keptAt, .int c_t_isWriting], ia_ G A_t_pad 60 c_t_pad, ia_ G A_t_act 60 c_t_act, ia_ G A_t_whose 60 c_t_whose, ia_ G A_t_whom 60 c_t_whom, ia_ G A_t_tens 60 c_t_tens] H locs := hw
  refine lv_iconst (v := 0) hx hb dX10_fault_5 (by decide) ?_
  refine lv_istore_n (lv' := [(1, .int 0), (0, .ref A_t)]) hx hb dX10_fault_6 rfl hl (by decide) rfl (fun ls hl => ?_)
  refine lv_iconst (v := 0) hx hb dX10_fault_7 (by decide) ?_
  refine lv_istore_n (lv' := [(2, .int 0), (1, .int 0), (0, .ref A_t)]) hx hb dX10_fault_8 rfl hl (by decide) rfl (fun ls hl => ?_)
  refine wn_X10_fault_l9 hC hret (fun v8 v9 v10 v11 v12 v13 H locs ls hf hl hw => ?_) fu_ 0 0 0 c_t_act c_t_whose c_t_whom c_t_tens _ _ _ hf (lv_sub hl [2, 1, 0] rfl) hw
  refine lv_iload_n hx hb dX10_fault_41 rfl (lv_at hl 1 rfl) ?_
  refine lv_if_ne (tgt := 50) hx hb dX10_fault_42 (by decide) (fun hc => ?_) (fun hc => ?_)
  · replace hf := it_f hc hf
    refine lv_aload_n hx hb dX10_fault_50 rfl (lv_at hl 0 rfl) ?_
    refine g_get hC hw fkX10_123 0 rfl rfl dX10_fault_51 ?_
    cases hf
    exact hret _ _ _ _ dX10_fault_54 hw
  · replace hf := it_t hc hf
    refine lv_bipush (v := (-6)) hx hb dX10_fault_45 (by decide) ?_
    refine lv_goto (tgt := 54) hx hb dX10_fault_47 (by decide) ?_
    cases hf
    exact hret _ _ _ _ dX10_fault_54 hw
set_option maxHeartbeats 4000000 in
set_option maxRecDepth 100000 in
theorem cn_X10_fault (l : Launch) (G : gw_) (A_t : Nat) (A_t_steps : Nat) (A_t_wet : Nat) (A_t_where : Nat) (A_t_home : Nat) (A_t_light : Nat) (A_t_carries : Nat) (A_t_sightPlace : Nat) (A_t_sightLight : Nat) (A_t_pad : Nat) (A_t_act : Nat) (A_t_whose : Nat) (A_t_whom : Nat) (A_t_tens : Nat) (A_t_had : Nat) (A_t_leaves : Nat) (A_t_apart : Nat) (A_t_stop : Nat) (A_t_restOf : Nat) (A_t_group : Nat) (A_t_along : Nat) (A_t_kept : Nat) (A_t_isKept : Nat) (c_t_foggy : Int32) (c_t_walkers : Int32) (c_t_sights : Int32) (c_t_padMany : Int32) (c_t_acts : Int32) (c_t_spent : Int32) (c_t_walks : Int32) (c_t_badAct : Int32) (c_t_badWhy : Int32) (c_t_keptAt : Int32) (c_t_isWriting : Int32) (c_t_pad : Nat → Int32) (c_t_act : Nat → Int32) (c_t_whose : Nat → Int32) (c_t_whom : Nat → Int32) (c_t_tens : Nat → Int32) (r : Int32) (z_t_acts : Int32) (z_t_act : Nat → Int32) (z_t_whose : Nat → Int32) (z_t_whom : Nat → Int32) (z_t_tens : Nat → Int32) (hf : fn_X10_fault c_t_padMany c_t_acts c_t_pad c_t_act c_t_whose c_t_whom c_t_tens = some (r, z_t_acts, z_t_act, z_t_whose, z_t_whom, z_t_tens)) : ci_ l G yX10_fault cX10_fault 3 (some .int) 4 88 [ob_ A_t 10 [.ref A_t_steps, .ref A_t_wet, .int c_t_foggy, .int c_t_walkers, .ref A_t_where, .ref A_t_home, .ref A_t_light, .ref A_t_carries, .ref A_t_sightPlace, .ref A_t_sightLight, .int c_t_sights, .ref A_t_pad, .int c_t_padMany, .ref A_t_act, .ref A_t_whose, .ref A_t_whom, .ref A_t_tens, .int c_t_acts, .int c_t_spent, .int c_t_walks, .ref A_t_had, .ref A_t_leaves, .int c_t_badAct, .int c_t_badWhy, .ref A_t_apart, .ref A_t_stop, .ref A_t_restOf, .ref A_t_group, .ref A_t_along, .ref A_t_kept, .ref A_t_isKept, .int c_t_keptAt, .int c_t_isWriting], ia_ G A_t_pad 60 c_t_pad, ia_ G A_t_act 60 c_t_act, ia_ G A_t_whose 60 c_t_whose, ia_ G A_t_whom 60 c_t_whom, ia_ G A_t_tens 60 c_t_tens] [.ref A_t] r [ob_ A_t 10 [.ref A_t_steps, .ref A_t_wet, .int c_t_foggy, .int c_t_walkers, .ref A_t_where, .ref A_t_home, .ref A_t_light, .ref A_t_carries, .ref A_t_sightPlace, .ref A_t_sightLight, .int c_t_sights, .ref A_t_pad, .int c_t_padMany, .ref A_t_act, .ref A_t_whose, .ref A_t_whom, .ref A_t_tens, .int z_t_acts, .int c_t_spent, .int c_t_walks, .ref A_t_had, .ref A_t_leaves, .int c_t_badAct, .int c_t_badWhy, .ref A_t_apart, .ref A_t_stop, .ref A_t_restOf, .ref A_t_group, .ref A_t_along, .ref A_t_kept, .ref A_t_isKept, .int c_t_keptAt, .int c_t_isWriting], ia_ G A_t_pad 60 c_t_pad, ia_ G A_t_act 60 z_t_act, ia_ G A_t_whose 60 z_t_whose, ia_ G A_t_whom 60 z_t_whom, ia_ G A_t_tens 60 z_t_tens] := fun sz => met_intro (by decide) (Nat.le_of_ble_eq_true rfl) (fun p e s m args below meth c ls hsz hC hr hlk hnm hl hw => wn_X10_fault hC (fun pc H locs ls hd hw => g_iret hC hr hlk hw rfl rfl hd) hf hl hw)

theorem dX10_isCarried_0 : decode cX10_isCarried 0 = .ok (.aload_n 0, 1) := by decide +kernel
theorem dX10_isCarried_1 : decode cX10_isCarried 1 = .ok (.iload_n 1, 1) := by decide +kernel
theorem dX10_isCarried_2 : decode cX10_isCarried 2 = .ok (.invokevirtual 153, 3) := by decide +kernel
theorem dX10_isCarried_5 : decode cX10_isCarried 5 = .ok (.ifCond .lt 7, 3) := by decide +kernel
theorem dX10_isCarried_8 : decode cX10_isCarried 8 = .ok (.iconst 1, 1) := by decide +kernel
theorem dX10_isCarried_9 : decode cX10_isCarried 9 = .ok (.goto 4, 3) := by decide +kernel
theorem dX10_isCarried_12 : decode cX10_isCarried 12 = .ok (.iconst 0, 1) := by decide +kernel
theorem dX10_isCarried_13 : decode cX10_isCarried 13 = .ok (.ireturn, 1) := by decide +kernel
def fn_X10_isCarried (c_t_walkers : Int32) (c_t_carries : Nat → Int32) (x1 : Int32) : Option (Int32) :=
  b1_ (fn_X10_carrierOf c_t_walkers c_t_carries x1) fun r1 =>
  if r1 < 0 then
    some 0
  else
    some 1
set_option maxHeartbeats 4000000 in
set_option maxRecDepth 100000 in
theorem wn_X10_isCarried {p : Program} {l : Launch} {e : Env} {s : State} {m : MethodId} {args : Array Value} {below : List Frame} {meth : Method} {c : Code} {G : gw_} {A : Nat → Prop} {Q : State → Prop} {A_t : Nat} {A_t_steps : Nat} {A_t_wet : Nat} {A_t_where : Nat} {A_t_home : Nat} {A_t_light : Nat} {A_t_carries : Nat} {A_t_sightPlace : Nat} {A_t_sightLight : Nat} {A_t_pad : Nat} {A_t_act : Nat} {A_t_whose : Nat} {A_t_whom : Nat} {A_t_tens : Nat} {A_t_had : Nat} {A_t_leaves : Nat} {A_t_apart : Nat} {A_t_stop : Nat} {A_t_restOf : Nat} {A_t_group : Nat} {A_t_along : Nat} {A_t_kept : Nat} {A_t_isKept : Nat} {c_t_foggy : Int32} {c_t_walkers : Int32} {c_t_sights : Int32} {c_t_padMany : Int32} {c_t_acts : Int32} {c_t_spent : Int32} {c_t_walks : Int32} {c_t_badAct : Int32} {c_t_badWhy : Int32} {c_t_keptAt : Int32} {c_t_isWriting : Int32} {c_t_carries : Nat → Int32} {r : Int32} {x1 : Int32} (hC : cx_ p s m c G cX10_isCarried 2 RX10) (hret : ∀ (pc : Nat) (H : Heap) (locs : List Loc) (ls : Array Slot), narrow .boolean (.int r) = .int r → decode cX10_isCarried pc = .ok (.ireturn, 1) → wd_ G A s.heap [ob_ A_t 10 [.ref A_t_steps, .ref A_t_wet, .int c_t_foggy, .int c_t_walkers, .ref A_t_where, .ref A_t_home, .ref A_t_light, .ref A_t_carries, .ref A_t_sightPlace, .ref A_t_sightLight, .int c_t_sights, .ref A_t_pad, .int c_t_padMany, .ref A_t_act, .ref A_t_whose, .ref A_t_whom, .ref A_t_tens, .int c_t_acts, .int c_t_spent, .int c_t_walks, .ref A_t_had, .ref A_t_leaves, .int c_t_badAct, .int c_t_badWhy, .ref A_t_apart, .ref A_t_stop, .ref A_t_restOf, .ref A_t_group, .ref A_t_along, .ref A_t_kept, .ref A_t_isKept, .int c_t_keptAt, .int c_t_isWriting], ia_ G A_t_carries 6 c_t_carries] H locs → W p l e { frames := 3, cells := 0, slots := 0, locals := 69 } s m args below meth c H locs 0 0 Q (F0 m pc ls [.int r])) (hf : fn_X10_isCarried c_t_walkers c_t_carries x1 = some r) {H : Heap} {locs : List Loc} {ls : Array Slot} (hl : lv_has ls 2 [(0, .ref A_t), (1, .int x1)]) (hw : wd_ G A s.heap [ob_ A_t 10 [.ref A_t_steps, .ref A_t_wet, .int c_t_foggy, .int c_t_walkers, .ref A_t_where, .ref A_t_home, .ref A_t_light, .ref A_t_carries, .ref A_t_sightPlace, .ref A_t_sightLight, .int c_t_sights, .ref A_t_pad, .int c_t_padMany, .ref A_t_act, .ref A_t_whose, .ref A_t_whom, .ref A_t_tens, .int c_t_acts, .int c_t_spent, .int c_t_walks, .ref A_t_had, .ref A_t_leaves, .int c_t_badAct, .int c_t_badWhy, .ref A_t_apart, .ref A_t_stop, .ref A_t_restOf, .ref A_t_group, .ref A_t_along, .ref A_t_kept, .ref A_t_isKept, .int c_t_keptAt, .int c_t_isWriting], ia_ G A_t_carries 6 c_t_carries] H locs) : W p l e { frames := 3, cells := 0, slots := 0, locals := 69 } s m args below meth c H locs 0 0 Q (F0 m 0 ls []) := by
  have hx := hC.1
  have hb := hC.2.1
  unfold fn_X10_isCarried at hf
  refine lv_aload_n hx hb dX10_isCarried_0 rfl (lv_at hl 0 rfl) ?_
  refine lv_iload_n hx hb dX10_isCarried_1 rfl (lv_at hl 1 rfl) ?_
  obtain ⟨r1, hq2, hf⟩ := b1_s hf
  refine g_cVi hC hw mvX10_153 (cn_X10_carrierOf l G A_t A_t_steps A_t_wet A_t_where A_t_home A_t_light A_t_carries A_t_sightPlace A_t_sightLight A_t_pad A_t_act A_t_whose A_t_whom A_t_tens A_t_had A_t_leaves A_t_apart A_t_stop A_t_restOf A_t_group A_t_along A_t_kept A_t_isKept c_t_foggy c_t_walkers c_t_sights c_t_padMany c_t_acts c_t_spent c_t_walks c_t_badAct c_t_badWhy c_t_keptAt c_t_isWriting c_t_carries x1 r1 hq2) [0, 1] rfl (by decide) rfl 0 rfl rfl rfl hl.1 rfl (Nat.le_of_ble_eq_true rfl) ⟨Nat.le_of_ble_eq_true rfl, Nat.le_of_ble_eq_true rfl⟩ ⟨Nat.le_refl _, Nat.le_refl _⟩ dX10_isCarried_2 (fun H locs hw => ?_)
  have hw : wd_ G A s.heap [ob_ A_t 10 [.ref A_t_steps, .ref A_t_wet, .int c_t_foggy, .int c_t_walkers, .ref A_t_where, .ref A_t_home, .ref A_t_light, .ref A_t_carries, .ref A_t_sightPlace, .ref A_t_sightLight, .int c_t_sights, .ref A_t_pad, .int c_t_padMany, .ref A_t_act, .ref A_t_whose, .ref A_t_whom, .ref A_t_tens, .int c_t_acts, .int c_t_spent, .int c_t_walks, .ref A_t_had, .ref A_t_leaves, .int c_t_badAct, .int c_t_badWhy, .ref A_t_apart, .ref A_t_stop, .ref A_t_restOf, .ref A_t_group, .ref A_t_along, .ref A_t_kept, .ref A_t_isKept, .int c_t_keptAt, .int c_t_isWriting], ia_ G A_t_carries 6 c_t_carries] H locs := hw
  refine lv_if_lt (tgt := 12) hx hb dX10_isCarried_5 (by decide) (fun hc => ?_) (fun hc => ?_)
  · replace hf := it_t hc hf
    refine lv_iconst (v := 0) hx hb dX10_isCarried_12 (by decide) ?_
    cases hf
    exact hret _ _ _ _ rfl dX10_isCarried_13 hw
  · replace hf := it_f hc hf
    refine lv_iconst (v := 1) hx hb dX10_isCarried_8 (by decide) ?_
    refine lv_goto (tgt := 13) hx hb dX10_isCarried_9 (by decide) ?_
    cases hf
    exact hret _ _ _ _ rfl dX10_isCarried_13 hw
set_option maxHeartbeats 4000000 in
set_option maxRecDepth 100000 in
theorem cn_X10_isCarried (l : Launch) (G : gw_) (A_t : Nat) (A_t_steps : Nat) (A_t_wet : Nat) (A_t_where : Nat) (A_t_home : Nat) (A_t_light : Nat) (A_t_carries : Nat) (A_t_sightPlace : Nat) (A_t_sightLight : Nat) (A_t_pad : Nat) (A_t_act : Nat) (A_t_whose : Nat) (A_t_whom : Nat) (A_t_tens : Nat) (A_t_had : Nat) (A_t_leaves : Nat) (A_t_apart : Nat) (A_t_stop : Nat) (A_t_restOf : Nat) (A_t_group : Nat) (A_t_along : Nat) (A_t_kept : Nat) (A_t_isKept : Nat) (c_t_foggy : Int32) (c_t_walkers : Int32) (c_t_sights : Int32) (c_t_padMany : Int32) (c_t_acts : Int32) (c_t_spent : Int32) (c_t_walks : Int32) (c_t_badAct : Int32) (c_t_badWhy : Int32) (c_t_keptAt : Int32) (c_t_isWriting : Int32) (c_t_carries : Nat → Int32) (x1 : Int32) (r : Int32) (hf : fn_X10_isCarried c_t_walkers c_t_carries x1 = some r) : ci_ l G yX10_isCarried cX10_isCarried 2 (some .boolean) 3 69 [ob_ A_t 10 [.ref A_t_steps, .ref A_t_wet, .int c_t_foggy, .int c_t_walkers, .ref A_t_where, .ref A_t_home, .ref A_t_light, .ref A_t_carries, .ref A_t_sightPlace, .ref A_t_sightLight, .int c_t_sights, .ref A_t_pad, .int c_t_padMany, .ref A_t_act, .ref A_t_whose, .ref A_t_whom, .ref A_t_tens, .int c_t_acts, .int c_t_spent, .int c_t_walks, .ref A_t_had, .ref A_t_leaves, .int c_t_badAct, .int c_t_badWhy, .ref A_t_apart, .ref A_t_stop, .ref A_t_restOf, .ref A_t_group, .ref A_t_along, .ref A_t_kept, .ref A_t_isKept, .int c_t_keptAt, .int c_t_isWriting], ia_ G A_t_carries 6 c_t_carries] [.ref A_t, .int x1] r [ob_ A_t 10 [.ref A_t_steps, .ref A_t_wet, .int c_t_foggy, .int c_t_walkers, .ref A_t_where, .ref A_t_home, .ref A_t_light, .ref A_t_carries, .ref A_t_sightPlace, .ref A_t_sightLight, .int c_t_sights, .ref A_t_pad, .int c_t_padMany, .ref A_t_act, .ref A_t_whose, .ref A_t_whom, .ref A_t_tens, .int c_t_acts, .int c_t_spent, .int c_t_walks, .ref A_t_had, .ref A_t_leaves, .int c_t_badAct, .int c_t_badWhy, .ref A_t_apart, .ref A_t_stop, .ref A_t_restOf, .ref A_t_group, .ref A_t_along, .ref A_t_kept, .ref A_t_isKept, .int c_t_keptAt, .int c_t_isWriting], ia_ G A_t_carries 6 c_t_carries] := fun sz => met_intro (by decide) (Nat.le_of_ble_eq_true rfl) (fun p e s m args below meth c ls hsz hC hr hlk hnm hl hw => wn_X10_isCarried hC (fun pc H locs ls hn hd hw => g_iret hC hr hlk hw rfl hn hd) hf hl hw)
