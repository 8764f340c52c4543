theorem dX10_at_0 : decode cX10_at 0 = .ok (.bipush 12, 2) := by decide +kernel
theorem dX10_at_2 : decode cX10_at 2 = .ok (.iload_n 0, 1) := by decide +kernel
theorem dX10_at_3 : decode cX10_at 3 = .ok (.imul, 1) := by decide +kernel
theorem dX10_at_4 : decode cX10_at 4 = .ok (.iload_n 1, 1) := by decide +kernel
theorem dX10_at_5 : decode cX10_at 5 = .ok (.iadd, 1) := by decide +kernel
theorem dX10_at_6 : decode cX10_at 6 = .ok (.ireturn, 1) := by decide +kernel
def fn_X10_at (x0 : Int32) (x1 : Int32) : Option (Int32) :=
  some ((12 * x0) + x1)
set_option maxHeartbeats 4000000 in
set_option maxRecDepth 100000 in
theorem wn_X10_at {p : Program} {l : Launch} {e : Env} {s : State} {m : MethodId} {args : Array Value} {below : List Frame} {meth : Method} {c : Code} {G : gw_} {A : Nat → Prop} {Q : State → Prop} {r : Int32} {x0 : Int32} {x1 : Int32} (hC : cx_ p s m c G cX10_at 2 RX10) (hret : ∀ (pc : Nat) (H : Heap) (locs : List Loc) (ls : Array Slot), decode cX10_at pc = .ok (.ireturn, 1) → wd_ G A s.heap [] H locs → W p l e { frames := 0, cells := 0, slots := 0, locals := 0 } s m args below meth c H locs 0 0 Q (F0 m pc ls [.int r])) (hf : fn_X10_at x0 x1 = some r) {H : Heap} {locs : List Loc} {ls : Array Slot} (hl : lv_has ls 2 [(0, .int x0), (1, .int x1)]) (hw : wd_ G A s.heap [] H locs) : W p l e { frames := 0, cells := 0, slots := 0, locals := 0 } s m args below meth c H locs 0 0 Q (F0 m 0 ls []) := by
  have hx := hC.1
  have hb := hC.2.1
  unfold fn_X10_at at hf
  refine lv_bipush (v := 12) hx hb dX10_at_0 (by decide) ?_
  refine lv_iload_n hx hb dX10_at_2 rfl (lv_at hl 0 rfl) ?_
  refine lv_imul hx hb dX10_at_3 ?_
  refine lv_iload_n hx hb dX10_at_4 rfl (lv_at hl 1 rfl) ?_
  refine lv_iadd hx hb dX10_at_5 ?_
  cases hf
  exact hret _ _ _ _ dX10_at_6 hw
set_option maxHeartbeats 4000000 in
set_option maxRecDepth 100000 in
theorem cn_X10_at (l : Launch) (G : gw_) (x0 : Int32) (x1 : Int32) (r : Int32) (hf : fn_X10_at x0 x1 = some r) : ci_ l G yX10_at cX10_at 2 (some .int) 0 0 [] [.int x0, .int x1] r [] := fun sz => met_intro (by decide) (Nat.le_of_ble_eq_true rfl) (fun p e s m args below meth c ls hsz hC hr hlk hnm hl hw => wn_X10_at hC (fun pc H locs ls hd hw => g_iret hC hr hlk hw rfl rfl hd) hf hl hw)

theorem dX10_isWalker_0 : decode cX10_isWalker 0 = .ok (.iload_n 1, 1) := by decide +kernel
theorem dX10_isWalker_1 : decode cX10_isWalker 1 = .ok (.i2l, 1) := by decide +kernel
theorem dX10_isWalker_2 : decode cX10_isWalker 2 = .ok (.lconst 0, 1) := by decide +kernel
theorem dX10_isWalker_3 : decode cX10_isWalker 3 = .ok (.ldc2_w 83, 3) := by decide +kernel
theorem dX10_isWalker_6 : decode cX10_isWalker 6 = .ok (.invokestatic 79, 3) := by decide +kernel
theorem dX10_isWalker_9 : decode cX10_isWalker 9 = .ok (.ifCond .eq 19, 3) := by decide +kernel
theorem dX10_isWalker_12 : decode cX10_isWalker 12 = .ok (.aload_n 0, 1) := by decide +kernel
theorem dX10_isWalker_13 : decode cX10_isWalker 13 = .ok (.getfield 85, 3) := by decide +kernel
theorem dX10_isWalker_16 : decode cX10_isWalker 16 = .ok (.iload_n 1, 1) := by decide +kernel
theorem dX10_isWalker_17 : decode cX10_isWalker 17 = .ok (.ishr, 1) := by decide +kernel
theorem dX10_isWalker_18 : decode cX10_isWalker 18 = .ok (.iconst 1, 1) := by decide +kernel
theorem dX10_isWalker_19 : decode cX10_isWalker 19 = .ok (.iand, 1) := by decide +kernel
theorem dX10_isWalker_20 : decode cX10_isWalker 20 = .ok (.iconst 1, 1) := by decide +kernel
theorem dX10_isWalker_21 : decode cX10_isWalker 21 = .ok (.if_icmp .ne 7, 3) := by decide +kernel
theorem dX10_isWalker_24 : decode cX10_isWalker 24 = .ok (.iconst 1, 1) := by decide +kernel
theorem dX10_isWalker_25 : decode cX10_isWalker 25 = .ok (.goto 4, 3) := by decide +kernel
theorem dX10_isWalker_28 : decode cX10_isWalker 28 = .ok (.iconst 0, 1) := by decide +kernel
theorem dX10_isWalker_29 : decode cX10_isWalker 29 = .ok (.ireturn, 1) := by decide +kernel
def fn_X10_isWalker (c_t_walkers : Int32) (x1 : Int32) : Option (Int32) :=
  b1_ (fn_X10_in (Int32.toInt64 x1) 0 5) fun r1 =>
  if r1 = 0 then
    some 0
  else
    if ((c_t_walkers >>> (x1 &&& 31)) &&& 1) = 1 then
      some 1
    else
      some 0
set_option maxHeartbeats 4000000 in
set_option maxRecDepth 100000 in
theorem wn_X10_isWalker {p : Program} {l : Launch} {e : Env} {s : State} {m : MethodId} {args : Array Value} {below : List Frame} {meth : Method} {c : Code} {G : gw_} {A : Nat → Prop} {Q : State → Prop} {A_t : Nat} {A_t_steps : Nat} {A_t_wet : Nat} {A_t_where : Nat} {A_t_home : Nat} {A_t_light : Nat} {A_t_carries : Nat} {A_t_sightPlace : Nat} {A_t_sightLight : Nat} {A_t_pad : Nat} {A_t_act : Nat} {A_t_whose : Nat} {A_t_whom : Nat} {A_t_tens : Nat} {A_t_had : Nat} {A_t_leaves : Nat} {A_t_apart : Nat} {A_t_stop : Nat} {A_t_restOf : Nat} {A_t_group : Nat} {A_t_along : Nat} {A_t_kept : Nat} {A_t_isKept : Nat} {c_t_foggy : Int32} {c_t_walkers : Int32} {c_t_sights : Int32} {c_t_padMany : Int32} {c_t_acts : Int32} {c_t_spent : Int32} {c_t_walks : Int32} {c_t_badAct : Int32} {c_t_badWhy : Int32} {c_t_keptAt : Int32} {c_t_isWriting : Int32} {r : Int32} {x1 : Int32} (hC : cx_ p s m c G cX10_isWalker 2 RX10) (hret : ∀ (pc : Nat) (H : Heap) (locs : List Loc) (ls : Array Slot), narrow .boolean (.int r) = .int r → decode cX10_isWalker pc = .ok (.ireturn, 1) → wd_ G A s.heap [ob_ A_t 10 [.ref A_t_steps, .ref A_t_wet, .int c_t_foggy, .int c_t_walkers, .ref A_t_where, .ref A_t_home, .ref A_t_light, .ref A_t_carries, .ref A_t_sightPlace, .ref A_t_sightLight, .int c_t_sights, .ref A_t_pad, .int c_t_padMany, .ref A_t_act, .ref A_t_whose, .ref A_t_whom, .ref A_t_tens, .int c_t_acts, .int c_t_spent, .int c_t_walks, .ref A_t_had, .ref A_t_leaves, .int c_t_badAct, .int c_t_badWhy, .ref A_t_apart, .ref A_t_stop, .ref A_t_restOf, .ref A_t_group, .ref A_t_along, .ref A_t_kept, .ref A_t_isKept, .int c_t_keptAt, .int c_t_isWriting]] H locs → W p l e { frames := 1, cells := 0, slots := 0, locals := 25 } s m args below meth c H locs 0 0 Q (F0 m pc ls [.int r])) (hf : fn_X10_isWalker c_t_walkers x1 = some r) {H : Heap} {locs : List Loc} {ls : Array Slot} (hl : lv_has ls 2 [(0, .ref A_t), (1, .int x1)]) (hw : wd_ G A s.heap [ob_ A_t 10 [.ref A_t_steps, .ref A_t_wet, .int c_t_foggy, .int c_t_walkers, .ref A_t_where, .ref A_t_home, .ref A_t_light, .ref A_t_carries, .ref A_t_sightPlace, .ref A_t_sightLight, .int c_t_sights, .ref A_t_pad, .int c_t_padMany, .ref A_t_act, .ref A_t_whose, .ref A_t_whom, .ref A_t_tens, .int c_t_acts, .int c_t_spent, .int c_t_walks, .ref A_t_had, .ref A_t_leaves, .int c_t_badAct, .int c_t_badWhy, .ref A_t_apart, .ref A_t_stop, .ref A_t_restOf, .ref A_t_group, .ref A_t_along, .ref A_t_kept, .ref A_t_isKept, .int c_t_keptAt, .int c_t_isWriting]] H locs) : W p l e { frames := 1, cells := 0, slots := 0, locals := 25 } s m args below meth c H locs 0 0 Q (F0 m 0 ls []) := by
  have hx := hC.1
  have hb := hC.2.1
  unfold fn_X10_isWalker at hf
  refine lv_iload_n hx hb dX10_isWalker_0 rfl (lv_at hl 1 rfl) ?_
  refine lv_i2l hx hb dX10_isWalker_1 rfl ?_
  refine lv_lconst (v := 0) hx hb dX10_isWalker_2 (by decide) ?_
  refine g_ldc2 (v := 5) hC (tb4 122 rfl rfl) dX10_isWalker_3 ?_
  obtain ⟨r1, hq2, hf⟩ := b1_s hf
  refine g_cSi hC hw msX10_79 (cn_X10_in l G (Int32.toInt64 x1) 0 5 r1 hq2) [] rfl (by decide) rfl rfl hl.1 rfl (Nat.le_of_ble_eq_true rfl) ⟨Nat.le_of_ble_eq_true rfl, Nat.le_of_ble_eq_true rfl⟩ ⟨Nat.le_refl _, Nat.le_refl _⟩ dX10_isWalker_6 (fun H locs hw => ?_)
  have hw : wd_ G A s.heap [ob_ A_t 10 [.ref A_t_steps, .ref A_t_wet, .int c_t_foggy, .int c_t_walkers, .ref A_t_where, .ref A_t_home, .ref A_t_light, .ref A_t_carries, .ref A_t_sightPlace, .ref A_t_sightLight, .int c_t_sights, .ref A_t_pad, .int c_t_padMany, .ref A_t_act, .ref A_t_whose, .ref A_t_whom, .ref A_t_tens, .int c_t_acts, .int c_t_spent, .int c_t_walks, .ref A_t_had, .ref A_t_leaves, .int c_t_badAct, .int c_t_badWhy, .ref A_t_apart, .ref A_t_stop, .ref A_t_restOf, .ref A_t_group, .ref A_t_along, .ref A_t_kept, .ref A_t_isKept, .int c_t_keptAt, .int c_t_isWriting]] H locs := hw
  refine lv_if_eq (tgt := 28) hx hb dX10_isWalker_9 (by decide) (fun hc => ?_) (fun hc => ?_)
  · replace hf := it_t hc hf
    refine lv_iconst (v := 0) hx hb dX10_isWalker_28 (by decide) ?_
    cases hf
    exact hret _ _ _ _ rfl dX10_isWalker_29 hw
  · replace hf := it_f hc hf
    refine lv_aload_n hx hb dX10_isWalker_12 rfl (lv_at hl 0 rfl) ?_
    refine g_get hC hw fkX10_85 0 rfl rfl dX10_isWalker_13 ?_
    refine lv_iload_n hx hb dX10_isWalker_16 rfl (lv_at hl 1 rfl) ?_
    refine lv_ishr hx hb dX10_isWalker_17 ?_
    refine lv_iconst (v := 1) hx hb dX10_isWalker_18 (by decide) ?_
    refine lv_iand hx hb dX10_isWalker_19 ?_
    refine lv_iconst (v := 1) hx hb dX10_isWalker_20 (by decide) ?_
    refine lv_icmp_ne (tgt := 28) hx hb dX10_isWalker_21 (by decide) (fun hc => ?_) (fun hc => ?_)
    · replace hf := it_f hc hf
      refine lv_iconst (v := 0) hx hb dX10_isWalker_28 (by decide) ?_
      cases hf
      exact hret _ _ _ _ rfl dX10_isWalker_29 hw
    · replace hf := it_t hc hf
      refine lv_iconst (v := 1) hx hb dX10_isWalker_24 (by decide) ?_
      refine lv_goto (tgt := 29) hx hb dX10_isWalker_25 (by decide) ?_
      cases hf
      exact hret _ _ _ _ rfl dX10_isWalker_29 hw
set_option maxHeartbeats 4000000 in
set_option maxRecDepth 100000 in
theorem cn_X10_isWalker (l : Launch) (G : gw_) (A_t : Nat) (A_t_steps : Nat) (A_t_wet : Nat) (A_t_where : Nat) (A_t_home : Nat) (A_t_light : Nat) (A_t_carries : Nat) (A_t_sightPlace : Nat) (A_t_sightLight : Nat) (A_t_pad : Nat) (A_t_act : Nat) (A_t_whose : Nat) (A_t_whom : Nat) (A_t_tens : Nat) (A_t_had : Nat) (A_t_leaves : Nat) (A_t_apart : Nat) (A_t_stop : Nat) (A_t_restOf : Nat) (A_t_group : Nat) (A_t_along : Nat) (A_t_kept : Nat) (A_t_isKept : Nat) (c_t_foggy : Int32) (c_t_walkers : Int32) (c_t_sights : Int32) (c_t_padMany : Int32) (c_t_acts : Int32) (c_t_spent : Int32) (c_t_walks : Int32) (c_t_badAct : Int32) (c_t_badWhy : Int32) (c_t_keptAt : Int32) (c_t_isWriting : Int32) (x1 : Int32) (r : Int32) (hf : fn_X10_isWalker c_t_walkers x1 = some r) : ci_ l G yX10_isWalker cX10_isWalker 2 (some .boolean) 1 25 [ob_ A_t 10 [.ref A_t_steps, .ref A_t_wet, .int c_t_foggy, .int c_t_walkers, .ref A_t_where, .ref A_t_home, .ref A_t_light, .ref A_t_carries, .ref A_t_sightPlace, .ref A_t_sightLight, .int c_t_sights, .ref A_t_pad, .int c_t_padMany, .ref A_t_act, .ref A_t_whose, .ref A_t_whom, .ref A_t_tens, .int c_t_acts, .int c_t_spent, .int c_t_walks, .ref A_t_had, .ref A_t_leaves, .int c_t_badAct, .int c_t_badWhy, .ref A_t_apart, .ref A_t_stop, .ref A_t_restOf, .ref A_t_group, .ref A_t_along, .ref A_t_kept, .ref A_t_isKept, .int c_t_keptAt, .int c_t_isWriting]] [.ref A_t, .int x1] r [ob_ A_t 10 [.ref A_t_steps, .ref A_t_wet, .int c_t_foggy, .int c_t_walkers, .ref A_t_where, .ref A_t_home, .ref A_t_light, .ref A_t_carries, .ref A_t_sightPlace, .ref A_t_sightLight, .int c_t_sights, .ref A_t_pad, .int c_t_padMany, .ref A_t_act, .ref A_t_whose, .ref A_t_whom, .ref A_t_tens, .int c_t_acts, .int c_t_spent, .int c_t_walks, .ref A_t_had, .ref A_t_leaves, .int c_t_badAct, .int c_t_badWhy, .ref A_t_apart, .ref A_t_stop, .ref A_t_restOf, .ref A_t_group, .ref A_t_along, .ref A_t_kept, .ref A_t_isKept, .int c_t_keptAt, .int c_t_isWriting]] := fun sz => met_intro (by decide) (Nat.le_of_ble_eq_true rfl) (fun p e s m args below meth c ls hsz hC hr hlk hnm hl hw => wn_X10_isWalker hC (fun pc H locs ls hn hd hw => g_iret hC hr hlk hw rfl hn hd) hf hl hw)

theorem dX10_costIn_0 : decode cX10_costIn 0 = .ok (.aload_n 0, 1) := by decide +kernel
theorem dX10_costIn_1 : decode cX10_costIn 1 = .ok (.getfield 7, 3) := by decide +kernel
theorem dX10_costIn_4 : decode cX10_costIn 4 = .ok (.iload_n 1, 1) := by decide +kernel
theorem dX10_costIn_5 : decode cX10_costIn 5 = .ok (.iload_n 2, 1) := by decide +kernel
theorem dX10_costIn_6 : decode cX10_costIn 6 = .ok (.invokestatic 89, 3) := by decide +kernel
theorem dX10_costIn_9 : decode cX10_costIn 9 = .ok (.iaload, 1) := by decide +kernel
theorem dX10_costIn_10 : decode cX10_costIn 10 = .ok (.istore 4, 2) := by decide +kernel
theorem dX10_costIn_12 : decode cX10_costIn 12 = .ok (.iload 4, 2) := by decide +kernel
theorem dX10_costIn_14 : decode cX10_costIn 14 = .ok (.ifCond .ne 8, 3) := by decide +kernel
theorem dX10_costIn_17 : decode cX10_costIn 17 = .ok (.bipush (-6), 2) := by decide +kernel
theorem dX10_costIn_19 : decode cX10_costIn 19 = .ok (.goto 22, 3) := by decide +kernel
theorem dX10_costIn_22 : decode cX10_costIn 22 = .ok (.iload 4, 2) := by decide +kernel
theorem dX10_costIn_24 : decode cX10_costIn 24 = .ok (.aload_n 0, 1) := by decide +kernel
theorem dX10_costIn_25 : decode cX10_costIn 25 = .ok (.getfield 13, 3) := by decide +kernel
theorem dX10_costIn_28 : decode cX10_costIn 28 = .ok (.iload_n 1, 1) := by decide +kernel
theorem dX10_costIn_29 : decode cX10_costIn 29 = .ok (.iload_n 2, 1) := by decide +kernel
theorem dX10_costIn_30 : decode cX10_costIn 30 = .ok (.invokestatic 89, 3) := by decide +kernel
theorem dX10_costIn_33 : decode cX10_costIn 33 = .ok (.iaload, 1) := by decide +kernel
theorem dX10_costIn_34 : decode cX10_costIn 34 = .ok (.iconst 1, 1) := by decide +kernel
theorem dX10_costIn_35 : decode cX10_costIn 35 = .ok (.iadd, 1) := by decide +kernel
theorem dX10_costIn_36 : decode cX10_costIn 36 = .ok (.imul, 1) := by decide +kernel
theorem dX10_costIn_37 : decode cX10_costIn 37 = .ok (.iload_n 3, 1) := by decide +kernel
theorem dX10_costIn_38 : decode cX10_costIn 38 = .ok (.iconst 1, 1) := by decide +kernel
theorem dX10_costIn_39 : decode cX10_costIn 39 = .ok (.iadd, 1) := by decide +kernel
theorem dX10_costIn_40 : decode cX10_costIn 40 = .ok (.imul, 1) := by decide +kernel
theorem dX10_costIn_41 : decode cX10_costIn 41 = .ok (.ireturn, 1) := by decide +kernel
def fn_X10_costIn (c_t_steps : Nat → Int32) (c_t_wet : Nat → Int32) (x1 : Int32) (x2 : Int32) (x3 : Int32) : Option (Int32) :=
  b1_ (fn_X10_at x1 x2) fun r1 =>
  ck_ r1 144 <|
  lx_ (c_t_steps (Int32.toNatClampNeg r1)) fun y3 =>
  if y3 = 0 then
    some (-6)
  else
    b1_ (fn_X10_at x1 x2) fun r4 =>
    ck_ r4 144 <|
    some ((y3 * ((c_t_wet (Int32.toNatClampNeg r4)) + 1)) * (x3 + 1))
set_option maxHeartbeats 4000000 in
set_option maxRecDepth 100000 in
theorem wn_X10_costIn {p : Program} {l : Launch} {e : Env} {s : State} {m : MethodId} {args : Array Value} {below : List Frame} {meth : Method} {c : Code} {G : gw_} {A : Nat → Prop} {Q : State → Prop} {A_t : Nat} {A_t_steps : Nat} {A_t_wet : Nat} {A_t_where : Nat} {A_t_home : Nat} {A_t_light : Nat} {A_t_carries : Nat} {A_t_sightPlace : Nat} {A_t_sightLight : Nat} {A_t_pad : Nat} {A_t_act : Nat} {A_t_whose : Nat} {A_t_whom : Nat} {A_t_tens : Nat} {A_t_had : Nat} {A_t_leaves : Nat} {A_t_apart : Nat} {A_t_stop : Nat} {A_t_restOf : Nat} {A_t_group : Nat} {A_t_along : Nat} {A_t_kept : Nat} {A_t_isKept : Nat} {c_t_foggy : Int32} {c_t_walkers : Int32} {c_t_sights : Int32} {c_t_padMany : Int32} {c_t_acts : Int32} {c_t_spent : Int32} {c_t_walks : Int32} {c_t_badAct : Int32} {c_t_badWhy : Int32} {c_t_keptAt : Int32} {c_t_isWriting : Int32} {c_t_steps : Nat → Int32} {c_t_wet : Nat → Int32} {r : Int32} {x1 : Int32} {x2 : Int32} {x3 : Int32} (hC : cx_ p s m c G cX10_costIn 5 RX10) (hret : ∀ (pc : Nat) (H : Heap) (locs : List Loc) (ls : Array Slot), decode cX10_costIn pc = .ok (.ireturn, 1) → wd_ G A s.heap [ob_ A_t 10 [.ref A_t_steps, .ref A_t_wet, .int c_t_foggy, .int c_t_walkers, .ref A_t_where, .ref A_t_home, .ref A_t_light, .ref A_t_carries, .ref A_t_sightPlace, .ref A_t_sightLight, .int c_t_sights, .ref A_t_pad, .int c_t_padMany, .ref A_t_act, .ref A_t_whose, .ref A_t_whom, .ref A_t_tens, .int c_t_acts, .int c_t_spent, .int c_t_walks, .ref A_t_had, .ref A_t_leaves, .int c_t_badAct, .int c_t_badWhy, .ref A_t_apart, .ref A_t_stop, .ref A_t_restOf, .ref A_t_group, .ref A_t_along, .ref A_t_kept, .ref A_t_isKept, .int c_t_keptAt, .int c_t_isWriting], ia_ G A_t_steps 144 c_t_steps, ia_ G A_t_wet 144 c_t_wet] H locs → W p l e { frames := 1, cells := 0, slots := 0, locals := 21 } s m args below meth c H locs 0 0 Q (F0 m pc ls [.int r])) (hf : fn_X10_costIn c_t_steps c_t_wet x1 x2 x3 = some r) {H : Heap} {locs : List Loc} {ls : Array Slot} (hl : lv_has ls 5 [(0, .ref A_t), (1, .int x1), (2, .int x2), (3, .int x3)]) (hw : wd_ G A s.heap [ob_ A_t 10 [.ref A_t_steps, .ref A_t_wet, .int c_t_foggy, .int c_t_walkers, .ref A_t_where, .ref A_t_home, .ref A_t_light, .ref A_t_carries, .ref A_t_sightPlace, .ref A_t_sightLight, .int c_t_sights, .ref A_t_pad, .int c_t_padMany, .ref A_t_act, .ref A_t_whose, .ref A_t_whom, .ref A_t_tens, .int c_t_acts, .int c_t_spent, .int c_t_walks, .ref A_t_had, .ref A_t_leaves, .int c_t_badAct, .int c_t_badWhy, .ref A_t_apart, .ref A_t_stop, .ref A_t_restOf, .ref A_t_group, .ref A_t_along, .ref A_t_kept, .ref A_t_isKept, .int c_t_keptAt, .int c_t_isWriting], ia_ G A_t_steps 144 c_t_steps, ia_ G A_t_wet 144 c_t_wet] H locs) : W p l e { frames := 1, cells := 0, slots := 0, locals := 21 } s m args below meth c H locs 0 0 Q (F0 m 0 ls []) := by
  have hx := hC.1
  have hb := hC.2.1
  unfold fn_X10_costIn at hf
  refine lv_aload_n hx hb dX10_costIn_0 rfl (lv_at hl 0 rfl) ?_
  refine g_get hC hw fkX10_7 0 rfl rfl dX10_costIn_1 ?_
  refine lv_iload_n hx hb dX10_costIn_4 rfl (lv_at hl 1 rfl) ?_
  refine lv_iload_n hx hb dX10_costIn_5 rfl (lv_at hl 2 rfl) ?_
  obtain ⟨r1, hq2, hf⟩ := b1_s hf
  refine g_cSi hC hw msX10_89 (cn_X10_at l G x1 x2 r1 hq2) [] rfl (by decide) rfl rfl hl.1 rfl (Nat.le_of_ble_eq_true rfl) ⟨Nat.le_of_ble_eq_true rfl, Nat.le_of_ble_eq_true rfl⟩ ⟨Nat.le_refl _, Nat.le_refl _⟩ dX10_costIn_6 (fun H locs hw => ?_)
  have hw : wd_ G A s.heap [ob_ A_t 10 [.ref A_t_steps, .ref A_t_wet, .int c_t_foggy, .int c_t_walkers, .ref A_t_where, .ref A_t_home, .ref A_t_light, .ref A_t_carries, .ref A_t_sightPlace, .ref A_t_sightLight, .int c_t_sights, .ref A_t_pad, .int c_t_padMany, .ref A_t_act, .ref A_t_whose, .ref A_t_whom, .ref A_t_tens, .int c_t_acts, .int c_t_spent, .int c_t_walks, .ref A_t_had, .ref A_t_leaves, .int c_t_badAct, .int c_t_badWhy, .ref A_t_apart, .ref A_t_stop, .ref A_t_restOf, .ref A_t_group, .ref A_t_along, .ref A_t_kept, .ref A_t_isKept, .int c_t_keptAt, .int c_t_isWriting], ia_ G A_t_steps 144 c_t_steps, ia_ G A_t_wet 144 c_t_wet] H locs := hw
  obtain ⟨hi, hf⟩ := ck_s hf
  refine g_iald hC hw 1 rfl hi dX10_costIn_9 ?_
  obtain ⟨y3, ey3, hf⟩ := lx_s hf
  rw [← ey3]
  refine lv_istore (lv' := [(4, .int y3), (0, .ref A_t), (1, .int x1), (2, .int x2), (3, .int x3)]) hx hb dX10_costIn_10 hl (by decide) rfl (fun ls hl => ?_)
  refine lv_iload hx hb dX10_costIn_12 (lv_at hl 0 rfl) ?_
  refine lv_if_ne (tgt := 22) hx hb dX10_costIn_14 (by decide) (fun hc => ?_) (fun hc => ?_)
  · replace hf := it_f hc hf
    refine lv_iload hx hb dX10_costIn_22 (lv_at hl 0 rfl) ?_
    refine lv_aload_n hx hb dX10_costIn_24 rfl (lv_at hl 1 rfl) ?_
    refine g_get hC hw fkX10_13 0 rfl rfl dX10_costIn_25 ?_
    refine lv_iload_n hx hb dX10_costIn_28 rfl (lv_at hl 2 rfl) ?_
    refine lv_iload_n hx hb dX10_costIn_29 rfl (lv_at hl 3 rfl) ?_
    obtain ⟨r4, hq5, hf⟩ := b1_s hf
    refine g_cSi hC hw msX10_89 (cn_X10_at l G x1 x2 r4 hq5) [] rfl (by decide) rfl rfl hl.1 rfl (Nat.le_of_ble_eq_true rfl) ⟨Nat.le_of_ble_eq_true rfl, Nat.le_of_ble_eq_true rfl⟩ ⟨Nat.le_refl _, Nat.le_refl _⟩ dX10_costIn_30 (fun H locs hw => ?_)
    have hw : wd_ G A s.heap [ob_ A_t 10 [.ref A_t_steps, .ref A_t_wet, .int c_t_foggy, .int c_t_walkers, .ref A_t_where, .ref A_t_home, .ref A_t_light, .ref A_t_carries, .ref A_t_sightPlace, .ref A_t_sightLight, .int c_t_sights, .ref A_t_pad, .int c_t_padMany, .ref A_t_act, .ref A_t_whose, .ref A_t_whom, .ref A_t_tens, .int c_t_acts, .int c_t_spent, .int c_t_walks, .ref A_t_had, .ref A_t_leaves, .int c_t_badAct, .int c_t_badWhy, .ref A_t_apart, .ref A_t_stop, .ref A_t_restOf, .ref A_t_group, .ref A_t_along, .ref A_t_kept, .ref A_t_isKept, .int c_t_keptAt, .int c_t_isWriting], ia_ G A_t_steps 144 c_t_steps, ia_ G A_t_wet 144 c_t_wet] H locs := hw
    obtain ⟨hi, hf⟩ := ck_s hf
    refine g_iald hC hw 2 rfl hi dX10_costIn_33 ?_
    refine lv_iconst (v := 1) hx hb dX10_costIn_34 (by decide) ?_
    refine lv_iadd hx hb dX10_costIn_35 ?_
    refine lv_imul hx hb dX10_costIn_36 ?_
    refine lv_iload_n hx hb dX10_costIn_37 rfl (lv_at hl 4 rfl) ?_
    refine lv_iconst (v := 1) hx hb dX10_costIn_38 (by decide) ?_
    refine lv_iadd hx hb dX10_costIn_39 ?_
    refine lv_imul hx hb dX10_costIn_40 ?_
    cases hf
    exact hret _ _ _ _ dX10_costIn_41 hw
  · replace hf := it_t hc hf
    refine lv_bipush (v := (-6)) hx hb dX10_costIn_17 (by decide) ?_
    refine lv_goto (tgt := 41) hx hb dX10_costIn_19 (by decide) ?_
    cases hf
    exact hret _ _ _ _ dX10_costIn_41 hw
set_option maxHeartbeats 4000000 in
set_option maxRecDepth 100000 in
theorem cn_X10_costIn (l : Launch) (G : gw_) (A_t : Nat) (A_t_steps : Nat) (A_t_wet : Nat) (A_t_where : Nat) (A_t_home : Nat) (A_t_light : Nat) (A_t_carries : Nat) (A_t_sightPlace : Nat) (A_t_sightLight : Nat) (A_t_pad : Nat) (A_t_act : Nat) (A_t_whose : Nat) (A_t_whom : Nat) (A_t_tens : Nat) (A_t_had : Nat) (A_t_leaves : Nat) (A_t_apart : Nat) (A_t_stop : Nat) (A_t_restOf : Nat) (A_t_group : Nat) (A_t_along : Nat) (A_t_kept : Nat) (A_t_isKept : Nat) (c_t_foggy : Int32) (c_t_walkers : Int32) (c_t_sights : Int32) (c_t_padMany : Int32) (c_t_acts : Int32) (c_t_spent : Int32) (c_t_walks : Int32) (c_t_badAct : Int32) (c_t_badWhy : Int32) (c_t_keptAt : Int32) (c_t_isWriting : Int32) (c_t_steps : Nat → Int32) (c_t_wet : Nat → Int32) (x1 : Int32) (x2 : Int32) (x3 : Int32) (r : Int32) (hf : fn_X10_costIn c_t_steps c_t_wet x1 x2 x3 = some r) : ci_ l G yX10_costIn cX10_costIn 5 (some .int) 1 21 [ob_ A_t 10 [.ref A_t_steps, .ref A_t_wet, .int c_t_foggy, .int c_t_walkers, .ref A_t_where, .ref A_t_home, .ref A_t_light, .ref A_t_carries, .ref A_t_sightPlace, .ref A_t_sightLight, .int c_t_sights, .ref A_t_pad, .int c_t_padMany, .ref A_t_act, .ref A_t_whose, .ref A_t_whom, .ref A_t_tens, .int c_t_acts, .int c_t_spent, .int c_t_walks, .ref A_t_had, .ref A_t_leaves, .int c_t_badAct, .int c_t_badWhy, .ref A_t_apart, .ref A_t_stop, .ref A_t_restOf, .ref A_t_group, .ref A_t_along, .ref A_t_kept, .ref A_t_isKept, .int c_t_keptAt, .int c_t_isWriting], ia_ G A_t_steps 144 c_t_steps, ia_ G A_t_wet 144 c_t_wet] [.ref A_t, .int x1, .int x2, .int x3] r [ob_ A_t 10 [.ref A_t_steps, .ref A_t_wet, .int c_t_foggy, .int c_t_walkers, .ref A_t_where, .ref A_t_home, .ref A_t_light, .ref A_t_carries, .ref A_t_sightPlace, .ref A_t_sightLight, .int c_t_sights, .ref A_t_pad, .int c_t_padMany, .ref A_t_act, .ref A_t_whose, .ref A_t_whom, .ref A_t_tens, .int c_t_acts, .int c_t_spent, .int c_t_walks, .ref A_t_had, .ref A_t_leaves, .int c_t_badAct, .int c_t_badWhy, .ref A_t_apart, .ref A_t_stop, .ref A_t_restOf, .ref A_t_group, .ref A_t_along, .ref A_t_kept, .ref A_t_isKept, .int c_t_keptAt, .int c_t_isWriting], ia_ G A_t_steps 144 c_t_steps, ia_ G A_t_wet 144 c_t_wet] := fun sz => met_intro (by decide) (Nat.le_of_ble_eq_true rfl) (fun p e s m args below meth c ls hsz hC hr hlk hnm hl hw => wn_X10_costIn hC (fun pc H locs ls hd hw => g_iret hC hr hlk hw rfl rfl hd) hf hl hw)

theorem dX10_cost_0 : decode cX10_cost 0 = .ok (.aload_n 0, 1) := by decide +kernel
theorem dX10_cost_1 : decode cX10_cost 1 = .ok (.iload_n 1, 1) := by decide +kernel
theorem dX10_cost_2 : decode cX10_cost 2 = .ok (.iload_n 2, 1) := by decide +kernel
theorem dX10_cost_3 : decode cX10_cost 3 = .ok (.aload_n 0, 1) := by decide +kernel
theorem dX10_cost_4 : decode cX10_cost 4 = .ok (.getfield 93, 3) := by decide +kernel
theorem dX10_cost_7 : decode cX10_cost 7 = .ok (.invokevirtual 96, 3) := by decide +kernel
theorem dX10_cost_10 : decode cX10_cost 10 = .ok (.ireturn, 1) := by decide +kernel
def fn_X10_cost (c_t_foggy : Int32) (c_t_steps : Nat → Int32) (c_t_wet : Nat → Int32) (x1 : Int32) (x2 : Int32) : Option (Int32) :=
  b1_ (fn_X10_costIn c_t_steps c_t_wet x1 x2 c_t_foggy) fun r1 =>
  some r1
set_option maxHeartbeats 4000000 in
set_option maxRecDepth 100000 in
theorem wn_X10_cost {p : Program} {l : Launch} {e : Env} {s : State} {m : MethodId} {args : Array Value} {below : List Frame} {meth : Method} {c : Code} {G : gw_} {A : Nat → Prop} {Q : State → Prop} {A_t : Nat} {A_t_steps : Nat} {A_t_wet : Nat} {A_t_where : Nat} {A_t_home : Nat} {A_t_light : Nat} {A_t_carries : Nat} {A_t_sightPlace : Nat} {A_t_sightLight : Nat} {A_t_pad : Nat} {A_t_act : Nat} {A_t_whose : Nat} {A_t_whom : Nat} {A_t_tens : Nat} {A_t_had : Nat} {A_t_leaves : Nat} {A_t_apart : Nat} {A_t_stop : Nat} {A_t_restOf : Nat} {A_t_group : Nat} {A_t_along : Nat} {A_t_kept : Nat} {A_t_isKept : Nat} {c_t_foggy : Int32} {c_t_walkers : Int32} {c_t_sights : Int32} {c_t_padMany : Int32} {c_t_acts : Int32} {c_t_spent : Int32} {c_t_walks : Int32} {c_t_badAct : Int32} {c_t_badWhy : Int32} {c_t_keptAt : Int32} {c_t_isWriting : Int32} {c_t_steps : Nat → Int32} {c_t_wet : Nat → Int32} {r : Int32} {x1 : Int32} {x2 : Int32} (hC : cx_ p s m c G cX10_cost 3 RX10) (hret : ∀ (pc : Nat) (H : Heap) (locs : List Loc) (ls : Array Slot), decode cX10_cost pc = .ok (.ireturn, 1) → wd_ G A s.heap [ob_ A_t 10 [.ref A_t_steps, .ref A_t_wet, .int c_t_foggy, .int c_t_walkers, .ref A_t_where, .ref A_t_home, .ref A_t_light, .ref A_t_carries, .ref A_t_sightPlace, .ref A_t_sightLight, .int c_t_sights, .ref A_t_pad, .int c_t_padMany, .ref A_t_act, .ref A_t_whose, .ref A_t_whom, .ref A_t_tens, .int c_t_acts, .int c_t_spent, .int c_t_walks, .ref A_t_had, .ref A_t_leaves, .int c_t_badAct, .int c_t_badWhy, .ref A_t_apart, .ref A_t_stop, .ref A_t_restOf, .ref A_t_group, .ref A_t_along, .ref A_t_kept, .ref A_t_isKept, .int c_t_keptAt, .int c_t_isWriting], ia_ G A_t_steps 144 c_t_steps, ia_ G A_t_wet 144 c_t_wet] H locs → W p l e { frames := 2, cells := 0, slots := 0, locals := 45 } s m args below meth c H locs 0 0 Q (F0 m pc ls [.int r])) (hf : fn_X10_cost c_t_foggy c_t_steps c_t_wet x1 x2 = some r) {H : Heap} {locs : List Loc} {ls : Array Slot} (hl : lv_has ls 3 [(0, .ref A_t), (1, .int x1), (2, .int x2)]) (hw : wd_ G A s.heap [ob_ A_t 10 [.ref A_t_steps, .ref A_t_wet, .int c_t_foggy, .int c_t_walkers, .ref A_t_where, .ref A_t_home, .ref A_t_light, .ref A_t_carries, .ref A_t_sightPlace, .ref A_t_sightLight, .int c_t_sights, .ref A_t_pad, .int c_t_padMany, .ref A_t_act, .ref A_t_whose, .ref A_t_whom, .ref A_t_tens, .int c_t_acts, .int c_t_spent, .int c_t_walks, .ref A_t_had, .ref A_t_leaves, .int c_t_badAct, .int c_t_badWhy, .ref A_t_apart, .ref A_t_stop, .ref A_t_restOf, .ref A_t_group, .ref A_t_along, .ref A_t_kept, .ref A_t_isKept, .int c_t_keptAt, .int c_t_isWriting], ia_ G A_t_steps 144 c_t_steps, ia_ G A_t_wet 144 c_t_wet] H locs) : W p l e { frames := 2, cells := 0, slots := 0, locals := 45 } s m args below meth c H locs 0 0 Q (F0 m 0 ls []) := by
  have hx := hC.1
  have hb := hC.2.1
  unfold fn_X10_cost at hf
  refine lv_aload_n hx hb dX10_cost_0 rfl (lv_at hl 0 rfl) ?_
  refine lv_iload_n hx hb dX10_cost_1 rfl (lv_at hl 1 rfl) ?_
  refine lv_iload_n hx hb dX10_cost_2 rfl (lv_at hl 2 rfl) ?_
  refine lv_aload_n hx hb dX10_cost_3 rfl (lv_at hl 0 rfl) ?_
  refine g_get hC hw fkX10_93 0 rfl rfl dX10_cost_4 ?_
  obtain ⟨r1, hq2, hf⟩ := b1_s hf
  refine g_cVi hC hw mvX10_96 (cn_X10_costIn l G A_t A_t_steps A_t_wet A_t_where A_t_home A_t_light A_t_carries A_t_sightPlace A_t_sightLight A_t_pad A_t_act A_t_whose A_t_whom A_t_tens A_t_had A_t_leaves A_t_apart A_t_stop A_t_restOf A_t_group A_t_along A_t_kept A_t_isKept c_t_foggy c_t_walkers c_t_sights c_t_padMany c_t_acts c_t_spent c_t_walks c_t_badAct c_t_badWhy c_t_keptAt c_t_isWriting c_t_steps c_t_wet x1 x2 c_t_foggy r1 hq2) [0, 1, 2] rfl (by decide) rfl 0 rfl rfl rfl hl.1 rfl (Nat.le_of_ble_eq_true rfl) ⟨Nat.le_of_ble_eq_true rfl, Nat.le_of_ble_eq_true rfl⟩ ⟨Nat.le_refl _, Nat.le_refl _⟩ dX10_cost_7 (fun H locs hw => ?_)
  have hw : wd_ G A s.heap [ob_ A_t 10 [.ref A_t_steps, .ref A_t_wet, .int c_t_foggy, .int c_t_walkers, .ref A_t_where, .ref A_t_home, .ref A_t_light, .ref A_t_carries, .ref A_t_sightPlace, .ref A_t_sightLight, .int c_t_sights, .ref A_t_pad, .int c_t_padMany, .ref A_t_act, .ref A_t_whose, .ref A_t_whom, .ref A_t_tens, .int c_t_acts, .int c_t_spent, .int c_t_walks, .ref A_t_had, .ref A_t_leaves, .int c_t_badAct, .int c_t_badWhy, .ref A_t_apart, .ref A_t_stop, .ref A_t_restOf, .ref A_t_group, .ref A_t_along, .ref A_t_kept, .ref A_t_isKept, .int c_t_keptAt, .int c_t_isWriting], ia_ G A_t_steps 144 c_t_steps, ia_ G A_t_wet 144 c_t_wet] H locs := hw
  cases hf
  exact hret _ _ _ _ dX10_cost_10 hw
set_option maxHeartbeats 4000000 in
set_option maxRecDepth 100000 in
theorem cn_X10_cost (l : Launch) (G : gw_) (A_t : Nat) (A_t_steps : Nat) (A_t_wet : Nat) (A_t_where : Nat) (A_t_home : Nat) (A_t_light : Nat) (A_t_carries : Nat) (A_t_sightPlace : Nat) (A_t_sightLight : Nat) (A_t_pad : Nat) (A_t_act : Nat) (A_t_whose : Nat) (A_t_whom : Nat) (A_t_tens : Nat) (A_t_had : Nat) (A_t_leaves : Nat) (A_t_apart : Nat) (A_t_stop : Nat) (A_t_restOf : Nat) (A_t_group : Nat) (A_t_along : Nat) (A_t_kept : Nat) (A_t_isKept : Nat) (c_t_foggy : Int32) (c_t_walkers : Int32) (c_t_sights : Int32) (c_t_padMany : Int32) (c_t_acts : Int32) (c_t_spent : Int32) (c_t_walks : Int32) (c_t_badAct : Int32) (c_t_badWhy : Int32) (c_t_keptAt : Int32) (c_t_isWriting : Int32) (c_t_steps : Nat → Int32) (c_t_wet : Nat → Int32) (x1 : Int32) (x2 : Int32) (r : Int32) (hf : fn_X10_cost c_t_foggy c_t_steps c_t_wet x1 x2 = some r) : ci_ l G yX10_cost cX10_cost 3 (some .int) 2 45 [ob_ A_t 10 [.ref A_t_steps, .ref A_t_wet, .int c_t_foggy, .int c_t_walkers, .ref A_t_where, .ref A_t_home, .ref A_t_light, .ref A_t_carries, .ref A_t_sightPlace, .ref A_t_sightLight, .int c_t_sights, .ref A_t_pad, .int c_t_padMany, .ref A_t_act, .ref A_t_whose, .ref A_t_whom, .ref A_t_tens, .int c_t_acts, .int c_t_spent, .int c_t_walks, .ref A_t_had, .ref A_t_leaves, .int c_t_badAct, .int c_t_badWhy, .ref A_t_apart, .ref A_t_stop, .ref A_t_restOf, .ref A_t_group, .ref A_t_along, .ref A_t_kept, .ref A_t_isKept, .int c_t_keptAt, .int c_t_isWriting], ia_ G A_t_steps 144 c_t_steps, ia_ G A_t_wet 144 c_t_wet] [.ref A_t, .int x1, .int x2] r [ob_ A_t 10 [.ref A_t_steps, .ref A_t_wet, .int c_t_foggy, .int c_t_walkers, .ref A_t_where, .ref A_t_home, .ref A_t_light, .ref A_t_carries, .ref A_t_sightPlace, .ref A_t_sightLight, .int c_t_sights, .ref A_t_pad, .int c_t_padMany, .ref A_t_act, .ref A_t_whose, .ref A_t_whom, .ref A_t_tens, .int c_t_acts, .int c_t_spent, .int c_t_walks, .ref A_t_had, .ref A_t_leaves, .int c_t_badAct, .int c_t_badWhy, .ref A_t_apart, .ref A_t_stop, .ref A_t_restOf, .ref A_t_group, .ref A_t_along, .ref A_t_kept, .ref A_t_isKept, .int c_t_keptAt, .int c_t_isWriting], ia_ G A_t_steps 144 c_t_steps, ia_ G A_t_wet 144 c_t_wet] := fun sz => met_intro (by decide) (Nat.le_of_ble_eq_true rfl) (fun p e s m args below meth c ls hsz hC hr hlk hnm hl hw => wn_X10_cost hC (fun pc H locs ls hd hw => g_iret hC hr hlk hw rfl rfl hd) hf hl hw)

theorem dX10_plank_0 : decode cX10_plank 0 = .ok (.iload_n 1, 1) := by decide +kernel
theorem dX10_plank_1 : decode cX10_plank 1 = .ok (.invokestatic 100, 3) := by decide +kernel
theorem dX10_plank_4 : decode cX10_plank 4 = .ok (.ifCond .eq 15, 3) := by decide +kernel
theorem dX10_plank_7 : decode cX10_plank 7 = .ok (.iload_n 2, 1) := by decide +kernel
theorem dX10_plank_8 : decode cX10_plank 8 = .ok (.invokestatic 100, 3) := by decide +kernel
theorem dX10_plank_11 : decode cX10_plank 11 = .ok (.ifCond .eq 8, 3) := by decide +kernel
theorem dX10_plank_14 : decode cX10_plank 14 = .ok (.iload_n 1, 1) := by decide +kernel
theorem dX10_plank_15 : decode cX10_plank 15 = .ok (.iload_n 2, 1) := by decide +kernel
theorem dX10_plank_16 : decode cX10_plank 16 = .ok (.if_icmp .ne 5, 3) := by decide +kernel
theorem dX10_plank_19 : decode cX10_plank 19 = .ok (.iconst (-1), 1) := by decide +kernel
theorem dX10_plank_20 : decode cX10_plank 20 = .ok (.ireturn, 1) := by decide +kernel
theorem dX10_plank_21 : decode cX10_plank 21 = .ok (.iload_n 3, 1) := by decide +kernel
theorem dX10_plank_22 : decode cX10_plank 22 = .ok (.i2l, 1) := by decide +kernel
theorem dX10_plank_23 : decode cX10_plank 23 = .ok (.lconst 0, 1) := by decide +kernel
theorem dX10_plank_24 : decode cX10_plank 24 = .ok (.ldc2_w 104, 3) := by decide +kernel
theorem dX10_plank_27 : decode cX10_plank 27 = .ok (.invokestatic 79, 3) := by decide +kernel
theorem dX10_plank_30 : decode cX10_plank 30 = .ok (.ifCond .ne 6, 3) := by decide +kernel
theorem dX10_plank_33 : decode cX10_plank 33 = .ok (.bipush (-2), 2) := by decide +kernel
theorem dX10_plank_35 : decode cX10_plank 35 = .ok (.ireturn, 1) := by decide +kernel
theorem dX10_plank_36 : decode cX10_plank 36 = .ok (.aload_n 0, 1) := by decide +kernel
theorem dX10_plank_37 : decode cX10_plank 37 = .ok (.getfield 7, 3) := by decide +kernel
theorem dX10_plank_40 : decode cX10_plank 40 = .ok (.iload_n 1, 1) := by decide +kernel
theorem dX10_plank_41 : decode cX10_plank 41 = .ok (.iload_n 2, 1) := by decide +kernel
theorem dX10_plank_42 : decode cX10_plank 42 = .ok (.invokestatic 89, 3) := by decide +kernel
theorem dX10_plank_45 : decode cX10_plank 45 = .ok (.iaload, 1) := by decide +kernel
theorem dX10_plank_46 : decode cX10_plank 46 = .ok (.istore 5, 2) := by decide +kernel
theorem dX10_plank_48 : decode cX10_plank 48 = .ok (.aload_n 0, 1) := by decide +kernel
theorem dX10_plank_49 : decode cX10_plank 49 = .ok (.getfield 7, 3) := by decide +kernel
theorem dX10_plank_52 : decode cX10_plank 52 = .ok (.iload_n 1, 1) := by decide +kernel
theorem dX10_plank_53 : decode cX10_plank 53 = .ok (.iload_n 2, 1) := by decide +kernel
theorem dX10_plank_54 : decode cX10_plank 54 = .ok (.invokestatic 89, 3) := by decide +kernel
theorem dX10_plank_57 : decode cX10_plank 57 = .ok (.iload_n 3, 1) := by decide +kernel
theorem dX10_plank_58 : decode cX10_plank 58 = .ok (.iastore, 1) := by decide +kernel
theorem dX10_plank_59 : decode cX10_plank 59 = .ok (.aload_n 0, 1) := by decide +kernel
theorem dX10_plank_60 : decode cX10_plank 60 = .ok (.getfield 7, 3) := by decide +kernel
theorem dX10_plank_63 : decode cX10_plank 63 = .ok (.iload_n 2, 1) := by decide +kernel
theorem dX10_plank_64 : decode cX10_plank 64 = .ok (.iload_n 1, 1) := by decide +kernel
theorem dX10_plank_65 : decode cX10_plank 65 = .ok (.invokestatic 89, 3) := by decide +kernel
theorem dX10_plank_68 : decode cX10_plank 68 = .ok (.iload_n 3, 1) := by decide +kernel
theorem dX10_plank_69 : decode cX10_plank 69 = .ok (.iastore, 1) := by decide +kernel
theorem dX10_plank_70 : decode cX10_plank 70 = .ok (.aload_n 0, 1) := by decide +kernel
theorem dX10_plank_71 : decode cX10_plank 71 = .ok (.getfield 13, 3) := by decide +kernel
theorem dX10_plank_74 : decode cX10_plank 74 = .ok (.iload_n 1, 1) := by decide +kernel
theorem dX10_plank_75 : decode cX10_plank 75 = .ok (.iload_n 2, 1) := by decide +kernel
theorem dX10_plank_76 : decode cX10_plank 76 = .ok (.invokestatic 89, 3) := by decide +kernel
theorem dX10_plank_79 : decode cX10_plank 79 = .ok (.iload 4, 2) := by decide +kernel
theorem dX10_plank_81 : decode cX10_plank 81 = .ok (.ifCond .eq 7, 3) := by decide +kernel
theorem dX10_plank_84 : decode cX10_plank 84 = .ok (.iconst 1, 1) := by decide +kernel
theorem dX10_plank_85 : decode cX10_plank 85 = .ok (.goto 4, 3) := by decide +kernel
theorem dX10_plank_88 : decode cX10_plank 88 = .ok (.iconst 0, 1) := by decide +kernel
theorem dX10_plank_89 : decode cX10_plank 89 = .ok (.iastore, 1) := by decide +kernel
theorem dX10_plank_90 : decode cX10_plank 90 = .ok (.aload_n 0, 1) := by decide +kernel
theorem dX10_plank_91 : decode cX10_plank 91 = .ok (.getfield 13, 3) := by decide +kernel
theorem dX10_plank_94 : decode cX10_plank 94 = .ok (.iload_n 2, 1) := by decide +kernel
theorem dX10_plank_95 : decode cX10_plank 95 = .ok (.iload_n 1, 1) := by decide +kernel
theorem dX10_plank_96 : decode cX10_plank 96 = .ok (.invokestatic 89, 3) := by decide +kernel
theorem dX10_plank_99 : decode cX10_plank 99 = .ok (.iload 4, 2) := by decide +kernel
theorem dX10_plank_101 : decode cX10_plank 101 = .ok (.ifCond .eq 7, 3) := by decide +kernel
theorem dX10_plank_104 : decode cX10_plank 104 = .ok (.iconst 1, 1) := by decide +kernel
theorem dX10_plank_105 : decode cX10_plank 105 = .ok (.goto 4, 3) := by decide +kernel
theorem dX10_plank_108 : decode cX10_plank 108 = .ok (.iconst 0, 1) := by decide +kernel
theorem dX10_plank_109 : decode cX10_plank 109 = .ok (.iastore, 1) := by decide +kernel
theorem dX10_plank_110 : decode cX10_plank 110 = .ok (.iload 5, 2) := by decide +kernel
theorem dX10_plank_112 : decode cX10_plank 112 = .ok (.ireturn, 1) := by decide +kernel
def fn_X10_plank_j89 (c_t_steps : Nat → Int32) (c_t_wet : Nat → Int32) (x1 : Int32) (x2 : Int32) (x4 : Int32) (x5 : Int32) (s1 : Int32) (s2 : Int32)  : Option (Int32 × (Nat → Int32) × (Nat → Int32)) :=
  ck_ s1 144 <|
  lx_ (upd c_t_wet (Int32.toNatClampNeg s1) s2) fun f18 =>
  b1_ (fn_X10_at x2 x1) fun r19 =>
  if x4 = 0 then
    ck_ r19 144 <|
    lx_ (upd f18 (Int32.toNatClampNeg r19) 0) fun f21 =>
    some (x5, c_t_steps, f21)
  else
    ck_ r19 144 <|
    lx_ (upd f18 (Int32.toNatClampNeg r19) 1) fun f22 =>
    some (x5, c_t_steps, f22)
def fn_X10_plank (c_t_steps : Nat → Int32) (c_t_wet : Nat → Int32) (x1 : Int32) (x2 : Int32) (x3 : Int32) (x4 : Int32) : Option (Int32 × (Nat → Int32) × (Nat → Int32)) :=
  b1_ (fn_X10_isPlace x1) fun r1 =>
  if r1 = 0 then
    some ((-1), c_t_steps, c_t_wet)
  else
    b1_ (fn_X10_isPlace x2) fun r3 =>
    if r3 = 0 then
      some ((-1), c_t_steps, c_t_wet)
    else
      if x1 = x2 then
        some ((-1), c_t_steps, c_t_wet)
      else
        b1_ (fn_X10_in (Int32.toInt64 x3) 0 99) fun r5 =>
        if r5 = 0 then
          some ((-2), c_t_steps, c_t_wet)
        else
          b1_ (fn_X10_at x1 x2) fun r7 =>
          ck_ r7 144 <|
          lx_ (c_t_steps (Int32.toNatClampNeg r7)) fun y9 =>
          b1_ (fn_X10_at x1 x2) fun r10 =>
          ck_ r10 144 <|
          lx_ (upd c_t_steps (Int32.toNatClampNeg r10) x3) fun f12 =>
          b1_ (fn_X10_at x2 x1) fun r13 =>
          ck_ r13 144 <|
          lx_ (upd f12 (Int32.toNatClampNeg r13) x3) fun f15 =>
          b1_ (fn_X10_at x1 x2) fun r16 =>
          if x4 = 0 then
            fn_X10_plank_j89 f15 c_t_wet x1 x2 x4 y9 r16 0
          else
            fn_X10_plank_j89 f15 c_t_wet x1 x2 x4 y9 r16 1
set_option maxHeartbeats 4000000 in
set_option maxRecDepth 100000 in
theorem wn_X10_plank_j89 {p : Program} {l : Launch} {e : Env} {s : State} {m : MethodId} {args : Array Value} {below : List Frame} {meth : Method} {c : Code} {G : gw_} {A : Nat → Prop} {Q : State → Prop} {A_t : Nat} {A_t_steps : Nat} {A_t_wet : Nat} {A_t_where : Nat} {A_t_home : Nat} {A_t_light : Nat} {A_t_carries : Nat} {A_t_sightPlace : Nat} {A_t_sightLight : Nat} {A_t_pad : Nat} {A_t_act : Nat} {A_t_whose : Nat} {A_t_whom : Nat} {A_t_tens : Nat} {A_t_had : Nat} {A_t_leaves : Nat} {A_t_apart : Nat} {A_t_stop : Nat} {A_t_restOf : Nat} {A_t_group : Nat} {A_t_along : Nat} {A_t_kept : Nat} {A_t_isKept : Nat} {c_t_foggy : Int32} {c_t_walkers : Int32} {c_t_sights : Int32} {c_t_padMany : Int32} {c_t_acts : Int32} {c_t_spent : Int32} {c_t_walks : Int32} {c_t_badAct : Int32} {c_t_badWhy : Int32} {c_t_keptAt : Int32} {c_t_isWriting : Int32} {c_t_steps : Nat → Int32} {z_t_steps : Nat → Int32} {c_t_wet : Nat → Int32} {z_t_wet : Nat → Int32} {r : Int32} {x1 : Int32} {x2 : Int32} {x4 : Int32} {x5 : Int32} {s1 : Int32} {s2 : Int32} (hC : cx_ p s m c G cX10_plank 6 RX10) (hret : ∀ (pc : Nat) (H : Heap) (locs : List Loc) (ls : Array Slot), decode cX10_plank pc = .ok (.ireturn, 1) → wd_ G A s.heap [ob_ A_t 10 [.ref A_t_steps, .ref A_t_wet, .int c_t_foggy, .int c_t_walkers, .ref A_t_where, .ref A_t_home, .ref A_t_light, .ref A_t_carries, .ref A_t_sightPlace, .ref A_t_sightLight, .int c_t_sights, .ref A_t_pad, .int c_t_padMany, .ref A_t_act, .ref A_t_whose, .ref A_t_whom, .ref A_t_tens, .int c_t_acts, .int c_t_spent, .int c_t_walks, .ref A_t_had, .ref A_t_leaves, .int c_t_badAct, .int c_t_badWhy, .ref A_t_apart, .ref A_t_stop, .ref A_t_restOf, .ref A_t_group, .ref A_t_along, .ref A_t_kept, .ref A_t_isKept, .int c_t_keptAt, .int c_t_isWriting], ia_ G A_t_steps 144 z_t_steps, ia_ G A_t_wet 144 z_t_wet] H locs → W p l e { frames := 2, cells := 0, slots := 0, locals := 45 } s m args below meth c H locs 0 0 Q (F0 m pc ls [.int r]))  (hf : fn_X10_plank_j89 c_t_steps c_t_wet x1 x2 x4 x5 s1 s2 = some (r, z_t_steps, z_t_wet)) {H : Heap} {locs : List Loc} {ls : Array Slot} (hl : lv_has ls 6 [(0, .ref A_t), (1, .int x1), (2, .int x2), (4, .int x4), (5, .int x5)]) (hw : wd_ G A s.heap [ob_ A_t 10 [.ref A_t_steps, .ref A_t_wet, .int c_t_foggy, .int c_t_walkers, .ref A_t_where, .ref A_t_home, .ref A_t_light, .ref A_t_carries, .ref A_t_sightPlace, .ref A_t_sightLight, .int c_t_sights, .ref A_t_pad, .int c_t_padMany, .ref A_t_act, .ref A_t_whose, .ref A_t_whom, .ref A_t_tens, .int c_t_acts, .int c_t_spent, .int c_t_walks, .ref A_t_had, .ref A_t_leaves, .int c_t_badAct, .int c_t_badWhy, .ref A_t_apart, .ref A_t_stop, .ref A_t_restOf, .ref A_t_group, .ref A_t_along, .ref A_t_kept, .ref A_t_isKept, .int c_t_keptAt, .int c_t_isWriting], ia_ G A_t_steps 144 c_t_steps, ia_ G A_t_wet 144 c_t_wet] H locs) : W p l e { frames := 2, cells := 0, slots := 0, locals := 45 } s m args below meth c H locs 0 0 Q (F0 m 89 ls [.int s2, .int s1, .ref A_t_wet]) := by
  have hx := hC.1
  have hb := hC.2.1
  unfold fn_X10_plank_j89 at hf
  obtain ⟨hi, hf⟩ := ck_s hf
  obtain ⟨f18, ef18, hf⟩ := lx_s hf
  refine g_iast hC hw 2 rfl hi ef18 dX10_plank_89 (fun H locs hw => ?_)
  have hw : wd_ G A s.heap [ob_ A_t 10 [.ref A_t_steps, .ref A_t_wet, .int c_t_foggy, .int c_t_walkers, .ref A_t_where, .ref A_t_home, .ref A_t_light, .ref A_t_carries, .ref A_t_sightPlace, .ref A_t_sightLight, .int c_t_sights, .ref A_t_pad, .int c_t_padMany, .ref A_t_act, .ref A_t_whose, .ref A_t_whom, .ref A_t_tens, .int c_t_acts, .int c_t_spent, .int c_t_walks, .ref A_t_had, .ref A_t_leaves, .int c_t_badAct, .int c_t_badWhy, .ref A_t_apart, .ref A_t_stop, .ref A_t_restOf, .ref A_t_group, .ref A_t_along, .ref A_t_kept, .ref A_t_isKept, .int c_t_keptAt, .int c_t_isWriting], ia_ G A_t_steps 144 c_t_steps, ia_ G A_t_wet 144 f18] H locs := hw
  refine lv_aload_n hx hb dX10_plank_90 rfl (lv_at hl 0 rfl) ?_
  refine g_get hC hw fkX10_13 0 rfl rfl dX10_plank_91 ?_
  refine lv_iload_n hx hb dX10_plank_94 rfl (lv_at hl 2 rfl) ?_
  refine lv_iload_n hx hb dX10_plank_95 rfl (lv_at hl 1 rfl) ?_
  obtain ⟨r19, hq20, hf⟩ := b1_s hf
  refine g_cSi hC hw msX10_89 (cn_X10_at l G x2 x1 r19 hq20) [] rfl (by decide) rfl rfl hl.1 rfl (Nat.le_of_ble_eq_true rfl) ⟨Nat.le_of_ble_eq_true rfl, Nat.le_of_ble_eq_true rfl⟩ ⟨Nat.le_refl _, Nat.le_refl _⟩ dX10_plank_96 (fun H locs hw => ?_)
  have hw : wd_ G A s.heap [ob_ A_t 10 [.ref A_t_steps, .ref A_t_wet, .int c_t_foggy, .int c_t_walkers, .ref A_t_where, .ref A_t_home, .ref A_t_light, .ref A_t_carries, .ref A_t_sightPlace, .ref A_t_sightLight, .int c_t_sights, .ref A_t_pad, .int c_t_padMany, .ref A_t_act, .ref A_t_whose, .ref A_t_whom, .ref A_t_tens, .int c_t_acts, .int c_t_spent, .int c_t_walks, .ref A_t_had, .ref A_t_leaves, .int c_t_badAct, .int c_t_badWhy, .ref A_t_apart, .ref A_t_stop, .ref A_t_restOf, .ref A_t_group, .ref A_t_along, .ref A_t_kept, .ref A_t_isKept, .int c_t_keptAt, .int c_t_isWriting], ia_ G A_t_steps 144 c_t_steps, ia_ G A_t_wet 144 f18] H locs := hw
  refine lv_iload hx hb dX10_plank_99 (lv_at hl 3 rfl) ?_
  refine lv_if_eq (tgt := 108) hx hb dX10_plank_101 (by decide) (fun hc => ?_) (fun hc => ?_)
  · replace hf := it_t hc hf
    refine lv_iconst (v := 0) hx hb dX10_plank_108 (by decide) ?_
    obtain ⟨hi, hf⟩ := ck_s hf
    obtain ⟨f21, ef21, hf⟩ := lx_s hf
    refine g_iast hC hw 2 rfl hi ef21 dX10_plank_109 (fun H locs hw => ?_)
    have hw : wd_ G A s.heap [ob_ A_t 10 [.ref A_t_steps, .ref A_t_wet, .int c_t_foggy, .int c_t_walkers, .ref A_t_where, .ref A_t_home, .ref A_t_light, .ref A_t_carries, .ref A_t_sightPlace, .ref A_t_sightLight, .int c_t_sights, .ref A_t_pad, .int c_t_padMany, .ref A_t_act, .ref A_t_whose, .ref A_t_whom, .ref A_t_tens, .int c_t_acts, .int c_t_spent, .int c_t_walks, .ref A_t_had, .ref A_t_leaves, .int c_t_badAct, .int c_t_badWhy, .ref A_t_apart, .ref A_t_stop, .ref A_t_restOf, .ref A_t_group, .ref A_t_along, .ref A_t_kept, .ref A_t_isKept, .int c_t_keptAt, .int c_t_isWriting], ia_ G A_t_steps 144 c_t_steps, ia_ G A_t_wet 144 f21] H locs := hw
    refine lv_iload hx hb dX10_plank_110 (lv_at hl 4 rfl) ?_
    cases hf
    exact hret _ _ _ _ dX10_plank_112 hw
  · replace hf := it_f hc hf
    refine lv_iconst (v := 1) hx hb dX10_plank_104 (by decide) ?_
    refine lv_goto (tgt := 109) hx hb dX10_plank_105 (by decide) ?_
    obtain ⟨hi, hf⟩ := ck_s hf
    obtain ⟨f22, ef22, hf⟩ := lx_s hf
    refine g_iast hC hw 2 rfl hi ef22 dX10_plank_109 (fun H locs hw => ?_)
    have hw : wd_ G A s.heap [ob_ A_t 10 [.ref A_t_steps, .ref A_t_wet, .int c_t_foggy, .int c_t_walkers, .ref A_t_where, .ref A_t_home, .ref A_t_light, .ref A_t_carries, .ref A_t_sightPlace, .ref A_t_sightLight, .int c_t_sights, .ref A_t_pad, .int c_t_padMany, .ref A_t_act, .ref A_t_whose, .ref A_t_whom, .ref A_t_tens, .int c_t_acts, .int c_t_spent, .int c_t_walks, .ref A_t_had, .ref A_t_leaves, .int c_t_badAct, .int c_t_badWhy, .ref A_t_apart, .ref A_t_stop, .ref A_t_restOf, .ref A_t_group, .ref A_t_along, .ref A_t_kept, .ref A_t_isKept, .int c_t_keptAt, .int c_t_isWriting], ia_ G A_t_steps 144 c_t_steps, ia_ G A_t_wet 144 f22] H locs := hw
    refine lv_iload hx hb dX10_plank_110 (lv_at hl 4 rfl) ?_
    cases hf
    exact hret _ _ _ _ dX10_plank_112 hw
set_option maxHeartbeats 4000000 in
set_option maxRecDepth 100000 in
theorem wn_X10_plank {p : Program} {l : Launch} {e : Env} {s : State} {m : MethodId} {args : Array Value} {below : List Frame} {meth : Method} {c : Code} {G : gw_} {A : Nat → Prop} {Q : State → Prop} {A_t : Nat} {A_t_steps : Nat} {A_t_wet : Nat} {A_t_where : Nat} {A_t_home : Nat} {A_t_light : Nat} {A_t_carries : Nat} {A_t_sightPlace : Nat} {A_t_sightLight : Nat} {A_t_pad : Nat} {A_t_act : Nat} {A_t_whose : Nat} {A_t_whom : Nat} {A_t_tens : Nat} {A_t_had : Nat} {A_t_leaves : Nat} {A_t_apart : Nat} {A_t_stop : Nat} {A_t_restOf : Nat} {A_t_group : Nat} {A_t_along : Nat} {A_t_kept : Nat} {A_t_isKept : Nat} {c_t_foggy : Int32} {c_t_walkers : Int32} {c_t_sights : Int32} {c_t_padMany : Int32} {c_t_acts : Int32} {c_t_spent : Int32} {c_t_walks : Int32} {c_t_badAct : Int32} {c_t_badWhy : Int32} {c_t_keptAt : Int32} {c_t_isWriting : Int32} {c_t_steps : Nat → Int32} {z_t_steps : Nat → Int32} {c_t_wet : Nat → Int32} {z_t_wet : Nat → Int32} {r : Int32} {x1 : Int32} {x2 : Int32} {x3 : Int32} {x4 : Int32} (hC : cx_ p s m c G cX10_plank 6 RX10) (hret : ∀ (pc : Nat) (H : Heap) (locs : List Loc) (ls : Array Slot), decode cX10_plank pc = .ok (.ireturn, 1) → wd_ G A s.heap [ob_ A_t 10 [.ref A_t_steps, .ref A_t_wet, .int c_t_foggy, .int c_t_walkers, .ref A_t_where, .ref A_t_home, .ref A_t_light, .ref A_t_carries, .ref A_t_sightPlace, .ref A_t_sightLight, .int c_t_sights, .ref A_t_pad, .int c_t_padMany, .ref A_t_act, .ref A_t_whose, .ref A_t_whom, .ref A_t_tens, .int c_t_acts, .int c_t_spent, .int c_t_walks, .ref A_t_had, .ref A_t_leaves, .int c_t_badAct, .int c_t_badWhy, .ref A_t_apart, .ref A_t_stop, .ref A_t_restOf, .ref A_t_group, .ref A_t_along, .ref A_t_kept, .ref A_t_isKept, .int c_t_keptAt, .int c_t_isWriting], ia_ G A_t_steps 144 z_t_steps, ia_ G A_t_wet 144 z_t_wet] H locs → W p l e { frames := 2, cells := 0, slots := 0, locals := 45 } s m args below meth c H locs 0 0 Q (F0 m pc ls [.int r])) (hf : fn_X10_plank c_t_steps c_t_wet x1 x2 x3 x4 = some (r, z_t_steps, z_t_wet)) {H : Heap} {locs : List Loc} {ls : Array Slot} (hl : lv_has ls 6 [(0, .ref A_t), (1, .int x1), (2, .int x2), (3, .int x3), (4, .int x4)]) (hw : wd_ G A s.heap [ob_ A_t 10 [.ref A_t_steps, .ref A_t_wet, .int c_t_foggy, .int c_t_walkers, .ref A_t_where, .ref A_t_home, .ref A_t_light, .ref A_t_carries, .ref A_t_sightPlace, .ref A_t_sightLight, .int c_t_sights, .ref A_t_pad, .int c_t_padMany, .ref A_t_act, .ref A_t_whose, .ref A_t_whom, .ref A_t_tens, .int c_t_acts, .int c_t_spent, .int c_t_walks, .ref A_t_had, .ref A_t_leaves, .int c_t_badAct, .int c_t_badWhy, .ref A_t_apart, .ref A_t_stop, .ref A_t_restOf, .ref A_t_group, .ref A_t_along, .ref A_t_kept, .ref A_t_isKept, .int c_t_keptAt, .int c_t_isWriting], ia_ G A_t_steps 144 c_t_steps, ia_ G A_t_wet 144 c_t_wet] H locs) : W p l e { frames := 2, cells := 0, slots := 0, locals := 45 } s m args below meth c H locs 0 0 Q (F0 m 0 ls []) := by
  have hx := hC.1
  have hb := hC.2.1
  unfold fn_X10_plank at hf
  refine lv_iload_n hx hb dX10_plank_0 rfl (lv_at hl 1 rfl) ?_
  obtain ⟨r1, hq2, hf⟩ := b1_s hf
  refine g_cSi hC hw msX10_100 (cn_X10_isPlace l G x1 r1 hq2) [] rfl (by decide) rfl rfl hl.1 rfl (Nat.le_of_ble_eq_true rfl) ⟨Nat.le_of_ble_eq_true rfl, Nat.le_of_ble_eq_true rfl⟩ ⟨Nat.le_refl _, Nat.le_refl _⟩ dX10_plank_1 (fun H locs hw => ?_)
  have hw : wd_ G A s.heap [ob_ A_t 10 [.ref A_t_steps, .ref A_t_wet, .int c_t_foggy, .int c_t_walkers, .ref A_t_where, .ref A_t_home, .ref A_t_light, .ref A_t_carries, .ref A_t_sightPlace, .ref A_t_sightLight, .int c_t_sights, .ref A_t_pad, .int c_t_padMany, .ref A_t_act, .ref A_t_whose, .ref A_t_whom, .ref A_t_tens, .int c_t_acts, .int c_t_spent, .int c_t_walks, .ref A_t_had, .ref A_t_leaves, .int c_t_badAct, .int c_t_badWhy, .ref A_t_apart, .ref A_t_stop, .ref A_t_restOf, .ref A_t_group, .ref A_t_along, .ref A_t_kept, .ref A_t_isKept, .int c_t_keptAt, .int c_t_isWriting], ia_ G A_t_steps 144 c_t_steps, ia_ G A_t_wet 144 c_t_wet] H locs := hw
  refine lv_if_eq (tgt := 19) hx hb dX10_plank_4 (by decide) (fun hc => ?_) (fun hc => ?_)
  · replace hf := it_t hc hf
    refine lv_iconst (v := (-1)) hx hb dX10_plank_19 (by decide) ?_
    cases hf
    exact hret _ _ _ _ dX10_plank_20 hw
  · replace hf := it_f hc hf
    refine lv_iload_n hx hb dX10_plank_7 rfl (lv_at hl 2 rfl) ?_
    obtain ⟨r3, hq4, hf⟩ := b1_s hf
    refine g_cSi hC hw msX10_100 (cn_X10_isPlace l G x2 r3 hq4) [] rfl (by decide) rfl rfl hl.1 rfl (Nat.le_of_ble_eq_true rfl) ⟨Nat.le_of_ble_eq_true rfl, Nat.le_of_ble_eq_true rfl⟩ ⟨Nat.le_refl _, Nat.le_refl _⟩ dX10_plank_8 (fun H locs hw => ?_)
    have hw : wd_ G A s.heap [ob_ A_t 10 [.ref A_t_steps, .ref A_t_wet, .int c_t_foggy, .int c_t_walkers, .ref A_t_where, .ref A_t_home, .ref A_t_light, .ref A_t_carries, .ref A_t_sightPlace, .ref A_t_sightLight, .int c_t_sights, .ref A_t_pad, .int c_t_padMany, .ref A_t_act, .ref A_t_whose, .ref A_t_whom, .ref A_t_tens, .int c_t_acts, .int c_t_spent, .int c_t_walks, .ref A_t_had, .ref A_t_leaves, .int c_t_badAct, .int c_t_badWhy, .ref A_t_apart, .ref A_t_stop, .ref A_t_restOf, .ref A_t_group, .ref A_t_along, .ref A_t_kept, .ref A_t_isKept, .int c_t_keptAt, .int c_t_isWriting], ia_ G A_t_steps 144 c_t_steps, ia_ G A_t_wet 144 c_t_wet] H locs := hw
    refine lv_if_eq (tgt := 19) hx hb dX10_plank_11 (by decide) (fun hc => ?_) (fun hc => ?_)
    · replace hf := it_t hc hf
      refine lv_iconst (v := (-1)) hx hb dX10_plank_19 (by decide) ?_
      cases hf
      exact hret _ _ _ _ dX10_plank_20 hw
    · replace hf := it_f hc hf
      refine lv_iload_n hx hb dX10_plank_14 rfl (lv_at hl 1 rfl) ?_
      refine lv_iload_n hx hb dX10_plank_15 rfl (lv_at hl 2 rfl) ?_
      refine lv_icmp_ne (tgt := 21) hx hb dX10_plank_16 (by decide) (fun hc => ?_) (fun hc => ?_)
      · replace hf := it_f hc hf
        refine lv_iload_n hx hb dX10_plank_21 rfl (lv_at hl 3 rfl) ?_
        refine lv_i2l hx hb dX10_plank_22 rfl ?_
        refine lv_lconst (v := 0) hx hb dX10_plank_23 (by decide) ?_
        refine g_ldc2 (v := 99) hC (tb4 114 rfl rfl) dX10_plank_24 ?_
        obtain ⟨r5, hq6, hf⟩ := b1_s hf
        refine g_cSi hC hw msX10_79 (cn_X10_in l G (Int32.toInt64 x3) 0 99 r5 hq6) [] rfl (by decide) rfl rfl hl.1 rfl (Nat.le_of_ble_eq_true rfl) ⟨Nat.le_of_ble_eq_true rfl, Nat.le_of_ble_eq_true rfl⟩ ⟨Nat.le_refl _, Nat.le_refl _⟩ dX10_plank_27 (fun H locs hw => ?_)
        have hw : wd_ G A s.heap [ob_ A_t 10 [.ref A_t_steps, .ref A_t_wet, .int c_t_foggy, .int c_t_walkers, .ref A_t_where, .ref A_t_home, .ref A_t_light, .ref A_t_carries, .ref A_t_sightPlace, .ref A_t_sightLight, .int c_t_sights, .ref A_t_pad, .int c_t_padMany, .ref A_t_act, .ref A_t_whose, .ref A_t_whom, .ref A_t_tens, .int c_t_acts, .int c_t_spent, .int c_t_walks, .ref A_t_had, .ref A_t_leaves, .int c_t_badAct, .int c_t_badWhy, .ref A_t_apart, .ref A_t_stop, .ref A_t_restOf, .ref A_t_group, .ref A_t_along, .ref A_t_kept, .ref A_t_isKept, .int c_t_keptAt, .int c_t_isWriting], ia_ G A_t_steps 144 c_t_steps, ia_ G A_t_wet 144 c_t_wet] H locs := hw
        refine lv_if_ne (tgt := 36) hx hb dX10_plank_30 (by decide) (fun hc => ?_) (fun hc => ?_)
        · replace hf := it_f hc hf
          refine lv_aload_n hx hb dX10_plank_36 rfl (lv_at hl 0 rfl) ?_
          refine g_get hC hw fkX10_7 0 rfl rfl dX10_plank_37 ?_
          refine lv_iload_n hx hb dX10_plank_40 rfl (lv_at hl 1 rfl) ?_
          refine lv_iload_n hx hb dX10_plank_41 rfl (lv_at hl 2 rfl) ?_
          obtain ⟨r7, hq8, hf⟩ := b1_s hf
          refine g_cSi hC hw msX10_89 (cn_X10_at l G x1 x2 r7 hq8) [] rfl (by decide) rfl rfl hl.1 rfl (Nat.le_of_ble_eq_true rfl) ⟨Nat.le_of_ble_eq_true rfl, Nat.le_of_ble_eq_true rfl⟩ ⟨Nat.le_refl _, Nat.le_refl _⟩ dX10_plank_42 (fun H locs hw => ?_)
          have hw : wd_ G A s.heap [ob_ A_t 10 [.ref A_t_steps, .ref A_t_wet, .int c_t_foggy, .int c_t_walkers, .ref A_t_where, .ref A_t_home, .ref A_t_light, .ref A_t_carries, .ref A_t_sightPlace, .ref A_t_sightLight, .int c_t_sights, .ref A_t_pad, .int c_t_padMany, .ref A_t_act, .ref A_t_whose, .ref A_t_whom, .ref A_t_tens, .int c_t_acts, .int c_t_spent, .int c_t_walks, .ref A_t_had, .ref A_t_leaves, .int c_t_badAct, .int c_t_badWhy, .ref A_t_apart, .ref A_t_stop, .ref A_t_restOf, .ref A_t_group, .ref A_t_along, .ref A_t_kept, .ref A_t_isKept, .int c_t_keptAt, .int c_t_isWriting], ia_ G A_t_steps 144 c_t_steps, ia_ G A_t_wet 144 c_t_wet] H locs := hw
          obtain ⟨hi, hf⟩ := ck_s hf
          refine g_iald hC hw 1 rfl hi dX10_plank_45 ?_
          obtain ⟨y9, ey9, hf⟩ := lx_s hf
          rw [← ey9]
          refine lv_istore (lv' := [(5, .int y9), (0, .ref A_t), (1, .int x1), (2, .int x2), (3, .int x3), (4, .int x4)]) hx hb dX10_plank_46 hl (by decide) rfl (fun ls hl => ?_)
          refine lv_aload_n hx hb dX10_plank_48 rfl (lv_at hl 1 rfl) ?_
          refine g_get hC hw fkX10_7 0 rfl rfl dX10_plank_49 ?_
          refine lv_iload_n hx hb dX10_plank_52 rfl (lv_at hl 2 rfl) ?_
          refine lv_iload_n hx hb dX10_plank_53 rfl (lv_at hl 3 rfl) ?_
          obtain ⟨r10, hq11, hf⟩ := b1_s hf
          refine g_cSi hC hw msX10_89 (cn_X10_at l G x1 x2 r10 hq11) [] rfl (by decide) rfl rfl hl.1 rfl (Nat.le_of_ble_eq_true rfl) ⟨Nat.le_of_ble_eq_true rfl, Nat.le_of_ble_eq_true rfl⟩ ⟨Nat.le_refl _, Nat.le_refl _⟩ dX10_plank_54 (fun H locs hw => ?_)
          have hw : wd_ G A s.heap [ob_ A_t 10 [.ref A_t_steps, .ref A_t_wet, .int c_t_foggy, .int c_t_walkers, .ref A_t_where, .ref A_t_home, .ref A_t_light, .ref A_t_carries, .ref A_t_sightPlace, .ref A_t_sightLight, .int c_t_sights, .ref A_t_pad, .int c_t_padMany, .ref A_t_act, .ref A_t_whose, .ref A_t_whom, .ref A_t_tens, .int c_t_acts, .int c_t_spent, .int c_t_walks, .ref A_t_had, .ref A_t_leaves, .int c_t_badAct, .int c_t_badWhy, .ref A_t_apart, .ref A_t_stop, .ref A_t_restOf, .ref A_t_group, .ref A_t_along, .ref A_t_kept, .ref A_t_isKept, .int c_t_keptAt, .int c_t_isWriting], ia_ G A_t_steps 144 c_t_steps, ia_ G A_t_wet 144 c_t_wet] H locs := hw
          refine lv_iload_n hx hb dX10_plank_57 rfl (lv_at hl 4 rfl) ?_
          obtain ⟨hi, hf⟩ := ck_s hf
          obtain ⟨f12, ef12, hf⟩ := lx_s hf
          refine g_iast hC hw 1 rfl hi ef12 dX10_plank_58 (fun H locs hw => ?_)
          have hw : wd_ G A s.heap [ob_ A_t 10 [.ref A_t_steps, .ref A_t_wet, .int c_t_foggy, .int c_t_walkers, .ref A_t_where, .ref A_t_home, .ref A_t_light, .ref A_t_carries, .ref A_t_sightPlace, .ref A_t_sightLight, .int c_t_sights, .ref A_t_pad, .int c_t_padMany, .ref A_t_act, .ref A_t_whose, .ref A_t_whom, .ref A_t_tens, .int c_t_acts, .int c_t_spent, .int c_t_walks, .ref A_t_had, .ref A_t_leaves, .int c_t_badAct, .int c_t_badWhy, .ref A_t_apart, .ref A_t_stop, .ref A_t_restOf, .ref A_t_group, .ref A_t_along, .ref A_t_kept, .ref A_t_isKept, .int c_t_keptAt, .int c_t_isWriting], ia_ G A_t_steps 144 f12, ia_ G A_t_wet 144 c_t_wet] H locs := hw
          refine lv_aload_n hx hb dX10_plank_59 rfl (lv_at hl 1 rfl) ?_
          refine g_get hC hw fkX10_7 0 rfl rfl dX10_plank_60 ?_
          refine lv_iload_n hx hb dX10_plank_63 rfl (lv_at hl 3 rfl) ?_
          refine lv_iload_n hx hb dX10_plank_64 rfl (lv_at hl 2 rfl) ?_
          obtain ⟨r13, hq14, hf⟩ := b1_s hf
          refine g_cSi hC hw msX10_89 (cn_X10_at l G x2 x1 r13 hq14) [] rfl (by decide) rfl rfl hl.1 rfl (Nat.le_of_ble_eq_true rfl) ⟨Nat.le_of_ble_eq_true rfl, Nat.le_of_ble_eq_true rfl⟩ ⟨Nat.le_refl _, Nat.le_refl _⟩ dX10_plank_65 (fun H locs hw => ?_)
          have hw : wd_ G A s.heap [ob_ A_t 10 [.ref A_t_steps, .ref A_t_wet, .int c_t_foggy, .int c_t_walkers, .ref A_t_where, .ref A_t_home, .ref A_t_light, .ref A_t_carries, .ref A_t_sightPlace, .ref A_t_sightLight, .int c_t_sights, .ref A_t_pad, .int c_t_padMany, .ref A_t_act, .ref A_t_whose, .ref A_t_whom, .ref A_t_tens, .int c_t_acts, .int c_t_spent, .int c_t_walks, .ref A_t_had, .ref A_t_leaves, .int c_t_badAct, .int c_t_badWhy, .ref A_t_apart, .ref A_t_stop, .ref A_t_restOf, .ref A_t_group, .ref A_t_along, .ref A_t_kept, .ref A_t_isKept, .int c_t_keptAt, .int c_t_isWriting], ia_ G A_t_steps 144 f12, ia_ G A_t_wet 144 c_t_wet] H locs := hw
          refine lv_iload_n hx hb dX10_plank_68 rfl (lv_at hl 4 rfl) ?_
          obtain ⟨hi, hf⟩ := ck_s hf
          obtain ⟨f15, ef15, hf⟩ := lx_s hf
          refine g_iast hC hw 1 rfl hi ef15 dX10_plank_69 (fun H locs hw => ?_)
          have hw : wd_ G A s.heap [ob_ A_t 10 [.ref A_t_steps, .ref A_t_wet, .int c_t_foggy, .int c_t_walkers, .ref A_t_where, .ref A_t_home, .ref A_t_light, .ref A_t_carries, .ref A_t_sightPlace, .ref A_t_sightLight, .int c_t_sights, .ref A_t_pad, .int c_t_padMany, .ref A_t_act, .ref A_t_whose, .ref A_t_whom, .ref A_t_tens, .int c_t_acts, .int c_t_spent, .int c_t_walks, .ref A_t_had, .ref A_t_leaves, .int c_t_badAct, .int c_t_badWhy, .ref A_t_apart, .ref A_t_stop, .ref A_t_restOf, .ref A_t_group, .ref A_t_along, .ref A_t_kept, .ref A_t_isKept, .int c_t_keptAt, .int c_t_isWriting], ia_ G A_t_steps 144 f15, ia_ G A_t_wet 144 c_t_wet] H locs := hw
          refine lv_aload_n hx hb dX10_plank_70 rfl (lv_at hl 1 rfl) ?_
          refine g_get hC hw fkX10_13 0 rfl rfl dX10_plank_71 ?_
          refine lv_iload_n hx hb dX10_plank_74 rfl (lv_at hl 2 rfl) ?_
          refine lv_iload_n hx hb dX10_plank_75 rfl (lv_at hl 3 rfl) ?_
          obtain ⟨r16, hq17, hf⟩ := b1_s hf
          refine g_cSi hC hw msX10_89 (cn_X10_at l G x1 x2 r16 hq17) [] rfl (by decide) rfl rfl hl.1 rfl (Nat.le_of_ble_eq_true rfl) ⟨Nat.le_of_ble_eq_true rfl, Nat.le_of_ble_eq_true rfl⟩ ⟨Nat.le_refl _, Nat.le_refl _⟩ dX10_plank_76 (fun H locs hw => ?_)
          have hw : wd_ G A s.heap [ob_ A_t 10 [.ref A_t_steps, .ref A_t_wet, .int c_t_foggy, .int c_t_walkers, .ref A_t_where, .ref A_t_home, .ref A_t_light, .ref A_t_carries, .ref A_t_sightPlace, .ref A_t_sightLight, .int c_t_sights, .ref A_t_pad, .int c_t_padMany, .ref A_t_act, .ref A_t_whose, .ref A_t_whom, .ref A_t_tens, .int c_t_acts, .int c_t_spent, .int c_t_walks, .ref A_t_had, .ref A_t_leaves, .int c_t_badAct, .int c_t_badWhy, .ref A_t_apart, .ref A_t_stop, .ref A_t_restOf, .ref A_t_group, .ref A_t_along, .ref A_t_kept, .ref A_t_isKept, .int c_t_keptAt, .int c_t_isWriting], ia_ G A_t_steps 144 f15, ia_ G A_t_wet 144 c_t_wet] H locs := hw
          refine lv_iload hx hb dX10_plank_79 (lv_at hl 5 rfl) ?_
          refine lv_if_eq (tgt := 88) hx hb dX10_plank_81 (by decide) (fun hc => ?_) (fun hc => ?_)
          · replace hf := it_t hc hf
            refine lv_iconst (v := 0) hx hb dX10_plank_88 (by decide) ?_
            exact wn_X10_plank_j89 hC hret hf (lv_sub hl [1, 2, 3, 5, 0] rfl) hw
          · replace hf := it_f hc hf
            refine lv_iconst (v := 1) hx hb dX10_plank_84 (by decide) ?_
            refine lv_goto (tgt := 89) hx hb dX10_plank_85 (by decide) ?_
            exact wn_X10_plank_j89 hC hret hf (lv_sub hl [1, 2, 3, 5, 0] rfl) hw
        · replace hf := it_t hc hf
          refine lv_bipush (v := (-2)) hx hb dX10_plank_33 (by decide) ?_
          cases hf
          exact hret _ _ _ _ dX10_plank_35 hw
      · replace hf := it_t hc hf
        refine lv_iconst (v := (-1)) hx hb dX10_plank_19 (by decide) ?_
        cases hf
        exact hret _ _ _ _ dX10_plank_20 hw
set_option maxHeartbeats 4000000 in
set_option maxRecDepth 100000 in
theorem cn_X10_plank (l : Launch) (G : gw_) (A_t : Nat) (A_t_steps : Nat) (A_t_wet : Nat) (A_t_where : Nat) (A_t_home : Nat) (A_t_light : Nat) (A_t_carries : Nat) (A_t_sightPlace : Nat) (A_t_sightLight : Nat) (A_t_pad : Nat) (A_t_act : Nat) (A_t_whose : Nat) (A_t_whom : Nat) (A_t_tens : Nat) (A_t_had : Nat) (A_t_leaves : Nat) (A_t_apart : Nat) (A_t_stop : Nat) (A_t_restOf : Nat) (A_t_group : Nat) (A_t_along : Nat) (A_t_kept : Nat) (A_t_isKept : Nat) (c_t_foggy : Int32) (c_t_walkers : Int32) (c_t_sights : Int32) (c_t_padMany : Int32) (c_t_acts : Int32) (c_t_spent : Int32) (c_t_walks : Int32) (c_t_badAct : Int32) (c_t_badWhy : Int32) (c_t_keptAt : Int32) (c_t_isWriting : Int32) (c_t_steps : Nat → Int32) (c_t_wet : Nat → Int32) (x1 : Int32) (x2 : Int32) (x3 : Int32) (x4 : Int32) (r : Int32) (z_t_steps : Nat → Int32) (z_t_wet : Nat → Int32) (hf : fn_X10_plank c_t_steps c_t_wet x1 x2 x3 x4 = some (r, z_t_steps, z_t_wet)) : ci_ l G yX10_plank cX10_plank 6 (some .int) 2 45 [ob_ A_t 10 [.ref A_t_steps, .ref A_t_wet, .int c_t_foggy, .int c_t_walkers, .ref A_t_where, .ref A_t_home, .ref A_t_light, .ref A_t_carries, .ref A_t_sightPlace, .ref A_t_sightLight, .int c_t_sights, .ref A_t_pad, .int c_t_padMany, .ref A_t_act, .ref A_t_whose, .ref A_t_whom, .ref A_t_tens, .int c_t_acts, .int c_t_spent, .int c_t_walks, .ref A_t_had, .ref A_t_leaves, .int c_t_badAct, .int c_t_badWhy, .ref A_t_apart, .ref A_t_stop, .ref A_t_restOf, .ref A_t_group, .ref A_t_along, .ref A_t_kept, .ref A_t_isKept, .int c_t_keptAt, .int c_t_isWriting], ia_ G A_t_steps 144 c_t_steps, ia_ G A_t_wet 144 c_t_wet] [.ref A_t, .int x1, .int x2, .int x3, .int x4] r [ob_ A_t 10 [.ref A_t_steps, .ref A_t_wet, .int c_t_foggy, .int c_t_walkers, .ref A_t_where, .ref A_t_home, .ref A_t_light, .ref A_t_carries, .ref A_t_sightPlace, .ref A_t_sightLight, .int c_t_sights, .ref A_t_pad, .int c_t_padMany, .ref A_t_act, .ref A_t_whose, .ref A_t_whom, .ref A_t_tens, .int c_t_acts, .int c_t_spent, .int c_t_walks, .ref A_t_had, .ref A_t_leaves, .int c_t_badAct, .int c_t_badWhy, .ref A_t_apart, .ref A_t_stop, .ref A_t_restOf, .ref A_t_group, .ref A_t_along, .ref A_t_kept, .ref A_t_isKept, .int c_t_keptAt, .int c_t_isWriting], ia_ G A_t_steps 144 z_t_steps, ia_ G A_t_wet 144 z_t_wet] := fun sz => met_intro (by decide) (Nat.le_of_ble_eq_true rfl) (fun p e s m args below meth c ls hsz hC hr hlk hnm hl hw => wn_X10_plank hC (fun pc H locs ls hd hw => g_iret hC hr hlk hw rfl rfl hd) hf hl hw)

theorem dX10_carrierOf_0 : decode cX10_carrierOf 0 = .ok (.bipush (-6), 2) := by decide +kernel
theorem dX10_carrierOf_2 : decode cX10_carrierOf 2 = .ok (.istore_n 2, 1) := by decide +kernel
theorem dX10_carrierOf_3 : decode cX10_carrierOf 3 = .ok (.iconst 0, 1) := by decide +kernel
theorem dX10_carrierOf_4 : decode cX10_carrierOf 4 = .ok (.istore_n 3, 1) := by decide +kernel
theorem dX10_carrierOf_5 : decode cX10_carrierOf 5 = .ok (.iload_n 3, 1) := by decide +kernel
theorem dX10_carrierOf_6 : decode cX10_carrierOf 6 = .ok (.bipush 6, 2) := by decide +kernel
theorem dX10_carrierOf_8 : decode cX10_carrierOf 8 = .ok (.if_icmp .ge 33, 3) := by decide +kernel
theorem dX10_carrierOf_11 : decode cX10_carrierOf 11 = .ok (.aload_n 0, 1) := by decide +kernel
theorem dX10_carrierOf_12 : decode cX10_carrierOf 12 = .ok (.iload_n 3, 1) := by decide +kernel
theorem dX10_carrierOf_13 : decode cX10_carrierOf 13 = .ok (.invokevirtual 106, 3) := by decide +kernel
theorem dX10_carrierOf_16 : decode cX10_carrierOf 16 = .ok (.ifCond .eq 17, 3) := by decide +kernel
theorem dX10_carrierOf_19 : decode cX10_carrierOf 19 = .ok (.aload_n 0, 1) := by decide +kernel
theorem dX10_carrierOf_20 : decode cX10_carrierOf 20 = .ok (.getfield 25, 3) := by decide +kernel
theorem dX10_carrierOf_23 : decode cX10_carrierOf 23 = .ok (.iload_n 3, 1) := by decide +kernel
theorem dX10_carrierOf_24 : decode cX10_carrierOf 24 = .ok (.iaload, 1) := by decide +kernel
theorem dX10_carrierOf_25 : decode cX10_carrierOf 25 = .ok (.iload_n 1, 1) := by decide +kernel
theorem dX10_carrierOf_26 : decode cX10_carrierOf 26 = .ok (.if_icmp .ne 7, 3) := by decide +kernel
theorem dX10_carrierOf_29 : decode cX10_carrierOf 29 = .ok (.iload_n 3, 1) := by decide +kernel
theorem dX10_carrierOf_30 : decode cX10_carrierOf 30 = .ok (.goto 4, 3) := by decide +kernel
theorem dX10_carrierOf_33 : decode cX10_carrierOf 33 = .ok (.iload_n 2, 1) := by decide +kernel
theorem dX10_carrierOf_34 : decode cX10_carrierOf 34 = .ok (.istore_n 2, 1) := by decide +kernel
theorem dX10_carrierOf_35 : decode cX10_carrierOf 35 = .ok (.iinc 3 1, 3) := by decide +kernel
theorem dX10_carrierOf_38 : decode cX10_carrierOf 38 = .ok (.goto (-33), 3) := by decide +kernel
theorem dX10_carrierOf_41 : decode cX10_carrierOf 41 = .ok (.iload_n 2, 1) := by decide +kernel
theorem dX10_carrierOf_42 : decode cX10_carrierOf 42 = .ok (.ireturn, 1) := by decide +kernel
def fn_X10_carrierOf_b5 (c_t_walkers : Int32) (c_t_carries : Nat → Int32) (x1 : Int32) (rc : Int32 → Int32 → Option (Int32)) (k : Int32 → Option (Int32)) (x2 : Int32) (x3 : Int32) : Option (Int32) :=
  if 6 ≤ x3 then
    k x2
  else
    b1_ (fn_X10_isWalker c_t_walkers x3) fun r1 =>
    if r1 = 0 then
      rc x2 (x3 + 1)
    else
      ck_ x3 6 <|
      if (c_t_carries (Int32.toNatClampNeg x3)) = x1 then
        rc x3 (x3 + 1)
      else
        rc x2 (x3 + 1)
def fn_X10_carrierOf_l5 (c_t_walkers : Int32) (c_t_carries : Nat → Int32) (x1 : Int32) (k : Int32 → Option (Int32)) : Nat → Int32 → Int32 → Option (Int32)
  | 0 => fun _ _ => none
  | n + 1 => fun x2 x3 => fn_X10_carrierOf_b5 c_t_walkers c_t_carries x1 (fn_X10_carrierOf_l5 c_t_walkers c_t_carries x1 k n) k x2 x3
def fn_X10_carrierOf (c_t_walkers : Int32) (c_t_carries : Nat → Int32) (x1 : Int32) : Option (Int32) :=
  fn_X10_carrierOf_l5 c_t_walkers c_t_carries x1 (fun v3 =>
    some v3) fu_ (-6) 0
set_option maxHeartbeats 4000000 in
set_option maxRecDepth 100000 in
theorem wn_X10_carrierOf_l5 {p : Program} {l : Launch} {e : Env} {s : State} {m : MethodId} {args : Array Value} {below : List Frame} {meth : Method} {c : Code} {G : gw_} {A : Nat → Prop} {Q : State → Prop} {A_t : Nat} {A_t_steps : Nat} {A_t_wet : Nat} {A_t_where : Nat} {A_t_home : Nat} {A_t_light : Nat} {A_t_carries : Nat} {A_t_sightPlace : Nat} {A_t_sightLight : Nat} {A_t_pad : Nat} {A_t_act : Nat} {A_t_whose : Nat} {A_t_whom : Nat} {A_t_tens : Nat} {A_t_had : Nat} {A_t_leaves : Nat} {A_t_apart : Nat} {A_t_stop : Nat} {A_t_restOf : Nat} {A_t_group : Nat} {A_t_along : Nat} {A_t_kept : Nat} {A_t_isKept : Nat} {c_t_foggy : Int32} {c_t_walkers : Int32} {c_t_sights : Int32} {c_t_padMany : Int32} {c_t_acts : Int32} {c_t_spent : Int32} {c_t_walks : Int32} {c_t_badAct : Int32} {c_t_badWhy : Int32} {c_t_keptAt : Int32} {c_t_isWriting : Int32} {c_t_carries : Nat → Int32} {r : Int32} {x1 : Int32} {k : Int32 → Option (Int32)} (hC : cx_ p s m c G cX10_carrierOf 4 RX10) (hret : ∀ (pc : Nat) (H : Heap) (locs : List Loc) (ls : Array Slot), decode cX10_carrierOf pc = .ok (.ireturn, 1) → wd_ G A s.heap [ob_ A_t 10 [.ref A_t_steps, .ref A_t_wet, .int c_t_foggy, .int c_t_walkers, .ref A_t_where, .ref A_t_home, .ref A_t_light, .ref A_t_carries, .ref A_t_sightPlace, .ref A_t_sightLight, .int c_t_sights, .ref A_t_pad, .int c_t_padMany, .ref A_t_act, .ref A_t_whose, .ref A_t_whom, .ref A_t_tens, .int c_t_acts, .int c_t_spent, .int c_t_walks, .ref A_t_had, .ref A_t_leaves, .int c_t_badAct, .int c_t_badWhy, .ref A_t_apart, .ref A_t_stop, .ref A_t_restOf, .ref A_t_group, .ref A_t_along, .ref A_t_kept, .ref A_t_isKept, .int c_t_keptAt, .int c_t_isWriting], ia_ G A_t_carries 6 c_t_carries] H locs → W p l e { frames := 2, cells := 0, slots := 0, locals := 46 } s m args below meth c H locs 0 0 Q (F0 m pc ls [.int r])) (hk : ∀ (x2 : Int32) (H : Heap) (locs : List Loc) (ls : Array Slot), k x2 = some r → lv_has ls 4 [(2, .int x2)] → wd_ G A s.heap [ob_ A_t 10 [.ref A_t_steps, .ref A_t_wet, .int c_t_foggy, .int c_t_walkers, .ref A_t_where, .ref A_t_home, .ref A_t_light, .ref A_t_carries, .ref A_t_sightPlace, .ref A_t_sightLight, .int c_t_sights, .ref A_t_pad, .int c_t_padMany, .ref A_t_act, .ref A_t_whose, .ref A_t_whom, .ref A_t_tens, .int c_t_acts, .int c_t_spent, .int c_t_walks, .ref A_t_had, .ref A_t_leaves, .int c_t_badAct, .int c_t_badWhy, .ref A_t_apart, .ref A_t_stop, .ref A_t_restOf, .ref A_t_group, .ref A_t_along, .ref A_t_kept, .ref A_t_isKept, .int c_t_keptAt, .int c_t_isWriting], ia_ G A_t_carries 6 c_t_carries] H locs → W p l e { frames := 2, cells := 0, slots := 0, locals := 46 } s m args below meth c H locs 0 0 Q (F0 m 41 ls [])) : ∀ (n : Nat) (x2 : Int32) (x3 : Int32) (H : Heap) (locs : List Loc) (ls : Array Slot), fn_X10_carrierOf_l5 c_t_walkers c_t_carries x1 k n x2 x3 = some r → lv_has ls 4 [(0, .ref A_t), (1, .int x1), (2, .int x2), (3, .int x3)] → wd_ G A s.heap [ob_ A_t 10 [.ref A_t_steps, .ref A_t_wet, .int c_t_foggy, .int c_t_walkers, .ref A_t_where, .ref A_t_home, .ref A_t_light, .ref A_t_carries, .ref A_t_sightPlace, .ref A_t_sightLight, .int c_t_sights, .ref A_t_pad, .int c_t_padMany, .ref A_t_act, .ref A_t_whose, .ref A_t_whom, .ref A_t_tens, .int c_t_acts, .int c_t_spent, .int c_t_walks, .ref A_t_had, .ref A_t_leaves, .int c_t_badAct, .int c_t_badWhy, .ref A_t_apart, .ref A_t_stop, .ref A_t_restOf, .ref A_t_group, .ref A_t_along, .ref A_t_kept, .ref A_t_isKept, .int c_t_keptAt, .int c_t_isWriting], ia_ G A_t_carries 6 c_t_carries] H locs → W p l e { frames := 2, cells := 0, slots := 0, locals := 46 } s m args below meth c H locs 0 0 Q (F0 m 5 ls []) := by
  have hx := hC.1
  have hb := hC.2.1
  intro n
  induction n with
  | zero =>
    intro x2 x3 H locs ls hf
    cases (show (none : Option (Int32)) = some _ from hf)
  | succ n hrc =>
    intro x2 x3 H locs ls hf hl hw
    replace hf : fn_X10_carrierOf_b5 c_t_walkers c_t_carries x1 (fn_X10_carrierOf_l5 c_t_walkers c_t_carries x1 k n) k x2 x3 = some r := hf
    unfold fn_X10_carrierOf_b5 at hf
    refine lv_iload_n hx hb dX10_carrierOf_5 rfl (lv_at hl 3 rfl) ?_
    refine lv_bipush (v := 6) hx hb dX10_carrierOf_6 (by decide) ?_
    refine lv_icmp_ge (tgt := 41) hx hb dX10_carrierOf_8 (by decide) (fun hc => ?_) (fun hc => ?_)
    · replace hf := it_t hc hf
      exact hk x2 _ _ _ hf (lv_sub hl [2] rfl) hw
    · replace hf := it_f hc hf
      refine lv_aload_n hx hb dX10_carrierOf_11 rfl (lv_at hl 0 rfl) ?_
      refine lv_iload_n hx hb dX10_carrierOf_12 rfl (lv_at hl 3 rfl) ?_
      obtain ⟨r1, hq2, hf⟩ := b1_s hf
      refine g_cVi hC hw mvX10_106 (cn_X10_isWalker l G A_t A_t_steps A_t_wet A_t_where A_t_home A_t_light A_t_carries A_t_sightPlace A_t_sightLight A_t_pad A_t_act A_t_whose A_t_whom A_t_tens A_t_had A_t_leaves A_t_apart A_t_stop A_t_restOf A_t_group A_t_along A_t_kept A_t_isKept c_t_foggy c_t_walkers c_t_sights c_t_padMany c_t_acts c_t_spent c_t_walks c_t_badAct c_t_badWhy c_t_keptAt c_t_isWriting x3 r1 hq2) [0] rfl (by decide) rfl 0 rfl rfl rfl hl.1 rfl (Nat.le_of_ble_eq_true rfl) ⟨Nat.le_of_ble_eq_true rfl, Nat.le_of_ble_eq_true rfl⟩ ⟨Nat.le_refl _, Nat.le_refl _⟩ dX10_carrierOf_13 (fun H locs hw => ?_)
      have hw : wd_ G A s.heap [ob_ A_t 10 [.ref A_t_steps, .ref A_t_wet, .int c_t_foggy, .int c_t_walkers, .ref A_t_where, .ref A_t_home, .ref A_t_light, .ref A_t_carries, .ref A_t_sightPlace, .ref A_t_sightLight, .int c_t_sights, .ref A_t_pad, .int c_t_padMany, .ref A_t_act, .ref A_t_whose, .ref A_t_whom, .ref A_t_tens, .int c_t_acts, .int c_t_spent, .int c_t_walks, .ref A_t_had, .ref A_t_leaves, .int c_t_badAct, .int c_t_badWhy, .ref A_t_apart, .ref A_t_stop, .ref A_t_restOf, .ref A_t_group, .ref A_t_along, .ref A_t_kept, .ref A_t_isKept, .int c_t_keptAt, .int c_t_isWriting], ia_ G A_t_carries 6 c_t_carries] H locs := hw
      refine lv_if_eq (tgt := 33) hx hb dX10_carrierOf_16 (by decide) (fun hc => ?_) (fun hc => ?_)
      · replace hf := it_t hc hf
        refine lv_iload_n hx hb dX10_carrierOf_33 rfl (lv_at hl 2 rfl) ?_
        refine lv_istore_n (lv' := [(2, .int x2), (0, .ref A_t), (1, .int x1), (3, .int x3)]) hx hb dX10_carrierOf_34 rfl hl (by decide) rfl (fun ls hl => ?_)
        refine lv_iinc (v := x3 + 1) (lv' := [(3, .int (x3 + 1)), (2, .int x2), (0, .ref A_t), (1, .int x1)]) hx hb dX10_carrierOf_35 hl (k := 3) rfl rfl (by decide) rfl (fun ls hl => ?_)
        refine lv_goto (tgt := 5) hx hb dX10_carrierOf_38 (by decide) ?_
        exact hrc x2 (x3 + 1) _ _ _ hf (lv_sub hl [2, 3, 1, 0] rfl) hw
      · replace hf := it_f hc hf
        refine lv_aload_n hx hb dX10_carrierOf_19 rfl (lv_at hl 0 rfl) ?_
        refine g_get hC hw fkX10_25 0 rfl rfl dX10_carrierOf_20 ?_
        refine lv_iload_n hx hb dX10_carrierOf_23 rfl (lv_at hl 3 rfl) ?_
        obtain ⟨hi, hf⟩ := ck_s hf
        refine g_iald hC hw 1 rfl hi dX10_carrierOf_24 ?_
        refine lv_iload_n hx hb dX10_carrierOf_25 rfl (lv_at hl 1 rfl) ?_
        refine lv_icmp_ne (tgt := 33) hx hb dX10_carrierOf_26 (by decide) (fun hc => ?_) (fun hc => ?_)
        · replace hf := it_f hc hf
          refine lv_iload_n hx hb dX10_carrierOf_33 rfl (lv_at hl 2 rfl) ?_
          refine lv_istore_n (lv' := [(2, .int x2), (0, .ref A_t), (1, .int x1), (3, .int x3)]) hx hb dX10_carrierOf_34 rfl hl (by decide) rfl (fun ls hl => ?_)
          refine lv_iinc (v := x3 + 1) (lv' := [(3, .int (x3 + 1)), (2, .int x2), (0, .ref A_t), (1, .int x1)]) hx hb dX10_carrierOf_35 hl (k := 3) rfl rfl (by decide) rfl (fun ls hl => ?_)
          refine lv_goto (tgt := 5) hx hb dX10_carrierOf_38 (by decide) ?_
          exact hrc x2 (x3 + 1) _ _ _ hf (lv_sub hl [2, 3, 1, 0] rfl) hw
        · replace hf := it_t hc hf
          refine lv_iload_n hx hb dX10_carrierOf_29 rfl (lv_at hl 3 rfl) ?_
          refine lv_goto (tgt := 34) hx hb dX10_carrierOf_30 (by decide) ?_
          refine lv_istore_n (lv' := [(2, .int x3), (0, .ref A_t), (1, .int x1), (3, .int x3)]) hx hb dX10_carrierOf_34 rfl hl (by decide) rfl (fun ls hl => ?_)
          refine lv_iinc (v := x3 + 1) (lv' := [(3, .int (x3 + 1)), (2, .int x3), (0, .ref A_t), (1, .int x1)]) hx hb dX10_carrierOf_35 hl (k := 3) rfl rfl (by decide) rfl (fun ls hl => ?_)
          refine lv_goto (tgt := 5) hx hb dX10_carrierOf_38 (by decide) ?_
          exact hrc x3 (x3 + 1) _ _ _ hf (lv_sub hl [2, 3, 1, 0] rfl) hw
set_option maxHeartbeats 4000000 in
set_option maxRecDepth 100000 in
theorem wn_X10_carrierOf {p : Program} {l : Launch} {e : Env} {s : State} {m : MethodId} {args : Array Value} {below : List Frame} {meth : Method} {c : Code} {G : gw_} {A : Nat → Prop} {Q : State → Prop} {A_t : Nat} {A_t_steps : Nat} {A_t_wet : Nat} {A_t_where : Nat} {A_t_home : Nat} {A_t_light : Nat} {A_t_carries : Nat} {A_t_sightPlace : Nat} {A_t_sightLight : Nat} {A_t_pad : Nat} {A_t_act : Nat} {A_t_whose : Nat} {A_t_whom : Nat} {A_t_tens : Nat} {A_t_had : Nat} {A_t_leaves : Nat} {A_t_apart : Nat} {A_t_stop : Nat} {A_t_restOf : Nat} {A_t_group : Nat} {A_t_along : Nat} {A_t_kept : Nat} {A_t_isKept : Nat} {c_t_foggy : Int32} {c_t_walkers : Int32} {c_t_sights : Int32} {c_t_padMany : Int32} {c_t_acts : Int32} {c_t_spent : Int32} {c_t_walks : Int32} {c_t_badAct : Int32} {c_t_badWhy : Int32} {c_t_keptAt : Int32} {c_t_isWriting : Int32} {c_t_carries : Nat → Int32} {r : Int32} {x1 : Int32} (hC : cx_ p s m c G cX10_carrierOf 4 RX10) (hret : ∀ (pc : Nat) (H : Heap) (locs : List Loc) (ls : Array Slot), decode cX10_carrierOf pc = .ok (.ireturn, 1) → wd_ G A s.heap [ob_ A_t 10 [.ref A_t_steps, .ref A_t_wet, .int c_t_foggy, .int c_t_walkers, .ref A_t_where, .ref A_t_home, .ref A_t_light, .ref A_t_carries, .ref A_t_sightPlace, .ref A_t_sightLight, .int c_t_sights, .ref A_t_pad, .int c_t_padMany, .ref A_t_act, .ref A_t_whose, .ref A_t_whom, .ref A_t_tens, .int c_t_acts, .int c_t_spent, .int c_t_walks, .ref A_t_had, .ref A_t_leaves, .int c_t_badAct, .int c_t_badWhy, .ref A_t_apart, .ref A_t_stop, .ref A_t_restOf, .ref A_t_group, .ref A_t_along, .ref A_t_kept, .ref A_t_isKept, .int c_t_keptAt, .int c_t_isWriting], ia_ G A_t_carries 6 c_t_carries] H locs → W p l e { frames := 2, cells := 0, slots := 0, locals := 46 } s m args below meth c H locs 0 0 Q (F0 m pc ls [.int r])) (hf : fn_X10_carrierOf c_t_walkers c_t_carries x1 = some r) {H : Heap} {locs : List Loc} {ls : Array Slot} (hl : lv_has ls 4 [(0, .ref A_t), (1, .int x1)]) (hw : wd_ G A s.heap [ob_ A_t 10 [.ref A_t_steps, .ref A_t_wet, .int c_t_foggy, .int c_t_walkers, .ref A_t_where, .ref A_t_home, .ref A_t_light, .ref A_t_carries, .ref A_t_sightPlace, .ref A_t_sightLight, .int c_t_sights, .ref A_t_pad, .int c_t_padMany, .ref A_t_act, .ref A_t_whose, .ref A_t_whom, .ref A_t_tens, .int c_t_acts, .int c_t_spent, .int c_t_walks, .ref A_t_had, .ref A_t_leaves, .int c_t_badAct, .int c_t_badWhy, .ref A_t_apart, .ref A_t_stop, .ref A_t_restOf, .ref A_t_group, .ref A_t_along, .ref A_t_kept, .ref A_t_isKept, .int c_t_keptAt, .int c_t_isWriting], ia_ G A_t_carries 6 c_t_carries] H locs) : W p l e { frames := 2, cells := 0, slots := 0, locals := 46 } s m args below meth c H locs 0 0 Q (F0 m 0 ls []) := by
  have hx := hC.1
  have hb := hC.2.1
  unfold fn_X10_carrierOf at hf
  refine lv_bipush (v := (-6)) hx hb dX10_carrierOf_0 (by decide) ?_
  refine lv_istore_n (lv' := [(2, .int (-6)), (0, .ref A_t), (1, .int x1)]) hx hb dX10_carrierOf_2 rfl hl (by decide) rfl (fun ls hl => ?_)
  refine lv_iconst (v := 0) hx hb dX10_carrierOf_3 (by decide) ?_
  refine lv_istore_n (lv' := [(3, .int 0), (2, .int (-6)), (0, .ref A_t), (1, .int x1)]) hx hb dX10_carrierOf_4 rfl hl (by decide) rfl (fun ls hl => ?_)
  refine wn_X10_carrierOf_l5 hC hret (fun v3 H locs ls hf hl hw => ?_) fu_ (-6) 0 _ _ _ hf (lv_sub hl [2, 3, 1, 0] rfl) hw
  refine lv_iload_n hx hb dX10_carrierOf_41 rfl (lv_at hl 0 rfl) ?_
  cases hf
  exact hret _ _ _ _ dX10_carrierOf_42 hw
set_option maxHeartbeats 4000000 in
set_option maxRecDepth 100000 in
theorem cn_X10_carrierOf (l : Launch) (G : gw_) (A_t : Nat) (A_t_steps : Nat) (A_t_wet : Nat) (A_t_where : Nat) (A_t_home : Nat) (A_t_light : Nat) (A_t_carries : Nat) (A_t_sightPlace : Nat) (A_t_sightLight : Nat) (A_t_pad : Nat) (A_t_act : Nat) (A_t_whose : Nat) (A_t_whom : Nat) (A_t_tens : Nat) (A_t_had : Nat) (A_t_leaves : Nat) (A_t_apart : Nat) (A_t_stop : Nat) (A_t_restOf : Nat) (A_t_group : Nat) (A_t_along : Nat) (A_t_kept : Nat) (A_t_isKept : Nat) (c_t_foggy : Int32) (c_t_walkers : Int32) (c_t_sights : Int32) (c_t_padMany : Int32) (c_t_acts : Int32) (c_t_spent : Int32) (c_t_walks : Int32) (c_t_badAct : Int32) (c_t_badWhy : Int32) (c_t_keptAt : Int32) (c_t_isWriting : Int32) (c_t_carries : Nat → Int32) (x1 : Int32) (r : Int32) (hf : fn_X10_carrierOf c_t_walkers c_t_carries x1 = some r) : ci_ l G yX10_carrierOf cX10_carrierOf 4 (some .int) 2 46 [ob_ A_t 10 [.ref A_t_steps, .ref A_t_wet, .int c_t_foggy, .int c_t_walkers, .ref A_t_where, .ref A_t_home, .ref A_t_light, .ref A_t_carries, .ref A_t_sightPlace, .ref A_t_sightLight, .int c_t_sights, .ref A_t_pad, .int c_t_padMany, .ref A_t_act, .ref A_t_whose, .ref A_t_whom, .ref A_t_tens, .int c_t_acts, .int c_t_spent, .int c_t_walks, .ref A_t_had, .ref A_t_leaves, .int c_t_badAct, .int c_t_badWhy, .ref A_t_apart, .ref A_t_stop, .ref A_t_restOf, .ref A_t_group, .ref A_t_along, .ref A_t_kept, .ref A_t_isKept, .int c_t_keptAt, .int c_t_isWriting], ia_ G A_t_carries 6 c_t_carries] [.ref A_t, .int x1] r [ob_ A_t 10 [.ref A_t_steps, .ref A_t_wet, .int c_t_foggy, .int c_t_walkers, .ref A_t_where, .ref A_t_home, .ref A_t_light, .ref A_t_carries, .ref A_t_sightPlace, .ref A_t_sightLight, .int c_t_sights, .ref A_t_pad, .int c_t_padMany, .ref A_t_act, .ref A_t_whose, .ref A_t_whom, .ref A_t_tens, .int c_t_acts, .int c_t_spent, .int c_t_walks, .ref A_t_had, .ref A_t_leaves, .int c_t_badAct, .int c_t_badWhy, .ref A_t_apart, .ref A_t_stop, .ref A_t_restOf, .ref A_t_group, .ref A_t_along, .ref A_t_kept, .ref A_t_isKept, .int c_t_keptAt, .int c_t_isWriting], ia_ G A_t_carries 6 c_t_carries] := fun sz => met_intro (by decide) (Nat.le_of_ble_eq_true rfl) (fun p e s m args below meth c ls hsz hC hr hlk hnm hl hw => wn_X10_carrierOf hC (fun pc H locs ls hd hw => g_iret hC hr hlk hw rfl rfl hd) hf hl hw)

theorem dX10_letGo_0 : decode cX10_letGo 0 = .ok (.iconst 0, 1) := by decide +kernel
theorem dX10_letGo_1 : decode cX10_letGo 1 = .ok (.istore_n 2, 1) := by decide +kernel
theorem dX10_letGo_2 : decode cX10_letGo 2 = .ok (.iload_n 2, 1) := by decide +kernel
theorem dX10_letGo_3 : decode cX10_letGo 3 = .ok (.bipush 6, 2) := by decide +kernel
theorem dX10_letGo_5 : decode cX10_letGo 5 = .ok (.if_icmp .ge 36, 3) := by decide +kernel
theorem dX10_letGo_8 : decode cX10_letGo 8 = .ok (.aload_n 0, 1) := by decide +kernel
theorem dX10_letGo_9 : decode cX10_letGo 9 = .ok (.getfield 25, 3) := by decide +kernel
theorem dX10_letGo_12 : decode cX10_letGo 12 = .ok (.iload_n 2, 1) := by decide +kernel
theorem dX10_letGo_13 : decode cX10_letGo 13 = .ok (.aload_n 0, 1) := by decide +kernel
theorem dX10_letGo_14 : decode cX10_letGo 14 = .ok (.getfield 25, 3) := by decide +kernel
theorem dX10_letGo_17 : decode cX10_letGo 17 = .ok (.iload_n 2, 1) := by decide +kernel
theorem dX10_letGo_18 : decode cX10_letGo 18 = .ok (.iaload, 1) := by decide +kernel
theorem dX10_letGo_19 : decode cX10_letGo 19 = .ok (.iload_n 1, 1) := by decide +kernel
theorem dX10_letGo_20 : decode cX10_letGo 20 = .ok (.if_icmp .ne 8, 3) := by decide +kernel
theorem dX10_letGo_23 : decode cX10_letGo 23 = .ok (.bipush (-6), 2) := by decide +kernel
theorem dX10_letGo_25 : decode cX10_letGo 25 = .ok (.goto 9, 3) := by decide +kernel
theorem dX10_letGo_28 : decode cX10_letGo 28 = .ok (.aload_n 0, 1) := by decide +kernel
theorem dX10_letGo_29 : decode cX10_letGo 29 = .ok (.getfield 25, 3) := by decide +kernel
theorem dX10_letGo_32 : decode cX10_letGo 32 = .ok (.iload_n 2, 1) := by decide +kernel
theorem dX10_letGo_33 : decode cX10_letGo 33 = .ok (.iaload, 1) := by decide +kernel
theorem dX10_letGo_34 : decode cX10_letGo 34 = .ok (.iastore, 1) := by decide +kernel
theorem dX10_letGo_35 : decode cX10_letGo 35 = .ok (.iinc 2 1, 3) := by decide +kernel
theorem dX10_letGo_38 : decode cX10_letGo 38 = .ok (.goto (-36), 3) := by decide +kernel
theorem dX10_letGo_41 : decode cX10_letGo 41 = .ok (.aload_n 0, 1) := by decide +kernel
theorem dX10_letGo_42 : decode cX10_letGo 42 = .ok (.getfield 25, 3) := by decide +kernel
theorem dX10_letGo_45 : decode cX10_letGo 45 = .ok (.iload_n 1, 1) := by decide +kernel
theorem dX10_letGo_46 : decode cX10_letGo 46 = .ok (.bipush (-6), 2) := by decide +kernel
theorem dX10_letGo_48 : decode cX10_letGo 48 = .ok (.iastore, 1) := by decide +kernel
theorem dX10_letGo_49 : decode cX10_letGo 49 = .ok (.return_, 1) := by decide +kernel
def fn_X10_letGo_b2 (x1 : Int32) (rc : Int32 → (Nat → Int32) → Option ((Nat → Int32))) (k : (Nat → Int32) → Option ((Nat → Int32))) (x2 : Int32) (c_t_carries : Nat → Int32) : Option ((Nat → Int32)) :=
  if 6 ≤ x2 then
    k c_t_carries
  else
    ck_ x2 6 <|
    if (c_t_carries (Int32.toNatClampNeg x2)) = x1 then
      ck_ x2 6 <|
      lx_ (upd c_t_carries (Int32.toNatClampNeg x2) (-6)) fun f2 =>
      rc (x2 + 1) f2
    else
      ck_ x2 6 <|
      ck_ x2 6 <|
      lx_ (upd c_t_carries (Int32.toNatClampNeg x2) (c_t_carries (Int32.toNatClampNeg x2))) fun f1 =>
      rc (x2 + 1) f1
def fn_X10_letGo_l2 (x1 : Int32) (k : (Nat → Int32) → Option ((Nat → Int32))) : Nat → Int32 → (Nat → Int32) → Option ((Nat → Int32))
  | 0 => fun _ _ => none
  | n + 1 => fun x2 c_t_carries => fn_X10_letGo_b2 x1 (fn_X10_letGo_l2 x1 k n) k x2 c_t_carries
def fn_X10_letGo (c_t_carries : Nat → Int32) (x1 : Int32) : Option ((Nat → Int32)) :=
  fn_X10_letGo_l2 x1 (fun v3 =>
    ck_ x1 6 <|
    lx_ (upd v3 (Int32.toNatClampNeg x1) (-6)) fun f4 =>
    some f4) fu_ 0 c_t_carries
set_option maxHeartbeats 4000000 in
set_option maxRecDepth 100000 in
theorem wn_X10_letGo_l2 {p : Program} {l : Launch} {e : Env} {s : State} {m : MethodId} {args : Array Value} {below : List Frame} {meth : Method} {c : Code} {G : gw_} {A : Nat → Prop} {Q : State → Prop} {A_t : Nat} {A_t_steps : Nat} {A_t_wet : Nat} {A_t_where : Nat} {A_t_home : Nat} {A_t_light : Nat} {A_t_carries : Nat} {A_t_sightPlace : Nat} {A_t_sightLight : Nat} {A_t_pad : Nat} {A_t_act : Nat} {A_t_whose : Nat} {A_t_whom : Nat} {A_t_tens : Nat} {A_t_had : Nat} {A_t_leaves : Nat} {A_t_apart : Nat} {A_t_stop : Nat} {A_t_restOf : Nat} {A_t_group : Nat} {A_t_along : Nat} {A_t_kept : Nat} {A_t_isKept : Nat} {c_t_foggy : Int32} {c_t_walkers : Int32} {c_t_sights : Int32} {c_t_padMany : Int32} {c_t_acts : Int32} {c_t_spent : Int32} {c_t_walks : Int32} {c_t_badAct : Int32} {c_t_badWhy : Int32} {c_t_keptAt : Int32} {c_t_isWriting : Int32} {z_t_carries : Nat → Int32} {x1 : Int32} {k : (Nat → Int32) → Option ((Nat → Int32))} (hC : cx_ p s m c G cX10_letGo 3 RX10) (hret : ∀ (pc : Nat) (H : Heap) (locs : List Loc) (ls : Array Slot), decode cX10_letGo pc = .ok (.return_, 1) → wd_ G A s.heap [ob_ A_t 10 [.ref A_t_steps, .ref A_t_wet, .int c_t_foggy, .int c_t_walkers, .ref A_t_where, .ref A_t_home, .ref A_t_light, .ref A_t_carries, .ref A_t_sightPlace, .ref A_t_sightLight, .int c_t_sights, .ref A_t_pad, .int c_t_padMany, .ref A_t_act, .ref A_t_whose, .ref A_t_whom, .ref A_t_tens, .int c_t_acts, .int c_t_spent, .int c_t_walks, .ref A_t_had, .ref A_t_leaves, .int c_t_badAct, .int c_t_badWhy, .ref A_t_apart, .ref A_t_stop, .ref A_t_restOf, .ref A_t_group, .ref A_t_along, .ref A_t_kept, .ref A_t_isKept, .int c_t_keptAt, .int c_t_isWriting], ia_ G A_t_carries 6 z_t_carries] H locs → W p l e { frames := 0, cells := 0, slots := 0, locals := 0 } s m args below meth c H locs 0 0 Q (F0 m pc ls [])) (hk : ∀ (c_t_carries : Nat → Int32) (H : Heap) (locs : List Loc) (ls : Array Slot), k c_t_carries = some z_t_carries → lv_has ls 3 [(0, .ref A_t), (1, .int x1)] → wd_ G A s.heap [ob_ A_t 10 [.ref A_t_steps, .ref A_t_wet, .int c_t_foggy, .int c_t_walkers, .ref A_t_where, .ref A_t_home, .ref A_t_light, .ref A_t_carries, .ref A_t_sightPlace, .ref A_t_sightLight, .int c_t_sights, .ref A_t_pad, .int c_t_padMany, .ref A_t_act, .ref A_t_whose, .ref A_t_whom, .ref A_t_tens, .int c_t_acts, .int c_t_spent, .int c_t_walks, .ref A_t_had, .ref A_t_leaves, .int c_t_badAct, .int c_t_badWhy, .ref A_t_apart, .ref A_t_stop, .ref A_t_restOf, .ref A_t_group, .ref A_t_along, .ref A_t_kept, .ref A_t_isKept, .int c_t_keptAt, .int c_t_isWriting], ia_ G A_t_carries 6 c_t_carries] H locs → W p l e { frames := 0, cells := 0, slots := 0, locals := 0 } s m args below meth c H locs 0 0 Q (F0 m 41 ls [])) : ∀ (n : Nat) (x2 : Int32) (c_t_carries : Nat → Int32) (H : Heap) (locs : List Loc) (ls : Array Slot), fn_X10_letGo_l2 x1 k n x2 c_t_carries = some z_t_carries → lv_has ls 3 [(0, .ref A_t), (1, .int x1), (2, .int x2)] → wd_ G A s.heap [ob_ A_t 10 [.ref A_t_steps, .ref A_t_wet, .int c_t_foggy, .int c_t_walkers, .ref A_t_where, .ref A_t_home, .ref A_t_light, .ref A_t_carries, .ref A_t_sightPlace, .ref A_t_sightLight, .int c_t_sights, .ref A_t_pad, .int c_t_padMany, .ref A_t_act, .ref A_t_whose, .ref A_t_whom, .ref A_t_tens, .int c_t_acts, .int c_t_spent, .int c_t_walks, .ref A_t_had, .ref A_t_leaves, .int c_t_badAct, .int c_t_badWhy, .ref A_t_apart, .ref A_t_stop, .ref A_t_restOf, .ref A_t_group, .ref A_t_along, .ref A_t_kept, .ref A_t_isKept, .int c_t_keptAt, .int c_t_isWriting], ia_ G A_t_carries 6 c_t_carries] H locs → W p l e { frames := 0, cells := 0, slots := 0, locals := 0 } s m args below meth c H locs 0 0 Q (F0 m 2 ls []) := by
  have hx := hC.1
  have hb := hC.2.1
  intro n
  induction n with
  | zero =>
    intro x2 c_t_carries H locs ls hf
    cases (show (none : Option ((Nat → Int32))) = some _ from hf)
  | succ n hrc =>
    intro x2 c_t_carries H locs ls hf hl hw
    replace hf : fn_X10_letGo_b2 x1 (fn_X10_letGo_l2 x1 k n) k x2 c_t_carries = some z_t_carries := hf
    unfold fn_X10_letGo_b2 at hf
    refine lv_iload_n hx hb dX10_letGo_2 rfl (lv_at hl 2 rfl) ?_
    refine lv_bipush (v := 6) hx hb dX10_letGo_3 (by decide) ?_
    refine lv_icmp_ge (tgt := 41) hx hb dX10_letGo_5 (by decide) (fun hc => ?_) (fun hc => ?_)
    · replace hf := it_t hc hf
      exact hk c_t_carries _ _ _ hf (lv_sub hl [0, 1] rfl) hw
    · replace hf := it_f hc hf
      refine lv_aload_n hx hb dX10_letGo_8 rfl (lv_at hl 0 rfl) ?_
      refine g_get hC hw fkX10_25 0 rfl rfl dX10_letGo_9 ?_
      refine lv_iload_n hx hb dX10_letGo_12 rfl (lv_at hl 2 rfl) ?_
      refine lv_aload_n hx hb dX10_letGo_13 rfl (lv_at hl 0 rfl) ?_
      refine g_get hC hw fkX10_25 0 rfl rfl dX10_letGo_14 ?_
      refine lv_iload_n hx hb dX10_letGo_17 rfl (lv_at hl 2 rfl) ?_
      obtain ⟨hi, hf⟩ := ck_s hf
      refine g_iald hC hw 1 rfl hi dX10_letGo_18 ?_
      refine lv_iload_n hx hb dX10_letGo_19 rfl (lv_at hl 1 rfl) ?_
      refine lv_icmp_ne (tgt := 28) hx hb dX10_letGo_20 (by decide) (fun hc => ?_) (fun hc => ?_)
      · replace hf := it_f hc hf
        refine lv_aload_n hx hb dX10_letGo_28 rfl (lv_at hl 0 rfl) ?_
        refine g_get hC hw fkX10_25 0 rfl rfl dX10_letGo_29 ?_
        refine lv_iload_n hx hb dX10_letGo_32 rfl (lv_at hl 2 rfl) ?_
        obtain ⟨hi, hf⟩ := ck_s hf
        refine g_iald hC hw 1 rfl hi dX10_letGo_33 ?_
        obtain ⟨hi, hf⟩ := ck_s hf
        obtain ⟨f1, ef1, hf⟩ := lx_s hf
        refine g_iast hC hw 1 rfl hi ef1 dX10_letGo_34 (fun H locs hw => ?_)
        have hw : wd_ G A s.heap [ob_ A_t 10 [.ref A_t_steps, .ref A_t_wet, .int c_t_foggy, .int c_t_walkers, .ref A_t_where, .ref A_t_home, .ref A_t_light, .ref A_t_carries, .ref A_t_sightPlace, .ref A_t_sightLight, .int c_t_sights, .ref A_t_pad, .int c_t_padMany, .ref A_t_act, .ref A_t_whose, .ref A_t_whom, .ref A_t_tens, .int c_t_acts, .int c_t_spent, .int c_t_walks, .ref A_t_had, .ref A_t_leaves, .int c_t_badAct, .int c_t_badWhy, .ref A_t_apart, .ref A_t_stop, .ref A_t_restOf, .ref A_t_group, .ref A_t_along, .ref A_t_kept, .ref A_t_isKept, .int c_t_keptAt, .int c_t_isWriting], ia_ G A_t_carries 6 f1] H locs := hw
        refine lv_iinc (v := x2 + 1) (lv' := [(2, .int (x2 + 1)), (0, .ref A_t), (1, .int x1)]) hx hb dX10_letGo_35 hl (k := 2) rfl rfl (by decide) rfl (fun ls hl => ?_)
        refine lv_goto (tgt := 2) hx hb dX10_letGo_38 (by decide) ?_
        exact hrc (x2 + 1) f1 _ _ _ hf (lv_sub hl [1, 2, 0] rfl) hw
      · replace hf := it_t hc hf
        refine lv_bipush (v := (-6)) hx hb dX10_letGo_23 (by decide) ?_
        refine lv_goto (tgt := 34) hx hb dX10_letGo_25 (by decide) ?_
        obtain ⟨hi, hf⟩ := ck_s hf
        obtain ⟨f2, ef2, hf⟩ := lx_s hf
        refine g_iast hC hw 1 rfl hi ef2 dX10_letGo_34 (fun H locs hw => ?_)
        have hw : wd_ G A s.heap [ob_ A_t 10 [.ref A_t_steps, .ref A_t_wet, .int c_t_foggy, .int c_t_walkers, .ref A_t_where, .ref A_t_home, .ref A_t_light, .ref A_t_carries, .ref A_t_sightPlace, .ref A_t_sightLight, .int c_t_sights, .ref A_t_pad, .int c_t_padMany, .ref A_t_act, .ref A_t_whose, .ref A_t_whom, .ref A_t_tens, .int c_t_acts, .int c_t_spent, .int c_t_walks, .ref A_t_had, .ref A_t_leaves, .int c_t_badAct, .int c_t_badWhy, .ref A_t_apart, .ref A_t_stop, .ref A_t_restOf, .ref A_t_group, .ref A_t_along, .ref A_t_kept, .ref A_t_isKept, .int c_t_keptAt, .int c_t_isWriting], ia_ G A_t_carries 6 f2] H locs := hw
        refine lv_iinc (v := x2 + 1) (lv' := [(2, .int (x2 + 1)), (0, .ref A_t), (1, .int x1)]) hx hb dX10_letGo_35 hl (k := 2) rfl rfl (by decide) rfl (fun ls hl => ?_)
        refine lv_goto (tgt := 2) hx hb dX10_letGo_38 (by decide) ?_
        exact hrc (x2 + 1) f2 _ _ _ hf (lv_sub hl [1, 2, 0] rfl) hw
set_option maxHeartbeats 4000000 in
set_option maxRecDepth 100000 in
theorem wn_X10_letGo {p : Program} {l : Launch} {e : Env} {s : State} {m : MethodId} {args : Array Value} {below : List Frame} {meth : Method} {c : Code} {G : gw_} {A : Nat → Prop} {Q : State → Prop} {A_t : Nat} {A_t_steps : Nat} {A_t_wet : Nat} {A_t_where : Nat} {A_t_home : Nat} {A_t_light : Nat} {A_t_carries : Nat} {A_t_sightPlace : Nat} {A_t_sightLight : Nat} {A_t_pad : Nat} {A_t_act : Nat} {A_t_whose : Nat} {A_t_whom : Nat} {A_t_tens : Nat} {A_t_had : Nat} {A_t_leaves : Nat} {A_t_apart : Nat} {A_t_stop : Nat} {A_t_restOf : Nat} {A_t_group : Nat} {A_t_along : Nat} {A_t_kept : Nat} {A_t_isKept : Nat} {c_t_foggy : Int32} {c_t_walkers : Int32} {c_t_sights : Int32} {c_t_padMany : Int32} {c_t_acts : Int32} {c_t_spent : Int32} {c_t_walks : Int32} {c_t_badAct : Int32} {c_t_badWhy : Int32} {c_t_keptAt : Int32} {c_t_isWriting : Int32} {c_t_carries : Nat → Int32} {z_t_carries : Nat → Int32} {x1 : Int32} (hC : cx_ p s m c G cX10_letGo 3 RX10) (hret : ∀ (pc : Nat) (H : Heap) (locs : List Loc) (ls : Array Slot), decode cX10_letGo pc = .ok (.return_, 1) → wd_ G A s.heap [ob_ A_t 10 [.ref A_t_steps, .ref A_t_wet, .int c_t_foggy, .int c_t_walkers, .ref A_t_where, .ref A_t_home, .ref A_t_light, .ref A_t_carries, .ref A_t_sightPlace, .ref A_t_sightLight, .int c_t_sights, .ref A_t_pad, .int c_t_padMany, .ref A_t_act, .ref A_t_whose, .ref A_t_whom, .ref A_t_tens, .int c_t_acts, .int c_t_spent, .int c_t_walks, .ref A_t_had, .ref A_t_leaves, .int c_t_badAct, .int c_t_badWhy, .ref A_t_apart, .ref A_t_stop, .ref A_t_restOf, .ref A_t_group, .ref A_t_along, .ref A_t_kept, .ref A_t_isKept, .int c_t_keptAt, .int c_t_isWriting], ia_ G A_t_carries 6 z_t_carries] H locs → W p l e { frames := 0, cells := 0, slots := 0, locals := 0 } s m args below meth c H locs 0 0 Q (F0 m pc ls [])) (hf : fn_X10_letGo c_t_carries x1 = some z_t_carries) {H : Heap} {locs : List Loc} {ls : Array Slot} (hl : lv_has ls 3 [(0, .ref A_t), (1, .int x1)]) (hw : wd_ G A s.heap [ob_ A_t 10 [.ref A_t_steps, .ref A_t_wet, .int c_t_foggy, .int c_t_walkers, .ref A_t_where, .ref A_t_home, .ref A_t_light, .ref A_t_carries, .ref A_t_sightPlace, .ref A_t_sightLight, .int c_t_sights, .ref A_t_pad, .int c_t_padMany, .ref A_t_act, .ref A_t_whose, .ref A_t_whom, .ref A_t_tens, .int c_t_acts, .int c_t_spent, .int c_t_walks, .ref A_t_had, .ref A_t_leaves, .int c_t_badAct, .int c_t_badWhy, .ref A_t_apart, .ref A_t_stop, .ref A_t_restOf, .ref A_t_group, .ref A_t_along, .ref A_t_kept, .ref A_t_isKept, .int c_t_keptAt, .int c_t_isWriting], ia_ G A_t_carries 6 c_t_carries] H locs) : W p l e { frames := 0, cells := 0, slots := 0, locals := 0 } s m args below meth c H locs 0 0 Q (F0 m 0 ls []) := by
  have hx := hC.1
  have hb := hC.2.1
  unfold fn_X10_letGo at hf
  refine lv_iconst (v := 0) hx hb dX10_letGo_0 (by decide) ?_
  refine lv_istore_n (lv' := [(2, .int 0), (0, .ref A_t), (1, .int x1)]) hx hb dX10_letGo_1 rfl hl (by decide) rfl (fun ls hl => ?_)
  refine wn_X10_letGo_l2 hC hret (fun v3 H locs ls hf hl hw => ?_) fu_ 0 c_t_carries _ _ _ hf (lv_sub hl [1, 2, 0] rfl) hw
  refine lv_aload_n hx hb dX10_letGo_41 rfl (lv_at hl 0 rfl) ?_
  refine g_get hC hw fkX10_25 0 rfl rfl dX10_letGo_42 ?_
  refine lv_iload_n hx hb dX10_letGo_45 rfl (lv_at hl 1 rfl) ?_
  refine lv_bipush (v := (-6)) hx hb dX10_letGo_46 (by decide) ?_
  obtain ⟨hi, hf⟩ := ck_s hf
  obtain ⟨f4, ef4, hf⟩ := lx_s hf
  refine g_iast hC hw 1 rfl hi ef4 dX10_letGo_48 (fun H locs hw => ?_)
  have hw : wd_ G A s.heap [ob_ A_t 10 [.ref A_t_steps, .ref A_t_wet, .int c_t_foggy, .int c_t_walkers, .ref A_t_where, .ref A_t_home, .ref A_t_light, .ref A_t_carries, .ref A_t_sightPlace, .ref A_t_sightLight, .int c_t_sights, .ref A_t_pad, .int c_t_padMany, .ref A_t_act, .ref A_t_whose, .ref A_t_whom, .ref A_t_tens, .int c_t_acts, .int c_t_spent, .int c_t_walks, .ref A_t_had, .ref A_t_leaves, .int c_t_badAct, .int c_t_badWhy, .ref A_t_apart, .ref A_t_stop, .ref A_t_restOf, .ref A_t_group, .ref A_t_along, .ref A_t_kept, .ref A_t_isKept, .int c_t_keptAt, .int c_t_isWriting], ia_ G A_t_carries 6 f4] H locs := hw
  cases hf
  exact hret _ _ _ _ dX10_letGo_49 hw
set_option maxHeartbeats 4000000 in
set_option maxRecDepth 100000 in
theorem cn_X10_letGo (l : Launch) (G : gw_) (A_t : Nat) (A_t_steps : Nat) (A_t_wet : Nat) (A_t_where : Nat) (A_t_home : Nat) (A_t_light : Nat) (A_t_carries : Nat) (A_t_sightPlace : Nat) (A_t_sightLight : Nat) (A_t_pad : Nat) (A_t_act : Nat) (A_t_whose : Nat) (A_t_whom : Nat) (A_t_tens : Nat) (A_t_had : Nat) (A_t_leaves : Nat) (A_t_apart : Nat) (A_t_stop : Nat) (A_t_restOf : Nat) (A_t_group : Nat) (A_t_along : Nat) (A_t_kept : Nat) (A_t_isKept : Nat) (c_t_foggy : Int32) (c_t_walkers : Int32) (c_t_sights : Int32) (c_t_padMany : Int32) (c_t_acts : Int32) (c_t_spent : Int32) (c_t_walks : Int32) (c_t_badAct : Int32) (c_t_badWhy : Int32) (c_t_keptAt : Int32) (c_t_isWriting : Int32) (c_t_carries : Nat → Int32) (x1 : Int32) (z_t_carries : Nat → Int32) (hf : fn_X10_letGo c_t_carries x1 = some z_t_carries) : cv_ l G yX10_letGo cX10_letGo 3 none 0 0 [ob_ A_t 10 [.ref A_t_steps, .ref A_t_wet, .int c_t_foggy, .int c_t_walkers, .ref A_t_where, .ref A_t_home, .ref A_t_light, .ref A_t_carries, .ref A_t_sightPlace, .ref A_t_sightLight, .int c_t_sights, .ref A_t_pad, .int c_t_padMany, .ref A_t_act, .ref A_t_whose, .ref A_t_whom, .ref A_t_tens, .int c_t_acts, .int c_t_spent, .int c_t_walks, .ref A_t_had, .ref A_t_leaves, .int c_t_badAct, .int c_t_badWhy, .ref A_t_apart, .ref A_t_stop, .ref A_t_restOf, .ref A_t_group, .ref A_t_along, .ref A_t_kept, .ref A_t_isKept, .int c_t_keptAt, .int c_t_isWriting], ia_ G A_t_carries 6 c_t_carries] [.ref A_t, .int x1] [ob_ A_t 10 [.ref A_t_steps, .ref A_t_wet, .int c_t_foggy, .int c_t_walkers, .ref A_t_where, .ref A_t_home, .ref A_t_light, .ref A_t_carries, .ref A_t_sightPlace, .ref A_t_sightLight, .int c_t_sights, .ref A_t_pad, .int c_t_padMany, .ref A_t_act, .ref A_t_whose, .ref A_t_whom, .ref A_t_tens, .int c_t_acts, .int c_t_spent, .int c_t_walks, .ref A_t_had, .ref A_t_leaves, .int c_t_badAct, .int c_t_badWhy, .ref A_t_apart, .ref A_t_stop, .ref A_t_restOf, .ref A_t_group, .ref A_t_along, .ref A_t_kept, .ref A_t_isKept, .int c_t_keptAt, .int c_t_isWriting], ia_ G A_t_carries 6 z_t_carries] := fun sz => met_intro (by decide) (Nat.le_of_ble_eq_true rfl) (fun p e s m args below meth c ls hsz hC hr hlk hnm hl hw => wn_X10_letGo hC (fun pc H locs ls hd hw => g_vret hC hr hlk hw hd) hf hl hw)

theorem dX10_walker_0 : decode cX10_walker 0 = .ok (.iload_n 1, 1) := by decide +kernel
theorem dX10_walker_1 : decode cX10_walker 1 = .ok (.i2l, 1) := by decide +kernel
theorem dX10_walker_2 : decode cX10_walker 2 = .ok (.lconst 0, 1) := by decide +kernel
theorem dX10_walker_3 : decode cX10_walker 3 = .ok (.ldc2_w 83, 3) := by decide +kernel
theorem dX10_walker_6 : decode cX10_walker 6 = .ok (.invokestatic 79, 3) := by decide +kernel
theorem dX10_walker_9 : decode cX10_walker 9 = .ok (.ifCond .eq 17, 3) := by decide +kernel
theorem dX10_walker_12 : decode cX10_walker 12 = .ok (.iload_n 2, 1) := by decide +kernel
theorem dX10_walker_13 : decode cX10_walker 13 = .ok (.invokestatic 100, 3) := by decide +kernel
theorem dX10_walker_16 : decode cX10_walker 16 = .ok (.ifCond .eq 10, 3) := by decide +kernel
theorem dX10_walker_19 : decode cX10_walker 19 = .ok (.iload_n 3, 1) := by decide +kernel
theorem dX10_walker_20 : decode cX10_walker 20 = .ok (.invokestatic 100, 3) := by decide +kernel
theorem dX10_walker_23 : decode cX10_walker 23 = .ok (.ifCond .ne 5, 3) := by decide +kernel
theorem dX10_walker_26 : decode cX10_walker 26 = .ok (.iconst (-1), 1) := by decide +kernel
theorem dX10_walker_27 : decode cX10_walker 27 = .ok (.ireturn, 1) := by decide +kernel
theorem dX10_walker_28 : decode cX10_walker 28 = .ok (.iload 4, 2) := by decide +kernel
theorem dX10_walker_30 : decode cX10_walker 30 = .ok (.i2l, 1) := by decide +kernel
theorem dX10_walker_31 : decode cX10_walker 31 = .ok (.lconst 0, 1) := by decide +kernel
theorem dX10_walker_32 : decode cX10_walker 32 = .ok (.ldc2_w 109, 3) := by decide +kernel
theorem dX10_walker_35 : decode cX10_walker 35 = .ok (.invokestatic 79, 3) := by decide +kernel
theorem dX10_walker_38 : decode cX10_walker 38 = .ok (.ifCond .ne 6, 3) := by decide +kernel
theorem dX10_walker_41 : decode cX10_walker 41 = .ok (.bipush (-2), 2) := by decide +kernel
theorem dX10_walker_43 : decode cX10_walker 43 = .ok (.ireturn, 1) := by decide +kernel
theorem dX10_walker_44 : decode cX10_walker 44 = .ok (.aload_n 0, 1) := by decide +kernel
theorem dX10_walker_45 : decode cX10_walker 45 = .ok (.iload_n 1, 1) := by decide +kernel
theorem dX10_walker_46 : decode cX10_walker 46 = .ok (.invokevirtual 111, 3) := by decide +kernel
theorem dX10_walker_49 : decode cX10_walker 49 = .ok (.aload_n 0, 1) := by decide +kernel
theorem dX10_walker_50 : decode cX10_walker 50 = .ok (.getfield 16, 3) := by decide +kernel
theorem dX10_walker_53 : decode cX10_walker 53 = .ok (.iload_n 1, 1) := by decide +kernel
theorem dX10_walker_54 : decode cX10_walker 54 = .ok (.iload_n 2, 1) := by decide +kernel
theorem dX10_walker_55 : decode cX10_walker 55 = .ok (.iastore, 1) := by decide +kernel
theorem dX10_walker_56 : decode cX10_walker 56 = .ok (.aload_n 0, 1) := by decide +kernel
theorem dX10_walker_57 : decode cX10_walker 57 = .ok (.getfield 19, 3) := by decide +kernel
theorem dX10_walker_60 : decode cX10_walker 60 = .ok (.iload_n 1, 1) := by decide +kernel
theorem dX10_walker_61 : decode cX10_walker 61 = .ok (.iload_n 3, 1) := by decide +kernel
theorem dX10_walker_62 : decode cX10_walker 62 = .ok (.iastore, 1) := by decide +kernel
theorem dX10_walker_63 : decode cX10_walker 63 = .ok (.aload_n 0, 1) := by decide +kernel
theorem dX10_walker_64 : decode cX10_walker 64 = .ok (.getfield 22, 3) := by decide +kernel
theorem dX10_walker_67 : decode cX10_walker 67 = .ok (.iload_n 1, 1) := by decide +kernel
theorem dX10_walker_68 : decode cX10_walker 68 = .ok (.iload 4, 2) := by decide +kernel
theorem dX10_walker_70 : decode cX10_walker 70 = .ok (.iastore, 1) := by decide +kernel
theorem dX10_walker_71 : decode cX10_walker 71 = .ok (.aload_n 0, 1) := by decide +kernel
theorem dX10_walker_72 : decode cX10_walker 72 = .ok (.dup, 1) := by decide +kernel
theorem dX10_walker_73 : decode cX10_walker 73 = .ok (.getfield 85, 3) := by decide +kernel
theorem dX10_walker_76 : decode cX10_walker 76 = .ok (.iconst 1, 1) := by decide +kernel
theorem dX10_walker_77 : decode cX10_walker 77 = .ok (.iload_n 1, 1) := by decide +kernel
theorem dX10_walker_78 : decode cX10_walker 78 = .ok (.ishl, 1) := by decide +kernel
theorem dX10_walker_79 : decode cX10_walker 79 = .ok (.ior, 1) := by decide +kernel
theorem dX10_walker_80 : decode cX10_walker 80 = .ok (.putfield 85, 3) := by decide +kernel
theorem dX10_walker_83 : decode cX10_walker 83 = .ok (.aload_n 0, 1) := by decide +kernel
theorem dX10_walker_84 : decode cX10_walker 84 = .ok (.getfield 85, 3) := by decide +kernel
theorem dX10_walker_87 : decode cX10_walker 87 = .ok (.invokestatic 115, 3) := by decide +kernel
theorem dX10_walker_90 : decode cX10_walker 90 = .ok (.ireturn, 1) := by decide +kernel
def fn_X10_walker (c_t_walkers : Int32) (c_t_where : Nat → Int32) (c_t_home : Nat → Int32) (c_t_light : Nat → Int32) (c_t_carries : Nat → Int32) (x1 : Int32) (x2 : Int32) (x3 : Int32) (x4 : Int32) : Option (Int32 × Int32 × (Nat → Int32) × (Nat → Int32) × (Nat → Int32) × (Nat → Int32)) :=
  b1_ (fn_X10_in (Int32.toInt64 x1) 0 5) fun r1 =>
  if r1 = 0 then
    some ((-1), c_t_walkers, c_t_where, c_t_home, c_t_light, c_t_carries)
  else
    b1_ (fn_X10_isPlace x2) fun r3 =>
    if r3 = 0 then
      some ((-1), c_t_walkers, c_t_where, c_t_home, c_t_light, c_t_carries)
    else
      b1_ (fn_X10_isPlace x3) fun r5 =>
      if r5 = 0 then
        some ((-1), c_t_walkers, c_t_where, c_t_home, c_t_light, c_t_carries)
      else
        b1_ (fn_X10_in (Int32.toInt64 x4) 0 999) fun r7 =>
        if r7 = 0 then
          some ((-2), c_t_walkers, c_t_where, c_t_home, c_t_light, c_t_carries)
        else
          b1_ (fn_X10_letGo c_t_carries x1) fun w9 =>
          ck_ x1 6 <|
          lx_ (upd c_t_where (Int32.toNatClampNeg x1) x2) fun f11 =>
          ck_ x1 6 <|
          lx_ (upd c_t_home (Int32.toNatClampNeg x1) x3) fun f12 =>
          ck_ x1 6 <|
          lx_ (upd c_t_light (Int32.toNatClampNeg x1) x4) fun f13 =>
          lx_ (c_t_walkers ||| (1 <<< (x1 &&& 31))) fun y14 =>
          b1_ (fn_X10_ones y14) fun r15 =>
          some (r15, y14, f11, f12, f13, w9)
set_option maxHeartbeats 4000000 in
set_option maxRecDepth 100000 in
theorem wn_X10_walker {p : Program} {l : Launch} {e : Env} {s : State} {m : MethodId} {args : Array Value} {below : List Frame} {meth : Method} {c : Code} {G : gw_} {A : Nat → Prop} {Q : State → Prop} {A_t : Nat} {A_t_steps : Nat} {A_t_wet : Nat} {A_t_where : Nat} {A_t_home : Nat} {A_t_light : Nat} {A_t_carries : Nat} {A_t_sightPlace : Nat} {A_t_sightLight : Nat} {A_t_pad : Nat} {A_t_act : Nat} {A_t_whose : Nat} {A_t_whom : Nat} {A_t_tens : Nat} {A_t_had : Nat} {A_t_leaves : Nat} {A_t_apart : Nat} {A_t_stop : Nat} {A_t_restOf : Nat} {A_t_group : Nat} {A_t_along : Nat} {A_t_kept : Nat} {A_t_isKept : Nat} {c_t_foggy : Int32} {c_t_walkers : Int32} {z_t_walkers : Int32} {c_t_sights : Int32} {c_t_padMany : Int32} {c_t_acts : Int32} {c_t_spent : Int32} {c_t_walks : Int32} {c_t_badAct : Int32} {c_t_badWhy : Int32} {c_t_keptAt : Int32} {c_t_isWriting : Int32} {c_t_where : Nat → Int32} {z_t_where : Nat → Int32} {c_t_home : Nat → Int32} {z_t_home : Nat → Int32} {c_t_light : Nat → Int32} {z_t_light : Nat → Int32} {c_t_carries : Nat → Int32} {z_t_carries : Nat → Int32} {r : Int32} {x1 : Int32} {x2 : Int32} {x3 : Int32} {x4 : Int32} (hC : cx_ p s m c G cX10_walker 5 RX10) (hret : ∀ (pc : Nat) (H : Heap) (locs : List Loc) (ls : Array Slot), decode cX10_walker pc = .ok (.ireturn, 1) → wd_ G A s.heap [ob_ A_t 10 [.ref A_t_steps, .ref A_t_wet, .int c_t_foggy, .int z_t_walkers, .ref A_t_where, .ref A_t_home, .ref A_t_light, .ref A_t_carries, .ref A_t_sightPlace, .ref A_t_sightLight, .int c_t_sights, .ref A_t_pad, .int c_t_padMany, .ref A_t_act, .ref A_t_whose, .ref A_t_whom, .ref A_t_tens, .int c_t_acts, .int c_t_spent, .int c_t_walks, .ref A_t_had, .ref A_t_leaves, .int c_t_badAct, .int c_t_badWhy, .ref A_t_apart, .ref A_t_stop, .ref A_t_restOf, .ref A_t_group, .ref A_t_along, .ref A_t_kept, .ref A_t_isKept, .int c_t_keptAt, .int c_t_isWriting], ia_ G A_t_where 6 z_t_where, ia_ G A_t_home 6 z_t_home, ia_ G A_t_light 6 z_t_light, ia_ G A_t_carries 6 z_t_carries] H locs → W p l e { frames := 2, cells := 0, slots := 0, locals := 45 } s m args below meth c H locs 0 0 Q (F0 m pc ls [.int r])) (hf : fn_X10_walker c_t_walkers c_t_where c_t_home c_t_light c_t_carries x1 x2 x3 x4 = some (r, z_t_walkers, z_t_where, z_t_home, z_t_light, z_t_carries)) {H : Heap} {locs : List Loc} {ls : Array Slot} (hl : lv_has ls 5 [(0, .ref A_t), (1, .int x1), (2, .int x2), (3, .int x3), (4, .int x4)]) (hw : wd_ G A s.heap [ob_ A_t 10 [.ref A_t_steps, .ref A_t_wet, .int c_t_foggy, .int c_t_walkers, .ref A_t_where, .ref A_t_home, .ref A_t_light, .ref A_t_carries, .ref A_t_sightPlace, .ref A_t_sightLight, .int c_t_sights, .ref A_t_pad, .int c_t_padMany, .ref A_t_act, .ref A_t_whose, .ref A_t_whom, .ref A_t_tens, .int c_t_acts, .int c_t_spent, .int c_t_walks, .ref A_t_had, .ref A_t_leaves, .int c_t_badAct, .int c_t_badWhy, .ref A_t_apart, .ref A_t_stop, .ref A_t_restOf, .ref A_t_group, .ref A_t_along, .ref A_t_kept, .ref A_t_isKept, .int c_t_keptAt, .int c_t_isWriting], ia_ G A_t_where 6 c_t_where, ia_ G A_t_home 6 c_t_home, ia_ G A_t_light 6 c_t_light, ia_ G A_t_carries 6 c_t_carries] H locs) : W p l e { frames := 2, cells := 0, slots := 0, locals := 45 } s m args below meth c H locs 0 0 Q (F0 m 0 ls []) := by
  have hx := hC.1
  have hb := hC.2.1
  unfold fn_X10_walker at hf
  refine lv_iload_n hx hb dX10_walker_0 rfl (lv_at hl 1 rfl) ?_
  refine lv_i2l hx hb dX10_walker_1 rfl ?_
  refine lv_lconst (v := 0) hx hb dX10_walker_2 (by decide) ?_
  refine g_ldc2 (v := 5) hC (tb4 122 rfl rfl) dX10_walker_3 ?_
  obtain ⟨r1, hq2, hf⟩ := b1_s hf
  refine g_cSi hC hw msX10_79 (cn_X10_in l G (Int32.toInt64 x1) 0 5 r1 hq2) [] rfl (by decide) rfl rfl hl.1 rfl (Nat.le_of_ble_eq_true rfl) ⟨Nat.le_of_ble_eq_true rfl, Nat.le_of_ble_eq_true rfl⟩ ⟨Nat.le_refl _, Nat.le_refl _⟩ dX10_walker_6 (fun H locs hw => ?_)
  have hw : wd_ G A s.heap [ob_ A_t 10 [.ref A_t_steps, .ref A_t_wet, .int c_t_foggy, .int c_t_walkers, .ref A_t_where, .ref A_t_home, .ref A_t_light, .ref A_t_carries, .ref A_t_sightPlace, .ref A_t_sightLight, .int c_t_sights, .ref A_t_pad, .int c_t_padMany, .ref A_t_act, .ref A_t_whose, .ref A_t_whom, .ref A_t_tens, .int c_t_acts, .int c_t_spent, .int c_t_walks, .ref A_t_had, .ref A_t_leaves, .int c_t_badAct, .int c_t_badWhy, .ref A_t_apart, .ref A_t_stop, .ref A_t_restOf, .ref A_t_group, .ref A_t_along, .ref A_t_kept, .ref A_t_isKept, .int c_t_keptAt, .int c_t_isWriting], ia_ G A_t_where 6 c_t_where, ia_ G A_t_home 6 c_t_home, ia_ G A_t_light 6 c_t_light, ia_ G A_t_carries 6 c_t_carries] H locs := hw
  refine lv_if_eq (tgt := 26) hx hb dX10_walker_9 (by decide) (fun hc => ?_) (fun hc => ?_)
  · replace hf := it_t hc hf
    refine lv_iconst (v := (-1)) hx hb dX10_walker_26 (by decide) ?_
    cases hf
    exact hret _ _ _ _ dX10_walker_27 hw
  · replace hf := it_f hc hf
    refine lv_iload_n hx hb dX10_walker_12 rfl (lv_at hl 2 rfl) ?_
    obtain ⟨r3, hq4, hf⟩ := b1_s hf
    refine g_cSi hC hw msX10_100 (cn_X10_isPlace l G x2 r3 hq4) [] rfl (by decide) rfl rfl hl.1 rfl (Nat.le_of_ble_eq_true rfl) ⟨Nat.le_of_ble_eq_true rfl, Nat.le_of_ble_eq_true rfl⟩ ⟨Nat.le_refl _, Nat.le_refl _⟩ dX10_walker_13 (fun H locs hw => ?_)
    have hw : wd_ G A s.heap [ob_ A_t 10 [.ref A_t_steps, .ref A_t_wet, .int c_t_foggy, .int c_t_walkers, .ref A_t_where, .ref A_t_home, .ref A_t_light, .ref A_t_carries, .ref A_t_sightPlace, .ref A_t_sightLight, .int c_t_sights, .ref A_t_pad, .int c_t_padMany, .ref A_t_act, .ref A_t_whose, .ref A_t_whom, .ref A_t_tens, .int c_t_acts, .int c_t_spent, .int c_t_walks, .ref A_t_had, .ref A_t_leaves, .int c_t_badAct, .int c_t_badWhy, .ref A_t_apart, .ref A_t_stop, .ref A_t_restOf, .ref A_t_group, .ref A_t_along, .ref A_t_kept, .ref A_t_isKept, .int c_t_keptAt, .int c_t_isWriting], ia_ G A_t_where 6 c_t_where, ia_ G A_t_home 6 c_t_home, ia_ G A_t_light 6 c_t_light, ia_ G A_t_carries 6 c_t_carries] H locs := hw
    refine lv_if_eq (tgt := 26) hx hb dX10_walker_16 (by decide) (fun hc => ?_) (fun hc => ?_)
    · replace hf := it_t hc hf
      refine lv_iconst (v := (-1)) hx hb dX10_walker_26 (by decide) ?_
      cases hf
      exact hret _ _ _ _ dX10_walker_27 hw
    · replace hf := it_f hc hf
      refine lv_iload_n hx hb dX10_walker_19 rfl (lv_at hl 3 rfl) ?_
      obtain ⟨r5, hq6, hf⟩ := b1_s hf
      refine g_cSi hC hw msX10_100 (cn_X10_isPlace l G x3 r5 hq6) [] rfl (by decide) rfl rfl hl.1 rfl (Nat.le_of_ble_eq_true rfl) ⟨Nat.le_of_ble_eq_true rfl, Nat.le_of_ble_eq_true rfl⟩ ⟨Nat.le_refl _, Nat.le_refl _⟩ dX10_walker_20 (fun H locs hw => ?_)
      have hw : wd_ G A s.heap [ob_ A_t 10 [.ref A_t_steps, .ref A_t_wet, .int c_t_foggy, .int c_t_walkers, .ref A_t_where, .ref A_t_home, .ref A_t_light, .ref A_t_carries, .ref A_t_sightPlace, .ref A_t_sightLight, .int c_t_sights, .ref A_t_pad, .int c_t_padMany, .ref A_t_act, .ref A_t_whose, .ref A_t_whom, .ref A_t_tens, .int c_t_acts, .int c_t_spent, .int c_t_walks, .ref A_t_had, .ref A_t_leaves, .int c_t_badAct, .int c_t_badWhy, .ref A_t_apart, .ref A_t_stop, .ref A_t_restOf, .ref A_t_group, .ref A_t_along, .ref A_t_kept, .ref A_t_isKept, .int c_t_keptAt, .int c_t_isWriting], ia_ G A_t_where 6 c_t_where, ia_ G A_t_home 6 c_t_home, ia_ G A_t_light 6 c_t_light, ia_ G A_t_carries 6 c_t_carries] H locs := hw
      refine lv_if_ne (tgt := 28) hx hb dX10_walker_23 (by decide) (fun hc => ?_) (fun hc => ?_)
      · replace hf := it_f hc hf
        refine lv_iload hx hb dX10_walker_28 (lv_at hl 4 rfl) ?_
        refine lv_i2l hx hb dX10_walker_30 rfl ?_
        refine lv_lconst (v := 0) hx hb dX10_walker_31 (by decide) ?_
        refine g_ldc2 (v := 999) hC (tb4 123 rfl rfl) dX10_walker_32 ?_
        obtain ⟨r7, hq8, hf⟩ := b1_s hf
        refine g_cSi hC hw msX10_79 (cn_X10_in l G (Int32.toInt64 x4) 0 999 r7 hq8) [] rfl (by decide) rfl rfl hl.1 rfl (Nat.le_of_ble_eq_true rfl) ⟨Nat.le_of_ble_eq_true rfl, Nat.le_of_ble_eq_true rfl⟩ ⟨Nat.le_refl _, Nat.le_refl _⟩ dX10_walker_35 (fun H locs hw => ?_)
        have hw : wd_ G A s.heap [ob_ A_t 10 [.ref A_t_steps, .ref A_t_wet, .int c_t_foggy, .int c_t_walkers, .ref A_t_where, .ref A_t_home, .ref A_t_light, .ref A_t_carries, .ref A_t_sightPlace, .ref A_t_sightLight, .int c_t_sights, .ref A_t_pad, .int c_t_padMany, .ref A_t_act, .ref A_t_whose, .ref A_t_whom, .ref A_t_tens, .int c_t_acts, .int c_t_spent, .int c_t_walks, .ref A_t_had, .ref A_t_leaves, .int c_t_badAct, .int c_t_badWhy, .ref A_t_apart, .ref A_t_stop, .ref A_t_restOf, .ref A_t_group, .ref A_t_along, .ref A_t_kept, .ref A_t_isKept, .int c_t_keptAt, .int c_t_isWriting], ia_ G A_t_where 6 c_t_where, ia_ G A_t_home 6 c_t_home, ia_ G A_t_light 6 c_t_light, ia_ G A_t_carries 6 c_t_carries] H locs := hw
        refine lv_if_ne (tgt := 44) hx hb dX10_walker_38 (by decide) (fun hc => ?_) (fun hc => ?_)
        · replace hf := it_f hc hf
          refine lv_aload_n hx hb dX10_walker_44 rfl (lv_at hl 0 rfl) ?_
          refine lv_iload_n hx hb dX10_walker_45 rfl (lv_at hl 1 rfl) ?_
          obtain ⟨w9, hq10, hf⟩ := b1_s hf
          refine g_cVv hC hw mvX10_111 (cn_X10_letGo l G A_t A_t_steps A_t_wet A_t_where A_t_home A_t_light A_t_carries A_t_sightPlace A_t_sightLight A_t_pad A_t_act A_t_whose A_t_whom A_t_tens A_t_had A_t_leaves A_t_apart A_t_stop A_t_restOf A_t_group A_t_along A_t_kept A_t_isKept c_t_foggy c_t_walkers c_t_sights c_t_padMany c_t_acts c_t_spent c_t_walks c_t_badAct c_t_badWhy c_t_keptAt c_t_isWriting c_t_carries x1 w9 hq10) [0, 4] rfl (by decide) rfl 0 rfl rfl rfl hl.1 rfl (Nat.le_of_ble_eq_true rfl) ⟨Nat.le_of_ble_eq_true rfl, Nat.le_of_ble_eq_true rfl⟩ ⟨Nat.le_refl _, Nat.le_refl _⟩ dX10_walker_46 (fun H locs hw => ?_)
          have hw : wd_ G A s.heap [ob_ A_t 10 [.ref A_t_steps, .ref A_t_wet, .int c_t_foggy, .int c_t_walkers, .ref A_t_where, .ref A_t_home, .ref A_t_light, .ref A_t_carries, .ref A_t_sightPlace, .ref A_t_sightLight, .int c_t_sights, .ref A_t_pad, .int c_t_padMany, .ref A_t_act, .ref A_t_whose, .ref A_t_whom, .ref A_t_tens, .int c_t_acts, .int c_t_spent, .int c_t_walks, .ref A_t_had, .ref A_t_leaves, .int c_t_badAct, .int c_t_badWhy, .ref A_t_apart, .ref A_t_stop, .ref A_t_restOf, .ref A_t_group, .ref A_t_along, .ref A_t_kept, .ref A_t_isKept, .int c_t_keptAt, .int c_t_isWriting], ia_ G A_t_where 6 c_t_where, ia_ G A_t_home 6 c_t_home, ia_ G A_t_light 6 c_t_light, ia_ G A_t_carries 6 w9] H locs := hw
          refine lv_aload_n hx hb dX10_walker_49 rfl (lv_at hl 0 rfl) ?_
          refine g_get hC hw fkX10_16 0 rfl rfl dX10_walker_50 ?_
          refine lv_iload_n hx hb dX10_walker_53 rfl (lv_at hl 1 rfl) ?_
          refine lv_iload_n hx hb dX10_walker_54 rfl (lv_at hl 2 rfl) ?_
          obtain ⟨hi, hf⟩ := ck_s hf
          obtain ⟨f11, ef11, hf⟩ := lx_s hf
          refine g_iast hC hw 1 rfl hi ef11 dX10_walker_55 (fun H locs hw => ?_)
          have hw : wd_ G A s.heap [ob_ A_t 10 [.ref A_t_steps, .ref A_t_wet, .int c_t_foggy, .int c_t_walkers, .ref A_t_where, .ref A_t_home, .ref A_t_light, .ref A_t_carries, .ref A_t_sightPlace, .ref A_t_sightLight, .int c_t_sights, .ref A_t_pad, .int c_t_padMany, .ref A_t_act, .ref A_t_whose, .ref A_t_whom, .ref A_t_tens, .int c_t_acts, .int c_t_spent, .int c_t_walks, .ref A_t_had, .ref A_t_leaves, .int c_t_badAct, .int c_t_badWhy, .ref A_t_apart, .ref A_t_stop, .ref A_t_restOf, .ref A_t_group, .ref A_t_along, .ref A_t_kept, .ref A_t_isKept, .int c_t_keptAt, .int c_t_isWriting], ia_ G A_t_where 6 f11, ia_ G A_t_home 6 c_t_home, ia_ G A_t_light 6 c_t_light, ia_ G A_t_carries 6 w9] H locs := hw
          refine lv_aload_n hx hb dX10_walker_56 rfl (lv_at hl 0 rfl) ?_
          refine g_get hC hw fkX10_19 0 rfl rfl dX10_walker_57 ?_
          refine lv_iload_n hx hb dX10_walker_60 rfl (lv_at hl 1 rfl) ?_
          refine lv_iload_n hx hb dX10_walker_61 rfl (lv_at hl 3 rfl) ?_
          obtain ⟨hi, hf⟩ := ck_s hf
          obtain ⟨f12, ef12, hf⟩ := lx_s hf
          refine g_iast hC hw 2 rfl hi ef12 dX10_walker_62 (fun H locs hw => ?_)
          have hw : wd_ G A s.heap [ob_ A_t 10 [.ref A_t_steps, .ref A_t_wet, .int c_t_foggy, .int c_t_walkers, .ref A_t_where, .ref A_t_home, .ref A_t_light, .ref A_t_carries, .ref A_t_sightPlace, .ref A_t_sightLight, .int c_t_sights, .ref A_t_pad, .int c_t_padMany, .ref A_t_act, .ref A_t_whose, .ref A_t_whom, .ref A_t_tens, .int c_t_acts, .int c_t_spent, .int c_t_walks, .ref A_t_had, .ref A_t_leaves, .int c_t_badAct, .int c_t_badWhy, .ref A_t_apart, .ref A_t_stop, .ref A_t_restOf, .ref A_t_group, .ref A_t_along, .ref A_t_kept, .ref A_t_isKept, .int c_t_keptAt, .int c_t_isWriting], ia_ G A_t_where 6 f11, ia_ G A_t_home 6 f12, ia_ G A_t_light 6 c_t_light, ia_ G A_t_carries 6 w9] H locs := hw
          refine lv_aload_n hx hb dX10_walker_63 rfl (lv_at hl 0 rfl) ?_
          refine g_get hC hw fkX10_22 0 rfl rfl dX10_walker_64 ?_
          refine lv_iload_n hx hb dX10_walker_67 rfl (lv_at hl 1 rfl) ?_
          refine lv_iload hx hb dX10_walker_68 (lv_at hl 4 rfl) ?_
          obtain ⟨hi, hf⟩ := ck_s hf
          obtain ⟨f13, ef13, hf⟩ := lx_s hf
          refine g_iast hC hw 3 rfl hi ef13 dX10_walker_70 (fun H locs hw => ?_)
          have hw : wd_ G A s.heap [ob_ A_t 10 [.ref A_t_steps, .ref A_t_wet, .int c_t_foggy, .int c_t_walkers, .ref A_t_where, .ref A_t_home, .ref A_t_light, .ref A_t_carries, .ref A_t_sightPlace, .ref A_t_sightLight, .int c_t_sights, .ref A_t_pad, .int c_t_padMany, .ref A_t_act, .ref A_t_whose, .ref A_t_whom, .ref A_t_tens, .int c_t_acts, .int c_t_spent, .int c_t_walks, .ref A_t_had, .ref A_t_leaves, .int c_t_badAct, .int c_t_badWhy, .ref A_t_apart, .ref A_t_stop, .ref A_t_restOf, .ref A_t_group, .ref A_t_along, .ref A_t_kept, .ref A_t_isKept, .int c_t_keptAt, .int c_t_isWriting], ia_ G A_t_where 6 f11, ia_ G A_t_home 6 f12, ia_ G A_t_light 6 f13, ia_ G A_t_carries 6 w9] H locs := hw
          refine lv_aload_n hx hb dX10_walker_71 rfl (lv_at hl 0 rfl) ?_
          refine lv_dup hx hb dX10_walker_72 rfl ?_
          refine g_get hC hw fkX10_85 0 rfl rfl dX10_walker_73 ?_
          refine lv_iconst (v := 1) hx hb dX10_walker_76 (by decide) ?_
          refine lv_iload_n hx hb dX10_walker_77 rfl (lv_at hl 1 rfl) ?_
          refine lv_ishl hx hb dX10_walker_78 ?_
          refine lv_ior hx hb dX10_walker_79 ?_
          obtain ⟨y14, ey14, hf⟩ := lx_s hf
          rw [← ey14]
          refine g_put hC hw fpX10_85 0 rfl rfl rfl (Nat.le_of_ble_eq_true rfl) dX10_walker_80 (fun H locs hw => ?_)
          have hw : wd_ G A s.heap [ob_ A_t 10 [.ref A_t_steps, .ref A_t_wet, .int c_t_foggy, .int y14, .ref A_t_where, .ref A_t_home, .ref A_t_light, .ref A_t_carries, .ref A_t_sightPlace, .ref A_t_sightLight, .int c_t_sights, .ref A_t_pad, .int c_t_padMany, .ref A_t_act, .ref A_t_whose, .ref A_t_whom, .ref A_t_tens, .int c_t_acts, .int c_t_spent, .int c_t_walks, .ref A_t_had, .ref A_t_leaves, .int c_t_badAct, .int c_t_badWhy, .ref A_t_apart, .ref A_t_stop, .ref A_t_restOf, .ref A_t_group, .ref A_t_along, .ref A_t_kept, .ref A_t_isKept, .int c_t_keptAt, .int c_t_isWriting], ia_ G A_t_where 6 f11, ia_ G A_t_home 6 f12, ia_ G A_t_light 6 f13, ia_ G A_t_carries 6 w9] H locs := hw
          refine lv_aload_n hx hb dX10_walker_83 rfl (lv_at hl 0 rfl) ?_
          refine g_get hC hw fkX10_85 0 rfl rfl dX10_walker_84 ?_
          obtain ⟨r15, hq16, hf⟩ := b1_s hf
          refine g_cSi hC hw msX10_115 (cn_X10_ones l G y14 r15 hq16) [] rfl (by decide) rfl rfl hl.1 rfl (Nat.le_of_ble_eq_true rfl) ⟨Nat.le_of_ble_eq_true rfl, Nat.le_of_ble_eq_true rfl⟩ ⟨Nat.le_refl _, Nat.le_refl _⟩ dX10_walker_87 (fun H locs hw => ?_)
          have hw : wd_ G A s.heap [ob_ A_t 10 [.ref A_t_steps, .ref A_t_wet, .int c_t_foggy, .int y14, .ref A_t_where, .ref A_t_home, .ref A_t_light, .ref A_t_carries, .ref A_t_sightPlace, .ref A_t_sightLight, .int c_t_sights, .ref A_t_pad, .int c_t_padMany, .ref A_t_act, .ref A_t_whose, .ref A_t_whom, .ref A_t_tens, .int c_t_acts, .int c_t_spent, .int c_t_walks, .ref A_t_had, .ref A_t_leaves, .int c_t_badAct, .int c_t_badWhy, .ref A_t_apart, .ref A_t_stop, .ref A_t_restOf, .ref A_t_group, .ref A_t_along, .ref A_t_kept, .ref A_t_isKept, .int c_t_keptAt, .int c_t_isWriting], ia_ G A_t_where 6 f11, ia_ G A_t_home 6 f12, ia_ G A_t_light 6 f13, ia_ G A_t_carries 6 w9] H locs := hw
          cases hf
          exact hret _ _ _ _ dX10_walker_90 hw
        · replace hf := it_t hc hf
          refine lv_bipush (v := (-2)) hx hb dX10_walker_41 (by decide) ?_
          cases hf
          exact hret _ _ _ _ dX10_walker_43 hw
      · replace hf := it_t hc hf
        refine lv_iconst (v := (-1)) hx hb dX10_walker_26 (by decide) ?_
        cases hf
        exact hret _ _ _ _ dX10_walker_27 hw
set_option maxHeartbeats 4000000 in
set_option maxRecDepth 100000 in
theorem cn_X10_walker (l : Launch) (G : gw_) (A_t : Nat) (A_t_steps : Nat) (A_t_wet : Nat) (A_t_where : Nat) (A_t_home : Nat) (A_t_light : Nat) (A_t_carries : Nat) (A_t_sightPlace : Nat) (A_t_sightLight : Nat) (A_t_pad : Nat) (A_t_act : Nat) (A_t_whose : Nat) (A_t_whom : Nat) (A_t_tens : Nat) (A_t_had : Nat) (A_t_leaves : Nat) (A_t_apart : Nat) (A_t_stop : Nat) (A_t_restOf : Nat) (A_t_group : Nat) (A_t_along : Nat) (A_t_kept : Nat) (A_t_isKept : Nat) (c_t_foggy : Int32) (c_t_walkers : Int32) (c_t_sights : Int32) (c_t_padMany : Int32) (c_t_acts : Int32) (c_t_spent : Int32) (c_t_walks : Int32) (c_t_badAct : Int32) (c_t_badWhy : Int32) (c_t_keptAt : Int32) (c_t_isWriting : Int32) (c_t_where : Nat → Int32) (c_t_home : Nat → Int32) (c_t_light : Nat → Int32) (c_t_carries : Nat → Int32) (x1 : Int32) (x2 : Int32) (x3 : Int32) (x4 : Int32) (r : Int32) (z_t_walkers : Int32) (z_t_where : Nat → Int32) (z_t_home : Nat → Int32) (z_t_light : Nat → Int32) (z_t_carries : Nat → Int32) (hf : fn_X10_walker c_t_walkers c_t_where c_t_home c_t_light c_t_carries x1 x2 x3 x4 = some (r, z_t_walkers, z_t_where, z_t_home, z_t_light, z_t_carries)) : ci_ l G yX10_walker cX10_walker 5 (some .int) 2 45 [ob_ A_t 10 [.ref A_t_steps, .ref A_t_wet, .int c_t_foggy, .int c_t_walkers, .ref A_t_where, .ref A_t_home, .ref A_t_light, .ref A_t_carries, .ref A_t_sightPlace, .ref A_t_sightLight, .int c_t_sights, .ref A_t_pad, .int c_t_padMany, .ref A_t_act, .ref A_t_whose, .ref A_t_whom, .ref A_t_tens, .int c_t_acts, .int c_t_spent, .int c_t_walks, .ref A_t_had, .ref A_t_leaves, .int c_t_badAct, .int c_t_badWhy, .ref A_t_apart, .ref A_t_stop, .ref A_t_restOf, .ref A_t_group, .ref A_t_along, .ref A_t_kept, .ref A_t_isKept, .int c_t_keptAt, .int c_t_isWriting], ia_ G A_t_where 6 c_t_where, ia_ G A_t_home 6 c_t_home, ia_ G A_t_light 6 c_t_light, ia_ G A_t_carries 6 c_t_carries] [.ref A_t, .int x1, .int x2, .int x3, .int x4] r [ob_ A_t 10 [.ref A_t_steps, .ref A_t_wet, .int c_t_foggy, .int z_t_walkers, .ref A_t_where, .ref A_t_home, .ref A_t_light, .ref A_t_carries, .ref A_t_sightPlace, .ref A_t_sightLight, .int c_t_sights, .ref A_t_pad, .int c_t_padMany, .ref A_t_act, .ref A_t_whose, .ref A_t_whom, .ref A_t_tens, .int c_t_acts, .int c_t_spent, .int c_t_walks, .ref A_t_had, .ref A_t_leaves, .int c_t_badAct, .int c_t_badWhy, .ref A_t_apart, .ref A_t_stop, .ref A_t_restOf, .ref A_t_group, .ref A_t_along, .ref A_t_kept, .ref A_t_isKept, .int c_t_keptAt, .int c_t_isWriting], ia_ G A_t_where 6 z_t_where, ia_ G A_t_home 6 z_t_home, ia_ G A_t_light 6 z_t_light, ia_ G A_t_carries 6 z_t_carries] := fun sz => met_intro (by decide) (Nat.le_of_ble_eq_true rfl) (fun p e s m args below meth c ls hsz hC hr hlk hnm hl hw => wn_X10_walker hC (fun pc H locs ls hd hw => g_iret hC hr hlk hw rfl rfl hd) hf hl hw)

theorem dX10_leave_0 : decode cX10_leave 0 = .ok (.aload_n 0, 1) := by decide +kernel
theorem dX10_leave_1 : decode cX10_leave 1 = .ok (.iload_n 1, 1) := by decide +kernel
theorem dX10_leave_2 : decode cX10_leave 2 = .ok (.invokevirtual 106, 3) := by decide +kernel
theorem dX10_leave_5 : decode cX10_leave 5 = .ok (.ifCond .ne 5, 3) := by decide +kernel
theorem dX10_leave_8 : decode cX10_leave 8 = .ok (.iconst (-1), 1) := by decide +kernel
theorem dX10_leave_9 : decode cX10_leave 9 = .ok (.ireturn, 1) := by decide +kernel
theorem dX10_leave_10 : decode cX10_leave 10 = .ok (.aload_n 0, 1) := by decide +kernel
theorem dX10_leave_11 : decode cX10_leave 11 = .ok (.iload_n 1, 1) := by decide +kernel
theorem dX10_leave_12 : decode cX10_leave 12 = .ok (.invokevirtual 111, 3) := by decide +kernel
theorem dX10_leave_15 : decode cX10_leave 15 = .ok (.aload_n 0, 1) := by decide +kernel
theorem dX10_leave_16 : decode cX10_leave 16 = .ok (.dup, 1) := by decide +kernel
theorem dX10_leave_17 : decode cX10_leave 17 = .ok (.getfield 85, 3) := by decide +kernel
theorem dX10_leave_20 : decode cX10_leave 20 = .ok (.iconst 1, 1) := by decide +kernel
theorem dX10_leave_21 : decode cX10_leave 21 = .ok (.iload_n 1, 1) := by decide +kernel
theorem dX10_leave_22 : decode cX10_leave 22 = .ok (.ishl, 1) := by decide +kernel
theorem dX10_leave_23 : decode cX10_leave 23 = .ok (.iconst (-1), 1) := by decide +kernel
theorem dX10_leave_24 : decode cX10_leave 24 = .ok (.ixor, 1) := by decide +kernel
theorem dX10_leave_25 : decode cX10_leave 25 = .ok (.iand, 1) := by decide +kernel
theorem dX10_leave_26 : decode cX10_leave 26 = .ok (.putfield 85, 3) := by decide +kernel
theorem dX10_leave_29 : decode cX10_leave 29 = .ok (.aload_n 0, 1) := by decide +kernel
theorem dX10_leave_30 : decode cX10_leave 30 = .ok (.getfield 85, 3) := by decide +kernel
theorem dX10_leave_33 : decode cX10_leave 33 = .ok (.invokestatic 115, 3) := by decide +kernel
theorem dX10_leave_36 : decode cX10_leave 36 = .ok (.ireturn, 1) := by decide +kernel
def fn_X10_leave (c_t_walkers : Int32) (c_t_carries : Nat → Int32) (x1 : Int32) : Option (Int32 × Int32 × (Nat → Int32)) :=
  b1_ (fn_X10_isWalker c_t_walkers x1) fun r1 =>
  if r1 = 0 then
    some ((-1), c_t_walkers, c_t_carries)
  else
    b1_ (fn_X10_letGo c_t_carries x1) fun w3 =>
    lx_ (c_t_walkers &&& ((1 <<< (x1 &&& 31)) ^^^ (-1))) fun y5 =>
    b1_ (fn_X10_ones y5) fun r6 =>
    some (r6, y5, w3)
set_option maxHeartbeats 4000000 in
set_option maxRecDepth 100000 in
theorem wn_X10_leave {p : Program} {l : Launch} {e : Env} {s : State} {m : MethodId} {args : Array Value} {below : List Frame} {meth : Method} {c : Code} {G : gw_} {A : Nat → Prop} {Q : State → Prop} {A_t : Nat} {A_t_steps : Nat} {A_t_wet : Nat} {A_t_where : Nat} {A_t_home : Nat} {A_t_light : Nat} {A_t_carries : Nat} {A_t_sightPlace : Nat} {A_t_sightLight : Nat} {A_t_pad : Nat} {A_t_act : Nat} {A_t_whose : Nat} {A_t_whom : Nat} {A_t_tens : Nat} {A_t_had : Nat} {A_t_leaves : Nat} {A_t_apart : Nat} {A_t_stop : Nat} {A_t_restOf : Nat} {A_t_group : Nat} {A_t_along : Nat} {A_t_kept : Nat} {A_t_isKept : Nat} {c_t_foggy : Int32} {c_t_walkers : Int32} {z_t_walkers : Int32} {c_t_sights : Int32} {c_t_padMany : Int32} {c_t_acts : Int32} {c_t_spent : Int32} {c_t_walks : Int32} {c_t_badAct : Int32} {c_t_badWhy : Int32} {c_t_keptAt : Int32} {c_t_isWriting : Int32} {c_t_carries : Nat → Int32} {z_t_carries : Nat → Int32} {r : Int32} {x1 : Int32} (hC : cx_ p s m c G cX10_leave 2 RX10) (hret : ∀ (pc : Nat) (H : Heap) (locs : List Loc) (ls : Array Slot), decode cX10_leave pc = .ok (.ireturn, 1) → wd_ G A s.heap [ob_ A_t 10 [.ref A_t_steps, .ref A_t_wet, .int c_t_foggy, .int z_t_walkers, .ref A_t_where, .ref A_t_home, .ref A_t_light, .ref A_t_carries, .ref A_t_sightPlace, .ref A_t_sightLight, .int c_t_sights, .ref A_t_pad, .int c_t_padMany, .ref A_t_act, .ref A_t_whose, .ref A_t_whom, .ref A_t_tens, .int c_t_acts, .int c_t_spent, .int c_t_walks, .ref A_t_had, .ref A_t_leaves, .int c_t_badAct, .int c_t_badWhy, .ref A_t_apart, .ref A_t_stop, .ref A_t_restOf, .ref A_t_group, .ref A_t_along, .ref A_t_kept, .ref A_t_isKept, .int c_t_keptAt, .int c_t_isWriting], ia_ G A_t_carries 6 z_t_carries] H locs → W p l e { frames := 2, cells := 0, slots := 0, locals := 46 } s m args below meth c H locs 0 0 Q (F0 m pc ls [.int r])) (hf : fn_X10_leave c_t_walkers c_t_carries x1 = some (r, z_t_walkers, z_t_carries)) {H : Heap} {locs : List Loc} {ls : Array Slot} (hl : lv_has ls 2 [(0, .ref A_t), (1, .int x1)]) (hw : wd_ G A s.heap [ob_ A_t 10 [.ref A_t_steps, .ref A_t_wet, .int c_t_foggy, .int c_t_walkers, .ref A_t_where, .ref A_t_home, .ref A_t_light, .ref A_t_carries, .ref A_t_sightPlace, .ref A_t_sightLight, .int c_t_sights, .ref A_t_pad, .int c_t_padMany, .ref A_t_act, .ref A_t_whose, .ref A_t_whom, .ref A_t_tens, .int c_t_acts, .int c_t_spent, .int c_t_walks, .ref A_t_had, .ref A_t_leaves, .int c_t_badAct, .int c_t_badWhy, .ref A_t_apart, .ref A_t_stop, .ref A_t_restOf, .ref A_t_group, .ref A_t_along, .ref A_t_kept, .ref A_t_isKept, .int c_t_keptAt, .int c_t_isWriting], ia_ G A_t_carries 6 c_t_carries] H locs) : W p l e { frames := 2, cells := 0, slots := 0, locals := 46 } s m args below meth c H locs 0 0 Q (F0 m 0 ls []) := by
  have hx := hC.1
  have hb := hC.2.1
  unfold fn_X10_leave at hf
  refine lv_aload_n hx hb dX10_leave_0 rfl (lv_at hl 0 rfl) ?_
  refine lv_iload_n hx hb dX10_leave_1 rfl (lv_at hl 1 rfl) ?_
  obtain ⟨r1, hq2, hf⟩ := b1_s hf
  refine g_cVi hC hw mvX10_106 (cn_X10_isWalker l G A_t A_t_steps A_t_wet A_t_where A_t_home A_t_light A_t_carries A_t_sightPlace A_t_sightLight A_t_pad A_t_act A_t_whose A_t_whom A_t_tens A_t_had A_t_leaves A_t_apart A_t_stop A_t_restOf A_t_group A_t_along A_t_kept A_t_isKept c_t_foggy c_t_walkers c_t_sights c_t_padMany c_t_acts c_t_spent c_t_walks c_t_badAct c_t_badWhy c_t_keptAt c_t_isWriting x1 r1 hq2) [0] rfl (by decide) rfl 0 rfl rfl rfl hl.1 rfl (Nat.le_of_ble_eq_true rfl) ⟨Nat.le_of_ble_eq_true rfl, Nat.le_of_ble_eq_true rfl⟩ ⟨Nat.le_refl _, Nat.le_refl _⟩ dX10_leave_2 (fun H locs hw => ?_)
  have hw : wd_ G A s.heap [ob_ A_t 10 [.ref A_t_steps, .ref A_t_wet, .int c_t_foggy, .int c_t_walkers, .ref A_t_where, .ref A_t_home, .ref A_t_light, .ref A_t_carries, .ref A_t_sightPlace, .ref A_t_sightLight, .int c_t_sights, .ref A_t_pad, .int c_t_padMany, .ref A_t_act, .ref A_t_whose, .ref A_t_whom, .ref A_t_tens, .int c_t_acts, .int c_t_spent, .int c_t_walks, .ref A_t_had, .ref A_t_leaves, .int c_t_badAct, .int c_t_badWhy, .ref A_t_apart, .ref A_t_stop, .ref A_t_restOf, .ref A_t_group, .ref A_t_along, .ref A_t_kept, .ref A_t_isKept, .int c_t_keptAt, .int c_t_isWriting], ia_ G A_t_carries 6 c_t_carries] H locs := hw
  refine lv_if_ne (tgt := 10) hx hb dX10_leave_5 (by decide) (fun hc => ?_) (fun hc => ?_)
  · replace hf := it_f hc hf
    refine lv_aload_n hx hb dX10_leave_10 rfl (lv_at hl 0 rfl) ?_
    refine lv_iload_n hx hb dX10_leave_11 rfl (lv_at hl 1 rfl) ?_
    obtain ⟨w3, hq4, hf⟩ := b1_s hf
    refine g_cVv hC hw mvX10_111 (cn_X10_letGo l G A_t A_t_steps A_t_wet A_t_where A_t_home A_t_light A_t_carries A_t_sightPlace A_t_sightLight A_t_pad A_t_act A_t_whose A_t_whom A_t_tens A_t_had A_t_leaves A_t_apart A_t_stop A_t_restOf A_t_group A_t_along A_t_kept A_t_isKept c_t_foggy c_t_walkers c_t_sights c_t_padMany c_t_acts c_t_spent c_t_walks c_t_badAct c_t_badWhy c_t_keptAt c_t_isWriting c_t_carries x1 w3 hq4) [0, 1] rfl (by decide) rfl 0 rfl rfl rfl hl.1 rfl (Nat.le_of_ble_eq_true rfl) ⟨Nat.le_of_ble_eq_true rfl, Nat.le_of_ble_eq_true rfl⟩ ⟨Nat.le_refl _, Nat.le_refl _⟩ dX10_leave_12 (fun H locs hw => ?_)
    have hw : wd_ G A s.heap [ob_ A_t 10 [.ref A_t_steps, .ref A_t_wet, .int c_t_foggy, .int c_t_walkers, .ref A_t_where, .ref A_t_home, .ref A_t_light, .ref A_t_carries, .ref A_t_sightPlace, .ref A_t_sightLight, .int c_t_sights, .ref A_t_pad, .int c_t_padMany, .ref A_t_act, .ref A_t_whose, .ref A_t_whom, .ref A_t_tens, .int c_t_acts, .int c_t_spent, .int c_t_walks, .ref A_t_had, .ref A_t_leaves, .int c_t_badAct, .int c_t_badWhy, .ref A_t_apart, .ref A_t_stop, .ref A_t_restOf, .ref A_t_group, .ref A_t_along, .ref A_t_kept, .ref A_t_isKept, .int c_t_keptAt, .int c_t_isWriting], ia_ G A_t_carries 6 w3] H locs := hw
    refine lv_aload_n hx hb dX10_leave_15 rfl (lv_at hl 0 rfl) ?_
    refine lv_dup hx hb dX10_leave_16 rfl ?_
    refine g_get hC hw fkX10_85 0 rfl rfl dX10_leave_17 ?_
    refine lv_iconst (v := 1) hx hb dX10_leave_20 (by decide) ?_
    refine lv_iload_n hx hb dX10_leave_21 rfl (lv_at hl 1 rfl) ?_
    refine lv_ishl hx hb dX10_leave_22 ?_
    refine lv_iconst (v := (-1)) hx hb dX10_leave_23 (by decide) ?_
    refine lv_ixor hx hb dX10_leave_24 ?_
    refine lv_iand hx hb dX10_leave_25 ?_
    obtain ⟨y5, ey5, hf⟩ := lx_s hf
    rw [← ey5]
    refine g_put hC hw fpX10_85 0 rfl rfl rfl (Nat.le_of_ble_eq_true rfl) dX10_leave_26 (fun H locs hw => ?_)
    have hw : wd_ G A s.heap [ob_ A_t 10 [.ref A_t_steps, .ref A_t_wet, .int c_t_foggy, .int y5, .ref A_t_where, .ref A_t_home, .ref A_t_light, .ref A_t_carries, .ref A_t_sightPlace, .ref A_t_sightLight, .int c_t_sights, .ref A_t_pad, .int c_t_padMany, .ref A_t_act, .ref A_t_whose, .ref A_t_whom, .ref A_t_tens, .int c_t_acts, .int c_t_spent, .int c_t_walks, .ref A_t_had, .ref A_t_leaves, .int c_t_badAct, .int c_t_badWhy, .ref A_t_apart, .ref A_t_stop, .ref A_t_restOf, .ref A_t_group, .ref A_t_along, .ref A_t_kept, .ref A_t_isKept, .int c_t_keptAt, .int c_t_isWriting], ia_ G A_t_carries 6 w3] H locs := hw
    refine lv_aload_n hx hb dX10_leave_29 rfl (lv_at hl 0 rfl) ?_
    refine g_get hC hw fkX10_85 0 rfl rfl dX10_leave_30 ?_
    obtain ⟨r6, hq7, hf⟩ := b1_s hf
    refine g_cSi hC hw msX10_115 (cn_X10_ones l G y5 r6 hq7) [] rfl (by decide) rfl rfl hl.1 rfl (Nat.le_of_ble_eq_true rfl) ⟨Nat.le_of_ble_eq_true rfl, Nat.le_of_ble_eq_true rfl⟩ ⟨Nat.le_refl _, Nat.le_refl _⟩ dX10_leave_33 (fun H locs hw => ?_)
    have hw : wd_ G A s.heap [ob_ A_t 10 [.ref A_t_steps, .ref A_t_wet, .int c_t_foggy, .int y5, .ref A_t_where, .ref A_t_home, .ref A_t_light, .ref A_t_carries, .ref A_t_sightPlace, .ref A_t_sightLight, .int c_t_sights, .ref A_t_pad, .int c_t_padMany, .ref A_t_act, .ref A_t_whose, .ref A_t_whom, .ref A_t_tens, .int c_t_acts, .int c_t_spent, .int c_t_walks, .ref A_t_had, .ref A_t_leaves, .int c_t_badAct, .int c_t_badWhy, .ref A_t_apart, .ref A_t_stop, .ref A_t_restOf, .ref A_t_group, .ref A_t_along, .ref A_t_kept, .ref A_t_isKept, .int c_t_keptAt, .int c_t_isWriting], ia_ G A_t_carries 6 w3] H locs := hw
    cases hf
    exact hret _ _ _ _ dX10_leave_36 hw
  · replace hf := it_t hc hf
    refine lv_iconst (v := (-1)) hx hb dX10_leave_8 (by decide) ?_
    cases hf
    exact hret _ _ _ _ dX10_leave_9 hw
set_option maxHeartbeats 4000000 in
set_option maxRecDepth 100000 in
theorem cn_X10_leave (l : Launch) (G : gw_) (A_t : Nat) (A_t_steps : Nat) (A_t_wet : Nat) (A_t_where : Nat) (A_t_home : Nat) (A_t_light : Nat) (A_t_carries : Nat) (A_t_sightPlace : Nat) (A_t_sightLight : Nat) (A_t_pad : Nat) (A_t_act : Nat) (A_t_whose : Nat) (A_t_whom : Nat) (A_t_tens : Nat) (A_t_had : Nat) (A_t_leaves : Nat) (A_t_apart : Nat) (A_t_stop : Nat) (A_t_restOf : Nat) (A_t_group : Nat) (A_t_along : Nat) (A_t_kept : Nat) (A_t_isKept : Nat) (c_t_foggy : Int32) (c_t_walkers : Int32) (c_t_sights : Int32) (c_t_padMany : Int32) (c_t_acts : Int32) (c_t_spent : Int32) (c_t_walks : Int32) (c_t_badAct : Int32) (c_t_badWhy : Int32) (c_t_keptAt : Int32) (c_t_isWriting : Int32) (c_t_carries : Nat → Int32) (x1 : Int32) (r : Int32) (z_t_walkers : Int32) (z_t_carries : Nat → Int32) (hf : fn_X10_leave c_t_walkers c_t_carries x1 = some (r, z_t_walkers, z_t_carries)) : ci_ l G yX10_leave cX10_leave 2 (some .int) 2 46 [ob_ A_t 10 [.ref A_t_steps, .ref A_t_wet, .int c_t_foggy, .int c_t_walkers, .ref A_t_where, .ref A_t_home, .ref A_t_light, .ref A_t_carries, .ref A_t_sightPlace, .ref A_t_sightLight, .int c_t_sights, .ref A_t_pad, .int c_t_padMany, .ref A_t_act, .ref A_t_whose, .ref A_t_whom, .ref A_t_tens, .int c_t_acts, .int c_t_spent, .int c_t_walks, .ref A_t_had, .ref A_t_leaves, .int c_t_badAct, .int c_t_badWhy, .ref A_t_apart, .ref A_t_stop, .ref A_t_restOf, .ref A_t_group, .ref A_t_along, .ref A_t_kept, .ref A_t_isKept, .int c_t_keptAt, .int c_t_isWriting], ia_ G A_t_carries 6 c_t_carries] [.ref A_t, .int x1] r [ob_ A_t 10 [.ref A_t_steps, .ref A_t_wet, .int c_t_foggy, .int z_t_walkers, .ref A_t_where, .ref A_t_home, .ref A_t_light, .ref A_t_carries, .ref A_t_sightPlace, .ref A_t_sightLight, .int c_t_sights, .ref A_t_pad, .int c_t_padMany, .ref A_t_act, .ref A_t_whose, .ref A_t_whom, .ref A_t_tens, .int c_t_acts, .int c_t_spent, .int c_t_walks, .ref A_t_had, .ref A_t_leaves, .int c_t_badAct, .int c_t_badWhy, .ref A_t_apart, .ref A_t_stop, .ref A_t_restOf, .ref A_t_group, .ref A_t_along, .ref A_t_kept, .ref A_t_isKept, .int c_t_keptAt, .int c_t_isWriting], ia_ G A_t_carries 6 z_t_carries] := fun sz => met_intro (by decide) (Nat.le_of_ble_eq_true rfl) (fun p e s m args below meth c ls hsz hC hr hlk hnm hl hw => wn_X10_leave hC (fun pc H locs ls hd hw => g_iret hC hr hlk hw rfl rfl hd) hf hl hw)
