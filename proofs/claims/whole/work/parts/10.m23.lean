theorem dX10_ask_0 : decode cX10_ask 0 = .ok (.iload_n 1, 1) := by decide +kernel
theorem dX10_ask_1 : decode cX10_ask 1 = .ok (.i2l, 1) := by decide +kernel
theorem dX10_ask_2 : decode cX10_ask 2 = .ok (.lconst 0, 1) := by decide +kernel
theorem dX10_ask_3 : decode cX10_ask 3 = .ok (.lconst 1, 1) := by decide +kernel
theorem dX10_ask_4 : decode cX10_ask 4 = .ok (.invokestatic 79, 3) := by decide +kernel
theorem dX10_ask_7 : decode cX10_ask 7 = .ok (.ifCond .ne 6, 3) := by decide +kernel
theorem dX10_ask_10 : decode cX10_ask 10 = .ok (.bipush (-2), 2) := by decide +kernel
theorem dX10_ask_12 : decode cX10_ask 12 = .ok (.ireturn, 1) := by decide +kernel
theorem dX10_ask_13 : decode cX10_ask 13 = .ok (.aload_n 0, 1) := by decide +kernel
theorem dX10_ask_14 : decode cX10_ask 14 = .ok (.invokevirtual 260, 3) := by decide +kernel
theorem dX10_ask_17 : decode cX10_ask 17 = .ok (.istore_n 2, 1) := by decide +kernel
theorem dX10_ask_18 : decode cX10_ask 18 = .ok (.iload_n 2, 1) := by decide +kernel
theorem dX10_ask_19 : decode cX10_ask 19 = .ok (.ifCond .ne 6, 3) := by decide +kernel
theorem dX10_ask_22 : decode cX10_ask 22 = .ok (.bipush (-6), 2) := by decide +kernel
theorem dX10_ask_24 : decode cX10_ask 24 = .ok (.ireturn, 1) := by decide +kernel
theorem dX10_ask_25 : decode cX10_ask 25 = .ok (.iconst 0, 1) := by decide +kernel
theorem dX10_ask_26 : decode cX10_ask 26 = .ok (.istore_n 3, 1) := by decide +kernel
theorem dX10_ask_27 : decode cX10_ask 27 = .ok (.iconst 1, 1) := by decide +kernel
theorem dX10_ask_28 : decode cX10_ask 28 = .ok (.istore 4, 2) := by decide +kernel
theorem dX10_ask_30 : decode cX10_ask 30 = .ok (.iload 4, 2) := by decide +kernel
theorem dX10_ask_32 : decode cX10_ask 32 = .ok (.bipush 12, 2) := by decide +kernel
theorem dX10_ask_34 : decode cX10_ask 34 = .ok (.if_icmp .ge 32, 3) := by decide +kernel
theorem dX10_ask_37 : decode cX10_ask 37 = .ok (.aload_n 0, 1) := by decide +kernel
theorem dX10_ask_38 : decode cX10_ask 38 = .ok (.iload_n 2, 1) := by decide +kernel
theorem dX10_ask_39 : decode cX10_ask 39 = .ok (.iload 4, 2) := by decide +kernel
theorem dX10_ask_41 : decode cX10_ask 41 = .ok (.invokevirtual 262, 3) := by decide +kernel
theorem dX10_ask_44 : decode cX10_ask 44 = .ok (.aload_n 0, 1) := by decide +kernel
theorem dX10_ask_45 : decode cX10_ask 45 = .ok (.iload_n 2, 1) := by decide +kernel
theorem dX10_ask_46 : decode cX10_ask 46 = .ok (.iload_n 3, 1) := by decide +kernel
theorem dX10_ask_47 : decode cX10_ask 47 = .ok (.invokevirtual 262, 3) := by decide +kernel
theorem dX10_ask_50 : decode cX10_ask 50 = .ok (.if_icmp .ge 8, 3) := by decide +kernel
theorem dX10_ask_53 : decode cX10_ask 53 = .ok (.iload 4, 2) := by decide +kernel
theorem dX10_ask_55 : decode cX10_ask 55 = .ok (.goto 4, 3) := by decide +kernel
theorem dX10_ask_58 : decode cX10_ask 58 = .ok (.iload_n 3, 1) := by decide +kernel
theorem dX10_ask_59 : decode cX10_ask 59 = .ok (.istore_n 3, 1) := by decide +kernel
theorem dX10_ask_60 : decode cX10_ask 60 = .ok (.iinc 4 1, 3) := by decide +kernel
theorem dX10_ask_63 : decode cX10_ask 63 = .ok (.goto (-33), 3) := by decide +kernel
theorem dX10_ask_66 : decode cX10_ask 66 = .ok (.iload_n 1, 1) := by decide +kernel
theorem dX10_ask_67 : decode cX10_ask 67 = .ok (.ifCond .ne 7, 3) := by decide +kernel
theorem dX10_ask_70 : decode cX10_ask 70 = .ok (.iload_n 3, 1) := by decide +kernel
theorem dX10_ask_71 : decode cX10_ask 71 = .ok (.goto 9, 3) := by decide +kernel
theorem dX10_ask_74 : decode cX10_ask 74 = .ok (.aload_n 0, 1) := by decide +kernel
theorem dX10_ask_75 : decode cX10_ask 75 = .ok (.iload_n 2, 1) := by decide +kernel
theorem dX10_ask_76 : decode cX10_ask 76 = .ok (.iload_n 3, 1) := by decide +kernel
theorem dX10_ask_77 : decode cX10_ask 77 = .ok (.invokevirtual 262, 3) := by decide +kernel
theorem dX10_ask_80 : decode cX10_ask 80 = .ok (.ireturn, 1) := by decide +kernel
abbrev wl_X10_ask (G : gw_) (A_t : Nat) (A_t_steps : Nat) (A_t_wet : Nat) (A_t_where : Nat) (A_t_home : Nat) (A_t_light : Nat) (A_t_carries : Nat) (A_t_sightPlace : Nat) (A_t_sightLight : Nat) (A_t_pad : Nat) (A_t_act : Nat) (A_t_whose : Nat) (A_t_whom : Nat) (A_t_tens : Nat) (A_t_had : Nat) (A_t_leaves : Nat) (A_t_apart : Nat) (A_t_stop : Nat) (A_t_restOf : Nat) (A_t_group : Nat) (A_t_along : Nat) (A_t_kept : Nat) (A_t_isKept : Nat) (c_t_foggy : Int32) (c_t_walkers : Int32) (c_t_sights : Int32) (c_t_padMany : Int32) (c_t_acts : Int32) (c_t_spent : Int32) (c_t_walks : Int32) (c_t_badAct : Int32) (c_t_badWhy : Int32) (c_t_keptAt : Int32) (c_t_isWriting : Int32) (c_t_steps : Nat → Int32) (c_t_wet : Nat → Int32) (c_t_where : Nat → Int32) (c_t_light : Nat → Int32) (c_t_sightPlace : Nat → Int32) (c_t_sightLight : Nat → Int32) (c_t_apart : Nat → Int32) : va_W := [ob_ A_t 10 [.ref A_t_steps, .ref A_t_wet, .int c_t_foggy, .int c_t_walkers, .ref A_t_where, .ref A_t_home, .ref A_t_light, .ref A_t_carries, .ref A_t_sightPlace, .ref A_t_sightLight, .int c_t_sights, .ref A_t_pad, .int c_t_padMany, .ref A_t_act, .ref A_t_whose, .ref A_t_whom, .ref A_t_tens, .int c_t_acts, .int c_t_spent, .int c_t_walks, .ref A_t_had, .ref A_t_leaves, .int c_t_badAct, .int c_t_badWhy, .ref A_t_apart, .ref A_t_stop, .ref A_t_restOf, .ref A_t_group, .ref A_t_along, .ref A_t_kept, .ref A_t_isKept, .int c_t_keptAt, .int c_t_isWriting], ia_ G A_t_steps 144 c_t_steps, ia_ G A_t_wet 144 c_t_wet, ia_ G A_t_where 6 c_t_where, ia_ G A_t_light 6 c_t_light, ia_ G A_t_sightPlace 8 c_t_sightPlace, ia_ G A_t_sightLight 8 c_t_sightLight, ia_ G A_t_apart 144 c_t_apart]
def fn_X10_ask_b30 (c_t_where : Nat → Int32) (c_t_light : Nat → Int32) (c_t_apart : Nat → Int32) (x2 : Int32) (rc : Int32 → Int32 → Option (Int32 × (Nat → Int32))) (k : Int32 → Option (Int32 × (Nat → Int32))) (x3 : Int32) (x4 : Int32) : Option (Int32 × (Nat → Int32)) :=
  if 12 ≤ x4 then
    k x3
  else
    b1_ (fn_X10_mostAlike c_t_where c_t_light c_t_apart x2 x4) fun r6 =>
    b1_ (fn_X10_mostAlike c_t_where c_t_light c_t_apart x2 x3) fun r8 =>
    if r8 ≤ r6 then
      rc x3 (x4 + 1)
    else
      rc x4 (x4 + 1)
def fn_X10_ask_l30 (c_t_where : Nat → Int32) (c_t_light : Nat → Int32) (c_t_apart : Nat → Int32) (x2 : Int32) (k : Int32 → Option (Int32 × (Nat → Int32))) : Nat → Int32 → Int32 → Option (Int32 × (Nat → Int32))
  | 0 => fun _ _ => none
  | n + 1 => fun x3 x4 => fn_X10_ask_b30 c_t_where c_t_light c_t_apart x2 (fn_X10_ask_l30 c_t_where c_t_light c_t_apart x2 k n) k x3 x4
def fn_X10_ask (c_t_foggy : Int32) (c_t_walkers : Int32) (c_t_sights : Int32) (c_t_steps : Nat → Int32) (c_t_wet : Nat → Int32) (c_t_where : Nat → Int32) (c_t_light : Nat → Int32) (c_t_sightPlace : Nat → Int32) (c_t_sightLight : Nat → Int32) (c_t_apart : Nat → Int32) (x1 : Int32) : Option (Int32 × (Nat → Int32)) :=
  b1_ (fn_X10_in (Int32.toInt64 x1) 0 1) fun r1 =>
  if r1 = 0 then
    some ((-2), c_t_apart)
  else
    b2_ (fn_X10_whose c_t_foggy c_t_walkers c_t_sights c_t_steps c_t_wet c_t_where c_t_light c_t_sightPlace c_t_sightLight c_t_apart) fun r3 w4 =>
    if r3 = 0 then
      some ((-6), w4)
    else
      fn_X10_ask_l30 c_t_where c_t_light w4 r3 (fun v10 =>
        if x1 = 0 then
          some (v10, w4)
        else
          b1_ (fn_X10_mostAlike c_t_where c_t_light w4 r3 v10) fun r11 =>
          some (r11, w4)) fu_ 0 1
set_option maxHeartbeats 4000000 in
set_option maxRecDepth 100000 in
theorem wn_X10_ask_l30 {p : Program} {l : Launch} {e : Env} {s : State} {m : MethodId} {args : Array Value} {below : List Frame} {meth : Method} {c : Code} {G : gw_} {A : Nat → Prop} {Q : State → Prop} {A_t : Nat} {A_t_steps : Nat} {A_t_wet : Nat} {A_t_where : Nat} {A_t_home : Nat} {A_t_light : Nat} {A_t_carries : Nat} {A_t_sightPlace : Nat} {A_t_sightLight : Nat} {A_t_pad : Nat} {A_t_act : Nat} {A_t_whose : Nat} {A_t_whom : Nat} {A_t_tens : Nat} {A_t_had : Nat} {A_t_leaves : Nat} {A_t_apart : Nat} {A_t_stop : Nat} {A_t_restOf : Nat} {A_t_group : Nat} {A_t_along : Nat} {A_t_kept : Nat} {A_t_isKept : Nat} {c_t_foggy : Int32} {c_t_walkers : Int32} {c_t_sights : Int32} {c_t_padMany : Int32} {c_t_acts : Int32} {c_t_spent : Int32} {c_t_walks : Int32} {c_t_badAct : Int32} {c_t_badWhy : Int32} {c_t_keptAt : Int32} {c_t_isWriting : Int32} {c_t_steps : Nat → Int32} {c_t_wet : Nat → Int32} {c_t_where : Nat → Int32} {c_t_light : Nat → Int32} {c_t_sightPlace : Nat → Int32} {c_t_sightLight : Nat → Int32} {c_t_apart : Nat → Int32} {z_t_apart : Nat → Int32} {r : Int32} {x1 : Int32} {x2 : Int32} {k : Int32 → Option (Int32 × (Nat → Int32))} (hC : cx_ p s m c G cX10_ask 5 RX10) (hret : ∀ (pc : Nat) (H : Heap) (locs : List Loc) (ls : Array Slot), decode cX10_ask pc = .ok (.ireturn, 1) → wd_ G A s.heap (wl_X10_ask G A_t A_t_steps A_t_wet A_t_where A_t_home A_t_light A_t_carries A_t_sightPlace A_t_sightLight A_t_pad A_t_act A_t_whose A_t_whom A_t_tens A_t_had A_t_leaves A_t_apart A_t_stop A_t_restOf A_t_group A_t_along A_t_kept A_t_isKept c_t_foggy c_t_walkers c_t_sights c_t_padMany c_t_acts c_t_spent c_t_walks c_t_badAct c_t_badWhy c_t_keptAt c_t_isWriting c_t_steps c_t_wet c_t_where c_t_light c_t_sightPlace c_t_sightLight z_t_apart) H locs → W p l e { frames := 5, cells := 0, slots := 0, locals := 115 } s m args below meth c H locs 0 0 Q (F0 m pc ls [.int r])) (hk : ∀ (x3 : Int32) (H : Heap) (locs : List Loc) (ls : Array Slot), k x3 = some (r, z_t_apart) → lv_has ls 5 [(0, .ref A_t), (1, .int x1), (2, .int x2), (3, .int x3)] → wd_ G A s.heap (wl_X10_ask G A_t A_t_steps A_t_wet A_t_where A_t_home A_t_light A_t_carries A_t_sightPlace A_t_sightLight A_t_pad A_t_act A_t_whose A_t_whom A_t_tens A_t_had A_t_leaves A_t_apart A_t_stop A_t_restOf A_t_group A_t_along A_t_kept A_t_isKept c_t_foggy c_t_walkers c_t_sights c_t_padMany c_t_acts c_t_spent c_t_walks c_t_badAct c_t_badWhy c_t_keptAt c_t_isWriting c_t_steps c_t_wet c_t_where c_t_light c_t_sightPlace c_t_sightLight c_t_apart) H locs → W p l e { frames := 5, cells := 0, slots := 0, locals := 115 } s m args below meth c H locs 0 0 Q (F0 m 66 ls [])) : ∀ (n : Nat) (x3 : Int32) (x4 : Int32) (H : Heap) (locs : List Loc) (ls : Array Slot), fn_X10_ask_l30 c_t_where c_t_light c_t_apart x2 k n x3 x4 = some (r, z_t_apart) → lv_has ls 5 [(0, .ref A_t), (1, .int x1), (2, .int x2), (3, .int x3), (4, .int x4)] → wd_ G A s.heap (wl_X10_ask G A_t A_t_steps A_t_wet A_t_where A_t_home A_t_light A_t_carries A_t_sightPlace A_t_sightLight A_t_pad A_t_act A_t_whose A_t_whom A_t_tens A_t_had A_t_leaves A_t_apart A_t_stop A_t_restOf A_t_group A_t_along A_t_kept A_t_isKept c_t_foggy c_t_walkers c_t_sights c_t_padMany c_t_acts c_t_spent c_t_walks c_t_badAct c_t_badWhy c_t_keptAt c_t_isWriting c_t_steps c_t_wet c_t_where c_t_light c_t_sightPlace c_t_sightLight c_t_apart) H locs → W p l e { frames := 5, cells := 0, slots := 0, locals := 115 } s m args below meth c H locs 0 0 Q (F0 m 30 ls []) := by
  have hx := hC.1
  have hb := hC.2.1
  intro n
  induction n with
  | zero =>
    intro x3 x4 H locs ls hf
    cases (show (none : Option (Int32 × (Nat → Int32))) = some _ from hf)
  | succ n hrc =>
    intro x3 x4 H locs ls hf hl hw
    replace hf : fn_X10_ask_b30 c_t_where c_t_light c_t_apart x2 (fn_X10_ask_l30 c_t_where c_t_light c_t_apart x2 k n) k x3 x4 = some (r, z_t_apart) := hf
    unfold fn_X10_ask_b30 at hf
    refine lv_iload hx hb dX10_ask_30 (lv_at hl 4 rfl) ?_
    refine lv_bipush (v := 12) hx hb dX10_ask_32 (by decide) ?_
    refine lv_icmp_ge (tgt := 66) hx hb dX10_ask_34 (by decide) (fun hc => ?_) (fun hc => ?_)
    · replace hf := it_t hc hf
      exact hk x3 _ _ _ hf (lv_sub hl [0, 1, 2, 3] rfl) hw
    · replace hf := it_f hc hf
      refine lv_aload_n hx hb dX10_ask_37 rfl (lv_at hl 0 rfl) ?_
      refine lv_iload_n hx hb dX10_ask_38 rfl (lv_at hl 2 rfl) ?_
      refine lv_iload hx hb dX10_ask_39 (lv_at hl 4 rfl) ?_
      obtain ⟨r6, hq7, hf⟩ := b1_s hf
      refine h_cVi hC hw mvX10_262 (cn_X10_mostAlike l G A_t A_t_steps A_t_wet A_t_where A_t_home A_t_light A_t_carries A_t_sightPlace A_t_sightLight A_t_pad A_t_act A_t_whose A_t_whom A_t_tens A_t_had A_t_leaves A_t_apart A_t_stop A_t_restOf A_t_group A_t_along A_t_kept A_t_isKept c_t_foggy c_t_walkers c_t_sights c_t_padMany c_t_acts c_t_spent c_t_walks c_t_badAct c_t_badWhy c_t_keptAt c_t_isWriting c_t_where c_t_light c_t_apart x2 x4 r6 hq7) [0, 3, 4, 7] rfl (by decide) 0 rfl rfl rfl hl.1 rfl (Nat.le_of_ble_eq_true rfl) ⟨Nat.le_of_ble_eq_true rfl, Nat.le_of_ble_eq_true rfl⟩ ⟨Nat.le_refl _, Nat.le_refl _⟩ dX10_ask_41 (fun H locs hw => ?_)
      refine lv_aload_n hx hb dX10_ask_44 rfl (lv_at hl 0 rfl) ?_
      refine lv_iload_n hx hb dX10_ask_45 rfl (lv_at hl 2 rfl) ?_
      refine lv_iload_n hx hb dX10_ask_46 rfl (lv_at hl 3 rfl) ?_
      obtain ⟨r8, hq9, hf⟩ := b1_s hf
      refine h_cVi hC hw mvX10_262 (cn_X10_mostAlike l G A_t A_t_steps A_t_wet A_t_where A_t_home A_t_light A_t_carries A_t_sightPlace A_t_sightLight A_t_pad A_t_act A_t_whose A_t_whom A_t_tens A_t_had A_t_leaves A_t_apart A_t_stop A_t_restOf A_t_group A_t_along A_t_kept A_t_isKept c_t_foggy c_t_walkers c_t_sights c_t_padMany c_t_acts c_t_spent c_t_walks c_t_badAct c_t_badWhy c_t_keptAt c_t_isWriting c_t_where c_t_light c_t_apart x2 x3 r8 hq9) [0, 3, 4, 7] rfl (by decide) 0 rfl rfl rfl hl.1 rfl (Nat.le_of_ble_eq_true rfl) ⟨Nat.le_of_ble_eq_true rfl, Nat.le_of_ble_eq_true rfl⟩ ⟨Nat.le_refl _, Nat.le_refl _⟩ dX10_ask_47 (fun H locs hw => ?_)
      refine lv_icmp_ge (tgt := 58) hx hb dX10_ask_50 (by decide) (fun hc => ?_) (fun hc => ?_)
      · replace hf := it_t hc hf
        refine lv_iload_n hx hb dX10_ask_58 rfl (lv_at hl 3 rfl) ?_
        refine lv_istore_n (lv' := [(3, .int x3), (0, .ref A_t), (1, .int x1), (2, .int x2), (4, .int x4)]) hx hb dX10_ask_59 rfl hl (by decide) rfl (fun ls hl => ?_)
        refine lv_iinc (v := x4 + 1) (lv' := [(4, .int (x4 + 1)), (3, .int x3), (0, .ref A_t), (1, .int x1), (2, .int x2)]) hx hb dX10_ask_60 hl (k := 4) rfl rfl (by decide) rfl (fun ls hl => ?_)
        refine lv_goto (tgt := 30) hx hb dX10_ask_63 (by decide) ?_
        exact hrc x3 (x4 + 1) _ _ _ hf (lv_sub hl [2, 3, 4, 1, 0] rfl) hw
      · replace hf := it_f hc hf
        refine lv_iload hx hb dX10_ask_53 (lv_at hl 4 rfl) ?_
        refine lv_goto (tgt := 59) hx hb dX10_ask_55 (by decide) ?_
        refine lv_istore_n (lv' := [(3, .int x4), (0, .ref A_t), (1, .int x1), (2, .int x2), (4, .int x4)]) hx hb dX10_ask_59 rfl hl (by decide) rfl (fun ls hl => ?_)
        refine lv_iinc (v := x4 + 1) (lv' := [(4, .int (x4 + 1)), (3, .int x4), (0, .ref A_t), (1, .int x1), (2, .int x2)]) hx hb dX10_ask_60 hl (k := 4) rfl rfl (by decide) rfl (fun ls hl => ?_)
        refine lv_goto (tgt := 30) hx hb dX10_ask_63 (by decide) ?_
        exact hrc x4 (x4 + 1) _ _ _ hf (lv_sub hl [2, 3, 4, 1, 0] rfl) hw
set_option maxHeartbeats 4000000 in
set_option maxRecDepth 100000 in
theorem wn_X10_ask {p : Program} {l : Launch} {e : Env} {s : State} {m : MethodId} {args : Array Value} {below : List Frame} {meth : Method} {c : Code} {G : gw_} {A : Nat → Prop} {Q : State → Prop} {A_t : Nat} {A_t_steps : Nat} {A_t_wet : Nat} {A_t_where : Nat} {A_t_home : Nat} {A_t_light : Nat} {A_t_carries : Nat} {A_t_sightPlace : Nat} {A_t_sightLight : Nat} {A_t_pad : Nat} {A_t_act : Nat} {A_t_whose : Nat} {A_t_whom : Nat} {A_t_tens : Nat} {A_t_had : Nat} {A_t_leaves : Nat} {A_t_apart : Nat} {A_t_stop : Nat} {A_t_restOf : Nat} {A_t_group : Nat} {A_t_along : Nat} {A_t_kept : Nat} {A_t_isKept : Nat} {c_t_foggy : Int32} {c_t_walkers : Int32} {c_t_sights : Int32} {c_t_padMany : Int32} {c_t_acts : Int32} {c_t_spent : Int32} {c_t_walks : Int32} {c_t_badAct : Int32} {c_t_badWhy : Int32} {c_t_keptAt : Int32} {c_t_isWriting : Int32} {c_t_steps : Nat → Int32} {c_t_wet : Nat → Int32} {c_t_where : Nat → Int32} {c_t_light : Nat → Int32} {c_t_sightPlace : Nat → Int32} {c_t_sightLight : Nat → Int32} {c_t_apart : Nat → Int32} {z_t_apart : Nat → Int32} {r : Int32} {x1 : Int32} (hC : cx_ p s m c G cX10_ask 5 RX10) (hret : ∀ (pc : Nat) (H : Heap) (locs : List Loc) (ls : Array Slot), decode cX10_ask pc = .ok (.ireturn, 1) → wd_ G A s.heap (wl_X10_ask G A_t A_t_steps A_t_wet A_t_where A_t_home A_t_light A_t_carries A_t_sightPlace A_t_sightLight A_t_pad A_t_act A_t_whose A_t_whom A_t_tens A_t_had A_t_leaves A_t_apart A_t_stop A_t_restOf A_t_group A_t_along A_t_kept A_t_isKept c_t_foggy c_t_walkers c_t_sights c_t_padMany c_t_acts c_t_spent c_t_walks c_t_badAct c_t_badWhy c_t_keptAt c_t_isWriting c_t_steps c_t_wet c_t_where c_t_light c_t_sightPlace c_t_sightLight z_t_apart) H locs → W p l e { frames := 5, cells := 0, slots := 0, locals := 115 } s m args below meth c H locs 0 0 Q (F0 m pc ls [.int r])) (hf : fn_X10_ask c_t_foggy c_t_walkers c_t_sights c_t_steps c_t_wet c_t_where c_t_light c_t_sightPlace c_t_sightLight c_t_apart x1 = some (r, z_t_apart)) {H : Heap} {locs : List Loc} {ls : Array Slot} (hl : lv_has ls 5 [(0, .ref A_t), (1, .int x1)]) (hw : wd_ G A s.heap (wl_X10_ask G A_t A_t_steps A_t_wet A_t_where A_t_home A_t_light A_t_carries A_t_sightPlace A_t_sightLight A_t_pad A_t_act A_t_whose A_t_whom A_t_tens A_t_had A_t_leaves A_t_apart A_t_stop A_t_restOf A_t_group A_t_along A_t_kept A_t_isKept c_t_foggy c_t_walkers c_t_sights c_t_padMany c_t_acts c_t_spent c_t_walks c_t_badAct c_t_badWhy c_t_keptAt c_t_isWriting c_t_steps c_t_wet c_t_where c_t_light c_t_sightPlace c_t_sightLight c_t_apart) H locs) : W p l e { frames := 5, cells := 0, slots := 0, locals := 115 } s m args below meth c H locs 0 0 Q (F0 m 0 ls []) := by
  have hx := hC.1
  have hb := hC.2.1
  unfold fn_X10_ask at hf
  refine lv_iload_n hx hb dX10_ask_0 rfl (lv_at hl 1 rfl) ?_
  refine lv_i2l hx hb dX10_ask_1 rfl ?_
  refine lv_lconst (v := 0) hx hb dX10_ask_2 (by decide) ?_
  refine lv_lconst (v := 1) hx hb dX10_ask_3 (by decide) ?_
  obtain ⟨r1, hq2, hf⟩ := b1_s hf
  refine h_cSi hC hw msX10_79 (cn_X10_in l G (Int32.toInt64 x1) 0 1 r1 hq2) [] rfl (by decide) rfl hl.1 rfl (Nat.le_of_ble_eq_true rfl) ⟨Nat.le_of_ble_eq_true rfl, Nat.le_of_ble_eq_true rfl⟩ ⟨Nat.le_refl _, Nat.le_refl _⟩ dX10_ask_4 (fun H locs hw => ?_)
  refine lv_if_ne (tgt := 13) hx hb dX10_ask_7 (by decide) (fun hc => ?_) (fun hc => ?_)
  · replace hf := it_f hc hf
    refine lv_aload_n hx hb dX10_ask_13 rfl (lv_at hl 0 rfl) ?_
    obtain ⟨r3, w4, hq5, hf⟩ := b2_s hf
    refine g_cVi hC hw mvX10_260 (cn_X10_whose l G A_t A_t_steps A_t_wet A_t_where A_t_home A_t_light A_t_carries A_t_sightPlace A_t_sightLight A_t_pad A_t_act A_t_whose A_t_whom A_t_tens A_t_had A_t_leaves A_t_apart A_t_stop A_t_restOf A_t_group A_t_along A_t_kept A_t_isKept c_t_foggy c_t_walkers c_t_sights c_t_padMany c_t_acts c_t_spent c_t_walks c_t_badAct c_t_badWhy c_t_keptAt c_t_isWriting c_t_steps c_t_wet c_t_where c_t_light c_t_sightPlace c_t_sightLight c_t_apart r3 w4 hq5) [0, 1, 2, 3, 4, 5, 6, 7] rfl (by decide) rfl 0 rfl rfl rfl hl.1 rfl (Nat.le_of_ble_eq_true rfl) ⟨Nat.le_of_ble_eq_true rfl, Nat.le_of_ble_eq_true rfl⟩ ⟨Nat.le_refl _, Nat.le_refl _⟩ dX10_ask_14 (fun H locs hw => ?_)
    have hw : wd_ G A s.heap (wl_X10_ask G A_t A_t_steps A_t_wet A_t_where A_t_home A_t_light A_t_carries A_t_sightPlace A_t_sightLight A_t_pad A_t_act A_t_whose A_t_whom A_t_tens A_t_had A_t_leaves A_t_apart A_t_stop A_t_restOf A_t_group A_t_along A_t_kept A_t_isKept c_t_foggy c_t_walkers c_t_sights c_t_padMany c_t_acts c_t_spent c_t_walks c_t_badAct c_t_badWhy c_t_keptAt c_t_isWriting c_t_steps c_t_wet c_t_where c_t_light c_t_sightPlace c_t_sightLight w4) H locs := hw
    refine lv_istore_n (lv' := [(2, .int r3), (0, .ref A_t), (1, .int x1)]) hx hb dX10_ask_17 rfl hl (by decide) rfl (fun ls hl => ?_)
    refine lv_iload_n hx hb dX10_ask_18 rfl (lv_at hl 0 rfl) ?_
    refine lv_if_ne (tgt := 25) hx hb dX10_ask_19 (by decide) (fun hc => ?_) (fun hc => ?_)
    · replace hf := it_f hc hf
      refine lv_iconst (v := 0) hx hb dX10_ask_25 (by decide) ?_
      refine lv_istore_n (lv' := [(3, .int 0), (2, .int r3), (0, .ref A_t), (1, .int x1)]) hx hb dX10_ask_26 rfl hl (by decide) rfl (fun ls hl => ?_)
      refine lv_iconst (v := 1) hx hb dX10_ask_27 (by decide) ?_
      refine lv_istore (lv' := [(4, .int 1), (3, .int 0), (2, .int r3), (0, .ref A_t), (1, .int x1)]) hx hb dX10_ask_28 hl (by decide) rfl (fun ls hl => ?_)
      refine wn_X10_ask_l30 hC hret (fun v10 H locs ls hf hl hw => ?_) fu_ 0 1 _ _ _ hf (lv_sub hl [3, 4, 2, 1, 0] rfl) hw
      refine lv_iload_n hx hb dX10_ask_66 rfl (lv_at hl 1 rfl) ?_
      refine lv_if_ne (tgt := 74) hx hb dX10_ask_67 (by decide) (fun hc => ?_) (fun hc => ?_)
      · replace hf := it_f hc hf
        refine lv_aload_n hx hb dX10_ask_74 rfl (lv_at hl 0 rfl) ?_
        refine lv_iload_n hx hb dX10_ask_75 rfl (lv_at hl 2 rfl) ?_
        refine lv_iload_n hx hb dX10_ask_76 rfl (lv_at hl 3 rfl) ?_
        obtain ⟨r11, hq12, hf⟩ := b1_s hf
        refine h_cVi hC hw mvX10_262 (cn_X10_mostAlike l G A_t A_t_steps A_t_wet A_t_where A_t_home A_t_light A_t_carries A_t_sightPlace A_t_sightLight A_t_pad A_t_act A_t_whose A_t_whom A_t_tens A_t_had A_t_leaves A_t_apart A_t_stop A_t_restOf A_t_group A_t_along A_t_kept A_t_isKept c_t_foggy c_t_walkers c_t_sights c_t_padMany c_t_acts c_t_spent c_t_walks c_t_badAct c_t_badWhy c_t_keptAt c_t_isWriting c_t_where c_t_light w4 r3 v10 r11 hq12) [0, 3, 4, 7] rfl (by decide) 0 rfl rfl rfl hl.1 rfl (Nat.le_of_ble_eq_true rfl) ⟨Nat.le_of_ble_eq_true rfl, Nat.le_of_ble_eq_true rfl⟩ ⟨Nat.le_refl _, Nat.le_refl _⟩ dX10_ask_77 (fun H locs hw => ?_)
        obtain ⟨h1_, h2_⟩ := t2_ hf
        subst h1_
        subst h2_
        exact hret _ _ _ _ dX10_ask_80 hw
      · replace hf := it_t hc hf
        refine lv_iload_n hx hb dX10_ask_70 rfl (lv_at hl 3 rfl) ?_
        refine lv_goto (tgt := 80) hx hb dX10_ask_71 (by decide) ?_
        obtain ⟨h1_, h2_⟩ := t2_ hf
        subst h1_
        subst h2_
        exact hret _ _ _ _ dX10_ask_80 hw
    · replace hf := it_t hc hf
      refine lv_bipush (v := (-6)) hx hb dX10_ask_22 (by decide) ?_
      obtain ⟨h1_, h2_⟩ := t2_ hf
      subst h1_
      subst h2_
      exact hret _ _ _ _ dX10_ask_24 hw
  · replace hf := it_t hc hf
    refine lv_bipush (v := (-2)) hx hb dX10_ask_10 (by decide) ?_
    obtain ⟨h1_, h2_⟩ := t2_ hf
    subst h1_
    subst h2_
    exact hret _ _ _ _ dX10_ask_12 hw
set_option maxHeartbeats 4000000 in
set_option maxRecDepth 100000 in
theorem cn_X10_ask (l : Launch) (G : gw_) (A_t : Nat) (A_t_steps : Nat) (A_t_wet : Nat) (A_t_where : Nat) (A_t_home : Nat) (A_t_light : Nat) (A_t_carries : Nat) (A_t_sightPlace : Nat) (A_t_sightLight : Nat) (A_t_pad : Nat) (A_t_act : Nat) (A_t_whose : Nat) (A_t_whom : Nat) (A_t_tens : Nat) (A_t_had : Nat) (A_t_leaves : Nat) (A_t_apart : Nat) (A_t_stop : Nat) (A_t_restOf : Nat) (A_t_group : Nat) (A_t_along : Nat) (A_t_kept : Nat) (A_t_isKept : Nat) (c_t_foggy : Int32) (c_t_walkers : Int32) (c_t_sights : Int32) (c_t_padMany : Int32) (c_t_acts : Int32) (c_t_spent : Int32) (c_t_walks : Int32) (c_t_badAct : Int32) (c_t_badWhy : Int32) (c_t_keptAt : Int32) (c_t_isWriting : Int32) (c_t_steps : Nat → Int32) (c_t_wet : Nat → Int32) (c_t_where : Nat → Int32) (c_t_light : Nat → Int32) (c_t_sightPlace : Nat → Int32) (c_t_sightLight : Nat → Int32) (c_t_apart : Nat → Int32) (x1 : Int32) (r : Int32) (z_t_apart : Nat → Int32) (hf : fn_X10_ask c_t_foggy c_t_walkers c_t_sights c_t_steps c_t_wet c_t_where c_t_light c_t_sightPlace c_t_sightLight c_t_apart x1 = some (r, z_t_apart)) : ci_ l G yX10_ask cX10_ask 5 (some .int) 5 115 (wl_X10_ask G A_t A_t_steps A_t_wet A_t_where A_t_home A_t_light A_t_carries A_t_sightPlace A_t_sightLight A_t_pad A_t_act A_t_whose A_t_whom A_t_tens A_t_had A_t_leaves A_t_apart A_t_stop A_t_restOf A_t_group A_t_along A_t_kept A_t_isKept c_t_foggy c_t_walkers c_t_sights c_t_padMany c_t_acts c_t_spent c_t_walks c_t_badAct c_t_badWhy c_t_keptAt c_t_isWriting c_t_steps c_t_wet c_t_where c_t_light c_t_sightPlace c_t_sightLight c_t_apart) [.ref A_t, .int x1] r (wl_X10_ask G A_t A_t_steps A_t_wet A_t_where A_t_home A_t_light A_t_carries A_t_sightPlace A_t_sightLight A_t_pad A_t_act A_t_whose A_t_whom A_t_tens A_t_had A_t_leaves A_t_apart A_t_stop A_t_restOf A_t_group A_t_along A_t_kept A_t_isKept c_t_foggy c_t_walkers c_t_sights c_t_padMany c_t_acts c_t_spent c_t_walks c_t_badAct c_t_badWhy c_t_keptAt c_t_isWriting c_t_steps c_t_wet c_t_where c_t_light c_t_sightPlace c_t_sightLight z_t_apart) := fun sz => met_intro (by decide) (Nat.le_of_ble_eq_true rfl) (fun p e s m args below meth c ls hsz hC hr hlk hnm hl hw => wn_X10_ask hC (fun pc H locs ls hd hw => g_iret hC hr hlk hw rfl rfl hd) hf hl hw)

theorem dX10_lowest_0 : decode cX10_lowest 0 = .ok (.lload_n 2, 1) := by decide +kernel
theorem dX10_lowest_1 : decode cX10_lowest 1 = .ok (.lstore 5, 2) := by decide +kernel
theorem dX10_lowest_3 : decode cX10_lowest 3 = .ok (.lload_n 0, 1) := by decide +kernel
theorem dX10_lowest_4 : decode cX10_lowest 4 = .ok (.lstore 7, 2) := by decide +kernel
theorem dX10_lowest_6 : decode cX10_lowest 6 = .ok (.lload 7, 2) := by decide +kernel
theorem dX10_lowest_8 : decode cX10_lowest 8 = .ok (.lconst 0, 1) := by decide +kernel
theorem dX10_lowest_9 : decode cX10_lowest 9 = .ok (.lcmp, 1) := by decide +kernel
theorem dX10_lowest_10 : decode cX10_lowest 10 = .ok (.ifCond .eq 21, 3) := by decide +kernel
theorem dX10_lowest_13 : decode cX10_lowest 13 = .ok (.lload 5, 2) := by decide +kernel
theorem dX10_lowest_15 : decode cX10_lowest 15 = .ok (.lload 7, 2) := by decide +kernel
theorem dX10_lowest_17 : decode cX10_lowest 17 = .ok (.lrem, 1) := by decide +kernel
theorem dX10_lowest_18 : decode cX10_lowest 18 = .ok (.lstore 9, 2) := by decide +kernel
theorem dX10_lowest_20 : decode cX10_lowest 20 = .ok (.lload 7, 2) := by decide +kernel
theorem dX10_lowest_22 : decode cX10_lowest 22 = .ok (.lstore 5, 2) := by decide +kernel
theorem dX10_lowest_24 : decode cX10_lowest 24 = .ok (.lload 9, 2) := by decide +kernel
theorem dX10_lowest_26 : decode cX10_lowest 26 = .ok (.lstore 7, 2) := by decide +kernel
theorem dX10_lowest_28 : decode cX10_lowest 28 = .ok (.goto (-22), 3) := by decide +kernel
theorem dX10_lowest_31 : decode cX10_lowest 31 = .ok (.iload 4, 2) := by decide +kernel
theorem dX10_lowest_33 : decode cX10_lowest 33 = .ok (.ifCond .ne 10, 3) := by decide +kernel
theorem dX10_lowest_36 : decode cX10_lowest 36 = .ok (.lload_n 0, 1) := by decide +kernel
theorem dX10_lowest_37 : decode cX10_lowest 37 = .ok (.lload 5, 2) := by decide +kernel
theorem dX10_lowest_39 : decode cX10_lowest 39 = .ok (.ldiv, 1) := by decide +kernel
theorem dX10_lowest_40 : decode cX10_lowest 40 = .ok (.goto 7, 3) := by decide +kernel
theorem dX10_lowest_43 : decode cX10_lowest 43 = .ok (.lload_n 2, 1) := by decide +kernel
theorem dX10_lowest_44 : decode cX10_lowest 44 = .ok (.lload 5, 2) := by decide +kernel
theorem dX10_lowest_46 : decode cX10_lowest 46 = .ok (.ldiv, 1) := by decide +kernel
theorem dX10_lowest_47 : decode cX10_lowest 47 = .ok (.lreturn, 1) := by decide +kernel
def fn_X10_lowest_b6 (rc : Int64 → Int64 → Option (Int64)) (k : Int64 → Option (Int64)) (x5 : Int64) (x7 : Int64) : Option (Int64) :=
  if (lg_cmp x7 0) = 0 then
    k x5
  else
    dl_ x7 <|
    rc x7 (x5 - x5 / x7 * x7)
def fn_X10_lowest_l6 (k : Int64 → Option (Int64)) : Nat → Int64 → Int64 → Option (Int64)
  | 0 => fun _ _ => none
  | n + 1 => fun x5 x7 => fn_X10_lowest_b6 (fn_X10_lowest_l6 k n) k x5 x7
def fn_X10_lowest (x0 : Int64) (x2 : Int64) (x4 : Int32) : Option (Int64) :=
  fn_X10_lowest_l6 (fun v1 =>
    if x4 = 0 then
      dl_ v1 <|
      some (x0 / v1)
    else
      dl_ v1 <|
      some (x2 / v1)) fu_ x2 x0
set_option maxHeartbeats 4000000 in
set_option maxRecDepth 100000 in
theorem wn_X10_lowest_l6 {p : Program} {l : Launch} {e : Env} {s : State} {m : MethodId} {args : Array Value} {below : List Frame} {meth : Method} {c : Code} {G : gw_} {A : Nat → Prop} {Q : State → Prop} {r : Int64} {x0 : Int64} {x2 : Int64} {x4 : Int32} {k : Int64 → Option (Int64)} (hC : cx_ p s m c G cX10_lowest 11 RX10) (hret : ∀ (pc : Nat) (H : Heap) (locs : List Loc) (ls : Array Slot), decode cX10_lowest pc = .ok (.lreturn, 1) → wd_ G A s.heap [] H locs → W p l e { frames := 0, cells := 0, slots := 0, locals := 0 } s m args below meth c H locs 0 0 Q (F0 m pc ls [.long r])) (hk : ∀ (x5 : Int64) (H : Heap) (locs : List Loc) (ls : Array Slot), k x5 = some r → lv_has ls 11 [(0, .long x0), (2, .long x2), (4, .int x4), (5, .long x5)] → wd_ G A s.heap [] H locs → W p l e { frames := 0, cells := 0, slots := 0, locals := 0 } s m args below meth c H locs 0 0 Q (F0 m 31 ls [])) : ∀ (n : Nat) (x5 : Int64) (x7 : Int64) (H : Heap) (locs : List Loc) (ls : Array Slot), fn_X10_lowest_l6 k n x5 x7 = some r → lv_has ls 11 [(0, .long x0), (2, .long x2), (4, .int x4), (5, .long x5), (7, .long x7)] → wd_ G A s.heap [] H locs → W p l e { frames := 0, cells := 0, slots := 0, locals := 0 } s m args below meth c H locs 0 0 Q (F0 m 6 ls []) := by
  have hx := hC.1
  have hb := hC.2.1
  intro n
  induction n with
  | zero =>
    intro x5 x7 H locs ls hf
    cases (show (none : Option (Int64)) = some _ from hf)
  | succ n hrc =>
    intro x5 x7 H locs ls hf hl hw
    replace hf : fn_X10_lowest_b6 (fn_X10_lowest_l6 k n) k x5 x7 = some r := hf
    unfold fn_X10_lowest_b6 at hf
    refine lv_lload hx hb dX10_lowest_6 (lv_at hl 4 rfl) ?_
    refine lv_lconst (v := 0) hx hb dX10_lowest_8 (by decide) ?_
    refine W.lcmp hx hb dX10_lowest_9 ?_
    refine lv_if_eq (tgt := 31) hx hb dX10_lowest_10 (by decide) (fun hc => ?_) (fun hc => ?_)
    · replace hf := it_t hc hf
      exact hk x5 _ _ _ hf (lv_sub hl [0, 1, 2, 3] rfl) hw
    · replace hf := it_f hc hf
      refine lv_lload hx hb dX10_lowest_13 (lv_at hl 3 rfl) ?_
      refine lv_lload hx hb dX10_lowest_15 (lv_at hl 4 rfl) ?_
      obtain ⟨hd0, hf⟩ := dl_s hf
      refine lv_lrem hx hb dX10_lowest_17 hd0 ?_
      refine lv_lstore (lv' := [(9, .long (x5 - x5 / x7 * x7)), (0, .long x0), (2, .long x2), (4, .int x4), (5, .long x5), (7, .long x7)]) hx hb dX10_lowest_18 hl (by decide) rfl (fun ls hl => ?_)
      refine lv_lload hx hb dX10_lowest_20 (lv_at hl 5 rfl) ?_
      refine lv_lstore (lv' := [(5, .long x7), (9, .long (x5 - x5 / x7 * x7)), (0, .long x0), (2, .long x2), (4, .int x4), (7, .long x7)]) hx hb dX10_lowest_22 hl (by decide) rfl (fun ls hl => ?_)
      refine lv_lload hx hb dX10_lowest_24 (lv_at hl 1 rfl) ?_
      refine lv_lstore (lv' := [(7, .long (x5 - x5 / x7 * x7)), (5, .long x7), (9, .long (x5 - x5 / x7 * x7)), (0, .long x0), (2, .long x2), (4, .int x4)]) hx hb dX10_lowest_26 hl (by decide) rfl (fun ls hl => ?_)
      refine lv_goto (tgt := 6) hx hb dX10_lowest_28 (by decide) ?_
      exact hrc x7 (x5 - x5 / x7 * x7) _ _ _ hf (lv_sub hl [3, 4, 5, 1, 0] rfl) hw
set_option maxHeartbeats 4000000 in
set_option maxRecDepth 100000 in
theorem wn_X10_lowest {p : Program} {l : Launch} {e : Env} {s : State} {m : MethodId} {args : Array Value} {below : List Frame} {meth : Method} {c : Code} {G : gw_} {A : Nat → Prop} {Q : State → Prop} {r : Int64} {x0 : Int64} {x2 : Int64} {x4 : Int32} (hC : cx_ p s m c G cX10_lowest 11 RX10) (hret : ∀ (pc : Nat) (H : Heap) (locs : List Loc) (ls : Array Slot), decode cX10_lowest pc = .ok (.lreturn, 1) → wd_ G A s.heap [] H locs → W p l e { frames := 0, cells := 0, slots := 0, locals := 0 } s m args below meth c H locs 0 0 Q (F0 m pc ls [.long r])) (hf : fn_X10_lowest x0 x2 x4 = some r) {H : Heap} {locs : List Loc} {ls : Array Slot} (hl : lv_has ls 11 [(0, .long x0), (2, .long x2), (4, .int x4)]) (hw : wd_ G A s.heap [] H locs) : W p l e { frames := 0, cells := 0, slots := 0, locals := 0 } s m args below meth c H locs 0 0 Q (F0 m 0 ls []) := by
  have hx := hC.1
  have hb := hC.2.1
  unfold fn_X10_lowest at hf
  refine lv_lload_n hx hb dX10_lowest_0 rfl (lv_at hl 1 rfl) ?_
  refine lv_lstore (lv' := [(5, .long x2), (0, .long x0), (2, .long x2), (4, .int x4)]) hx hb dX10_lowest_1 hl (by decide) rfl (fun ls hl => ?_)
  refine lv_lload_n hx hb dX10_lowest_3 rfl (lv_at hl 1 rfl) ?_
  refine lv_lstore (lv' := [(7, .long x0), (5, .long x2), (0, .long x0), (2, .long x2), (4, .int x4)]) hx hb dX10_lowest_4 hl (by decide) rfl (fun ls hl => ?_)
  refine wn_X10_lowest_l6 hC hret (fun v1 H locs ls hf hl hw => ?_) fu_ x2 x0 _ _ _ hf (lv_sub hl [2, 3, 4, 1, 0] rfl) hw
  refine lv_iload hx hb dX10_lowest_31 (lv_at hl 2 rfl) ?_
  refine lv_if_ne (tgt := 43) hx hb dX10_lowest_33 (by decide) (fun hc => ?_) (fun hc => ?_)
  · replace hf := it_f hc hf
    refine lv_lload_n hx hb dX10_lowest_43 rfl (lv_at hl 1 rfl) ?_
    refine lv_lload hx hb dX10_lowest_44 (lv_at hl 3 rfl) ?_
    obtain ⟨hd0, hf⟩ := dl_s hf
    refine lv_ldiv hx hb dX10_lowest_46 hd0 ?_
    have h1_ := t1_ hf
    subst h1_
    exact hret _ _ _ _ dX10_lowest_47 hw
  · replace hf := it_t hc hf
    refine lv_lload_n hx hb dX10_lowest_36 rfl (lv_at hl 0 rfl) ?_
    refine lv_lload hx hb dX10_lowest_37 (lv_at hl 3 rfl) ?_
    obtain ⟨hd0, hf⟩ := dl_s hf
    refine lv_ldiv hx hb dX10_lowest_39 hd0 ?_
    refine lv_goto (tgt := 47) hx hb dX10_lowest_40 (by decide) ?_
    have h1_ := t1_ hf
    subst h1_
    exact hret _ _ _ _ dX10_lowest_47 hw
set_option maxHeartbeats 4000000 in
set_option maxRecDepth 100000 in
theorem cn_X10_lowest (l : Launch) (G : gw_) (x0 : Int64) (x2 : Int64) (x4 : Int32) (r : Int64) (hf : fn_X10_lowest x0 x2 x4 = some r) : cj_ l G yX10_lowest cX10_lowest 11 (some .long) 0 0 [] [.long x0, .long x2, .int x4] r [] := fun sz => met_intro (by decide) (Nat.le_of_ble_eq_true rfl) (fun p e s m args below meth c ls hsz hC hr hlk hnm hl hw => wn_X10_lowest hC (fun pc H locs ls hd hw => g_lret hC hr hlk hw hd) hf hl hw)

theorem dX10_layWay_0 : decode cX10_layWay 0 = .ok (.iconst 0, 1) := by decide +kernel
theorem dX10_layWay_1 : decode cX10_layWay 1 = .ok (.istore_n 2, 1) := by decide +kernel
theorem dX10_layWay_2 : decode cX10_layWay 2 = .ok (.aload_n 0, 1) := by decide +kernel
theorem dX10_layWay_3 : decode cX10_layWay 3 = .ok (.getfield 16, 3) := by decide +kernel
theorem dX10_layWay_6 : decode cX10_layWay 6 = .ok (.iload_n 1, 1) := by decide +kernel
theorem dX10_layWay_7 : decode cX10_layWay 7 = .ok (.iaload, 1) := by decide +kernel
theorem dX10_layWay_8 : decode cX10_layWay 8 = .ok (.istore_n 3, 1) := by decide +kernel
theorem dX10_layWay_9 : decode cX10_layWay 9 = .ok (.iload_n 3, 1) := by decide +kernel
theorem dX10_layWay_10 : decode cX10_layWay 10 = .ok (.aload_n 0, 1) := by decide +kernel
theorem dX10_layWay_11 : decode cX10_layWay 11 = .ok (.getfield 19, 3) := by decide +kernel
theorem dX10_layWay_14 : decode cX10_layWay 14 = .ok (.iload_n 1, 1) := by decide +kernel
theorem dX10_layWay_15 : decode cX10_layWay 15 = .ok (.iaload, 1) := by decide +kernel
theorem dX10_layWay_16 : decode cX10_layWay 16 = .ok (.if_icmp .eq 38, 3) := by decide +kernel
theorem dX10_layWay_19 : decode cX10_layWay 19 = .ok (.aload_n 0, 1) := by decide +kernel
theorem dX10_layWay_20 : decode cX10_layWay 20 = .ok (.iload_n 3, 1) := by decide +kernel
theorem dX10_layWay_21 : decode cX10_layWay 21 = .ok (.aload_n 0, 1) := by decide +kernel
theorem dX10_layWay_22 : decode cX10_layWay 22 = .ok (.getfield 19, 3) := by decide +kernel
theorem dX10_layWay_25 : decode cX10_layWay 25 = .ok (.iload_n 1, 1) := by decide +kernel
theorem dX10_layWay_26 : decode cX10_layWay 26 = .ok (.iaload, 1) := by decide +kernel
theorem dX10_layWay_27 : decode cX10_layWay 27 = .ok (.invokevirtual 222, 3) := by decide +kernel
theorem dX10_layWay_30 : decode cX10_layWay 30 = .ok (.istore 4, 2) := by decide +kernel
theorem dX10_layWay_32 : decode cX10_layWay 32 = .ok (.aload_n 0, 1) := by decide +kernel
theorem dX10_layWay_33 : decode cX10_layWay 33 = .ok (.getfield 67, 3) := by decide +kernel
theorem dX10_layWay_36 : decode cX10_layWay 36 = .ok (.iload_n 2, 1) := by decide +kernel
theorem dX10_layWay_37 : decode cX10_layWay 37 = .ok (.aload_n 0, 1) := by decide +kernel
theorem dX10_layWay_38 : decode cX10_layWay 38 = .ok (.iload_n 3, 1) := by decide +kernel
theorem dX10_layWay_39 : decode cX10_layWay 39 = .ok (.iload 4, 2) := by decide +kernel
theorem dX10_layWay_41 : decode cX10_layWay 41 = .ok (.invokevirtual 163, 3) := by decide +kernel
theorem dX10_layWay_44 : decode cX10_layWay 44 = .ok (.iastore, 1) := by decide +kernel
theorem dX10_layWay_45 : decode cX10_layWay 45 = .ok (.iinc 2 1, 3) := by decide +kernel
theorem dX10_layWay_48 : decode cX10_layWay 48 = .ok (.iload 4, 2) := by decide +kernel
theorem dX10_layWay_50 : decode cX10_layWay 50 = .ok (.istore_n 3, 1) := by decide +kernel
theorem dX10_layWay_51 : decode cX10_layWay 51 = .ok (.goto (-42), 3) := by decide +kernel
theorem dX10_layWay_54 : decode cX10_layWay 54 = .ok (.iload_n 2, 1) := by decide +kernel
theorem dX10_layWay_55 : decode cX10_layWay 55 = .ok (.ireturn, 1) := by decide +kernel
abbrev wl_X10_layWay (G : gw_) (A_t : Nat) (A_t_steps : Nat) (A_t_wet : Nat) (A_t_where : Nat) (A_t_home : Nat) (A_t_light : Nat) (A_t_carries : Nat) (A_t_sightPlace : Nat) (A_t_sightLight : Nat) (A_t_pad : Nat) (A_t_act : Nat) (A_t_whose : Nat) (A_t_whom : Nat) (A_t_tens : Nat) (A_t_had : Nat) (A_t_leaves : Nat) (A_t_apart : Nat) (A_t_stop : Nat) (A_t_restOf : Nat) (A_t_group : Nat) (A_t_along : Nat) (A_t_kept : Nat) (A_t_isKept : Nat) (c_t_foggy : Int32) (c_t_walkers : Int32) (c_t_sights : Int32) (c_t_padMany : Int32) (c_t_acts : Int32) (c_t_spent : Int32) (c_t_walks : Int32) (c_t_badAct : Int32) (c_t_badWhy : Int32) (c_t_keptAt : Int32) (c_t_isWriting : Int32) (c_t_steps : Nat → Int32) (c_t_wet : Nat → Int32) (c_t_where : Nat → Int32) (c_t_home : Nat → Int32) (c_t_apart : Nat → Int32) (c_t_along : Nat → Int32) : va_W := [ob_ A_t 10 [.ref A_t_steps, .ref A_t_wet, .int c_t_foggy, .int c_t_walkers, .ref A_t_where, .ref A_t_home, .ref A_t_light, .ref A_t_carries, .ref A_t_sightPlace, .ref A_t_sightLight, .int c_t_sights, .ref A_t_pad, .int c_t_padMany, .ref A_t_act, .ref A_t_whose, .ref A_t_whom, .ref A_t_tens, .int c_t_acts, .int c_t_spent, .int c_t_walks, .ref A_t_had, .ref A_t_leaves, .int c_t_badAct, .int c_t_badWhy, .ref A_t_apart, .ref A_t_stop, .ref A_t_restOf, .ref A_t_group, .ref A_t_along, .ref A_t_kept, .ref A_t_isKept, .int c_t_keptAt, .int c_t_isWriting], ia_ G A_t_steps 144 c_t_steps, ia_ G A_t_wet 144 c_t_wet, ia_ G A_t_where 6 c_t_where, ia_ G A_t_home 6 c_t_home, ia_ G A_t_apart 144 c_t_apart, ia_ G A_t_along 12 c_t_along]
def fn_X10_layWay_b9 (c_t_foggy : Int32) (c_t_steps : Nat → Int32) (c_t_wet : Nat → Int32) (c_t_home : Nat → Int32) (c_t_apart : Nat → Int32) (x1 : Int32) (rc : Int32 → Int32 → (Nat → Int32) → Option (Int32 × (Nat → Int32))) (k : Int32 → (Nat → Int32) → Option (Int32 × (Nat → Int32))) (x2 : Int32) (x3 : Int32) (c_t_along : Nat → Int32) : Option (Int32 × (Nat → Int32)) :=
  ck_ x1 6 <|
  if x3 = (c_t_home (Int32.toNatClampNeg x1)) then
    k x2 c_t_along
  else
    ck_ x1 6 <|
    b1_ (fn_X10_firstPlace c_t_foggy c_t_steps c_t_wet c_t_apart x3 (c_t_home (Int32.toNatClampNeg x1))) fun r2 =>
    b1_ (fn_X10_cost c_t_foggy c_t_steps c_t_wet x3 r2) fun r4 =>
    ck_ x2 12 <|
    lx_ (upd c_t_along (Int32.toNatClampNeg x2) r4) fun f6 =>
    rc (x2 + 1) r2 f6
def fn_X10_layWay_l9 (c_t_foggy : Int32) (c_t_steps : Nat → Int32) (c_t_wet : Nat → Int32) (c_t_home : Nat → Int32) (c_t_apart : Nat → Int32) (x1 : Int32) (k : Int32 → (Nat → Int32) → Option (Int32 × (Nat → Int32))) : Nat → Int32 → Int32 → (Nat → Int32) → Option (Int32 × (Nat → Int32))
  | 0 => fun _ _ _ => none
  | n + 1 => fun x2 x3 c_t_along => fn_X10_layWay_b9 c_t_foggy c_t_steps c_t_wet c_t_home c_t_apart x1 (fn_X10_layWay_l9 c_t_foggy c_t_steps c_t_wet c_t_home c_t_apart x1 k n) k x2 x3 c_t_along
def fn_X10_layWay (c_t_foggy : Int32) (c_t_steps : Nat → Int32) (c_t_wet : Nat → Int32) (c_t_where : Nat → Int32) (c_t_home : Nat → Int32) (c_t_apart : Nat → Int32) (c_t_along : Nat → Int32) (x1 : Int32) : Option (Int32 × (Nat → Int32)) :=
  ck_ x1 6 <|
  lx_ (c_t_where (Int32.toNatClampNeg x1)) fun y1 =>
  fn_X10_layWay_l9 c_t_foggy c_t_steps c_t_wet c_t_home c_t_apart x1 (fun v7 v8 =>
    some (v7, v8)) fu_ 0 y1 c_t_along
set_option maxHeartbeats 4000000 in
set_option maxRecDepth 100000 in
theorem wn_X10_layWay_l9 {p : Program} {l : Launch} {e : Env} {s : State} {m : MethodId} {args : Array Value} {below : List Frame} {meth : Method} {c : Code} {G : gw_} {A : Nat → Prop} {Q : State → Prop} {A_t : Nat} {A_t_steps : Nat} {A_t_wet : Nat} {A_t_where : Nat} {A_t_home : Nat} {A_t_light : Nat} {A_t_carries : Nat} {A_t_sightPlace : Nat} {A_t_sightLight : Nat} {A_t_pad : Nat} {A_t_act : Nat} {A_t_whose : Nat} {A_t_whom : Nat} {A_t_tens : Nat} {A_t_had : Nat} {A_t_leaves : Nat} {A_t_apart : Nat} {A_t_stop : Nat} {A_t_restOf : Nat} {A_t_group : Nat} {A_t_along : Nat} {A_t_kept : Nat} {A_t_isKept : Nat} {c_t_foggy : Int32} {c_t_walkers : Int32} {c_t_sights : Int32} {c_t_padMany : Int32} {c_t_acts : Int32} {c_t_spent : Int32} {c_t_walks : Int32} {c_t_badAct : Int32} {c_t_badWhy : Int32} {c_t_keptAt : Int32} {c_t_isWriting : Int32} {c_t_steps : Nat → Int32} {c_t_wet : Nat → Int32} {c_t_where : Nat → Int32} {c_t_home : Nat → Int32} {c_t_apart : Nat → Int32} {z_t_along : Nat → Int32} {r : Int32} {x1 : Int32} {k : Int32 → (Nat → Int32) → Option (Int32 × (Nat → Int32))} (hC : cx_ p s m c G cX10_layWay 5 RX10) (hret : ∀ (pc : Nat) (H : Heap) (locs : List Loc) (ls : Array Slot), decode cX10_layWay pc = .ok (.ireturn, 1) → wd_ G A s.heap (wl_X10_layWay G A_t A_t_steps A_t_wet A_t_where A_t_home A_t_light A_t_carries A_t_sightPlace A_t_sightLight A_t_pad A_t_act A_t_whose A_t_whom A_t_tens A_t_had A_t_leaves A_t_apart A_t_stop A_t_restOf A_t_group A_t_along A_t_kept A_t_isKept c_t_foggy c_t_walkers c_t_sights c_t_padMany c_t_acts c_t_spent c_t_walks c_t_badAct c_t_badWhy c_t_keptAt c_t_isWriting c_t_steps c_t_wet c_t_where c_t_home c_t_apart z_t_along) H locs → W p l e { frames := 4, cells := 0, slots := 0, locals := 91 } s m args below meth c H locs 0 0 Q (F0 m pc ls [.int r])) (hk : ∀ (x2 : Int32) (c_t_along : Nat → Int32) (H : Heap) (locs : List Loc) (ls : Array Slot), k x2 c_t_along = some (r, z_t_along) → lv_has ls 5 [(2, .int x2)] → wd_ G A s.heap (wl_X10_layWay G A_t A_t_steps A_t_wet A_t_where A_t_home A_t_light A_t_carries A_t_sightPlace A_t_sightLight A_t_pad A_t_act A_t_whose A_t_whom A_t_tens A_t_had A_t_leaves A_t_apart A_t_stop A_t_restOf A_t_group A_t_along A_t_kept A_t_isKept c_t_foggy c_t_walkers c_t_sights c_t_padMany c_t_acts c_t_spent c_t_walks c_t_badAct c_t_badWhy c_t_keptAt c_t_isWriting c_t_steps c_t_wet c_t_where c_t_home c_t_apart c_t_along) H locs → W p l e { frames := 4, cells := 0, slots := 0, locals := 91 } s m args below meth c H locs 0 0 Q (F0 m 54 ls [])) : ∀ (n : Nat) (x2 : Int32) (x3 : Int32) (c_t_along : Nat → Int32) (H : Heap) (locs : List Loc) (ls : Array Slot), fn_X10_layWay_l9 c_t_foggy c_t_steps c_t_wet c_t_home c_t_apart x1 k n x2 x3 c_t_along = some (r, z_t_along) → lv_has ls 5 [(0, .ref A_t), (1, .int x1), (2, .int x2), (3, .int x3)] → wd_ G A s.heap (wl_X10_layWay G A_t A_t_steps A_t_wet A_t_where A_t_home A_t_light A_t_carries A_t_sightPlace A_t_sightLight A_t_pad A_t_act A_t_whose A_t_whom A_t_tens A_t_had A_t_leaves A_t_apart A_t_stop A_t_restOf A_t_group A_t_along A_t_kept A_t_isKept c_t_foggy c_t_walkers c_t_sights c_t_padMany c_t_acts c_t_spent c_t_walks c_t_badAct c_t_badWhy c_t_keptAt c_t_isWriting c_t_steps c_t_wet c_t_where c_t_home c_t_apart c_t_along) H locs → W p l e { frames := 4, cells := 0, slots := 0, locals := 91 } s m args below meth c H locs 0 0 Q (F0 m 9 ls []) := by
  have hx := hC.1
  have hb := hC.2.1
  intro n
  induction n with
  | zero =>
    intro x2 x3 c_t_along H locs ls hf
    cases (show (none : Option (Int32 × (Nat → Int32))) = some _ from hf)
  | succ n hrc =>
    intro x2 x3 c_t_along H locs ls hf hl hw
    replace hf : fn_X10_layWay_b9 c_t_foggy c_t_steps c_t_wet c_t_home c_t_apart x1 (fn_X10_layWay_l9 c_t_foggy c_t_steps c_t_wet c_t_home c_t_apart x1 k n) k x2 x3 c_t_along = some (r, z_t_along) := hf
    unfold fn_X10_layWay_b9 at hf
    refine lv_iload_n hx hb dX10_layWay_9 rfl (lv_at hl 3 rfl) ?_
    refine lv_aload_n hx hb dX10_layWay_10 rfl (lv_at hl 0 rfl) ?_
    refine g_get hC hw fkX10_19 0 rfl rfl dX10_layWay_11 ?_
    refine lv_iload_n hx hb dX10_layWay_14 rfl (lv_at hl 1 rfl) ?_
    obtain ⟨hi, hf⟩ := ck_s hf
    refine g_iald hC hw 4 rfl hi dX10_layWay_15 ?_
    refine lv_icmp_eq (tgt := 54) hx hb dX10_layWay_16 (by decide) (fun hc => ?_) (fun hc => ?_)
    · replace hf := it_t hc hf
      exact hk x2 c_t_along _ _ _ hf (lv_sub hl [2] rfl) hw
    · replace hf := it_f hc hf
      refine lv_aload_n hx hb dX10_layWay_19 rfl (lv_at hl 0 rfl) ?_
      refine lv_iload_n hx hb dX10_layWay_20 rfl (lv_at hl 3 rfl) ?_
      refine lv_aload_n hx hb dX10_layWay_21 rfl (lv_at hl 0 rfl) ?_
      refine g_get hC hw fkX10_19 0 rfl rfl dX10_layWay_22 ?_
      refine lv_iload_n hx hb dX10_layWay_25 rfl (lv_at hl 1 rfl) ?_
      obtain ⟨hi, hf⟩ := ck_s hf
      refine g_iald hC hw 4 rfl hi dX10_layWay_26 ?_
      obtain ⟨r2, hq3, hf⟩ := b1_s hf
      refine h_cVi hC hw mvX10_222 (cn_X10_firstPlace l G A_t A_t_steps A_t_wet A_t_where A_t_home A_t_light A_t_carries A_t_sightPlace A_t_sightLight A_t_pad A_t_act A_t_whose A_t_whom A_t_tens A_t_had A_t_leaves A_t_apart A_t_stop A_t_restOf A_t_group A_t_along A_t_kept A_t_isKept c_t_foggy c_t_walkers c_t_sights c_t_padMany c_t_acts c_t_spent c_t_walks c_t_badAct c_t_badWhy c_t_keptAt c_t_isWriting c_t_steps c_t_wet c_t_apart x3 (c_t_home (Int32.toNatClampNeg x1)) r2 hq3) [0, 1, 2, 5] rfl (by decide) 0 rfl rfl rfl hl.1 rfl (Nat.le_of_ble_eq_true rfl) ⟨Nat.le_of_ble_eq_true rfl, Nat.le_of_ble_eq_true rfl⟩ ⟨Nat.le_refl _, Nat.le_refl _⟩ dX10_layWay_27 (fun H locs hw => ?_)
      refine lv_istore (lv' := [(4, .int r2), (0, .ref A_t), (1, .int x1), (2, .int x2), (3, .int x3)]) hx hb dX10_layWay_30 hl (by decide) rfl (fun ls hl => ?_)
      refine lv_aload_n hx hb dX10_layWay_32 rfl (lv_at hl 1 rfl) ?_
      refine g_get hC hw fkX10_67 0 rfl rfl dX10_layWay_33 ?_
      refine lv_iload_n hx hb dX10_layWay_36 rfl (lv_at hl 3 rfl) ?_
      refine lv_aload_n hx hb dX10_layWay_37 rfl (lv_at hl 1 rfl) ?_
      refine lv_iload_n hx hb dX10_layWay_38 rfl (lv_at hl 4 rfl) ?_
      refine lv_iload hx hb dX10_layWay_39 (lv_at hl 0 rfl) ?_
      obtain ⟨r4, hq5, hf⟩ := b1_s hf
      refine h_cVi hC hw mvX10_163 (cn_X10_cost l G A_t A_t_steps A_t_wet A_t_where A_t_home A_t_light A_t_carries A_t_sightPlace A_t_sightLight A_t_pad A_t_act A_t_whose A_t_whom A_t_tens A_t_had A_t_leaves A_t_apart A_t_stop A_t_restOf A_t_group A_t_along A_t_kept A_t_isKept c_t_foggy c_t_walkers c_t_sights c_t_padMany c_t_acts c_t_spent c_t_walks c_t_badAct c_t_badWhy c_t_keptAt c_t_isWriting c_t_steps c_t_wet x3 r2 r4 hq5) [0, 1, 2] rfl (by decide) 0 rfl rfl rfl hl.1 rfl (Nat.le_of_ble_eq_true rfl) ⟨Nat.le_of_ble_eq_true rfl, Nat.le_of_ble_eq_true rfl⟩ ⟨Nat.le_refl _, Nat.le_refl _⟩ dX10_layWay_41 (fun H locs hw => ?_)
      obtain ⟨hi, hf⟩ := ck_s hf
      obtain ⟨f6, ef6, hf⟩ := lx_s hf
      refine g_iast hC hw 6 rfl hi ef6 dX10_layWay_44 (fun H locs hw => ?_)
      have hw : wd_ G A s.heap (wl_X10_layWay G A_t A_t_steps A_t_wet A_t_where A_t_home A_t_light A_t_carries A_t_sightPlace A_t_sightLight A_t_pad A_t_act A_t_whose A_t_whom A_t_tens A_t_had A_t_leaves A_t_apart A_t_stop A_t_restOf A_t_group A_t_along A_t_kept A_t_isKept c_t_foggy c_t_walkers c_t_sights c_t_padMany c_t_acts c_t_spent c_t_walks c_t_badAct c_t_badWhy c_t_keptAt c_t_isWriting c_t_steps c_t_wet c_t_where c_t_home c_t_apart f6) H locs := hw
      refine lv_iinc (v := x2 + 1) (lv' := [(2, .int (x2 + 1)), (4, .int r2), (0, .ref A_t), (1, .int x1), (3, .int x3)]) hx hb dX10_layWay_45 hl (k := 3) rfl rfl (by decide) rfl (fun ls hl => ?_)
      refine lv_iload hx hb dX10_layWay_48 (lv_at hl 1 rfl) ?_
      refine lv_istore_n (lv' := [(3, .int r2), (2, .int (x2 + 1)), (4, .int r2), (0, .ref A_t), (1, .int x1)]) hx hb dX10_layWay_50 rfl hl (by decide) rfl (fun ls hl => ?_)
      refine lv_goto (tgt := 9) hx hb dX10_layWay_51 (by decide) ?_
      exact hrc (x2 + 1) r2 f6 _ _ _ hf (lv_sub hl [3, 4, 1, 0] rfl) hw
set_option maxHeartbeats 4000000 in
set_option maxRecDepth 100000 in
theorem wn_X10_layWay {p : Program} {l : Launch} {e : Env} {s : State} {m : MethodId} {args : Array Value} {below : List Frame} {meth : Method} {c : Code} {G : gw_} {A : Nat → Prop} {Q : State → Prop} {A_t : Nat} {A_t_steps : Nat} {A_t_wet : Nat} {A_t_where : Nat} {A_t_home : Nat} {A_t_light : Nat} {A_t_carries : Nat} {A_t_sightPlace : Nat} {A_t_sightLight : Nat} {A_t_pad : Nat} {A_t_act : Nat} {A_t_whose : Nat} {A_t_whom : Nat} {A_t_tens : Nat} {A_t_had : Nat} {A_t_leaves : Nat} {A_t_apart : Nat} {A_t_stop : Nat} {A_t_restOf : Nat} {A_t_group : Nat} {A_t_along : Nat} {A_t_kept : Nat} {A_t_isKept : Nat} {c_t_foggy : Int32} {c_t_walkers : Int32} {c_t_sights : Int32} {c_t_padMany : Int32} {c_t_acts : Int32} {c_t_spent : Int32} {c_t_walks : Int32} {c_t_badAct : Int32} {c_t_badWhy : Int32} {c_t_keptAt : Int32} {c_t_isWriting : Int32} {c_t_steps : Nat → Int32} {c_t_wet : Nat → Int32} {c_t_where : Nat → Int32} {c_t_home : Nat → Int32} {c_t_apart : Nat → Int32} {c_t_along : Nat → Int32} {z_t_along : Nat → Int32} {r : Int32} {x1 : Int32} (hC : cx_ p s m c G cX10_layWay 5 RX10) (hret : ∀ (pc : Nat) (H : Heap) (locs : List Loc) (ls : Array Slot), decode cX10_layWay pc = .ok (.ireturn, 1) → wd_ G A s.heap (wl_X10_layWay G A_t A_t_steps A_t_wet A_t_where A_t_home A_t_light A_t_carries A_t_sightPlace A_t_sightLight A_t_pad A_t_act A_t_whose A_t_whom A_t_tens A_t_had A_t_leaves A_t_apart A_t_stop A_t_restOf A_t_group A_t_along A_t_kept A_t_isKept c_t_foggy c_t_walkers c_t_sights c_t_padMany c_t_acts c_t_spent c_t_walks c_t_badAct c_t_badWhy c_t_keptAt c_t_isWriting c_t_steps c_t_wet c_t_where c_t_home c_t_apart z_t_along) H locs → W p l e { frames := 4, cells := 0, slots := 0, locals := 91 } s m args below meth c H locs 0 0 Q (F0 m pc ls [.int r])) (hf : fn_X10_layWay c_t_foggy c_t_steps c_t_wet c_t_where c_t_home c_t_apart c_t_along x1 = some (r, z_t_along)) {H : Heap} {locs : List Loc} {ls : Array Slot} (hl : lv_has ls 5 [(0, .ref A_t), (1, .int x1)]) (hw : wd_ G A s.heap (wl_X10_layWay G A_t A_t_steps A_t_wet A_t_where A_t_home A_t_light A_t_carries A_t_sightPlace A_t_sightLight A_t_pad A_t_act A_t_whose A_t_whom A_t_tens A_t_had A_t_leaves A_t_apart A_t_stop A_t_restOf A_t_group A_t_along A_t_kept A_t_isKept c_t_foggy c_t_walkers c_t_sights c_t_padMany c_t_acts c_t_spent c_t_walks c_t_badAct c_t_badWhy c_t_keptAt c_t_isWriting c_t_steps c_t_wet c_t_where c_t_home c_t_apart c_t_along) H locs) : W p l e { frames := 4, cells := 0, slots := 0, locals := 91 } s m args below meth c H locs 0 0 Q (F0 m 0 ls []) := by
  have hx := hC.1
  have hb := hC.2.1
  unfold fn_X10_layWay at hf
  refine lv_iconst (v := 0) hx hb dX10_layWay_0 (by decide) ?_
  refine lv_istore_n (lv' := [(2, .int 0), (0, .ref A_t), (1, .int x1)]) hx hb dX10_layWay_1 rfl hl (by decide) rfl (fun ls hl => ?_)
  refine lv_aload_n hx hb dX10_layWay_2 rfl (lv_at hl 1 rfl) ?_
  refine g_get hC hw fkX10_16 0 rfl rfl dX10_layWay_3 ?_
  refine lv_iload_n hx hb dX10_layWay_6 rfl (lv_at hl 2 rfl) ?_
  obtain ⟨hi, hf⟩ := ck_s hf
  refine g_iald hC hw 3 rfl hi dX10_layWay_7 ?_
  obtain ⟨y1, ey1, hf⟩ := lx_s hf
  rw [← ey1]
  refine lv_istore_n (lv' := [(3, .int y1), (2, .int 0), (0, .ref A_t), (1, .int x1)]) hx hb dX10_layWay_8 rfl hl (by decide) rfl (fun ls hl => ?_)
  refine wn_X10_layWay_l9 hC hret (fun v7 v8 H locs ls hf hl hw => ?_) fu_ 0 y1 c_t_along _ _ _ hf (lv_sub hl [2, 3, 1, 0] rfl) hw
  refine lv_iload_n hx hb dX10_layWay_54 rfl (lv_at hl 0 rfl) ?_
  obtain ⟨h1_, h2_⟩ := t2_ hf
  subst h1_
  subst h2_
  exact hret _ _ _ _ dX10_layWay_55 hw
set_option maxHeartbeats 4000000 in
set_option maxRecDepth 100000 in
theorem cn_X10_layWay (l : Launch) (G : gw_) (A_t : Nat) (A_t_steps : Nat) (A_t_wet : Nat) (A_t_where : Nat) (A_t_home : Nat) (A_t_light : Nat) (A_t_carries : Nat) (A_t_sightPlace : Nat) (A_t_sightLight : Nat) (A_t_pad : Nat) (A_t_act : Nat) (A_t_whose : Nat) (A_t_whom : Nat) (A_t_tens : Nat) (A_t_had : Nat) (A_t_leaves : Nat) (A_t_apart : Nat) (A_t_stop : Nat) (A_t_restOf : Nat) (A_t_group : Nat) (A_t_along : Nat) (A_t_kept : Nat) (A_t_isKept : Nat) (c_t_foggy : Int32) (c_t_walkers : Int32) (c_t_sights : Int32) (c_t_padMany : Int32) (c_t_acts : Int32) (c_t_spent : Int32) (c_t_walks : Int32) (c_t_badAct : Int32) (c_t_badWhy : Int32) (c_t_keptAt : Int32) (c_t_isWriting : Int32) (c_t_steps : Nat → Int32) (c_t_wet : Nat → Int32) (c_t_where : Nat → Int32) (c_t_home : Nat → Int32) (c_t_apart : Nat → Int32) (c_t_along : Nat → Int32) (x1 : Int32) (r : Int32) (z_t_along : Nat → Int32) (hf : fn_X10_layWay c_t_foggy c_t_steps c_t_wet c_t_where c_t_home c_t_apart c_t_along x1 = some (r, z_t_along)) : ci_ l G yX10_layWay cX10_layWay 5 (some .int) 4 91 (wl_X10_layWay G A_t A_t_steps A_t_wet A_t_where A_t_home A_t_light A_t_carries A_t_sightPlace A_t_sightLight A_t_pad A_t_act A_t_whose A_t_whom A_t_tens A_t_had A_t_leaves A_t_apart A_t_stop A_t_restOf A_t_group A_t_along A_t_kept A_t_isKept c_t_foggy c_t_walkers c_t_sights c_t_padMany c_t_acts c_t_spent c_t_walks c_t_badAct c_t_badWhy c_t_keptAt c_t_isWriting c_t_steps c_t_wet c_t_where c_t_home c_t_apart c_t_along) [.ref A_t, .int x1] r (wl_X10_layWay G A_t A_t_steps A_t_wet A_t_where A_t_home A_t_light A_t_carries A_t_sightPlace A_t_sightLight A_t_pad A_t_act A_t_whose A_t_whom A_t_tens A_t_had A_t_leaves A_t_apart A_t_stop A_t_restOf A_t_group A_t_along A_t_kept A_t_isKept c_t_foggy c_t_walkers c_t_sights c_t_padMany c_t_acts c_t_spent c_t_walks c_t_badAct c_t_badWhy c_t_keptAt c_t_isWriting c_t_steps c_t_wet c_t_where c_t_home c_t_apart z_t_along) := fun sz => met_intro (by decide) (Nat.le_of_ble_eq_true rfl) (fun p e s m args below meth c ls hsz hC hr hlk hnm hl hw => wn_X10_layWay hC (fun pc H locs ls hd hw => g_iret hC hr hlk hw rfl rfl hd) hf hl hw)

theorem dX10_chance_0 : decode cX10_chance 0 = .ok (.aload_n 0, 1) := by decide +kernel
theorem dX10_chance_1 : decode cX10_chance 1 = .ok (.iload_n 1, 1) := by decide +kernel
theorem dX10_chance_2 : decode cX10_chance 2 = .ok (.invokevirtual 106, 3) := by decide +kernel
theorem dX10_chance_5 : decode cX10_chance 5 = .ok (.ifCond .ne 7, 3) := by decide +kernel
theorem dX10_chance_8 : decode cX10_chance 8 = .ok (.ldc2_w 265, 3) := by decide +kernel
theorem dX10_chance_11 : decode cX10_chance 11 = .ok (.lreturn, 1) := by decide +kernel
theorem dX10_chance_12 : decode cX10_chance 12 = .ok (.iload_n 2, 1) := by decide +kernel
theorem dX10_chance_13 : decode cX10_chance 13 = .ok (.i2l, 1) := by decide +kernel
theorem dX10_chance_14 : decode cX10_chance 14 = .ok (.lconst 0, 1) := by decide +kernel
theorem dX10_chance_15 : decode cX10_chance 15 = .ok (.ldc2_w 267, 3) := by decide +kernel
theorem dX10_chance_18 : decode cX10_chance 18 = .ok (.invokestatic 79, 3) := by decide +kernel
theorem dX10_chance_21 : decode cX10_chance 21 = .ok (.ifCond .eq 24, 3) := by decide +kernel
theorem dX10_chance_24 : decode cX10_chance 24 = .ok (.iload_n 3, 1) := by decide +kernel
theorem dX10_chance_25 : decode cX10_chance 25 = .ok (.i2l, 1) := by decide +kernel
theorem dX10_chance_26 : decode cX10_chance 26 = .ok (.lconst 0, 1) := by decide +kernel
theorem dX10_chance_27 : decode cX10_chance 27 = .ok (.lconst 1, 1) := by decide +kernel
theorem dX10_chance_28 : decode cX10_chance 28 = .ok (.invokestatic 79, 3) := by decide +kernel
theorem dX10_chance_31 : decode cX10_chance 31 = .ok (.ifCond .eq 14, 3) := by decide +kernel
theorem dX10_chance_34 : decode cX10_chance 34 = .ok (.iload 4, 2) := by decide +kernel
theorem dX10_chance_36 : decode cX10_chance 36 = .ok (.i2l, 1) := by decide +kernel
theorem dX10_chance_37 : decode cX10_chance 37 = .ok (.lconst 0, 1) := by decide +kernel
theorem dX10_chance_38 : decode cX10_chance 38 = .ok (.lconst 1, 1) := by decide +kernel
theorem dX10_chance_39 : decode cX10_chance 39 = .ok (.invokestatic 79, 3) := by decide +kernel
theorem dX10_chance_42 : decode cX10_chance 42 = .ok (.ifCond .ne 7, 3) := by decide +kernel
theorem dX10_chance_45 : decode cX10_chance 45 = .ok (.ldc2_w 269, 3) := by decide +kernel
theorem dX10_chance_48 : decode cX10_chance 48 = .ok (.lreturn, 1) := by decide +kernel
theorem dX10_chance_49 : decode cX10_chance 49 = .ok (.aload_n 0, 1) := by decide +kernel
theorem dX10_chance_50 : decode cX10_chance 50 = .ok (.invokevirtual 219, 3) := by decide +kernel
theorem dX10_chance_53 : decode cX10_chance 53 = .ok (.aload_n 0, 1) := by decide +kernel
theorem dX10_chance_54 : decode cX10_chance 54 = .ok (.iload_n 1, 1) := by decide +kernel
theorem dX10_chance_55 : decode cX10_chance 55 = .ok (.invokevirtual 225, 3) := by decide +kernel
theorem dX10_chance_58 : decode cX10_chance 58 = .ok (.ldc 214, 2) := by decide +kernel
theorem dX10_chance_60 : decode cX10_chance 60 = .ok (.if_icmp .ge 11, 3) := by decide +kernel
theorem dX10_chance_63 : decode cX10_chance 63 = .ok (.aload_n 0, 1) := by decide +kernel
theorem dX10_chance_64 : decode cX10_chance 64 = .ok (.getfield 93, 3) := by decide +kernel
theorem dX10_chance_67 : decode cX10_chance 67 = .ok (.iconst 1, 1) := by decide +kernel
theorem dX10_chance_68 : decode cX10_chance 68 = .ok (.if_icmp .ne 7, 3) := by decide +kernel
theorem dX10_chance_71 : decode cX10_chance 71 = .ok (.ldc2_w 271, 3) := by decide +kernel
theorem dX10_chance_74 : decode cX10_chance 74 = .ok (.lreturn, 1) := by decide +kernel
theorem dX10_chance_75 : decode cX10_chance 75 = .ok (.aload_n 0, 1) := by decide +kernel
theorem dX10_chance_76 : decode cX10_chance 76 = .ok (.iload_n 1, 1) := by decide +kernel
theorem dX10_chance_77 : decode cX10_chance 77 = .ok (.invokevirtual 273, 3) := by decide +kernel
theorem dX10_chance_80 : decode cX10_chance 80 = .ok (.istore 5, 2) := by decide +kernel
theorem dX10_chance_82 : decode cX10_chance 82 = .ok (.lconst 0, 1) := by decide +kernel
theorem dX10_chance_83 : decode cX10_chance 83 = .ok (.lstore 6, 2) := by decide +kernel
theorem dX10_chance_85 : decode cX10_chance 85 = .ok (.lconst 0, 1) := by decide +kernel
theorem dX10_chance_86 : decode cX10_chance 86 = .ok (.lstore 8, 2) := by decide +kernel
theorem dX10_chance_88 : decode cX10_chance 88 = .ok (.lconst 0, 1) := by decide +kernel
theorem dX10_chance_89 : decode cX10_chance 89 = .ok (.lstore 10, 2) := by decide +kernel
theorem dX10_chance_91 : decode cX10_chance 91 = .ok (.iconst 0, 1) := by decide +kernel
theorem dX10_chance_92 : decode cX10_chance 92 = .ok (.istore 12, 2) := by decide +kernel
theorem dX10_chance_94 : decode cX10_chance 94 = .ok (.iload 12, 2) := by decide +kernel
theorem dX10_chance_96 : decode cX10_chance 96 = .ok (.iconst 1, 1) := by decide +kernel
theorem dX10_chance_97 : decode cX10_chance 97 = .ok (.iload 5, 2) := by decide +kernel
theorem dX10_chance_99 : decode cX10_chance 99 = .ok (.ishl, 1) := by decide +kernel
theorem dX10_chance_100 : decode cX10_chance 100 = .ok (.if_icmp .ge 118, 3) := by decide +kernel
theorem dX10_chance_103 : decode cX10_chance 103 = .ok (.lconst 1, 1) := by decide +kernel
theorem dX10_chance_104 : decode cX10_chance 104 = .ok (.lstore 13, 2) := by decide +kernel
theorem dX10_chance_106 : decode cX10_chance 106 = .ok (.iconst 0, 1) := by decide +kernel
theorem dX10_chance_107 : decode cX10_chance 107 = .ok (.istore 15, 2) := by decide +kernel
theorem dX10_chance_109 : decode cX10_chance 109 = .ok (.iconst 0, 1) := by decide +kernel
theorem dX10_chance_110 : decode cX10_chance 110 = .ok (.istore 16, 2) := by decide +kernel
theorem dX10_chance_112 : decode cX10_chance 112 = .ok (.iload 16, 2) := by decide +kernel
theorem dX10_chance_114 : decode cX10_chance 114 = .ok (.iload 5, 2) := by decide +kernel
theorem dX10_chance_116 : decode cX10_chance 116 = .ok (.if_icmp .ge 56, 3) := by decide +kernel
theorem dX10_chance_119 : decode cX10_chance 119 = .ok (.iload 12, 2) := by decide +kernel
theorem dX10_chance_121 : decode cX10_chance 121 = .ok (.iload 16, 2) := by decide +kernel
theorem dX10_chance_123 : decode cX10_chance 123 = .ok (.ishr, 1) := by decide +kernel
theorem dX10_chance_124 : decode cX10_chance 124 = .ok (.iconst 1, 1) := by decide +kernel
theorem dX10_chance_125 : decode cX10_chance 125 = .ok (.iand, 1) := by decide +kernel
theorem dX10_chance_126 : decode cX10_chance 126 = .ok (.istore 17, 2) := by decide +kernel
theorem dX10_chance_128 : decode cX10_chance 128 = .ok (.iload 15, 2) := by decide +kernel
theorem dX10_chance_130 : decode cX10_chance 130 = .ok (.aload_n 0, 1) := by decide +kernel
theorem dX10_chance_131 : decode cX10_chance 131 = .ok (.getfield 67, 3) := by decide +kernel
theorem dX10_chance_134 : decode cX10_chance 134 = .ok (.iload 16, 2) := by decide +kernel
theorem dX10_chance_136 : decode cX10_chance 136 = .ok (.iaload, 1) := by decide +kernel
theorem dX10_chance_137 : decode cX10_chance 137 = .ok (.iconst 1, 1) := by decide +kernel
theorem dX10_chance_138 : decode cX10_chance 138 = .ok (.iload 17, 2) := by decide +kernel
theorem dX10_chance_140 : decode cX10_chance 140 = .ok (.iadd, 1) := by decide +kernel
theorem dX10_chance_141 : decode cX10_chance 141 = .ok (.imul, 1) := by decide +kernel
theorem dX10_chance_142 : decode cX10_chance 142 = .ok (.iadd, 1) := by decide +kernel
theorem dX10_chance_143 : decode cX10_chance 143 = .ok (.istore 15, 2) := by decide +kernel
theorem dX10_chance_145 : decode cX10_chance 145 = .ok (.lload 13, 2) := by decide +kernel
theorem dX10_chance_147 : decode cX10_chance 147 = .ok (.iload 17, 2) := by decide +kernel
theorem dX10_chance_149 : decode cX10_chance 149 = .ok (.iconst 1, 1) := by decide +kernel
theorem dX10_chance_150 : decode cX10_chance 150 = .ok (.if_icmp .ne 8, 3) := by decide +kernel
theorem dX10_chance_153 : decode cX10_chance 153 = .ok (.iload_n 2, 1) := by decide +kernel
theorem dX10_chance_154 : decode cX10_chance 154 = .ok (.i2l, 1) := by decide +kernel
theorem dX10_chance_155 : decode cX10_chance 155 = .ok (.goto 8, 3) := by decide +kernel
theorem dX10_chance_158 : decode cX10_chance 158 = .ok (.bipush 10, 2) := by decide +kernel
theorem dX10_chance_160 : decode cX10_chance 160 = .ok (.iload_n 2, 1) := by decide +kernel
theorem dX10_chance_161 : decode cX10_chance 161 = .ok (.isub, 1) := by decide +kernel
theorem dX10_chance_162 : decode cX10_chance 162 = .ok (.i2l, 1) := by decide +kernel
theorem dX10_chance_163 : decode cX10_chance 163 = .ok (.lmul, 1) := by decide +kernel
theorem dX10_chance_164 : decode cX10_chance 164 = .ok (.lstore 13, 2) := by decide +kernel
theorem dX10_chance_166 : decode cX10_chance 166 = .ok (.iinc 16 1, 3) := by decide +kernel
theorem dX10_chance_169 : decode cX10_chance 169 = .ok (.goto (-57), 3) := by decide +kernel
theorem dX10_chance_172 : decode cX10_chance 172 = .ok (.lload 8, 2) := by decide +kernel
theorem dX10_chance_174 : decode cX10_chance 174 = .ok (.lload 13, 2) := by decide +kernel
theorem dX10_chance_176 : decode cX10_chance 176 = .ok (.ladd, 1) := by decide +kernel
theorem dX10_chance_177 : decode cX10_chance 177 = .ok (.lstore 8, 2) := by decide +kernel
theorem dX10_chance_179 : decode cX10_chance 179 = .ok (.lload 6, 2) := by decide +kernel
theorem dX10_chance_181 : decode cX10_chance 181 = .ok (.iload 15, 2) := by decide +kernel
theorem dX10_chance_183 : decode cX10_chance 183 = .ok (.aload_n 0, 1) := by decide +kernel
theorem dX10_chance_184 : decode cX10_chance 184 = .ok (.getfield 22, 3) := by decide +kernel
theorem dX10_chance_187 : decode cX10_chance 187 = .ok (.iload_n 1, 1) := by decide +kernel
theorem dX10_chance_188 : decode cX10_chance 188 = .ok (.iaload, 1) := by decide +kernel
theorem dX10_chance_189 : decode cX10_chance 189 = .ok (.if_icmp .gt 8, 3) := by decide +kernel
theorem dX10_chance_192 : decode cX10_chance 192 = .ok (.lload 13, 2) := by decide +kernel
theorem dX10_chance_194 : decode cX10_chance 194 = .ok (.goto 4, 3) := by decide +kernel
theorem dX10_chance_197 : decode cX10_chance 197 = .ok (.lconst 0, 1) := by decide +kernel
theorem dX10_chance_198 : decode cX10_chance 198 = .ok (.ladd, 1) := by decide +kernel
theorem dX10_chance_199 : decode cX10_chance 199 = .ok (.lstore 6, 2) := by decide +kernel
theorem dX10_chance_201 : decode cX10_chance 201 = .ok (.lload 10, 2) := by decide +kernel
theorem dX10_chance_203 : decode cX10_chance 203 = .ok (.lload 13, 2) := by decide +kernel
theorem dX10_chance_205 : decode cX10_chance 205 = .ok (.iload 15, 2) := by decide +kernel
theorem dX10_chance_207 : decode cX10_chance 207 = .ok (.i2l, 1) := by decide +kernel
theorem dX10_chance_208 : decode cX10_chance 208 = .ok (.lmul, 1) := by decide +kernel
theorem dX10_chance_209 : decode cX10_chance 209 = .ok (.ladd, 1) := by decide +kernel
theorem dX10_chance_210 : decode cX10_chance 210 = .ok (.lstore 10, 2) := by decide +kernel
theorem dX10_chance_212 : decode cX10_chance 212 = .ok (.iinc 12 1, 3) := by decide +kernel
theorem dX10_chance_215 : decode cX10_chance 215 = .ok (.goto (-121), 3) := by decide +kernel
theorem dX10_chance_218 : decode cX10_chance 218 = .ok (.iload_n 3, 1) := by decide +kernel
theorem dX10_chance_219 : decode cX10_chance 219 = .ok (.ifCond .ne 8, 3) := by decide +kernel
theorem dX10_chance_222 : decode cX10_chance 222 = .ok (.lload 6, 2) := by decide +kernel
theorem dX10_chance_224 : decode cX10_chance 224 = .ok (.goto 5, 3) := by decide +kernel
theorem dX10_chance_227 : decode cX10_chance 227 = .ok (.lload 10, 2) := by decide +kernel
theorem dX10_chance_229 : decode cX10_chance 229 = .ok (.lload 8, 2) := by decide +kernel
theorem dX10_chance_231 : decode cX10_chance 231 = .ok (.iload 4, 2) := by decide +kernel
theorem dX10_chance_233 : decode cX10_chance 233 = .ok (.invokestatic 276, 3) := by decide +kernel
theorem dX10_chance_236 : decode cX10_chance 236 = .ok (.lreturn, 1) := by decide +kernel
abbrev wl_X10_chance (G : gw_) (A_t : Nat) (A_t_steps : Nat) (A_t_wet : Nat) (A_t_where : Nat) (A_t_home : Nat) (A_t_light : Nat) (A_t_carries : Nat) (A_t_sightPlace : Nat) (A_t_sightLight : Nat) (A_t_pad : Nat) (A_t_act : Nat) (A_t_whose : Nat) (A_t_whom : Nat) (A_t_tens : Nat) (A_t_had : Nat) (A_t_leaves : Nat) (A_t_apart : Nat) (A_t_stop : Nat) (A_t_restOf : Nat) (A_t_group : Nat) (A_t_along : Nat) (A_t_kept : Nat) (A_t_isKept : Nat) (c_t_foggy : Int32) (c_t_walkers : Int32) (c_t_sights : Int32) (c_t_padMany : Int32) (c_t_acts : Int32) (c_t_spent : Int32) (c_t_walks : Int32) (c_t_badAct : Int32) (c_t_badWhy : Int32) (c_t_keptAt : Int32) (c_t_isWriting : Int32) (c_t_steps : Nat → Int32) (c_t_wet : Nat → Int32) (c_t_where : Nat → Int32) (c_t_home : Nat → Int32) (c_t_light : Nat → Int32) (c_t_apart : Nat → Int32) (c_t_along : Nat → Int32) : va_W := [ob_ A_t 10 [.ref A_t_steps, .ref A_t_wet, .int c_t_foggy, .int c_t_walkers, .ref A_t_where, .ref A_t_home, .ref A_t_light, .ref A_t_carries, .ref A_t_sightPlace, .ref A_t_sightLight, .int c_t_sights, .ref A_t_pad, .int c_t_padMany, .ref A_t_act, .ref A_t_whose, .ref A_t_whom, .ref A_t_tens, .int c_t_acts, .int c_t_spent, .int c_t_walks, .ref A_t_had, .ref A_t_leaves, .int c_t_badAct, .int c_t_badWhy, .ref A_t_apart, .ref A_t_stop, .ref A_t_restOf, .ref A_t_group, .ref A_t_along, .ref A_t_kept, .ref A_t_isKept, .int c_t_keptAt, .int c_t_isWriting], ia_ G A_t_steps 144 c_t_steps, ia_ G A_t_wet 144 c_t_wet, ia_ G A_t_where 6 c_t_where, ia_ G A_t_home 6 c_t_home, ia_ G A_t_light 6 c_t_light, ia_ G A_t_apart 144 c_t_apart, ia_ G A_t_along 12 c_t_along]
def fn_X10_chance_b112 (c_t_along : Nat → Int32) (x2 : Int32) (x5 : Int32) (x12 : Int32) (rc : Int64 → Int32 → Int32 → Option (Int64 × (Nat → Int32) × (Nat → Int32))) (k : Int64 → Int32 → Option (Int64 × (Nat → Int32) × (Nat → Int32))) (x13 : Int64) (x15 : Int32) (x16 : Int32) : Option (Int64 × (Nat → Int32) × (Nat → Int32)) :=
  if x5 ≤ x16 then
    k x13 x15
  else
    lx_ ((x12 >>> (x16 &&& 31)) &&& 1) fun y16 =>
    ck_ x16 12 <|
    lx_ (x15 + ((c_t_along (Int32.toNatClampNeg x16)) * (1 + y16))) fun y17 =>
    if y16 = 1 then
      lx_ (x13 * (Int32.toInt64 x2)) fun y19 =>
      rc y19 y17 (x16 + 1)
    else
      lx_ (x13 * (Int32.toInt64 (10 - x2))) fun y18 =>
      rc y18 y17 (x16 + 1)
def fn_X10_chance_l112 (c_t_along : Nat → Int32) (x2 : Int32) (x5 : Int32) (x12 : Int32) (k : Int64 → Int32 → Option (Int64 × (Nat → Int32) × (Nat → Int32))) : Nat → Int64 → Int32 → Int32 → Option (Int64 × (Nat → Int32) × (Nat → Int32))
  | 0 => fun _ _ _ => none
  | n + 1 => fun x13 x15 x16 => fn_X10_chance_b112 c_t_along x2 x5 x12 (fn_X10_chance_l112 c_t_along x2 x5 x12 k n) k x13 x15 x16
def fn_X10_chance_j198 (x8 : Int64) (x10 : Int64) (x12 : Int32) (x13 : Int64) (x15 : Int32) (u0 : Int64) (u1 : Int64) (rc : Int64 → Int64 → Int64 → Int32 → Option (Int64 × (Nat → Int32) × (Nat → Int32))) (k : Int64 → Int64 → Int64 → Option (Int64 × (Nat → Int32) × (Nat → Int32))) : Option (Int64 × (Nat → Int32) × (Nat → Int32)) :=
  lx_ (x10 + (x13 * (Int32.toInt64 x15))) fun y22 =>
  rc (u0 + u1) x8 y22 (x12 + 1)
def fn_X10_chance_b94 (c_t_light : Nat → Int32) (c_t_along : Nat → Int32) (x1 : Int32) (x2 : Int32) (x5 : Int32) (rc : Int64 → Int64 → Int64 → Int32 → Option (Int64 × (Nat → Int32) × (Nat → Int32))) (k : Int64 → Int64 → Int64 → Option (Int64 × (Nat → Int32) × (Nat → Int32))) (x6 : Int64) (x8 : Int64) (x10 : Int64) (x12 : Int32) : Option (Int64 × (Nat → Int32) × (Nat → Int32)) :=
  if ((1 : Int32) <<< (x5 &&& 31)) ≤ x12 then
    k x6 x8 x10
  else
    fn_X10_chance_l112 c_t_along x2 x5 x12 (fun v20 v21 =>
      ck_ x1 6 <|
      if (c_t_light (Int32.toNatClampNeg x1)) < v21 then
        fn_X10_chance_j198 (x8 + v20) x10 x12 v20 v21 x6 0 rc k
      else
        fn_X10_chance_j198 (x8 + v20) x10 x12 v20 v21 x6 v20 rc k) fu_ 1 0 0
def fn_X10_chance_l94 (c_t_light : Nat → Int32) (c_t_along : Nat → Int32) (x1 : Int32) (x2 : Int32) (x5 : Int32) (k : Int64 → Int64 → Int64 → Option (Int64 × (Nat → Int32) × (Nat → Int32))) : Nat → Int64 → Int64 → Int64 → Int32 → Option (Int64 × (Nat → Int32) × (Nat → Int32))
  | 0 => fun _ _ _ _ => none
  | n + 1 => fun x6 x8 x10 x12 => fn_X10_chance_b94 c_t_light c_t_along x1 x2 x5 (fn_X10_chance_l94 c_t_light c_t_along x1 x2 x5 k n) k x6 x8 x10 x12
def fn_X10_chance_j229 (c_t_apart : Nat → Int32) (c_t_along : Nat → Int32) (x4 : Int32) (x8 : Int64) (u0 : Int64)  : Option (Int64 × (Nat → Int32) × (Nat → Int32)) :=
  b1_ (fn_X10_lowest u0 x8 x4) fun r26 =>
  some (r26, c_t_apart, c_t_along)
def fn_X10_chance (c_t_foggy : Int32) (c_t_walkers : Int32) (c_t_steps : Nat → Int32) (c_t_wet : Nat → Int32) (c_t_where : Nat → Int32) (c_t_home : Nat → Int32) (c_t_light : Nat → Int32) (c_t_apart : Nat → Int32) (c_t_along : Nat → Int32) (x1 : Int32) (x2 : Int32) (x3 : Int32) (x4 : Int32) : Option (Int64 × (Nat → Int32) × (Nat → Int32)) :=
  b1_ (fn_X10_isWalker c_t_walkers x1) fun r1 =>
  if r1 = 0 then
    some ((-1000000000000000001), c_t_apart, c_t_along)
  else
    b1_ (fn_X10_in (Int32.toInt64 x2) 0 10) fun r3 =>
    if r3 = 0 then
      some ((-1000000000000000002), c_t_apart, c_t_along)
    else
      b1_ (fn_X10_in (Int32.toInt64 x3) 0 1) fun r5 =>
      if r5 = 0 then
        some ((-1000000000000000002), c_t_apart, c_t_along)
      else
        b1_ (fn_X10_in (Int32.toInt64 x4) 0 1) fun r7 =>
        if r7 = 0 then
          some ((-1000000000000000002), c_t_apart, c_t_along)
        else
          b1_ (fn_X10_findWays c_t_foggy c_t_steps c_t_wet c_t_apart) fun w9 =>
          b1_ (fn_X10_homeWay c_t_where c_t_home w9 x1) fun r11 =>
          if 1000000 ≤ r11 then
            some ((-1000000000000000003), w9, c_t_along)
          else
            if c_t_foggy = 1 then
              some ((-1000000000000000003), w9, c_t_along)
            else
              b2_ (fn_X10_layWay c_t_foggy c_t_steps c_t_wet c_t_where c_t_home w9 c_t_along x1) fun r13 w14 =>
              fn_X10_chance_l94 c_t_light w14 x1 x2 r13 (fun v23 v24 v25 =>
                if x3 = 0 then
                  fn_X10_chance_j229 w9 w14 x4 v24 v23
                else
                  fn_X10_chance_j229 w9 w14 x4 v24 v25) fu_ 0 0 0 0
set_option maxHeartbeats 4000000 in
set_option maxRecDepth 100000 in
theorem wn_X10_chance_l112 {p : Program} {l : Launch} {e : Env} {s : State} {m : MethodId} {args : Array Value} {below : List Frame} {meth : Method} {c : Code} {G : gw_} {A : Nat → Prop} {Q : State → Prop} {A_t : Nat} {A_t_steps : Nat} {A_t_wet : Nat} {A_t_where : Nat} {A_t_home : Nat} {A_t_light : Nat} {A_t_carries : Nat} {A_t_sightPlace : Nat} {A_t_sightLight : Nat} {A_t_pad : Nat} {A_t_act : Nat} {A_t_whose : Nat} {A_t_whom : Nat} {A_t_tens : Nat} {A_t_had : Nat} {A_t_leaves : Nat} {A_t_apart : Nat} {A_t_stop : Nat} {A_t_restOf : Nat} {A_t_group : Nat} {A_t_along : Nat} {A_t_kept : Nat} {A_t_isKept : Nat} {c_t_foggy : Int32} {c_t_walkers : Int32} {c_t_sights : Int32} {c_t_padMany : Int32} {c_t_acts : Int32} {c_t_spent : Int32} {c_t_walks : Int32} {c_t_badAct : Int32} {c_t_badWhy : Int32} {c_t_keptAt : Int32} {c_t_isWriting : Int32} {c_t_steps : Nat → Int32} {c_t_wet : Nat → Int32} {c_t_where : Nat → Int32} {c_t_home : Nat → Int32} {c_t_light : Nat → Int32} {c_t_apart : Nat → Int32} {z_t_apart : Nat → Int32} {c_t_along : Nat → Int32} {z_t_along : Nat → Int32} {r : Int64} {x1 : Int32} {x2 : Int32} {x3 : Int32} {x4 : Int32} {x5 : Int32} {x6 : Int64} {x8 : Int64} {x10 : Int64} {x12 : Int32} {k : Int64 → Int32 → Option (Int64 × (Nat → Int32) × (Nat → Int32))} (hC : cx_ p s m c G cX10_chance 18 RX10) (hret : ∀ (pc : Nat) (H : Heap) (locs : List Loc) (ls : Array Slot), decode cX10_chance pc = .ok (.lreturn, 1) → wd_ G A s.heap (wl_X10_chance G A_t A_t_steps A_t_wet A_t_where A_t_home A_t_light A_t_carries A_t_sightPlace A_t_sightLight A_t_pad A_t_act A_t_whose A_t_whom A_t_tens A_t_had A_t_leaves A_t_apart A_t_stop A_t_restOf A_t_group A_t_along A_t_kept A_t_isKept c_t_foggy c_t_walkers c_t_sights c_t_padMany c_t_acts c_t_spent c_t_walks c_t_badAct c_t_badWhy c_t_keptAt c_t_isWriting c_t_steps c_t_wet c_t_where c_t_home c_t_light z_t_apart z_t_along) H locs → W p l e { frames := 5, cells := 0, slots := 0, locals := 115 } s m args below meth c H locs 0 0 Q (F0 m pc ls [.long r])) (hk : ∀ (x13 : Int64) (x15 : Int32) (H : Heap) (locs : List Loc) (ls : Array Slot), k x13 x15 = some (r, z_t_apart, z_t_along) → lv_has ls 18 [(0, .ref A_t), (1, .int x1), (2, .int x2), (3, .int x3), (4, .int x4), (5, .int x5), (6, .long x6), (8, .long x8), (10, .long x10), (12, .int x12), (13, .long x13), (15, .int x15)] → wd_ G A s.heap (wl_X10_chance G A_t A_t_steps A_t_wet A_t_where A_t_home A_t_light A_t_carries A_t_sightPlace A_t_sightLight A_t_pad A_t_act A_t_whose A_t_whom A_t_tens A_t_had A_t_leaves A_t_apart A_t_stop A_t_restOf A_t_group A_t_along A_t_kept A_t_isKept c_t_foggy c_t_walkers c_t_sights c_t_padMany c_t_acts c_t_spent c_t_walks c_t_badAct c_t_badWhy c_t_keptAt c_t_isWriting c_t_steps c_t_wet c_t_where c_t_home c_t_light c_t_apart c_t_along) H locs → W p l e { frames := 5, cells := 0, slots := 0, locals := 115 } s m args below meth c H locs 0 0 Q (F0 m 172 ls [])) : ∀ (n : Nat) (x13 : Int64) (x15 : Int32) (x16 : Int32) (H : Heap) (locs : List Loc) (ls : Array Slot), fn_X10_chance_l112 c_t_along x2 x5 x12 k n x13 x15 x16 = some (r, z_t_apart, z_t_along) → lv_has ls 18 [(0, .ref A_t), (1, .int x1), (2, .int x2), (3, .int x3), (4, .int x4), (5, .int x5), (6, .long x6), (8, .long x8), (10, .long x10), (12, .int x12), (13, .long x13), (15, .int x15), (16, .int x16)] → wd_ G A s.heap (wl_X10_chance G A_t A_t_steps A_t_wet A_t_where A_t_home A_t_light A_t_carries A_t_sightPlace A_t_sightLight A_t_pad A_t_act A_t_whose A_t_whom A_t_tens A_t_had A_t_leaves A_t_apart A_t_stop A_t_restOf A_t_group A_t_along A_t_kept A_t_isKept c_t_foggy c_t_walkers c_t_sights c_t_padMany c_t_acts c_t_spent c_t_walks c_t_badAct c_t_badWhy c_t_keptAt c_t_isWriting c_t_steps c_t_wet c_t_where c_t_home c_t_light c_t_apart c_t_along) H locs → W p l e { frames := 5, cells := 0, slots := 0, locals := 115 } s m args below meth c H locs 0 0 Q (F0 m 112 ls []) := by
  have hx := hC.1
  have hb := hC.2.1
  intro n
  induction n with
  | zero =>
    intro x13 x15 x16 H locs ls hf
    cases (show (none : Option (Int64 × (Nat → Int32) × (Nat → Int32))) = some _ from hf)
  | succ n hrc =>
    intro x13 x15 x16 H locs ls hf hl hw
    replace hf : fn_X10_chance_b112 c_t_along x2 x5 x12 (fn_X10_chance_l112 c_t_along x2 x5 x12 k n) k x13 x15 x16 = some (r, z_t_apart, z_t_along) := hf
    unfold fn_X10_chance_b112 at hf
    refine lv_iload hx hb dX10_chance_112 (lv_at hl 12 rfl) ?_
    refine lv_iload hx hb dX10_chance_114 (lv_at hl 5 rfl) ?_
    refine lv_icmp_ge (tgt := 172) hx hb dX10_chance_116 (by decide) (fun hc => ?_) (fun hc => ?_)
    · replace hf := it_t hc hf
      exact hk x13 x15 _ _ _ hf (lv_sub hl [0, 1, 2, 3, 4, 5, 6, 7, 8, 9, 10, 11] rfl) hw
    · replace hf := it_f hc hf
      refine lv_iload hx hb dX10_chance_119 (lv_at hl 9 rfl) ?_
      refine lv_iload hx hb dX10_chance_121 (lv_at hl 12 rfl) ?_
      refine lv_ishr hx hb dX10_chance_123 ?_
      refine lv_iconst (v := 1) hx hb dX10_chance_124 (by decide) ?_
      refine lv_iand hx hb dX10_chance_125 ?_
      obtain ⟨y16, ey16, hf⟩ := lx_s hf
      rw [← ey16]
      refine lv_istore (lv' := [(17, .int y16), (0, .ref A_t), (1, .int x1), (2, .int x2), (3, .int x3), (4, .int x4), (5, .int x5), (6, .long x6), (8, .long x8), (10, .long x10), (12, .int x12), (13, .long x13), (15, .int x15), (16, .int x16)]) hx hb dX10_chance_126 hl (by decide) rfl (fun ls hl => ?_)
      refine lv_iload hx hb dX10_chance_128 (lv_at hl 12 rfl) ?_
      refine lv_aload_n hx hb dX10_chance_130 rfl (lv_at hl 1 rfl) ?_
      refine g_get hC hw fkX10_67 0 rfl rfl dX10_chance_131 ?_
      refine lv_iload hx hb dX10_chance_134 (lv_at hl 13 rfl) ?_
      obtain ⟨hi, hf⟩ := ck_s hf
      refine g_iald hC hw 7 rfl hi dX10_chance_136 ?_
      refine lv_iconst (v := 1) hx hb dX10_chance_137 (by decide) ?_
      refine lv_iload hx hb dX10_chance_138 (lv_at hl 0 rfl) ?_
      refine lv_iadd hx hb dX10_chance_140 ?_
      refine lv_imul hx hb dX10_chance_141 ?_
      refine lv_iadd hx hb dX10_chance_142 ?_
      obtain ⟨y17, ey17, hf⟩ := lx_s hf
      rw [← ey17]
      refine lv_istore (lv' := [(15, .int y17), (17, .int y16), (0, .ref A_t), (1, .int x1), (2, .int x2), (3, .int x3), (4, .int x4), (5, .int x5), (6, .long x6), (8, .long x8), (10, .long x10), (12, .int x12), (13, .long x13), (16, .int x16)]) hx hb dX10_chance_143 hl (by decide) rfl (fun ls hl => ?_)
      refine lv_lload hx hb dX10_chance_145 (lv_at hl 12 rfl) ?_
      refine lv_iload hx hb dX10_chance_147 (lv_at hl 1 rfl) ?_
      refine lv_iconst (v := 1) hx hb dX10_chance_149 (by decide) ?_
      refine lv_icmp_ne (tgt := 158) hx hb dX10_chance_150 (by decide) (fun hc => ?_) (fun hc => ?_)
      · replace hf := it_f hc hf
        refine lv_bipush (v := 10) hx hb dX10_chance_158 (by decide) ?_
        refine lv_iload_n hx hb dX10_chance_160 rfl (lv_at hl 4 rfl) ?_
        refine lv_isub hx hb dX10_chance_161 ?_
        refine lv_i2l hx hb dX10_chance_162 rfl ?_
        refine lv_lmul hx hb dX10_chance_163 ?_
        obtain ⟨y18, ey18, hf⟩ := lx_s hf
        rw [← ey18]
        refine lv_lstore (lv' := [(13, .long y18), (15, .int y17), (17, .int y16), (0, .ref A_t), (1, .int x1), (2, .int x2), (3, .int x3), (4, .int x4), (5, .int x5), (6, .long x6), (8, .long x8), (10, .long x10), (12, .int x12), (16, .int x16)]) hx hb dX10_chance_164 hl (by decide) rfl (fun ls hl => ?_)
        refine lv_iinc (v := x16 + 1) (lv' := [(16, .int (x16 + 1)), (13, .long y18), (15, .int y17), (17, .int y16), (0, .ref A_t), (1, .int x1), (2, .int x2), (3, .int x3), (4, .int x4), (5, .int x5), (6, .long x6), (8, .long x8), (10, .long x10), (12, .int x12)]) hx hb dX10_chance_166 hl (k := 13) rfl rfl (by decide) rfl (fun ls hl => ?_)
        refine lv_goto (tgt := 112) hx hb dX10_chance_169 (by decide) ?_
        exact hrc y18 y17 (x16 + 1) _ _ _ hf (lv_sub hl [4, 5, 6, 7, 8, 9, 10, 11, 12, 13, 1, 2, 0] rfl) hw
      · replace hf := it_t hc hf
        refine lv_iload_n hx hb dX10_chance_153 rfl (lv_at hl 4 rfl) ?_
        refine lv_i2l hx hb dX10_chance_154 rfl ?_
        refine lv_goto (tgt := 163) hx hb dX10_chance_155 (by decide) ?_
        refine lv_lmul hx hb dX10_chance_163 ?_
        obtain ⟨y19, ey19, hf⟩ := lx_s hf
        rw [← ey19]
        refine lv_lstore (lv' := [(13, .long y19), (15, .int y17), (17, .int y16), (0, .ref A_t), (1, .int x1), (2, .int x2), (3, .int x3), (4, .int x4), (5, .int x5), (6, .long x6), (8, .long x8), (10, .long x10), (12, .int x12), (16, .int x16)]) hx hb dX10_chance_164 hl (by decide) rfl (fun ls hl => ?_)
        refine lv_iinc (v := x16 + 1) (lv' := [(16, .int (x16 + 1)), (13, .long y19), (15, .int y17), (17, .int y16), (0, .ref A_t), (1, .int x1), (2, .int x2), (3, .int x3), (4, .int x4), (5, .int x5), (6, .long x6), (8, .long x8), (10, .long x10), (12, .int x12)]) hx hb dX10_chance_166 hl (k := 13) rfl rfl (by decide) rfl (fun ls hl => ?_)
        refine lv_goto (tgt := 112) hx hb dX10_chance_169 (by decide) ?_
        exact hrc y19 y17 (x16 + 1) _ _ _ hf (lv_sub hl [4, 5, 6, 7, 8, 9, 10, 11, 12, 13, 1, 2, 0] rfl) hw
set_option maxHeartbeats 4000000 in
set_option maxRecDepth 100000 in
theorem wn_X10_chance_j198 {p : Program} {l : Launch} {e : Env} {s : State} {m : MethodId} {args : Array Value} {below : List Frame} {meth : Method} {c : Code} {G : gw_} {A : Nat → Prop} {Q : State → Prop} {A_t : Nat} {A_t_steps : Nat} {A_t_wet : Nat} {A_t_where : Nat} {A_t_home : Nat} {A_t_light : Nat} {A_t_carries : Nat} {A_t_sightPlace : Nat} {A_t_sightLight : Nat} {A_t_pad : Nat} {A_t_act : Nat} {A_t_whose : Nat} {A_t_whom : Nat} {A_t_tens : Nat} {A_t_had : Nat} {A_t_leaves : Nat} {A_t_apart : Nat} {A_t_stop : Nat} {A_t_restOf : Nat} {A_t_group : Nat} {A_t_along : Nat} {A_t_kept : Nat} {A_t_isKept : Nat} {c_t_foggy : Int32} {c_t_walkers : Int32} {c_t_sights : Int32} {c_t_padMany : Int32} {c_t_acts : Int32} {c_t_spent : Int32} {c_t_walks : Int32} {c_t_badAct : Int32} {c_t_badWhy : Int32} {c_t_keptAt : Int32} {c_t_isWriting : Int32} {c_t_steps : Nat → Int32} {c_t_wet : Nat → Int32} {c_t_where : Nat → Int32} {c_t_home : Nat → Int32} {c_t_light : Nat → Int32} {c_t_apart : Nat → Int32} {z_t_apart : Nat → Int32} {c_t_along : Nat → Int32} {z_t_along : Nat → Int32} {r : Int64} {x1 : Int32} {x2 : Int32} {x3 : Int32} {x4 : Int32} {x5 : Int32} {x8 : Int64} {x10 : Int64} {x12 : Int32} {x13 : Int64} {x15 : Int32} {u0 : Int64} {u1 : Int64} {rc : Int64 → Int64 → Int64 → Int32 → Option (Int64 × (Nat → Int32) × (Nat → Int32))} {k : Int64 → Int64 → Int64 → Option (Int64 × (Nat → Int32) × (Nat → Int32))} (hC : cx_ p s m c G cX10_chance 18 RX10) (hret : ∀ (pc : Nat) (H : Heap) (locs : List Loc) (ls : Array Slot), decode cX10_chance pc = .ok (.lreturn, 1) → wd_ G A s.heap (wl_X10_chance G A_t A_t_steps A_t_wet A_t_where A_t_home A_t_light A_t_carries A_t_sightPlace A_t_sightLight A_t_pad A_t_act A_t_whose A_t_whom A_t_tens A_t_had A_t_leaves A_t_apart A_t_stop A_t_restOf A_t_group A_t_along A_t_kept A_t_isKept c_t_foggy c_t_walkers c_t_sights c_t_padMany c_t_acts c_t_spent c_t_walks c_t_badAct c_t_badWhy c_t_keptAt c_t_isWriting c_t_steps c_t_wet c_t_where c_t_home c_t_light z_t_apart z_t_along) H locs → W p l e { frames := 5, cells := 0, slots := 0, locals := 115 } s m args below meth c H locs 0 0 Q (F0 m pc ls [.long r])) (hrc : ∀ (x6 : Int64) (x8 : Int64) (x10 : Int64) (x12 : Int32) (H : Heap) (locs : List Loc) (ls : Array Slot), rc x6 x8 x10 x12 = some (r, z_t_apart, z_t_along) → lv_has ls 18 [(0, .ref A_t), (1, .int x1), (2, .int x2), (3, .int x3), (4, .int x4), (5, .int x5), (6, .long x6), (8, .long x8), (10, .long x10), (12, .int x12)] → wd_ G A s.heap (wl_X10_chance G A_t A_t_steps A_t_wet A_t_where A_t_home A_t_light A_t_carries A_t_sightPlace A_t_sightLight A_t_pad A_t_act A_t_whose A_t_whom A_t_tens A_t_had A_t_leaves A_t_apart A_t_stop A_t_restOf A_t_group A_t_along A_t_kept A_t_isKept c_t_foggy c_t_walkers c_t_sights c_t_padMany c_t_acts c_t_spent c_t_walks c_t_badAct c_t_badWhy c_t_keptAt c_t_isWriting c_t_steps c_t_wet c_t_where c_t_home c_t_light c_t_apart c_t_along) H locs → W p l e { frames := 5, cells := 0, slots := 0, locals := 115 } s m args below meth c H locs 0 0 Q (F0 m 94 ls [])) (hk : ∀ (x6 : Int64) (x8 : Int64) (x10 : Int64) (H : Heap) (locs : List Loc) (ls : Array Slot), k x6 x8 x10 = some (r, z_t_apart, z_t_along) → lv_has ls 18 [(3, .int x3), (4, .int x4), (6, .long x6), (8, .long x8), (10, .long x10)] → wd_ G A s.heap (wl_X10_chance G A_t A_t_steps A_t_wet A_t_where A_t_home A_t_light A_t_carries A_t_sightPlace A_t_sightLight A_t_pad A_t_act A_t_whose A_t_whom A_t_tens A_t_had A_t_leaves A_t_apart A_t_stop A_t_restOf A_t_group A_t_along A_t_kept A_t_isKept c_t_foggy c_t_walkers c_t_sights c_t_padMany c_t_acts c_t_spent c_t_walks c_t_badAct c_t_badWhy c_t_keptAt c_t_isWriting c_t_steps c_t_wet c_t_where c_t_home c_t_light c_t_apart c_t_along) H locs → W p l e { frames := 5, cells := 0, slots := 0, locals := 115 } s m args below meth c H locs 0 0 Q (F0 m 218 ls [])) (hf : fn_X10_chance_j198 x8 x10 x12 x13 x15 u0 u1 rc k = some (r, z_t_apart, z_t_along)) {H : Heap} {locs : List Loc} {ls : Array Slot} (hl : lv_has ls 18 [(0, .ref A_t), (1, .int x1), (2, .int x2), (3, .int x3), (4, .int x4), (5, .int x5), (8, .long x8), (10, .long x10), (12, .int x12), (13, .long x13), (15, .int x15)]) (hw : wd_ G A s.heap (wl_X10_chance G A_t A_t_steps A_t_wet A_t_where A_t_home A_t_light A_t_carries A_t_sightPlace A_t_sightLight A_t_pad A_t_act A_t_whose A_t_whom A_t_tens A_t_had A_t_leaves A_t_apart A_t_stop A_t_restOf A_t_group A_t_along A_t_kept A_t_isKept c_t_foggy c_t_walkers c_t_sights c_t_padMany c_t_acts c_t_spent c_t_walks c_t_badAct c_t_badWhy c_t_keptAt c_t_isWriting c_t_steps c_t_wet c_t_where c_t_home c_t_light c_t_apart c_t_along) H locs) : W p l e { frames := 5, cells := 0, slots := 0, locals := 115 } s m args below meth c H locs 0 0 Q (F0 m 198 ls [.long u1, .long u0]) := by
  have hx := hC.1
  have hb := hC.2.1
  unfold fn_X10_chance_j198 at hf
  refine lv_ladd hx hb dX10_chance_198 ?_
  refine lv_lstore (lv' := [(6, .long (u0 + u1)), (0, .ref A_t), (1, .int x1), (2, .int x2), (3, .int x3), (4, .int x4), (5, .int x5), (8, .long x8), (10, .long x10), (12, .int x12), (13, .long x13), (15, .int x15)]) hx hb dX10_chance_199 hl (by decide) rfl (fun ls hl => ?_)
  refine lv_lload hx hb dX10_chance_201 (lv_at hl 8 rfl) ?_
  refine lv_lload hx hb dX10_chance_203 (lv_at hl 10 rfl) ?_
  refine lv_iload hx hb dX10_chance_205 (lv_at hl 11 rfl) ?_
  refine lv_i2l hx hb dX10_chance_207 rfl ?_
  refine lv_lmul hx hb dX10_chance_208 ?_
  refine lv_ladd hx hb dX10_chance_209 ?_
  obtain ⟨y22, ey22, hf⟩ := lx_s hf
  rw [← ey22]
  refine lv_lstore (lv' := [(10, .long y22), (6, .long (u0 + u1)), (0, .ref A_t), (1, .int x1), (2, .int x2), (3, .int x3), (4, .int x4), (5, .int x5), (8, .long x8), (12, .int x12), (13, .long x13), (15, .int x15)]) hx hb dX10_chance_210 hl (by decide) rfl (fun ls hl => ?_)
  refine lv_iinc (v := x12 + 1) (lv' := [(12, .int (x12 + 1)), (10, .long y22), (6, .long (u0 + u1)), (0, .ref A_t), (1, .int x1), (2, .int x2), (3, .int x3), (4, .int x4), (5, .int x5), (8, .long x8), (13, .long x13), (15, .int x15)]) hx hb dX10_chance_212 hl (k := 9) rfl rfl (by decide) rfl (fun ls hl => ?_)
  refine lv_goto (tgt := 94) hx hb dX10_chance_215 (by decide) ?_
  exact hrc (u0 + u1) x8 y22 (x12 + 1) _ _ _ hf (lv_sub hl [3, 4, 5, 6, 7, 8, 2, 9, 1, 0] rfl) hw
set_option maxHeartbeats 4000000 in
set_option maxRecDepth 100000 in
theorem wn_X10_chance_l94 {p : Program} {l : Launch} {e : Env} {s : State} {m : MethodId} {args : Array Value} {below : List Frame} {meth : Method} {c : Code} {G : gw_} {A : Nat → Prop} {Q : State → Prop} {A_t : Nat} {A_t_steps : Nat} {A_t_wet : Nat} {A_t_where : Nat} {A_t_home : Nat} {A_t_light : Nat} {A_t_carries : Nat} {A_t_sightPlace : Nat} {A_t_sightLight : Nat} {A_t_pad : Nat} {A_t_act : Nat} {A_t_whose : Nat} {A_t_whom : Nat} {A_t_tens : Nat} {A_t_had : Nat} {A_t_leaves : Nat} {A_t_apart : Nat} {A_t_stop : Nat} {A_t_restOf : Nat} {A_t_group : Nat} {A_t_along : Nat} {A_t_kept : Nat} {A_t_isKept : Nat} {c_t_foggy : Int32} {c_t_walkers : Int32} {c_t_sights : Int32} {c_t_padMany : Int32} {c_t_acts : Int32} {c_t_spent : Int32} {c_t_walks : Int32} {c_t_badAct : Int32} {c_t_badWhy : Int32} {c_t_keptAt : Int32} {c_t_isWriting : Int32} {c_t_steps : Nat → Int32} {c_t_wet : Nat → Int32} {c_t_where : Nat → Int32} {c_t_home : Nat → Int32} {c_t_light : Nat → Int32} {c_t_apart : Nat → Int32} {z_t_apart : Nat → Int32} {c_t_along : Nat → Int32} {z_t_along : Nat → Int32} {r : Int64} {x1 : Int32} {x2 : Int32} {x3 : Int32} {x4 : Int32} {x5 : Int32} {k : Int64 → Int64 → Int64 → Option (Int64 × (Nat → Int32) × (Nat → Int32))} (hC : cx_ p s m c G cX10_chance 18 RX10) (hret : ∀ (pc : Nat) (H : Heap) (locs : List Loc) (ls : Array Slot), decode cX10_chance pc = .ok (.lreturn, 1) → wd_ G A s.heap (wl_X10_chance G A_t A_t_steps A_t_wet A_t_where A_t_home A_t_light A_t_carries A_t_sightPlace A_t_sightLight A_t_pad A_t_act A_t_whose A_t_whom A_t_tens A_t_had A_t_leaves A_t_apart A_t_stop A_t_restOf A_t_group A_t_along A_t_kept A_t_isKept c_t_foggy c_t_walkers c_t_sights c_t_padMany c_t_acts c_t_spent c_t_walks c_t_badAct c_t_badWhy c_t_keptAt c_t_isWriting c_t_steps c_t_wet c_t_where c_t_home c_t_light z_t_apart z_t_along) H locs → W p l e { frames := 5, cells := 0, slots := 0, locals := 115 } s m args below meth c H locs 0 0 Q (F0 m pc ls [.long r])) (hk : ∀ (x6 : Int64) (x8 : Int64) (x10 : Int64) (H : Heap) (locs : List Loc) (ls : Array Slot), k x6 x8 x10 = some (r, z_t_apart, z_t_along) → lv_has ls 18 [(3, .int x3), (4, .int x4), (6, .long x6), (8, .long x8), (10, .long x10)] → wd_ G A s.heap (wl_X10_chance G A_t A_t_steps A_t_wet A_t_where A_t_home A_t_light A_t_carries A_t_sightPlace A_t_sightLight A_t_pad A_t_act A_t_whose A_t_whom A_t_tens A_t_had A_t_leaves A_t_apart A_t_stop A_t_restOf A_t_group A_t_along A_t_kept A_t_isKept c_t_foggy c_t_walkers c_t_sights c_t_padMany c_t_acts c_t_spent c_t_walks c_t_badAct c_t_badWhy c_t_keptAt c_t_isWriting c_t_steps c_t_wet c_t_where c_t_home c_t_light c_t_apart c_t_along) H locs → W p l e { frames := 5, cells := 0, slots := 0, locals := 115 } s m args below meth c H locs 0 0 Q (F0 m 218 ls [])) : ∀ (n : Nat) (x6 : Int64) (x8 : Int64) (x10 : Int64) (x12 : Int32) (H : Heap) (locs : List Loc) (ls : Array Slot), fn_X10_chance_l94 c_t_light c_t_along x1 x2 x5 k n x6 x8 x10 x12 = some (r, z_t_apart, z_t_along) → lv_has ls 18 [(0, .ref A_t), (1, .int x1), (2, .int x2), (3, .int x3), (4, .int x4), (5, .int x5), (6, .long x6), (8, .long x8), (10, .long x10), (12, .int x12)] → wd_ G A s.heap (wl_X10_chance G A_t A_t_steps A_t_wet A_t_where A_t_home A_t_light A_t_carries A_t_sightPlace A_t_sightLight A_t_pad A_t_act A_t_whose A_t_whom A_t_tens A_t_had A_t_leaves A_t_apart A_t_stop A_t_restOf A_t_group A_t_along A_t_kept A_t_isKept c_t_foggy c_t_walkers c_t_sights c_t_padMany c_t_acts c_t_spent c_t_walks c_t_badAct c_t_badWhy c_t_keptAt c_t_isWriting c_t_steps c_t_wet c_t_where c_t_home c_t_light c_t_apart c_t_along) H locs → W p l e { frames := 5, cells := 0, slots := 0, locals := 115 } s m args below meth c H locs 0 0 Q (F0 m 94 ls []) := by
  have hx := hC.1
  have hb := hC.2.1
  intro n
  induction n with
  | zero =>
    intro x6 x8 x10 x12 H locs ls hf
    cases (show (none : Option (Int64 × (Nat → Int32) × (Nat → Int32))) = some _ from hf)
  | succ n hrc =>
    intro x6 x8 x10 x12 H locs ls hf hl hw
    replace hf : fn_X10_chance_b94 c_t_light c_t_along x1 x2 x5 (fn_X10_chance_l94 c_t_light c_t_along x1 x2 x5 k n) k x6 x8 x10 x12 = some (r, z_t_apart, z_t_along) := hf
    unfold fn_X10_chance_b94 at hf
    refine lv_iload hx hb dX10_chance_94 (lv_at hl 9 rfl) ?_
    refine lv_iconst (v := 1) hx hb dX10_chance_96 (by decide) ?_
    refine lv_iload hx hb dX10_chance_97 (lv_at hl 5 rfl) ?_
    refine lv_ishl hx hb dX10_chance_99 ?_
    refine lv_icmp_ge (tgt := 218) hx hb dX10_chance_100 (by decide) (fun hc => ?_) (fun hc => ?_)
    · replace hf := it_t hc hf
      exact hk x6 x8 x10 _ _ _ hf (lv_sub hl [3, 4, 6, 7, 8] rfl) hw
    · replace hf := it_f hc hf
      refine lv_lconst (v := 1) hx hb dX10_chance_103 (by decide) ?_
      refine lv_lstore (lv' := [(13, .long 1), (0, .ref A_t), (1, .int x1), (2, .int x2), (3, .int x3), (4, .int x4), (5, .int x5), (6, .long x6), (8, .long x8), (10, .long x10), (12, .int x12)]) hx hb dX10_chance_104 hl (by decide) rfl (fun ls hl => ?_)
      refine lv_iconst (v := 0) hx hb dX10_chance_106 (by decide) ?_
      refine lv_istore (lv' := [(15, .int 0), (13, .long 1), (0, .ref A_t), (1, .int x1), (2, .int x2), (3, .int x3), (4, .int x4), (5, .int x5), (6, .long x6), (8, .long x8), (10, .long x10), (12, .int x12)]) hx hb dX10_chance_107 hl (by decide) rfl (fun ls hl => ?_)
      refine lv_iconst (v := 0) hx hb dX10_chance_109 (by decide) ?_
      refine lv_istore (lv' := [(16, .int 0), (15, .int 0), (13, .long 1), (0, .ref A_t), (1, .int x1), (2, .int x2), (3, .int x3), (4, .int x4), (5, .int x5), (6, .long x6), (8, .long x8), (10, .long x10), (12, .int x12)]) hx hb dX10_chance_110 hl (by decide) rfl (fun ls hl => ?_)
      refine wn_X10_chance_l112 hC hret (fun v20 v21 H locs ls hf hl hw => ?_) fu_ 1 0 0 _ _ _ hf (lv_sub hl [3, 4, 5, 6, 7, 8, 9, 10, 11, 12, 2, 1, 0] rfl) hw
      refine lv_lload hx hb dX10_chance_172 (lv_at hl 7 rfl) ?_
      refine lv_lload hx hb dX10_chance_174 (lv_at hl 10 rfl) ?_
      refine lv_ladd hx hb dX10_chance_176 ?_
      refine lv_lstore (lv' := [(8, .long (x8 + v20)), (0, .ref A_t), (1, .int x1), (2, .int x2), (3, .int x3), (4, .int x4), (5, .int x5), (6, .long x6), (10, .long x10), (12, .int x12), (13, .long v20), (15, .int v21)]) hx hb dX10_chance_177 hl (by decide) rfl (fun ls hl => ?_)
      refine lv_lload hx hb dX10_chance_179 (lv_at hl 7 rfl) ?_
      refine lv_iload hx hb dX10_chance_181 (lv_at hl 11 rfl) ?_
      refine lv_aload_n hx hb dX10_chance_183 rfl (lv_at hl 1 rfl) ?_
      refine g_get hC hw fkX10_22 0 rfl rfl dX10_chance_184 ?_
      refine lv_iload_n hx hb dX10_chance_187 rfl (lv_at hl 2 rfl) ?_
      obtain ⟨hi, hf⟩ := ck_s hf
      refine g_iald hC hw 5 rfl hi dX10_chance_188 ?_
      refine lv_icmp_gt (tgt := 197) hx hb dX10_chance_189 (by decide) (fun hc => ?_) (fun hc => ?_)
      · replace hf := it_t hc hf
        refine lv_lconst (v := 0) hx hb dX10_chance_197 (by decide) ?_
        exact wn_X10_chance_j198 hC hret hrc hk hf (lv_sub hl [1, 2, 3, 4, 5, 6, 0, 8, 9, 10, 11] rfl) hw
      · replace hf := it_f hc hf
        refine lv_lload hx hb dX10_chance_192 (lv_at hl 10 rfl) ?_
        refine lv_goto (tgt := 198) hx hb dX10_chance_194 (by decide) ?_
        exact wn_X10_chance_j198 hC hret hrc hk hf (lv_sub hl [1, 2, 3, 4, 5, 6, 0, 8, 9, 10, 11] rfl) hw
set_option maxHeartbeats 4000000 in
set_option maxRecDepth 100000 in
theorem wn_X10_chance_j229 {p : Program} {l : Launch} {e : Env} {s : State} {m : MethodId} {args : Array Value} {below : List Frame} {meth : Method} {c : Code} {G : gw_} {A : Nat → Prop} {Q : State → Prop} {A_t : Nat} {A_t_steps : Nat} {A_t_wet : Nat} {A_t_where : Nat} {A_t_home : Nat} {A_t_light : Nat} {A_t_carries : Nat} {A_t_sightPlace : Nat} {A_t_sightLight : Nat} {A_t_pad : Nat} {A_t_act : Nat} {A_t_whose : Nat} {A_t_whom : Nat} {A_t_tens : Nat} {A_t_had : Nat} {A_t_leaves : Nat} {A_t_apart : Nat} {A_t_stop : Nat} {A_t_restOf : Nat} {A_t_group : Nat} {A_t_along : Nat} {A_t_kept : Nat} {A_t_isKept : Nat} {c_t_foggy : Int32} {c_t_walkers : Int32} {c_t_sights : Int32} {c_t_padMany : Int32} {c_t_acts : Int32} {c_t_spent : Int32} {c_t_walks : Int32} {c_t_badAct : Int32} {c_t_badWhy : Int32} {c_t_keptAt : Int32} {c_t_isWriting : Int32} {c_t_steps : Nat → Int32} {c_t_wet : Nat → Int32} {c_t_where : Nat → Int32} {c_t_home : Nat → Int32} {c_t_light : Nat → Int32} {c_t_apart : Nat → Int32} {z_t_apart : Nat → Int32} {c_t_along : Nat → Int32} {z_t_along : Nat → Int32} {r : Int64} {x4 : Int32} {x8 : Int64} {u0 : Int64} (hC : cx_ p s m c G cX10_chance 18 RX10) (hret : ∀ (pc : Nat) (H : Heap) (locs : List Loc) (ls : Array Slot), decode cX10_chance pc = .ok (.lreturn, 1) → wd_ G A s.heap (wl_X10_chance G A_t A_t_steps A_t_wet A_t_where A_t_home A_t_light A_t_carries A_t_sightPlace A_t_sightLight A_t_pad A_t_act A_t_whose A_t_whom A_t_tens A_t_had A_t_leaves A_t_apart A_t_stop A_t_restOf A_t_group A_t_along A_t_kept A_t_isKept c_t_foggy c_t_walkers c_t_sights c_t_padMany c_t_acts c_t_spent c_t_walks c_t_badAct c_t_badWhy c_t_keptAt c_t_isWriting c_t_steps c_t_wet c_t_where c_t_home c_t_light z_t_apart z_t_along) H locs → W p l e { frames := 5, cells := 0, slots := 0, locals := 115 } s m args below meth c H locs 0 0 Q (F0 m pc ls [.long r]))  (hf : fn_X10_chance_j229 c_t_apart c_t_along x4 x8 u0 = some (r, z_t_apart, z_t_along)) {H : Heap} {locs : List Loc} {ls : Array Slot} (hl : lv_has ls 18 [(4, .int x4), (8, .long x8)]) (hw : wd_ G A s.heap (wl_X10_chance G A_t A_t_steps A_t_wet A_t_where A_t_home A_t_light A_t_carries A_t_sightPlace A_t_sightLight A_t_pad A_t_act A_t_whose A_t_whom A_t_tens A_t_had A_t_leaves A_t_apart A_t_stop A_t_restOf A_t_group A_t_along A_t_kept A_t_isKept c_t_foggy c_t_walkers c_t_sights c_t_padMany c_t_acts c_t_spent c_t_walks c_t_badAct c_t_badWhy c_t_keptAt c_t_isWriting c_t_steps c_t_wet c_t_where c_t_home c_t_light c_t_apart c_t_along) H locs) : W p l e { frames := 5, cells := 0, slots := 0, locals := 115 } s m args below meth c H locs 0 0 Q (F0 m 229 ls [.long u0]) := by
  have hx := hC.1
  have hb := hC.2.1
  unfold fn_X10_chance_j229 at hf
  refine lv_lload hx hb dX10_chance_229 (lv_at hl 1 rfl) ?_
  refine lv_iload hx hb dX10_chance_231 (lv_at hl 0 rfl) ?_
  obtain ⟨r26, hq27, hf⟩ := b1_s hf
  refine h_cSj hC hw msX10_276 (cn_X10_lowest l G u0 x8 x4 r26 hq27) [] rfl (by decide) rfl hl.1 rfl (Nat.le_of_ble_eq_true rfl) ⟨Nat.le_of_ble_eq_true rfl, Nat.le_of_ble_eq_true rfl⟩ ⟨Nat.le_refl _, Nat.le_refl _⟩ dX10_chance_233 (fun H locs hw => ?_)
  obtain ⟨h1_, h2_, h3_⟩ := t3_ hf
  subst h1_
  subst h2_
  subst h3_
  exact hret _ _ _ _ dX10_chance_236 hw
set_option maxHeartbeats 4000000 in
set_option maxRecDepth 100000 in
theorem wn_X10_chance {p : Program} {l : Launch} {e : Env} {s : State} {m : MethodId} {args : Array Value} {below : List Frame} {meth : Method} {c : Code} {G : gw_} {A : Nat → Prop} {Q : State → Prop} {A_t : Nat} {A_t_steps : Nat} {A_t_wet : Nat} {A_t_where : Nat} {A_t_home : Nat} {A_t_light : Nat} {A_t_carries : Nat} {A_t_sightPlace : Nat} {A_t_sightLight : Nat} {A_t_pad : Nat} {A_t_act : Nat} {A_t_whose : Nat} {A_t_whom : Nat} {A_t_tens : Nat} {A_t_had : Nat} {A_t_leaves : Nat} {A_t_apart : Nat} {A_t_stop : Nat} {A_t_restOf : Nat} {A_t_group : Nat} {A_t_along : Nat} {A_t_kept : Nat} {A_t_isKept : Nat} {c_t_foggy : Int32} {c_t_walkers : Int32} {c_t_sights : Int32} {c_t_padMany : Int32} {c_t_acts : Int32} {c_t_spent : Int32} {c_t_walks : Int32} {c_t_badAct : Int32} {c_t_badWhy : Int32} {c_t_keptAt : Int32} {c_t_isWriting : Int32} {c_t_steps : Nat → Int32} {c_t_wet : Nat → Int32} {c_t_where : Nat → Int32} {c_t_home : Nat → Int32} {c_t_light : Nat → Int32} {c_t_apart : Nat → Int32} {z_t_apart : Nat → Int32} {c_t_along : Nat → Int32} {z_t_along : Nat → Int32} {r : Int64} {x1 : Int32} {x2 : Int32} {x3 : Int32} {x4 : Int32} (hC : cx_ p s m c G cX10_chance 18 RX10) (hret : ∀ (pc : Nat) (H : Heap) (locs : List Loc) (ls : Array Slot), decode cX10_chance pc = .ok (.lreturn, 1) → wd_ G A s.heap (wl_X10_chance G A_t A_t_steps A_t_wet A_t_where A_t_home A_t_light A_t_carries A_t_sightPlace A_t_sightLight A_t_pad A_t_act A_t_whose A_t_whom A_t_tens A_t_had A_t_leaves A_t_apart A_t_stop A_t_restOf A_t_group A_t_along A_t_kept A_t_isKept c_t_foggy c_t_walkers c_t_sights c_t_padMany c_t_acts c_t_spent c_t_walks c_t_badAct c_t_badWhy c_t_keptAt c_t_isWriting c_t_steps c_t_wet c_t_where c_t_home c_t_light z_t_apart z_t_along) H locs → W p l e { frames := 5, cells := 0, slots := 0, locals := 115 } s m args below meth c H locs 0 0 Q (F0 m pc ls [.long r])) (hf : fn_X10_chance c_t_foggy c_t_walkers c_t_steps c_t_wet c_t_where c_t_home c_t_light c_t_apart c_t_along x1 x2 x3 x4 = some (r, z_t_apart, z_t_along)) {H : Heap} {locs : List Loc} {ls : Array Slot} (hl : lv_has ls 18 [(0, .ref A_t), (1, .int x1), (2, .int x2), (3, .int x3), (4, .int x4)]) (hw : wd_ G A s.heap (wl_X10_chance G A_t A_t_steps A_t_wet A_t_where A_t_home A_t_light A_t_carries A_t_sightPlace A_t_sightLight A_t_pad A_t_act A_t_whose A_t_whom A_t_tens A_t_had A_t_leaves A_t_apart A_t_stop A_t_restOf A_t_group A_t_along A_t_kept A_t_isKept c_t_foggy c_t_walkers c_t_sights c_t_padMany c_t_acts c_t_spent c_t_walks c_t_badAct c_t_badWhy c_t_keptAt c_t_isWriting c_t_steps c_t_wet c_t_where c_t_home c_t_light c_t_apart c_t_along) H locs) : W p l e { frames := 5, cells := 0, slots := 0, locals := 115 } s m args below meth c H locs 0 0 Q (F0 m 0 ls []) := by
  have hx := hC.1
  have hb := hC.2.1
  unfold fn_X10_chance at hf
  refine lv_aload_n hx hb dX10_chance_0 rfl (lv_at hl 0 rfl) ?_
  refine lv_iload_n hx hb dX10_chance_1 rfl (lv_at hl 1 rfl) ?_
  obtain ⟨r1, hq2, hf⟩ := b1_s hf
  refine h_cVi hC hw mvX10_106 (cn_X10_isWalker l G A_t A_t_steps A_t_wet A_t_where A_t_home A_t_light A_t_carries A_t_sightPlace A_t_sightLight A_t_pad A_t_act A_t_whose A_t_whom A_t_tens A_t_had A_t_leaves A_t_apart A_t_stop A_t_restOf A_t_group A_t_along A_t_kept A_t_isKept c_t_foggy c_t_walkers c_t_sights c_t_padMany c_t_acts c_t_spent c_t_walks c_t_badAct c_t_badWhy c_t_keptAt c_t_isWriting x1 r1 hq2) [0] rfl (by decide) 0 rfl rfl rfl hl.1 rfl (Nat.le_of_ble_eq_true rfl) ⟨Nat.le_of_ble_eq_true rfl, Nat.le_of_ble_eq_true rfl⟩ ⟨Nat.le_refl _, Nat.le_refl _⟩ dX10_chance_2 (fun H locs hw => ?_)
  refine lv_if_ne (tgt := 12) hx hb dX10_chance_5 (by decide) (fun hc => ?_) (fun hc => ?_)
  · replace hf := it_f hc hf
    refine lv_iload_n hx hb dX10_chance_12 rfl (lv_at hl 2 rfl) ?_
    refine lv_i2l hx hb dX10_chance_13 rfl ?_
    refine lv_lconst (v := 0) hx hb dX10_chance_14 (by decide) ?_
    refine g_ldc2 (v := 10) hC (tb5 129 rfl rfl) dX10_chance_15 ?_
    obtain ⟨r3, hq4, hf⟩ := b1_s hf
    refine h_cSi hC hw msX10_79 (cn_X10_in l G (Int32.toInt64 x2) 0 10 r3 hq4) [] rfl (by decide) rfl hl.1 rfl (Nat.le_of_ble_eq_true rfl) ⟨Nat.le_of_ble_eq_true rfl, Nat.le_of_ble_eq_true rfl⟩ ⟨Nat.le_refl _, Nat.le_refl _⟩ dX10_chance_18 (fun H locs hw => ?_)
    refine lv_if_eq (tgt := 45) hx hb dX10_chance_21 (by decide) (fun hc => ?_) (fun hc => ?_)
    · replace hf := it_t hc hf
      refine g_ldc2 (v := (-1000000000000000002)) hC (tb5 130 rfl rfl) dX10_chance_45 ?_
      obtain ⟨h1_, h2_, h3_⟩ := t3_ hf
      subst h1_
      subst h2_
      subst h3_
      exact hret _ _ _ _ dX10_chance_48 hw
    · replace hf := it_f hc hf
      refine lv_iload_n hx hb dX10_chance_24 rfl (lv_at hl 3 rfl) ?_
      refine lv_i2l hx hb dX10_chance_25 rfl ?_
      refine lv_lconst (v := 0) hx hb dX10_chance_26 (by decide) ?_
      refine lv_lconst (v := 1) hx hb dX10_chance_27 (by decide) ?_
      obtain ⟨r5, hq6, hf⟩ := b1_s hf
      refine h_cSi hC hw msX10_79 (cn_X10_in l G (Int32.toInt64 x3) 0 1 r5 hq6) [] rfl (by decide) rfl hl.1 rfl (Nat.le_of_ble_eq_true rfl) ⟨Nat.le_of_ble_eq_true rfl, Nat.le_of_ble_eq_true rfl⟩ ⟨Nat.le_refl _, Nat.le_refl _⟩ dX10_chance_28 (fun H locs hw => ?_)
      refine lv_if_eq (tgt := 45) hx hb dX10_chance_31 (by decide) (fun hc => ?_) (fun hc => ?_)
      · replace hf := it_t hc hf
        refine g_ldc2 (v := (-1000000000000000002)) hC (tb5 130 rfl rfl) dX10_chance_45 ?_
        obtain ⟨h1_, h2_, h3_⟩ := t3_ hf
        subst h1_
        subst h2_
        subst h3_
        exact hret _ _ _ _ dX10_chance_48 hw
      · replace hf := it_f hc hf
        refine lv_iload hx hb dX10_chance_34 (lv_at hl 4 rfl) ?_
        refine lv_i2l hx hb dX10_chance_36 rfl ?_
        refine lv_lconst (v := 0) hx hb dX10_chance_37 (by decide) ?_
        refine lv_lconst (v := 1) hx hb dX10_chance_38 (by decide) ?_
        obtain ⟨r7, hq8, hf⟩ := b1_s hf
        refine h_cSi hC hw msX10_79 (cn_X10_in l G (Int32.toInt64 x4) 0 1 r7 hq8) [] rfl (by decide) rfl hl.1 rfl (Nat.le_of_ble_eq_true rfl) ⟨Nat.le_of_ble_eq_true rfl, Nat.le_of_ble_eq_true rfl⟩ ⟨Nat.le_refl _, Nat.le_refl _⟩ dX10_chance_39 (fun H locs hw => ?_)
        refine lv_if_ne (tgt := 49) hx hb dX10_chance_42 (by decide) (fun hc => ?_) (fun hc => ?_)
        · replace hf := it_f hc hf
          refine lv_aload_n hx hb dX10_chance_49 rfl (lv_at hl 0 rfl) ?_
          obtain ⟨w9, hq10, hf⟩ := b1_s hf
          refine g_cVv hC hw mvX10_219 (cn_X10_findWays l G A_t A_t_steps A_t_wet A_t_where A_t_home A_t_light A_t_carries A_t_sightPlace A_t_sightLight A_t_pad A_t_act A_t_whose A_t_whom A_t_tens A_t_had A_t_leaves A_t_apart A_t_stop A_t_restOf A_t_group A_t_along A_t_kept A_t_isKept c_t_foggy c_t_walkers c_t_sights c_t_padMany c_t_acts c_t_spent c_t_walks c_t_badAct c_t_badWhy c_t_keptAt c_t_isWriting c_t_steps c_t_wet c_t_apart w9 hq10) [0, 1, 2, 6] rfl (by decide) rfl 0 rfl rfl rfl hl.1 rfl (Nat.le_of_ble_eq_true rfl) ⟨Nat.le_of_ble_eq_true rfl, Nat.le_of_ble_eq_true rfl⟩ ⟨Nat.le_refl _, Nat.le_refl _⟩ dX10_chance_50 (fun H locs hw => ?_)
          have hw : wd_ G A s.heap (wl_X10_chance G A_t A_t_steps A_t_wet A_t_where A_t_home A_t_light A_t_carries A_t_sightPlace A_t_sightLight A_t_pad A_t_act A_t_whose A_t_whom A_t_tens A_t_had A_t_leaves A_t_apart A_t_stop A_t_restOf A_t_group A_t_along A_t_kept A_t_isKept c_t_foggy c_t_walkers c_t_sights c_t_padMany c_t_acts c_t_spent c_t_walks c_t_badAct c_t_badWhy c_t_keptAt c_t_isWriting c_t_steps c_t_wet c_t_where c_t_home c_t_light w9 c_t_along) H locs := hw
          refine lv_aload_n hx hb dX10_chance_53 rfl (lv_at hl 0 rfl) ?_
          refine lv_iload_n hx hb dX10_chance_54 rfl (lv_at hl 1 rfl) ?_
          obtain ⟨r11, hq12, hf⟩ := b1_s hf
          refine h_cVi hC hw mvX10_225 (cn_X10_homeWay l G A_t A_t_steps A_t_wet A_t_where A_t_home A_t_light A_t_carries A_t_sightPlace A_t_sightLight A_t_pad A_t_act A_t_whose A_t_whom A_t_tens A_t_had A_t_leaves A_t_apart A_t_stop A_t_restOf A_t_group A_t_along A_t_kept A_t_isKept c_t_foggy c_t_walkers c_t_sights c_t_padMany c_t_acts c_t_spent c_t_walks c_t_badAct c_t_badWhy c_t_keptAt c_t_isWriting c_t_where c_t_home w9 x1 r11 hq12) [0, 3, 4, 6] rfl (by decide) 0 rfl rfl rfl hl.1 rfl (Nat.le_of_ble_eq_true rfl) ⟨Nat.le_of_ble_eq_true rfl, Nat.le_of_ble_eq_true rfl⟩ ⟨Nat.le_refl _, Nat.le_refl _⟩ dX10_chance_55 (fun H locs hw => ?_)
          refine g_ldc (v := 1000000) hC (tb5 17 rfl rfl) dX10_chance_58 ?_
          refine lv_icmp_ge (tgt := 71) hx hb dX10_chance_60 (by decide) (fun hc => ?_) (fun hc => ?_)
          · replace hf := it_t hc hf
            refine g_ldc2 (v := (-1000000000000000003)) hC (tb5 131 rfl rfl) dX10_chance_71 ?_
            obtain ⟨h1_, h2_, h3_⟩ := t3_ hf
            subst h1_
            subst h2_
            subst h3_
            exact hret _ _ _ _ dX10_chance_74 hw
          · replace hf := it_f hc hf
            refine lv_aload_n hx hb dX10_chance_63 rfl (lv_at hl 0 rfl) ?_
            refine g_get hC hw fkX10_93 0 rfl rfl dX10_chance_64 ?_
            refine lv_iconst (v := 1) hx hb dX10_chance_67 (by decide) ?_
            refine lv_icmp_ne (tgt := 75) hx hb dX10_chance_68 (by decide) (fun hc => ?_) (fun hc => ?_)
            · replace hf := it_f hc hf
              refine lv_aload_n hx hb dX10_chance_75 rfl (lv_at hl 0 rfl) ?_
              refine lv_iload_n hx hb dX10_chance_76 rfl (lv_at hl 1 rfl) ?_
              obtain ⟨r13, w14, hq15, hf⟩ := b2_s hf
              refine g_cVi hC hw mvX10_273 (cn_X10_layWay l G A_t A_t_steps A_t_wet A_t_where A_t_home A_t_light A_t_carries A_t_sightPlace A_t_sightLight A_t_pad A_t_act A_t_whose A_t_whom A_t_tens A_t_had A_t_leaves A_t_apart A_t_stop A_t_restOf A_t_group A_t_along A_t_kept A_t_isKept c_t_foggy c_t_walkers c_t_sights c_t_padMany c_t_acts c_t_spent c_t_walks c_t_badAct c_t_badWhy c_t_keptAt c_t_isWriting c_t_steps c_t_wet c_t_where c_t_home w9 c_t_along x1 r13 w14 hq15) [0, 1, 2, 3, 4, 6, 7] rfl (by decide) rfl 0 rfl rfl rfl hl.1 rfl (Nat.le_of_ble_eq_true rfl) ⟨Nat.le_of_ble_eq_true rfl, Nat.le_of_ble_eq_true rfl⟩ ⟨Nat.le_refl _, Nat.le_refl _⟩ dX10_chance_77 (fun H locs hw => ?_)
              have hw : wd_ G A s.heap (wl_X10_chance G A_t A_t_steps A_t_wet A_t_where A_t_home A_t_light A_t_carries A_t_sightPlace A_t_sightLight A_t_pad A_t_act A_t_whose A_t_whom A_t_tens A_t_had A_t_leaves A_t_apart A_t_stop A_t_restOf A_t_group A_t_along A_t_kept A_t_isKept c_t_foggy c_t_walkers c_t_sights c_t_padMany c_t_acts c_t_spent c_t_walks c_t_badAct c_t_badWhy c_t_keptAt c_t_isWriting c_t_steps c_t_wet c_t_where c_t_home c_t_light w9 w14) H locs := hw
              refine lv_istore (lv' := [(5, .int r13), (0, .ref A_t), (1, .int x1), (2, .int x2), (3, .int x3), (4, .int x4)]) hx hb dX10_chance_80 hl (by decide) rfl (fun ls hl => ?_)
              refine lv_lconst (v := 0) hx hb dX10_chance_82 (by decide) ?_
              refine lv_lstore (lv' := [(6, .long 0), (5, .int r13), (0, .ref A_t), (1, .int x1), (2, .int x2), (3, .int x3), (4, .int x4)]) hx hb dX10_chance_83 hl (by decide) rfl (fun ls hl => ?_)
              refine lv_lconst (v := 0) hx hb dX10_chance_85 (by decide) ?_
              refine lv_lstore (lv' := [(8, .long 0), (6, .long 0), (5, .int r13), (0, .ref A_t), (1, .int x1), (2, .int x2), (3, .int x3), (4, .int x4)]) hx hb dX10_chance_86 hl (by decide) rfl (fun ls hl => ?_)
              refine lv_lconst (v := 0) hx hb dX10_chance_88 (by decide) ?_
              refine lv_lstore (lv' := [(10, .long 0), (8, .long 0), (6, .long 0), (5, .int r13), (0, .ref A_t), (1, .int x1), (2, .int x2), (3, .int x3), (4, .int x4)]) hx hb dX10_chance_89 hl (by decide) rfl (fun ls hl => ?_)
              refine lv_iconst (v := 0) hx hb dX10_chance_91 (by decide) ?_
              refine lv_istore (lv' := [(12, .int 0), (10, .long 0), (8, .long 0), (6, .long 0), (5, .int r13), (0, .ref A_t), (1, .int x1), (2, .int x2), (3, .int x3), (4, .int x4)]) hx hb dX10_chance_92 hl (by decide) rfl (fun ls hl => ?_)
              refine wn_X10_chance_l94 hC hret (fun v23 v24 v25 H locs ls hf hl hw => ?_) fu_ 0 0 0 0 _ _ _ hf (lv_sub hl [5, 6, 7, 8, 9, 4, 3, 2, 1, 0] rfl) hw
              refine lv_iload_n hx hb dX10_chance_218 rfl (lv_at hl 0 rfl) ?_
              refine lv_if_ne (tgt := 227) hx hb dX10_chance_219 (by decide) (fun hc => ?_) (fun hc => ?_)
              · replace hf := it_f hc hf
                refine lv_lload hx hb dX10_chance_227 (lv_at hl 4 rfl) ?_
                exact wn_X10_chance_j229 hC hret hf (lv_sub hl [1, 3] rfl) hw
              · replace hf := it_t hc hf
                refine lv_lload hx hb dX10_chance_222 (lv_at hl 2 rfl) ?_
                refine lv_goto (tgt := 229) hx hb dX10_chance_224 (by decide) ?_
                exact wn_X10_chance_j229 hC hret hf (lv_sub hl [1, 3] rfl) hw
            · replace hf := it_t hc hf
              refine g_ldc2 (v := (-1000000000000000003)) hC (tb5 131 rfl rfl) dX10_chance_71 ?_
              obtain ⟨h1_, h2_, h3_⟩ := t3_ hf
              subst h1_
              subst h2_
              subst h3_
              exact hret _ _ _ _ dX10_chance_74 hw
        · replace hf := it_t hc hf
          refine g_ldc2 (v := (-1000000000000000002)) hC (tb5 130 rfl rfl) dX10_chance_45 ?_
          obtain ⟨h1_, h2_, h3_⟩ := t3_ hf
          subst h1_
          subst h2_
          subst h3_
          exact hret _ _ _ _ dX10_chance_48 hw
  · replace hf := it_t hc hf
    refine g_ldc2 (v := (-1000000000000000001)) hC (tb5 128 rfl rfl) dX10_chance_8 ?_
    obtain ⟨h1_, h2_, h3_⟩ := t3_ hf
    subst h1_
    subst h2_
    subst h3_
    exact hret _ _ _ _ dX10_chance_11 hw
set_option maxHeartbeats 4000000 in
set_option maxRecDepth 100000 in
theorem cn_X10_chance (l : Launch) (G : gw_) (A_t : Nat) (A_t_steps : Nat) (A_t_wet : Nat) (A_t_where : Nat) (A_t_home : Nat) (A_t_light : Nat) (A_t_carries : Nat) (A_t_sightPlace : Nat) (A_t_sightLight : Nat) (A_t_pad : Nat) (A_t_act : Nat) (A_t_whose : Nat) (A_t_whom : Nat) (A_t_tens : Nat) (A_t_had : Nat) (A_t_leaves : Nat) (A_t_apart : Nat) (A_t_stop : Nat) (A_t_restOf : Nat) (A_t_group : Nat) (A_t_along : Nat) (A_t_kept : Nat) (A_t_isKept : Nat) (c_t_foggy : Int32) (c_t_walkers : Int32) (c_t_sights : Int32) (c_t_padMany : Int32) (c_t_acts : Int32) (c_t_spent : Int32) (c_t_walks : Int32) (c_t_badAct : Int32) (c_t_badWhy : Int32) (c_t_keptAt : Int32) (c_t_isWriting : Int32) (c_t_steps : Nat → Int32) (c_t_wet : Nat → Int32) (c_t_where : Nat → Int32) (c_t_home : Nat → Int32) (c_t_light : Nat → Int32) (c_t_apart : Nat → Int32) (c_t_along : Nat → Int32) (x1 : Int32) (x2 : Int32) (x3 : Int32) (x4 : Int32) (r : Int64) (z_t_apart : Nat → Int32) (z_t_along : Nat → Int32) (hf : fn_X10_chance c_t_foggy c_t_walkers c_t_steps c_t_wet c_t_where c_t_home c_t_light c_t_apart c_t_along x1 x2 x3 x4 = some (r, z_t_apart, z_t_along)) : cj_ l G yX10_chance cX10_chance 18 (some .long) 5 115 (wl_X10_chance G A_t A_t_steps A_t_wet A_t_where A_t_home A_t_light A_t_carries A_t_sightPlace A_t_sightLight A_t_pad A_t_act A_t_whose A_t_whom A_t_tens A_t_had A_t_leaves A_t_apart A_t_stop A_t_restOf A_t_group A_t_along A_t_kept A_t_isKept c_t_foggy c_t_walkers c_t_sights c_t_padMany c_t_acts c_t_spent c_t_walks c_t_badAct c_t_badWhy c_t_keptAt c_t_isWriting c_t_steps c_t_wet c_t_where c_t_home c_t_light c_t_apart c_t_along) [.ref A_t, .int x1, .int x2, .int x3, .int x4] r (wl_X10_chance G A_t A_t_steps A_t_wet A_t_where A_t_home A_t_light A_t_carries A_t_sightPlace A_t_sightLight A_t_pad A_t_act A_t_whose A_t_whom A_t_tens A_t_had A_t_leaves A_t_apart A_t_stop A_t_restOf A_t_group A_t_along A_t_kept A_t_isKept c_t_foggy c_t_walkers c_t_sights c_t_padMany c_t_acts c_t_spent c_t_walks c_t_badAct c_t_badWhy c_t_keptAt c_t_isWriting c_t_steps c_t_wet c_t_where c_t_home c_t_light z_t_apart z_t_along) := fun sz => met_intro (by decide) (Nat.le_of_ble_eq_true rfl) (fun p e s m args below meth c ls hsz hC hr hlk hnm hl hw => wn_X10_chance hC (fun pc H locs ls hd hw => g_lret hC hr hlk hw hd) hf hl hw)
