theorem dX10_isDeciding_0 : decode cX10_isDeciding 0 = .ok (.aload_n 0, 1) := by decide +kernel
theorem dX10_isDeciding_1 : decode cX10_isDeciding 1 = .ok (.invokevirtual 239, 3) := by decide +kernel
theorem dX10_isDeciding_4 : decode cX10_isDeciding 4 = .ok (.iconst 0, 1) := by decide +kernel
theorem dX10_isDeciding_5 : decode cX10_isDeciding 5 = .ok (.istore_n 3, 1) := by decide +kernel
theorem dX10_isDeciding_6 : decode cX10_isDeciding 6 = .ok (.iload_n 3, 1) := by decide +kernel
theorem dX10_isDeciding_7 : decode cX10_isDeciding 7 = .ok (.sipush 144, 3) := by decide +kernel
theorem dX10_isDeciding_10 : decode cX10_isDeciding 10 = .ok (.if_icmp .ge 75, 3) := by decide +kernel
theorem dX10_isDeciding_13 : decode cX10_isDeciding 13 = .ok (.iload_n 3, 1) := by decide +kernel
theorem dX10_isDeciding_14 : decode cX10_isDeciding 14 = .ok (.bipush 12, 2) := by decide +kernel
theorem dX10_isDeciding_16 : decode cX10_isDeciding 16 = .ok (.idiv, 1) := by decide +kernel
theorem dX10_isDeciding_17 : decode cX10_isDeciding 17 = .ok (.istore 4, 2) := by decide +kernel
theorem dX10_isDeciding_19 : decode cX10_isDeciding 19 = .ok (.iload_n 3, 1) := by decide +kernel
theorem dX10_isDeciding_20 : decode cX10_isDeciding 20 = .ok (.bipush 12, 2) := by decide +kernel
theorem dX10_isDeciding_22 : decode cX10_isDeciding 22 = .ok (.irem, 1) := by decide +kernel
theorem dX10_isDeciding_23 : decode cX10_isDeciding 23 = .ok (.istore 5, 2) := by decide +kernel
theorem dX10_isDeciding_25 : decode cX10_isDeciding 25 = .ok (.iload 4, 2) := by decide +kernel
theorem dX10_isDeciding_27 : decode cX10_isDeciding 27 = .ok (.iload_n 1, 1) := by decide +kernel
theorem dX10_isDeciding_28 : decode cX10_isDeciding 28 = .ok (.if_icmp .ne 9, 3) := by decide +kernel
theorem dX10_isDeciding_31 : decode cX10_isDeciding 31 = .ok (.iload 5, 2) := by decide +kernel
theorem dX10_isDeciding_33 : decode cX10_isDeciding 33 = .ok (.iload_n 2, 1) := by decide +kernel
theorem dX10_isDeciding_34 : decode cX10_isDeciding 34 = .ok (.if_icmp .eq 15, 3) := by decide +kernel
theorem dX10_isDeciding_37 : decode cX10_isDeciding 37 = .ok (.iload 4, 2) := by decide +kernel
theorem dX10_isDeciding_39 : decode cX10_isDeciding 39 = .ok (.iload_n 2, 1) := by decide +kernel
theorem dX10_isDeciding_40 : decode cX10_isDeciding 40 = .ok (.if_icmp .ne 13, 3) := by decide +kernel
theorem dX10_isDeciding_43 : decode cX10_isDeciding 43 = .ok (.iload 5, 2) := by decide +kernel
theorem dX10_isDeciding_45 : decode cX10_isDeciding 45 = .ok (.iload_n 1, 1) := by decide +kernel
theorem dX10_isDeciding_46 : decode cX10_isDeciding 46 = .ok (.if_icmp .ne 7, 3) := by decide +kernel
theorem dX10_isDeciding_49 : decode cX10_isDeciding 49 = .ok (.iconst 1, 1) := by decide +kernel
theorem dX10_isDeciding_50 : decode cX10_isDeciding 50 = .ok (.goto 4, 3) := by decide +kernel
theorem dX10_isDeciding_53 : decode cX10_isDeciding 53 = .ok (.iconst 0, 1) := by decide +kernel
theorem dX10_isDeciding_54 : decode cX10_isDeciding 54 = .ok (.istore 6, 2) := by decide +kernel
theorem dX10_isDeciding_56 : decode cX10_isDeciding 56 = .ok (.aload_n 0, 1) := by decide +kernel
theorem dX10_isDeciding_57 : decode cX10_isDeciding 57 = .ok (.getfield 7, 3) := by decide +kernel
theorem dX10_isDeciding_60 : decode cX10_isDeciding 60 = .ok (.iload_n 3, 1) := by decide +kernel
theorem dX10_isDeciding_61 : decode cX10_isDeciding 61 = .ok (.iaload, 1) := by decide +kernel
theorem dX10_isDeciding_62 : decode cX10_isDeciding 62 = .ok (.ifCond .le 17, 3) := by decide +kernel
theorem dX10_isDeciding_65 : decode cX10_isDeciding 65 = .ok (.iload 6, 2) := by decide +kernel
theorem dX10_isDeciding_67 : decode cX10_isDeciding 67 = .ok (.ifCond .ne 12, 3) := by decide +kernel
theorem dX10_isDeciding_70 : decode cX10_isDeciding 70 = .ok (.aload_n 0, 1) := by decide +kernel
theorem dX10_isDeciding_71 : decode cX10_isDeciding 71 = .ok (.iload 4, 2) := by decide +kernel
theorem dX10_isDeciding_73 : decode cX10_isDeciding 73 = .ok (.iload 5, 2) := by decide +kernel
theorem dX10_isDeciding_75 : decode cX10_isDeciding 75 = .ok (.invokevirtual 242, 3) := by decide +kernel
theorem dX10_isDeciding_78 : decode cX10_isDeciding 78 = .ok (.pop, 1) := by decide +kernel
theorem dX10_isDeciding_79 : decode cX10_isDeciding 79 = .ok (.iinc 3 1, 3) := by decide +kernel
theorem dX10_isDeciding_82 : decode cX10_isDeciding 82 = .ok (.goto (-76), 3) := by decide +kernel
theorem dX10_isDeciding_85 : decode cX10_isDeciding 85 = .ok (.aload_n 0, 1) := by decide +kernel
theorem dX10_isDeciding_86 : decode cX10_isDeciding 86 = .ok (.getfield 7, 3) := by decide +kernel
theorem dX10_isDeciding_89 : decode cX10_isDeciding 89 = .ok (.iload_n 1, 1) := by decide +kernel
theorem dX10_isDeciding_90 : decode cX10_isDeciding 90 = .ok (.iload_n 2, 1) := by decide +kernel
theorem dX10_isDeciding_91 : decode cX10_isDeciding 91 = .ok (.invokestatic 89, 3) := by decide +kernel
theorem dX10_isDeciding_94 : decode cX10_isDeciding 94 = .ok (.iaload, 1) := by decide +kernel
theorem dX10_isDeciding_95 : decode cX10_isDeciding 95 = .ok (.ifCond .le 22, 3) := by decide +kernel
theorem dX10_isDeciding_98 : decode cX10_isDeciding 98 = .ok (.aload_n 0, 1) := by decide +kernel
theorem dX10_isDeciding_99 : decode cX10_isDeciding 99 = .ok (.getfield 64, 3) := by decide +kernel
theorem dX10_isDeciding_102 : decode cX10_isDeciding 102 = .ok (.iload_n 1, 1) := by decide +kernel
theorem dX10_isDeciding_103 : decode cX10_isDeciding 103 = .ok (.iaload, 1) := by decide +kernel
theorem dX10_isDeciding_104 : decode cX10_isDeciding 104 = .ok (.aload_n 0, 1) := by decide +kernel
theorem dX10_isDeciding_105 : decode cX10_isDeciding 105 = .ok (.getfield 64, 3) := by decide +kernel
theorem dX10_isDeciding_108 : decode cX10_isDeciding 108 = .ok (.iload_n 2, 1) := by decide +kernel
theorem dX10_isDeciding_109 : decode cX10_isDeciding 109 = .ok (.iaload, 1) := by decide +kernel
theorem dX10_isDeciding_110 : decode cX10_isDeciding 110 = .ok (.if_icmp .eq 7, 3) := by decide +kernel
theorem dX10_isDeciding_113 : decode cX10_isDeciding 113 = .ok (.iconst 1, 1) := by decide +kernel
theorem dX10_isDeciding_114 : decode cX10_isDeciding 114 = .ok (.goto 4, 3) := by decide +kernel
theorem dX10_isDeciding_117 : decode cX10_isDeciding 117 = .ok (.iconst 0, 1) := by decide +kernel
theorem dX10_isDeciding_118 : decode cX10_isDeciding 118 = .ok (.ireturn, 1) := by decide +kernel
abbrev wl_X10_isDeciding (G : gw_) (A_t : Nat) (A_t_steps : Nat) (A_t_wet : Nat) (A_t_where : Nat) (A_t_home : Nat) (A_t_light : Nat) (A_t_carries : Nat) (A_t_sightPlace : Nat) (A_t_sightLight : Nat) (A_t_pad : Nat) (A_t_act : Nat) (A_t_whose : Nat) (A_t_whom : Nat) (A_t_tens : Nat) (A_t_had : Nat) (A_t_leaves : Nat) (A_t_apart : Nat) (A_t_stop : Nat) (A_t_restOf : Nat) (A_t_group : Nat) (A_t_along : Nat) (A_t_kept : Nat) (A_t_isKept : Nat) (c_t_foggy : Int32) (c_t_walkers : Int32) (c_t_sights : Int32) (c_t_padMany : Int32) (c_t_acts : Int32) (c_t_spent : Int32) (c_t_walks : Int32) (c_t_badAct : Int32) (c_t_badWhy : Int32) (c_t_keptAt : Int32) (c_t_isWriting : Int32) (c_t_steps : Nat → Int32) (c_t_group : Nat → Int32) : va_W := [ob_ A_t 10 [.ref A_t_steps, .ref A_t_wet, .int c_t_foggy, .int c_t_walkers, .ref A_t_where, .ref A_t_home, .ref A_t_light, .ref A_t_carries, .ref A_t_sightPlace, .ref A_t_sightLight, .int c_t_sights, .ref A_t_pad, .int c_t_padMany, .ref A_t_act, .ref A_t_whose, .ref A_t_whom, .ref A_t_tens, .int c_t_acts, .int c_t_spent, .int c_t_walks, .ref A_t_had, .ref A_t_leaves, .int c_t_badAct, .int c_t_badWhy, .ref A_t_apart, .ref A_t_stop, .ref A_t_restOf, .ref A_t_group, .ref A_t_along, .ref A_t_kept, .ref A_t_isKept, .int c_t_keptAt, .int c_t_isWriting], ia_ G A_t_steps 144 c_t_steps, ia_ G A_t_group 12 c_t_group]
def fn_X10_isDeciding_j54 (c_t_steps : Nat → Int32) (c_t_group : Nat → Int32) (x3 : Int32) (x4 : Int32) (x5 : Int32) (s0 : Int32) (rc : Int32 → (Nat → Int32) → Option (Int32 × (Nat → Int32))) (k : (Nat → Int32) → Option (Int32 × (Nat → Int32))) : Option (Int32 × (Nat → Int32)) :=
  ck_ x3 144 <|
  if (c_t_steps (Int32.toNatClampNeg x3)) ≤ 0 then
    rc (x3 + 1) c_t_group
  else
    if s0 = 0 then
      b2_ (fn_X10_join c_t_group x4 x5) fun r3 w4 =>
      rc (x3 + 1) w4
    else
      rc (x3 + 1) c_t_group
def fn_X10_isDeciding_j53 (c_t_steps : Nat → Int32) (c_t_group : Nat → Int32) (x3 : Int32) (x4 : Int32) (x5 : Int32) (rc : Int32 → (Nat → Int32) → Option (Int32 × (Nat → Int32))) (k : (Nat → Int32) → Option (Int32 × (Nat → Int32))) : Option (Int32 × (Nat → Int32)) :=
  fn_X10_isDeciding_j54 c_t_steps c_t_group x3 x4 x5 0 rc k
def fn_X10_isDeciding_j49 (c_t_steps : Nat → Int32) (c_t_group : Nat → Int32) (x3 : Int32) (x4 : Int32) (x5 : Int32) (rc : Int32 → (Nat → Int32) → Option (Int32 × (Nat → Int32))) (k : (Nat → Int32) → Option (Int32 × (Nat → Int32))) : Option (Int32 × (Nat → Int32)) :=
  fn_X10_isDeciding_j54 c_t_steps c_t_group x3 x4 x5 1 rc k
def fn_X10_isDeciding_j37 (c_t_steps : Nat → Int32) (c_t_group : Nat → Int32) (x1 : Int32) (x2 : Int32) (x3 : Int32) (x4 : Int32) (x5 : Int32) (rc : Int32 → (Nat → Int32) → Option (Int32 × (Nat → Int32))) (k : (Nat → Int32) → Option (Int32 × (Nat → Int32))) : Option (Int32 × (Nat → Int32)) :=
  if x4 = x2 then
    if x5 = x1 then
      fn_X10_isDeciding_j49 c_t_steps c_t_group x3 x4 x5 rc k
    else
      fn_X10_isDeciding_j53 c_t_steps c_t_group x3 x4 x5 rc k
  else
    fn_X10_isDeciding_j53 c_t_steps c_t_group x3 x4 x5 rc k
def fn_X10_isDeciding_b6 (c_t_steps : Nat → Int32) (x1 : Int32) (x2 : Int32) (rc : Int32 → (Nat → Int32) → Option (Int32 × (Nat → Int32))) (k : (Nat → Int32) → Option (Int32 × (Nat → Int32))) (x3 : Int32) (c_t_group : Nat → Int32) : Option (Int32 × (Nat → Int32)) :=
  if 144 ≤ x3 then
    k c_t_group
  else
    if (x3 / 12) = x1 then
      if (x3 - x3 / 12 * 12) = x2 then
        fn_X10_isDeciding_j49 c_t_steps c_t_group x3 (x3 / 12) (x3 - x3 / 12 * 12) rc k
      else
        fn_X10_isDeciding_j37 c_t_steps c_t_group x1 x2 x3 (x3 / 12) (x3 - x3 / 12 * 12) rc k
    else
      fn_X10_isDeciding_j37 c_t_steps c_t_group x1 x2 x3 (x3 / 12) (x3 - x3 / 12 * 12) rc k
def fn_X10_isDeciding_l6 (c_t_steps : Nat → Int32) (x1 : Int32) (x2 : Int32) (k : (Nat → Int32) → Option (Int32 × (Nat → Int32))) : Nat → Int32 → (Nat → Int32) → Option (Int32 × (Nat → Int32))
  | 0 => fun _ _ => none
  | n + 1 => fun x3 c_t_group => fn_X10_isDeciding_b6 c_t_steps x1 x2 (fn_X10_isDeciding_l6 c_t_steps x1 x2 k n) k x3 c_t_group
def fn_X10_isDeciding (c_t_steps : Nat → Int32) (c_t_group : Nat → Int32) (x1 : Int32) (x2 : Int32) : Option (Int32 × (Nat → Int32)) :=
  b1_ (fn_X10_beginGroups c_t_group) fun w1 =>
  fn_X10_isDeciding_l6 c_t_steps x1 x2 (fun v6 =>
    b1_ (fn_X10_at x1 x2) fun r7 =>
    ck_ r7 144 <|
    if (c_t_steps (Int32.toNatClampNeg r7)) ≤ 0 then
      some (0, v6)
    else
      ck_ x1 12 <|
      ck_ x2 12 <|
      if (v6 (Int32.toNatClampNeg x1)) = (v6 (Int32.toNatClampNeg x2)) then
        some (0, v6)
      else
        some (1, v6)) fu_ 0 w1
set_option maxHeartbeats 4000000 in
set_option maxRecDepth 100000 in
theorem wn_X10_isDeciding_j54 {p : Program} {l : Launch} {e : Env} {s : State} {m : MethodId} {args : Array Value} {below : List Frame} {meth : Method} {c : Code} {G : gw_} {A : Nat → Prop} {Q : State → Prop} {A_t : Nat} {A_t_steps : Nat} {A_t_wet : Nat} {A_t_where : Nat} {A_t_home : Nat} {A_t_light : Nat} {A_t_carries : Nat} {A_t_sightPlace : Nat} {A_t_sightLight : Nat} {A_t_pad : Nat} {A_t_act : Nat} {A_t_whose : Nat} {A_t_whom : Nat} {A_t_tens : Nat} {A_t_had : Nat} {A_t_leaves : Nat} {A_t_apart : Nat} {A_t_stop : Nat} {A_t_restOf : Nat} {A_t_group : Nat} {A_t_along : Nat} {A_t_kept : Nat} {A_t_isKept : Nat} {c_t_foggy : Int32} {c_t_walkers : Int32} {c_t_sights : Int32} {c_t_padMany : Int32} {c_t_acts : Int32} {c_t_spent : Int32} {c_t_walks : Int32} {c_t_badAct : Int32} {c_t_badWhy : Int32} {c_t_keptAt : Int32} {c_t_isWriting : Int32} {c_t_steps : Nat → Int32} {c_t_group : Nat → Int32} {z_t_group : Nat → Int32} {r : Int32} {x1 : Int32} {x2 : Int32} {x3 : Int32} {x4 : Int32} {x5 : Int32} {s0 : Int32} {rc : Int32 → (Nat → Int32) → Option (Int32 × (Nat → Int32))} {k : (Nat → Int32) → Option (Int32 × (Nat → Int32))} (hC : cx_ p s m c G cX10_isDeciding 7 RX10) (hret : ∀ (pc : Nat) (H : Heap) (locs : List Loc) (ls : Array Slot), narrow .boolean (.int r) = .int r → decode cX10_isDeciding pc = .ok (.ireturn, 1) → wd_ G A s.heap (wl_X10_isDeciding G A_t A_t_steps A_t_wet A_t_where A_t_home A_t_light A_t_carries A_t_sightPlace A_t_sightLight A_t_pad A_t_act A_t_whose A_t_whom A_t_tens A_t_had A_t_leaves A_t_apart A_t_stop A_t_restOf A_t_group A_t_along A_t_kept A_t_isKept c_t_foggy c_t_walkers c_t_sights c_t_padMany c_t_acts c_t_spent c_t_walks c_t_badAct c_t_badWhy c_t_keptAt c_t_isWriting c_t_steps z_t_group) H locs → W p l e { frames := 1, cells := 0, slots := 0, locals := 25 } s m args below meth c H locs 0 0 Q (F0 m pc ls [.int r])) (hrc : ∀ (x3 : Int32) (c_t_group : Nat → Int32) (H : Heap) (locs : List Loc) (ls : Array Slot), rc x3 c_t_group = some (r, z_t_group) → lv_has ls 7 [(0, .ref A_t), (1, .int x1), (2, .int x2), (3, .int x3)] → wd_ G A s.heap (wl_X10_isDeciding G A_t A_t_steps A_t_wet A_t_where A_t_home A_t_light A_t_carries A_t_sightPlace A_t_sightLight A_t_pad A_t_act A_t_whose A_t_whom A_t_tens A_t_had A_t_leaves A_t_apart A_t_stop A_t_restOf A_t_group A_t_along A_t_kept A_t_isKept c_t_foggy c_t_walkers c_t_sights c_t_padMany c_t_acts c_t_spent c_t_walks c_t_badAct c_t_badWhy c_t_keptAt c_t_isWriting c_t_steps c_t_group) H locs → W p l e { frames := 1, cells := 0, slots := 0, locals := 25 } s m args below meth c H locs 0 0 Q (F0 m 6 ls [])) (hk : ∀ (c_t_group : Nat → Int32) (H : Heap) (locs : List Loc) (ls : Array Slot), k c_t_group = some (r, z_t_group) → lv_has ls 7 [(0, .ref A_t), (1, .int x1), (2, .int x2)] → wd_ G A s.heap (wl_X10_isDeciding G A_t A_t_steps A_t_wet A_t_where A_t_home A_t_light A_t_carries A_t_sightPlace A_t_sightLight A_t_pad A_t_act A_t_whose A_t_whom A_t_tens A_t_had A_t_leaves A_t_apart A_t_stop A_t_restOf A_t_group A_t_along A_t_kept A_t_isKept c_t_foggy c_t_walkers c_t_sights c_t_padMany c_t_acts c_t_spent c_t_walks c_t_badAct c_t_badWhy c_t_keptAt c_t_isWriting c_t_steps c_t_group) H locs → W p l e { frames := 1, cells := 0, slots := 0, locals := 25 } s m args below meth c H locs 0 0 Q (F0 m 85 ls [])) (hf : fn_X10_isDeciding_j54 c_t_steps c_t_group x3 x4 x5 s0 rc k = some (r, z_t_group)) {H : Heap} {locs : List Loc} {ls : Array Slot} (hl : lv_has ls 7 [(0, .ref A_t), (1, .int x1), (2, .int x2), (3, .int x3), (4, .int x4), (5, .int x5)]) (hw : wd_ G A s.heap (wl_X10_isDeciding G A_t A_t_steps A_t_wet A_t_where A_t_home A_t_light A_t_carries A_t_sightPlace A_t_sightLight A_t_pad A_t_act A_t_whose A_t_whom A_t_tens A_t_had A_t_leaves A_t_apart A_t_stop A_t_restOf A_t_group A_t_along A_t_kept A_t_isKept c_t_foggy c_t_walkers c_t_sights c_t_padMany c_t_acts c_t_spent c_t_walks c_t_badAct c_t_badWhy c_t_keptAt c_t_isWriting c_t_steps c_t_group) H locs) : W p l e { frames := 1, cells := 0, slots := 0, locals := 25 } s m args below meth c H locs 0 0 Q (F0 m 54 ls [.int s0]) := by
  have hx := hC.1
  have hb := hC.2.1
  unfold fn_X10_isDeciding_j54 at hf
  refine lv_istore (lv' := [(6, .int s0), (0, .ref A_t), (1, .int x1), (2, .int x2), (3, .int x3), (4, .int x4), (5, .int x5)]) hx hb dX10_isDeciding_54 hl (by decide) rfl (fun ls hl => ?_)
  refine lv_aload_n hx hb dX10_isDeciding_56 rfl (lv_at hl 1 rfl) ?_
  refine g_get hC hw fkX10_7 0 rfl rfl dX10_isDeciding_57 ?_
  refine lv_iload_n hx hb dX10_isDeciding_60 rfl (lv_at hl 4 rfl) ?_
  obtain ⟨hi, hf⟩ := ck_s hf
  refine g_iald hC hw 1 rfl hi dX10_isDeciding_61 ?_
  refine lv_if_le (tgt := 79) hx hb dX10_isDeciding_62 (by decide) (fun hc => ?_) (fun hc => ?_)
  · replace hf := it_t hc hf
    refine lv_iinc (v := x3 + 1) (lv' := [(3, .int (x3 + 1)), (6, .int s0), (0, .ref A_t), (1, .int x1), (2, .int x2), (4, .int x4), (5, .int x5)]) hx hb dX10_isDeciding_79 hl (k := 4) rfl rfl (by decide) rfl (fun ls hl => ?_)
    refine lv_goto (tgt := 6) hx hb dX10_isDeciding_82 (by decide) ?_
    exact hrc (x3 + 1) c_t_group _ _ _ hf (lv_sub hl [2, 3, 4, 0] rfl) hw
  · replace hf := it_f hc hf
    refine lv_iload hx hb dX10_isDeciding_65 (lv_at hl 0 rfl) ?_
    refine lv_if_ne (tgt := 79) hx hb dX10_isDeciding_67 (by decide) (fun hc => ?_) (fun hc => ?_)
    · replace hf := it_f hc hf
      refine lv_iinc (v := x3 + 1) (lv' := [(3, .int (x3 + 1)), (6, .int s0), (0, .ref A_t), (1, .int x1), (2, .int x2), (4, .int x4), (5, .int x5)]) hx hb dX10_isDeciding_79 hl (k := 4) rfl rfl (by decide) rfl (fun ls hl => ?_)
      refine lv_goto (tgt := 6) hx hb dX10_isDeciding_82 (by decide) ?_
      exact hrc (x3 + 1) c_t_group _ _ _ hf (lv_sub hl [2, 3, 4, 0] rfl) hw
    · replace hf := it_t hc hf
      refine lv_aload_n hx hb dX10_isDeciding_70 rfl (lv_at hl 1 rfl) ?_
      refine lv_iload hx hb dX10_isDeciding_71 (lv_at hl 5 rfl) ?_
      refine lv_iload hx hb dX10_isDeciding_73 (lv_at hl 6 rfl) ?_
      obtain ⟨r3, w4, hq5, hf⟩ := b2_s hf
      refine g_cVi hC hw mvX10_242 (cn_X10_join l G A_t A_t_steps A_t_wet A_t_where A_t_home A_t_light A_t_carries A_t_sightPlace A_t_sightLight A_t_pad A_t_act A_t_whose A_t_whom A_t_tens A_t_had A_t_leaves A_t_apart A_t_stop A_t_restOf A_t_group A_t_along A_t_kept A_t_isKept c_t_foggy c_t_walkers c_t_sights c_t_padMany c_t_acts c_t_spent c_t_walks c_t_badAct c_t_badWhy c_t_keptAt c_t_isWriting c_t_group x4 x5 r3 w4 hq5) [0, 2] rfl (by decide) rfl 0 rfl rfl rfl hl.1 rfl (Nat.le_of_ble_eq_true rfl) ⟨Nat.le_of_ble_eq_true rfl, Nat.le_of_ble_eq_true rfl⟩ ⟨Nat.le_refl _, Nat.le_refl _⟩ dX10_isDeciding_75 (fun H locs hw => ?_)
      have hw : wd_ G A s.heap (wl_X10_isDeciding G A_t A_t_steps A_t_wet A_t_where A_t_home A_t_light A_t_carries A_t_sightPlace A_t_sightLight A_t_pad A_t_act A_t_whose A_t_whom A_t_tens A_t_had A_t_leaves A_t_apart A_t_stop A_t_restOf A_t_group A_t_along A_t_kept A_t_isKept c_t_foggy c_t_walkers c_t_sights c_t_padMany c_t_acts c_t_spent c_t_walks c_t_badAct c_t_badWhy c_t_keptAt c_t_isWriting c_t_steps w4) H locs := hw
      refine lv_pop hx hb dX10_isDeciding_78 rfl ?_
      refine lv_iinc (v := x3 + 1) (lv' := [(3, .int (x3 + 1)), (6, .int s0), (0, .ref A_t), (1, .int x1), (2, .int x2), (4, .int x4), (5, .int x5)]) hx hb dX10_isDeciding_79 hl (k := 4) rfl rfl (by decide) rfl (fun ls hl => ?_)
      refine lv_goto (tgt := 6) hx hb dX10_isDeciding_82 (by decide) ?_
      exact hrc (x3 + 1) w4 _ _ _ hf (lv_sub hl [2, 3, 4, 0] rfl) hw
set_option maxHeartbeats 4000000 in
set_option maxRecDepth 100000 in
theorem wn_X10_isDeciding_j53 {p : Program} {l : Launch} {e : Env} {s : State} {m : MethodId} {args : Array Value} {below : List Frame} {meth : Method} {c : Code} {G : gw_} {A : Nat → Prop} {Q : State → Prop} {A_t : Nat} {A_t_steps : Nat} {A_t_wet : Nat} {A_t_where : Nat} {A_t_home : Nat} {A_t_light : Nat} {A_t_carries : Nat} {A_t_sightPlace : Nat} {A_t_sightLight : Nat} {A_t_pad : Nat} {A_t_act : Nat} {A_t_whose : Nat} {A_t_whom : Nat} {A_t_tens : Nat} {A_t_had : Nat} {A_t_leaves : Nat} {A_t_apart : Nat} {A_t_stop : Nat} {A_t_restOf : Nat} {A_t_group : Nat} {A_t_along : Nat} {A_t_kept : Nat} {A_t_isKept : Nat} {c_t_foggy : Int32} {c_t_walkers : Int32} {c_t_sights : Int32} {c_t_padMany : Int32} {c_t_acts : Int32} {c_t_spent : Int32} {c_t_walks : Int32} {c_t_badAct : Int32} {c_t_badWhy : Int32} {c_t_keptAt : Int32} {c_t_isWriting : Int32} {c_t_steps : Nat → Int32} {c_t_group : Nat → Int32} {z_t_group : Nat → Int32} {r : Int32} {x1 : Int32} {x2 : Int32} {x3 : Int32} {x4 : Int32} {x5 : Int32} {rc : Int32 → (Nat → Int32) → Option (Int32 × (Nat → Int32))} {k : (Nat → Int32) → Option (Int32 × (Nat → Int32))} (hC : cx_ p s m c G cX10_isDeciding 7 RX10) (hret : ∀ (pc : Nat) (H : Heap) (locs : List Loc) (ls : Array Slot), narrow .boolean (.int r) = .int r → decode cX10_isDeciding pc = .ok (.ireturn, 1) → wd_ G A s.heap (wl_X10_isDeciding G A_t A_t_steps A_t_wet A_t_where A_t_home A_t_light A_t_carries A_t_sightPlace A_t_sightLight A_t_pad A_t_act A_t_whose A_t_whom A_t_tens A_t_had A_t_leaves A_t_apart A_t_stop A_t_restOf A_t_group A_t_along A_t_kept A_t_isKept c_t_foggy c_t_walkers c_t_sights c_t_padMany c_t_acts c_t_spent c_t_walks c_t_badAct c_t_badWhy c_t_keptAt c_t_isWriting c_t_steps z_t_group) H locs → W p l e { frames := 1, cells := 0, slots := 0, locals := 25 } s m args below meth c H locs 0 0 Q (F0 m pc ls [.int r])) (hrc : ∀ (x3 : Int32) (c_t_group : Nat → Int32) (H : Heap) (locs : List Loc) (ls : Array Slot), rc x3 c_t_group = some (r, z_t_group) → lv_has ls 7 [(0, .ref A_t), (1, .int x1), (2, .int x2), (3, .int x3)] → wd_ G A s.heap (wl_X10_isDeciding G A_t A_t_steps A_t_wet A_t_where A_t_home A_t_light A_t_carries A_t_sightPlace A_t_sightLight A_t_pad A_t_act A_t_whose A_t_whom A_t_tens A_t_had A_t_leaves A_t_apart A_t_stop A_t_restOf A_t_group A_t_along A_t_kept A_t_isKept c_t_foggy c_t_walkers c_t_sights c_t_padMany c_t_acts c_t_spent c_t_walks c_t_badAct c_t_badWhy c_t_keptAt c_t_isWriting c_t_steps c_t_group) H locs → W p l e { frames := 1, cells := 0, slots := 0, locals := 25 } s m args below meth c H locs 0 0 Q (F0 m 6 ls [])) (hk : ∀ (c_t_group : Nat → Int32) (H : Heap) (locs : List Loc) (ls : Array Slot), k c_t_group = some (r, z_t_group) → lv_has ls 7 [(0, .ref A_t), (1, .int x1), (2, .int x2)] → wd_ G A s.heap (wl_X10_isDeciding G A_t A_t_steps A_t_wet A_t_where A_t_home A_t_light A_t_carries A_t_sightPlace A_t_sightLight A_t_pad A_t_act A_t_whose A_t_whom A_t_tens A_t_had A_t_leaves A_t_apart A_t_stop A_t_restOf A_t_group A_t_along A_t_kept A_t_isKept c_t_foggy c_t_walkers c_t_sights c_t_padMany c_t_acts c_t_spent c_t_walks c_t_badAct c_t_badWhy c_t_keptAt c_t_isWriting c_t_steps c_t_group) H locs → W p l e { frames := 1, cells := 0, slots := 0, locals := 25 } s m args below meth c H locs 0 0 Q (F0 m 85 ls [])) (hf : fn_X10_isDeciding_j53 c_t_steps c_t_group x3 x4 x5 rc k = some (r, z_t_group)) {H : Heap} {locs : List Loc} {ls : Array Slot} (hl : lv_has ls 7 [(0, .ref A_t), (1, .int x1), (2, .int x2), (3, .int x3), (4, .int x4), (5, .int x5)]) (hw : wd_ G A s.heap (wl_X10_isDeciding G A_t A_t_steps A_t_wet A_t_where A_t_home A_t_light A_t_carries A_t_sightPlace A_t_sightLight A_t_pad A_t_act A_t_whose A_t_whom A_t_tens A_t_had A_t_leaves A_t_apart A_t_stop A_t_restOf A_t_group A_t_along A_t_kept A_t_isKept c_t_foggy c_t_walkers c_t_sights c_t_padMany c_t_acts c_t_spent c_t_walks c_t_badAct c_t_badWhy c_t_keptAt c_t_isWriting c_t_steps c_t_group) H locs) : W p l e { frames := 1, cells := 0, slots := 0, locals := 25 } s m args below meth c H locs 0 0 Q (F0 m 53 ls []) := by
  have hx := hC.1
  have hb := hC.2.1
  unfold fn_X10_isDeciding_j53 at hf
  refine lv_iconst (v := 0) hx hb dX10_isDeciding_53 (by decide) ?_
  exact wn_X10_isDeciding_j54 hC hret hrc hk hf (lv_sub hl [0, 1, 2, 3, 4, 5] rfl) hw
set_option maxHeartbeats 4000000 in
set_option maxRecDepth 100000 in
theorem wn_X10_isDeciding_j49 {p : Program} {l : Launch} {e : Env} {s : State} {m : MethodId} {args : Array Value} {below : List Frame} {meth : Method} {c : Code} {G : gw_} {A : Nat → Prop} {Q : State → Prop} {A_t : Nat} {A_t_steps : Nat} {A_t_wet : Nat} {A_t_where : Nat} {A_t_home : Nat} {A_t_light : Nat} {A_t_carries : Nat} {A_t_sightPlace : Nat} {A_t_sightLight : Nat} {A_t_pad : Nat} {A_t_act : Nat} {A_t_whose : Nat} {A_t_whom : Nat} {A_t_tens : Nat} {A_t_had : Nat} {A_t_leaves : Nat} {A_t_apart : Nat} {A_t_stop : Nat} {A_t_restOf : Nat} {A_t_group : Nat} {A_t_along : Nat} {A_t_kept : Nat} {A_t_isKept : Nat} {c_t_foggy : Int32} {c_t_walkers : Int32} {c_t_sights : Int32} {c_t_padMany : Int32} {c_t_acts : Int32} {c_t_spent : Int32} {c_t_walks : Int32} {c_t_badAct : Int32} {c_t_badWhy : Int32} {c_t_keptAt : Int32} {c_t_isWriting : Int32} {c_t_steps : Nat → Int32} {c_t_group : Nat → Int32} {z_t_group : Nat → Int32} {r : Int32} {x1 : Int32} {x2 : Int32} {x3 : Int32} {x4 : Int32} {x5 : Int32} {rc : Int32 → (Nat → Int32) → Option (Int32 × (Nat → Int32))} {k : (Nat → Int32) → Option (Int32 × (Nat → Int32))} (hC : cx_ p s m c G cX10_isDeciding 7 RX10) (hret : ∀ (pc : Nat) (H : Heap) (locs : List Loc) (ls : Array Slot), narrow .boolean (.int r) = .int r → decode cX10_isDeciding pc = .ok (.ireturn, 1) → wd_ G A s.heap (wl_X10_isDeciding G A_t A_t_steps A_t_wet A_t_where A_t_home A_t_light A_t_carries A_t_sightPlace A_t_sightLight A_t_pad A_t_act A_t_whose A_t_whom A_t_tens A_t_had A_t_leaves A_t_apart A_t_stop A_t_restOf A_t_group A_t_along A_t_kept A_t_isKept c_t_foggy c_t_walkers c_t_sights c_t_padMany c_t_acts c_t_spent c_t_walks c_t_badAct c_t_badWhy c_t_keptAt c_t_isWriting c_t_steps z_t_group) H locs → W p l e { frames := 1, cells := 0, slots := 0, locals := 25 } s m args below meth c H locs 0 0 Q (F0 m pc ls [.int r])) (hrc : ∀ (x3 : Int32) (c_t_group : Nat → Int32) (H : Heap) (locs : List Loc) (ls : Array Slot), rc x3 c_t_group = some (r, z_t_group) → lv_has ls 7 [(0, .ref A_t), (1, .int x1), (2, .int x2), (3, .int x3)] → wd_ G A s.heap (wl_X10_isDeciding G A_t A_t_steps A_t_wet A_t_where A_t_home A_t_light A_t_carries A_t_sightPlace A_t_sightLight A_t_pad A_t_act A_t_whose A_t_whom A_t_tens A_t_had A_t_leaves A_t_apart A_t_stop A_t_restOf A_t_group A_t_along A_t_kept A_t_isKept c_t_foggy c_t_walkers c_t_sights c_t_padMany c_t_acts c_t_spent c_t_walks c_t_badAct c_t_badWhy c_t_keptAt c_t_isWriting c_t_steps c_t_group) H locs → W p l e { frames := 1, cells := 0, slots := 0, locals := 25 } s m args below meth c H locs 0 0 Q (F0 m 6 ls [])) (hk : ∀ (c_t_group : Nat → Int32) (H : Heap) (locs : List Loc) (ls : Array Slot), k c_t_group = some (r, z_t_group) → lv_has ls 7 [(0, .ref A_t), (1, .int x1), (2, .int x2)] → wd_ G A s.heap (wl_X10_isDeciding G A_t A_t_steps A_t_wet A_t_where A_t_home A_t_light A_t_carries A_t_sightPlace A_t_sightLight A_t_pad A_t_act A_t_whose A_t_whom A_t_tens A_t_had A_t_leaves A_t_apart A_t_stop A_t_restOf A_t_group A_t_along A_t_kept A_t_isKept c_t_foggy c_t_walkers c_t_sights c_t_padMany c_t_acts c_t_spent c_t_walks c_t_badAct c_t_badWhy c_t_keptAt c_t_isWriting c_t_steps c_t_group) H locs → W p l e { frames := 1, cells := 0, slots := 0, locals := 25 } s m args below meth c H locs 0 0 Q (F0 m 85 ls [])) (hf : fn_X10_isDeciding_j49 c_t_steps c_t_group x3 x4 x5 rc k = some (r, z_t_group)) {H : Heap} {locs : List Loc} {ls : Array Slot} (hl : lv_has ls 7 [(0, .ref A_t), (1, .int x1), (2, .int x2), (3, .int x3), (4, .int x4), (5, .int x5)]) (hw : wd_ G A s.heap (wl_X10_isDeciding G A_t A_t_steps A_t_wet A_t_where A_t_home A_t_light A_t_carries A_t_sightPlace A_t_sightLight A_t_pad A_t_act A_t_whose A_t_whom A_t_tens A_t_had A_t_leaves A_t_apart A_t_stop A_t_restOf A_t_group A_t_along A_t_kept A_t_isKept c_t_foggy c_t_walkers c_t_sights c_t_padMany c_t_acts c_t_spent c_t_walks c_t_badAct c_t_badWhy c_t_keptAt c_t_isWriting c_t_steps c_t_group) H locs) : W p l e { frames := 1, cells := 0, slots := 0, locals := 25 } s m args below meth c H locs 0 0 Q (F0 m 49 ls []) := by
  have hx := hC.1
  have hb := hC.2.1
  unfold fn_X10_isDeciding_j49 at hf
  refine lv_iconst (v := 1) hx hb dX10_isDeciding_49 (by decide) ?_
  refine lv_goto (tgt := 54) hx hb dX10_isDeciding_50 (by decide) ?_
  exact wn_X10_isDeciding_j54 hC hret hrc hk hf (lv_sub hl [0, 1, 2, 3, 4, 5] rfl) hw
set_option maxHeartbeats 4000000 in
set_option maxRecDepth 100000 in
theorem wn_X10_isDeciding_j37 {p : Program} {l : Launch} {e : Env} {s : State} {m : MethodId} {args : Array Value} {below : List Frame} {meth : Method} {c : Code} {G : gw_} {A : Nat → Prop} {Q : State → Prop} {A_t : Nat} {A_t_steps : Nat} {A_t_wet : Nat} {A_t_where : Nat} {A_t_home : Nat} {A_t_light : Nat} {A_t_carries : Nat} {A_t_sightPlace : Nat} {A_t_sightLight : Nat} {A_t_pad : Nat} {A_t_act : Nat} {A_t_whose : Nat} {A_t_whom : Nat} {A_t_tens : Nat} {A_t_had : Nat} {A_t_leaves : Nat} {A_t_apart : Nat} {A_t_stop : Nat} {A_t_restOf : Nat} {A_t_group : Nat} {A_t_along : Nat} {A_t_kept : Nat} {A_t_isKept : Nat} {c_t_foggy : Int32} {c_t_walkers : Int32} {c_t_sights : Int32} {c_t_padMany : Int32} {c_t_acts : Int32} {c_t_spent : Int32} {c_t_walks : Int32} {c_t_badAct : Int32} {c_t_badWhy : Int32} {c_t_keptAt : Int32} {c_t_isWriting : Int32} {c_t_steps : Nat → Int32} {c_t_group : Nat → Int32} {z_t_group : Nat → Int32} {r : Int32} {x1 : Int32} {x2 : Int32} {x3 : Int32} {x4 : Int32} {x5 : Int32} {rc : Int32 → (Nat → Int32) → Option (Int32 × (Nat → Int32))} {k : (Nat → Int32) → Option (Int32 × (Nat → Int32))} (hC : cx_ p s m c G cX10_isDeciding 7 RX10) (hret : ∀ (pc : Nat) (H : Heap) (locs : List Loc) (ls : Array Slot), narrow .boolean (.int r) = .int r → decode cX10_isDeciding pc = .ok (.ireturn, 1) → wd_ G A s.heap (wl_X10_isDeciding G A_t A_t_steps A_t_wet A_t_where A_t_home A_t_light A_t_carries A_t_sightPlace A_t_sightLight A_t_pad A_t_act A_t_whose A_t_whom A_t_tens A_t_had A_t_leaves A_t_apart A_t_stop A_t_restOf A_t_group A_t_along A_t_kept A_t_isKept c_t_foggy c_t_walkers c_t_sights c_t_padMany c_t_acts c_t_spent c_t_walks c_t_badAct c_t_badWhy c_t_keptAt c_t_isWriting c_t_steps z_t_group) H locs → W p l e { frames := 1, cells := 0, slots := 0, locals := 25 } s m args below meth c H locs 0 0 Q (F0 m pc ls [.int r])) (hrc : ∀ (x3 : Int32) (c_t_group : Nat → Int32) (H : Heap) (locs : List Loc) (ls : Array Slot), rc x3 c_t_group = some (r, z_t_group) → lv_has ls 7 [(0, .ref A_t), (1, .int x1), (2, .int x2), (3, .int x3)] → wd_ G A s.heap (wl_X10_isDeciding G A_t A_t_steps A_t_wet A_t_where A_t_home A_t_light A_t_carries A_t_sightPlace A_t_sightLight A_t_pad A_t_act A_t_whose A_t_whom A_t_tens A_t_had A_t_leaves A_t_apart A_t_stop A_t_restOf A_t_group A_t_along A_t_kept A_t_isKept c_t_foggy c_t_walkers c_t_sights c_t_padMany c_t_acts c_t_spent c_t_walks c_t_badAct c_t_badWhy c_t_keptAt c_t_isWriting c_t_steps c_t_group) H locs → W p l e { frames := 1, cells := 0, slots := 0, locals := 25 } s m args below meth c H locs 0 0 Q (F0 m 6 ls [])) (hk : ∀ (c_t_group : Nat → Int32) (H : Heap) (locs : List Loc) (ls : Array Slot), k c_t_group = some (r, z_t_group) → lv_has ls 7 [(0, .ref A_t), (1, .int x1), (2, .int x2)] → wd_ G A s.heap (wl_X10_isDeciding G A_t A_t_steps A_t_wet A_t_where A_t_home A_t_light A_t_carries A_t_sightPlace A_t_sightLight A_t_pad A_t_act A_t_whose A_t_whom A_t_tens A_t_had A_t_leaves A_t_apart A_t_stop A_t_restOf A_t_group A_t_along A_t_kept A_t_isKept c_t_foggy c_t_walkers c_t_sights c_t_padMany c_t_acts c_t_spent c_t_walks c_t_badAct c_t_badWhy c_t_keptAt c_t_isWriting c_t_steps c_t_group) H locs → W p l e { frames := 1, cells := 0, slots := 0, locals := 25 } s m args below meth c H locs 0 0 Q (F0 m 85 ls [])) (hf : fn_X10_isDeciding_j37 c_t_steps c_t_group x1 x2 x3 x4 x5 rc k = some (r, z_t_group)) {H : Heap} {locs : List Loc} {ls : Array Slot} (hl : lv_has ls 7 [(0, .ref A_t), (1, .int x1), (2, .int x2), (3, .int x3), (4, .int x4), (5, .int x5)]) (hw : wd_ G A s.heap (wl_X10_isDeciding G A_t A_t_steps A_t_wet A_t_where A_t_home A_t_light A_t_carries A_t_sightPlace A_t_sightLight A_t_pad A_t_act A_t_whose A_t_whom A_t_tens A_t_had A_t_leaves A_t_apart A_t_stop A_t_restOf A_t_group A_t_along A_t_kept A_t_isKept c_t_foggy c_t_walkers c_t_sights c_t_padMany c_t_acts c_t_spent c_t_walks c_t_badAct c_t_badWhy c_t_keptAt c_t_isWriting c_t_steps c_t_group) H locs) : W p l e { frames := 1, cells := 0, slots := 0, locals := 25 } s m args below meth c H locs 0 0 Q (F0 m 37 ls []) := by
  have hx := hC.1
  have hb := hC.2.1
  unfold fn_X10_isDeciding_j37 at hf
  refine lv_iload hx hb dX10_isDeciding_37 (lv_at hl 4 rfl) ?_
  refine lv_iload_n hx hb dX10_isDeciding_39 rfl (lv_at hl 2 rfl) ?_
  refine lv_icmp_ne (tgt := 53) hx hb dX10_isDeciding_40 (by decide) (fun hc => ?_) (fun hc => ?_)
  · replace hf := it_f hc hf
    exact wn_X10_isDeciding_j53 hC hret hrc hk hf (lv_sub hl [0, 1, 2, 3, 4, 5] rfl) hw
  · replace hf := it_t hc hf
    refine lv_iload hx hb dX10_isDeciding_43 (lv_at hl 5 rfl) ?_
    refine lv_iload_n hx hb dX10_isDeciding_45 rfl (lv_at hl 1 rfl) ?_
    refine lv_icmp_ne (tgt := 53) hx hb dX10_isDeciding_46 (by decide) (fun hc => ?_) (fun hc => ?_)
    · replace hf := it_f hc hf
      exact wn_X10_isDeciding_j53 hC hret hrc hk hf (lv_sub hl [0, 1, 2, 3, 4, 5] rfl) hw
    · replace hf := it_t hc hf
      exact wn_X10_isDeciding_j49 hC hret hrc hk hf (lv_sub hl [0, 1, 2, 3, 4, 5] rfl) hw
set_option maxHeartbeats 4000000 in
set_option maxRecDepth 100000 in
theorem wn_X10_isDeciding_l6 {p : Program} {l : Launch} {e : Env} {s : State} {m : MethodId} {args : Array Value} {below : List Frame} {meth : Method} {c : Code} {G : gw_} {A : Nat → Prop} {Q : State → Prop} {A_t : Nat} {A_t_steps : Nat} {A_t_wet : Nat} {A_t_where : Nat} {A_t_home : Nat} {A_t_light : Nat} {A_t_carries : Nat} {A_t_sightPlace : Nat} {A_t_sightLight : Nat} {A_t_pad : Nat} {A_t_act : Nat} {A_t_whose : Nat} {A_t_whom : Nat} {A_t_tens : Nat} {A_t_had : Nat} {A_t_leaves : Nat} {A_t_apart : Nat} {A_t_stop : Nat} {A_t_restOf : Nat} {A_t_group : Nat} {A_t_along : Nat} {A_t_kept : Nat} {A_t_isKept : Nat} {c_t_foggy : Int32} {c_t_walkers : Int32} {c_t_sights : Int32} {c_t_padMany : Int32} {c_t_acts : Int32} {c_t_spent : Int32} {c_t_walks : Int32} {c_t_badAct : Int32} {c_t_badWhy : Int32} {c_t_keptAt : Int32} {c_t_isWriting : Int32} {c_t_steps : Nat → Int32} {z_t_group : Nat → Int32} {r : Int32} {x1 : Int32} {x2 : Int32} {k : (Nat → Int32) → Option (Int32 × (Nat → Int32))} (hC : cx_ p s m c G cX10_isDeciding 7 RX10) (hret : ∀ (pc : Nat) (H : Heap) (locs : List Loc) (ls : Array Slot), narrow .boolean (.int r) = .int r → decode cX10_isDeciding pc = .ok (.ireturn, 1) → wd_ G A s.heap (wl_X10_isDeciding G A_t A_t_steps A_t_wet A_t_where A_t_home A_t_light A_t_carries A_t_sightPlace A_t_sightLight A_t_pad A_t_act A_t_whose A_t_whom A_t_tens A_t_had A_t_leaves A_t_apart A_t_stop A_t_restOf A_t_group A_t_along A_t_kept A_t_isKept c_t_foggy c_t_walkers c_t_sights c_t_padMany c_t_acts c_t_spent c_t_walks c_t_badAct c_t_badWhy c_t_keptAt c_t_isWriting c_t_steps z_t_group) H locs → W p l e { frames := 1, cells := 0, slots := 0, locals := 25 } s m args below meth c H locs 0 0 Q (F0 m pc ls [.int r])) (hk : ∀ (c_t_group : Nat → Int32) (H : Heap) (locs : List Loc) (ls : Array Slot), k c_t_group = some (r, z_t_group) → lv_has ls 7 [(0, .ref A_t), (1, .int x1), (2, .int x2)] → wd_ G A s.heap (wl_X10_isDeciding G A_t A_t_steps A_t_wet A_t_where A_t_home A_t_light A_t_carries A_t_sightPlace A_t_sightLight A_t_pad A_t_act A_t_whose A_t_whom A_t_tens A_t_had A_t_leaves A_t_apart A_t_stop A_t_restOf A_t_group A_t_along A_t_kept A_t_isKept c_t_foggy c_t_walkers c_t_sights c_t_padMany c_t_acts c_t_spent c_t_walks c_t_badAct c_t_badWhy c_t_keptAt c_t_isWriting c_t_steps c_t_group) H locs → W p l e { frames := 1, cells := 0, slots := 0, locals := 25 } s m args below meth c H locs 0 0 Q (F0 m 85 ls [])) : ∀ (n : Nat) (x3 : Int32) (c_t_group : Nat → Int32) (H : Heap) (locs : List Loc) (ls : Array Slot), fn_X10_isDeciding_l6 c_t_steps x1 x2 k n x3 c_t_group = some (r, z_t_group) → lv_has ls 7 [(0, .ref A_t), (1, .int x1), (2, .int x2), (3, .int x3)] → wd_ G A s.heap (wl_X10_isDeciding G A_t A_t_steps A_t_wet A_t_where A_t_home A_t_light A_t_carries A_t_sightPlace A_t_sightLight A_t_pad A_t_act A_t_whose A_t_whom A_t_tens A_t_had A_t_leaves A_t_apart A_t_stop A_t_restOf A_t_group A_t_along A_t_kept A_t_isKept c_t_foggy c_t_walkers c_t_sights c_t_padMany c_t_acts c_t_spent c_t_walks c_t_badAct c_t_badWhy c_t_keptAt c_t_isWriting c_t_steps c_t_group) H locs → W p l e { frames := 1, cells := 0, slots := 0, locals := 25 } s m args below meth c H locs 0 0 Q (F0 m 6 ls []) := by
  have hx := hC.1
  have hb := hC.2.1
  intro n
  induction n with
  | zero =>
    intro x3 c_t_group H locs ls hf
    cases (show (none : Option (Int32 × (Nat → Int32))) = some _ from hf)
  | succ n hrc =>
    intro x3 c_t_group H locs ls hf hl hw
    replace hf : fn_X10_isDeciding_b6 c_t_steps x1 x2 (fn_X10_isDeciding_l6 c_t_steps x1 x2 k n) k x3 c_t_group = some (r, z_t_group) := hf
    unfold fn_X10_isDeciding_b6 at hf
    refine lv_iload_n hx hb dX10_isDeciding_6 rfl (lv_at hl 3 rfl) ?_
    refine lv_sipush (v := 144) hx hb dX10_isDeciding_7 (by decide) ?_
    refine lv_icmp_ge (tgt := 85) hx hb dX10_isDeciding_10 (by decide) (fun hc => ?_) (fun hc => ?_)
    · replace hf := it_t hc hf
      exact hk c_t_group _ _ _ hf (lv_sub hl [0, 1, 2] rfl) hw
    · replace hf := it_f hc hf
      refine lv_iload_n hx hb dX10_isDeciding_13 rfl (lv_at hl 3 rfl) ?_
      refine lv_bipush (v := 12) hx hb dX10_isDeciding_14 (by decide) ?_
      refine lv_idiv hx hb dX10_isDeciding_16 (by decide) ?_
      refine lv_istore (lv' := [(4, .int (x3 / 12)), (0, .ref A_t), (1, .int x1), (2, .int x2), (3, .int x3)]) hx hb dX10_isDeciding_17 hl (by decide) rfl (fun ls hl => ?_)
      refine lv_iload_n hx hb dX10_isDeciding_19 rfl (lv_at hl 4 rfl) ?_
      refine lv_bipush (v := 12) hx hb dX10_isDeciding_20 (by decide) ?_
      refine lv_irem hx hb dX10_isDeciding_22 (by decide) ?_
      refine lv_istore (lv' := [(5, .int (x3 - x3 / 12 * 12)), (4, .int (x3 / 12)), (0, .ref A_t), (1, .int x1), (2, .int x2), (3, .int x3)]) hx hb dX10_isDeciding_23 hl (by decide) rfl (fun ls hl => ?_)
      refine lv_iload hx hb dX10_isDeciding_25 (lv_at hl 1 rfl) ?_
      refine lv_iload_n hx hb dX10_isDeciding_27 rfl (lv_at hl 3 rfl) ?_
      refine lv_icmp_ne (tgt := 37) hx hb dX10_isDeciding_28 (by decide) (fun hc => ?_) (fun hc => ?_)
      · replace hf := it_f hc hf
        exact wn_X10_isDeciding_j37 hC hret hrc hk hf (lv_sub hl [2, 3, 4, 5, 1, 0] rfl) hw
      · replace hf := it_t hc hf
        refine lv_iload hx hb dX10_isDeciding_31 (lv_at hl 0 rfl) ?_
        refine lv_iload_n hx hb dX10_isDeciding_33 rfl (lv_at hl 4 rfl) ?_
        refine lv_icmp_eq (tgt := 49) hx hb dX10_isDeciding_34 (by decide) (fun hc => ?_) (fun hc => ?_)
        · replace hf := it_t hc hf
          exact wn_X10_isDeciding_j49 hC hret hrc hk hf (lv_sub hl [2, 3, 4, 5, 1, 0] rfl) hw
        · replace hf := it_f hc hf
          exact wn_X10_isDeciding_j37 hC hret hrc hk hf (lv_sub hl [2, 3, 4, 5, 1, 0] rfl) hw
set_option maxHeartbeats 4000000 in
set_option maxRecDepth 100000 in
theorem wn_X10_isDeciding {p : Program} {l : Launch} {e : Env} {s : State} {m : MethodId} {args : Array Value} {below : List Frame} {meth : Method} {c : Code} {G : gw_} {A : Nat → Prop} {Q : State → Prop} {A_t : Nat} {A_t_steps : Nat} {A_t_wet : Nat} {A_t_where : Nat} {A_t_home : Nat} {A_t_light : Nat} {A_t_carries : Nat} {A_t_sightPlace : Nat} {A_t_sightLight : Nat} {A_t_pad : Nat} {A_t_act : Nat} {A_t_whose : Nat} {A_t_whom : Nat} {A_t_tens : Nat} {A_t_had : Nat} {A_t_leaves : Nat} {A_t_apart : Nat} {A_t_stop : Nat} {A_t_restOf : Nat} {A_t_group : Nat} {A_t_along : Nat} {A_t_kept : Nat} {A_t_isKept : Nat} {c_t_foggy : Int32} {c_t_walkers : Int32} {c_t_sights : Int32} {c_t_padMany : Int32} {c_t_acts : Int32} {c_t_spent : Int32} {c_t_walks : Int32} {c_t_badAct : Int32} {c_t_badWhy : Int32} {c_t_keptAt : Int32} {c_t_isWriting : Int32} {c_t_steps : Nat → Int32} {c_t_group : Nat → Int32} {z_t_group : Nat → Int32} {r : Int32} {x1 : Int32} {x2 : Int32} (hC : cx_ p s m c G cX10_isDeciding 7 RX10) (hret : ∀ (pc : Nat) (H : Heap) (locs : List Loc) (ls : Array Slot), narrow .boolean (.int r) = .int r → decode cX10_isDeciding pc = .ok (.ireturn, 1) → wd_ G A s.heap (wl_X10_isDeciding G A_t A_t_steps A_t_wet A_t_where A_t_home A_t_light A_t_carries A_t_sightPlace A_t_sightLight A_t_pad A_t_act A_t_whose A_t_whom A_t_tens A_t_had A_t_leaves A_t_apart A_t_stop A_t_restOf A_t_group A_t_along A_t_kept A_t_isKept c_t_foggy c_t_walkers c_t_sights c_t_padMany c_t_acts c_t_spent c_t_walks c_t_badAct c_t_badWhy c_t_keptAt c_t_isWriting c_t_steps z_t_group) H locs → W p l e { frames := 1, cells := 0, slots := 0, locals := 25 } s m args below meth c H locs 0 0 Q (F0 m pc ls [.int r])) (hf : fn_X10_isDeciding c_t_steps c_t_group x1 x2 = some (r, z_t_group)) {H : Heap} {locs : List Loc} {ls : Array Slot} (hl : lv_has ls 7 [(0, .ref A_t), (1, .int x1), (2, .int x2)]) (hw : wd_ G A s.heap (wl_X10_isDeciding G A_t A_t_steps A_t_wet A_t_where A_t_home A_t_light A_t_carries A_t_sightPlace A_t_sightLight A_t_pad A_t_act A_t_whose A_t_whom A_t_tens A_t_had A_t_leaves A_t_apart A_t_stop A_t_restOf A_t_group A_t_along A_t_kept A_t_isKept c_t_foggy c_t_walkers c_t_sights c_t_padMany c_t_acts c_t_spent c_t_walks c_t_badAct c_t_badWhy c_t_keptAt c_t_isWriting c_t_steps c_t_group) H locs) : W p l e { frames := 1, cells := 0, slots := 0, locals := 25 } s m args below meth c H locs 0 0 Q (F0 m 0 ls []) := by
  have hx := hC.1
  have hb := hC.2.1
  unfold fn_X10_isDeciding at hf
  refine lv_aload_n hx hb dX10_isDeciding_0 rfl (lv_at hl 0 rfl) ?_
  obtain ⟨w1, hq2, hf⟩ := b1_s hf
  refine g_cVv hC hw mvX10_239 (cn_X10_beginGroups l G A_t A_t_steps A_t_wet A_t_where A_t_home A_t_light A_t_carries A_t_sightPlace A_t_sightLight A_t_pad A_t_act A_t_whose A_t_whom A_t_tens A_t_had A_t_leaves A_t_apart A_t_stop A_t_restOf A_t_group A_t_along A_t_kept A_t_isKept c_t_foggy c_t_walkers c_t_sights c_t_padMany c_t_acts c_t_spent c_t_walks c_t_badAct c_t_badWhy c_t_keptAt c_t_isWriting c_t_group w1 hq2) [0, 2] rfl (by decide) rfl 0 rfl rfl rfl hl.1 rfl (Nat.le_of_ble_eq_true rfl) ⟨Nat.le_of_ble_eq_true rfl, Nat.le_of_ble_eq_true rfl⟩ ⟨Nat.le_refl _, Nat.le_refl _⟩ dX10_isDeciding_1 (fun H locs hw => ?_)
  have hw : wd_ G A s.heap (wl_X10_isDeciding G A_t A_t_steps A_t_wet A_t_where A_t_home A_t_light A_t_carries A_t_sightPlace A_t_sightLight A_t_pad A_t_act A_t_whose A_t_whom A_t_tens A_t_had A_t_leaves A_t_apart A_t_stop A_t_restOf A_t_group A_t_along A_t_kept A_t_isKept c_t_foggy c_t_walkers c_t_sights c_t_padMany c_t_acts c_t_spent c_t_walks c_t_badAct c_t_badWhy c_t_keptAt c_t_isWriting c_t_steps w1) H locs := hw
  refine lv_iconst (v := 0) hx hb dX10_isDeciding_4 (by decide) ?_
  refine lv_istore_n (lv' := [(3, .int 0), (0, .ref A_t), (1, .int x1), (2, .int x2)]) hx hb dX10_isDeciding_5 rfl hl (by decide) rfl (fun ls hl => ?_)
  refine wn_X10_isDeciding_l6 hC hret (fun v6 H locs ls hf hl hw => ?_) fu_ 0 w1 _ _ _ hf (lv_sub hl [1, 2, 3, 0] rfl) hw
  refine lv_aload_n hx hb dX10_isDeciding_85 rfl (lv_at hl 0 rfl) ?_
  refine g_get hC hw fkX10_7 0 rfl rfl dX10_isDeciding_86 ?_
  refine lv_iload_n hx hb dX10_isDeciding_89 rfl (lv_at hl 1 rfl) ?_
  refine lv_iload_n hx hb dX10_isDeciding_90 rfl (lv_at hl 2 rfl) ?_
  obtain ⟨r7, hq8, hf⟩ := b1_s hf
  refine h_cSi hC hw msX10_89 (cn_X10_at l G x1 x2 r7 hq8) [] rfl (by decide) rfl hl.1 rfl (Nat.le_of_ble_eq_true rfl) ⟨Nat.le_of_ble_eq_true rfl, Nat.le_of_ble_eq_true rfl⟩ ⟨Nat.le_refl _, Nat.le_refl _⟩ dX10_isDeciding_91 (fun H locs hw => ?_)
  obtain ⟨hi, hf⟩ := ck_s hf
  refine g_iald hC hw 1 rfl hi dX10_isDeciding_94 ?_
  refine lv_if_le (tgt := 117) hx hb dX10_isDeciding_95 (by decide) (fun hc => ?_) (fun hc => ?_)
  · replace hf := it_t hc hf
    refine lv_iconst (v := 0) hx hb dX10_isDeciding_117 (by decide) ?_
    obtain ⟨h1_, h2_⟩ := t2_ hf
    subst h1_
    subst h2_
    exact hret _ _ _ _ rfl dX10_isDeciding_118 hw
  · replace hf := it_f hc hf
    refine lv_aload_n hx hb dX10_isDeciding_98 rfl (lv_at hl 0 rfl) ?_
    refine g_get hC hw fkX10_64 0 rfl rfl dX10_isDeciding_99 ?_
    refine lv_iload_n hx hb dX10_isDeciding_102 rfl (lv_at hl 1 rfl) ?_
    obtain ⟨hi, hf⟩ := ck_s hf
    refine g_iald hC hw 2 rfl hi dX10_isDeciding_103 ?_
    refine lv_aload_n hx hb dX10_isDeciding_104 rfl (lv_at hl 0 rfl) ?_
    refine g_get hC hw fkX10_64 0 rfl rfl dX10_isDeciding_105 ?_
    refine lv_iload_n hx hb dX10_isDeciding_108 rfl (lv_at hl 2 rfl) ?_
    obtain ⟨hi, hf⟩ := ck_s hf
    refine g_iald hC hw 2 rfl hi dX10_isDeciding_109 ?_
    refine lv_icmp_eq (tgt := 117) hx hb dX10_isDeciding_110 (by decide) (fun hc => ?_) (fun hc => ?_)
    · replace hf := it_t hc hf
      refine lv_iconst (v := 0) hx hb dX10_isDeciding_117 (by decide) ?_
      obtain ⟨h1_, h2_⟩ := t2_ hf
      subst h1_
      subst h2_
      exact hret _ _ _ _ rfl dX10_isDeciding_118 hw
    · replace hf := it_f hc hf
      refine lv_iconst (v := 1) hx hb dX10_isDeciding_113 (by decide) ?_
      refine lv_goto (tgt := 118) hx hb dX10_isDeciding_114 (by decide) ?_
      obtain ⟨h1_, h2_⟩ := t2_ hf
      subst h1_
      subst h2_
      exact hret _ _ _ _ rfl dX10_isDeciding_118 hw
set_option maxHeartbeats 4000000 in
set_option maxRecDepth 100000 in
theorem cn_X10_isDeciding (l : Launch) (G : gw_) (A_t : Nat) (A_t_steps : Nat) (A_t_wet : Nat) (A_t_where : Nat) (A_t_home : Nat) (A_t_light : Nat) (A_t_carries : Nat) (A_t_sightPlace : Nat) (A_t_sightLight : Nat) (A_t_pad : Nat) (A_t_act : Nat) (A_t_whose : Nat) (A_t_whom : Nat) (A_t_tens : Nat) (A_t_had : Nat) (A_t_leaves : Nat) (A_t_apart : Nat) (A_t_stop : Nat) (A_t_restOf : Nat) (A_t_group : Nat) (A_t_along : Nat) (A_t_kept : Nat) (A_t_isKept : Nat) (c_t_foggy : Int32) (c_t_walkers : Int32) (c_t_sights : Int32) (c_t_padMany : Int32) (c_t_acts : Int32) (c_t_spent : Int32) (c_t_walks : Int32) (c_t_badAct : Int32) (c_t_badWhy : Int32) (c_t_keptAt : Int32) (c_t_isWriting : Int32) (c_t_steps : Nat → Int32) (c_t_group : Nat → Int32) (x1 : Int32) (x2 : Int32) (r : Int32) (z_t_group : Nat → Int32) (hf : fn_X10_isDeciding c_t_steps c_t_group x1 x2 = some (r, z_t_group)) : ci_ l G yX10_isDeciding cX10_isDeciding 7 (some .boolean) 1 25 (wl_X10_isDeciding G A_t A_t_steps A_t_wet A_t_where A_t_home A_t_light A_t_carries A_t_sightPlace A_t_sightLight A_t_pad A_t_act A_t_whose A_t_whom A_t_tens A_t_had A_t_leaves A_t_apart A_t_stop A_t_restOf A_t_group A_t_along A_t_kept A_t_isKept c_t_foggy c_t_walkers c_t_sights c_t_padMany c_t_acts c_t_spent c_t_walks c_t_badAct c_t_badWhy c_t_keptAt c_t_isWriting c_t_steps c_t_group) [.ref A_t, .int x1, .int x2] r (wl_X10_isDeciding G A_t A_t_steps A_t_wet A_t_where A_t_home A_t_light A_t_carries A_t_sightPlace A_t_sightLight A_t_pad A_t_act A_t_whose A_t_whom A_t_tens A_t_had A_t_leaves A_t_apart A_t_stop A_t_restOf A_t_group A_t_along A_t_kept A_t_isKept c_t_foggy c_t_walkers c_t_sights c_t_padMany c_t_acts c_t_spent c_t_walks c_t_badAct c_t_badWhy c_t_keptAt c_t_isWriting c_t_steps z_t_group) := fun sz => met_intro (by decide) (Nat.le_of_ble_eq_true rfl) (fun p e s m args below meth c ls hsz hC hr hlk hnm hl hw => wn_X10_isDeciding hC (fun pc H locs ls hn hd hw => g_iret hC hr hlk hw rfl hn hd) hf hl hw)

theorem dX10_decides_0 : decode cX10_decides 0 = .ok (.iconst 0, 1) := by decide +kernel
theorem dX10_decides_1 : decode cX10_decides 1 = .ok (.istore_n 2, 1) := by decide +kernel
theorem dX10_decides_2 : decode cX10_decides 2 = .ok (.iconst 0, 1) := by decide +kernel
theorem dX10_decides_3 : decode cX10_decides 3 = .ok (.istore_n 3, 1) := by decide +kernel
theorem dX10_decides_4 : decode cX10_decides 4 = .ok (.iload_n 3, 1) := by decide +kernel
theorem dX10_decides_5 : decode cX10_decides 5 = .ok (.bipush 12, 2) := by decide +kernel
theorem dX10_decides_7 : decode cX10_decides 7 = .ok (.if_icmp .ge 52, 3) := by decide +kernel
theorem dX10_decides_10 : decode cX10_decides 10 = .ok (.iload_n 3, 1) := by decide +kernel
theorem dX10_decides_11 : decode cX10_decides 11 = .ok (.iconst 1, 1) := by decide +kernel
theorem dX10_decides_12 : decode cX10_decides 12 = .ok (.iadd, 1) := by decide +kernel
theorem dX10_decides_13 : decode cX10_decides 13 = .ok (.istore 4, 2) := by decide +kernel
theorem dX10_decides_15 : decode cX10_decides 15 = .ok (.iload 4, 2) := by decide +kernel
theorem dX10_decides_17 : decode cX10_decides 17 = .ok (.bipush 12, 2) := by decide +kernel
theorem dX10_decides_19 : decode cX10_decides 19 = .ok (.if_icmp .ge 34, 3) := by decide +kernel
theorem dX10_decides_22 : decode cX10_decides 22 = .ok (.aload_n 0, 1) := by decide +kernel
theorem dX10_decides_23 : decode cX10_decides 23 = .ok (.iload_n 3, 1) := by decide +kernel
theorem dX10_decides_24 : decode cX10_decides 24 = .ok (.iload 4, 2) := by decide +kernel
theorem dX10_decides_26 : decode cX10_decides 26 = .ok (.invokevirtual 245, 3) := by decide +kernel
theorem dX10_decides_29 : decode cX10_decides 29 = .ok (.ifCond .eq 18, 3) := by decide +kernel
theorem dX10_decides_32 : decode cX10_decides 32 = .ok (.iload_n 2, 1) := by decide +kernel
theorem dX10_decides_33 : decode cX10_decides 33 = .ok (.iload_n 1, 1) := by decide +kernel
theorem dX10_decides_34 : decode cX10_decides 34 = .ok (.if_icmp .ne 10, 3) := by decide +kernel
theorem dX10_decides_37 : decode cX10_decides 37 = .ok (.iload_n 3, 1) := by decide +kernel
theorem dX10_decides_38 : decode cX10_decides 38 = .ok (.iload 4, 2) := by decide +kernel
theorem dX10_decides_40 : decode cX10_decides 40 = .ok (.invokestatic 89, 3) := by decide +kernel
theorem dX10_decides_43 : decode cX10_decides 43 = .ok (.ireturn, 1) := by decide +kernel
theorem dX10_decides_44 : decode cX10_decides 44 = .ok (.iinc 2 1, 3) := by decide +kernel
theorem dX10_decides_47 : decode cX10_decides 47 = .ok (.iinc 4 1, 3) := by decide +kernel
theorem dX10_decides_50 : decode cX10_decides 50 = .ok (.goto (-35), 3) := by decide +kernel
theorem dX10_decides_53 : decode cX10_decides 53 = .ok (.iinc 3 1, 3) := by decide +kernel
theorem dX10_decides_56 : decode cX10_decides 56 = .ok (.goto (-52), 3) := by decide +kernel
theorem dX10_decides_59 : decode cX10_decides 59 = .ok (.iload_n 1, 1) := by decide +kernel
theorem dX10_decides_60 : decode cX10_decides 60 = .ok (.iconst (-1), 1) := by decide +kernel
theorem dX10_decides_61 : decode cX10_decides 61 = .ok (.if_icmp .ne 7, 3) := by decide +kernel
theorem dX10_decides_64 : decode cX10_decides 64 = .ok (.iload_n 2, 1) := by decide +kernel
theorem dX10_decides_65 : decode cX10_decides 65 = .ok (.goto 5, 3) := by decide +kernel
theorem dX10_decides_68 : decode cX10_decides 68 = .ok (.bipush (-6), 2) := by decide +kernel
theorem dX10_decides_70 : decode cX10_decides 70 = .ok (.ireturn, 1) := by decide +kernel
abbrev wl_X10_decides (G : gw_) (A_t : Nat) (A_t_steps : Nat) (A_t_wet : Nat) (A_t_where : Nat) (A_t_home : Nat) (A_t_light : Nat) (A_t_carries : Nat) (A_t_sightPlace : Nat) (A_t_sightLight : Nat) (A_t_pad : Nat) (A_t_act : Nat) (A_t_whose : Nat) (A_t_whom : Nat) (A_t_tens : Nat) (A_t_had : Nat) (A_t_leaves : Nat) (A_t_apart : Nat) (A_t_stop : Nat) (A_t_restOf : Nat) (A_t_group : Nat) (A_t_along : Nat) (A_t_kept : Nat) (A_t_isKept : Nat) (c_t_foggy : Int32) (c_t_walkers : Int32) (c_t_sights : Int32) (c_t_padMany : Int32) (c_t_acts : Int32) (c_t_spent : Int32) (c_t_walks : Int32) (c_t_badAct : Int32) (c_t_badWhy : Int32) (c_t_keptAt : Int32) (c_t_isWriting : Int32) (c_t_steps : Nat → Int32) (c_t_group : Nat → Int32) : va_W := [ob_ A_t 10 [.ref A_t_steps, .ref A_t_wet, .int c_t_foggy, .int c_t_walkers, .ref A_t_where, .ref A_t_home, .ref A_t_light, .ref A_t_carries, .ref A_t_sightPlace, .ref A_t_sightLight, .int c_t_sights, .ref A_t_pad, .int c_t_padMany, .ref A_t_act, .ref A_t_whose, .ref A_t_whom, .ref A_t_tens, .int c_t_acts, .int c_t_spent, .int c_t_walks, .ref A_t_had, .ref A_t_leaves, .int c_t_badAct, .int c_t_badWhy, .ref A_t_apart, .ref A_t_stop, .ref A_t_restOf, .ref A_t_group, .ref A_t_along, .ref A_t_kept, .ref A_t_isKept, .int c_t_keptAt, .int c_t_isWriting], ia_ G A_t_steps 144 c_t_steps, ia_ G A_t_group 12 c_t_group]
def fn_X10_decides_b15 (c_t_steps : Nat → Int32) (x1 : Int32) (x3 : Int32) (rc : Int32 → Int32 → (Nat → Int32) → Option (Int32 × (Nat → Int32))) (k : Int32 → (Nat → Int32) → Option (Int32 × (Nat → Int32))) (x2 : Int32) (x4 : Int32) (c_t_group : Nat → Int32) : Option (Int32 × (Nat → Int32)) :=
  if 12 ≤ x4 then
    k x2 c_t_group
  else
    b2_ (fn_X10_isDeciding c_t_steps c_t_group x3 x4) fun r1 w2 =>
    if r1 = 0 then
      rc x2 (x4 + 1) w2
    else
      if x2 = x1 then
        b1_ (fn_X10_at x3 x4) fun r4 =>
        some (r4, w2)
      else
        rc (x2 + 1) (x4 + 1) w2
def fn_X10_decides_l15 (c_t_steps : Nat → Int32) (x1 : Int32) (x3 : Int32) (k : Int32 → (Nat → Int32) → Option (Int32 × (Nat → Int32))) : Nat → Int32 → Int32 → (Nat → Int32) → Option (Int32 × (Nat → Int32))
  | 0 => fun _ _ _ => none
  | n + 1 => fun x2 x4 c_t_group => fn_X10_decides_b15 c_t_steps x1 x3 (fn_X10_decides_l15 c_t_steps x1 x3 k n) k x2 x4 c_t_group
def fn_X10_decides_b4 (c_t_steps : Nat → Int32) (x1 : Int32) (rc : Int32 → Int32 → (Nat → Int32) → Option (Int32 × (Nat → Int32))) (k : Int32 → (Nat → Int32) → Option (Int32 × (Nat → Int32))) (x2 : Int32) (x3 : Int32) (c_t_group : Nat → Int32) : Option (Int32 × (Nat → Int32)) :=
  if 12 ≤ x3 then
    k x2 c_t_group
  else
    fn_X10_decides_l15 c_t_steps x1 x3 (fun v6 v7 =>
      rc v6 (x3 + 1) v7) fu_ x2 (x3 + 1) c_t_group
def fn_X10_decides_l4 (c_t_steps : Nat → Int32) (x1 : Int32) (k : Int32 → (Nat → Int32) → Option (Int32 × (Nat → Int32))) : Nat → Int32 → Int32 → (Nat → Int32) → Option (Int32 × (Nat → Int32))
  | 0 => fun _ _ _ => none
  | n + 1 => fun x2 x3 c_t_group => fn_X10_decides_b4 c_t_steps x1 (fn_X10_decides_l4 c_t_steps x1 k n) k x2 x3 c_t_group
def fn_X10_decides (c_t_steps : Nat → Int32) (c_t_group : Nat → Int32) (x1 : Int32) : Option (Int32 × (Nat → Int32)) :=
  fn_X10_decides_l4 c_t_steps x1 (fun v8 v9 =>
    if x1 = (-1) then
      some (v8, v9)
    else
      some ((-6), v9)) fu_ 0 0 c_t_group
set_option maxHeartbeats 4000000 in
set_option maxRecDepth 100000 in
theorem wn_X10_decides_l15 {p : Program} {l : Launch} {e : Env} {s : State} {m : MethodId} {args : Array Value} {below : List Frame} {meth : Method} {c : Code} {G : gw_} {A : Nat → Prop} {Q : State → Prop} {A_t : Nat} {A_t_steps : Nat} {A_t_wet : Nat} {A_t_where : Nat} {A_t_home : Nat} {A_t_light : Nat} {A_t_carries : Nat} {A_t_sightPlace : Nat} {A_t_sightLight : Nat} {A_t_pad : Nat} {A_t_act : Nat} {A_t_whose : Nat} {A_t_whom : Nat} {A_t_tens : Nat} {A_t_had : Nat} {A_t_leaves : Nat} {A_t_apart : Nat} {A_t_stop : Nat} {A_t_restOf : Nat} {A_t_group : Nat} {A_t_along : Nat} {A_t_kept : Nat} {A_t_isKept : Nat} {c_t_foggy : Int32} {c_t_walkers : Int32} {c_t_sights : Int32} {c_t_padMany : Int32} {c_t_acts : Int32} {c_t_spent : Int32} {c_t_walks : Int32} {c_t_badAct : Int32} {c_t_badWhy : Int32} {c_t_keptAt : Int32} {c_t_isWriting : Int32} {c_t_steps : Nat → Int32} {z_t_group : Nat → Int32} {r : Int32} {x1 : Int32} {x3 : Int32} {k : Int32 → (Nat → Int32) → Option (Int32 × (Nat → Int32))} (hC : cx_ p s m c G cX10_decides 5 RX10) (hret : ∀ (pc : Nat) (H : Heap) (locs : List Loc) (ls : Array Slot), decode cX10_decides pc = .ok (.ireturn, 1) → wd_ G A s.heap (wl_X10_decides G A_t A_t_steps A_t_wet A_t_where A_t_home A_t_light A_t_carries A_t_sightPlace A_t_sightLight A_t_pad A_t_act A_t_whose A_t_whom A_t_tens A_t_had A_t_leaves A_t_apart A_t_stop A_t_restOf A_t_group A_t_along A_t_kept A_t_isKept c_t_foggy c_t_walkers c_t_sights c_t_padMany c_t_acts c_t_spent c_t_walks c_t_badAct c_t_badWhy c_t_keptAt c_t_isWriting c_t_steps z_t_group) H locs → W p l e { frames := 2, cells := 0, slots := 0, locals := 51 } s m args below meth c H locs 0 0 Q (F0 m pc ls [.int r])) (hk : ∀ (x2 : Int32) (c_t_group : Nat → Int32) (H : Heap) (locs : List Loc) (ls : Array Slot), k x2 c_t_group = some (r, z_t_group) → lv_has ls 5 [(0, .ref A_t), (1, .int x1), (2, .int x2), (3, .int x3)] → wd_ G A s.heap (wl_X10_decides G A_t A_t_steps A_t_wet A_t_where A_t_home A_t_light A_t_carries A_t_sightPlace A_t_sightLight A_t_pad A_t_act A_t_whose A_t_whom A_t_tens A_t_had A_t_leaves A_t_apart A_t_stop A_t_restOf A_t_group A_t_along A_t_kept A_t_isKept c_t_foggy c_t_walkers c_t_sights c_t_padMany c_t_acts c_t_spent c_t_walks c_t_badAct c_t_badWhy c_t_keptAt c_t_isWriting c_t_steps c_t_group) H locs → W p l e { frames := 2, cells := 0, slots := 0, locals := 51 } s m args below meth c H locs 0 0 Q (F0 m 53 ls [])) : ∀ (n : Nat) (x2 : Int32) (x4 : Int32) (c_t_group : Nat → Int32) (H : Heap) (locs : List Loc) (ls : Array Slot), fn_X10_decides_l15 c_t_steps x1 x3 k n x2 x4 c_t_group = some (r, z_t_group) → lv_has ls 5 [(0, .ref A_t), (1, .int x1), (2, .int x2), (3, .int x3), (4, .int x4)] → wd_ G A s.heap (wl_X10_decides G A_t A_t_steps A_t_wet A_t_where A_t_home A_t_light A_t_carries A_t_sightPlace A_t_sightLight A_t_pad A_t_act A_t_whose A_t_whom A_t_tens A_t_had A_t_leaves A_t_apart A_t_stop A_t_restOf A_t_group A_t_along A_t_kept A_t_isKept c_t_foggy c_t_walkers c_t_sights c_t_padMany c_t_acts c_t_spent c_t_walks c_t_badAct c_t_badWhy c_t_keptAt c_t_isWriting c_t_steps c_t_group) H locs → W p l e { frames := 2, cells := 0, slots := 0, locals := 51 } s m args below meth c H locs 0 0 Q (F0 m 15 ls []) := by
  have hx := hC.1
  have hb := hC.2.1
  intro n
  induction n with
  | zero =>
    intro x2 x4 c_t_group H locs ls hf
    cases (show (none : Option (Int32 × (Nat → Int32))) = some _ from hf)
  | succ n hrc =>
    intro x2 x4 c_t_group H locs ls hf hl hw
    replace hf : fn_X10_decides_b15 c_t_steps x1 x3 (fn_X10_decides_l15 c_t_steps x1 x3 k n) k x2 x4 c_t_group = some (r, z_t_group) := hf
    unfold fn_X10_decides_b15 at hf
    refine lv_iload hx hb dX10_decides_15 (lv_at hl 4 rfl) ?_
    refine lv_bipush (v := 12) hx hb dX10_decides_17 (by decide) ?_
    refine lv_icmp_ge (tgt := 53) hx hb dX10_decides_19 (by decide) (fun hc => ?_) (fun hc => ?_)
    · replace hf := it_t hc hf
      exact hk x2 c_t_group _ _ _ hf (lv_sub hl [0, 1, 2, 3] rfl) hw
    · replace hf := it_f hc hf
      refine lv_aload_n hx hb dX10_decides_22 rfl (lv_at hl 0 rfl) ?_
      refine lv_iload_n hx hb dX10_decides_23 rfl (lv_at hl 3 rfl) ?_
      refine lv_iload hx hb dX10_decides_24 (lv_at hl 4 rfl) ?_
      obtain ⟨r1, w2, hq3, hf⟩ := b2_s hf
      refine g_cVi hC hw mvX10_245 (cn_X10_isDeciding l G A_t A_t_steps A_t_wet A_t_where A_t_home A_t_light A_t_carries A_t_sightPlace A_t_sightLight A_t_pad A_t_act A_t_whose A_t_whom A_t_tens A_t_had A_t_leaves A_t_apart A_t_stop A_t_restOf A_t_group A_t_along A_t_kept A_t_isKept c_t_foggy c_t_walkers c_t_sights c_t_padMany c_t_acts c_t_spent c_t_walks c_t_badAct c_t_badWhy c_t_keptAt c_t_isWriting c_t_steps c_t_group x3 x4 r1 w2 hq3) [0, 1, 2] rfl (by decide) rfl 0 rfl rfl rfl hl.1 rfl (Nat.le_of_ble_eq_true rfl) ⟨Nat.le_of_ble_eq_true rfl, Nat.le_of_ble_eq_true rfl⟩ ⟨Nat.le_refl _, Nat.le_refl _⟩ dX10_decides_26 (fun H locs hw => ?_)
      have hw : wd_ G A s.heap (wl_X10_decides G A_t A_t_steps A_t_wet A_t_where A_t_home A_t_light A_t_carries A_t_sightPlace A_t_sightLight A_t_pad A_t_act A_t_whose A_t_whom A_t_tens A_t_had A_t_leaves A_t_apart A_t_stop A_t_restOf A_t_group A_t_along A_t_kept A_t_isKept c_t_foggy c_t_walkers c_t_sights c_t_padMany c_t_acts c_t_spent c_t_walks c_t_badAct c_t_badWhy c_t_keptAt c_t_isWriting c_t_steps w2) H locs := hw
      refine lv_if_eq (tgt := 47) hx hb dX10_decides_29 (by decide) (fun hc => ?_) (fun hc => ?_)
      · replace hf := it_t hc hf
        refine lv_iinc (v := x4 + 1) (lv' := [(4, .int (x4 + 1)), (0, .ref A_t), (1, .int x1), (2, .int x2), (3, .int x3)]) hx hb dX10_decides_47 hl (k := 4) rfl rfl (by decide) rfl (fun ls hl => ?_)
        refine lv_goto (tgt := 15) hx hb dX10_decides_50 (by decide) ?_
        exact hrc x2 (x4 + 1) w2 _ _ _ hf (lv_sub hl [1, 2, 3, 4, 0] rfl) hw
      · replace hf := it_f hc hf
        refine lv_iload_n hx hb dX10_decides_32 rfl (lv_at hl 2 rfl) ?_
        refine lv_iload_n hx hb dX10_decides_33 rfl (lv_at hl 1 rfl) ?_
        refine lv_icmp_ne (tgt := 44) hx hb dX10_decides_34 (by decide) (fun hc => ?_) (fun hc => ?_)
        · replace hf := it_f hc hf
          refine lv_iinc (v := x2 + 1) (lv' := [(2, .int (x2 + 1)), (0, .ref A_t), (1, .int x1), (3, .int x3), (4, .int x4)]) hx hb dX10_decides_44 hl (k := 2) rfl rfl (by decide) rfl (fun ls hl => ?_)
          refine lv_iinc (v := x4 + 1) (lv' := [(4, .int (x4 + 1)), (2, .int (x2 + 1)), (0, .ref A_t), (1, .int x1), (3, .int x3)]) hx hb dX10_decides_47 hl (k := 4) rfl rfl (by decide) rfl (fun ls hl => ?_)
          refine lv_goto (tgt := 15) hx hb dX10_decides_50 (by decide) ?_
          exact hrc (x2 + 1) (x4 + 1) w2 _ _ _ hf (lv_sub hl [2, 3, 1, 4, 0] rfl) hw
        · replace hf := it_t hc hf
          refine lv_iload_n hx hb dX10_decides_37 rfl (lv_at hl 3 rfl) ?_
          refine lv_iload hx hb dX10_decides_38 (lv_at hl 4 rfl) ?_
          obtain ⟨r4, hq5, hf⟩ := b1_s hf
          refine h_cSi hC hw msX10_89 (cn_X10_at l G x3 x4 r4 hq5) [] rfl (by decide) rfl hl.1 rfl (Nat.le_of_ble_eq_true rfl) ⟨Nat.le_of_ble_eq_true rfl, Nat.le_of_ble_eq_true rfl⟩ ⟨Nat.le_refl _, Nat.le_refl _⟩ dX10_decides_40 (fun H locs hw => ?_)
          obtain ⟨h1_, h2_⟩ := t2_ hf
          subst h1_
          subst h2_
          exact hret _ _ _ _ dX10_decides_43 hw
set_option maxHeartbeats 4000000 in
set_option maxRecDepth 100000 in
theorem wn_X10_decides_l4 {p : Program} {l : Launch} {e : Env} {s : State} {m : MethodId} {args : Array Value} {below : List Frame} {meth : Method} {c : Code} {G : gw_} {A : Nat → Prop} {Q : State → Prop} {A_t : Nat} {A_t_steps : Nat} {A_t_wet : Nat} {A_t_where : Nat} {A_t_home : Nat} {A_t_light : Nat} {A_t_carries : Nat} {A_t_sightPlace : Nat} {A_t_sightLight : Nat} {A_t_pad : Nat} {A_t_act : Nat} {A_t_whose : Nat} {A_t_whom : Nat} {A_t_tens : Nat} {A_t_had : Nat} {A_t_leaves : Nat} {A_t_apart : Nat} {A_t_stop : Nat} {A_t_restOf : Nat} {A_t_group : Nat} {A_t_along : Nat} {A_t_kept : Nat} {A_t_isKept : Nat} {c_t_foggy : Int32} {c_t_walkers : Int32} {c_t_sights : Int32} {c_t_padMany : Int32} {c_t_acts : Int32} {c_t_spent : Int32} {c_t_walks : Int32} {c_t_badAct : Int32} {c_t_badWhy : Int32} {c_t_keptAt : Int32} {c_t_isWriting : Int32} {c_t_steps : Nat → Int32} {z_t_group : Nat → Int32} {r : Int32} {x1 : Int32} {k : Int32 → (Nat → Int32) → Option (Int32 × (Nat → Int32))} (hC : cx_ p s m c G cX10_decides 5 RX10) (hret : ∀ (pc : Nat) (H : Heap) (locs : List Loc) (ls : Array Slot), decode cX10_decides pc = .ok (.ireturn, 1) → wd_ G A s.heap (wl_X10_decides G A_t A_t_steps A_t_wet A_t_where A_t_home A_t_light A_t_carries A_t_sightPlace A_t_sightLight A_t_pad A_t_act A_t_whose A_t_whom A_t_tens A_t_had A_t_leaves A_t_apart A_t_stop A_t_restOf A_t_group A_t_along A_t_kept A_t_isKept c_t_foggy c_t_walkers c_t_sights c_t_padMany c_t_acts c_t_spent c_t_walks c_t_badAct c_t_badWhy c_t_keptAt c_t_isWriting c_t_steps z_t_group) H locs → W p l e { frames := 2, cells := 0, slots := 0, locals := 51 } s m args below meth c H locs 0 0 Q (F0 m pc ls [.int r])) (hk : ∀ (x2 : Int32) (c_t_group : Nat → Int32) (H : Heap) (locs : List Loc) (ls : Array Slot), k x2 c_t_group = some (r, z_t_group) → lv_has ls 5 [(1, .int x1), (2, .int x2)] → wd_ G A s.heap (wl_X10_decides G A_t A_t_steps A_t_wet A_t_where A_t_home A_t_light A_t_carries A_t_sightPlace A_t_sightLight A_t_pad A_t_act A_t_whose A_t_whom A_t_tens A_t_had A_t_leaves A_t_apart A_t_stop A_t_restOf A_t_group A_t_along A_t_kept A_t_isKept c_t_foggy c_t_walkers c_t_sights c_t_padMany c_t_acts c_t_spent c_t_walks c_t_badAct c_t_badWhy c_t_keptAt c_t_isWriting c_t_steps c_t_group) H locs → W p l e { frames := 2, cells := 0, slots := 0, locals := 51 } s m args below meth c H locs 0 0 Q (F0 m 59 ls [])) : ∀ (n : Nat) (x2 : Int32) (x3 : Int32) (c_t_group : Nat → Int32) (H : Heap) (locs : List Loc) (ls : Array Slot), fn_X10_decides_l4 c_t_steps x1 k n x2 x3 c_t_group = some (r, z_t_group) → lv_has ls 5 [(0, .ref A_t), (1, .int x1), (2, .int x2), (3, .int x3)] → wd_ G A s.heap (wl_X10_decides G A_t A_t_steps A_t_wet A_t_where A_t_home A_t_light A_t_carries A_t_sightPlace A_t_sightLight A_t_pad A_t_act A_t_whose A_t_whom A_t_tens A_t_had A_t_leaves A_t_apart A_t_stop A_t_restOf A_t_group A_t_along A_t_kept A_t_isKept c_t_foggy c_t_walkers c_t_sights c_t_padMany c_t_acts c_t_spent c_t_walks c_t_badAct c_t_badWhy c_t_keptAt c_t_isWriting c_t_steps c_t_group) H locs → W p l e { frames := 2, cells := 0, slots := 0, locals := 51 } s m args below meth c H locs 0 0 Q (F0 m 4 ls []) := by
  have hx := hC.1
  have hb := hC.2.1
  intro n
  induction n with
  | zero =>
    intro x2 x3 c_t_group H locs ls hf
    cases (show (none : Option (Int32 × (Nat → Int32))) = some _ from hf)
  | succ n hrc =>
    intro x2 x3 c_t_group H locs ls hf hl hw
    replace hf : fn_X10_decides_b4 c_t_steps x1 (fn_X10_decides_l4 c_t_steps x1 k n) k x2 x3 c_t_group = some (r, z_t_group) := hf
    unfold fn_X10_decides_b4 at hf
    refine lv_iload_n hx hb dX10_decides_4 rfl (lv_at hl 3 rfl) ?_
    refine lv_bipush (v := 12) hx hb dX10_decides_5 (by decide) ?_
    refine lv_icmp_ge (tgt := 59) hx hb dX10_decides_7 (by decide) (fun hc => ?_) (fun hc => ?_)
    · replace hf := it_t hc hf
      exact hk x2 c_t_group _ _ _ hf (lv_sub hl [1, 2] rfl) hw
    · replace hf := it_f hc hf
      refine lv_iload_n hx hb dX10_decides_10 rfl (lv_at hl 3 rfl) ?_
      refine lv_iconst (v := 1) hx hb dX10_decides_11 (by decide) ?_
      refine lv_iadd hx hb dX10_decides_12 ?_
      refine lv_istore (lv' := [(4, .int (x3 + 1)), (0, .ref A_t), (1, .int x1), (2, .int x2), (3, .int x3)]) hx hb dX10_decides_13 hl (by decide) rfl (fun ls hl => ?_)
      refine wn_X10_decides_l15 hC hret (fun v6 v7 H locs ls hf hl hw => ?_) fu_ x2 (x3 + 1) c_t_group _ _ _ hf (lv_sub hl [1, 2, 3, 4, 0] rfl) hw
      refine lv_iinc (v := x3 + 1) (lv' := [(3, .int (x3 + 1)), (0, .ref A_t), (1, .int x1), (2, .int v6)]) hx hb dX10_decides_53 hl (k := 3) rfl rfl (by decide) rfl (fun ls hl => ?_)
      refine lv_goto (tgt := 4) hx hb dX10_decides_56 (by decide) ?_
      exact hrc v6 (x3 + 1) v7 _ _ _ hf (lv_sub hl [1, 2, 3, 0] rfl) hw
set_option maxHeartbeats 4000000 in
set_option maxRecDepth 100000 in
theorem wn_X10_decides {p : Program} {l : Launch} {e : Env} {s : State} {m : MethodId} {args : Array Value} {below : List Frame} {meth : Method} {c : Code} {G : gw_} {A : Nat → Prop} {Q : State → Prop} {A_t : Nat} {A_t_steps : Nat} {A_t_wet : Nat} {A_t_where : Nat} {A_t_home : Nat} {A_t_light : Nat} {A_t_carries : Nat} {A_t_sightPlace : Nat} {A_t_sightLight : Nat} {A_t_pad : Nat} {A_t_act : Nat} {A_t_whose : Nat} {A_t_whom : Nat} {A_t_tens : Nat} {A_t_had : Nat} {A_t_leaves : Nat} {A_t_apart : Nat} {A_t_stop : Nat} {A_t_restOf : Nat} {A_t_group : Nat} {A_t_along : Nat} {A_t_kept : Nat} {A_t_isKept : Nat} {c_t_foggy : Int32} {c_t_walkers : Int32} {c_t_sights : Int32} {c_t_padMany : Int32} {c_t_acts : Int32} {c_t_spent : Int32} {c_t_walks : Int32} {c_t_badAct : Int32} {c_t_badWhy : Int32} {c_t_keptAt : Int32} {c_t_isWriting : Int32} {c_t_steps : Nat → Int32} {c_t_group : Nat → Int32} {z_t_group : Nat → Int32} {r : Int32} {x1 : Int32} (hC : cx_ p s m c G cX10_decides 5 RX10) (hret : ∀ (pc : Nat) (H : Heap) (locs : List Loc) (ls : Array Slot), decode cX10_decides pc = .ok (.ireturn, 1) → wd_ G A s.heap (wl_X10_decides G A_t A_t_steps A_t_wet A_t_where A_t_home A_t_light A_t_carries A_t_sightPlace A_t_sightLight A_t_pad A_t_act A_t_whose A_t_whom A_t_tens A_t_had A_t_leaves A_t_apart A_t_stop A_t_restOf A_t_group A_t_along A_t_kept A_t_isKept c_t_foggy c_t_walkers c_t_sights c_t_padMany c_t_acts c_t_spent c_t_walks c_t_badAct c_t_badWhy c_t_keptAt c_t_isWriting c_t_steps z_t_group) H locs → W p l e { frames := 2, cells := 0, slots := 0, locals := 51 } s m args below meth c H locs 0 0 Q (F0 m pc ls [.int r])) (hf : fn_X10_decides c_t_steps c_t_group x1 = some (r, z_t_group)) {H : Heap} {locs : List Loc} {ls : Array Slot} (hl : lv_has ls 5 [(0, .ref A_t), (1, .int x1)]) (hw : wd_ G A s.heap (wl_X10_decides G A_t A_t_steps A_t_wet A_t_where A_t_home A_t_light A_t_carries A_t_sightPlace A_t_sightLight A_t_pad A_t_act A_t_whose A_t_whom A_t_tens A_t_had A_t_leaves A_t_apart A_t_stop A_t_restOf A_t_group A_t_along A_t_kept A_t_isKept c_t_foggy c_t_walkers c_t_sights c_t_padMany c_t_acts c_t_spent c_t_walks c_t_badAct c_t_badWhy c_t_keptAt c_t_isWriting c_t_steps c_t_group) H locs) : W p l e { frames := 2, cells := 0, slots := 0, locals := 51 } s m args below meth c H locs 0 0 Q (F0 m 0 ls []) := by
  have hx := hC.1
  have hb := hC.2.1
  unfold fn_X10_decides at hf
  refine lv_iconst (v := 0) hx hb dX10_decides_0 (by decide) ?_
  refine lv_istore_n (lv' := [(2, .int 0), (0, .ref A_t), (1, .int x1)]) hx hb dX10_decides_1 rfl hl (by decide) rfl (fun ls hl => ?_)
  refine lv_iconst (v := 0) hx hb dX10_decides_2 (by decide) ?_
  refine lv_istore_n (lv' := [(3, .int 0), (2, .int 0), (0, .ref A_t), (1, .int x1)]) hx hb dX10_decides_3 rfl hl (by decide) rfl (fun ls hl => ?_)
  refine wn_X10_decides_l4 hC hret (fun v8 v9 H locs ls hf hl hw => ?_) fu_ 0 0 c_t_group _ _ _ hf (lv_sub hl [2, 3, 1, 0] rfl) hw
  refine lv_iload_n hx hb dX10_decides_59 rfl (lv_at hl 0 rfl) ?_
  refine lv_iconst (v := (-1)) hx hb dX10_decides_60 (by decide) ?_
  refine lv_icmp_ne (tgt := 68) hx hb dX10_decides_61 (by decide) (fun hc => ?_) (fun hc => ?_)
  · replace hf := it_f hc hf
    refine lv_bipush (v := (-6)) hx hb dX10_decides_68 (by decide) ?_
    obtain ⟨h1_, h2_⟩ := t2_ hf
    subst h1_
    subst h2_
    exact hret _ _ _ _ dX10_decides_70 hw
  · replace hf := it_t hc hf
    refine lv_iload_n hx hb dX10_decides_64 rfl (lv_at hl 1 rfl) ?_
    refine lv_goto (tgt := 70) hx hb dX10_decides_65 (by decide) ?_
    obtain ⟨h1_, h2_⟩ := t2_ hf
    subst h1_
    subst h2_
    exact hret _ _ _ _ dX10_decides_70 hw
set_option maxHeartbeats 4000000 in
set_option maxRecDepth 100000 in
theorem cn_X10_decides (l : Launch) (G : gw_) (A_t : Nat) (A_t_steps : Nat) (A_t_wet : Nat) (A_t_where : Nat) (A_t_home : Nat) (A_t_light : Nat) (A_t_carries : Nat) (A_t_sightPlace : Nat) (A_t_sightLight : Nat) (A_t_pad : Nat) (A_t_act : Nat) (A_t_whose : Nat) (A_t_whom : Nat) (A_t_tens : Nat) (A_t_had : Nat) (A_t_leaves : Nat) (A_t_apart : Nat) (A_t_stop : Nat) (A_t_restOf : Nat) (A_t_group : Nat) (A_t_along : Nat) (A_t_kept : Nat) (A_t_isKept : Nat) (c_t_foggy : Int32) (c_t_walkers : Int32) (c_t_sights : Int32) (c_t_padMany : Int32) (c_t_acts : Int32) (c_t_spent : Int32) (c_t_walks : Int32) (c_t_badAct : Int32) (c_t_badWhy : Int32) (c_t_keptAt : Int32) (c_t_isWriting : Int32) (c_t_steps : Nat → Int32) (c_t_group : Nat → Int32) (x1 : Int32) (r : Int32) (z_t_group : Nat → Int32) (hf : fn_X10_decides c_t_steps c_t_group x1 = some (r, z_t_group)) : ci_ l G yX10_decides cX10_decides 5 (some .int) 2 51 (wl_X10_decides G A_t A_t_steps A_t_wet A_t_where A_t_home A_t_light A_t_carries A_t_sightPlace A_t_sightLight A_t_pad A_t_act A_t_whose A_t_whom A_t_tens A_t_had A_t_leaves A_t_apart A_t_stop A_t_restOf A_t_group A_t_along A_t_kept A_t_isKept c_t_foggy c_t_walkers c_t_sights c_t_padMany c_t_acts c_t_spent c_t_walks c_t_badAct c_t_badWhy c_t_keptAt c_t_isWriting c_t_steps c_t_group) [.ref A_t, .int x1] r (wl_X10_decides G A_t A_t_steps A_t_wet A_t_where A_t_home A_t_light A_t_carries A_t_sightPlace A_t_sightLight A_t_pad A_t_act A_t_whose A_t_whom A_t_tens A_t_had A_t_leaves A_t_apart A_t_stop A_t_restOf A_t_group A_t_along A_t_kept A_t_isKept c_t_foggy c_t_walkers c_t_sights c_t_padMany c_t_acts c_t_spent c_t_walks c_t_badAct c_t_badWhy c_t_keptAt c_t_isWriting c_t_steps z_t_group) := fun sz => met_intro (by decide) (Nat.le_of_ble_eq_true rfl) (fun p e s m args below meth c ls hsz hC hr hlk hnm hl hw => wn_X10_decides hC (fun pc H locs ls hd hw => g_iret hC hr hlk hw rfl rfl hd) hf hl hw)

theorem dX10_cheapestBetween_0 : decode cX10_cheapestBetween 0 = .ok (.bipush (-6), 2) := by decide +kernel
theorem dX10_cheapestBetween_2 : decode cX10_cheapestBetween 2 = .ok (.istore_n 1, 1) := by decide +kernel
theorem dX10_cheapestBetween_3 : decode cX10_cheapestBetween 3 = .ok (.iconst 0, 1) := by decide +kernel
theorem dX10_cheapestBetween_4 : decode cX10_cheapestBetween 4 = .ok (.istore_n 2, 1) := by decide +kernel
theorem dX10_cheapestBetween_5 : decode cX10_cheapestBetween 5 = .ok (.iconst 0, 1) := by decide +kernel
theorem dX10_cheapestBetween_6 : decode cX10_cheapestBetween 6 = .ok (.istore_n 3, 1) := by decide +kernel
theorem dX10_cheapestBetween_7 : decode cX10_cheapestBetween 7 = .ok (.iload_n 3, 1) := by decide +kernel
theorem dX10_cheapestBetween_8 : decode cX10_cheapestBetween 8 = .ok (.sipush 144, 3) := by decide +kernel
theorem dX10_cheapestBetween_11 : decode cX10_cheapestBetween 11 = .ok (.if_icmp .ge 76, 3) := by decide +kernel
theorem dX10_cheapestBetween_14 : decode cX10_cheapestBetween 14 = .ok (.aload_n 0, 1) := by decide +kernel
theorem dX10_cheapestBetween_15 : decode cX10_cheapestBetween 15 = .ok (.iload_n 3, 1) := by decide +kernel
theorem dX10_cheapestBetween_16 : decode cX10_cheapestBetween 16 = .ok (.bipush 12, 2) := by decide +kernel
theorem dX10_cheapestBetween_18 : decode cX10_cheapestBetween 18 = .ok (.idiv, 1) := by decide +kernel
theorem dX10_cheapestBetween_19 : decode cX10_cheapestBetween 19 = .ok (.iload_n 3, 1) := by decide +kernel
theorem dX10_cheapestBetween_20 : decode cX10_cheapestBetween 20 = .ok (.bipush 12, 2) := by decide +kernel
theorem dX10_cheapestBetween_22 : decode cX10_cheapestBetween 22 = .ok (.irem, 1) := by decide +kernel
theorem dX10_cheapestBetween_23 : decode cX10_cheapestBetween 23 = .ok (.invokevirtual 163, 3) := by decide +kernel
theorem dX10_cheapestBetween_26 : decode cX10_cheapestBetween 26 = .ok (.istore 4, 2) := by decide +kernel
theorem dX10_cheapestBetween_28 : decode cX10_cheapestBetween 28 = .ok (.iload 4, 2) := by decide +kernel
theorem dX10_cheapestBetween_30 : decode cX10_cheapestBetween 30 = .ok (.ifCond .le 28, 3) := by decide +kernel
theorem dX10_cheapestBetween_33 : decode cX10_cheapestBetween 33 = .ok (.aload_n 0, 1) := by decide +kernel
theorem dX10_cheapestBetween_34 : decode cX10_cheapestBetween 34 = .ok (.getfield 64, 3) := by decide +kernel
theorem dX10_cheapestBetween_37 : decode cX10_cheapestBetween 37 = .ok (.iload_n 3, 1) := by decide +kernel
theorem dX10_cheapestBetween_38 : decode cX10_cheapestBetween 38 = .ok (.bipush 12, 2) := by decide +kernel
theorem dX10_cheapestBetween_40 : decode cX10_cheapestBetween 40 = .ok (.idiv, 1) := by decide +kernel
theorem dX10_cheapestBetween_41 : decode cX10_cheapestBetween 41 = .ok (.iaload, 1) := by decide +kernel
theorem dX10_cheapestBetween_42 : decode cX10_cheapestBetween 42 = .ok (.aload_n 0, 1) := by decide +kernel
theorem dX10_cheapestBetween_43 : decode cX10_cheapestBetween 43 = .ok (.getfield 64, 3) := by decide +kernel
theorem dX10_cheapestBetween_46 : decode cX10_cheapestBetween 46 = .ok (.iload_n 3, 1) := by decide +kernel
theorem dX10_cheapestBetween_47 : decode cX10_cheapestBetween 47 = .ok (.bipush 12, 2) := by decide +kernel
theorem dX10_cheapestBetween_49 : decode cX10_cheapestBetween 49 = .ok (.irem, 1) := by decide +kernel
theorem dX10_cheapestBetween_50 : decode cX10_cheapestBetween 50 = .ok (.iaload, 1) := by decide +kernel
theorem dX10_cheapestBetween_51 : decode cX10_cheapestBetween 51 = .ok (.if_icmp .eq 7, 3) := by decide +kernel
theorem dX10_cheapestBetween_54 : decode cX10_cheapestBetween 54 = .ok (.iconst 1, 1) := by decide +kernel
theorem dX10_cheapestBetween_55 : decode cX10_cheapestBetween 55 = .ok (.goto 4, 3) := by decide +kernel
theorem dX10_cheapestBetween_58 : decode cX10_cheapestBetween 58 = .ok (.iconst 0, 1) := by decide +kernel
theorem dX10_cheapestBetween_59 : decode cX10_cheapestBetween 59 = .ok (.istore 5, 2) := by decide +kernel
theorem dX10_cheapestBetween_61 : decode cX10_cheapestBetween 61 = .ok (.iload 5, 2) := by decide +kernel
theorem dX10_cheapestBetween_63 : decode cX10_cheapestBetween 63 = .ok (.ifCond .eq 18, 3) := by decide +kernel
theorem dX10_cheapestBetween_66 : decode cX10_cheapestBetween 66 = .ok (.iload_n 1, 1) := by decide +kernel
theorem dX10_cheapestBetween_67 : decode cX10_cheapestBetween 67 = .ok (.ifCond .lt 9, 3) := by decide +kernel
theorem dX10_cheapestBetween_70 : decode cX10_cheapestBetween 70 = .ok (.iload 4, 2) := by decide +kernel
theorem dX10_cheapestBetween_72 : decode cX10_cheapestBetween 72 = .ok (.iload_n 2, 1) := by decide +kernel
theorem dX10_cheapestBetween_73 : decode cX10_cheapestBetween 73 = .ok (.if_icmp .ge 8, 3) := by decide +kernel
theorem dX10_cheapestBetween_76 : decode cX10_cheapestBetween 76 = .ok (.iload_n 3, 1) := by decide +kernel
theorem dX10_cheapestBetween_77 : decode cX10_cheapestBetween 77 = .ok (.istore_n 1, 1) := by decide +kernel
theorem dX10_cheapestBetween_78 : decode cX10_cheapestBetween 78 = .ok (.iload 4, 2) := by decide +kernel
theorem dX10_cheapestBetween_80 : decode cX10_cheapestBetween 80 = .ok (.istore_n 2, 1) := by decide +kernel
theorem dX10_cheapestBetween_81 : decode cX10_cheapestBetween 81 = .ok (.iinc 3 1, 3) := by decide +kernel
theorem dX10_cheapestBetween_84 : decode cX10_cheapestBetween 84 = .ok (.goto (-77), 3) := by decide +kernel
theorem dX10_cheapestBetween_87 : decode cX10_cheapestBetween 87 = .ok (.iload_n 1, 1) := by decide +kernel
theorem dX10_cheapestBetween_88 : decode cX10_cheapestBetween 88 = .ok (.ireturn, 1) := by decide +kernel
abbrev wl_X10_cheapestBetween (G : gw_) (A_t : Nat) (A_t_steps : Nat) (A_t_wet : Nat) (A_t_where : Nat) (A_t_home : Nat) (A_t_light : Nat) (A_t_carries : Nat) (A_t_sightPlace : Nat) (A_t_sightLight : Nat) (A_t_pad : Nat) (A_t_act : Nat) (A_t_whose : Nat) (A_t_whom : Nat) (A_t_tens : Nat) (A_t_had : Nat) (A_t_leaves : Nat) (A_t_apart : Nat) (A_t_stop : Nat) (A_t_restOf : Nat) (A_t_group : Nat) (A_t_along : Nat) (A_t_kept : Nat) (A_t_isKept : Nat) (c_t_foggy : Int32) (c_t_walkers : Int32) (c_t_sights : Int32) (c_t_padMany : Int32) (c_t_acts : Int32) (c_t_spent : Int32) (c_t_walks : Int32) (c_t_badAct : Int32) (c_t_badWhy : Int32) (c_t_keptAt : Int32) (c_t_isWriting : Int32) (c_t_steps : Nat → Int32) (c_t_wet : Nat → Int32) (c_t_group : Nat → Int32) : va_W := [ob_ A_t 10 [.ref A_t_steps, .ref A_t_wet, .int c_t_foggy, .int c_t_walkers, .ref A_t_where, .ref A_t_home, .ref A_t_light, .ref A_t_carries, .ref A_t_sightPlace, .ref A_t_sightLight, .int c_t_sights, .ref A_t_pad, .int c_t_padMany, .ref A_t_act, .ref A_t_whose, .ref A_t_whom, .ref A_t_tens, .int c_t_acts, .int c_t_spent, .int c_t_walks, .ref A_t_had, .ref A_t_leaves, .int c_t_badAct, .int c_t_badWhy, .ref A_t_apart, .ref A_t_stop, .ref A_t_restOf, .ref A_t_group, .ref A_t_along, .ref A_t_kept, .ref A_t_isKept, .int c_t_keptAt, .int c_t_isWriting], ia_ G A_t_steps 144 c_t_steps, ia_ G A_t_wet 144 c_t_wet, ia_ G A_t_group 12 c_t_group]
def fn_X10_cheapestBetween_j76 (x3 : Int32) (x4 : Int32) (rc : Int32 → Int32 → Int32 → Option (Int32)) (k : Int32 → Option (Int32)) : Option (Int32) :=
  rc x3 x4 (x3 + 1)
def fn_X10_cheapestBetween_j59 (x1 : Int32) (x2 : Int32) (x3 : Int32) (x4 : Int32) (s0 : Int32) (rc : Int32 → Int32 → Int32 → Option (Int32)) (k : Int32 → Option (Int32)) : Option (Int32) :=
  if s0 = 0 then
    rc x1 x2 (x3 + 1)
  else
    if x1 < 0 then
      fn_X10_cheapestBetween_j76 x3 x4 rc k
    else
      if x2 ≤ x4 then
        rc x1 x2 (x3 + 1)
      else
        fn_X10_cheapestBetween_j76 x3 x4 rc k
def fn_X10_cheapestBetween_j58 (x1 : Int32) (x2 : Int32) (x3 : Int32) (x4 : Int32) (rc : Int32 → Int32 → Int32 → Option (Int32)) (k : Int32 → Option (Int32)) : Option (Int32) :=
  fn_X10_cheapestBetween_j59 x1 x2 x3 x4 0 rc k
def fn_X10_cheapestBetween_b7 (c_t_foggy : Int32) (c_t_steps : Nat → Int32) (c_t_wet : Nat → Int32) (c_t_group : Nat → Int32) (rc : Int32 → Int32 → Int32 → Option (Int32)) (k : Int32 → Option (Int32)) (x1 : Int32) (x2 : Int32) (x3 : Int32) : Option (Int32) :=
  if 144 ≤ x3 then
    k x1
  else
    b1_ (fn_X10_cost c_t_foggy c_t_steps c_t_wet (x3 / 12) (x3 - x3 / 12 * 12)) fun r1 =>
    if r1 ≤ 0 then
      fn_X10_cheapestBetween_j58 x1 x2 x3 r1 rc k
    else
      ck_ (x3 / 12) 12 <|
      ck_ (x3 - x3 / 12 * 12) 12 <|
      if (c_t_group (Int32.toNatClampNeg (x3 / 12))) = (c_t_group (Int32.toNatClampNeg (x3 - x3 / 12 * 12))) then
        fn_X10_cheapestBetween_j58 x1 x2 x3 r1 rc k
      else
        fn_X10_cheapestBetween_j59 x1 x2 x3 r1 1 rc k
def fn_X10_cheapestBetween_l7 (c_t_foggy : Int32) (c_t_steps : Nat → Int32) (c_t_wet : Nat → Int32) (c_t_group : Nat → Int32) (k : Int32 → Option (Int32)) : Nat → Int32 → Int32 → Int32 → Option (Int32)
  | 0 => fun _ _ _ => none
  | n + 1 => fun x1 x2 x3 => fn_X10_cheapestBetween_b7 c_t_foggy c_t_steps c_t_wet c_t_group (fn_X10_cheapestBetween_l7 c_t_foggy c_t_steps c_t_wet c_t_group k n) k x1 x2 x3
def fn_X10_cheapestBetween (c_t_foggy : Int32) (c_t_steps : Nat → Int32) (c_t_wet : Nat → Int32) (c_t_group : Nat → Int32) : Option (Int32) :=
  fn_X10_cheapestBetween_l7 c_t_foggy c_t_steps c_t_wet c_t_group (fun v3 =>
    some v3) fu_ (-6) 0 0
set_option maxHeartbeats 4000000 in
set_option maxRecDepth 100000 in
theorem wn_X10_cheapestBetween_j76 {p : Program} {l : Launch} {e : Env} {s : State} {m : MethodId} {args : Array Value} {below : List Frame} {meth : Method} {c : Code} {G : gw_} {A : Nat → Prop} {Q : State → Prop} {A_t : Nat} {A_t_steps : Nat} {A_t_wet : Nat} {A_t_where : Nat} {A_t_home : Nat} {A_t_light : Nat} {A_t_carries : Nat} {A_t_sightPlace : Nat} {A_t_sightLight : Nat} {A_t_pad : Nat} {A_t_act : Nat} {A_t_whose : Nat} {A_t_whom : Nat} {A_t_tens : Nat} {A_t_had : Nat} {A_t_leaves : Nat} {A_t_apart : Nat} {A_t_stop : Nat} {A_t_restOf : Nat} {A_t_group : Nat} {A_t_along : Nat} {A_t_kept : Nat} {A_t_isKept : Nat} {c_t_foggy : Int32} {c_t_walkers : Int32} {c_t_sights : Int32} {c_t_padMany : Int32} {c_t_acts : Int32} {c_t_spent : Int32} {c_t_walks : Int32} {c_t_badAct : Int32} {c_t_badWhy : Int32} {c_t_keptAt : Int32} {c_t_isWriting : Int32} {c_t_steps : Nat → Int32} {c_t_wet : Nat → Int32} {c_t_group : Nat → Int32} {r : Int32} {x3 : Int32} {x4 : Int32} {rc : Int32 → Int32 → Int32 → Option (Int32)} {k : Int32 → Option (Int32)} (hC : cx_ p s m c G cX10_cheapestBetween 6 RX10) (hret : ∀ (pc : Nat) (H : Heap) (locs : List Loc) (ls : Array Slot), decode cX10_cheapestBetween pc = .ok (.ireturn, 1) → wd_ G A s.heap (wl_X10_cheapestBetween G A_t A_t_steps A_t_wet A_t_where A_t_home A_t_light A_t_carries A_t_sightPlace A_t_sightLight A_t_pad A_t_act A_t_whose A_t_whom A_t_tens A_t_had A_t_leaves A_t_apart A_t_stop A_t_restOf A_t_group A_t_along A_t_kept A_t_isKept c_t_foggy c_t_walkers c_t_sights c_t_padMany c_t_acts c_t_spent c_t_walks c_t_badAct c_t_badWhy c_t_keptAt c_t_isWriting c_t_steps c_t_wet c_t_group) H locs → W p l e { frames := 3, cells := 0, slots := 0, locals := 67 } s m args below meth c H locs 0 0 Q (F0 m pc ls [.int r])) (hrc : ∀ (x1 : Int32) (x2 : Int32) (x3 : Int32) (H : Heap) (locs : List Loc) (ls : Array Slot), rc x1 x2 x3 = some r → lv_has ls 6 [(0, .ref A_t), (1, .int x1), (2, .int x2), (3, .int x3)] → wd_ G A s.heap (wl_X10_cheapestBetween G A_t A_t_steps A_t_wet A_t_where A_t_home A_t_light A_t_carries A_t_sightPlace A_t_sightLight A_t_pad A_t_act A_t_whose A_t_whom A_t_tens A_t_had A_t_leaves A_t_apart A_t_stop A_t_restOf A_t_group A_t_along A_t_kept A_t_isKept c_t_foggy c_t_walkers c_t_sights c_t_padMany c_t_acts c_t_spent c_t_walks c_t_badAct c_t_badWhy c_t_keptAt c_t_isWriting c_t_steps c_t_wet c_t_group) H locs → W p l e { frames := 3, cells := 0, slots := 0, locals := 67 } s m args below meth c H locs 0 0 Q (F0 m 7 ls [])) (hk : ∀ (x1 : Int32) (H : Heap) (locs : List Loc) (ls : Array Slot), k x1 = some r → lv_has ls 6 [(1, .int x1)] → wd_ G A s.heap (wl_X10_cheapestBetween G A_t A_t_steps A_t_wet A_t_where A_t_home A_t_light A_t_carries A_t_sightPlace A_t_sightLight A_t_pad A_t_act A_t_whose A_t_whom A_t_tens A_t_had A_t_leaves A_t_apart A_t_stop A_t_restOf A_t_group A_t_along A_t_kept A_t_isKept c_t_foggy c_t_walkers c_t_sights c_t_padMany c_t_acts c_t_spent c_t_walks c_t_badAct c_t_badWhy c_t_keptAt c_t_isWriting c_t_steps c_t_wet c_t_group) H locs → W p l e { frames := 3, cells := 0, slots := 0, locals := 67 } s m args below meth c H locs 0 0 Q (F0 m 87 ls [])) (hf : fn_X10_cheapestBetween_j76 x3 x4 rc k = some r) {H : Heap} {locs : List Loc} {ls : Array Slot} (hl : lv_has ls 6 [(0, .ref A_t), (3, .int x3), (4, .int x4)]) (hw : wd_ G A s.heap (wl_X10_cheapestBetween G A_t A_t_steps A_t_wet A_t_where A_t_home A_t_light A_t_carries A_t_sightPlace A_t_sightLight A_t_pad A_t_act A_t_whose A_t_whom A_t_tens A_t_had A_t_leaves A_t_apart A_t_stop A_t_restOf A_t_group A_t_along A_t_kept A_t_isKept c_t_foggy c_t_walkers c_t_sights c_t_padMany c_t_acts c_t_spent c_t_walks c_t_badAct c_t_badWhy c_t_keptAt c_t_isWriting c_t_steps c_t_wet c_t_group) H locs) : W p l e { frames := 3, cells := 0, slots := 0, locals := 67 } s m args below meth c H locs 0 0 Q (F0 m 76 ls []) := by
  have hx := hC.1
  have hb := hC.2.1
  unfold fn_X10_cheapestBetween_j76 at hf
  refine lv_iload_n hx hb dX10_cheapestBetween_76 rfl (lv_at hl 1 rfl) ?_
  refine lv_istore_n (lv' := [(1, .int x3), (0, .ref A_t), (3, .int x3), (4, .int x4)]) hx hb dX10_cheapestBetween_77 rfl hl (by decide) rfl (fun ls hl => ?_)
  refine lv_iload hx hb dX10_cheapestBetween_78 (lv_at hl 3 rfl) ?_
  refine lv_istore_n (lv' := [(2, .int x4), (1, .int x3), (0, .ref A_t), (3, .int x3), (4, .int x4)]) hx hb dX10_cheapestBetween_80 rfl hl (by decide) rfl (fun ls hl => ?_)
  refine lv_iinc (v := x3 + 1) (lv' := [(3, .int (x3 + 1)), (2, .int x4), (1, .int x3), (0, .ref A_t), (4, .int x4)]) hx hb dX10_cheapestBetween_81 hl (k := 3) rfl rfl (by decide) rfl (fun ls hl => ?_)
  refine lv_goto (tgt := 7) hx hb dX10_cheapestBetween_84 (by decide) ?_
  exact hrc x3 x4 (x3 + 1) _ _ _ hf (lv_sub hl [3, 2, 1, 0] rfl) hw
set_option maxHeartbeats 4000000 in
set_option maxRecDepth 100000 in
theorem wn_X10_cheapestBetween_j59 {p : Program} {l : Launch} {e : Env} {s : State} {m : MethodId} {args : Array Value} {below : List Frame} {meth : Method} {c : Code} {G : gw_} {A : Nat → Prop} {Q : State → Prop} {A_t : Nat} {A_t_steps : Nat} {A_t_wet : Nat} {A_t_where : Nat} {A_t_home : Nat} {A_t_light : Nat} {A_t_carries : Nat} {A_t_sightPlace : Nat} {A_t_sightLight : Nat} {A_t_pad : Nat} {A_t_act : Nat} {A_t_whose : Nat} {A_t_whom : Nat} {A_t_tens : Nat} {A_t_had : Nat} {A_t_leaves : Nat} {A_t_apart : Nat} {A_t_stop : Nat} {A_t_restOf : Nat} {A_t_group : Nat} {A_t_along : Nat} {A_t_kept : Nat} {A_t_isKept : Nat} {c_t_foggy : Int32} {c_t_walkers : Int32} {c_t_sights : Int32} {c_t_padMany : Int32} {c_t_acts : Int32} {c_t_spent : Int32} {c_t_walks : Int32} {c_t_badAct : Int32} {c_t_badWhy : Int32} {c_t_keptAt : Int32} {c_t_isWriting : Int32} {c_t_steps : Nat → Int32} {c_t_wet : Nat → Int32} {c_t_group : Nat → Int32} {r : Int32} {x1 : Int32} {x2 : Int32} {x3 : Int32} {x4 : Int32} {s0 : Int32} {rc : Int32 → Int32 → Int32 → Option (Int32)} {k : Int32 → Option (Int32)} (hC : cx_ p s m c G cX10_cheapestBetween 6 RX10) (hret : ∀ (pc : Nat) (H : Heap) (locs : List Loc) (ls : Array Slot), decode cX10_cheapestBetween pc = .ok (.ireturn, 1) → wd_ G A s.heap (wl_X10_cheapestBetween G A_t A_t_steps A_t_wet A_t_where A_t_home A_t_light A_t_carries A_t_sightPlace A_t_sightLight A_t_pad A_t_act A_t_whose A_t_whom A_t_tens A_t_had A_t_leaves A_t_apart A_t_stop A_t_restOf A_t_group A_t_along A_t_kept A_t_isKept c_t_foggy c_t_walkers c_t_sights c_t_padMany c_t_acts c_t_spent c_t_walks c_t_badAct c_t_badWhy c_t_keptAt c_t_isWriting c_t_steps c_t_wet c_t_group) H locs → W p l e { frames := 3, cells := 0, slots := 0, locals := 67 } s m args below meth c H locs 0 0 Q (F0 m pc ls [.int r])) (hrc : ∀ (x1 : Int32) (x2 : Int32) (x3 : Int32) (H : Heap) (locs : List Loc) (ls : Array Slot), rc x1 x2 x3 = some r → lv_has ls 6 [(0, .ref A_t), (1, .int x1), (2, .int x2), (3, .int x3)] → wd_ G A s.heap (wl_X10_cheapestBetween G A_t A_t_steps A_t_wet A_t_where A_t_home A_t_light A_t_carries A_t_sightPlace A_t_sightLight A_t_pad A_t_act A_t_whose A_t_whom A_t_tens A_t_had A_t_leaves A_t_apart A_t_stop A_t_restOf A_t_group A_t_along A_t_kept A_t_isKept c_t_foggy c_t_walkers c_t_sights c_t_padMany c_t_acts c_t_spent c_t_walks c_t_badAct c_t_badWhy c_t_keptAt c_t_isWriting c_t_steps c_t_wet c_t_group) H locs → W p l e { frames := 3, cells := 0, slots := 0, locals := 67 } s m args below meth c H locs 0 0 Q (F0 m 7 ls [])) (hk : ∀ (x1 : Int32) (H : Heap) (locs : List Loc) (ls : Array Slot), k x1 = some r → lv_has ls 6 [(1, .int x1)] → wd_ G A s.heap (wl_X10_cheapestBetween G A_t A_t_steps A_t_wet A_t_where A_t_home A_t_light A_t_carries A_t_sightPlace A_t_sightLight A_t_pad A_t_act A_t_whose A_t_whom A_t_tens A_t_had A_t_leaves A_t_apart A_t_stop A_t_restOf A_t_group A_t_along A_t_kept A_t_isKept c_t_foggy c_t_walkers c_t_sights c_t_padMany c_t_acts c_t_spent c_t_walks c_t_badAct c_t_badWhy c_t_keptAt c_t_isWriting c_t_steps c_t_wet c_t_group) H locs → W p l e { frames := 3, cells := 0, slots := 0, locals := 67 } s m args below meth c H locs 0 0 Q (F0 m 87 ls [])) (hf : fn_X10_cheapestBetween_j59 x1 x2 x3 x4 s0 rc k = some r) {H : Heap} {locs : List Loc} {ls : Array Slot} (hl : lv_has ls 6 [(0, .ref A_t), (1, .int x1), (2, .int x2), (3, .int x3), (4, .int x4)]) (hw : wd_ G A s.heap (wl_X10_cheapestBetween G A_t A_t_steps A_t_wet A_t_where A_t_home A_t_light A_t_carries A_t_sightPlace A_t_sightLight A_t_pad A_t_act A_t_whose A_t_whom A_t_tens A_t_had A_t_leaves A_t_apart A_t_stop A_t_restOf A_t_group A_t_along A_t_kept A_t_isKept c_t_foggy c_t_walkers c_t_sights c_t_padMany c_t_acts c_t_spent c_t_walks c_t_badAct c_t_badWhy c_t_keptAt c_t_isWriting c_t_steps c_t_wet c_t_group) H locs) : W p l e { frames := 3, cells := 0, slots := 0, locals := 67 } s m args below meth c H locs 0 0 Q (F0 m 59 ls [.int s0]) := by
  have hx := hC.1
  have hb := hC.2.1
  unfold fn_X10_cheapestBetween_j59 at hf
  refine lv_istore (lv' := [(5, .int s0), (0, .ref A_t), (1, .int x1), (2, .int x2), (3, .int x3), (4, .int x4)]) hx hb dX10_cheapestBetween_59 hl (by decide) rfl (fun ls hl => ?_)
  refine lv_iload hx hb dX10_cheapestBetween_61 (lv_at hl 0 rfl) ?_
  refine lv_if_eq (tgt := 81) hx hb dX10_cheapestBetween_63 (by decide) (fun hc => ?_) (fun hc => ?_)
  · replace hf := it_t hc hf
    refine lv_iinc (v := x3 + 1) (lv' := [(3, .int (x3 + 1)), (5, .int s0), (0, .ref A_t), (1, .int x1), (2, .int x2), (4, .int x4)]) hx hb dX10_cheapestBetween_81 hl (k := 4) rfl rfl (by decide) rfl (fun ls hl => ?_)
    refine lv_goto (tgt := 7) hx hb dX10_cheapestBetween_84 (by decide) ?_
    exact hrc x1 x2 (x3 + 1) _ _ _ hf (lv_sub hl [2, 3, 4, 0] rfl) hw
  · replace hf := it_f hc hf
    refine lv_iload_n hx hb dX10_cheapestBetween_66 rfl (lv_at hl 2 rfl) ?_
    refine lv_if_lt (tgt := 76) hx hb dX10_cheapestBetween_67 (by decide) (fun hc => ?_) (fun hc => ?_)
    · replace hf := it_t hc hf
      exact wn_X10_cheapestBetween_j76 hC hret hrc hk hf (lv_sub hl [1, 4, 5] rfl) hw
    · replace hf := it_f hc hf
      refine lv_iload hx hb dX10_cheapestBetween_70 (lv_at hl 5 rfl) ?_
      refine lv_iload_n hx hb dX10_cheapestBetween_72 rfl (lv_at hl 3 rfl) ?_
      refine lv_icmp_ge (tgt := 81) hx hb dX10_cheapestBetween_73 (by decide) (fun hc => ?_) (fun hc => ?_)
      · replace hf := it_t hc hf
        refine lv_iinc (v := x3 + 1) (lv' := [(3, .int (x3 + 1)), (5, .int s0), (0, .ref A_t), (1, .int x1), (2, .int x2), (4, .int x4)]) hx hb dX10_cheapestBetween_81 hl (k := 4) rfl rfl (by decide) rfl (fun ls hl => ?_)
        refine lv_goto (tgt := 7) hx hb dX10_cheapestBetween_84 (by decide) ?_
        exact hrc x1 x2 (x3 + 1) _ _ _ hf (lv_sub hl [2, 3, 4, 0] rfl) hw
      · replace hf := it_f hc hf
        exact wn_X10_cheapestBetween_j76 hC hret hrc hk hf (lv_sub hl [1, 4, 5] rfl) hw
set_option maxHeartbeats 4000000 in
set_option maxRecDepth 100000 in
theorem wn_X10_cheapestBetween_j58 {p : Program} {l : Launch} {e : Env} {s : State} {m : MethodId} {args : Array Value} {below : List Frame} {meth : Method} {c : Code} {G : gw_} {A : Nat → Prop} {Q : State → Prop} {A_t : Nat} {A_t_steps : Nat} {A_t_wet : Nat} {A_t_where : Nat} {A_t_home : Nat} {A_t_light : Nat} {A_t_carries : Nat} {A_t_sightPlace : Nat} {A_t_sightLight : Nat} {A_t_pad : Nat} {A_t_act : Nat} {A_t_whose : Nat} {A_t_whom : Nat} {A_t_tens : Nat} {A_t_had : Nat} {A_t_leaves : Nat} {A_t_apart : Nat} {A_t_stop : Nat} {A_t_restOf : Nat} {A_t_group : Nat} {A_t_along : Nat} {A_t_kept : Nat} {A_t_isKept : Nat} {c_t_foggy : Int32} {c_t_walkers : Int32} {c_t_sights : Int32} {c_t_padMany : Int32} {c_t_acts : Int32} {c_t_spent : Int32} {c_t_walks : Int32} {c_t_badAct : Int32} {c_t_badWhy : Int32} {c_t_keptAt : Int32} {c_t_isWriting : Int32} {c_t_steps : Nat → Int32} {c_t_wet : Nat → Int32} {c_t_group : Nat → Int32} {r : Int32} {x1 : Int32} {x2 : Int32} {x3 : Int32} {x4 : Int32} {rc : Int32 → Int32 → Int32 → Option (Int32)} {k : Int32 → Option (Int32)} (hC : cx_ p s m c G cX10_cheapestBetween 6 RX10) (hret : ∀ (pc : Nat) (H : Heap) (locs : List Loc) (ls : Array Slot), decode cX10_cheapestBetween pc = .ok (.ireturn, 1) → wd_ G A s.heap (wl_X10_cheapestBetween G A_t A_t_steps A_t_wet A_t_where A_t_home A_t_light A_t_carries A_t_sightPlace A_t_sightLight A_t_pad A_t_act A_t_whose A_t_whom A_t_tens A_t_had A_t_leaves A_t_apart A_t_stop A_t_restOf A_t_group A_t_along A_t_kept A_t_isKept c_t_foggy c_t_walkers c_t_sights c_t_padMany c_t_acts c_t_spent c_t_walks c_t_badAct c_t_badWhy c_t_keptAt c_t_isWriting c_t_steps c_t_wet c_t_group) H locs → W p l e { frames := 3, cells := 0, slots := 0, locals := 67 } s m args below meth c H locs 0 0 Q (F0 m pc ls [.int r])) (hrc : ∀ (x1 : Int32) (x2 : Int32) (x3 : Int32) (H : Heap) (locs : List Loc) (ls : Array Slot), rc x1 x2 x3 = some r → lv_has ls 6 [(0, .ref A_t), (1, .int x1), (2, .int x2), (3, .int x3)] → wd_ G A s.heap (wl_X10_cheapestBetween G A_t A_t_steps A_t_wet A_t_where A_t_home A_t_light A_t_carries A_t_sightPlace A_t_sightLight A_t_pad A_t_act A_t_whose A_t_whom A_t_tens A_t_had A_t_leaves A_t_apart A_t_stop A_t_restOf A_t_group A_t_along A_t_kept A_t_isKept c_t_foggy c_t_walkers c_t_sights c_t_padMany c_t_acts c_t_spent c_t_walks c_t_badAct c_t_badWhy c_t_keptAt c_t_isWriting c_t_steps c_t_wet c_t_group) H locs → W p l e { frames := 3, cells := 0, slots := 0, locals := 67 } s m args below meth c H locs 0 0 Q (F0 m 7 ls [])) (hk : ∀ (x1 : Int32) (H : Heap) (locs : List Loc) (ls : Array Slot), k x1 = some r → lv_has ls 6 [(1, .int x1)] → wd_ G A s.heap (wl_X10_cheapestBetween G A_t A_t_steps A_t_wet A_t_where A_t_home A_t_light A_t_carries A_t_sightPlace A_t_sightLight A_t_pad A_t_act A_t_whose A_t_whom A_t_tens A_t_had A_t_leaves A_t_apart A_t_stop A_t_restOf A_t_group A_t_along A_t_kept A_t_isKept c_t_foggy c_t_walkers c_t_sights c_t_padMany c_t_acts c_t_spent c_t_walks c_t_badAct c_t_badWhy c_t_keptAt c_t_isWriting c_t_steps c_t_wet c_t_group) H locs → W p l e { frames := 3, cells := 0, slots := 0, locals := 67 } s m args below meth c H locs 0 0 Q (F0 m 87 ls [])) (hf : fn_X10_cheapestBetween_j58 x1 x2 x3 x4 rc k = some r) {H : Heap} {locs : List Loc} {ls : Array Slot} (hl : lv_has ls 6 [(0, .ref A_t), (1, .int x1), (2, .int x2), (3, .int x3), (4, .int x4)]) (hw : wd_ G A s.heap (wl_X10_cheapestBetween G A_t A_t_steps A_t_wet A_t_where A_t_home A_t_light A_t_carries A_t_sightPlace A_t_sightLight A_t_pad A_t_act A_t_whose A_t_whom A_t_tens A_t_had A_t_leaves A_t_apart A_t_stop A_t_restOf A_t_group A_t_along A_t_kept A_t_isKept c_t_foggy c_t_walkers c_t_sights c_t_padMany c_t_acts c_t_spent c_t_walks c_t_badAct c_t_badWhy c_t_keptAt c_t_isWriting c_t_steps c_t_wet c_t_group) H locs) : W p l e { frames := 3, cells := 0, slots := 0, locals := 67 } s m args below meth c H locs 0 0 Q (F0 m 58 ls []) := by
  have hx := hC.1
  have hb := hC.2.1
  unfold fn_X10_cheapestBetween_j58 at hf
  refine lv_iconst (v := 0) hx hb dX10_cheapestBetween_58 (by decide) ?_
  exact wn_X10_cheapestBetween_j59 hC hret hrc hk hf (lv_sub hl [0, 1, 2, 3, 4] rfl) hw
set_option maxHeartbeats 4000000 in
set_option maxRecDepth 100000 in
theorem wn_X10_cheapestBetween_l7 {p : Program} {l : Launch} {e : Env} {s : State} {m : MethodId} {args : Array Value} {below : List Frame} {meth : Method} {c : Code} {G : gw_} {A : Nat → Prop} {Q : State → Prop} {A_t : Nat} {A_t_steps : Nat} {A_t_wet : Nat} {A_t_where : Nat} {A_t_home : Nat} {A_t_light : Nat} {A_t_carries : Nat} {A_t_sightPlace : Nat} {A_t_sightLight : Nat} {A_t_pad : Nat} {A_t_act : Nat} {A_t_whose : Nat} {A_t_whom : Nat} {A_t_tens : Nat} {A_t_had : Nat} {A_t_leaves : Nat} {A_t_apart : Nat} {A_t_stop : Nat} {A_t_restOf : Nat} {A_t_group : Nat} {A_t_along : Nat} {A_t_kept : Nat} {A_t_isKept : Nat} {c_t_foggy : Int32} {c_t_walkers : Int32} {c_t_sights : Int32} {c_t_padMany : Int32} {c_t_acts : Int32} {c_t_spent : Int32} {c_t_walks : Int32} {c_t_badAct : Int32} {c_t_badWhy : Int32} {c_t_keptAt : Int32} {c_t_isWriting : Int32} {c_t_steps : Nat → Int32} {c_t_wet : Nat → Int32} {c_t_group : Nat → Int32} {r : Int32} {k : Int32 → Option (Int32)} (hC : cx_ p s m c G cX10_cheapestBetween 6 RX10) (hret : ∀ (pc : Nat) (H : Heap) (locs : List Loc) (ls : Array Slot), decode cX10_cheapestBetween pc = .ok (.ireturn, 1) → wd_ G A s.heap (wl_X10_cheapestBetween G A_t A_t_steps A_t_wet A_t_where A_t_home A_t_light A_t_carries A_t_sightPlace A_t_sightLight A_t_pad A_t_act A_t_whose A_t_whom A_t_tens A_t_had A_t_leaves A_t_apart A_t_stop A_t_restOf A_t_group A_t_along A_t_kept A_t_isKept c_t_foggy c_t_walkers c_t_sights c_t_padMany c_t_acts c_t_spent c_t_walks c_t_badAct c_t_badWhy c_t_keptAt c_t_isWriting c_t_steps c_t_wet c_t_group) H locs → W p l e { frames := 3, cells := 0, slots := 0, locals := 67 } s m args below meth c H locs 0 0 Q (F0 m pc ls [.int r])) (hk : ∀ (x1 : Int32) (H : Heap) (locs : List Loc) (ls : Array Slot), k x1 = some r → lv_has ls 6 [(1, .int x1)] → wd_ G A s.heap (wl_X10_cheapestBetween G A_t A_t_steps A_t_wet A_t_where A_t_home A_t_light A_t_carries A_t_sightPlace A_t_sightLight A_t_pad A_t_act A_t_whose A_t_whom A_t_tens A_t_had A_t_leaves A_t_apart A_t_stop A_t_restOf A_t_group A_t_along A_t_kept A_t_isKept c_t_foggy c_t_walkers c_t_sights c_t_padMany c_t_acts c_t_spent c_t_walks c_t_badAct c_t_badWhy c_t_keptAt c_t_isWriting c_t_steps c_t_wet c_t_group) H locs → W p l e { frames := 3, cells := 0, slots := 0, locals := 67 } s m args below meth c H locs 0 0 Q (F0 m 87 ls [])) : ∀ (n : Nat) (x1 : Int32) (x2 : Int32) (x3 : Int32) (H : Heap) (locs : List Loc) (ls : Array Slot), fn_X10_cheapestBetween_l7 c_t_foggy c_t_steps c_t_wet c_t_group k n x1 x2 x3 = some r → lv_has ls 6 [(0, .ref A_t), (1, .int x1), (2, .int x2), (3, .int x3)] → wd_ G A s.heap (wl_X10_cheapestBetween G A_t A_t_steps A_t_wet A_t_where A_t_home A_t_light A_t_carries A_t_sightPlace A_t_sightLight A_t_pad A_t_act A_t_whose A_t_whom A_t_tens A_t_had A_t_leaves A_t_apart A_t_stop A_t_restOf A_t_group A_t_along A_t_kept A_t_isKept c_t_foggy c_t_walkers c_t_sights c_t_padMany c_t_acts c_t_spent c_t_walks c_t_badAct c_t_badWhy c_t_keptAt c_t_isWriting c_t_steps c_t_wet c_t_group) H locs → W p l e { frames := 3, cells := 0, slots := 0, locals := 67 } s m args below meth c H locs 0 0 Q (F0 m 7 ls []) := by
  have hx := hC.1
  have hb := hC.2.1
  intro n
  induction n with
  | zero =>
    intro x1 x2 x3 H locs ls hf
    cases (show (none : Option (Int32)) = some _ from hf)
  | succ n hrc =>
    intro x1 x2 x3 H locs ls hf hl hw
    replace hf : fn_X10_cheapestBetween_b7 c_t_foggy c_t_steps c_t_wet c_t_group (fn_X10_cheapestBetween_l7 c_t_foggy c_t_steps c_t_wet c_t_group k n) k x1 x2 x3 = some r := hf
    unfold fn_X10_cheapestBetween_b7 at hf
    refine lv_iload_n hx hb dX10_cheapestBetween_7 rfl (lv_at hl 3 rfl) ?_
    refine lv_sipush (v := 144) hx hb dX10_cheapestBetween_8 (by decide) ?_
    refine lv_icmp_ge (tgt := 87) hx hb dX10_cheapestBetween_11 (by decide) (fun hc => ?_) (fun hc => ?_)
    · replace hf := it_t hc hf
      exact hk x1 _ _ _ hf (lv_sub hl [1] rfl) hw
    · replace hf := it_f hc hf
      refine lv_aload_n hx hb dX10_cheapestBetween_14 rfl (lv_at hl 0 rfl) ?_
      refine lv_iload_n hx hb dX10_cheapestBetween_15 rfl (lv_at hl 3 rfl) ?_
      refine lv_bipush (v := 12) hx hb dX10_cheapestBetween_16 (by decide) ?_
      refine lv_idiv hx hb dX10_cheapestBetween_18 (by decide) ?_
      refine lv_iload_n hx hb dX10_cheapestBetween_19 rfl (lv_at hl 3 rfl) ?_
      refine lv_bipush (v := 12) hx hb dX10_cheapestBetween_20 (by decide) ?_
      refine lv_irem hx hb dX10_cheapestBetween_22 (by decide) ?_
      obtain ⟨r1, hq2, hf⟩ := b1_s hf
      refine h_cVi hC hw mvX10_163 (cn_X10_cost l G A_t A_t_steps A_t_wet A_t_where A_t_home A_t_light A_t_carries A_t_sightPlace A_t_sightLight A_t_pad A_t_act A_t_whose A_t_whom A_t_tens A_t_had A_t_leaves A_t_apart A_t_stop A_t_restOf A_t_group A_t_along A_t_kept A_t_isKept c_t_foggy c_t_walkers c_t_sights c_t_padMany c_t_acts c_t_spent c_t_walks c_t_badAct c_t_badWhy c_t_keptAt c_t_isWriting c_t_steps c_t_wet (x3 / 12) (x3 - x3 / 12 * 12) r1 hq2) [0, 1, 2] rfl (by decide) 0 rfl rfl rfl hl.1 rfl (Nat.le_of_ble_eq_true rfl) ⟨Nat.le_of_ble_eq_true rfl, Nat.le_of_ble_eq_true rfl⟩ ⟨Nat.le_refl _, Nat.le_refl _⟩ dX10_cheapestBetween_23 (fun H locs hw => ?_)
      refine lv_istore (lv' := [(4, .int r1), (0, .ref A_t), (1, .int x1), (2, .int x2), (3, .int x3)]) hx hb dX10_cheapestBetween_26 hl (by decide) rfl (fun ls hl => ?_)
      refine lv_iload hx hb dX10_cheapestBetween_28 (lv_at hl 0 rfl) ?_
      refine lv_if_le (tgt := 58) hx hb dX10_cheapestBetween_30 (by decide) (fun hc => ?_) (fun hc => ?_)
      · replace hf := it_t hc hf
        exact wn_X10_cheapestBetween_j58 hC hret hrc hk hf (lv_sub hl [1, 2, 3, 4, 0] rfl) hw
      · replace hf := it_f hc hf
        refine lv_aload_n hx hb dX10_cheapestBetween_33 rfl (lv_at hl 1 rfl) ?_
        refine g_get hC hw fkX10_64 0 rfl rfl dX10_cheapestBetween_34 ?_
        refine lv_iload_n hx hb dX10_cheapestBetween_37 rfl (lv_at hl 4 rfl) ?_
        refine lv_bipush (v := 12) hx hb dX10_cheapestBetween_38 (by decide) ?_
        refine lv_idiv hx hb dX10_cheapestBetween_40 (by decide) ?_
        obtain ⟨hi, hf⟩ := ck_s hf
        refine g_iald hC hw 3 rfl hi dX10_cheapestBetween_41 ?_
        refine lv_aload_n hx hb dX10_cheapestBetween_42 rfl (lv_at hl 1 rfl) ?_
        refine g_get hC hw fkX10_64 0 rfl rfl dX10_cheapestBetween_43 ?_
        refine lv_iload_n hx hb dX10_cheapestBetween_46 rfl (lv_at hl 4 rfl) ?_
        refine lv_bipush (v := 12) hx hb dX10_cheapestBetween_47 (by decide) ?_
        refine lv_irem hx hb dX10_cheapestBetween_49 (by decide) ?_
        obtain ⟨hi, hf⟩ := ck_s hf
        refine g_iald hC hw 3 rfl hi dX10_cheapestBetween_50 ?_
        refine lv_icmp_eq (tgt := 58) hx hb dX10_cheapestBetween_51 (by decide) (fun hc => ?_) (fun hc => ?_)
        · replace hf := it_t hc hf
          exact wn_X10_cheapestBetween_j58 hC hret hrc hk hf (lv_sub hl [1, 2, 3, 4, 0] rfl) hw
        · replace hf := it_f hc hf
          refine lv_iconst (v := 1) hx hb dX10_cheapestBetween_54 (by decide) ?_
          refine lv_goto (tgt := 59) hx hb dX10_cheapestBetween_55 (by decide) ?_
          exact wn_X10_cheapestBetween_j59 hC hret hrc hk hf (lv_sub hl [1, 2, 3, 4, 0] rfl) hw
set_option maxHeartbeats 4000000 in
set_option maxRecDepth 100000 in
theorem wn_X10_cheapestBetween {p : Program} {l : Launch} {e : Env} {s : State} {m : MethodId} {args : Array Value} {below : List Frame} {meth : Method} {c : Code} {G : gw_} {A : Nat → Prop} {Q : State → Prop} {A_t : Nat} {A_t_steps : Nat} {A_t_wet : Nat} {A_t_where : Nat} {A_t_home : Nat} {A_t_light : Nat} {A_t_carries : Nat} {A_t_sightPlace : Nat} {A_t_sightLight : Nat} {A_t_pad : Nat} {A_t_act : Nat} {A_t_whose : Nat} {A_t_whom : Nat} {A_t_tens : Nat} {A_t_had : Nat} {A_t_leaves : Nat} {A_t_apart : Nat} {A_t_stop : Nat} {A_t_restOf : Nat} {A_t_group : Nat} {A_t_along : Nat} {A_t_kept : Nat} {A_t_isKept : Nat} {c_t_foggy : Int32} {c_t_walkers : Int32} {c_t_sights : Int32} {c_t_padMany : Int32} {c_t_acts : Int32} {c_t_spent : Int32} {c_t_walks : Int32} {c_t_badAct : Int32} {c_t_badWhy : Int32} {c_t_keptAt : Int32} {c_t_isWriting : Int32} {c_t_steps : Nat → Int32} {c_t_wet : Nat → Int32} {c_t_group : Nat → Int32} {r : Int32} (hC : cx_ p s m c G cX10_cheapestBetween 6 RX10) (hret : ∀ (pc : Nat) (H : Heap) (locs : List Loc) (ls : Array Slot), decode cX10_cheapestBetween pc = .ok (.ireturn, 1) → wd_ G A s.heap (wl_X10_cheapestBetween G A_t A_t_steps A_t_wet A_t_where A_t_home A_t_light A_t_carries A_t_sightPlace A_t_sightLight A_t_pad A_t_act A_t_whose A_t_whom A_t_tens A_t_had A_t_leaves A_t_apart A_t_stop A_t_restOf A_t_group A_t_along A_t_kept A_t_isKept c_t_foggy c_t_walkers c_t_sights c_t_padMany c_t_acts c_t_spent c_t_walks c_t_badAct c_t_badWhy c_t_keptAt c_t_isWriting c_t_steps c_t_wet c_t_group) H locs → W p l e { frames := 3, cells := 0, slots := 0, locals := 67 } s m args below meth c H locs 0 0 Q (F0 m pc ls [.int r])) (hf : fn_X10_cheapestBetween c_t_foggy c_t_steps c_t_wet c_t_group = some r) {H : Heap} {locs : List Loc} {ls : Array Slot} (hl : lv_has ls 6 [(0, .ref A_t)]) (hw : wd_ G A s.heap (wl_X10_cheapestBetween G A_t A_t_steps A_t_wet A_t_where A_t_home A_t_light A_t_carries A_t_sightPlace A_t_sightLight A_t_pad A_t_act A_t_whose A_t_whom A_t_tens A_t_had A_t_leaves A_t_apart A_t_stop A_t_restOf A_t_group A_t_along A_t_kept A_t_isKept c_t_foggy c_t_walkers c_t_sights c_t_padMany c_t_acts c_t_spent c_t_walks c_t_badAct c_t_badWhy c_t_keptAt c_t_isWriting c_t_steps c_t_wet c_t_group) H locs) : W p l e { frames := 3, cells := 0, slots := 0, locals := 67 } s m args below meth c H locs 0 0 Q (F0 m 0 ls []) := by
  have hx := hC.1
  have hb := hC.2.1
  unfold fn_X10_cheapestBetween at hf
  refine lv_bipush (v := (-6)) hx hb dX10_cheapestBetween_0 (by decide) ?_
  refine lv_istore_n (lv' := [(1, .int (-6)), (0, .ref A_t)]) hx hb dX10_cheapestBetween_2 rfl hl (by decide) rfl (fun ls hl => ?_)
  refine lv_iconst (v := 0) hx hb dX10_cheapestBetween_3 (by decide) ?_
  refine lv_istore_n (lv' := [(2, .int 0), (1, .int (-6)), (0, .ref A_t)]) hx hb dX10_cheapestBetween_4 rfl hl (by decide) rfl (fun ls hl => ?_)
  refine lv_iconst (v := 0) hx hb dX10_cheapestBetween_5 (by decide) ?_
  refine lv_istore_n (lv' := [(3, .int 0), (2, .int 0), (1, .int (-6)), (0, .ref A_t)]) hx hb dX10_cheapestBetween_6 rfl hl (by decide) rfl (fun ls hl => ?_)
  refine wn_X10_cheapestBetween_l7 hC hret (fun v3 H locs ls hf hl hw => ?_) fu_ (-6) 0 0 _ _ _ hf (lv_sub hl [3, 2, 1, 0] rfl) hw
  refine lv_iload_n hx hb dX10_cheapestBetween_87 rfl (lv_at hl 0 rfl) ?_
  have h1_ := t1_ hf
  subst h1_
  exact hret _ _ _ _ dX10_cheapestBetween_88 hw
set_option maxHeartbeats 4000000 in
set_option maxRecDepth 100000 in
theorem cn_X10_cheapestBetween (l : Launch) (G : gw_) (A_t : Nat) (A_t_steps : Nat) (A_t_wet : Nat) (A_t_where : Nat) (A_t_home : Nat) (A_t_light : Nat) (A_t_carries : Nat) (A_t_sightPlace : Nat) (A_t_sightLight : Nat) (A_t_pad : Nat) (A_t_act : Nat) (A_t_whose : Nat) (A_t_whom : Nat) (A_t_tens : Nat) (A_t_had : Nat) (A_t_leaves : Nat) (A_t_apart : Nat) (A_t_stop : Nat) (A_t_restOf : Nat) (A_t_group : Nat) (A_t_along : Nat) (A_t_kept : Nat) (A_t_isKept : Nat) (c_t_foggy : Int32) (c_t_walkers : Int32) (c_t_sights : Int32) (c_t_padMany : Int32) (c_t_acts : Int32) (c_t_spent : Int32) (c_t_walks : Int32) (c_t_badAct : Int32) (c_t_badWhy : Int32) (c_t_keptAt : Int32) (c_t_isWriting : Int32) (c_t_steps : Nat → Int32) (c_t_wet : Nat → Int32) (c_t_group : Nat → Int32) (r : Int32) (hf : fn_X10_cheapestBetween c_t_foggy c_t_steps c_t_wet c_t_group = some r) : ci_ l G yX10_cheapestBetween cX10_cheapestBetween 6 (some .int) 3 67 (wl_X10_cheapestBetween G A_t A_t_steps A_t_wet A_t_where A_t_home A_t_light A_t_carries A_t_sightPlace A_t_sightLight A_t_pad A_t_act A_t_whose A_t_whom A_t_tens A_t_had A_t_leaves A_t_apart A_t_stop A_t_restOf A_t_group A_t_along A_t_kept A_t_isKept c_t_foggy c_t_walkers c_t_sights c_t_padMany c_t_acts c_t_spent c_t_walks c_t_badAct c_t_badWhy c_t_keptAt c_t_isWriting c_t_steps c_t_wet c_t_group) [.ref A_t] r (wl_X10_cheapestBetween G A_t A_t_steps A_t_wet A_t_where A_t_home A_t_light A_t_carries A_t_sightPlace A_t_sightLight A_t_pad A_t_act A_t_whose A_t_whom A_t_tens A_t_had A_t_leaves A_t_apart A_t_stop A_t_restOf A_t_group A_t_along A_t_kept A_t_isKept c_t_foggy c_t_walkers c_t_sights c_t_padMany c_t_acts c_t_spent c_t_walks c_t_badAct c_t_badWhy c_t_keptAt c_t_isWriting c_t_steps c_t_wet c_t_group) := fun sz => met_intro (by decide) (Nat.le_of_ble_eq_true rfl) (fun p e s m args below meth c ls hsz hC hr hlk hnm hl hw => wn_X10_cheapestBetween hC (fun pc H locs ls hd hw => g_iret hC hr hlk hw rfl rfl hd) hf hl hw)
