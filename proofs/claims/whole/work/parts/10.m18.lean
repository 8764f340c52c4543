theorem dX10_out_0 : decode cX10_out 0 = .ok (.aload_n 0, 1) := by decide +kernel
theorem dX10_out_1 : decode cX10_out 1 = .ok (.invokevirtual 219, 3) := by decide +kernel
theorem dX10_out_4 : decode cX10_out 4 = .ok (.aload_n 0, 1) := by decide +kernel
theorem dX10_out_5 : decode cX10_out 5 = .ok (.getfield 85, 3) := by decide +kernel
theorem dX10_out_8 : decode cX10_out 8 = .ok (.invokestatic 115, 3) := by decide +kernel
theorem dX10_out_11 : decode cX10_out 11 = .ok (.istore_n 2, 1) := by decide +kernel
theorem dX10_out_12 : decode cX10_out 12 = .ok (.iconst 0, 1) := by decide +kernel
theorem dX10_out_13 : decode cX10_out 13 = .ok (.istore_n 3, 1) := by decide +kernel
theorem dX10_out_14 : decode cX10_out 14 = .ok (.iload_n 3, 1) := by decide +kernel
theorem dX10_out_15 : decode cX10_out 15 = .ok (.bipush 6, 2) := by decide +kernel
theorem dX10_out_17 : decode cX10_out 17 = .ok (.if_icmp .ge 129, 3) := by decide +kernel
theorem dX10_out_20 : decode cX10_out 20 = .ok (.iconst 0, 1) := by decide +kernel
theorem dX10_out_21 : decode cX10_out 21 = .ok (.istore 4, 2) := by decide +kernel
theorem dX10_out_23 : decode cX10_out 23 = .ok (.iconst 0, 1) := by decide +kernel
theorem dX10_out_24 : decode cX10_out 24 = .ok (.istore 5, 2) := by decide +kernel
theorem dX10_out_26 : decode cX10_out 26 = .ok (.iload 5, 2) := by decide +kernel
theorem dX10_out_28 : decode cX10_out 28 = .ok (.bipush 6, 2) := by decide +kernel
theorem dX10_out_30 : decode cX10_out 30 = .ok (.if_icmp .ge 94, 3) := by decide +kernel
theorem dX10_out_33 : decode cX10_out 33 = .ok (.aload_n 0, 1) := by decide +kernel
theorem dX10_out_34 : decode cX10_out 34 = .ok (.iload 5, 2) := by decide +kernel
theorem dX10_out_36 : decode cX10_out 36 = .ok (.invokevirtual 225, 3) := by decide +kernel
theorem dX10_out_39 : decode cX10_out 39 = .ok (.ldc 214, 2) := by decide +kernel
theorem dX10_out_41 : decode cX10_out 41 = .ok (.if_icmp .ge 12, 3) := by decide +kernel
theorem dX10_out_44 : decode cX10_out 44 = .ok (.aload_n 0, 1) := by decide +kernel
theorem dX10_out_45 : decode cX10_out 45 = .ok (.iload 5, 2) := by decide +kernel
theorem dX10_out_47 : decode cX10_out 47 = .ok (.invokevirtual 225, 3) := by decide +kernel
theorem dX10_out_50 : decode cX10_out 50 = .ok (.goto 5, 3) := by decide +kernel
theorem dX10_out_53 : decode cX10_out 53 = .ok (.ldc 214, 2) := by decide +kernel
theorem dX10_out_55 : decode cX10_out 55 = .ok (.istore 6, 2) := by decide +kernel
theorem dX10_out_57 : decode cX10_out 57 = .ok (.aload_n 0, 1) := by decide +kernel
theorem dX10_out_58 : decode cX10_out 58 = .ok (.iload_n 3, 1) := by decide +kernel
theorem dX10_out_59 : decode cX10_out 59 = .ok (.invokevirtual 225, 3) := by decide +kernel
theorem dX10_out_62 : decode cX10_out 62 = .ok (.ldc 214, 2) := by decide +kernel
theorem dX10_out_64 : decode cX10_out 64 = .ok (.if_icmp .ge 11, 3) := by decide +kernel
theorem dX10_out_67 : decode cX10_out 67 = .ok (.aload_n 0, 1) := by decide +kernel
theorem dX10_out_68 : decode cX10_out 68 = .ok (.iload_n 3, 1) := by decide +kernel
theorem dX10_out_69 : decode cX10_out 69 = .ok (.invokevirtual 225, 3) := by decide +kernel
theorem dX10_out_72 : decode cX10_out 72 = .ok (.goto 5, 3) := by decide +kernel
theorem dX10_out_75 : decode cX10_out 75 = .ok (.ldc 214, 2) := by decide +kernel
theorem dX10_out_77 : decode cX10_out 77 = .ok (.istore 7, 2) := by decide +kernel
theorem dX10_out_79 : decode cX10_out 79 = .ok (.iload 4, 2) := by decide +kernel
theorem dX10_out_81 : decode cX10_out 81 = .ok (.aload_n 0, 1) := by decide +kernel
theorem dX10_out_82 : decode cX10_out 82 = .ok (.iload 5, 2) := by decide +kernel
theorem dX10_out_84 : decode cX10_out 84 = .ok (.invokevirtual 106, 3) := by decide +kernel
theorem dX10_out_87 : decode cX10_out 87 = .ok (.ifCond .eq 27, 3) := by decide +kernel
theorem dX10_out_90 : decode cX10_out 90 = .ok (.iload 6, 2) := by decide +kernel
theorem dX10_out_92 : decode cX10_out 92 = .ok (.iload 7, 2) := by decide +kernel
theorem dX10_out_94 : decode cX10_out 94 = .ok (.if_icmp .lt 16, 3) := by decide +kernel
theorem dX10_out_97 : decode cX10_out 97 = .ok (.iload 6, 2) := by decide +kernel
theorem dX10_out_99 : decode cX10_out 99 = .ok (.iload 7, 2) := by decide +kernel
theorem dX10_out_101 : decode cX10_out 101 = .ok (.if_icmp .ne 13, 3) := by decide +kernel
theorem dX10_out_104 : decode cX10_out 104 = .ok (.iload 5, 2) := by decide +kernel
theorem dX10_out_106 : decode cX10_out 106 = .ok (.iload_n 3, 1) := by decide +kernel
theorem dX10_out_107 : decode cX10_out 107 = .ok (.if_icmp .ge 7, 3) := by decide +kernel
theorem dX10_out_110 : decode cX10_out 110 = .ok (.iconst 1, 1) := by decide +kernel
theorem dX10_out_111 : decode cX10_out 111 = .ok (.goto 4, 3) := by decide +kernel
theorem dX10_out_114 : decode cX10_out 114 = .ok (.iconst 0, 1) := by decide +kernel
theorem dX10_out_115 : decode cX10_out 115 = .ok (.iadd, 1) := by decide +kernel
theorem dX10_out_116 : decode cX10_out 116 = .ok (.istore 4, 2) := by decide +kernel
theorem dX10_out_118 : decode cX10_out 118 = .ok (.iinc 5 1, 3) := by decide +kernel
theorem dX10_out_121 : decode cX10_out 121 = .ok (.goto (-95), 3) := by decide +kernel
theorem dX10_out_124 : decode cX10_out 124 = .ok (.aload_n 0, 1) := by decide +kernel
theorem dX10_out_125 : decode cX10_out 125 = .ok (.iload_n 3, 1) := by decide +kernel
theorem dX10_out_126 : decode cX10_out 126 = .ok (.invokevirtual 106, 3) := by decide +kernel
theorem dX10_out_129 : decode cX10_out 129 = .ok (.ifCond .eq 11, 3) := by decide +kernel
theorem dX10_out_132 : decode cX10_out 132 = .ok (.iload 4, 2) := by decide +kernel
theorem dX10_out_134 : decode cX10_out 134 = .ok (.iload_n 1, 1) := by decide +kernel
theorem dX10_out_135 : decode cX10_out 135 = .ok (.if_icmp .ne 5, 3) := by decide +kernel
theorem dX10_out_138 : decode cX10_out 138 = .ok (.iload_n 3, 1) := by decide +kernel
theorem dX10_out_139 : decode cX10_out 139 = .ok (.ireturn, 1) := by decide +kernel
theorem dX10_out_140 : decode cX10_out 140 = .ok (.iinc 3 1, 3) := by decide +kernel
theorem dX10_out_143 : decode cX10_out 143 = .ok (.goto (-129), 3) := by decide +kernel
theorem dX10_out_146 : decode cX10_out 146 = .ok (.iload_n 1, 1) := by decide +kernel
theorem dX10_out_147 : decode cX10_out 147 = .ok (.iconst (-1), 1) := by decide +kernel
theorem dX10_out_148 : decode cX10_out 148 = .ok (.if_icmp .ne 7, 3) := by decide +kernel
theorem dX10_out_151 : decode cX10_out 151 = .ok (.iload_n 2, 1) := by decide +kernel
theorem dX10_out_152 : decode cX10_out 152 = .ok (.goto 5, 3) := by decide +kernel
theorem dX10_out_155 : decode cX10_out 155 = .ok (.bipush (-6), 2) := by decide +kernel
theorem dX10_out_157 : decode cX10_out 157 = .ok (.ireturn, 1) := by decide +kernel
abbrev wl_X10_out (G : gw_) (A_t : Nat) (A_t_steps : Nat) (A_t_wet : Nat) (A_t_where : Nat) (A_t_home : Nat) (A_t_light : Nat) (A_t_carries : Nat) (A_t_sightPlace : Nat) (A_t_sightLight : Nat) (A_t_pad : Nat) (A_t_act : Nat) (A_t_whose : Nat) (A_t_whom : Nat) (A_t_tens : Nat) (A_t_had : Nat) (A_t_leaves : Nat) (A_t_apart : Nat) (A_t_stop : Nat) (A_t_restOf : Nat) (A_t_group : Nat) (A_t_along : Nat) (A_t_kept : Nat) (A_t_isKept : Nat) (c_t_foggy : Int32) (c_t_walkers : Int32) (c_t_sights : Int32) (c_t_padMany : Int32) (c_t_acts : Int32) (c_t_spent : Int32) (c_t_walks : Int32) (c_t_badAct : Int32) (c_t_badWhy : Int32) (c_t_keptAt : Int32) (c_t_isWriting : Int32) (c_t_steps : Nat → Int32) (c_t_wet : Nat → Int32) (c_t_where : Nat → Int32) (c_t_home : Nat → Int32) (c_t_apart : Nat → Int32) : va_W := [ob_ A_t 10 [.ref A_t_steps, .ref A_t_wet, .int c_t_foggy, .int c_t_walkers, .ref A_t_where, .ref A_t_home, .ref A_t_light, .ref A_t_carries, .ref A_t_sightPlace, .ref A_t_sightLight, .int c_t_sights, .ref A_t_pad, .int c_t_padMany, .ref A_t_act, .ref A_t_whose, .ref A_t_whom, .ref A_t_tens, .int c_t_acts, .int c_t_spent, .int c_t_walks, .ref A_t_had, .ref A_t_leaves, .int c_t_badAct, .int c_t_badWhy, .ref A_t_apart, .ref A_t_stop, .ref A_t_restOf, .ref A_t_group, .ref A_t_along, .ref A_t_kept, .ref A_t_isKept, .int c_t_keptAt, .int c_t_isWriting], ia_ G A_t_steps 144 c_t_steps, ia_ G A_t_wet 144 c_t_wet, ia_ G A_t_where 6 c_t_where, ia_ G A_t_home 6 c_t_home, ia_ G A_t_apart 144 c_t_apart]
def fn_X10_out_j114 (x5 : Int32) (s0 : Int32) (rc : Int32 → Int32 → Option (Int32 × (Nat → Int32))) (k : Int32 → Option (Int32 × (Nat → Int32))) : Option (Int32 × (Nat → Int32)) :=
  rc (s0 + 0) (x5 + 1)
def fn_X10_out_j110 (x5 : Int32) (s0 : Int32) (rc : Int32 → Int32 → Option (Int32 × (Nat → Int32))) (k : Int32 → Option (Int32 × (Nat → Int32))) : Option (Int32 × (Nat → Int32)) :=
  rc (s0 + 1) (x5 + 1)
def fn_X10_out_j77 (c_t_walkers : Int32) (x3 : Int32) (x4 : Int32) (x5 : Int32) (x6 : Int32) (s0 : Int32) (rc : Int32 → Int32 → Option (Int32 × (Nat → Int32))) (k : Int32 → Option (Int32 × (Nat → Int32))) : Option (Int32 × (Nat → Int32)) :=
  b1_ (fn_X10_isWalker c_t_walkers x5) fun r9 =>
  if r9 = 0 then
    fn_X10_out_j114 x5 x4 rc k
  else
    if x6 < s0 then
      fn_X10_out_j110 x5 x4 rc k
    else
      if x6 = s0 then
        if x3 ≤ x5 then
          fn_X10_out_j114 x5 x4 rc k
        else
          fn_X10_out_j110 x5 x4 rc k
      else
        fn_X10_out_j114 x5 x4 rc k
def fn_X10_out_j55 (c_t_walkers : Int32) (c_t_where : Nat → Int32) (c_t_home : Nat → Int32) (c_t_apart : Nat → Int32) (x3 : Int32) (x4 : Int32) (x5 : Int32) (s0 : Int32) (rc : Int32 → Int32 → Option (Int32 × (Nat → Int32))) (k : Int32 → Option (Int32 × (Nat → Int32))) : Option (Int32 × (Nat → Int32)) :=
  b1_ (fn_X10_homeWay c_t_where c_t_home c_t_apart x3) fun r7 =>
  if 1000000 ≤ r7 then
    fn_X10_out_j77 c_t_walkers x3 x4 x5 s0 1000000 rc k
  else
    b1_ (fn_X10_homeWay c_t_where c_t_home c_t_apart x3) fun r11 =>
    fn_X10_out_j77 c_t_walkers x3 x4 x5 s0 r11 rc k
def fn_X10_out_b26 (c_t_walkers : Int32) (c_t_where : Nat → Int32) (c_t_home : Nat → Int32) (c_t_apart : Nat → Int32) (x3 : Int32) (rc : Int32 → Int32 → Option (Int32 × (Nat → Int32))) (k : Int32 → Option (Int32 × (Nat → Int32))) (x4 : Int32) (x5 : Int32) : Option (Int32 × (Nat → Int32)) :=
  if 6 ≤ x5 then
    k x4
  else
    b1_ (fn_X10_homeWay c_t_where c_t_home c_t_apart x5) fun r5 =>
    if 1000000 ≤ r5 then
      fn_X10_out_j55 c_t_walkers c_t_where c_t_home c_t_apart x3 x4 x5 1000000 rc k
    else
      b1_ (fn_X10_homeWay c_t_where c_t_home c_t_apart x5) fun r13 =>
      fn_X10_out_j55 c_t_walkers c_t_where c_t_home c_t_apart x3 x4 x5 r13 rc k
def fn_X10_out_l26 (c_t_walkers : Int32) (c_t_where : Nat → Int32) (c_t_home : Nat → Int32) (c_t_apart : Nat → Int32) (x3 : Int32) (k : Int32 → Option (Int32 × (Nat → Int32))) : Nat → Int32 → Int32 → Option (Int32 × (Nat → Int32))
  | 0 => fun _ _ => none
  | n + 1 => fun x4 x5 => fn_X10_out_b26 c_t_walkers c_t_where c_t_home c_t_apart x3 (fn_X10_out_l26 c_t_walkers c_t_where c_t_home c_t_apart x3 k n) k x4 x5
def fn_X10_out_b14 (c_t_walkers : Int32) (c_t_where : Nat → Int32) (c_t_home : Nat → Int32) (c_t_apart : Nat → Int32) (x1 : Int32) (rc : Int32 → Option (Int32 × (Nat → Int32))) (k : Option (Int32 × (Nat → Int32))) (x3 : Int32) : Option (Int32 × (Nat → Int32)) :=
  if 6 ≤ x3 then
    k
  else
    fn_X10_out_l26 c_t_walkers c_t_where c_t_home c_t_apart x3 (fun v15 =>
      b1_ (fn_X10_isWalker c_t_walkers x3) fun r16 =>
      if r16 = 0 then
        rc (x3 + 1)
      else
        if v15 = x1 then
          some (x3, c_t_apart)
        else
          rc (x3 + 1)) fu_ 0 0
def fn_X10_out_l14 (c_t_walkers : Int32) (c_t_where : Nat → Int32) (c_t_home : Nat → Int32) (c_t_apart : Nat → Int32) (x1 : Int32) (k : Option (Int32 × (Nat → Int32))) : Nat → Int32 → Option (Int32 × (Nat → Int32))
  | 0 => fun _ => none
  | n + 1 => fun x3 => fn_X10_out_b14 c_t_walkers c_t_where c_t_home c_t_apart x1 (fn_X10_out_l14 c_t_walkers c_t_where c_t_home c_t_apart x1 k n) k x3
def fn_X10_out (c_t_foggy : Int32) (c_t_walkers : Int32) (c_t_steps : Nat → Int32) (c_t_wet : Nat → Int32) (c_t_where : Nat → Int32) (c_t_home : Nat → Int32) (c_t_apart : Nat → Int32) (x1 : Int32) : Option (Int32 × (Nat → Int32)) :=
  b1_ (fn_X10_findWays c_t_foggy c_t_steps c_t_wet c_t_apart) fun w1 =>
  b1_ (fn_X10_ones c_t_walkers) fun r3 =>
  fn_X10_out_l14 c_t_walkers c_t_where c_t_home w1 x1 (if x1 = (-1) then
    some (r3, w1)
  else
    some ((-6), w1)) fu_ 0
set_option maxHeartbeats 4000000 in
set_option maxRecDepth 100000 in
theorem wn_X10_out_j114 {p : Program} {l : Launch} {e : Env} {s : State} {m : MethodId} {args : Array Value} {below : List Frame} {meth : Method} {c : Code} {G : gw_} {A : Nat → Prop} {Q : State → Prop} {A_t : Nat} {A_t_steps : Nat} {A_t_wet : Nat} {A_t_where : Nat} {A_t_home : Nat} {A_t_light : Nat} {A_t_carries : Nat} {A_t_sightPlace : Nat} {A_t_sightLight : Nat} {A_t_pad : Nat} {A_t_act : Nat} {A_t_whose : Nat} {A_t_whom : Nat} {A_t_tens : Nat} {A_t_had : Nat} {A_t_leaves : Nat} {A_t_apart : Nat} {A_t_stop : Nat} {A_t_restOf : Nat} {A_t_group : Nat} {A_t_along : Nat} {A_t_kept : Nat} {A_t_isKept : Nat} {c_t_foggy : Int32} {c_t_walkers : Int32} {c_t_sights : Int32} {c_t_padMany : Int32} {c_t_acts : Int32} {c_t_spent : Int32} {c_t_walks : Int32} {c_t_badAct : Int32} {c_t_badWhy : Int32} {c_t_keptAt : Int32} {c_t_isWriting : Int32} {c_t_steps : Nat → Int32} {c_t_wet : Nat → Int32} {c_t_where : Nat → Int32} {c_t_home : Nat → Int32} {c_t_apart : Nat → Int32} {z_t_apart : Nat → Int32} {r : Int32} {x1 : Int32} {x2 : Int32} {x3 : Int32} {x5 : Int32} {s0 : Int32} {rc : Int32 → Int32 → Option (Int32 × (Nat → Int32))} {k : Int32 → Option (Int32 × (Nat → Int32))} (hC : cx_ p s m c G cX10_out 8 RX10) (hret : ∀ (pc : Nat) (H : Heap) (locs : List Loc) (ls : Array Slot), decode cX10_out pc = .ok (.ireturn, 1) → wd_ G A s.heap (wl_X10_out G A_t A_t_steps A_t_wet A_t_where A_t_home A_t_light A_t_carries A_t_sightPlace A_t_sightLight A_t_pad A_t_act A_t_whose A_t_whom A_t_tens A_t_had A_t_leaves A_t_apart A_t_stop A_t_restOf A_t_group A_t_along A_t_kept A_t_isKept c_t_foggy c_t_walkers c_t_sights c_t_padMany c_t_acts c_t_spent c_t_walks c_t_badAct c_t_badWhy c_t_keptAt c_t_isWriting c_t_steps c_t_wet c_t_where c_t_home z_t_apart) H locs → W p l e { frames := 4, cells := 0, slots := 0, locals := 91 } s m args below meth c H locs 0 0 Q (F0 m pc ls [.int r])) (hrc : ∀ (x4 : Int32) (x5 : Int32) (H : Heap) (locs : List Loc) (ls : Array Slot), rc x4 x5 = some (r, z_t_apart) → lv_has ls 8 [(0, .ref A_t), (1, .int x1), (2, .int x2), (3, .int x3), (4, .int x4), (5, .int x5)] → wd_ G A s.heap (wl_X10_out G A_t A_t_steps A_t_wet A_t_where A_t_home A_t_light A_t_carries A_t_sightPlace A_t_sightLight A_t_pad A_t_act A_t_whose A_t_whom A_t_tens A_t_had A_t_leaves A_t_apart A_t_stop A_t_restOf A_t_group A_t_along A_t_kept A_t_isKept c_t_foggy c_t_walkers c_t_sights c_t_padMany c_t_acts c_t_spent c_t_walks c_t_badAct c_t_badWhy c_t_keptAt c_t_isWriting c_t_steps c_t_wet c_t_where c_t_home c_t_apart) H locs → W p l e { frames := 4, cells := 0, slots := 0, locals := 91 } s m args below meth c H locs 0 0 Q (F0 m 26 ls [])) (hk : ∀ (x4 : Int32) (H : Heap) (locs : List Loc) (ls : Array Slot), k x4 = some (r, z_t_apart) → lv_has ls 8 [(0, .ref A_t), (1, .int x1), (2, .int x2), (3, .int x3), (4, .int x4)] → wd_ G A s.heap (wl_X10_out G A_t A_t_steps A_t_wet A_t_where A_t_home A_t_light A_t_carries A_t_sightPlace A_t_sightLight A_t_pad A_t_act A_t_whose A_t_whom A_t_tens A_t_had A_t_leaves A_t_apart A_t_stop A_t_restOf A_t_group A_t_along A_t_kept A_t_isKept c_t_foggy c_t_walkers c_t_sights c_t_padMany c_t_acts c_t_spent c_t_walks c_t_badAct c_t_badWhy c_t_keptAt c_t_isWriting c_t_steps c_t_wet c_t_where c_t_home c_t_apart) H locs → W p l e { frames := 4, cells := 0, slots := 0, locals := 91 } s m args below meth c H locs 0 0 Q (F0 m 124 ls [])) (hf : fn_X10_out_j114 x5 s0 rc k = some (r, z_t_apart)) {H : Heap} {locs : List Loc} {ls : Array Slot} (hl : lv_has ls 8 [(0, .ref A_t), (1, .int x1), (2, .int x2), (3, .int x3), (5, .int x5)]) (hw : wd_ G A s.heap (wl_X10_out G A_t A_t_steps A_t_wet A_t_where A_t_home A_t_light A_t_carries A_t_sightPlace A_t_sightLight A_t_pad A_t_act A_t_whose A_t_whom A_t_tens A_t_had A_t_leaves A_t_apart A_t_stop A_t_restOf A_t_group A_t_along A_t_kept A_t_isKept c_t_foggy c_t_walkers c_t_sights c_t_padMany c_t_acts c_t_spent c_t_walks c_t_badAct c_t_badWhy c_t_keptAt c_t_isWriting c_t_steps c_t_wet c_t_where c_t_home c_t_apart) H locs) : W p l e { frames := 4, cells := 0, slots := 0, locals := 91 } s m args below meth c H locs 0 0 Q (F0 m 114 ls [.int s0]) := by
  have hx := hC.1
  have hb := hC.2.1
  unfold fn_X10_out_j114 at hf
  refine lv_iconst (v := 0) hx hb dX10_out_114 (by decide) ?_
  refine lv_iadd hx hb dX10_out_115 ?_
  refine lv_istore (lv' := [(4, .int (s0 + 0)), (0, .ref A_t), (1, .int x1), (2, .int x2), (3, .int x3), (5, .int x5)]) hx hb dX10_out_116 hl (by decide) rfl (fun ls hl => ?_)
  refine lv_iinc (v := x5 + 1) (lv' := [(5, .int (x5 + 1)), (4, .int (s0 + 0)), (0, .ref A_t), (1, .int x1), (2, .int x2), (3, .int x3)]) hx hb dX10_out_118 hl (k := 5) rfl rfl (by decide) rfl (fun ls hl => ?_)
  refine lv_goto (tgt := 26) hx hb dX10_out_121 (by decide) ?_
  exact hrc (s0 + 0) (x5 + 1) _ _ _ hf (lv_sub hl [2, 3, 4, 5, 1, 0] rfl) hw
set_option maxHeartbeats 4000000 in
set_option maxRecDepth 100000 in
theorem wn_X10_out_j110 {p : Program} {l : Launch} {e : Env} {s : State} {m : MethodId} {args : Array Value} {below : List Frame} {meth : Method} {c : Code} {G : gw_} {A : Nat → Prop} {Q : State → Prop} {A_t : Nat} {A_t_steps : Nat} {A_t_wet : Nat} {A_t_where : Nat} {A_t_home : Nat} {A_t_light : Nat} {A_t_carries : Nat} {A_t_sightPlace : Nat} {A_t_sightLight : Nat} {A_t_pad : Nat} {A_t_act : Nat} {A_t_whose : Nat} {A_t_whom : Nat} {A_t_tens : Nat} {A_t_had : Nat} {A_t_leaves : Nat} {A_t_apart : Nat} {A_t_stop : Nat} {A_t_restOf : Nat} {A_t_group : Nat} {A_t_along : Nat} {A_t_kept : Nat} {A_t_isKept : Nat} {c_t_foggy : Int32} {c_t_walkers : Int32} {c_t_sights : Int32} {c_t_padMany : Int32} {c_t_acts : Int32} {c_t_spent : Int32} {c_t_walks : Int32} {c_t_badAct : Int32} {c_t_badWhy : Int32} {c_t_keptAt : Int32} {c_t_isWriting : Int32} {c_t_steps : Nat → Int32} {c_t_wet : Nat → Int32} {c_t_where : Nat → Int32} {c_t_home : Nat → Int32} {c_t_apart : Nat → Int32} {z_t_apart : Nat → Int32} {r : Int32} {x1 : Int32} {x2 : Int32} {x3 : Int32} {x5 : Int32} {s0 : Int32} {rc : Int32 → Int32 → Option (Int32 × (Nat → Int32))} {k : Int32 → Option (Int32 × (Nat → Int32))} (hC : cx_ p s m c G cX10_out 8 RX10) (hret : ∀ (pc : Nat) (H : Heap) (locs : List Loc) (ls : Array Slot), decode cX10_out pc = .ok (.ireturn, 1) → wd_ G A s.heap (wl_X10_out G A_t A_t_steps A_t_wet A_t_where A_t_home A_t_light A_t_carries A_t_sightPlace A_t_sightLight A_t_pad A_t_act A_t_whose A_t_whom A_t_tens A_t_had A_t_leaves A_t_apart A_t_stop A_t_restOf A_t_group A_t_along A_t_kept A_t_isKept c_t_foggy c_t_walkers c_t_sights c_t_padMany c_t_acts c_t_spent c_t_walks c_t_badAct c_t_badWhy c_t_keptAt c_t_isWriting c_t_steps c_t_wet c_t_where c_t_home z_t_apart) H locs → W p l e { frames := 4, cells := 0, slots := 0, locals := 91 } s m args below meth c H locs 0 0 Q (F0 m pc ls [.int r])) (hrc : ∀ (x4 : Int32) (x5 : Int32) (H : Heap) (locs : List Loc) (ls : Array Slot), rc x4 x5 = some (r, z_t_apart) → lv_has ls 8 [(0, .ref A_t), (1, .int x1), (2, .int x2), (3, .int x3), (4, .int x4), (5, .int x5)] → wd_ G A s.heap (wl_X10_out G A_t A_t_steps A_t_wet A_t_where A_t_home A_t_light A_t_carries A_t_sightPlace A_t_sightLight A_t_pad A_t_act A_t_whose A_t_whom A_t_tens A_t_had A_t_leaves A_t_apart A_t_stop A_t_restOf A_t_group A_t_along A_t_kept A_t_isKept c_t_foggy c_t_walkers c_t_sights c_t_padMany c_t_acts c_t_spent c_t_walks c_t_badAct c_t_badWhy c_t_keptAt c_t_isWriting c_t_steps c_t_wet c_t_where c_t_home c_t_apart) H locs → W p l e { frames := 4, cells := 0, slots := 0, locals := 91 } s m args below meth c H locs 0 0 Q (F0 m 26 ls [])) (hk : ∀ (x4 : Int32) (H : Heap) (locs : List Loc) (ls : Array Slot), k x4 = some (r, z_t_apart) → lv_has ls 8 [(0, .ref A_t), (1, .int x1), (2, .int x2), (3, .int x3), (4, .int x4)] → wd_ G A s.heap (wl_X10_out G A_t A_t_steps A_t_wet A_t_where A_t_home A_t_light A_t_carries A_t_sightPlace A_t_sightLight A_t_pad A_t_act A_t_whose A_t_whom A_t_tens A_t_had A_t_leaves A_t_apart A_t_stop A_t_restOf A_t_group A_t_along A_t_kept A_t_isKept c_t_foggy c_t_walkers c_t_sights c_t_padMany c_t_acts c_t_spent c_t_walks c_t_badAct c_t_badWhy c_t_keptAt c_t_isWriting c_t_steps c_t_wet c_t_where c_t_home c_t_apart) H locs → W p l e { frames := 4, cells := 0, slots := 0, locals := 91 } s m args below meth c H locs 0 0 Q (F0 m 124 ls [])) (hf : fn_X10_out_j110 x5 s0 rc k = some (r, z_t_apart)) {H : Heap} {locs : List Loc} {ls : Array Slot} (hl : lv_has ls 8 [(0, .ref A_t), (1, .int x1), (2, .int x2), (3, .int x3), (5, .int x5)]) (hw : wd_ G A s.heap (wl_X10_out G A_t A_t_steps A_t_wet A_t_where A_t_home A_t_light A_t_carries A_t_sightPlace A_t_sightLight A_t_pad A_t_act A_t_whose A_t_whom A_t_tens A_t_had A_t_leaves A_t_apart A_t_stop A_t_restOf A_t_group A_t_along A_t_kept A_t_isKept c_t_foggy c_t_walkers c_t_sights c_t_padMany c_t_acts c_t_spent c_t_walks c_t_badAct c_t_badWhy c_t_keptAt c_t_isWriting c_t_steps c_t_wet c_t_where c_t_home c_t_apart) H locs) : W p l e { frames := 4, cells := 0, slots := 0, locals := 91 } s m args below meth c H locs 0 0 Q (F0 m 110 ls [.int s0]) := by
  have hx := hC.1
  have hb := hC.2.1
  unfold fn_X10_out_j110 at hf
  refine lv_iconst (v := 1) hx hb dX10_out_110 (by decide) ?_
  refine lv_goto (tgt := 115) hx hb dX10_out_111 (by decide) ?_
  refine lv_iadd hx hb dX10_out_115 ?_
  refine lv_istore (lv' := [(4, .int (s0 + 1)), (0, .ref A_t), (1, .int x1), (2, .int x2), (3, .int x3), (5, .int x5)]) hx hb dX10_out_116 hl (by decide) rfl (fun ls hl => ?_)
  refine lv_iinc (v := x5 + 1) (lv' := [(5, .int (x5 + 1)), (4, .int (s0 + 1)), (0, .ref A_t), (1, .int x1), (2, .int x2), (3, .int x3)]) hx hb dX10_out_118 hl (k := 5) rfl rfl (by decide) rfl (fun ls hl => ?_)
  refine lv_goto (tgt := 26) hx hb dX10_out_121 (by decide) ?_
  exact hrc (s0 + 1) (x5 + 1) _ _ _ hf (lv_sub hl [2, 3, 4, 5, 1, 0] rfl) hw
set_option maxHeartbeats 4000000 in
set_option maxRecDepth 100000 in
theorem wn_X10_out_j77 {p : Program} {l : Launch} {e : Env} {s : State} {m : MethodId} {args : Array Value} {below : List Frame} {meth : Method} {c : Code} {G : gw_} {A : Nat → Prop} {Q : State → Prop} {A_t : Nat} {A_t_steps : Nat} {A_t_wet : Nat} {A_t_where : Nat} {A_t_home : Nat} {A_t_light : Nat} {A_t_carries : Nat} {A_t_sightPlace : Nat} {A_t_sightLight : Nat} {A_t_pad : Nat} {A_t_act : Nat} {A_t_whose : Nat} {A_t_whom : Nat} {A_t_tens : Nat} {A_t_had : Nat} {A_t_leaves : Nat} {A_t_apart : Nat} {A_t_stop : Nat} {A_t_restOf : Nat} {A_t_group : Nat} {A_t_along : Nat} {A_t_kept : Nat} {A_t_isKept : Nat} {c_t_foggy : Int32} {c_t_walkers : Int32} {c_t_sights : Int32} {c_t_padMany : Int32} {c_t_acts : Int32} {c_t_spent : Int32} {c_t_walks : Int32} {c_t_badAct : Int32} {c_t_badWhy : Int32} {c_t_keptAt : Int32} {c_t_isWriting : Int32} {c_t_steps : Nat → Int32} {c_t_wet : Nat → Int32} {c_t_where : Nat → Int32} {c_t_home : Nat → Int32} {c_t_apart : Nat → Int32} {z_t_apart : Nat → Int32} {r : Int32} {x1 : Int32} {x2 : Int32} {x3 : Int32} {x4 : Int32} {x5 : Int32} {x6 : Int32} {s0 : Int32} {rc : Int32 → Int32 → Option (Int32 × (Nat → Int32))} {k : Int32 → Option (Int32 × (Nat → Int32))} (hC : cx_ p s m c G cX10_out 8 RX10) (hret : ∀ (pc : Nat) (H : Heap) (locs : List Loc) (ls : Array Slot), decode cX10_out pc = .ok (.ireturn, 1) → wd_ G A s.heap (wl_X10_out G A_t A_t_steps A_t_wet A_t_where A_t_home A_t_light A_t_carries A_t_sightPlace A_t_sightLight A_t_pad A_t_act A_t_whose A_t_whom A_t_tens A_t_had A_t_leaves A_t_apart A_t_stop A_t_restOf A_t_group A_t_along A_t_kept A_t_isKept c_t_foggy c_t_walkers c_t_sights c_t_padMany c_t_acts c_t_spent c_t_walks c_t_badAct c_t_badWhy c_t_keptAt c_t_isWriting c_t_steps c_t_wet c_t_where c_t_home z_t_apart) H locs → W p l e { frames := 4, cells := 0, slots := 0, locals := 91 } s m args below meth c H locs 0 0 Q (F0 m pc ls [.int r])) (hrc : ∀ (x4 : Int32) (x5 : Int32) (H : Heap) (locs : List Loc) (ls : Array Slot), rc x4 x5 = some (r, z_t_apart) → lv_has ls 8 [(0, .ref A_t), (1, .int x1), (2, .int x2), (3, .int x3), (4, .int x4), (5, .int x5)] → wd_ G A s.heap (wl_X10_out G A_t A_t_steps A_t_wet A_t_where A_t_home A_t_light A_t_carries A_t_sightPlace A_t_sightLight A_t_pad A_t_act A_t_whose A_t_whom A_t_tens A_t_had A_t_leaves A_t_apart A_t_stop A_t_restOf A_t_group A_t_along A_t_kept A_t_isKept c_t_foggy c_t_walkers c_t_sights c_t_padMany c_t_acts c_t_spent c_t_walks c_t_badAct c_t_badWhy c_t_keptAt c_t_isWriting c_t_steps c_t_wet c_t_where c_t_home c_t_apart) H locs → W p l e { frames := 4, cells := 0, slots := 0, locals := 91 } s m args below meth c H locs 0 0 Q (F0 m 26 ls [])) (hk : ∀ (x4 : Int32) (H : Heap) (locs : List Loc) (ls : Array Slot), k x4 = some (r, z_t_apart) → lv_has ls 8 [(0, .ref A_t), (1, .int x1), (2, .int x2), (3, .int x3), (4, .int x4)] → wd_ G A s.heap (wl_X10_out G A_t A_t_steps A_t_wet A_t_where A_t_home A_t_light A_t_carries A_t_sightPlace A_t_sightLight A_t_pad A_t_act A_t_whose A_t_whom A_t_tens A_t_had A_t_leaves A_t_apart A_t_stop A_t_restOf A_t_group A_t_along A_t_kept A_t_isKept c_t_foggy c_t_walkers c_t_sights c_t_padMany c_t_acts c_t_spent c_t_walks c_t_badAct c_t_badWhy c_t_keptAt c_t_isWriting c_t_steps c_t_wet c_t_where c_t_home c_t_apart) H locs → W p l e { frames := 4, cells := 0, slots := 0, locals := 91 } s m args below meth c H locs 0 0 Q (F0 m 124 ls [])) (hf : fn_X10_out_j77 c_t_walkers x3 x4 x5 x6 s0 rc k = some (r, z_t_apart)) {H : Heap} {locs : List Loc} {ls : Array Slot} (hl : lv_has ls 8 [(0, .ref A_t), (1, .int x1), (2, .int x2), (3, .int x3), (4, .int x4), (5, .int x5), (6, .int x6)]) (hw : wd_ G A s.heap (wl_X10_out G A_t A_t_steps A_t_wet A_t_where A_t_home A_t_light A_t_carries A_t_sightPlace A_t_sightLight A_t_pad A_t_act A_t_whose A_t_whom A_t_tens A_t_had A_t_leaves A_t_apart A_t_stop A_t_restOf A_t_group A_t_along A_t_kept A_t_isKept c_t_foggy c_t_walkers c_t_sights c_t_padMany c_t_acts c_t_spent c_t_walks c_t_badAct c_t_badWhy c_t_keptAt c_t_isWriting c_t_steps c_t_wet c_t_where c_t_home c_t_apart) H locs) : W p l e { frames := 4, cells := 0, slots := 0, locals := 91 } s m args below meth c H locs 0 0 Q (F0 m 77 ls [.int s0]) := by
  have hx := hC.1
  have hb := hC.2.1
  unfold fn_X10_out_j77 at hf
  refine lv_istore (lv' := [(7, .int s0), (0, .ref A_t), (1, .int x1), (2, .int x2), (3, .int x3), (4, .int x4), (5, .int x5), (6, .int x6)]) hx hb dX10_out_77 hl (by decide) rfl (fun ls hl => ?_)
  refine lv_iload hx hb dX10_out_79 (lv_at hl 5 rfl) ?_
  refine lv_aload_n hx hb dX10_out_81 rfl (lv_at hl 1 rfl) ?_
  refine lv_iload hx hb dX10_out_82 (lv_at hl 6 rfl) ?_
  obtain ⟨r9, hq10, hf⟩ := b1_s hf
  refine h_cVi hC hw mvX10_106 (cn_X10_isWalker l G A_t A_t_steps A_t_wet A_t_where A_t_home A_t_light A_t_carries A_t_sightPlace A_t_sightLight A_t_pad A_t_act A_t_whose A_t_whom A_t_tens A_t_had A_t_leaves A_t_apart A_t_stop A_t_restOf A_t_group A_t_along A_t_kept A_t_isKept c_t_foggy c_t_walkers c_t_sights c_t_padMany c_t_acts c_t_spent c_t_walks c_t_badAct c_t_badWhy c_t_keptAt c_t_isWriting x5 r9 hq10) [0] rfl (by decide) 0 rfl rfl rfl hl.1 rfl (Nat.le_of_ble_eq_true rfl) ⟨Nat.le_of_ble_eq_true rfl, Nat.le_of_ble_eq_true rfl⟩ ⟨Nat.le_refl _, Nat.le_refl _⟩ dX10_out_84 (fun H locs hw => ?_)
  refine lv_if_eq (tgt := 114) hx hb dX10_out_87 (by decide) (fun hc => ?_) (fun hc => ?_)
  · replace hf := it_t hc hf
    exact wn_X10_out_j114 hC hret hrc hk hf (lv_sub hl [1, 2, 3, 4, 6] rfl) hw
  · replace hf := it_f hc hf
    refine lv_iload hx hb dX10_out_90 (lv_at hl 7 rfl) ?_
    refine lv_iload hx hb dX10_out_92 (lv_at hl 0 rfl) ?_
    refine lv_icmp_lt (tgt := 110) hx hb dX10_out_94 (by decide) (fun hc => ?_) (fun hc => ?_)
    · replace hf := it_t hc hf
      exact wn_X10_out_j110 hC hret hrc hk hf (lv_sub hl [1, 2, 3, 4, 6] rfl) hw
    · replace hf := it_f hc hf
      refine lv_iload hx hb dX10_out_97 (lv_at hl 7 rfl) ?_
      refine lv_iload hx hb dX10_out_99 (lv_at hl 0 rfl) ?_
      refine lv_icmp_ne (tgt := 114) hx hb dX10_out_101 (by decide) (fun hc => ?_) (fun hc => ?_)
      · replace hf := it_f hc hf
        exact wn_X10_out_j114 hC hret hrc hk hf (lv_sub hl [1, 2, 3, 4, 6] rfl) hw
      · replace hf := it_t hc hf
        refine lv_iload hx hb dX10_out_104 (lv_at hl 6 rfl) ?_
        refine lv_iload_n hx hb dX10_out_106 rfl (lv_at hl 4 rfl) ?_
        refine lv_icmp_ge (tgt := 114) hx hb dX10_out_107 (by decide) (fun hc => ?_) (fun hc => ?_)
        · replace hf := it_t hc hf
          exact wn_X10_out_j114 hC hret hrc hk hf (lv_sub hl [1, 2, 3, 4, 6] rfl) hw
        · replace hf := it_f hc hf
          exact wn_X10_out_j110 hC hret hrc hk hf (lv_sub hl [1, 2, 3, 4, 6] rfl) hw
set_option maxHeartbeats 4000000 in
set_option maxRecDepth 100000 in
theorem wn_X10_out_j55 {p : Program} {l : Launch} {e : Env} {s : State} {m : MethodId} {args : Array Value} {below : List Frame} {meth : Method} {c : Code} {G : gw_} {A : Nat → Prop} {Q : State → Prop} {A_t : Nat} {A_t_steps : Nat} {A_t_wet : Nat} {A_t_where : Nat} {A_t_home : Nat} {A_t_light : Nat} {A_t_carries : Nat} {A_t_sightPlace : Nat} {A_t_sightLight : Nat} {A_t_pad : Nat} {A_t_act : Nat} {A_t_whose : Nat} {A_t_whom : Nat} {A_t_tens : Nat} {A_t_had : Nat} {A_t_leaves : Nat} {A_t_apart : Nat} {A_t_stop : Nat} {A_t_restOf : Nat} {A_t_group : Nat} {A_t_along : Nat} {A_t_kept : Nat} {A_t_isKept : Nat} {c_t_foggy : Int32} {c_t_walkers : Int32} {c_t_sights : Int32} {c_t_padMany : Int32} {c_t_acts : Int32} {c_t_spent : Int32} {c_t_walks : Int32} {c_t_badAct : Int32} {c_t_badWhy : Int32} {c_t_keptAt : Int32} {c_t_isWriting : Int32} {c_t_steps : Nat → Int32} {c_t_wet : Nat → Int32} {c_t_where : Nat → Int32} {c_t_home : Nat → Int32} {c_t_apart : Nat → Int32} {z_t_apart : Nat → Int32} {r : Int32} {x1 : Int32} {x2 : Int32} {x3 : Int32} {x4 : Int32} {x5 : Int32} {s0 : Int32} {rc : Int32 → Int32 → Option (Int32 × (Nat → Int32))} {k : Int32 → Option (Int32 × (Nat → Int32))} (hC : cx_ p s m c G cX10_out 8 RX10) (hret : ∀ (pc : Nat) (H : Heap) (locs : List Loc) (ls : Array Slot), decode cX10_out pc = .ok (.ireturn, 1) → wd_ G A s.heap (wl_X10_out G A_t A_t_steps A_t_wet A_t_where A_t_home A_t_light A_t_carries A_t_sightPlace A_t_sightLight A_t_pad A_t_act A_t_whose A_t_whom A_t_tens A_t_had A_t_leaves A_t_apart A_t_stop A_t_restOf A_t_group A_t_along A_t_kept A_t_isKept c_t_foggy c_t_walkers c_t_sights c_t_padMany c_t_acts c_t_spent c_t_walks c_t_badAct c_t_badWhy c_t_keptAt c_t_isWriting c_t_steps c_t_wet c_t_where c_t_home z_t_apart) H locs → W p l e { frames := 4, cells := 0, slots := 0, locals := 91 } s m args below meth c H locs 0 0 Q (F0 m pc ls [.int r])) (hrc : ∀ (x4 : Int32) (x5 : Int32) (H : Heap) (locs : List Loc) (ls : Array Slot), rc x4 x5 = some (r, z_t_apart) → lv_has ls 8 [(0, .ref A_t), (1, .int x1), (2, .int x2), (3, .int x3), (4, .int x4), (5, .int x5)] → wd_ G A s.heap (wl_X10_out G A_t A_t_steps A_t_wet A_t_where A_t_home A_t_light A_t_carries A_t_sightPlace A_t_sightLight A_t_pad A_t_act A_t_whose A_t_whom A_t_tens A_t_had A_t_leaves A_t_apart A_t_stop A_t_restOf A_t_group A_t_along A_t_kept A_t_isKept c_t_foggy c_t_walkers c_t_sights c_t_padMany c_t_acts c_t_spent c_t_walks c_t_badAct c_t_badWhy c_t_keptAt c_t_isWriting c_t_steps c_t_wet c_t_where c_t_home c_t_apart) H locs → W p l e { frames := 4, cells := 0, slots := 0, locals := 91 } s m args below meth c H locs 0 0 Q (F0 m 26 ls [])) (hk : ∀ (x4 : Int32) (H : Heap) (locs : List Loc) (ls : Array Slot), k x4 = some (r, z_t_apart) → lv_has ls 8 [(0, .ref A_t), (1, .int x1), (2, .int x2), (3, .int x3), (4, .int x4)] → wd_ G A s.heap (wl_X10_out G A_t A_t_steps A_t_wet A_t_where A_t_home A_t_light A_t_carries A_t_sightPlace A_t_sightLight A_t_pad A_t_act A_t_whose A_t_whom A_t_tens A_t_had A_t_leaves A_t_apart A_t_stop A_t_restOf A_t_group A_t_along A_t_kept A_t_isKept c_t_foggy c_t_walkers c_t_sights c_t_padMany c_t_acts c_t_spent c_t_walks c_t_badAct c_t_badWhy c_t_keptAt c_t_isWriting c_t_steps c_t_wet c_t_where c_t_home c_t_apart) H locs → W p l e { frames := 4, cells := 0, slots := 0, locals := 91 } s m args below meth c H locs 0 0 Q (F0 m 124 ls [])) (hf : fn_X10_out_j55 c_t_walkers c_t_where c_t_home c_t_apart x3 x4 x5 s0 rc k = some (r, z_t_apart)) {H : Heap} {locs : List Loc} {ls : Array Slot} (hl : lv_has ls 8 [(0, .ref A_t), (1, .int x1), (2, .int x2), (3, .int x3), (4, .int x4), (5, .int x5)]) (hw : wd_ G A s.heap (wl_X10_out G A_t A_t_steps A_t_wet A_t_where A_t_home A_t_light A_t_carries A_t_sightPlace A_t_sightLight A_t_pad A_t_act A_t_whose A_t_whom A_t_tens A_t_had A_t_leaves A_t_apart A_t_stop A_t_restOf A_t_group A_t_along A_t_kept A_t_isKept c_t_foggy c_t_walkers c_t_sights c_t_padMany c_t_acts c_t_spent c_t_walks c_t_badAct c_t_badWhy c_t_keptAt c_t_isWriting c_t_steps c_t_wet c_t_where c_t_home c_t_apart) H locs) : W p l e { frames := 4, cells := 0, slots := 0, locals := 91 } s m args below meth c H locs 0 0 Q (F0 m 55 ls [.int s0]) := by
  have hx := hC.1
  have hb := hC.2.1
  unfold fn_X10_out_j55 at hf
  refine lv_istore (lv' := [(6, .int s0), (0, .ref A_t), (1, .int x1), (2, .int x2), (3, .int x3), (4, .int x4), (5, .int x5)]) hx hb dX10_out_55 hl (by decide) rfl (fun ls hl => ?_)
  refine lv_aload_n hx hb dX10_out_57 rfl (lv_at hl 1 rfl) ?_
  refine lv_iload_n hx hb dX10_out_58 rfl (lv_at hl 4 rfl) ?_
  obtain ⟨r7, hq8, hf⟩ := b1_s hf
  refine h_cVi hC hw mvX10_225 (cn_X10_homeWay l G A_t A_t_steps A_t_wet A_t_where A_t_home A_t_light A_t_carries A_t_sightPlace A_t_sightLight A_t_pad A_t_act A_t_whose A_t_whom A_t_tens A_t_had A_t_leaves A_t_apart A_t_stop A_t_restOf A_t_group A_t_along A_t_kept A_t_isKept c_t_foggy c_t_walkers c_t_sights c_t_padMany c_t_acts c_t_spent c_t_walks c_t_badAct c_t_badWhy c_t_keptAt c_t_isWriting c_t_where c_t_home c_t_apart x3 r7 hq8) [0, 3, 4, 5] rfl (by decide) 0 rfl rfl rfl hl.1 rfl (Nat.le_of_ble_eq_true rfl) ⟨Nat.le_of_ble_eq_true rfl, Nat.le_of_ble_eq_true rfl⟩ ⟨Nat.le_refl _, Nat.le_refl _⟩ dX10_out_59 (fun H locs hw => ?_)
  refine g_ldc (v := 1000000) hC (tb5 17 rfl rfl) dX10_out_62 ?_
  refine lv_icmp_ge (tgt := 75) hx hb dX10_out_64 (by decide) (fun hc => ?_) (fun hc => ?_)
  · replace hf := it_t hc hf
    refine g_ldc (v := 1000000) hC (tb5 17 rfl rfl) dX10_out_75 ?_
    exact wn_X10_out_j77 hC hret hrc hk hf (lv_sub hl [1, 2, 3, 4, 5, 6, 0] rfl) hw
  · replace hf := it_f hc hf
    refine lv_aload_n hx hb dX10_out_67 rfl (lv_at hl 1 rfl) ?_
    refine lv_iload_n hx hb dX10_out_68 rfl (lv_at hl 4 rfl) ?_
    obtain ⟨r11, hq12, hf⟩ := b1_s hf
    refine h_cVi hC hw mvX10_225 (cn_X10_homeWay l G A_t A_t_steps A_t_wet A_t_where A_t_home A_t_light A_t_carries A_t_sightPlace A_t_sightLight A_t_pad A_t_act A_t_whose A_t_whom A_t_tens A_t_had A_t_leaves A_t_apart A_t_stop A_t_restOf A_t_group A_t_along A_t_kept A_t_isKept c_t_foggy c_t_walkers c_t_sights c_t_padMany c_t_acts c_t_spent c_t_walks c_t_badAct c_t_badWhy c_t_keptAt c_t_isWriting c_t_where c_t_home c_t_apart x3 r11 hq12) [0, 3, 4, 5] rfl (by decide) 0 rfl rfl rfl hl.1 rfl (Nat.le_of_ble_eq_true rfl) ⟨Nat.le_of_ble_eq_true rfl, Nat.le_of_ble_eq_true rfl⟩ ⟨Nat.le_refl _, Nat.le_refl _⟩ dX10_out_69 (fun H locs hw => ?_)
    refine lv_goto (tgt := 77) hx hb dX10_out_72 (by decide) ?_
    exact wn_X10_out_j77 hC hret hrc hk hf (lv_sub hl [1, 2, 3, 4, 5, 6, 0] rfl) hw
set_option maxHeartbeats 4000000 in
set_option maxRecDepth 100000 in
theorem wn_X10_out_l26 {p : Program} {l : Launch} {e : Env} {s : State} {m : MethodId} {args : Array Value} {below : List Frame} {meth : Method} {c : Code} {G : gw_} {A : Nat → Prop} {Q : State → Prop} {A_t : Nat} {A_t_steps : Nat} {A_t_wet : Nat} {A_t_where : Nat} {A_t_home : Nat} {A_t_light : Nat} {A_t_carries : Nat} {A_t_sightPlace : Nat} {A_t_sightLight : Nat} {A_t_pad : Nat} {A_t_act : Nat} {A_t_whose : Nat} {A_t_whom : Nat} {A_t_tens : Nat} {A_t_had : Nat} {A_t_leaves : Nat} {A_t_apart : Nat} {A_t_stop : Nat} {A_t_restOf : Nat} {A_t_group : Nat} {A_t_along : Nat} {A_t_kept : Nat} {A_t_isKept : Nat} {c_t_foggy : Int32} {c_t_walkers : Int32} {c_t_sights : Int32} {c_t_padMany : Int32} {c_t_acts : Int32} {c_t_spent : Int32} {c_t_walks : Int32} {c_t_badAct : Int32} {c_t_badWhy : Int32} {c_t_keptAt : Int32} {c_t_isWriting : Int32} {c_t_steps : Nat → Int32} {c_t_wet : Nat → Int32} {c_t_where : Nat → Int32} {c_t_home : Nat → Int32} {c_t_apart : Nat → Int32} {z_t_apart : Nat → Int32} {r : Int32} {x1 : Int32} {x2 : Int32} {x3 : Int32} {k : Int32 → Option (Int32 × (Nat → Int32))} (hC : cx_ p s m c G cX10_out 8 RX10) (hret : ∀ (pc : Nat) (H : Heap) (locs : List Loc) (ls : Array Slot), decode cX10_out pc = .ok (.ireturn, 1) → wd_ G A s.heap (wl_X10_out G A_t A_t_steps A_t_wet A_t_where A_t_home A_t_light A_t_carries A_t_sightPlace A_t_sightLight A_t_pad A_t_act A_t_whose A_t_whom A_t_tens A_t_had A_t_leaves A_t_apart A_t_stop A_t_restOf A_t_group A_t_along A_t_kept A_t_isKept c_t_foggy c_t_walkers c_t_sights c_t_padMany c_t_acts c_t_spent c_t_walks c_t_badAct c_t_badWhy c_t_keptAt c_t_isWriting c_t_steps c_t_wet c_t_where c_t_home z_t_apart) H locs → W p l e { frames := 4, cells := 0, slots := 0, locals := 91 } s m args below meth c H locs 0 0 Q (F0 m pc ls [.int r])) (hk : ∀ (x4 : Int32) (H : Heap) (locs : List Loc) (ls : Array Slot), k x4 = some (r, z_t_apart) → lv_has ls 8 [(0, .ref A_t), (1, .int x1), (2, .int x2), (3, .int x3), (4, .int x4)] → wd_ G A s.heap (wl_X10_out G A_t A_t_steps A_t_wet A_t_where A_t_home A_t_light A_t_carries A_t_sightPlace A_t_sightLight A_t_pad A_t_act A_t_whose A_t_whom A_t_tens A_t_had A_t_leaves A_t_apart A_t_stop A_t_restOf A_t_group A_t_along A_t_kept A_t_isKept c_t_foggy c_t_walkers c_t_sights c_t_padMany c_t_acts c_t_spent c_t_walks c_t_badAct c_t_badWhy c_t_keptAt c_t_isWriting c_t_steps c_t_wet c_t_where c_t_home c_t_apart) H locs → W p l e { frames := 4, cells := 0, slots := 0, locals := 91 } s m args below meth c H locs 0 0 Q (F0 m 124 ls [])) : ∀ (n : Nat) (x4 : Int32) (x5 : Int32) (H : Heap) (locs : List Loc) (ls : Array Slot), fn_X10_out_l26 c_t_walkers c_t_where c_t_home c_t_apart x3 k n x4 x5 = some (r, z_t_apart) → lv_has ls 8 [(0, .ref A_t), (1, .int x1), (2, .int x2), (3, .int x3), (4, .int x4), (5, .int x5)] → wd_ G A s.heap (wl_X10_out G A_t A_t_steps A_t_wet A_t_where A_t_home A_t_light A_t_carries A_t_sightPlace A_t_sightLight A_t_pad A_t_act A_t_whose A_t_whom A_t_tens A_t_had A_t_leaves A_t_apart A_t_stop A_t_restOf A_t_group A_t_along A_t_kept A_t_isKept c_t_foggy c_t_walkers c_t_sights c_t_padMany c_t_acts c_t_spent c_t_walks c_t_badAct c_t_badWhy c_t_keptAt c_t_isWriting c_t_steps c_t_wet c_t_where c_t_home c_t_apart) H locs → W p l e { frames := 4, cells := 0, slots := 0, locals := 91 } s m args below meth c H locs 0 0 Q (F0 m 26 ls []) := by
  have hx := hC.1
  have hb := hC.2.1
  intro n
  induction n with
  | zero =>
    intro x4 x5 H locs ls hf
    cases (show (none : Option (Int32 × (Nat → Int32))) = some _ from hf)
  | succ n hrc =>
    intro x4 x5 H locs ls hf hl hw
    replace hf : fn_X10_out_b26 c_t_walkers c_t_where c_t_home c_t_apart x3 (fn_X10_out_l26 c_t_walkers c_t_where c_t_home c_t_apart x3 k n) k x4 x5 = some (r, z_t_apart) := hf
    unfold fn_X10_out_b26 at hf
    refine lv_iload hx hb dX10_out_26 (lv_at hl 5 rfl) ?_
    refine lv_bipush (v := 6) hx hb dX10_out_28 (by decide) ?_
    refine lv_icmp_ge (tgt := 124) hx hb dX10_out_30 (by decide) (fun hc => ?_) (fun hc => ?_)
    · replace hf := it_t hc hf
      exact hk x4 _ _ _ hf (lv_sub hl [0, 1, 2, 3, 4] rfl) hw
    · replace hf := it_f hc hf
      refine lv_aload_n hx hb dX10_out_33 rfl (lv_at hl 0 rfl) ?_
      refine lv_iload hx hb dX10_out_34 (lv_at hl 5 rfl) ?_
      obtain ⟨r5, hq6, hf⟩ := b1_s hf
      refine h_cVi hC hw mvX10_225 (cn_X10_homeWay l G A_t A_t_steps A_t_wet A_t_where A_t_home A_t_light A_t_carries A_t_sightPlace A_t_sightLight A_t_pad A_t_act A_t_whose A_t_whom A_t_tens A_t_had A_t_leaves A_t_apart A_t_stop A_t_restOf A_t_group A_t_along A_t_kept A_t_isKept c_t_foggy c_t_walkers c_t_sights c_t_padMany c_t_acts c_t_spent c_t_walks c_t_badAct c_t_badWhy c_t_keptAt c_t_isWriting c_t_where c_t_home c_t_apart x5 r5 hq6) [0, 3, 4, 5] rfl (by decide) 0 rfl rfl rfl hl.1 rfl (Nat.le_of_ble_eq_true rfl) ⟨Nat.le_of_ble_eq_true rfl, Nat.le_of_ble_eq_true rfl⟩ ⟨Nat.le_refl _, Nat.le_refl _⟩ dX10_out_36 (fun H locs hw => ?_)
      refine g_ldc (v := 1000000) hC (tb5 17 rfl rfl) dX10_out_39 ?_
      refine lv_icmp_ge (tgt := 53) hx hb dX10_out_41 (by decide) (fun hc => ?_) (fun hc => ?_)
      · replace hf := it_t hc hf
        refine g_ldc (v := 1000000) hC (tb5 17 rfl rfl) dX10_out_53 ?_
        exact wn_X10_out_j55 hC hret hrc hk hf (lv_sub hl [0, 1, 2, 3, 4, 5] rfl) hw
      · replace hf := it_f hc hf
        refine lv_aload_n hx hb dX10_out_44 rfl (lv_at hl 0 rfl) ?_
        refine lv_iload hx hb dX10_out_45 (lv_at hl 5 rfl) ?_
        obtain ⟨r13, hq14, hf⟩ := b1_s hf
        refine h_cVi hC hw mvX10_225 (cn_X10_homeWay l G A_t A_t_steps A_t_wet A_t_where A_t_home A_t_light A_t_carries A_t_sightPlace A_t_sightLight A_t_pad A_t_act A_t_whose A_t_whom A_t_tens A_t_had A_t_leaves A_t_apart A_t_stop A_t_restOf A_t_group A_t_along A_t_kept A_t_isKept c_t_foggy c_t_walkers c_t_sights c_t_padMany c_t_acts c_t_spent c_t_walks c_t_badAct c_t_badWhy c_t_keptAt c_t_isWriting c_t_where c_t_home c_t_apart x5 r13 hq14) [0, 3, 4, 5] rfl (by decide) 0 rfl rfl rfl hl.1 rfl (Nat.le_of_ble_eq_true rfl) ⟨Nat.le_of_ble_eq_true rfl, Nat.le_of_ble_eq_true rfl⟩ ⟨Nat.le_refl _, Nat.le_refl _⟩ dX10_out_47 (fun H locs hw => ?_)
        refine lv_goto (tgt := 55) hx hb dX10_out_50 (by decide) ?_
        exact wn_X10_out_j55 hC hret hrc hk hf (lv_sub hl [0, 1, 2, 3, 4, 5] rfl) hw
set_option maxHeartbeats 4000000 in
set_option maxRecDepth 100000 in
theorem wn_X10_out_l14 {p : Program} {l : Launch} {e : Env} {s : State} {m : MethodId} {args : Array Value} {below : List Frame} {meth : Method} {c : Code} {G : gw_} {A : Nat → Prop} {Q : State → Prop} {A_t : Nat} {A_t_steps : Nat} {A_t_wet : Nat} {A_t_where : Nat} {A_t_home : Nat} {A_t_light : Nat} {A_t_carries : Nat} {A_t_sightPlace : Nat} {A_t_sightLight : Nat} {A_t_pad : Nat} {A_t_act : Nat} {A_t_whose : Nat} {A_t_whom : Nat} {A_t_tens : Nat} {A_t_had : Nat} {A_t_leaves : Nat} {A_t_apart : Nat} {A_t_stop : Nat} {A_t_restOf : Nat} {A_t_group : Nat} {A_t_along : Nat} {A_t_kept : Nat} {A_t_isKept : Nat} {c_t_foggy : Int32} {c_t_walkers : Int32} {c_t_sights : Int32} {c_t_padMany : Int32} {c_t_acts : Int32} {c_t_spent : Int32} {c_t_walks : Int32} {c_t_badAct : Int32} {c_t_badWhy : Int32} {c_t_keptAt : Int32} {c_t_isWriting : Int32} {c_t_steps : Nat → Int32} {c_t_wet : Nat → Int32} {c_t_where : Nat → Int32} {c_t_home : Nat → Int32} {c_t_apart : Nat → Int32} {z_t_apart : Nat → Int32} {r : Int32} {x1 : Int32} {x2 : Int32} {k : Option (Int32 × (Nat → Int32))} (hC : cx_ p s m c G cX10_out 8 RX10) (hret : ∀ (pc : Nat) (H : Heap) (locs : List Loc) (ls : Array Slot), decode cX10_out pc = .ok (.ireturn, 1) → wd_ G A s.heap (wl_X10_out G A_t A_t_steps A_t_wet A_t_where A_t_home A_t_light A_t_carries A_t_sightPlace A_t_sightLight A_t_pad A_t_act A_t_whose A_t_whom A_t_tens A_t_had A_t_leaves A_t_apart A_t_stop A_t_restOf A_t_group A_t_along A_t_kept A_t_isKept c_t_foggy c_t_walkers c_t_sights c_t_padMany c_t_acts c_t_spent c_t_walks c_t_badAct c_t_badWhy c_t_keptAt c_t_isWriting c_t_steps c_t_wet c_t_where c_t_home z_t_apart) H locs → W p l e { frames := 4, cells := 0, slots := 0, locals := 91 } s m args below meth c H locs 0 0 Q (F0 m pc ls [.int r])) (hk : ∀  (H : Heap) (locs : List Loc) (ls : Array Slot), k = some (r, z_t_apart) → lv_has ls 8 [(1, .int x1), (2, .int x2)] → wd_ G A s.heap (wl_X10_out G A_t A_t_steps A_t_wet A_t_where A_t_home A_t_light A_t_carries A_t_sightPlace A_t_sightLight A_t_pad A_t_act A_t_whose A_t_whom A_t_tens A_t_had A_t_leaves A_t_apart A_t_stop A_t_restOf A_t_group A_t_along A_t_kept A_t_isKept c_t_foggy c_t_walkers c_t_sights c_t_padMany c_t_acts c_t_spent c_t_walks c_t_badAct c_t_badWhy c_t_keptAt c_t_isWriting c_t_steps c_t_wet c_t_where c_t_home c_t_apart) H locs → W p l e { frames := 4, cells := 0, slots := 0, locals := 91 } s m args below meth c H locs 0 0 Q (F0 m 146 ls [])) : ∀ (n : Nat) (x3 : Int32) (H : Heap) (locs : List Loc) (ls : Array Slot), fn_X10_out_l14 c_t_walkers c_t_where c_t_home c_t_apart x1 k n x3 = some (r, z_t_apart) → lv_has ls 8 [(0, .ref A_t), (1, .int x1), (2, .int x2), (3, .int x3)] → wd_ G A s.heap (wl_X10_out G A_t A_t_steps A_t_wet A_t_where A_t_home A_t_light A_t_carries A_t_sightPlace A_t_sightLight A_t_pad A_t_act A_t_whose A_t_whom A_t_tens A_t_had A_t_leaves A_t_apart A_t_stop A_t_restOf A_t_group A_t_along A_t_kept A_t_isKept c_t_foggy c_t_walkers c_t_sights c_t_padMany c_t_acts c_t_spent c_t_walks c_t_badAct c_t_badWhy c_t_keptAt c_t_isWriting c_t_steps c_t_wet c_t_where c_t_home c_t_apart) H locs → W p l e { frames := 4, cells := 0, slots := 0, locals := 91 } s m args below meth c H locs 0 0 Q (F0 m 14 ls []) := by
  have hx := hC.1
  have hb := hC.2.1
  intro n
  induction n with
  | zero =>
    intro x3 H locs ls hf
    cases (show (none : Option (Int32 × (Nat → Int32))) = some _ from hf)
  | succ n hrc =>
    intro x3 H locs ls hf hl hw
    replace hf : fn_X10_out_b14 c_t_walkers c_t_where c_t_home c_t_apart x1 (fn_X10_out_l14 c_t_walkers c_t_where c_t_home c_t_apart x1 k n) k x3 = some (r, z_t_apart) := hf
    unfold fn_X10_out_b14 at hf
    refine lv_iload_n hx hb dX10_out_14 rfl (lv_at hl 3 rfl) ?_
    refine lv_bipush (v := 6) hx hb dX10_out_15 (by decide) ?_
    refine lv_icmp_ge (tgt := 146) hx hb dX10_out_17 (by decide) (fun hc => ?_) (fun hc => ?_)
    · replace hf := it_t hc hf
      exact hk _ _ _ hf (lv_sub hl [1, 2] rfl) hw
    · replace hf := it_f hc hf
      refine lv_iconst (v := 0) hx hb dX10_out_20 (by decide) ?_
      refine lv_istore (lv' := [(4, .int 0), (0, .ref A_t), (1, .int x1), (2, .int x2), (3, .int x3)]) hx hb dX10_out_21 hl (by decide) rfl (fun ls hl => ?_)
      refine lv_iconst (v := 0) hx hb dX10_out_23 (by decide) ?_
      refine lv_istore (lv' := [(5, .int 0), (4, .int 0), (0, .ref A_t), (1, .int x1), (2, .int x2), (3, .int x3)]) hx hb dX10_out_24 hl (by decide) rfl (fun ls hl => ?_)
      refine wn_X10_out_l26 hC hret (fun v15 H locs ls hf hl hw => ?_) fu_ 0 0 _ _ _ hf (lv_sub hl [2, 3, 4, 5, 1, 0] rfl) hw
      refine lv_aload_n hx hb dX10_out_124 rfl (lv_at hl 0 rfl) ?_
      refine lv_iload_n hx hb dX10_out_125 rfl (lv_at hl 3 rfl) ?_
      obtain ⟨r16, hq17, hf⟩ := b1_s hf
      refine h_cVi hC hw mvX10_106 (cn_X10_isWalker l G A_t A_t_steps A_t_wet A_t_where A_t_home A_t_light A_t_carries A_t_sightPlace A_t_sightLight A_t_pad A_t_act A_t_whose A_t_whom A_t_tens A_t_had A_t_leaves A_t_apart A_t_stop A_t_restOf A_t_group A_t_along A_t_kept A_t_isKept c_t_foggy c_t_walkers c_t_sights c_t_padMany c_t_acts c_t_spent c_t_walks c_t_badAct c_t_badWhy c_t_keptAt c_t_isWriting x3 r16 hq17) [0] rfl (by decide) 0 rfl rfl rfl hl.1 rfl (Nat.le_of_ble_eq_true rfl) ⟨Nat.le_of_ble_eq_true rfl, Nat.le_of_ble_eq_true rfl⟩ ⟨Nat.le_refl _, Nat.le_refl _⟩ dX10_out_126 (fun H locs hw => ?_)
      refine lv_if_eq (tgt := 140) hx hb dX10_out_129 (by decide) (fun hc => ?_) (fun hc => ?_)
      · replace hf := it_t hc hf
        refine lv_iinc (v := x3 + 1) (lv' := [(3, .int (x3 + 1)), (0, .ref A_t), (1, .int x1), (2, .int x2), (4, .int v15)]) hx hb dX10_out_140 hl (k := 3) rfl rfl (by decide) rfl (fun ls hl => ?_)
        refine lv_goto (tgt := 14) hx hb dX10_out_143 (by decide) ?_
        exact hrc (x3 + 1) _ _ _ hf (lv_sub hl [1, 2, 3, 0] rfl) hw
      · replace hf := it_f hc hf
        refine lv_iload hx hb dX10_out_132 (lv_at hl 4 rfl) ?_
        refine lv_iload_n hx hb dX10_out_134 rfl (lv_at hl 1 rfl) ?_
        refine lv_icmp_ne (tgt := 140) hx hb dX10_out_135 (by decide) (fun hc => ?_) (fun hc => ?_)
        · replace hf := it_f hc hf
          refine lv_iinc (v := x3 + 1) (lv' := [(3, .int (x3 + 1)), (0, .ref A_t), (1, .int x1), (2, .int x2), (4, .int v15)]) hx hb dX10_out_140 hl (k := 3) rfl rfl (by decide) rfl (fun ls hl => ?_)
          refine lv_goto (tgt := 14) hx hb dX10_out_143 (by decide) ?_
          exact hrc (x3 + 1) _ _ _ hf (lv_sub hl [1, 2, 3, 0] rfl) hw
        · replace hf := it_t hc hf
          refine lv_iload_n hx hb dX10_out_138 rfl (lv_at hl 3 rfl) ?_
          obtain ⟨h1_, h2_⟩ := t2_ hf
          subst h1_
          subst h2_
          exact hret _ _ _ _ dX10_out_139 hw
set_option maxHeartbeats 4000000 in
set_option maxRecDepth 100000 in
theorem wn_X10_out {p : Program} {l : Launch} {e : Env} {s : State} {m : MethodId} {args : Array Value} {below : List Frame} {meth : Method} {c : Code} {G : gw_} {A : Nat → Prop} {Q : State → Prop} {A_t : Nat} {A_t_steps : Nat} {A_t_wet : Nat} {A_t_where : Nat} {A_t_home : Nat} {A_t_light : Nat} {A_t_carries : Nat} {A_t_sightPlace : Nat} {A_t_sightLight : Nat} {A_t_pad : Nat} {A_t_act : Nat} {A_t_whose : Nat} {A_t_whom : Nat} {A_t_tens : Nat} {A_t_had : Nat} {A_t_leaves : Nat} {A_t_apart : Nat} {A_t_stop : Nat} {A_t_restOf : Nat} {A_t_group : Nat} {A_t_along : Nat} {A_t_kept : Nat} {A_t_isKept : Nat} {c_t_foggy : Int32} {c_t_walkers : Int32} {c_t_sights : Int32} {c_t_padMany : Int32} {c_t_acts : Int32} {c_t_spent : Int32} {c_t_walks : Int32} {c_t_badAct : Int32} {c_t_badWhy : Int32} {c_t_keptAt : Int32} {c_t_isWriting : Int32} {c_t_steps : Nat → Int32} {c_t_wet : Nat → Int32} {c_t_where : Nat → Int32} {c_t_home : Nat → Int32} {c_t_apart : Nat → Int32} {z_t_apart : Nat → Int32} {r : Int32} {x1 : Int32} (hC : cx_ p s m c G cX10_out 8 RX10) (hret : ∀ (pc : Nat) (H : Heap) (locs : List Loc) (ls : Array Slot), decode cX10_out pc = .ok (.ireturn, 1) → wd_ G A s.heap (wl_X10_out G A_t A_t_steps A_t_wet A_t_where A_t_home A_t_light A_t_carries A_t_sightPlace A_t_sightLight A_t_pad A_t_act A_t_whose A_t_whom A_t_tens A_t_had A_t_leaves A_t_apart A_t_stop A_t_restOf A_t_group A_t_along A_t_kept A_t_isKept c_t_foggy c_t_walkers c_t_sights c_t_padMany c_t_acts c_t_spent c_t_walks c_t_badAct c_t_badWhy c_t_keptAt c_t_isWriting c_t_steps c_t_wet c_t_where c_t_home z_t_apart) H locs → W p l e { frames := 4, cells := 0, slots := 0, locals := 91 } s m args below meth c H locs 0 0 Q (F0 m pc ls [.int r])) (hf : fn_X10_out c_t_foggy c_t_walkers c_t_steps c_t_wet c_t_where c_t_home c_t_apart x1 = some (r, z_t_apart)) {H : Heap} {locs : List Loc} {ls : Array Slot} (hl : lv_has ls 8 [(0, .ref A_t), (1, .int x1)]) (hw : wd_ G A s.heap (wl_X10_out G A_t A_t_steps A_t_wet A_t_where A_t_home A_t_light A_t_carries A_t_sightPlace A_t_sightLight A_t_pad A_t_act A_t_whose A_t_whom A_t_tens A_t_had A_t_leaves A_t_apart A_t_stop A_t_restOf A_t_group A_t_along A_t_kept A_t_isKept c_t_foggy c_t_walkers c_t_sights c_t_padMany c_t_acts c_t_spent c_t_walks c_t_badAct c_t_badWhy c_t_keptAt c_t_isWriting c_t_steps c_t_wet c_t_where c_t_home c_t_apart) H locs) : W p l e { frames := 4, cells := 0, slots := 0, locals := 91 } s m args below meth c H locs 0 0 Q (F0 m 0 ls []) := by
  have hx := hC.1
  have hb := hC.2.1
  unfold fn_X10_out at hf
  refine lv_aload_n hx hb dX10_out_0 rfl (lv_at hl 0 rfl) ?_
  obtain ⟨w1, hq2, hf⟩ := b1_s hf
  refine g_cVv hC hw mvX10_219 (cn_X10_findWays l G A_t A_t_steps A_t_wet A_t_where A_t_home A_t_light A_t_carries A_t_sightPlace A_t_sightLight A_t_pad A_t_act A_t_whose A_t_whom A_t_tens A_t_had A_t_leaves A_t_apart A_t_stop A_t_restOf A_t_group A_t_along A_t_kept A_t_isKept c_t_foggy c_t_walkers c_t_sights c_t_padMany c_t_acts c_t_spent c_t_walks c_t_badAct c_t_badWhy c_t_keptAt c_t_isWriting c_t_steps c_t_wet c_t_apart w1 hq2) [0, 1, 2, 5] rfl (by decide) rfl 0 rfl rfl rfl hl.1 rfl (Nat.le_of_ble_eq_true rfl) ⟨Nat.le_of_ble_eq_true rfl, Nat.le_of_ble_eq_true rfl⟩ ⟨Nat.le_refl _, Nat.le_refl _⟩ dX10_out_1 (fun H locs hw => ?_)
  have hw : wd_ G A s.heap (wl_X10_out G A_t A_t_steps A_t_wet A_t_where A_t_home A_t_light A_t_carries A_t_sightPlace A_t_sightLight A_t_pad A_t_act A_t_whose A_t_whom A_t_tens A_t_had A_t_leaves A_t_apart A_t_stop A_t_restOf A_t_group A_t_along A_t_kept A_t_isKept c_t_foggy c_t_walkers c_t_sights c_t_padMany c_t_acts c_t_spent c_t_walks c_t_badAct c_t_badWhy c_t_keptAt c_t_isWriting c_t_steps c_t_wet c_t_where c_t_home w1) H locs := hw
  refine lv_aload_n hx hb dX10_out_4 rfl (lv_at hl 0 rfl) ?_
  refine g_get hC hw fkX10_85 0 rfl rfl dX10_out_5 ?_
  obtain ⟨r3, hq4, hf⟩ := b1_s hf
  refine h_cSi hC hw msX10_115 (cn_X10_ones l G c_t_walkers r3 hq4) [] rfl (by decide) rfl hl.1 rfl (Nat.le_of_ble_eq_true rfl) ⟨Nat.le_of_ble_eq_true rfl, Nat.le_of_ble_eq_true rfl⟩ ⟨Nat.le_refl _, Nat.le_refl _⟩ dX10_out_8 (fun H locs hw => ?_)
  refine lv_istore_n (lv' := [(2, .int r3), (0, .ref A_t), (1, .int x1)]) hx hb dX10_out_11 rfl hl (by decide) rfl (fun ls hl => ?_)
  refine lv_iconst (v := 0) hx hb dX10_out_12 (by decide) ?_
  refine lv_istore_n (lv' := [(3, .int 0), (2, .int r3), (0, .ref A_t), (1, .int x1)]) hx hb dX10_out_13 rfl hl (by decide) rfl (fun ls hl => ?_)
  refine wn_X10_out_l14 hC hret (fun H locs ls hf hl hw => ?_) fu_ 0 _ _ _ hf (lv_sub hl [2, 3, 1, 0] rfl) hw
  refine lv_iload_n hx hb dX10_out_146 rfl (lv_at hl 0 rfl) ?_
  refine lv_iconst (v := (-1)) hx hb dX10_out_147 (by decide) ?_
  refine lv_icmp_ne (tgt := 155) hx hb dX10_out_148 (by decide) (fun hc => ?_) (fun hc => ?_)
  · replace hf := it_f hc hf
    refine lv_bipush (v := (-6)) hx hb dX10_out_155 (by decide) ?_
    obtain ⟨h1_, h2_⟩ := t2_ hf
    subst h1_
    subst h2_
    exact hret _ _ _ _ dX10_out_157 hw
  · replace hf := it_t hc hf
    refine lv_iload_n hx hb dX10_out_151 rfl (lv_at hl 1 rfl) ?_
    refine lv_goto (tgt := 157) hx hb dX10_out_152 (by decide) ?_
    obtain ⟨h1_, h2_⟩ := t2_ hf
    subst h1_
    subst h2_
    exact hret _ _ _ _ dX10_out_157 hw
set_option maxHeartbeats 4000000 in
set_option maxRecDepth 100000 in
theorem cn_X10_out (l : Launch) (G : gw_) (A_t : Nat) (A_t_steps : Nat) (A_t_wet : Nat) (A_t_where : Nat) (A_t_home : Nat) (A_t_light : Nat) (A_t_carries : Nat) (A_t_sightPlace : Nat) (A_t_sightLight : Nat) (A_t_pad : Nat) (A_t_act : Nat) (A_t_whose : Nat) (A_t_whom : Nat) (A_t_tens : Nat) (A_t_had : Nat) (A_t_leaves : Nat) (A_t_apart : Nat) (A_t_stop : Nat) (A_t_restOf : Nat) (A_t_group : Nat) (A_t_along : Nat) (A_t_kept : Nat) (A_t_isKept : Nat) (c_t_foggy : Int32) (c_t_walkers : Int32) (c_t_sights : Int32) (c_t_padMany : Int32) (c_t_acts : Int32) (c_t_spent : Int32) (c_t_walks : Int32) (c_t_badAct : Int32) (c_t_badWhy : Int32) (c_t_keptAt : Int32) (c_t_isWriting : Int32) (c_t_steps : Nat → Int32) (c_t_wet : Nat → Int32) (c_t_where : Nat → Int32) (c_t_home : Nat → Int32) (c_t_apart : Nat → Int32) (x1 : Int32) (r : Int32) (z_t_apart : Nat → Int32) (hf : fn_X10_out c_t_foggy c_t_walkers c_t_steps c_t_wet c_t_where c_t_home c_t_apart x1 = some (r, z_t_apart)) : ci_ l G yX10_out cX10_out 8 (some .int) 4 91 (wl_X10_out G A_t A_t_steps A_t_wet A_t_where A_t_home A_t_light A_t_carries A_t_sightPlace A_t_sightLight A_t_pad A_t_act A_t_whose A_t_whom A_t_tens A_t_had A_t_leaves A_t_apart A_t_stop A_t_restOf A_t_group A_t_along A_t_kept A_t_isKept c_t_foggy c_t_walkers c_t_sights c_t_padMany c_t_acts c_t_spent c_t_walks c_t_badAct c_t_badWhy c_t_keptAt c_t_isWriting c_t_steps c_t_wet c_t_where c_t_home c_t_apart) [.ref A_t, .int x1] r (wl_X10_out G A_t A_t_steps A_t_wet A_t_where A_t_home A_t_light A_t_carries A_t_sightPlace A_t_sightLight A_t_pad A_t_act A_t_whose A_t_whom A_t_tens A_t_had A_t_leaves A_t_apart A_t_stop A_t_restOf A_t_group A_t_along A_t_kept A_t_isKept c_t_foggy c_t_walkers c_t_sights c_t_padMany c_t_acts c_t_spent c_t_walks c_t_badAct c_t_badWhy c_t_keptAt c_t_isWriting c_t_steps c_t_wet c_t_where c_t_home z_t_apart) := fun sz => met_intro (by decide) (Nat.le_of_ble_eq_true rfl) (fun p e s m args below meth c ls hsz hC hr hlk hnm hl hw => wn_X10_out hC (fun pc H locs ls hd hw => g_iret hC hr hlk hw rfl rfl hd) hf hl hw)

theorem dX10_layStops_0 : decode cX10_layStops 0 = .ok (.iconst 0, 1) := by decide +kernel
theorem dX10_layStops_1 : decode cX10_layStops 1 = .ok (.istore_n 2, 1) := by decide +kernel
theorem dX10_layStops_2 : decode cX10_layStops 2 = .ok (.iconst 0, 1) := by decide +kernel
theorem dX10_layStops_3 : decode cX10_layStops 3 = .ok (.istore_n 3, 1) := by decide +kernel
theorem dX10_layStops_4 : decode cX10_layStops 4 = .ok (.iload_n 3, 1) := by decide +kernel
theorem dX10_layStops_5 : decode cX10_layStops 5 = .ok (.bipush 12, 2) := by decide +kernel
theorem dX10_layStops_7 : decode cX10_layStops 7 = .ok (.if_icmp .ge 28, 3) := by decide +kernel
theorem dX10_layStops_10 : decode cX10_layStops 10 = .ok (.iload_n 1, 1) := by decide +kernel
theorem dX10_layStops_11 : decode cX10_layStops 11 = .ok (.iload_n 3, 1) := by decide +kernel
theorem dX10_layStops_12 : decode cX10_layStops 12 = .ok (.ishr, 1) := by decide +kernel
theorem dX10_layStops_13 : decode cX10_layStops 13 = .ok (.iconst 1, 1) := by decide +kernel
theorem dX10_layStops_14 : decode cX10_layStops 14 = .ok (.iand, 1) := by decide +kernel
theorem dX10_layStops_15 : decode cX10_layStops 15 = .ok (.iconst 1, 1) := by decide +kernel
theorem dX10_layStops_16 : decode cX10_layStops 16 = .ok (.if_icmp .ne 13, 3) := by decide +kernel
theorem dX10_layStops_19 : decode cX10_layStops 19 = .ok (.aload_n 0, 1) := by decide +kernel
theorem dX10_layStops_20 : decode cX10_layStops 20 = .ok (.getfield 58, 3) := by decide +kernel
theorem dX10_layStops_23 : decode cX10_layStops 23 = .ok (.iload_n 2, 1) := by decide +kernel
theorem dX10_layStops_24 : decode cX10_layStops 24 = .ok (.iload_n 3, 1) := by decide +kernel
theorem dX10_layStops_25 : decode cX10_layStops 25 = .ok (.iastore, 1) := by decide +kernel
theorem dX10_layStops_26 : decode cX10_layStops 26 = .ok (.iinc 2 1, 3) := by decide +kernel
theorem dX10_layStops_29 : decode cX10_layStops 29 = .ok (.iinc 3 1, 3) := by decide +kernel
theorem dX10_layStops_32 : decode cX10_layStops 32 = .ok (.goto (-28), 3) := by decide +kernel
theorem dX10_layStops_35 : decode cX10_layStops 35 = .ok (.iload_n 2, 1) := by decide +kernel
theorem dX10_layStops_36 : decode cX10_layStops 36 = .ok (.ireturn, 1) := by decide +kernel
abbrev wl_X10_layStops (G : gw_) (A_t : Nat) (A_t_steps : Nat) (A_t_wet : Nat) (A_t_where : Nat) (A_t_home : Nat) (A_t_light : Nat) (A_t_carries : Nat) (A_t_sightPlace : Nat) (A_t_sightLight : Nat) (A_t_pad : Nat) (A_t_act : Nat) (A_t_whose : Nat) (A_t_whom : Nat) (A_t_tens : Nat) (A_t_had : Nat) (A_t_leaves : Nat) (A_t_apart : Nat) (A_t_stop : Nat) (A_t_restOf : Nat) (A_t_group : Nat) (A_t_along : Nat) (A_t_kept : Nat) (A_t_isKept : Nat) (c_t_foggy : Int32) (c_t_walkers : Int32) (c_t_sights : Int32) (c_t_padMany : Int32) (c_t_acts : Int32) (c_t_spent : Int32) (c_t_walks : Int32) (c_t_badAct : Int32) (c_t_badWhy : Int32) (c_t_keptAt : Int32) (c_t_isWriting : Int32) (c_t_stop : Nat → Int32) : va_W := [ob_ A_t 10 [.ref A_t_steps, .ref A_t_wet, .int c_t_foggy, .int c_t_walkers, .ref A_t_where, .ref A_t_home, .ref A_t_light, .ref A_t_carries, .ref A_t_sightPlace, .ref A_t_sightLight, .int c_t_sights, .ref A_t_pad, .int c_t_padMany, .ref A_t_act, .ref A_t_whose, .ref A_t_whom, .ref A_t_tens, .int c_t_acts, .int c_t_spent, .int c_t_walks, .ref A_t_had, .ref A_t_leaves, .int c_t_badAct, .int c_t_badWhy, .ref A_t_apart, .ref A_t_stop, .ref A_t_restOf, .ref A_t_group, .ref A_t_along, .ref A_t_kept, .ref A_t_isKept, .int c_t_keptAt, .int c_t_isWriting], ia_ G A_t_stop 6 c_t_stop]
def fn_X10_layStops_b4 (x1 : Int32) (rc : Int32 → Int32 → (Nat → Int32) → Option (Int32 × (Nat → Int32))) (k : Int32 → (Nat → Int32) → Option (Int32 × (Nat → Int32))) (x2 : Int32) (x3 : Int32) (c_t_stop : Nat → Int32) : Option (Int32 × (Nat → Int32)) :=
  if 12 ≤ x3 then
    k x2 c_t_stop
  else
    if ((x1 >>> (x3 &&& 31)) &&& 1) = 1 then
      ck_ x2 6 <|
      lx_ (upd c_t_stop (Int32.toNatClampNeg x2) x3) fun f1 =>
      rc (x2 + 1) (x3 + 1) f1
    else
      rc x2 (x3 + 1) c_t_stop
def fn_X10_layStops_l4 (x1 : Int32) (k : Int32 → (Nat → Int32) → Option (Int32 × (Nat → Int32))) : Nat → Int32 → Int32 → (Nat → Int32) → Option (Int32 × (Nat → Int32))
  | 0 => fun _ _ _ => none
  | n + 1 => fun x2 x3 c_t_stop => fn_X10_layStops_b4 x1 (fn_X10_layStops_l4 x1 k n) k x2 x3 c_t_stop
def fn_X10_layStops (c_t_stop : Nat → Int32) (x1 : Int32) : Option (Int32 × (Nat → Int32)) :=
  fn_X10_layStops_l4 x1 (fun v2 v3 =>
    some (v2, v3)) fu_ 0 0 c_t_stop
set_option maxHeartbeats 4000000 in
set_option maxRecDepth 100000 in
theorem wn_X10_layStops_l4 {p : Program} {l : Launch} {e : Env} {s : State} {m : MethodId} {args : Array Value} {below : List Frame} {meth : Method} {c : Code} {G : gw_} {A : Nat → Prop} {Q : State → Prop} {A_t : Nat} {A_t_steps : Nat} {A_t_wet : Nat} {A_t_where : Nat} {A_t_home : Nat} {A_t_light : Nat} {A_t_carries : Nat} {A_t_sightPlace : Nat} {A_t_sightLight : Nat} {A_t_pad : Nat} {A_t_act : Nat} {A_t_whose : Nat} {A_t_whom : Nat} {A_t_tens : Nat} {A_t_had : Nat} {A_t_leaves : Nat} {A_t_apart : Nat} {A_t_stop : Nat} {A_t_restOf : Nat} {A_t_group : Nat} {A_t_along : Nat} {A_t_kept : Nat} {A_t_isKept : Nat} {c_t_foggy : Int32} {c_t_walkers : Int32} {c_t_sights : Int32} {c_t_padMany : Int32} {c_t_acts : Int32} {c_t_spent : Int32} {c_t_walks : Int32} {c_t_badAct : Int32} {c_t_badWhy : Int32} {c_t_keptAt : Int32} {c_t_isWriting : Int32} {z_t_stop : Nat → Int32} {r : Int32} {x1 : Int32} {k : Int32 → (Nat → Int32) → Option (Int32 × (Nat → Int32))} (hC : cx_ p s m c G cX10_layStops 4 RX10) (hret : ∀ (pc : Nat) (H : Heap) (locs : List Loc) (ls : Array Slot), decode cX10_layStops pc = .ok (.ireturn, 1) → wd_ G A s.heap (wl_X10_layStops G A_t A_t_steps A_t_wet A_t_where A_t_home A_t_light A_t_carries A_t_sightPlace A_t_sightLight A_t_pad A_t_act A_t_whose A_t_whom A_t_tens A_t_had A_t_leaves A_t_apart A_t_stop A_t_restOf A_t_group A_t_along A_t_kept A_t_isKept c_t_foggy c_t_walkers c_t_sights c_t_padMany c_t_acts c_t_spent c_t_walks c_t_badAct c_t_badWhy c_t_keptAt c_t_isWriting z_t_stop) H locs → W p l e { frames := 0, cells := 0, slots := 0, locals := 0 } s m args below meth c H locs 0 0 Q (F0 m pc ls [.int r])) (hk : ∀ (x2 : Int32) (c_t_stop : Nat → Int32) (H : Heap) (locs : List Loc) (ls : Array Slot), k x2 c_t_stop = some (r, z_t_stop) → lv_has ls 4 [(2, .int x2)] → wd_ G A s.heap (wl_X10_layStops G A_t A_t_steps A_t_wet A_t_where A_t_home A_t_light A_t_carries A_t_sightPlace A_t_sightLight A_t_pad A_t_act A_t_whose A_t_whom A_t_tens A_t_had A_t_leaves A_t_apart A_t_stop A_t_restOf A_t_group A_t_along A_t_kept A_t_isKept c_t_foggy c_t_walkers c_t_sights c_t_padMany c_t_acts c_t_spent c_t_walks c_t_badAct c_t_badWhy c_t_keptAt c_t_isWriting c_t_stop) H locs → W p l e { frames := 0, cells := 0, slots := 0, locals := 0 } s m args below meth c H locs 0 0 Q (F0 m 35 ls [])) : ∀ (n : Nat) (x2 : Int32) (x3 : Int32) (c_t_stop : Nat → Int32) (H : Heap) (locs : List Loc) (ls : Array Slot), fn_X10_layStops_l4 x1 k n x2 x3 c_t_stop = some (r, z_t_stop) → lv_has ls 4 [(0, .ref A_t), (1, .int x1), (2, .int x2), (3, .int x3)] → wd_ G A s.heap (wl_X10_layStops G A_t A_t_steps A_t_wet A_t_where A_t_home A_t_light A_t_carries A_t_sightPlace A_t_sightLight A_t_pad A_t_act A_t_whose A_t_whom A_t_tens A_t_had A_t_leaves A_t_apart A_t_stop A_t_restOf A_t_group A_t_along A_t_kept A_t_isKept c_t_foggy c_t_walkers c_t_sights c_t_padMany c_t_acts c_t_spent c_t_walks c_t_badAct c_t_badWhy c_t_keptAt c_t_isWriting c_t_stop) H locs → W p l e { frames := 0, cells := 0, slots := 0, locals := 0 } s m args below meth c H locs 0 0 Q (F0 m 4 ls []) := by
  have hx := hC.1
  have hb := hC.2.1
  intro n
  induction n with
  | zero =>
    intro x2 x3 c_t_stop H locs ls hf
    cases (show (none : Option (Int32 × (Nat → Int32))) = some _ from hf)
  | succ n hrc =>
    intro x2 x3 c_t_stop H locs ls hf hl hw
    replace hf : fn_X10_layStops_b4 x1 (fn_X10_layStops_l4 x1 k n) k x2 x3 c_t_stop = some (r, z_t_stop) := hf
    unfold fn_X10_layStops_b4 at hf
    refine lv_iload_n hx hb dX10_layStops_4 rfl (lv_at hl 3 rfl) ?_
    refine lv_bipush (v := 12) hx hb dX10_layStops_5 (by decide) ?_
    refine lv_icmp_ge (tgt := 35) hx hb dX10_layStops_7 (by decide) (fun hc => ?_) (fun hc => ?_)
    · replace hf := it_t hc hf
      exact hk x2 c_t_stop _ _ _ hf (lv_sub hl [2] rfl) hw
    · replace hf := it_f hc hf
      refine lv_iload_n hx hb dX10_layStops_10 rfl (lv_at hl 1 rfl) ?_
      refine lv_iload_n hx hb dX10_layStops_11 rfl (lv_at hl 3 rfl) ?_
      refine lv_ishr hx hb dX10_layStops_12 ?_
      refine lv_iconst (v := 1) hx hb dX10_layStops_13 (by decide) ?_
      refine lv_iand hx hb dX10_layStops_14 ?_
      refine lv_iconst (v := 1) hx hb dX10_layStops_15 (by decide) ?_
      refine lv_icmp_ne (tgt := 29) hx hb dX10_layStops_16 (by decide) (fun hc => ?_) (fun hc => ?_)
      · replace hf := it_f hc hf
        refine lv_iinc (v := x3 + 1) (lv' := [(3, .int (x3 + 1)), (0, .ref A_t), (1, .int x1), (2, .int x2)]) hx hb dX10_layStops_29 hl (k := 3) rfl rfl (by decide) rfl (fun ls hl => ?_)
        refine lv_goto (tgt := 4) hx hb dX10_layStops_32 (by decide) ?_
        exact hrc x2 (x3 + 1) c_t_stop _ _ _ hf (lv_sub hl [1, 2, 3, 0] rfl) hw
      · replace hf := it_t hc hf
        refine lv_aload_n hx hb dX10_layStops_19 rfl (lv_at hl 0 rfl) ?_
        refine g_get hC hw fkX10_58 0 rfl rfl dX10_layStops_20 ?_
        refine lv_iload_n hx hb dX10_layStops_23 rfl (lv_at hl 2 rfl) ?_
        refine lv_iload_n hx hb dX10_layStops_24 rfl (lv_at hl 3 rfl) ?_
        obtain ⟨hi, hf⟩ := ck_s hf
        obtain ⟨f1, ef1, hf⟩ := lx_s hf
        refine g_iast hC hw 1 rfl hi ef1 dX10_layStops_25 (fun H locs hw => ?_)
        have hw : wd_ G A s.heap (wl_X10_layStops G A_t A_t_steps A_t_wet A_t_where A_t_home A_t_light A_t_carries A_t_sightPlace A_t_sightLight A_t_pad A_t_act A_t_whose A_t_whom A_t_tens A_t_had A_t_leaves A_t_apart A_t_stop A_t_restOf A_t_group A_t_along A_t_kept A_t_isKept c_t_foggy c_t_walkers c_t_sights c_t_padMany c_t_acts c_t_spent c_t_walks c_t_badAct c_t_badWhy c_t_keptAt c_t_isWriting f1) H locs := hw
        refine lv_iinc (v := x2 + 1) (lv' := [(2, .int (x2 + 1)), (0, .ref A_t), (1, .int x1), (3, .int x3)]) hx hb dX10_layStops_26 hl (k := 2) rfl rfl (by decide) rfl (fun ls hl => ?_)
        refine lv_iinc (v := x3 + 1) (lv' := [(3, .int (x3 + 1)), (2, .int (x2 + 1)), (0, .ref A_t), (1, .int x1)]) hx hb dX10_layStops_29 hl (k := 3) rfl rfl (by decide) rfl (fun ls hl => ?_)
        refine lv_goto (tgt := 4) hx hb dX10_layStops_32 (by decide) ?_
        exact hrc (x2 + 1) (x3 + 1) f1 _ _ _ hf (lv_sub hl [2, 3, 1, 0] rfl) hw
set_option maxHeartbeats 4000000 in
set_option maxRecDepth 100000 in
theorem wn_X10_layStops {p : Program} {l : Launch} {e : Env} {s : State} {m : MethodId} {args : Array Value} {below : List Frame} {meth : Method} {c : Code} {G : gw_} {A : Nat → Prop} {Q : State → Prop} {A_t : Nat} {A_t_steps : Nat} {A_t_wet : Nat} {A_t_where : Nat} {A_t_home : Nat} {A_t_light : Nat} {A_t_carries : Nat} {A_t_sightPlace : Nat} {A_t_sightLight : Nat} {A_t_pad : Nat} {A_t_act : Nat} {A_t_whose : Nat} {A_t_whom : Nat} {A_t_tens : Nat} {A_t_had : Nat} {A_t_leaves : Nat} {A_t_apart : Nat} {A_t_stop : Nat} {A_t_restOf : Nat} {A_t_group : Nat} {A_t_along : Nat} {A_t_kept : Nat} {A_t_isKept : Nat} {c_t_foggy : Int32} {c_t_walkers : Int32} {c_t_sights : Int32} {c_t_padMany : Int32} {c_t_acts : Int32} {c_t_spent : Int32} {c_t_walks : Int32} {c_t_badAct : Int32} {c_t_badWhy : Int32} {c_t_keptAt : Int32} {c_t_isWriting : Int32} {c_t_stop : Nat → Int32} {z_t_stop : Nat → Int32} {r : Int32} {x1 : Int32} (hC : cx_ p s m c G cX10_layStops 4 RX10) (hret : ∀ (pc : Nat) (H : Heap) (locs : List Loc) (ls : Array Slot), decode cX10_layStops pc = .ok (.ireturn, 1) → wd_ G A s.heap (wl_X10_layStops G A_t A_t_steps A_t_wet A_t_where A_t_home A_t_light A_t_carries A_t_sightPlace A_t_sightLight A_t_pad A_t_act A_t_whose A_t_whom A_t_tens A_t_had A_t_leaves A_t_apart A_t_stop A_t_restOf A_t_group A_t_along A_t_kept A_t_isKept c_t_foggy c_t_walkers c_t_sights c_t_padMany c_t_acts c_t_spent c_t_walks c_t_badAct c_t_badWhy c_t_keptAt c_t_isWriting z_t_stop) H locs → W p l e { frames := 0, cells := 0, slots := 0, locals := 0 } s m args below meth c H locs 0 0 Q (F0 m pc ls [.int r])) (hf : fn_X10_layStops c_t_stop x1 = some (r, z_t_stop)) {H : Heap} {locs : List Loc} {ls : Array Slot} (hl : lv_has ls 4 [(0, .ref A_t), (1, .int x1)]) (hw : wd_ G A s.heap (wl_X10_layStops G A_t A_t_steps A_t_wet A_t_where A_t_home A_t_light A_t_carries A_t_sightPlace A_t_sightLight A_t_pad A_t_act A_t_whose A_t_whom A_t_tens A_t_had A_t_leaves A_t_apart A_t_stop A_t_restOf A_t_group A_t_along A_t_kept A_t_isKept c_t_foggy c_t_walkers c_t_sights c_t_padMany c_t_acts c_t_spent c_t_walks c_t_badAct c_t_badWhy c_t_keptAt c_t_isWriting c_t_stop) H locs) : W p l e { frames := 0, cells := 0, slots := 0, locals := 0 } s m args below meth c H locs 0 0 Q (F0 m 0 ls []) := by
  have hx := hC.1
  have hb := hC.2.1
  unfold fn_X10_layStops at hf
  refine lv_iconst (v := 0) hx hb dX10_layStops_0 (by decide) ?_
  refine lv_istore_n (lv' := [(2, .int 0), (0, .ref A_t), (1, .int x1)]) hx hb dX10_layStops_1 rfl hl (by decide) rfl (fun ls hl => ?_)
  refine lv_iconst (v := 0) hx hb dX10_layStops_2 (by decide) ?_
  refine lv_istore_n (lv' := [(3, .int 0), (2, .int 0), (0, .ref A_t), (1, .int x1)]) hx hb dX10_layStops_3 rfl hl (by decide) rfl (fun ls hl => ?_)
  refine wn_X10_layStops_l4 hC hret (fun v2 v3 H locs ls hf hl hw => ?_) fu_ 0 0 c_t_stop _ _ _ hf (lv_sub hl [2, 3, 1, 0] rfl) hw
  refine lv_iload_n hx hb dX10_layStops_35 rfl (lv_at hl 0 rfl) ?_
  obtain ⟨h1_, h2_⟩ := t2_ hf
  subst h1_
  subst h2_
  exact hret _ _ _ _ dX10_layStops_36 hw
set_option maxHeartbeats 4000000 in
set_option maxRecDepth 100000 in
theorem cn_X10_layStops (l : Launch) (G : gw_) (A_t : Nat) (A_t_steps : Nat) (A_t_wet : Nat) (A_t_where : Nat) (A_t_home : Nat) (A_t_light : Nat) (A_t_carries : Nat) (A_t_sightPlace : Nat) (A_t_sightLight : Nat) (A_t_pad : Nat) (A_t_act : Nat) (A_t_whose : Nat) (A_t_whom : Nat) (A_t_tens : Nat) (A_t_had : Nat) (A_t_leaves : Nat) (A_t_apart : Nat) (A_t_stop : Nat) (A_t_restOf : Nat) (A_t_group : Nat) (A_t_along : Nat) (A_t_kept : Nat) (A_t_isKept : Nat) (c_t_foggy : Int32) (c_t_walkers : Int32) (c_t_sights : Int32) (c_t_padMany : Int32) (c_t_acts : Int32) (c_t_spent : Int32) (c_t_walks : Int32) (c_t_badAct : Int32) (c_t_badWhy : Int32) (c_t_keptAt : Int32) (c_t_isWriting : Int32) (c_t_stop : Nat → Int32) (x1 : Int32) (r : Int32) (z_t_stop : Nat → Int32) (hf : fn_X10_layStops c_t_stop x1 = some (r, z_t_stop)) : ci_ l G yX10_layStops cX10_layStops 4 (some .int) 0 0 (wl_X10_layStops G A_t A_t_steps A_t_wet A_t_where A_t_home A_t_light A_t_carries A_t_sightPlace A_t_sightLight A_t_pad A_t_act A_t_whose A_t_whom A_t_tens A_t_had A_t_leaves A_t_apart A_t_stop A_t_restOf A_t_group A_t_along A_t_kept A_t_isKept c_t_foggy c_t_walkers c_t_sights c_t_padMany c_t_acts c_t_spent c_t_walks c_t_badAct c_t_badWhy c_t_keptAt c_t_isWriting c_t_stop) [.ref A_t, .int x1] r (wl_X10_layStops G A_t A_t_steps A_t_wet A_t_where A_t_home A_t_light A_t_carries A_t_sightPlace A_t_sightLight A_t_pad A_t_act A_t_whose A_t_whom A_t_tens A_t_had A_t_leaves A_t_apart A_t_stop A_t_restOf A_t_group A_t_along A_t_kept A_t_isKept c_t_foggy c_t_walkers c_t_sights c_t_padMany c_t_acts c_t_spent c_t_walks c_t_badAct c_t_badWhy c_t_keptAt c_t_isWriting z_t_stop) := fun sz => met_intro (by decide) (Nat.le_of_ble_eq_true rfl) (fun p e s m args below meth c ls hsz hC hr hlk hnm hl hw => wn_X10_layStops hC (fun pc H locs ls hd hw => g_iret hC hr hlk hw rfl rfl hd) hf hl hw)

theorem dX10_bestStep_0 : decode cX10_bestStep 0 = .ok (.ldc 214, 2) := by decide +kernel
theorem dX10_bestStep_2 : decode cX10_bestStep 2 = .ok (.istore 4, 2) := by decide +kernel
theorem dX10_bestStep_4 : decode cX10_bestStep 4 = .ok (.iconst 0, 1) := by decide +kernel
theorem dX10_bestStep_5 : decode cX10_bestStep 5 = .ok (.istore 5, 2) := by decide +kernel
theorem dX10_bestStep_7 : decode cX10_bestStep 7 = .ok (.iload 5, 2) := by decide +kernel
theorem dX10_bestStep_9 : decode cX10_bestStep 9 = .ok (.iload_n 3, 1) := by decide +kernel
theorem dX10_bestStep_10 : decode cX10_bestStep 10 = .ok (.if_icmp .ge 70, 3) := by decide +kernel
theorem dX10_bestStep_13 : decode cX10_bestStep 13 = .ok (.iload_n 2, 1) := by decide +kernel
theorem dX10_bestStep_14 : decode cX10_bestStep 14 = .ok (.iload 5, 2) := by decide +kernel
theorem dX10_bestStep_16 : decode cX10_bestStep 16 = .ok (.ishr, 1) := by decide +kernel
theorem dX10_bestStep_17 : decode cX10_bestStep 17 = .ok (.iconst 1, 1) := by decide +kernel
theorem dX10_bestStep_18 : decode cX10_bestStep 18 = .ok (.iand, 1) := by decide +kernel
theorem dX10_bestStep_19 : decode cX10_bestStep 19 = .ok (.ifCond .ne 55, 3) := by decide +kernel
theorem dX10_bestStep_22 : decode cX10_bestStep 22 = .ok (.aload_n 0, 1) := by decide +kernel
theorem dX10_bestStep_23 : decode cX10_bestStep 23 = .ok (.getfield 55, 3) := by decide +kernel
theorem dX10_bestStep_26 : decode cX10_bestStep 26 = .ok (.iload_n 1, 1) := by decide +kernel
theorem dX10_bestStep_27 : decode cX10_bestStep 27 = .ok (.aload_n 0, 1) := by decide +kernel
theorem dX10_bestStep_28 : decode cX10_bestStep 28 = .ok (.getfield 58, 3) := by decide +kernel
theorem dX10_bestStep_31 : decode cX10_bestStep 31 = .ok (.iload 5, 2) := by decide +kernel
theorem dX10_bestStep_33 : decode cX10_bestStep 33 = .ok (.iaload, 1) := by decide +kernel
theorem dX10_bestStep_34 : decode cX10_bestStep 34 = .ok (.invokestatic 89, 3) := by decide +kernel
theorem dX10_bestStep_37 : decode cX10_bestStep 37 = .ok (.iaload, 1) := by decide +kernel
theorem dX10_bestStep_38 : decode cX10_bestStep 38 = .ok (.aload_n 0, 1) := by decide +kernel
theorem dX10_bestStep_39 : decode cX10_bestStep 39 = .ok (.getfield 61, 3) := by decide +kernel
theorem dX10_bestStep_42 : decode cX10_bestStep 42 = .ok (.bipush 6, 2) := by decide +kernel
theorem dX10_bestStep_44 : decode cX10_bestStep 44 = .ok (.iload_n 2, 1) := by decide +kernel
theorem dX10_bestStep_45 : decode cX10_bestStep 45 = .ok (.iconst 1, 1) := by decide +kernel
theorem dX10_bestStep_46 : decode cX10_bestStep 46 = .ok (.iload 5, 2) := by decide +kernel
theorem dX10_bestStep_48 : decode cX10_bestStep 48 = .ok (.ishl, 1) := by decide +kernel
theorem dX10_bestStep_49 : decode cX10_bestStep 49 = .ok (.ior, 1) := by decide +kernel
theorem dX10_bestStep_50 : decode cX10_bestStep 50 = .ok (.imul, 1) := by decide +kernel
theorem dX10_bestStep_51 : decode cX10_bestStep 51 = .ok (.iload 5, 2) := by decide +kernel
theorem dX10_bestStep_53 : decode cX10_bestStep 53 = .ok (.iadd, 1) := by decide +kernel
theorem dX10_bestStep_54 : decode cX10_bestStep 54 = .ok (.iaload, 1) := by decide +kernel
theorem dX10_bestStep_55 : decode cX10_bestStep 55 = .ok (.iadd, 1) := by decide +kernel
theorem dX10_bestStep_56 : decode cX10_bestStep 56 = .ok (.istore 6, 2) := by decide +kernel
theorem dX10_bestStep_58 : decode cX10_bestStep 58 = .ok (.iload 6, 2) := by decide +kernel
theorem dX10_bestStep_60 : decode cX10_bestStep 60 = .ok (.iload 4, 2) := by decide +kernel
theorem dX10_bestStep_62 : decode cX10_bestStep 62 = .ok (.if_icmp .ge 8, 3) := by decide +kernel
theorem dX10_bestStep_65 : decode cX10_bestStep 65 = .ok (.iload 6, 2) := by decide +kernel
theorem dX10_bestStep_67 : decode cX10_bestStep 67 = .ok (.goto 5, 3) := by decide +kernel
theorem dX10_bestStep_70 : decode cX10_bestStep 70 = .ok (.iload 4, 2) := by decide +kernel
theorem dX10_bestStep_72 : decode cX10_bestStep 72 = .ok (.istore 4, 2) := by decide +kernel
theorem dX10_bestStep_74 : decode cX10_bestStep 74 = .ok (.iinc 5 1, 3) := by decide +kernel
theorem dX10_bestStep_77 : decode cX10_bestStep 77 = .ok (.goto (-70), 3) := by decide +kernel
theorem dX10_bestStep_80 : decode cX10_bestStep 80 = .ok (.iload 4, 2) := by decide +kernel
theorem dX10_bestStep_82 : decode cX10_bestStep 82 = .ok (.ireturn, 1) := by decide +kernel
abbrev wl_X10_bestStep (G : gw_) (A_t : Nat) (A_t_steps : Nat) (A_t_wet : Nat) (A_t_where : Nat) (A_t_home : Nat) (A_t_light : Nat) (A_t_carries : Nat) (A_t_sightPlace : Nat) (A_t_sightLight : Nat) (A_t_pad : Nat) (A_t_act : Nat) (A_t_whose : Nat) (A_t_whom : Nat) (A_t_tens : Nat) (A_t_had : Nat) (A_t_leaves : Nat) (A_t_apart : Nat) (A_t_stop : Nat) (A_t_restOf : Nat) (A_t_group : Nat) (A_t_along : Nat) (A_t_kept : Nat) (A_t_isKept : Nat) (c_t_foggy : Int32) (c_t_walkers : Int32) (c_t_sights : Int32) (c_t_padMany : Int32) (c_t_acts : Int32) (c_t_spent : Int32) (c_t_walks : Int32) (c_t_badAct : Int32) (c_t_badWhy : Int32) (c_t_keptAt : Int32) (c_t_isWriting : Int32) (c_t_apart : Nat → Int32) (c_t_stop : Nat → Int32) (c_t_restOf : Nat → Int32) : va_W := [ob_ A_t 10 [.ref A_t_steps, .ref A_t_wet, .int c_t_foggy, .int c_t_walkers, .ref A_t_where, .ref A_t_home, .ref A_t_light, .ref A_t_carries, .ref A_t_sightPlace, .ref A_t_sightLight, .int c_t_sights, .ref A_t_pad, .int c_t_padMany, .ref A_t_act, .ref A_t_whose, .ref A_t_whom, .ref A_t_tens, .int c_t_acts, .int c_t_spent, .int c_t_walks, .ref A_t_had, .ref A_t_leaves, .int c_t_badAct, .int c_t_badWhy, .ref A_t_apart, .ref A_t_stop, .ref A_t_restOf, .ref A_t_group, .ref A_t_along, .ref A_t_kept, .ref A_t_isKept, .int c_t_keptAt, .int c_t_isWriting], ia_ G A_t_apart 144 c_t_apart, ia_ G A_t_stop 6 c_t_stop, ia_ G A_t_restOf 384 c_t_restOf]
def fn_X10_bestStep_b7 (c_t_apart : Nat → Int32) (c_t_stop : Nat → Int32) (c_t_restOf : Nat → Int32) (x1 : Int32) (x2 : Int32) (x3 : Int32) (rc : Int32 → Int32 → Option (Int32)) (k : Int32 → Option (Int32)) (x4 : Int32) (x5 : Int32) : Option (Int32) :=
  if x3 ≤ x5 then
    k x4
  else
    if ((x2 >>> (x5 &&& 31)) &&& 1) = 0 then
      ck_ x5 6 <|
      b1_ (fn_X10_at x1 (c_t_stop (Int32.toNatClampNeg x5))) fun r1 =>
      ck_ r1 144 <|
      ck_ ((6 * (x2 ||| ((1 : Int32) <<< (x5 &&& 31)))) + x5) 384 <|
      lx_ ((c_t_apart (Int32.toNatClampNeg r1)) + (c_t_restOf (Int32.toNatClampNeg ((6 * (x2 ||| ((1 : Int32) <<< (x5 &&& 31)))) + x5)))) fun y3 =>
      if x4 ≤ y3 then
        rc x4 (x5 + 1)
      else
        rc y3 (x5 + 1)
    else
      rc x4 (x5 + 1)
def fn_X10_bestStep_l7 (c_t_apart : Nat → Int32) (c_t_stop : Nat → Int32) (c_t_restOf : Nat → Int32) (x1 : Int32) (x2 : Int32) (x3 : Int32) (k : Int32 → Option (Int32)) : Nat → Int32 → Int32 → Option (Int32)
  | 0 => fun _ _ => none
  | n + 1 => fun x4 x5 => fn_X10_bestStep_b7 c_t_apart c_t_stop c_t_restOf x1 x2 x3 (fn_X10_bestStep_l7 c_t_apart c_t_stop c_t_restOf x1 x2 x3 k n) k x4 x5
def fn_X10_bestStep (c_t_apart : Nat → Int32) (c_t_stop : Nat → Int32) (c_t_restOf : Nat → Int32) (x1 : Int32) (x2 : Int32) (x3 : Int32) : Option (Int32) :=
  fn_X10_bestStep_l7 c_t_apart c_t_stop c_t_restOf x1 x2 x3 (fun v4 =>
    some v4) fu_ 1000000 0
set_option maxHeartbeats 4000000 in
set_option maxRecDepth 100000 in
theorem wn_X10_bestStep_l7 {p : Program} {l : Launch} {e : Env} {s : State} {m : MethodId} {args : Array Value} {below : List Frame} {meth : Method} {c : Code} {G : gw_} {A : Nat → Prop} {Q : State → Prop} {A_t : Nat} {A_t_steps : Nat} {A_t_wet : Nat} {A_t_where : Nat} {A_t_home : Nat} {A_t_light : Nat} {A_t_carries : Nat} {A_t_sightPlace : Nat} {A_t_sightLight : Nat} {A_t_pad : Nat} {A_t_act : Nat} {A_t_whose : Nat} {A_t_whom : Nat} {A_t_tens : Nat} {A_t_had : Nat} {A_t_leaves : Nat} {A_t_apart : Nat} {A_t_stop : Nat} {A_t_restOf : Nat} {A_t_group : Nat} {A_t_along : Nat} {A_t_kept : Nat} {A_t_isKept : Nat} {c_t_foggy : Int32} {c_t_walkers : Int32} {c_t_sights : Int32} {c_t_padMany : Int32} {c_t_acts : Int32} {c_t_spent : Int32} {c_t_walks : Int32} {c_t_badAct : Int32} {c_t_badWhy : Int32} {c_t_keptAt : Int32} {c_t_isWriting : Int32} {c_t_apart : Nat → Int32} {c_t_stop : Nat → Int32} {c_t_restOf : Nat → Int32} {r : Int32} {x1 : Int32} {x2 : Int32} {x3 : Int32} {k : Int32 → Option (Int32)} (hC : cx_ p s m c G cX10_bestStep 7 RX10) (hret : ∀ (pc : Nat) (H : Heap) (locs : List Loc) (ls : Array Slot), decode cX10_bestStep pc = .ok (.ireturn, 1) → wd_ G A s.heap (wl_X10_bestStep G A_t A_t_steps A_t_wet A_t_where A_t_home A_t_light A_t_carries A_t_sightPlace A_t_sightLight A_t_pad A_t_act A_t_whose A_t_whom A_t_tens A_t_had A_t_leaves A_t_apart A_t_stop A_t_restOf A_t_group A_t_along A_t_kept A_t_isKept c_t_foggy c_t_walkers c_t_sights c_t_padMany c_t_acts c_t_spent c_t_walks c_t_badAct c_t_badWhy c_t_keptAt c_t_isWriting c_t_apart c_t_stop c_t_restOf) H locs → W p l e { frames := 1, cells := 0, slots := 0, locals := 21 } s m args below meth c H locs 0 0 Q (F0 m pc ls [.int r])) (hk : ∀ (x4 : Int32) (H : Heap) (locs : List Loc) (ls : Array Slot), k x4 = some r → lv_has ls 7 [(4, .int x4)] → wd_ G A s.heap (wl_X10_bestStep G A_t A_t_steps A_t_wet A_t_where A_t_home A_t_light A_t_carries A_t_sightPlace A_t_sightLight A_t_pad A_t_act A_t_whose A_t_whom A_t_tens A_t_had A_t_leaves A_t_apart A_t_stop A_t_restOf A_t_group A_t_along A_t_kept A_t_isKept c_t_foggy c_t_walkers c_t_sights c_t_padMany c_t_acts c_t_spent c_t_walks c_t_badAct c_t_badWhy c_t_keptAt c_t_isWriting c_t_apart c_t_stop c_t_restOf) H locs → W p l e { frames := 1, cells := 0, slots := 0, locals := 21 } s m args below meth c H locs 0 0 Q (F0 m 80 ls [])) : ∀ (n : Nat) (x4 : Int32) (x5 : Int32) (H : Heap) (locs : List Loc) (ls : Array Slot), fn_X10_bestStep_l7 c_t_apart c_t_stop c_t_restOf x1 x2 x3 k n x4 x5 = some r → lv_has ls 7 [(0, .ref A_t), (1, .int x1), (2, .int x2), (3, .int x3), (4, .int x4), (5, .int x5)] → wd_ G A s.heap (wl_X10_bestStep G A_t A_t_steps A_t_wet A_t_where A_t_home A_t_light A_t_carries A_t_sightPlace A_t_sightLight A_t_pad A_t_act A_t_whose A_t_whom A_t_tens A_t_had A_t_leaves A_t_apart A_t_stop A_t_restOf A_t_group A_t_along A_t_kept A_t_isKept c_t_foggy c_t_walkers c_t_sights c_t_padMany c_t_acts c_t_spent c_t_walks c_t_badAct c_t_badWhy c_t_keptAt c_t_isWriting c_t_apart c_t_stop c_t_restOf) H locs → W p l e { frames := 1, cells := 0, slots := 0, locals := 21 } s m args below meth c H locs 0 0 Q (F0 m 7 ls []) := by
  have hx := hC.1
  have hb := hC.2.1
  intro n
  induction n with
  | zero =>
    intro x4 x5 H locs ls hf
    cases (show (none : Option (Int32)) = some _ from hf)
  | succ n hrc =>
    intro x4 x5 H locs ls hf hl hw
    replace hf : fn_X10_bestStep_b7 c_t_apart c_t_stop c_t_restOf x1 x2 x3 (fn_X10_bestStep_l7 c_t_apart c_t_stop c_t_restOf x1 x2 x3 k n) k x4 x5 = some r := hf
    unfold fn_X10_bestStep_b7 at hf
    refine lv_iload hx hb dX10_bestStep_7 (lv_at hl 5 rfl) ?_
    refine lv_iload_n hx hb dX10_bestStep_9 rfl (lv_at hl 3 rfl) ?_
    refine lv_icmp_ge (tgt := 80) hx hb dX10_bestStep_10 (by decide) (fun hc => ?_) (fun hc => ?_)
    · replace hf := it_t hc hf
      exact hk x4 _ _ _ hf (lv_sub hl [4] rfl) hw
    · replace hf := it_f hc hf
      refine lv_iload_n hx hb dX10_bestStep_13 rfl (lv_at hl 2 rfl) ?_
      refine lv_iload hx hb dX10_bestStep_14 (lv_at hl 5 rfl) ?_
      refine lv_ishr hx hb dX10_bestStep_16 ?_
      refine lv_iconst (v := 1) hx hb dX10_bestStep_17 (by decide) ?_
      refine lv_iand hx hb dX10_bestStep_18 ?_
      refine lv_if_ne (tgt := 74) hx hb dX10_bestStep_19 (by decide) (fun hc => ?_) (fun hc => ?_)
      · replace hf := it_f hc hf
        refine lv_iinc (v := x5 + 1) (lv' := [(5, .int (x5 + 1)), (0, .ref A_t), (1, .int x1), (2, .int x2), (3, .int x3), (4, .int x4)]) hx hb dX10_bestStep_74 hl (k := 5) rfl rfl (by decide) rfl (fun ls hl => ?_)
        refine lv_goto (tgt := 7) hx hb dX10_bestStep_77 (by decide) ?_
        exact hrc x4 (x5 + 1) _ _ _ hf (lv_sub hl [1, 2, 3, 4, 5, 0] rfl) hw
      · replace hf := it_t hc hf
        refine lv_aload_n hx hb dX10_bestStep_22 rfl (lv_at hl 0 rfl) ?_
        refine g_get hC hw fkX10_55 0 rfl rfl dX10_bestStep_23 ?_
        refine lv_iload_n hx hb dX10_bestStep_26 rfl (lv_at hl 1 rfl) ?_
        refine lv_aload_n hx hb dX10_bestStep_27 rfl (lv_at hl 0 rfl) ?_
        refine g_get hC hw fkX10_58 0 rfl rfl dX10_bestStep_28 ?_
        refine lv_iload hx hb dX10_bestStep_31 (lv_at hl 5 rfl) ?_
        obtain ⟨hi, hf⟩ := ck_s hf
        refine g_iald hC hw 2 rfl hi dX10_bestStep_33 ?_
        obtain ⟨r1, hq2, hf⟩ := b1_s hf
        refine h_cSi hC hw msX10_89 (cn_X10_at l G x1 (c_t_stop (Int32.toNatClampNeg x5)) r1 hq2) [] rfl (by decide) rfl hl.1 rfl (Nat.le_of_ble_eq_true rfl) ⟨Nat.le_of_ble_eq_true rfl, Nat.le_of_ble_eq_true rfl⟩ ⟨Nat.le_refl _, Nat.le_refl _⟩ dX10_bestStep_34 (fun H locs hw => ?_)
        obtain ⟨hi, hf⟩ := ck_s hf
        refine g_iald hC hw 1 rfl hi dX10_bestStep_37 ?_
        refine lv_aload_n hx hb dX10_bestStep_38 rfl (lv_at hl 0 rfl) ?_
        refine g_get hC hw fkX10_61 0 rfl rfl dX10_bestStep_39 ?_
        refine lv_bipush (v := 6) hx hb dX10_bestStep_42 (by decide) ?_
        refine lv_iload_n hx hb dX10_bestStep_44 rfl (lv_at hl 2 rfl) ?_
        refine lv_iconst (v := 1) hx hb dX10_bestStep_45 (by decide) ?_
        refine lv_iload hx hb dX10_bestStep_46 (lv_at hl 5 rfl) ?_
        refine lv_ishl hx hb dX10_bestStep_48 ?_
        refine lv_ior hx hb dX10_bestStep_49 ?_
        refine lv_imul hx hb dX10_bestStep_50 ?_
        refine lv_iload hx hb dX10_bestStep_51 (lv_at hl 5 rfl) ?_
        refine lv_iadd hx hb dX10_bestStep_53 ?_
        obtain ⟨hi, hf⟩ := ck_s hf
        refine g_iald hC hw 3 rfl hi dX10_bestStep_54 ?_
        refine lv_iadd hx hb dX10_bestStep_55 ?_
        obtain ⟨y3, ey3, hf⟩ := lx_s hf
        rw [← ey3]
        refine lv_istore (lv' := [(6, .int y3), (0, .ref A_t), (1, .int x1), (2, .int x2), (3, .int x3), (4, .int x4), (5, .int x5)]) hx hb dX10_bestStep_56 hl (by decide) rfl (fun ls hl => ?_)
        refine lv_iload hx hb dX10_bestStep_58 (lv_at hl 0 rfl) ?_
        refine lv_iload hx hb dX10_bestStep_60 (lv_at hl 5 rfl) ?_
        refine lv_icmp_ge (tgt := 70) hx hb dX10_bestStep_62 (by decide) (fun hc => ?_) (fun hc => ?_)
        · replace hf := it_t hc hf
          refine lv_iload hx hb dX10_bestStep_70 (lv_at hl 5 rfl) ?_
          refine lv_istore (lv' := [(4, .int x4), (6, .int y3), (0, .ref A_t), (1, .int x1), (2, .int x2), (3, .int x3), (5, .int x5)]) hx hb dX10_bestStep_72 hl (by decide) rfl (fun ls hl => ?_)
          refine lv_iinc (v := x5 + 1) (lv' := [(5, .int (x5 + 1)), (4, .int x4), (6, .int y3), (0, .ref A_t), (1, .int x1), (2, .int x2), (3, .int x3)]) hx hb dX10_bestStep_74 hl (k := 6) rfl rfl (by decide) rfl (fun ls hl => ?_)
          refine lv_goto (tgt := 7) hx hb dX10_bestStep_77 (by decide) ?_
          exact hrc x4 (x5 + 1) _ _ _ hf (lv_sub hl [3, 4, 5, 6, 1, 0] rfl) hw
        · replace hf := it_f hc hf
          refine lv_iload hx hb dX10_bestStep_65 (lv_at hl 0 rfl) ?_
          refine lv_goto (tgt := 72) hx hb dX10_bestStep_67 (by decide) ?_
          refine lv_istore (lv' := [(4, .int y3), (6, .int y3), (0, .ref A_t), (1, .int x1), (2, .int x2), (3, .int x3), (5, .int x5)]) hx hb dX10_bestStep_72 hl (by decide) rfl (fun ls hl => ?_)
          refine lv_iinc (v := x5 + 1) (lv' := [(5, .int (x5 + 1)), (4, .int y3), (6, .int y3), (0, .ref A_t), (1, .int x1), (2, .int x2), (3, .int x3)]) hx hb dX10_bestStep_74 hl (k := 6) rfl rfl (by decide) rfl (fun ls hl => ?_)
          refine lv_goto (tgt := 7) hx hb dX10_bestStep_77 (by decide) ?_
          exact hrc y3 (x5 + 1) _ _ _ hf (lv_sub hl [3, 4, 5, 6, 1, 0] rfl) hw
set_option maxHeartbeats 4000000 in
set_option maxRecDepth 100000 in
theorem wn_X10_bestStep {p : Program} {l : Launch} {e : Env} {s : State} {m : MethodId} {args : Array Value} {below : List Frame} {meth : Method} {c : Code} {G : gw_} {A : Nat → Prop} {Q : State → Prop} {A_t : Nat} {A_t_steps : Nat} {A_t_wet : Nat} {A_t_where : Nat} {A_t_home : Nat} {A_t_light : Nat} {A_t_carries : Nat} {A_t_sightPlace : Nat} {A_t_sightLight : Nat} {A_t_pad : Nat} {A_t_act : Nat} {A_t_whose : Nat} {A_t_whom : Nat} {A_t_tens : Nat} {A_t_had : Nat} {A_t_leaves : Nat} {A_t_apart : Nat} {A_t_stop : Nat} {A_t_restOf : Nat} {A_t_group : Nat} {A_t_along : Nat} {A_t_kept : Nat} {A_t_isKept : Nat} {c_t_foggy : Int32} {c_t_walkers : Int32} {c_t_sights : Int32} {c_t_padMany : Int32} {c_t_acts : Int32} {c_t_spent : Int32} {c_t_walks : Int32} {c_t_badAct : Int32} {c_t_badWhy : Int32} {c_t_keptAt : Int32} {c_t_isWriting : Int32} {c_t_apart : Nat → Int32} {c_t_stop : Nat → Int32} {c_t_restOf : Nat → Int32} {r : Int32} {x1 : Int32} {x2 : Int32} {x3 : Int32} (hC : cx_ p s m c G cX10_bestStep 7 RX10) (hret : ∀ (pc : Nat) (H : Heap) (locs : List Loc) (ls : Array Slot), decode cX10_bestStep pc = .ok (.ireturn, 1) → wd_ G A s.heap (wl_X10_bestStep G A_t A_t_steps A_t_wet A_t_where A_t_home A_t_light A_t_carries A_t_sightPlace A_t_sightLight A_t_pad A_t_act A_t_whose A_t_whom A_t_tens A_t_had A_t_leaves A_t_apart A_t_stop A_t_restOf A_t_group A_t_along A_t_kept A_t_isKept c_t_foggy c_t_walkers c_t_sights c_t_padMany c_t_acts c_t_spent c_t_walks c_t_badAct c_t_badWhy c_t_keptAt c_t_isWriting c_t_apart c_t_stop c_t_restOf) H locs → W p l e { frames := 1, cells := 0, slots := 0, locals := 21 } s m args below meth c H locs 0 0 Q (F0 m pc ls [.int r])) (hf : fn_X10_bestStep c_t_apart c_t_stop c_t_restOf x1 x2 x3 = some r) {H : Heap} {locs : List Loc} {ls : Array Slot} (hl : lv_has ls 7 [(0, .ref A_t), (1, .int x1), (2, .int x2), (3, .int x3)]) (hw : wd_ G A s.heap (wl_X10_bestStep G A_t A_t_steps A_t_wet A_t_where A_t_home A_t_light A_t_carries A_t_sightPlace A_t_sightLight A_t_pad A_t_act A_t_whose A_t_whom A_t_tens A_t_had A_t_leaves A_t_apart A_t_stop A_t_restOf A_t_group A_t_along A_t_kept A_t_isKept c_t_foggy c_t_walkers c_t_sights c_t_padMany c_t_acts c_t_spent c_t_walks c_t_badAct c_t_badWhy c_t_keptAt c_t_isWriting c_t_apart c_t_stop c_t_restOf) H locs) : W p l e { frames := 1, cells := 0, slots := 0, locals := 21 } s m args below meth c H locs 0 0 Q (F0 m 0 ls []) := by
  have hx := hC.1
  have hb := hC.2.1
  unfold fn_X10_bestStep at hf
  refine g_ldc (v := 1000000) hC (tb5 17 rfl rfl) dX10_bestStep_0 ?_
  refine lv_istore (lv' := [(4, .int 1000000), (0, .ref A_t), (1, .int x1), (2, .int x2), (3, .int x3)]) hx hb dX10_bestStep_2 hl (by decide) rfl (fun ls hl => ?_)
  refine lv_iconst (v := 0) hx hb dX10_bestStep_4 (by decide) ?_
  refine lv_istore (lv' := [(5, .int 0), (4, .int 1000000), (0, .ref A_t), (1, .int x1), (2, .int x2), (3, .int x3)]) hx hb dX10_bestStep_5 hl (by decide) rfl (fun ls hl => ?_)
  refine wn_X10_bestStep_l7 hC hret (fun v4 H locs ls hf hl hw => ?_) fu_ 1000000 0 _ _ _ hf (lv_sub hl [2, 3, 4, 5, 1, 0] rfl) hw
  refine lv_iload hx hb dX10_bestStep_80 (lv_at hl 0 rfl) ?_
  have h1_ := t1_ hf
  subst h1_
  exact hret _ _ _ _ dX10_bestStep_82 hw
set_option maxHeartbeats 4000000 in
set_option maxRecDepth 100000 in
theorem cn_X10_bestStep (l : Launch) (G : gw_) (A_t : Nat) (A_t_steps : Nat) (A_t_wet : Nat) (A_t_where : Nat) (A_t_home : Nat) (A_t_light : Nat) (A_t_carries : Nat) (A_t_sightPlace : Nat) (A_t_sightLight : Nat) (A_t_pad : Nat) (A_t_act : Nat) (A_t_whose : Nat) (A_t_whom : Nat) (A_t_tens : Nat) (A_t_had : Nat) (A_t_leaves : Nat) (A_t_apart : Nat) (A_t_stop : Nat) (A_t_restOf : Nat) (A_t_group : Nat) (A_t_along : Nat) (A_t_kept : Nat) (A_t_isKept : Nat) (c_t_foggy : Int32) (c_t_walkers : Int32) (c_t_sights : Int32) (c_t_padMany : Int32) (c_t_acts : Int32) (c_t_spent : Int32) (c_t_walks : Int32) (c_t_badAct : Int32) (c_t_badWhy : Int32) (c_t_keptAt : Int32) (c_t_isWriting : Int32) (c_t_apart : Nat → Int32) (c_t_stop : Nat → Int32) (c_t_restOf : Nat → Int32) (x1 : Int32) (x2 : Int32) (x3 : Int32) (r : Int32) (hf : fn_X10_bestStep c_t_apart c_t_stop c_t_restOf x1 x2 x3 = some r) : ci_ l G yX10_bestStep cX10_bestStep 7 (some .int) 1 21 (wl_X10_bestStep G A_t A_t_steps A_t_wet A_t_where A_t_home A_t_light A_t_carries A_t_sightPlace A_t_sightLight A_t_pad A_t_act A_t_whose A_t_whom A_t_tens A_t_had A_t_leaves A_t_apart A_t_stop A_t_restOf A_t_group A_t_along A_t_kept A_t_isKept c_t_foggy c_t_walkers c_t_sights c_t_padMany c_t_acts c_t_spent c_t_walks c_t_badAct c_t_badWhy c_t_keptAt c_t_isWriting c_t_apart c_t_stop c_t_restOf) [.ref A_t, .int x1, .int x2, .int x3] r (wl_X10_bestStep G A_t A_t_steps A_t_wet A_t_where A_t_home A_t_light A_t_carries A_t_sightPlace A_t_sightLight A_t_pad A_t_act A_t_whose A_t_whom A_t_tens A_t_had A_t_leaves A_t_apart A_t_stop A_t_restOf A_t_group A_t_along A_t_kept A_t_isKept c_t_foggy c_t_walkers c_t_sights c_t_padMany c_t_acts c_t_spent c_t_walks c_t_badAct c_t_badWhy c_t_keptAt c_t_isWriting c_t_apart c_t_stop c_t_restOf) := fun sz => met_intro (by decide) (Nat.le_of_ble_eq_true rfl) (fun p e s m args below meth c ls hsz hC hr hlk hnm hl hw => wn_X10_bestStep hC (fun pc H locs ls hd hw => g_iret hC hr hlk hw rfl rfl hd) hf hl hw)

theorem dX10_findRests_0 : decode cX10_findRests 0 = .ok (.iconst 1, 1) := by decide +kernel
theorem dX10_findRests_1 : decode cX10_findRests 1 = .ok (.iload_n 2, 1) := by decide +kernel
theorem dX10_findRests_2 : decode cX10_findRests 2 = .ok (.ishl, 1) := by decide +kernel
theorem dX10_findRests_3 : decode cX10_findRests 3 = .ok (.iconst 1, 1) := by decide +kernel
theorem dX10_findRests_4 : decode cX10_findRests 4 = .ok (.isub, 1) := by decide +kernel
theorem dX10_findRests_5 : decode cX10_findRests 5 = .ok (.istore_n 3, 1) := by decide +kernel
theorem dX10_findRests_6 : decode cX10_findRests 6 = .ok (.iload_n 3, 1) := by decide +kernel
theorem dX10_findRests_7 : decode cX10_findRests 7 = .ok (.istore 4, 2) := by decide +kernel
theorem dX10_findRests_9 : decode cX10_findRests 9 = .ok (.iload 4, 2) := by decide +kernel
theorem dX10_findRests_11 : decode cX10_findRests 11 = .ok (.ifCond .le 76, 3) := by decide +kernel
theorem dX10_findRests_14 : decode cX10_findRests 14 = .ok (.iconst 0, 1) := by decide +kernel
theorem dX10_findRests_15 : decode cX10_findRests 15 = .ok (.istore 5, 2) := by decide +kernel
theorem dX10_findRests_17 : decode cX10_findRests 17 = .ok (.iload 5, 2) := by decide +kernel
theorem dX10_findRests_19 : decode cX10_findRests 19 = .ok (.iload_n 2, 1) := by decide +kernel
theorem dX10_findRests_20 : decode cX10_findRests 20 = .ok (.if_icmp .ge 61, 3) := by decide +kernel
theorem dX10_findRests_23 : decode cX10_findRests 23 = .ok (.aload_n 0, 1) := by decide +kernel
theorem dX10_findRests_24 : decode cX10_findRests 24 = .ok (.getfield 61, 3) := by decide +kernel
theorem dX10_findRests_27 : decode cX10_findRests 27 = .ok (.bipush 6, 2) := by decide +kernel
theorem dX10_findRests_29 : decode cX10_findRests 29 = .ok (.iload 4, 2) := by decide +kernel
theorem dX10_findRests_31 : decode cX10_findRests 31 = .ok (.imul, 1) := by decide +kernel
theorem dX10_findRests_32 : decode cX10_findRests 32 = .ok (.iload 5, 2) := by decide +kernel
theorem dX10_findRests_34 : decode cX10_findRests 34 = .ok (.iadd, 1) := by decide +kernel
theorem dX10_findRests_35 : decode cX10_findRests 35 = .ok (.iload 4, 2) := by decide +kernel
theorem dX10_findRests_37 : decode cX10_findRests 37 = .ok (.iload_n 3, 1) := by decide +kernel
theorem dX10_findRests_38 : decode cX10_findRests 38 = .ok (.if_icmp .ne 22, 3) := by decide +kernel
theorem dX10_findRests_41 : decode cX10_findRests 41 = .ok (.aload_n 0, 1) := by decide +kernel
theorem dX10_findRests_42 : decode cX10_findRests 42 = .ok (.getfield 55, 3) := by decide +kernel
theorem dX10_findRests_45 : decode cX10_findRests 45 = .ok (.aload_n 0, 1) := by decide +kernel
theorem dX10_findRests_46 : decode cX10_findRests 46 = .ok (.getfield 58, 3) := by decide +kernel
theorem dX10_findRests_49 : decode cX10_findRests 49 = .ok (.iload 5, 2) := by decide +kernel
theorem dX10_findRests_51 : decode cX10_findRests 51 = .ok (.iaload, 1) := by decide +kernel
theorem dX10_findRests_52 : decode cX10_findRests 52 = .ok (.iload_n 1, 1) := by decide +kernel
theorem dX10_findRests_53 : decode cX10_findRests 53 = .ok (.invokestatic 89, 3) := by decide +kernel
theorem dX10_findRests_56 : decode cX10_findRests 56 = .ok (.iaload, 1) := by decide +kernel
theorem dX10_findRests_57 : decode cX10_findRests 57 = .ok (.goto 17, 3) := by decide +kernel
theorem dX10_findRests_60 : decode cX10_findRests 60 = .ok (.aload_n 0, 1) := by decide +kernel
theorem dX10_findRests_61 : decode cX10_findRests 61 = .ok (.aload_n 0, 1) := by decide +kernel
theorem dX10_findRests_62 : decode cX10_findRests 62 = .ok (.getfield 58, 3) := by decide +kernel
theorem dX10_findRests_65 : decode cX10_findRests 65 = .ok (.iload 5, 2) := by decide +kernel
theorem dX10_findRests_67 : decode cX10_findRests 67 = .ok (.iaload, 1) := by decide +kernel
theorem dX10_findRests_68 : decode cX10_findRests 68 = .ok (.iload 4, 2) := by decide +kernel
theorem dX10_findRests_70 : decode cX10_findRests 70 = .ok (.iload_n 2, 1) := by decide +kernel
theorem dX10_findRests_71 : decode cX10_findRests 71 = .ok (.invokevirtual 228, 3) := by decide +kernel
theorem dX10_findRests_74 : decode cX10_findRests 74 = .ok (.iastore, 1) := by decide +kernel
theorem dX10_findRests_75 : decode cX10_findRests 75 = .ok (.iinc 5 1, 3) := by decide +kernel
theorem dX10_findRests_78 : decode cX10_findRests 78 = .ok (.goto (-61), 3) := by decide +kernel
theorem dX10_findRests_81 : decode cX10_findRests 81 = .ok (.iinc 4 (-1), 3) := by decide +kernel
theorem dX10_findRests_84 : decode cX10_findRests 84 = .ok (.goto (-75), 3) := by decide +kernel
theorem dX10_findRests_87 : decode cX10_findRests 87 = .ok (.return_, 1) := by decide +kernel
abbrev wl_X10_findRests (G : gw_) (A_t : Nat) (A_t_steps : Nat) (A_t_wet : Nat) (A_t_where : Nat) (A_t_home : Nat) (A_t_light : Nat) (A_t_carries : Nat) (A_t_sightPlace : Nat) (A_t_sightLight : Nat) (A_t_pad : Nat) (A_t_act : Nat) (A_t_whose : Nat) (A_t_whom : Nat) (A_t_tens : Nat) (A_t_had : Nat) (A_t_leaves : Nat) (A_t_apart : Nat) (A_t_stop : Nat) (A_t_restOf : Nat) (A_t_group : Nat) (A_t_along : Nat) (A_t_kept : Nat) (A_t_isKept : Nat) (c_t_foggy : Int32) (c_t_walkers : Int32) (c_t_sights : Int32) (c_t_padMany : Int32) (c_t_acts : Int32) (c_t_spent : Int32) (c_t_walks : Int32) (c_t_badAct : Int32) (c_t_badWhy : Int32) (c_t_keptAt : Int32) (c_t_isWriting : Int32) (c_t_apart : Nat → Int32) (c_t_stop : Nat → Int32) (c_t_restOf : Nat → Int32) : va_W := [ob_ A_t 10 [.ref A_t_steps, .ref A_t_wet, .int c_t_foggy, .int c_t_walkers, .ref A_t_where, .ref A_t_home, .ref A_t_light, .ref A_t_carries, .ref A_t_sightPlace, .ref A_t_sightLight, .int c_t_sights, .ref A_t_pad, .int c_t_padMany, .ref A_t_act, .ref A_t_whose, .ref A_t_whom, .ref A_t_tens, .int c_t_acts, .int c_t_spent, .int c_t_walks, .ref A_t_had, .ref A_t_leaves, .int c_t_badAct, .int c_t_badWhy, .ref A_t_apart, .ref A_t_stop, .ref A_t_restOf, .ref A_t_group, .ref A_t_along, .ref A_t_kept, .ref A_t_isKept, .int c_t_keptAt, .int c_t_isWriting], ia_ G A_t_apart 144 c_t_apart, ia_ G A_t_stop 6 c_t_stop, ia_ G A_t_restOf 384 c_t_restOf]
def fn_X10_findRests_b17 (c_t_apart : Nat → Int32) (c_t_stop : Nat → Int32) (x1 : Int32) (x2 : Int32) (x3 : Int32) (x4 : Int32) (rc : Int32 → (Nat → Int32) → Option ((Nat → Int32))) (k : (Nat → Int32) → Option ((Nat → Int32))) (x5 : Int32) (c_t_restOf : Nat → Int32) : Option ((Nat → Int32)) :=
  if x2 ≤ x5 then
    k c_t_restOf
  else
    if x4 = x3 then
      ck_ x5 6 <|
      b1_ (fn_X10_at (c_t_stop (Int32.toNatClampNeg x5)) x1) fun r5 =>
      ck_ r5 144 <|
      ck_ ((6 * x4) + x5) 384 <|
      lx_ (upd c_t_restOf (Int32.toNatClampNeg ((6 * x4) + x5)) (c_t_apart (Int32.toNatClampNeg r5))) fun f7 =>
      rc (x5 + 1) f7
    else
      ck_ x5 6 <|
      b1_ (fn_X10_bestStep c_t_apart c_t_stop c_t_restOf (c_t_stop (Int32.toNatClampNeg x5)) x4 x2) fun r2 =>
      ck_ ((6 * x4) + x5) 384 <|
      lx_ (upd c_t_restOf (Int32.toNatClampNeg ((6 * x4) + x5)) r2) fun f4 =>
      rc (x5 + 1) f4
def fn_X10_findRests_l17 (c_t_apart : Nat → Int32) (c_t_stop : Nat → Int32) (x1 : Int32) (x2 : Int32) (x3 : Int32) (x4 : Int32) (k : (Nat → Int32) → Option ((Nat → Int32))) : Nat → Int32 → (Nat → Int32) → Option ((Nat → Int32))
  | 0 => fun _ _ => none
  | n + 1 => fun x5 c_t_restOf => fn_X10_findRests_b17 c_t_apart c_t_stop x1 x2 x3 x4 (fn_X10_findRests_l17 c_t_apart c_t_stop x1 x2 x3 x4 k n) k x5 c_t_restOf
def fn_X10_findRests_b9 (c_t_apart : Nat → Int32) (c_t_stop : Nat → Int32) (x1 : Int32) (x2 : Int32) (x3 : Int32) (rc : Int32 → (Nat → Int32) → Option ((Nat → Int32))) (k : (Nat → Int32) → Option ((Nat → Int32))) (x4 : Int32) (c_t_restOf : Nat → Int32) : Option ((Nat → Int32)) :=
  if x4 ≤ 0 then
    k c_t_restOf
  else
    fn_X10_findRests_l17 c_t_apart c_t_stop x1 x2 x3 x4 (fun v8 =>
      rc (x4 + (-1)) v8) fu_ 0 c_t_restOf
def fn_X10_findRests_l9 (c_t_apart : Nat → Int32) (c_t_stop : Nat → Int32) (x1 : Int32) (x2 : Int32) (x3 : Int32) (k : (Nat → Int32) → Option ((Nat → Int32))) : Nat → Int32 → (Nat → Int32) → Option ((Nat → Int32))
  | 0 => fun _ _ => none
  | n + 1 => fun x4 c_t_restOf => fn_X10_findRests_b9 c_t_apart c_t_stop x1 x2 x3 (fn_X10_findRests_l9 c_t_apart c_t_stop x1 x2 x3 k n) k x4 c_t_restOf
def fn_X10_findRests (c_t_apart : Nat → Int32) (c_t_stop : Nat → Int32) (c_t_restOf : Nat → Int32) (x1 : Int32) (x2 : Int32) : Option ((Nat → Int32)) :=
  lx_ (((1 : Int32) <<< (x2 &&& 31)) - 1) fun y1 =>
  fn_X10_findRests_l9 c_t_apart c_t_stop x1 x2 y1 (fun v9 =>
    some v9) fu_ y1 c_t_restOf
set_option maxHeartbeats 4000000 in
set_option maxRecDepth 100000 in
theorem wn_X10_findRests_l17 {p : Program} {l : Launch} {e : Env} {s : State} {m : MethodId} {args : Array Value} {below : List Frame} {meth : Method} {c : Code} {G : gw_} {A : Nat → Prop} {Q : State → Prop} {A_t : Nat} {A_t_steps : Nat} {A_t_wet : Nat} {A_t_where : Nat} {A_t_home : Nat} {A_t_light : Nat} {A_t_carries : Nat} {A_t_sightPlace : Nat} {A_t_sightLight : Nat} {A_t_pad : Nat} {A_t_act : Nat} {A_t_whose : Nat} {A_t_whom : Nat} {A_t_tens : Nat} {A_t_had : Nat} {A_t_leaves : Nat} {A_t_apart : Nat} {A_t_stop : Nat} {A_t_restOf : Nat} {A_t_group : Nat} {A_t_along : Nat} {A_t_kept : Nat} {A_t_isKept : Nat} {c_t_foggy : Int32} {c_t_walkers : Int32} {c_t_sights : Int32} {c_t_padMany : Int32} {c_t_acts : Int32} {c_t_spent : Int32} {c_t_walks : Int32} {c_t_badAct : Int32} {c_t_badWhy : Int32} {c_t_keptAt : Int32} {c_t_isWriting : Int32} {c_t_apart : Nat → Int32} {c_t_stop : Nat → Int32} {z_t_restOf : Nat → Int32} {x1 : Int32} {x2 : Int32} {x3 : Int32} {x4 : Int32} {k : (Nat → Int32) → Option ((Nat → Int32))} (hC : cx_ p s m c G cX10_findRests 6 RX10) (hret : ∀ (pc : Nat) (H : Heap) (locs : List Loc) (ls : Array Slot), decode cX10_findRests pc = .ok (.return_, 1) → wd_ G A s.heap (wl_X10_findRests G A_t A_t_steps A_t_wet A_t_where A_t_home A_t_light A_t_carries A_t_sightPlace A_t_sightLight A_t_pad A_t_act A_t_whose A_t_whom A_t_tens A_t_had A_t_leaves A_t_apart A_t_stop A_t_restOf A_t_group A_t_along A_t_kept A_t_isKept c_t_foggy c_t_walkers c_t_sights c_t_padMany c_t_acts c_t_spent c_t_walks c_t_badAct c_t_badWhy c_t_keptAt c_t_isWriting c_t_apart c_t_stop z_t_restOf) H locs → W p l e { frames := 2, cells := 0, slots := 0, locals := 47 } s m args below meth c H locs 0 0 Q (F0 m pc ls [])) (hk : ∀ (c_t_restOf : Nat → Int32) (H : Heap) (locs : List Loc) (ls : Array Slot), k c_t_restOf = some z_t_restOf → lv_has ls 6 [(0, .ref A_t), (1, .int x1), (2, .int x2), (3, .int x3), (4, .int x4)] → wd_ G A s.heap (wl_X10_findRests G A_t A_t_steps A_t_wet A_t_where A_t_home A_t_light A_t_carries A_t_sightPlace A_t_sightLight A_t_pad A_t_act A_t_whose A_t_whom A_t_tens A_t_had A_t_leaves A_t_apart A_t_stop A_t_restOf A_t_group A_t_along A_t_kept A_t_isKept c_t_foggy c_t_walkers c_t_sights c_t_padMany c_t_acts c_t_spent c_t_walks c_t_badAct c_t_badWhy c_t_keptAt c_t_isWriting c_t_apart c_t_stop c_t_restOf) H locs → W p l e { frames := 2, cells := 0, slots := 0, locals := 47 } s m args below meth c H locs 0 0 Q (F0 m 81 ls [])) : ∀ (n : Nat) (x5 : Int32) (c_t_restOf : Nat → Int32) (H : Heap) (locs : List Loc) (ls : Array Slot), fn_X10_findRests_l17 c_t_apart c_t_stop x1 x2 x3 x4 k n x5 c_t_restOf = some z_t_restOf → lv_has ls 6 [(0, .ref A_t), (1, .int x1), (2, .int x2), (3, .int x3), (4, .int x4), (5, .int x5)] → wd_ G A s.heap (wl_X10_findRests G A_t A_t_steps A_t_wet A_t_where A_t_home A_t_light A_t_carries A_t_sightPlace A_t_sightLight A_t_pad A_t_act A_t_whose A_t_whom A_t_tens A_t_had A_t_leaves A_t_apart A_t_stop A_t_restOf A_t_group A_t_along A_t_kept A_t_isKept c_t_foggy c_t_walkers c_t_sights c_t_padMany c_t_acts c_t_spent c_t_walks c_t_badAct c_t_badWhy c_t_keptAt c_t_isWriting c_t_apart c_t_stop c_t_restOf) H locs → W p l e { frames := 2, cells := 0, slots := 0, locals := 47 } s m args below meth c H locs 0 0 Q (F0 m 17 ls []) := by
  have hx := hC.1
  have hb := hC.2.1
  intro n
  induction n with
  | zero =>
    intro x5 c_t_restOf H locs ls hf
    cases (show (none : Option ((Nat → Int32))) = some _ from hf)
  | succ n hrc =>
    intro x5 c_t_restOf H locs ls hf hl hw
    replace hf : fn_X10_findRests_b17 c_t_apart c_t_stop x1 x2 x3 x4 (fn_X10_findRests_l17 c_t_apart c_t_stop x1 x2 x3 x4 k n) k x5 c_t_restOf = some z_t_restOf := hf
    unfold fn_X10_findRests_b17 at hf
    refine lv_iload hx hb dX10_findRests_17 (lv_at hl 5 rfl) ?_
    refine lv_iload_n hx hb dX10_findRests_19 rfl (lv_at hl 2 rfl) ?_
    refine lv_icmp_ge (tgt := 81) hx hb dX10_findRests_20 (by decide) (fun hc => ?_) (fun hc => ?_)
    · replace hf := it_t hc hf
      exact hk c_t_restOf _ _ _ hf (lv_sub hl [0, 1, 2, 3, 4] rfl) hw
    · replace hf := it_f hc hf
      refine lv_aload_n hx hb dX10_findRests_23 rfl (lv_at hl 0 rfl) ?_
      refine g_get hC hw fkX10_61 0 rfl rfl dX10_findRests_24 ?_
      refine lv_bipush (v := 6) hx hb dX10_findRests_27 (by decide) ?_
      refine lv_iload hx hb dX10_findRests_29 (lv_at hl 4 rfl) ?_
      refine lv_imul hx hb dX10_findRests_31 ?_
      refine lv_iload hx hb dX10_findRests_32 (lv_at hl 5 rfl) ?_
      refine lv_iadd hx hb dX10_findRests_34 ?_
      refine lv_iload hx hb dX10_findRests_35 (lv_at hl 4 rfl) ?_
      refine lv_iload_n hx hb dX10_findRests_37 rfl (lv_at hl 3 rfl) ?_
      refine lv_icmp_ne (tgt := 60) hx hb dX10_findRests_38 (by decide) (fun hc => ?_) (fun hc => ?_)
      · replace hf := it_f hc hf
        refine lv_aload_n hx hb dX10_findRests_60 rfl (lv_at hl 0 rfl) ?_
        refine lv_aload_n hx hb dX10_findRests_61 rfl (lv_at hl 0 rfl) ?_
        refine g_get hC hw fkX10_58 0 rfl rfl dX10_findRests_62 ?_
        refine lv_iload hx hb dX10_findRests_65 (lv_at hl 5 rfl) ?_
        obtain ⟨hi, hf⟩ := ck_s hf
        refine g_iald hC hw 2 rfl hi dX10_findRests_67 ?_
        refine lv_iload hx hb dX10_findRests_68 (lv_at hl 4 rfl) ?_
        refine lv_iload_n hx hb dX10_findRests_70 rfl (lv_at hl 2 rfl) ?_
        obtain ⟨r2, hq3, hf⟩ := b1_s hf
        refine h_cVi hC hw mvX10_228 (cn_X10_bestStep l G A_t A_t_steps A_t_wet A_t_where A_t_home A_t_light A_t_carries A_t_sightPlace A_t_sightLight A_t_pad A_t_act A_t_whose A_t_whom A_t_tens A_t_had A_t_leaves A_t_apart A_t_stop A_t_restOf A_t_group A_t_along A_t_kept A_t_isKept c_t_foggy c_t_walkers c_t_sights c_t_padMany c_t_acts c_t_spent c_t_walks c_t_badAct c_t_badWhy c_t_keptAt c_t_isWriting c_t_apart c_t_stop c_t_restOf (c_t_stop (Int32.toNatClampNeg x5)) x4 x2 r2 hq3) [0, 1, 2, 3] rfl (by decide) 0 rfl rfl rfl hl.1 rfl (Nat.le_of_ble_eq_true rfl) ⟨Nat.le_of_ble_eq_true rfl, Nat.le_of_ble_eq_true rfl⟩ ⟨Nat.le_refl _, Nat.le_refl _⟩ dX10_findRests_71 (fun H locs hw => ?_)
        obtain ⟨hi, hf⟩ := ck_s hf
        obtain ⟨f4, ef4, hf⟩ := lx_s hf
        refine g_iast hC hw 3 rfl hi ef4 dX10_findRests_74 (fun H locs hw => ?_)
        have hw : wd_ G A s.heap (wl_X10_findRests G A_t A_t_steps A_t_wet A_t_where A_t_home A_t_light A_t_carries A_t_sightPlace A_t_sightLight A_t_pad A_t_act A_t_whose A_t_whom A_t_tens A_t_had A_t_leaves A_t_apart A_t_stop A_t_restOf A_t_group A_t_along A_t_kept A_t_isKept c_t_foggy c_t_walkers c_t_sights c_t_padMany c_t_acts c_t_spent c_t_walks c_t_badAct c_t_badWhy c_t_keptAt c_t_isWriting c_t_apart c_t_stop f4) H locs := hw
        refine lv_iinc (v := x5 + 1) (lv' := [(5, .int (x5 + 1)), (0, .ref A_t), (1, .int x1), (2, .int x2), (3, .int x3), (4, .int x4)]) hx hb dX10_findRests_75 hl (k := 5) rfl rfl (by decide) rfl (fun ls hl => ?_)
        refine lv_goto (tgt := 17) hx hb dX10_findRests_78 (by decide) ?_
        exact hrc (x5 + 1) f4 _ _ _ hf (lv_sub hl [1, 2, 3, 4, 5, 0] rfl) hw
      · replace hf := it_t hc hf
        refine lv_aload_n hx hb dX10_findRests_41 rfl (lv_at hl 0 rfl) ?_
        refine g_get hC hw fkX10_55 0 rfl rfl dX10_findRests_42 ?_
        refine lv_aload_n hx hb dX10_findRests_45 rfl (lv_at hl 0 rfl) ?_
        refine g_get hC hw fkX10_58 0 rfl rfl dX10_findRests_46 ?_
        refine lv_iload hx hb dX10_findRests_49 (lv_at hl 5 rfl) ?_
        obtain ⟨hi, hf⟩ := ck_s hf
        refine g_iald hC hw 2 rfl hi dX10_findRests_51 ?_
        refine lv_iload_n hx hb dX10_findRests_52 rfl (lv_at hl 1 rfl) ?_
        obtain ⟨r5, hq6, hf⟩ := b1_s hf
        refine h_cSi hC hw msX10_89 (cn_X10_at l G (c_t_stop (Int32.toNatClampNeg x5)) x1 r5 hq6) [] rfl (by decide) rfl hl.1 rfl (Nat.le_of_ble_eq_true rfl) ⟨Nat.le_of_ble_eq_true rfl, Nat.le_of_ble_eq_true rfl⟩ ⟨Nat.le_refl _, Nat.le_refl _⟩ dX10_findRests_53 (fun H locs hw => ?_)
        obtain ⟨hi, hf⟩ := ck_s hf
        refine g_iald hC hw 1 rfl hi dX10_findRests_56 ?_
        refine lv_goto (tgt := 74) hx hb dX10_findRests_57 (by decide) ?_
        obtain ⟨hi, hf⟩ := ck_s hf
        obtain ⟨f7, ef7, hf⟩ := lx_s hf
        refine g_iast hC hw 3 rfl hi ef7 dX10_findRests_74 (fun H locs hw => ?_)
        have hw : wd_ G A s.heap (wl_X10_findRests G A_t A_t_steps A_t_wet A_t_where A_t_home A_t_light A_t_carries A_t_sightPlace A_t_sightLight A_t_pad A_t_act A_t_whose A_t_whom A_t_tens A_t_had A_t_leaves A_t_apart A_t_stop A_t_restOf A_t_group A_t_along A_t_kept A_t_isKept c_t_foggy c_t_walkers c_t_sights c_t_padMany c_t_acts c_t_spent c_t_walks c_t_badAct c_t_badWhy c_t_keptAt c_t_isWriting c_t_apart c_t_stop f7) H locs := hw
        refine lv_iinc (v := x5 + 1) (lv' := [(5, .int (x5 + 1)), (0, .ref A_t), (1, .int x1), (2, .int x2), (3, .int x3), (4, .int x4)]) hx hb dX10_findRests_75 hl (k := 5) rfl rfl (by decide) rfl (fun ls hl => ?_)
        refine lv_goto (tgt := 17) hx hb dX10_findRests_78 (by decide) ?_
        exact hrc (x5 + 1) f7 _ _ _ hf (lv_sub hl [1, 2, 3, 4, 5, 0] rfl) hw
set_option maxHeartbeats 4000000 in
set_option maxRecDepth 100000 in
theorem wn_X10_findRests_l9 {p : Program} {l : Launch} {e : Env} {s : State} {m : MethodId} {args : Array Value} {below : List Frame} {meth : Method} {c : Code} {G : gw_} {A : Nat → Prop} {Q : State → Prop} {A_t : Nat} {A_t_steps : Nat} {A_t_wet : Nat} {A_t_where : Nat} {A_t_home : Nat} {A_t_light : Nat} {A_t_carries : Nat} {A_t_sightPlace : Nat} {A_t_sightLight : Nat} {A_t_pad : Nat} {A_t_act : Nat} {A_t_whose : Nat} {A_t_whom : Nat} {A_t_tens : Nat} {A_t_had : Nat} {A_t_leaves : Nat} {A_t_apart : Nat} {A_t_stop : Nat} {A_t_restOf : Nat} {A_t_group : Nat} {A_t_along : Nat} {A_t_kept : Nat} {A_t_isKept : Nat} {c_t_foggy : Int32} {c_t_walkers : Int32} {c_t_sights : Int32} {c_t_padMany : Int32} {c_t_acts : Int32} {c_t_spent : Int32} {c_t_walks : Int32} {c_t_badAct : Int32} {c_t_badWhy : Int32} {c_t_keptAt : Int32} {c_t_isWriting : Int32} {c_t_apart : Nat → Int32} {c_t_stop : Nat → Int32} {z_t_restOf : Nat → Int32} {x1 : Int32} {x2 : Int32} {x3 : Int32} {k : (Nat → Int32) → Option ((Nat → Int32))} (hC : cx_ p s m c G cX10_findRests 6 RX10) (hret : ∀ (pc : Nat) (H : Heap) (locs : List Loc) (ls : Array Slot), decode cX10_findRests pc = .ok (.return_, 1) → wd_ G A s.heap (wl_X10_findRests G A_t A_t_steps A_t_wet A_t_where A_t_home A_t_light A_t_carries A_t_sightPlace A_t_sightLight A_t_pad A_t_act A_t_whose A_t_whom A_t_tens A_t_had A_t_leaves A_t_apart A_t_stop A_t_restOf A_t_group A_t_along A_t_kept A_t_isKept c_t_foggy c_t_walkers c_t_sights c_t_padMany c_t_acts c_t_spent c_t_walks c_t_badAct c_t_badWhy c_t_keptAt c_t_isWriting c_t_apart c_t_stop z_t_restOf) H locs → W p l e { frames := 2, cells := 0, slots := 0, locals := 47 } s m args below meth c H locs 0 0 Q (F0 m pc ls [])) (hk : ∀ (c_t_restOf : Nat → Int32) (H : Heap) (locs : List Loc) (ls : Array Slot), k c_t_restOf = some z_t_restOf → lv_has ls 6 [] → wd_ G A s.heap (wl_X10_findRests G A_t A_t_steps A_t_wet A_t_where A_t_home A_t_light A_t_carries A_t_sightPlace A_t_sightLight A_t_pad A_t_act A_t_whose A_t_whom A_t_tens A_t_had A_t_leaves A_t_apart A_t_stop A_t_restOf A_t_group A_t_along A_t_kept A_t_isKept c_t_foggy c_t_walkers c_t_sights c_t_padMany c_t_acts c_t_spent c_t_walks c_t_badAct c_t_badWhy c_t_keptAt c_t_isWriting c_t_apart c_t_stop c_t_restOf) H locs → W p l e { frames := 2, cells := 0, slots := 0, locals := 47 } s m args below meth c H locs 0 0 Q (F0 m 87 ls [])) : ∀ (n : Nat) (x4 : Int32) (c_t_restOf : Nat → Int32) (H : Heap) (locs : List Loc) (ls : Array Slot), fn_X10_findRests_l9 c_t_apart c_t_stop x1 x2 x3 k n x4 c_t_restOf = some z_t_restOf → lv_has ls 6 [(0, .ref A_t), (1, .int x1), (2, .int x2), (3, .int x3), (4, .int x4)] → wd_ G A s.heap (wl_X10_findRests G A_t A_t_steps A_t_wet A_t_where A_t_home A_t_light A_t_carries A_t_sightPlace A_t_sightLight A_t_pad A_t_act A_t_whose A_t_whom A_t_tens A_t_had A_t_leaves A_t_apart A_t_stop A_t_restOf A_t_group A_t_along A_t_kept A_t_isKept c_t_foggy c_t_walkers c_t_sights c_t_padMany c_t_acts c_t_spent c_t_walks c_t_badAct c_t_badWhy c_t_keptAt c_t_isWriting c_t_apart c_t_stop c_t_restOf) H locs → W p l e { frames := 2, cells := 0, slots := 0, locals := 47 } s m args below meth c H locs 0 0 Q (F0 m 9 ls []) := by
  have hx := hC.1
  have hb := hC.2.1
  intro n
  induction n with
  | zero =>
    intro x4 c_t_restOf H locs ls hf
    cases (show (none : Option ((Nat → Int32))) = some _ from hf)
  | succ n hrc =>
    intro x4 c_t_restOf H locs ls hf hl hw
    replace hf : fn_X10_findRests_b9 c_t_apart c_t_stop x1 x2 x3 (fn_X10_findRests_l9 c_t_apart c_t_stop x1 x2 x3 k n) k x4 c_t_restOf = some z_t_restOf := hf
    unfold fn_X10_findRests_b9 at hf
    refine lv_iload hx hb dX10_findRests_9 (lv_at hl 4 rfl) ?_
    refine lv_if_le (tgt := 87) hx hb dX10_findRests_11 (by decide) (fun hc => ?_) (fun hc => ?_)
    · replace hf := it_t hc hf
      exact hk c_t_restOf _ _ _ hf (lv_sub hl [] rfl) hw
    · replace hf := it_f hc hf
      refine lv_iconst (v := 0) hx hb dX10_findRests_14 (by decide) ?_
      refine lv_istore (lv' := [(5, .int 0), (0, .ref A_t), (1, .int x1), (2, .int x2), (3, .int x3), (4, .int x4)]) hx hb dX10_findRests_15 hl (by decide) rfl (fun ls hl => ?_)
      refine wn_X10_findRests_l17 hC hret (fun v8 H locs ls hf hl hw => ?_) fu_ 0 c_t_restOf _ _ _ hf (lv_sub hl [1, 2, 3, 4, 5, 0] rfl) hw
      refine lv_iinc (v := x4 + (-1)) (lv' := [(4, .int (x4 + (-1))), (0, .ref A_t), (1, .int x1), (2, .int x2), (3, .int x3)]) hx hb dX10_findRests_81 hl (k := 4) rfl rfl (by decide) rfl (fun ls hl => ?_)
      refine lv_goto (tgt := 9) hx hb dX10_findRests_84 (by decide) ?_
      exact hrc (x4 + (-1)) v8 _ _ _ hf (lv_sub hl [1, 2, 3, 4, 0] rfl) hw
set_option maxHeartbeats 4000000 in
set_option maxRecDepth 100000 in
theorem wn_X10_findRests {p : Program} {l : Launch} {e : Env} {s : State} {m : MethodId} {args : Array Value} {below : List Frame} {meth : Method} {c : Code} {G : gw_} {A : Nat → Prop} {Q : State → Prop} {A_t : Nat} {A_t_steps : Nat} {A_t_wet : Nat} {A_t_where : Nat} {A_t_home : Nat} {A_t_light : Nat} {A_t_carries : Nat} {A_t_sightPlace : Nat} {A_t_sightLight : Nat} {A_t_pad : Nat} {A_t_act : Nat} {A_t_whose : Nat} {A_t_whom : Nat} {A_t_tens : Nat} {A_t_had : Nat} {A_t_leaves : Nat} {A_t_apart : Nat} {A_t_stop : Nat} {A_t_restOf : Nat} {A_t_group : Nat} {A_t_along : Nat} {A_t_kept : Nat} {A_t_isKept : Nat} {c_t_foggy : Int32} {c_t_walkers : Int32} {c_t_sights : Int32} {c_t_padMany : Int32} {c_t_acts : Int32} {c_t_spent : Int32} {c_t_walks : Int32} {c_t_badAct : Int32} {c_t_badWhy : Int32} {c_t_keptAt : Int32} {c_t_isWriting : Int32} {c_t_apart : Nat → Int32} {c_t_stop : Nat → Int32} {c_t_restOf : Nat → Int32} {z_t_restOf : Nat → Int32} {x1 : Int32} {x2 : Int32} (hC : cx_ p s m c G cX10_findRests 6 RX10) (hret : ∀ (pc : Nat) (H : Heap) (locs : List Loc) (ls : Array Slot), decode cX10_findRests pc = .ok (.return_, 1) → wd_ G A s.heap (wl_X10_findRests G A_t A_t_steps A_t_wet A_t_where A_t_home A_t_light A_t_carries A_t_sightPlace A_t_sightLight A_t_pad A_t_act A_t_whose A_t_whom A_t_tens A_t_had A_t_leaves A_t_apart A_t_stop A_t_restOf A_t_group A_t_along A_t_kept A_t_isKept c_t_foggy c_t_walkers c_t_sights c_t_padMany c_t_acts c_t_spent c_t_walks c_t_badAct c_t_badWhy c_t_keptAt c_t_isWriting c_t_apart c_t_stop z_t_restOf) H locs → W p l e { frames := 2, cells := 0, slots := 0, locals := 47 } s m args below meth c H locs 0 0 Q (F0 m pc ls [])) (hf : fn_X10_findRests c_t_apart c_t_stop c_t_restOf x1 x2 = some z_t_restOf) {H : Heap} {locs : List Loc} {ls : Array Slot} (hl : lv_has ls 6 [(0, .ref A_t), (1, .int x1), (2, .int x2)]) (hw : wd_ G A s.heap (wl_X10_findRests G A_t A_t_steps A_t_wet A_t_where A_t_home A_t_light A_t_carries A_t_sightPlace A_t_sightLight A_t_pad A_t_act A_t_whose A_t_whom A_t_tens A_t_had A_t_leaves A_t_apart A_t_stop A_t_restOf A_t_group A_t_along A_t_kept A_t_isKept c_t_foggy c_t_walkers c_t_sights c_t_padMany c_t_acts c_t_spent c_t_walks c_t_badAct c_t_badWhy c_t_keptAt c_t_isWriting c_t_apart c_t_stop c_t_restOf) H locs) : W p l e { frames := 2, cells := 0, slots := 0, locals := 47 } s m args below meth c H locs 0 0 Q (F0 m 0 ls []) := by
  have hx := hC.1
  have hb := hC.2.1
  unfold fn_X10_findRests at hf
  refine lv_iconst (v := 1) hx hb dX10_findRests_0 (by decide) ?_
  refine lv_iload_n hx hb dX10_findRests_1 rfl (lv_at hl 2 rfl) ?_
  refine lv_ishl hx hb dX10_findRests_2 ?_
  refine lv_iconst (v := 1) hx hb dX10_findRests_3 (by decide) ?_
  refine lv_isub hx hb dX10_findRests_4 ?_
  obtain ⟨y1, ey1, hf⟩ := lx_s hf
  rw [← ey1]
  refine lv_istore_n (lv' := [(3, .int y1), (0, .ref A_t), (1, .int x1), (2, .int x2)]) hx hb dX10_findRests_5 rfl hl (by decide) rfl (fun ls hl => ?_)
  refine lv_iload_n hx hb dX10_findRests_6 rfl (lv_at hl 0 rfl) ?_
  refine lv_istore (lv' := [(4, .int y1), (3, .int y1), (0, .ref A_t), (1, .int x1), (2, .int x2)]) hx hb dX10_findRests_7 hl (by decide) rfl (fun ls hl => ?_)
  refine wn_X10_findRests_l9 hC hret (fun v9 H locs ls hf hl hw => ?_) fu_ y1 c_t_restOf _ _ _ hf (lv_sub hl [2, 3, 4, 1, 0] rfl) hw
  have h1_ := t1_ hf
  subst h1_
  exact hret _ _ _ _ dX10_findRests_87 hw
set_option maxHeartbeats 4000000 in
set_option maxRecDepth 100000 in
theorem cn_X10_findRests (l : Launch) (G : gw_) (A_t : Nat) (A_t_steps : Nat) (A_t_wet : Nat) (A_t_where : Nat) (A_t_home : Nat) (A_t_light : Nat) (A_t_carries : Nat) (A_t_sightPlace : Nat) (A_t_sightLight : Nat) (A_t_pad : Nat) (A_t_act : Nat) (A_t_whose : Nat) (A_t_whom : Nat) (A_t_tens : Nat) (A_t_had : Nat) (A_t_leaves : Nat) (A_t_apart : Nat) (A_t_stop : Nat) (A_t_restOf : Nat) (A_t_group : Nat) (A_t_along : Nat) (A_t_kept : Nat) (A_t_isKept : Nat) (c_t_foggy : Int32) (c_t_walkers : Int32) (c_t_sights : Int32) (c_t_padMany : Int32) (c_t_acts : Int32) (c_t_spent : Int32) (c_t_walks : Int32) (c_t_badAct : Int32) (c_t_badWhy : Int32) (c_t_keptAt : Int32) (c_t_isWriting : Int32) (c_t_apart : Nat → Int32) (c_t_stop : Nat → Int32) (c_t_restOf : Nat → Int32) (x1 : Int32) (x2 : Int32) (z_t_restOf : Nat → Int32) (hf : fn_X10_findRests c_t_apart c_t_stop c_t_restOf x1 x2 = some z_t_restOf) : cv_ l G yX10_findRests cX10_findRests 6 none 2 47 (wl_X10_findRests G A_t A_t_steps A_t_wet A_t_where A_t_home A_t_light A_t_carries A_t_sightPlace A_t_sightLight A_t_pad A_t_act A_t_whose A_t_whom A_t_tens A_t_had A_t_leaves A_t_apart A_t_stop A_t_restOf A_t_group A_t_along A_t_kept A_t_isKept c_t_foggy c_t_walkers c_t_sights c_t_padMany c_t_acts c_t_spent c_t_walks c_t_badAct c_t_badWhy c_t_keptAt c_t_isWriting c_t_apart c_t_stop c_t_restOf) [.ref A_t, .int x1, .int x2] (wl_X10_findRests G A_t A_t_steps A_t_wet A_t_where A_t_home A_t_light A_t_carries A_t_sightPlace A_t_sightLight A_t_pad A_t_act A_t_whose A_t_whom A_t_tens A_t_had A_t_leaves A_t_apart A_t_stop A_t_restOf A_t_group A_t_along A_t_kept A_t_isKept c_t_foggy c_t_walkers c_t_sights c_t_padMany c_t_acts c_t_spent c_t_walks c_t_badAct c_t_badWhy c_t_keptAt c_t_isWriting c_t_apart c_t_stop z_t_restOf) := fun sz => met_intro (by decide) (Nat.le_of_ble_eq_true rfl) (fun p e s m args below meth c ls hsz hC hr hlk hnm hl hw => wn_X10_findRests hC (fun pc H locs ls hd hw => g_vret hC hr hlk hw hd) hf hl hw)
