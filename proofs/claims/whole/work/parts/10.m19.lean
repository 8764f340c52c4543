theorem dX10_round_0 : decode cX10_round 0 = .ok (.iload_n 1, 1) := by decide +kernel
theorem dX10_round_1 : decode cX10_round 1 = .ok (.invokestatic 100, 3) := by decide +kernel
theorem dX10_round_4 : decode cX10_round 4 = .ok (.ifCond .eq 15, 3) := by decide +kernel
theorem dX10_round_7 : decode cX10_round 7 = .ok (.iload_n 2, 1) := by decide +kernel
theorem dX10_round_8 : decode cX10_round 8 = .ok (.i2l, 1) := by decide +kernel
theorem dX10_round_9 : decode cX10_round 9 = .ok (.lconst 0, 1) := by decide +kernel
theorem dX10_round_10 : decode cX10_round 10 = .ok (.ldc2_w 231, 3) := by decide +kernel
theorem dX10_round_13 : decode cX10_round 13 = .ok (.invokestatic 79, 3) := by decide +kernel
theorem dX10_round_16 : decode cX10_round 16 = .ok (.ifCond .ne 5, 3) := by decide +kernel
theorem dX10_round_19 : decode cX10_round 19 = .ok (.iconst (-1), 1) := by decide +kernel
theorem dX10_round_20 : decode cX10_round 20 = .ok (.ireturn, 1) := by decide +kernel
theorem dX10_round_21 : decode cX10_round 21 = .ok (.iload_n 3, 1) := by decide +kernel
theorem dX10_round_22 : decode cX10_round 22 = .ok (.i2l, 1) := by decide +kernel
theorem dX10_round_23 : decode cX10_round 23 = .ok (.lconst 0, 1) := by decide +kernel
theorem dX10_round_24 : decode cX10_round 24 = .ok (.lconst 1, 1) := by decide +kernel
theorem dX10_round_25 : decode cX10_round 25 = .ok (.invokestatic 79, 3) := by decide +kernel
theorem dX10_round_28 : decode cX10_round 28 = .ok (.ifCond .ne 6, 3) := by decide +kernel
theorem dX10_round_31 : decode cX10_round 31 = .ok (.bipush (-2), 2) := by decide +kernel
theorem dX10_round_33 : decode cX10_round 33 = .ok (.ireturn, 1) := by decide +kernel
theorem dX10_round_34 : decode cX10_round 34 = .ok (.iload_n 2, 1) := by decide +kernel
theorem dX10_round_35 : decode cX10_round 35 = .ok (.invokestatic 115, 3) := by decide +kernel
theorem dX10_round_38 : decode cX10_round 38 = .ok (.bipush 6, 2) := by decide +kernel
theorem dX10_round_40 : decode cX10_round 40 = .ok (.if_icmp .le 6, 3) := by decide +kernel
theorem dX10_round_43 : decode cX10_round 43 = .ok (.bipush (-4), 2) := by decide +kernel
theorem dX10_round_45 : decode cX10_round 45 = .ok (.ireturn, 1) := by decide +kernel
theorem dX10_round_46 : decode cX10_round 46 = .ok (.aload_n 0, 1) := by decide +kernel
theorem dX10_round_47 : decode cX10_round 47 = .ok (.invokevirtual 219, 3) := by decide +kernel
theorem dX10_round_50 : decode cX10_round 50 = .ok (.aload_n 0, 1) := by decide +kernel
theorem dX10_round_51 : decode cX10_round 51 = .ok (.iload_n 2, 1) := by decide +kernel
theorem dX10_round_52 : decode cX10_round 52 = .ok (.invokevirtual 233, 3) := by decide +kernel
theorem dX10_round_55 : decode cX10_round 55 = .ok (.istore 4, 2) := by decide +kernel
theorem dX10_round_57 : decode cX10_round 57 = .ok (.aload_n 0, 1) := by decide +kernel
theorem dX10_round_58 : decode cX10_round 58 = .ok (.iload_n 1, 1) := by decide +kernel
theorem dX10_round_59 : decode cX10_round 59 = .ok (.iload 4, 2) := by decide +kernel
theorem dX10_round_61 : decode cX10_round 61 = .ok (.invokevirtual 236, 3) := by decide +kernel
theorem dX10_round_64 : decode cX10_round 64 = .ok (.iload 4, 2) := by decide +kernel
theorem dX10_round_66 : decode cX10_round 66 = .ok (.ifCond .ne 14, 3) := by decide +kernel
theorem dX10_round_69 : decode cX10_round 69 = .ok (.iload_n 3, 1) := by decide +kernel
theorem dX10_round_70 : decode cX10_round 70 = .ok (.ifCond .ne 7, 3) := by decide +kernel
theorem dX10_round_73 : decode cX10_round 73 = .ok (.iconst 0, 1) := by decide +kernel
theorem dX10_round_74 : decode cX10_round 74 = .ok (.goto 5, 3) := by decide +kernel
theorem dX10_round_77 : decode cX10_round 77 = .ok (.bipush (-6), 2) := by decide +kernel
theorem dX10_round_79 : decode cX10_round 79 = .ok (.ireturn, 1) := by decide +kernel
theorem dX10_round_80 : decode cX10_round 80 = .ok (.aload_n 0, 1) := by decide +kernel
theorem dX10_round_81 : decode cX10_round 81 = .ok (.iload_n 1, 1) := by decide +kernel
theorem dX10_round_82 : decode cX10_round 82 = .ok (.iconst 0, 1) := by decide +kernel
theorem dX10_round_83 : decode cX10_round 83 = .ok (.iload 4, 2) := by decide +kernel
theorem dX10_round_85 : decode cX10_round 85 = .ok (.invokevirtual 228, 3) := by decide +kernel
theorem dX10_round_88 : decode cX10_round 88 = .ok (.istore 5, 2) := by decide +kernel
theorem dX10_round_90 : decode cX10_round 90 = .ok (.iload 5, 2) := by decide +kernel
theorem dX10_round_92 : decode cX10_round 92 = .ok (.ldc 214, 2) := by decide +kernel
theorem dX10_round_94 : decode cX10_round 94 = .ok (.if_icmp .ge 7, 3) := by decide +kernel
theorem dX10_round_97 : decode cX10_round 97 = .ok (.iload_n 3, 1) := by decide +kernel
theorem dX10_round_98 : decode cX10_round 98 = .ok (.ifCond .ne 18, 3) := by decide +kernel
theorem dX10_round_101 : decode cX10_round 101 = .ok (.iload 5, 2) := by decide +kernel
theorem dX10_round_103 : decode cX10_round 103 = .ok (.ldc 214, 2) := by decide +kernel
theorem dX10_round_105 : decode cX10_round 105 = .ok (.if_icmp .lt 8, 3) := by decide +kernel
theorem dX10_round_108 : decode cX10_round 108 = .ok (.bipush (-6), 2) := by decide +kernel
theorem dX10_round_110 : decode cX10_round 110 = .ok (.goto 5, 3) := by decide +kernel
theorem dX10_round_113 : decode cX10_round 113 = .ok (.iload 5, 2) := by decide +kernel
theorem dX10_round_115 : decode cX10_round 115 = .ok (.ireturn, 1) := by decide +kernel
theorem dX10_round_116 : decode cX10_round 116 = .ok (.bipush (-6), 2) := by decide +kernel
theorem dX10_round_118 : decode cX10_round 118 = .ok (.istore 6, 2) := by decide +kernel
theorem dX10_round_120 : decode cX10_round 120 = .ok (.iload 4, 2) := by decide +kernel
theorem dX10_round_122 : decode cX10_round 122 = .ok (.iconst 1, 1) := by decide +kernel
theorem dX10_round_123 : decode cX10_round 123 = .ok (.isub, 1) := by decide +kernel
theorem dX10_round_124 : decode cX10_round 124 = .ok (.istore 7, 2) := by decide +kernel
theorem dX10_round_126 : decode cX10_round 126 = .ok (.iload 7, 2) := by decide +kernel
theorem dX10_round_128 : decode cX10_round 128 = .ok (.ifCond .lt 60, 3) := by decide +kernel
theorem dX10_round_131 : decode cX10_round 131 = .ok (.aload_n 0, 1) := by decide +kernel
theorem dX10_round_132 : decode cX10_round 132 = .ok (.getfield 55, 3) := by decide +kernel
theorem dX10_round_135 : decode cX10_round 135 = .ok (.iload_n 1, 1) := by decide +kernel
theorem dX10_round_136 : decode cX10_round 136 = .ok (.aload_n 0, 1) := by decide +kernel
theorem dX10_round_137 : decode cX10_round 137 = .ok (.getfield 58, 3) := by decide +kernel
theorem dX10_round_140 : decode cX10_round 140 = .ok (.iload 7, 2) := by decide +kernel
theorem dX10_round_142 : decode cX10_round 142 = .ok (.iaload, 1) := by decide +kernel
theorem dX10_round_143 : decode cX10_round 143 = .ok (.invokestatic 89, 3) := by decide +kernel
theorem dX10_round_146 : decode cX10_round 146 = .ok (.iaload, 1) := by decide +kernel
theorem dX10_round_147 : decode cX10_round 147 = .ok (.aload_n 0, 1) := by decide +kernel
theorem dX10_round_148 : decode cX10_round 148 = .ok (.getfield 61, 3) := by decide +kernel
theorem dX10_round_151 : decode cX10_round 151 = .ok (.bipush 6, 2) := by decide +kernel
theorem dX10_round_153 : decode cX10_round 153 = .ok (.iconst 1, 1) := by decide +kernel
theorem dX10_round_154 : decode cX10_round 154 = .ok (.iload 7, 2) := by decide +kernel
theorem dX10_round_156 : decode cX10_round 156 = .ok (.ishl, 1) := by decide +kernel
theorem dX10_round_157 : decode cX10_round 157 = .ok (.imul, 1) := by decide +kernel
theorem dX10_round_158 : decode cX10_round 158 = .ok (.iload 7, 2) := by decide +kernel
theorem dX10_round_160 : decode cX10_round 160 = .ok (.iadd, 1) := by decide +kernel
theorem dX10_round_161 : decode cX10_round 161 = .ok (.iaload, 1) := by decide +kernel
theorem dX10_round_162 : decode cX10_round 162 = .ok (.iadd, 1) := by decide +kernel
theorem dX10_round_163 : decode cX10_round 163 = .ok (.iload 5, 2) := by decide +kernel
theorem dX10_round_165 : decode cX10_round 165 = .ok (.if_icmp .ne 13, 3) := by decide +kernel
theorem dX10_round_168 : decode cX10_round 168 = .ok (.aload_n 0, 1) := by decide +kernel
theorem dX10_round_169 : decode cX10_round 169 = .ok (.getfield 58, 3) := by decide +kernel
theorem dX10_round_172 : decode cX10_round 172 = .ok (.iload 7, 2) := by decide +kernel
theorem dX10_round_174 : decode cX10_round 174 = .ok (.iaload, 1) := by decide +kernel
theorem dX10_round_175 : decode cX10_round 175 = .ok (.goto 5, 3) := by decide +kernel
theorem dX10_round_178 : decode cX10_round 178 = .ok (.iload 6, 2) := by decide +kernel
theorem dX10_round_180 : decode cX10_round 180 = .ok (.istore 6, 2) := by decide +kernel
theorem dX10_round_182 : decode cX10_round 182 = .ok (.iinc 7 (-1), 3) := by decide +kernel
theorem dX10_round_185 : decode cX10_round 185 = .ok (.goto (-59), 3) := by decide +kernel
theorem dX10_round_188 : decode cX10_round 188 = .ok (.iload 6, 2) := by decide +kernel
theorem dX10_round_190 : decode cX10_round 190 = .ok (.ireturn, 1) := by decide +kernel
abbrev wl_X10_round (G : gw_) (A_t : Nat) (A_t_steps : Nat) (A_t_wet : Nat) (A_t_where : Nat) (A_t_home : Nat) (A_t_light : Nat) (A_t_carries : Nat) (A_t_sightPlace : Nat) (A_t_sightLight : Nat) (A_t_pad : Nat) (A_t_act : Nat) (A_t_whose : Nat) (A_t_whom : Nat) (A_t_tens : Nat) (A_t_had : Nat) (A_t_leaves : Nat) (A_t_apart : Nat) (A_t_stop : Nat) (A_t_restOf : Nat) (A_t_group : Nat) (A_t_along : Nat) (A_t_kept : Nat) (A_t_isKept : Nat) (c_t_foggy : Int32) (c_t_walkers : Int32) (c_t_sights : Int32) (c_t_padMany : Int32) (c_t_acts : Int32) (c_t_spent : Int32) (c_t_walks : Int32) (c_t_badAct : Int32) (c_t_badWhy : Int32) (c_t_keptAt : Int32) (c_t_isWriting : Int32) (c_t_steps : Nat → Int32) (c_t_wet : Nat → Int32) (c_t_apart : Nat → Int32) (c_t_stop : Nat → Int32) (c_t_restOf : Nat → Int32) : va_W := [ob_ A_t 10 [.ref A_t_steps, .ref A_t_wet, .int c_t_foggy, .int c_t_walkers, .ref A_t_where, .ref A_t_home, .ref A_t_light, .ref A_t_carries, .ref A_t_sightPlace, .ref A_t_sightLight, .int c_t_sights, .ref A_t_pad, .int c_t_padMany, .ref A_t_act, .ref A_t_whose, .ref A_t_whom, .ref A_t_tens, .int c_t_acts, .int c_t_spent, .int c_t_walks, .ref A_t_had, .ref A_t_leaves, .int c_t_badAct, .int c_t_badWhy, .ref A_t_apart, .ref A_t_stop, .ref A_t_restOf, .ref A_t_group, .ref A_t_along, .ref A_t_kept, .ref A_t_isKept, .int c_t_keptAt, .int c_t_isWriting], ia_ G A_t_steps 144 c_t_steps, ia_ G A_t_wet 144 c_t_wet, ia_ G A_t_apart 144 c_t_apart, ia_ G A_t_stop 6 c_t_stop, ia_ G A_t_restOf 384 c_t_restOf]
def fn_X10_round_j101 (c_t_apart : Nat → Int32) (c_t_stop : Nat → Int32) (c_t_restOf : Nat → Int32) (x5 : Int32)  : Option (Int32 × (Nat → Int32) × (Nat → Int32) × (Nat → Int32)) :=
  if x5 < 1000000 then
    some (x5, c_t_apart, c_t_stop, c_t_restOf)
  else
    some ((-6), c_t_apart, c_t_stop, c_t_restOf)
def fn_X10_round_b126 (c_t_apart : Nat → Int32) (c_t_stop : Nat → Int32) (c_t_restOf : Nat → Int32) (x1 : Int32) (x5 : Int32) (rc : Int32 → Int32 → Option (Int32 × (Nat → Int32) × (Nat → Int32) × (Nat → Int32))) (k : Int32 → Option (Int32 × (Nat → Int32) × (Nat → Int32) × (Nat → Int32))) (x6 : Int32) (x7 : Int32) : Option (Int32 × (Nat → Int32) × (Nat → Int32) × (Nat → Int32)) :=
  if x7 < 0 then
    k x6
  else
    ck_ x7 6 <|
    b1_ (fn_X10_at x1 (c_t_stop (Int32.toNatClampNeg x7))) fun r18 =>
    ck_ r18 144 <|
    ck_ ((6 * ((1 : Int32) <<< (x7 &&& 31))) + x7) 384 <|
    if ((c_t_apart (Int32.toNatClampNeg r18)) + (c_t_restOf (Int32.toNatClampNeg ((6 * ((1 : Int32) <<< (x7 &&& 31))) + x7)))) = x5 then
      ck_ x7 6 <|
      lx_ (c_t_stop (Int32.toNatClampNeg x7)) fun y20 =>
      rc y20 (x7 + (-1))
    else
      rc x6 (x7 + (-1))
def fn_X10_round_l126 (c_t_apart : Nat → Int32) (c_t_stop : Nat → Int32) (c_t_restOf : Nat → Int32) (x1 : Int32) (x5 : Int32) (k : Int32 → Option (Int32 × (Nat → Int32) × (Nat → Int32) × (Nat → Int32))) : Nat → Int32 → Int32 → Option (Int32 × (Nat → Int32) × (Nat → Int32) × (Nat → Int32))
  | 0 => fun _ _ => none
  | n + 1 => fun x6 x7 => fn_X10_round_b126 c_t_apart c_t_stop c_t_restOf x1 x5 (fn_X10_round_l126 c_t_apart c_t_stop c_t_restOf x1 x5 k n) k x6 x7
def fn_X10_round (c_t_foggy : Int32) (c_t_steps : Nat → Int32) (c_t_wet : Nat → Int32) (c_t_apart : Nat → Int32) (c_t_stop : Nat → Int32) (c_t_restOf : Nat → Int32) (x1 : Int32) (x2 : Int32) (x3 : Int32) : Option (Int32 × (Nat → Int32) × (Nat → Int32) × (Nat → Int32)) :=
  b1_ (fn_X10_isPlace x1) fun r1 =>
  if r1 = 0 then
    some ((-1), c_t_apart, c_t_stop, c_t_restOf)
  else
    b1_ (fn_X10_in (Int32.toInt64 x2) 0 4095) fun r3 =>
    if r3 = 0 then
      some ((-1), c_t_apart, c_t_stop, c_t_restOf)
    else
      b1_ (fn_X10_in (Int32.toInt64 x3) 0 1) fun r5 =>
      if r5 = 0 then
        some ((-2), c_t_apart, c_t_stop, c_t_restOf)
      else
        b1_ (fn_X10_ones x2) fun r7 =>
        if r7 ≤ 6 then
          b1_ (fn_X10_findWays c_t_foggy c_t_steps c_t_wet c_t_apart) fun w9 =>
          b2_ (fn_X10_layStops c_t_stop x2) fun r11 w12 =>
          b1_ (fn_X10_findRests w9 w12 c_t_restOf x1 r11) fun w14 =>
          if r11 = 0 then
            if x3 = 0 then
              some (0, w9, w12, w14)
            else
              some ((-6), w9, w12, w14)
          else
            b1_ (fn_X10_bestStep w9 w12 w14 x1 0 r11) fun r16 =>
            if 1000000 ≤ r16 then
              fn_X10_round_j101 w9 w12 w14 r16
            else
              if x3 = 0 then
                fn_X10_round_j101 w9 w12 w14 r16
              else
                fn_X10_round_l126 w9 w12 w14 x1 r16 (fun v21 =>
                  some (v21, w9, w12, w14)) fu_ (-6) (r11 - 1)
        else
          some ((-4), c_t_apart, c_t_stop, c_t_restOf)
set_option maxHeartbeats 4000000 in
set_option maxRecDepth 100000 in
theorem wn_X10_round_j101 {p : Program} {l : Launch} {e : Env} {s : State} {m : MethodId} {args : Array Value} {below : List Frame} {meth : Method} {c : Code} {G : gw_} {A : Nat → Prop} {Q : State → Prop} {A_t : Nat} {A_t_steps : Nat} {A_t_wet : Nat} {A_t_where : Nat} {A_t_home : Nat} {A_t_light : Nat} {A_t_carries : Nat} {A_t_sightPlace : Nat} {A_t_sightLight : Nat} {A_t_pad : Nat} {A_t_act : Nat} {A_t_whose : Nat} {A_t_whom : Nat} {A_t_tens : Nat} {A_t_had : Nat} {A_t_leaves : Nat} {A_t_apart : Nat} {A_t_stop : Nat} {A_t_restOf : Nat} {A_t_group : Nat} {A_t_along : Nat} {A_t_kept : Nat} {A_t_isKept : Nat} {c_t_foggy : Int32} {c_t_walkers : Int32} {c_t_sights : Int32} {c_t_padMany : Int32} {c_t_acts : Int32} {c_t_spent : Int32} {c_t_walks : Int32} {c_t_badAct : Int32} {c_t_badWhy : Int32} {c_t_keptAt : Int32} {c_t_isWriting : Int32} {c_t_steps : Nat → Int32} {c_t_wet : Nat → Int32} {c_t_apart : Nat → Int32} {z_t_apart : Nat → Int32} {c_t_stop : Nat → Int32} {z_t_stop : Nat → Int32} {c_t_restOf : Nat → Int32} {z_t_restOf : Nat → Int32} {r : Int32} {x5 : Int32} (hC : cx_ p s m c G cX10_round 8 RX10) (hret : ∀ (pc : Nat) (H : Heap) (locs : List Loc) (ls : Array Slot), decode cX10_round pc = .ok (.ireturn, 1) → wd_ G A s.heap (wl_X10_round G A_t A_t_steps A_t_wet A_t_where A_t_home A_t_light A_t_carries A_t_sightPlace A_t_sightLight A_t_pad A_t_act A_t_whose A_t_whom A_t_tens A_t_had A_t_leaves A_t_apart A_t_stop A_t_restOf A_t_group A_t_along A_t_kept A_t_isKept c_t_foggy c_t_walkers c_t_sights c_t_padMany c_t_acts c_t_spent c_t_walks c_t_badAct c_t_badWhy c_t_keptAt c_t_isWriting c_t_steps c_t_wet z_t_apart z_t_stop z_t_restOf) H locs → W p l e { frames := 4, cells := 0, slots := 0, locals := 91 } s m args below meth c H locs 0 0 Q (F0 m pc ls [.int r]))  (hf : fn_X10_round_j101 c_t_apart c_t_stop c_t_restOf x5 = some (r, z_t_apart, z_t_stop, z_t_restOf)) {H : Heap} {locs : List Loc} {ls : Array Slot} (hl : lv_has ls 8 [(5, .int x5)]) (hw : wd_ G A s.heap (wl_X10_round G A_t A_t_steps A_t_wet A_t_where A_t_home A_t_light A_t_carries A_t_sightPlace A_t_sightLight A_t_pad A_t_act A_t_whose A_t_whom A_t_tens A_t_had A_t_leaves A_t_apart A_t_stop A_t_restOf A_t_group A_t_along A_t_kept A_t_isKept c_t_foggy c_t_walkers c_t_sights c_t_padMany c_t_acts c_t_spent c_t_walks c_t_badAct c_t_badWhy c_t_keptAt c_t_isWriting c_t_steps c_t_wet c_t_apart c_t_stop c_t_restOf) H locs) : W p l e { frames := 4, cells := 0, slots := 0, locals := 91 } s m args below meth c H locs 0 0 Q (F0 m 101 ls []) := by
  have hx := hC.1
  have hb := hC.2.1
  unfold fn_X10_round_j101 at hf
  refine lv_iload hx hb dX10_round_101 (lv_at hl 0 rfl) ?_
  refine g_ldc (v := 1000000) hC (tb5 17 rfl rfl) dX10_round_103 ?_
  refine lv_icmp_lt (tgt := 113) hx hb dX10_round_105 (by decide) (fun hc => ?_) (fun hc => ?_)
  · replace hf := it_t hc hf
    refine lv_iload hx hb dX10_round_113 (lv_at hl 0 rfl) ?_
    obtain ⟨h1_, h2_, h3_, h4_⟩ := t4_ hf
    subst h1_
    subst h2_
    subst h3_
    subst h4_
    exact hret _ _ _ _ dX10_round_115 hw
  · replace hf := it_f hc hf
    refine lv_bipush (v := (-6)) hx hb dX10_round_108 (by decide) ?_
    refine lv_goto (tgt := 115) hx hb dX10_round_110 (by decide) ?_
    obtain ⟨h1_, h2_, h3_, h4_⟩ := t4_ hf
    subst h1_
    subst h2_
    subst h3_
    subst h4_
    exact hret _ _ _ _ dX10_round_115 hw
set_option maxHeartbeats 4000000 in
set_option maxRecDepth 100000 in
theorem wn_X10_round_l126 {p : Program} {l : Launch} {e : Env} {s : State} {m : MethodId} {args : Array Value} {below : List Frame} {meth : Method} {c : Code} {G : gw_} {A : Nat → Prop} {Q : State → Prop} {A_t : Nat} {A_t_steps : Nat} {A_t_wet : Nat} {A_t_where : Nat} {A_t_home : Nat} {A_t_light : Nat} {A_t_carries : Nat} {A_t_sightPlace : Nat} {A_t_sightLight : Nat} {A_t_pad : Nat} {A_t_act : Nat} {A_t_whose : Nat} {A_t_whom : Nat} {A_t_tens : Nat} {A_t_had : Nat} {A_t_leaves : Nat} {A_t_apart : Nat} {A_t_stop : Nat} {A_t_restOf : Nat} {A_t_group : Nat} {A_t_along : Nat} {A_t_kept : Nat} {A_t_isKept : Nat} {c_t_foggy : Int32} {c_t_walkers : Int32} {c_t_sights : Int32} {c_t_padMany : Int32} {c_t_acts : Int32} {c_t_spent : Int32} {c_t_walks : Int32} {c_t_badAct : Int32} {c_t_badWhy : Int32} {c_t_keptAt : Int32} {c_t_isWriting : Int32} {c_t_steps : Nat → Int32} {c_t_wet : Nat → Int32} {c_t_apart : Nat → Int32} {z_t_apart : Nat → Int32} {c_t_stop : Nat → Int32} {z_t_stop : Nat → Int32} {c_t_restOf : Nat → Int32} {z_t_restOf : Nat → Int32} {r : Int32} {x1 : Int32} {x5 : Int32} {k : Int32 → Option (Int32 × (Nat → Int32) × (Nat → Int32) × (Nat → Int32))} (hC : cx_ p s m c G cX10_round 8 RX10) (hret : ∀ (pc : Nat) (H : Heap) (locs : List Loc) (ls : Array Slot), decode cX10_round pc = .ok (.ireturn, 1) → wd_ G A s.heap (wl_X10_round G A_t A_t_steps A_t_wet A_t_where A_t_home A_t_light A_t_carries A_t_sightPlace A_t_sightLight A_t_pad A_t_act A_t_whose A_t_whom A_t_tens A_t_had A_t_leaves A_t_apart A_t_stop A_t_restOf A_t_group A_t_along A_t_kept A_t_isKept c_t_foggy c_t_walkers c_t_sights c_t_padMany c_t_acts c_t_spent c_t_walks c_t_badAct c_t_badWhy c_t_keptAt c_t_isWriting c_t_steps c_t_wet z_t_apart z_t_stop z_t_restOf) H locs → W p l e { frames := 4, cells := 0, slots := 0, locals := 91 } s m args below meth c H locs 0 0 Q (F0 m pc ls [.int r])) (hk : ∀ (x6 : Int32) (H : Heap) (locs : List Loc) (ls : Array Slot), k x6 = some (r, z_t_apart, z_t_stop, z_t_restOf) → lv_has ls 8 [(6, .int x6)] → wd_ G A s.heap (wl_X10_round G A_t A_t_steps A_t_wet A_t_where A_t_home A_t_light A_t_carries A_t_sightPlace A_t_sightLight A_t_pad A_t_act A_t_whose A_t_whom A_t_tens A_t_had A_t_leaves A_t_apart A_t_stop A_t_restOf A_t_group A_t_along A_t_kept A_t_isKept c_t_foggy c_t_walkers c_t_sights c_t_padMany c_t_acts c_t_spent c_t_walks c_t_badAct c_t_badWhy c_t_keptAt c_t_isWriting c_t_steps c_t_wet c_t_apart c_t_stop c_t_restOf) H locs → W p l e { frames := 4, cells := 0, slots := 0, locals := 91 } s m args below meth c H locs 0 0 Q (F0 m 188 ls [])) : ∀ (n : Nat) (x6 : Int32) (x7 : Int32) (H : Heap) (locs : List Loc) (ls : Array Slot), fn_X10_round_l126 c_t_apart c_t_stop c_t_restOf x1 x5 k n x6 x7 = some (r, z_t_apart, z_t_stop, z_t_restOf) → lv_has ls 8 [(0, .ref A_t), (1, .int x1), (5, .int x5), (6, .int x6), (7, .int x7)] → wd_ G A s.heap (wl_X10_round G A_t A_t_steps A_t_wet A_t_where A_t_home A_t_light A_t_carries A_t_sightPlace A_t_sightLight A_t_pad A_t_act A_t_whose A_t_whom A_t_tens A_t_had A_t_leaves A_t_apart A_t_stop A_t_restOf A_t_group A_t_along A_t_kept A_t_isKept c_t_foggy c_t_walkers c_t_sights c_t_padMany c_t_acts c_t_spent c_t_walks c_t_badAct c_t_badWhy c_t_keptAt c_t_isWriting c_t_steps c_t_wet c_t_apart c_t_stop c_t_restOf) H locs → W p l e { frames := 4, cells := 0, slots := 0, locals := 91 } s m args below meth c H locs 0 0 Q (F0 m 126 ls []) := by
  have hx := hC.1
  have hb := hC.2.1
  intro n
  induction n with
  | zero =>
    intro x6 x7 H locs ls hf
    cases (show (none : Option (Int32 × (Nat → Int32) × (Nat → Int32) × (Nat → Int32))) = some _ from hf)
  | succ n hrc =>
    intro x6 x7 H locs ls hf hl hw
    replace hf : fn_X10_round_b126 c_t_apart c_t_stop c_t_restOf x1 x5 (fn_X10_round_l126 c_t_apart c_t_stop c_t_restOf x1 x5 k n) k x6 x7 = some (r, z_t_apart, z_t_stop, z_t_restOf) := hf
    unfold fn_X10_round_b126 at hf
    refine lv_iload hx hb dX10_round_126 (lv_at hl 4 rfl) ?_
    refine lv_if_lt (tgt := 188) hx hb dX10_round_128 (by decide) (fun hc => ?_) (fun hc => ?_)
    · replace hf := it_t hc hf
      exact hk x6 _ _ _ hf (lv_sub hl [3] rfl) hw
    · replace hf := it_f hc hf
      refine lv_aload_n hx hb dX10_round_131 rfl (lv_at hl 0 rfl) ?_
      refine g_get hC hw fkX10_55 0 rfl rfl dX10_round_132 ?_
      refine lv_iload_n hx hb dX10_round_135 rfl (lv_at hl 1 rfl) ?_
      refine lv_aload_n hx hb dX10_round_136 rfl (lv_at hl 0 rfl) ?_
      refine g_get hC hw fkX10_58 0 rfl rfl dX10_round_137 ?_
      refine lv_iload hx hb dX10_round_140 (lv_at hl 4 rfl) ?_
      obtain ⟨hi, hf⟩ := ck_s hf
      refine g_iald hC hw 4 rfl hi dX10_round_142 ?_
      obtain ⟨r18, hq19, hf⟩ := b1_s hf
      refine h_cSi hC hw msX10_89 (cn_X10_at l G x1 (c_t_stop (Int32.toNatClampNeg x7)) r18 hq19) [] rfl (by decide) rfl hl.1 rfl (Nat.le_of_ble_eq_true rfl) ⟨Nat.le_of_ble_eq_true rfl, Nat.le_of_ble_eq_true rfl⟩ ⟨Nat.le_refl _, Nat.le_refl _⟩ dX10_round_143 (fun H locs hw => ?_)
      obtain ⟨hi, hf⟩ := ck_s hf
      refine g_iald hC hw 3 rfl hi dX10_round_146 ?_
      refine lv_aload_n hx hb dX10_round_147 rfl (lv_at hl 0 rfl) ?_
      refine g_get hC hw fkX10_61 0 rfl rfl dX10_round_148 ?_
      refine lv_bipush (v := 6) hx hb dX10_round_151 (by decide) ?_
      refine lv_iconst (v := 1) hx hb dX10_round_153 (by decide) ?_
      refine lv_iload hx hb dX10_round_154 (lv_at hl 4 rfl) ?_
      refine lv_ishl hx hb dX10_round_156 ?_
      refine lv_imul hx hb dX10_round_157 ?_
      refine lv_iload hx hb dX10_round_158 (lv_at hl 4 rfl) ?_
      refine lv_iadd hx hb dX10_round_160 ?_
      obtain ⟨hi, hf⟩ := ck_s hf
      refine g_iald hC hw 5 rfl hi dX10_round_161 ?_
      refine lv_iadd hx hb dX10_round_162 ?_
      refine lv_iload hx hb dX10_round_163 (lv_at hl 2 rfl) ?_
      refine lv_icmp_ne (tgt := 178) hx hb dX10_round_165 (by decide) (fun hc => ?_) (fun hc => ?_)
      · replace hf := it_f hc hf
        refine lv_iload hx hb dX10_round_178 (lv_at hl 3 rfl) ?_
        refine lv_istore (lv' := [(6, .int x6), (0, .ref A_t), (1, .int x1), (5, .int x5), (7, .int x7)]) hx hb dX10_round_180 hl (by decide) rfl (fun ls hl => ?_)
        refine lv_iinc (v := x7 + (-1)) (lv' := [(7, .int (x7 + (-1))), (6, .int x6), (0, .ref A_t), (1, .int x1), (5, .int x5)]) hx hb dX10_round_182 hl (k := 4) rfl rfl (by decide) rfl (fun ls hl => ?_)
        refine lv_goto (tgt := 126) hx hb dX10_round_185 (by decide) ?_
        exact hrc x6 (x7 + (-1)) _ _ _ hf (lv_sub hl [2, 3, 4, 1, 0] rfl) hw
      · replace hf := it_t hc hf
        refine lv_aload_n hx hb dX10_round_168 rfl (lv_at hl 0 rfl) ?_
        refine g_get hC hw fkX10_58 0 rfl rfl dX10_round_169 ?_
        refine lv_iload hx hb dX10_round_172 (lv_at hl 4 rfl) ?_
        obtain ⟨hi, hf⟩ := ck_s hf
        refine g_iald hC hw 4 rfl hi dX10_round_174 ?_
        refine lv_goto (tgt := 180) hx hb dX10_round_175 (by decide) ?_
        obtain ⟨y20, ey20, hf⟩ := lx_s hf
        rw [← ey20]
        refine lv_istore (lv' := [(6, .int y20), (0, .ref A_t), (1, .int x1), (5, .int x5), (7, .int x7)]) hx hb dX10_round_180 hl (by decide) rfl (fun ls hl => ?_)
        refine lv_iinc (v := x7 + (-1)) (lv' := [(7, .int (x7 + (-1))), (6, .int y20), (0, .ref A_t), (1, .int x1), (5, .int x5)]) hx hb dX10_round_182 hl (k := 4) rfl rfl (by decide) rfl (fun ls hl => ?_)
        refine lv_goto (tgt := 126) hx hb dX10_round_185 (by decide) ?_
        exact hrc y20 (x7 + (-1)) _ _ _ hf (lv_sub hl [2, 3, 4, 1, 0] rfl) hw
set_option maxHeartbeats 4000000 in
set_option maxRecDepth 100000 in
theorem wn_X10_round {p : Program} {l : Launch} {e : Env} {s : State} {m : MethodId} {args : Array Value} {below : List Frame} {meth : Method} {c : Code} {G : gw_} {A : Nat → Prop} {Q : State → Prop} {A_t : Nat} {A_t_steps : Nat} {A_t_wet : Nat} {A_t_where : Nat} {A_t_home : Nat} {A_t_light : Nat} {A_t_carries : Nat} {A_t_sightPlace : Nat} {A_t_sightLight : Nat} {A_t_pad : Nat} {A_t_act : Nat} {A_t_whose : Nat} {A_t_whom : Nat} {A_t_tens : Nat} {A_t_had : Nat} {A_t_leaves : Nat} {A_t_apart : Nat} {A_t_stop : Nat} {A_t_restOf : Nat} {A_t_group : Nat} {A_t_along : Nat} {A_t_kept : Nat} {A_t_isKept : Nat} {c_t_foggy : Int32} {c_t_walkers : Int32} {c_t_sights : Int32} {c_t_padMany : Int32} {c_t_acts : Int32} {c_t_spent : Int32} {c_t_walks : Int32} {c_t_badAct : Int32} {c_t_badWhy : Int32} {c_t_keptAt : Int32} {c_t_isWriting : Int32} {c_t_steps : Nat → Int32} {c_t_wet : Nat → Int32} {c_t_apart : Nat → Int32} {z_t_apart : Nat → Int32} {c_t_stop : Nat → Int32} {z_t_stop : Nat → Int32} {c_t_restOf : Nat → Int32} {z_t_restOf : Nat → Int32} {r : Int32} {x1 : Int32} {x2 : Int32} {x3 : Int32} (hC : cx_ p s m c G cX10_round 8 RX10) (hret : ∀ (pc : Nat) (H : Heap) (locs : List Loc) (ls : Array Slot), decode cX10_round pc = .ok (.ireturn, 1) → wd_ G A s.heap (wl_X10_round G A_t A_t_steps A_t_wet A_t_where A_t_home A_t_light A_t_carries A_t_sightPlace A_t_sightLight A_t_pad A_t_act A_t_whose A_t_whom A_t_tens A_t_had A_t_leaves A_t_apart A_t_stop A_t_restOf A_t_group A_t_along A_t_kept A_t_isKept c_t_foggy c_t_walkers c_t_sights c_t_padMany c_t_acts c_t_spent c_t_walks c_t_badAct c_t_badWhy c_t_keptAt c_t_isWriting c_t_steps c_t_wet z_t_apart z_t_stop z_t_restOf) H locs → W p l e { frames := 4, cells := 0, slots := 0, locals := 91 } s m args below meth c H locs 0 0 Q (F0 m pc ls [.int r])) (hf : fn_X10_round c_t_foggy c_t_steps c_t_wet c_t_apart c_t_stop c_t_restOf x1 x2 x3 = some (r, z_t_apart, z_t_stop, z_t_restOf)) {H : Heap} {locs : List Loc} {ls : Array Slot} (hl : lv_has ls 8 [(0, .ref A_t), (1, .int x1), (2, .int x2), (3, .int x3)]) (hw : wd_ G A s.heap (wl_X10_round G A_t A_t_steps A_t_wet A_t_where A_t_home A_t_light A_t_carries A_t_sightPlace A_t_sightLight A_t_pad A_t_act A_t_whose A_t_whom A_t_tens A_t_had A_t_leaves A_t_apart A_t_stop A_t_restOf A_t_group A_t_along A_t_kept A_t_isKept c_t_foggy c_t_walkers c_t_sights c_t_padMany c_t_acts c_t_spent c_t_walks c_t_badAct c_t_badWhy c_t_keptAt c_t_isWriting c_t_steps c_t_wet c_t_apart c_t_stop c_t_restOf) H locs) : W p l e { frames := 4, cells := 0, slots := 0, locals := 91 } s m args below meth c H locs 0 0 Q (F0 m 0 ls []) := by
  have hx := hC.1
  have hb := hC.2.1
  unfold fn_X10_round at hf
  refine lv_iload_n hx hb dX10_round_0 rfl (lv_at hl 1 rfl) ?_
  obtain ⟨r1, hq2, hf⟩ := b1_s hf
  refine h_cSi hC hw msX10_100 (cn_X10_isPlace l G x1 r1 hq2) [] rfl (by decide) rfl hl.1 rfl (Nat.le_of_ble_eq_true rfl) ⟨Nat.le_of_ble_eq_true rfl, Nat.le_of_ble_eq_true rfl⟩ ⟨Nat.le_refl _, Nat.le_refl _⟩ dX10_round_1 (fun H locs hw => ?_)
  refine lv_if_eq (tgt := 19) hx hb dX10_round_4 (by decide) (fun hc => ?_) (fun hc => ?_)
  · replace hf := it_t hc hf
    refine lv_iconst (v := (-1)) hx hb dX10_round_19 (by decide) ?_
    obtain ⟨h1_, h2_, h3_, h4_⟩ := t4_ hf
    subst h1_
    subst h2_
    subst h3_
    subst h4_
    exact hret _ _ _ _ dX10_round_20 hw
  · replace hf := it_f hc hf
    refine lv_iload_n hx hb dX10_round_7 rfl (lv_at hl 2 rfl) ?_
    refine lv_i2l hx hb dX10_round_8 rfl ?_
    refine lv_lconst (v := 0) hx hb dX10_round_9 (by decide) ?_
    refine g_ldc2 (v := 4095) hC (tb5 46 rfl rfl) dX10_round_10 ?_
    obtain ⟨r3, hq4, hf⟩ := b1_s hf
    refine h_cSi hC hw msX10_79 (cn_X10_in l G (Int32.toInt64 x2) 0 4095 r3 hq4) [] rfl (by decide) rfl hl.1 rfl (Nat.le_of_ble_eq_true rfl) ⟨Nat.le_of_ble_eq_true rfl, Nat.le_of_ble_eq_true rfl⟩ ⟨Nat.le_refl _, Nat.le_refl _⟩ dX10_round_13 (fun H locs hw => ?_)
    refine lv_if_ne (tgt := 21) hx hb dX10_round_16 (by decide) (fun hc => ?_) (fun hc => ?_)
    · replace hf := it_f hc hf
      refine lv_iload_n hx hb dX10_round_21 rfl (lv_at hl 3 rfl) ?_
      refine lv_i2l hx hb dX10_round_22 rfl ?_
      refine lv_lconst (v := 0) hx hb dX10_round_23 (by decide) ?_
      refine lv_lconst (v := 1) hx hb dX10_round_24 (by decide) ?_
      obtain ⟨r5, hq6, hf⟩ := b1_s hf
      refine h_cSi hC hw msX10_79 (cn_X10_in l G (Int32.toInt64 x3) 0 1 r5 hq6) [] rfl (by decide) rfl hl.1 rfl (Nat.le_of_ble_eq_true rfl) ⟨Nat.le_of_ble_eq_true rfl, Nat.le_of_ble_eq_true rfl⟩ ⟨Nat.le_refl _, Nat.le_refl _⟩ dX10_round_25 (fun H locs hw => ?_)
      refine lv_if_ne (tgt := 34) hx hb dX10_round_28 (by decide) (fun hc => ?_) (fun hc => ?_)
      · replace hf := it_f hc hf
        refine lv_iload_n hx hb dX10_round_34 rfl (lv_at hl 2 rfl) ?_
        obtain ⟨r7, hq8, hf⟩ := b1_s hf
        refine h_cSi hC hw msX10_115 (cn_X10_ones l G x2 r7 hq8) [] rfl (by decide) rfl hl.1 rfl (Nat.le_of_ble_eq_true rfl) ⟨Nat.le_of_ble_eq_true rfl, Nat.le_of_ble_eq_true rfl⟩ ⟨Nat.le_refl _, Nat.le_refl _⟩ dX10_round_35 (fun H locs hw => ?_)
        refine lv_bipush (v := 6) hx hb dX10_round_38 (by decide) ?_
        refine lv_icmp_le (tgt := 46) hx hb dX10_round_40 (by decide) (fun hc => ?_) (fun hc => ?_)
        · replace hf := it_t hc hf
          refine lv_aload_n hx hb dX10_round_46 rfl (lv_at hl 0 rfl) ?_
          obtain ⟨w9, hq10, hf⟩ := b1_s hf
          refine g_cVv hC hw mvX10_219 (cn_X10_findWays l G A_t A_t_steps A_t_wet A_t_where A_t_home A_t_light A_t_carries A_t_sightPlace A_t_sightLight A_t_pad A_t_act A_t_whose A_t_whom A_t_tens A_t_had A_t_leaves A_t_apart A_t_stop A_t_restOf A_t_group A_t_along A_t_kept A_t_isKept c_t_foggy c_t_walkers c_t_sights c_t_padMany c_t_acts c_t_spent c_t_walks c_t_badAct c_t_badWhy c_t_keptAt c_t_isWriting c_t_steps c_t_wet c_t_apart w9 hq10) [0, 1, 2, 3] rfl (by decide) rfl 0 rfl rfl rfl hl.1 rfl (Nat.le_of_ble_eq_true rfl) ⟨Nat.le_of_ble_eq_true rfl, Nat.le_of_ble_eq_true rfl⟩ ⟨Nat.le_refl _, Nat.le_refl _⟩ dX10_round_47 (fun H locs hw => ?_)
          have hw : wd_ G A s.heap (wl_X10_round G A_t A_t_steps A_t_wet A_t_where A_t_home A_t_light A_t_carries A_t_sightPlace A_t_sightLight A_t_pad A_t_act A_t_whose A_t_whom A_t_tens A_t_had A_t_leaves A_t_apart A_t_stop A_t_restOf A_t_group A_t_along A_t_kept A_t_isKept c_t_foggy c_t_walkers c_t_sights c_t_padMany c_t_acts c_t_spent c_t_walks c_t_badAct c_t_badWhy c_t_keptAt c_t_isWriting c_t_steps c_t_wet w9 c_t_stop c_t_restOf) H locs := hw
          refine lv_aload_n hx hb dX10_round_50 rfl (lv_at hl 0 rfl) ?_
          refine lv_iload_n hx hb dX10_round_51 rfl (lv_at hl 2 rfl) ?_
          obtain ⟨r11, w12, hq13, hf⟩ := b2_s hf
          refine g_cVi hC hw mvX10_233 (cn_X10_layStops l G A_t A_t_steps A_t_wet A_t_where A_t_home A_t_light A_t_carries A_t_sightPlace A_t_sightLight A_t_pad A_t_act A_t_whose A_t_whom A_t_tens A_t_had A_t_leaves A_t_apart A_t_stop A_t_restOf A_t_group A_t_along A_t_kept A_t_isKept c_t_foggy c_t_walkers c_t_sights c_t_padMany c_t_acts c_t_spent c_t_walks c_t_badAct c_t_badWhy c_t_keptAt c_t_isWriting c_t_stop x2 r11 w12 hq13) [0, 4] rfl (by decide) rfl 0 rfl rfl rfl hl.1 rfl (Nat.le_of_ble_eq_true rfl) ⟨Nat.le_of_ble_eq_true rfl, Nat.le_of_ble_eq_true rfl⟩ ⟨Nat.le_refl _, Nat.le_refl _⟩ dX10_round_52 (fun H locs hw => ?_)
          have hw : wd_ G A s.heap (wl_X10_round G A_t A_t_steps A_t_wet A_t_where A_t_home A_t_light A_t_carries A_t_sightPlace A_t_sightLight A_t_pad A_t_act A_t_whose A_t_whom A_t_tens A_t_had A_t_leaves A_t_apart A_t_stop A_t_restOf A_t_group A_t_along A_t_kept A_t_isKept c_t_foggy c_t_walkers c_t_sights c_t_padMany c_t_acts c_t_spent c_t_walks c_t_badAct c_t_badWhy c_t_keptAt c_t_isWriting c_t_steps c_t_wet w9 w12 c_t_restOf) H locs := hw
          refine lv_istore (lv' := [(4, .int r11), (0, .ref A_t), (1, .int x1), (2, .int x2), (3, .int x3)]) hx hb dX10_round_55 hl (by decide) rfl (fun ls hl => ?_)
          refine lv_aload_n hx hb dX10_round_57 rfl (lv_at hl 1 rfl) ?_
          refine lv_iload_n hx hb dX10_round_58 rfl (lv_at hl 2 rfl) ?_
          refine lv_iload hx hb dX10_round_59 (lv_at hl 0 rfl) ?_
          obtain ⟨w14, hq15, hf⟩ := b1_s hf
          refine g_cVv hC hw mvX10_236 (cn_X10_findRests l G A_t A_t_steps A_t_wet A_t_where A_t_home A_t_light A_t_carries A_t_sightPlace A_t_sightLight A_t_pad A_t_act A_t_whose A_t_whom A_t_tens A_t_had A_t_leaves A_t_apart A_t_stop A_t_restOf A_t_group A_t_along A_t_kept A_t_isKept c_t_foggy c_t_walkers c_t_sights c_t_padMany c_t_acts c_t_spent c_t_walks c_t_badAct c_t_badWhy c_t_keptAt c_t_isWriting w9 w12 c_t_restOf x1 r11 w14 hq15) [0, 3, 4, 5] rfl (by decide) rfl 0 rfl rfl rfl hl.1 rfl (Nat.le_of_ble_eq_true rfl) ⟨Nat.le_of_ble_eq_true rfl, Nat.le_of_ble_eq_true rfl⟩ ⟨Nat.le_refl _, Nat.le_refl _⟩ dX10_round_61 (fun H locs hw => ?_)
          have hw : wd_ G A s.heap (wl_X10_round G A_t A_t_steps A_t_wet A_t_where A_t_home A_t_light A_t_carries A_t_sightPlace A_t_sightLight A_t_pad A_t_act A_t_whose A_t_whom A_t_tens A_t_had A_t_leaves A_t_apart A_t_stop A_t_restOf A_t_group A_t_along A_t_kept A_t_isKept c_t_foggy c_t_walkers c_t_sights c_t_padMany c_t_acts c_t_spent c_t_walks c_t_badAct c_t_badWhy c_t_keptAt c_t_isWriting c_t_steps c_t_wet w9 w12 w14) H locs := hw
          refine lv_iload hx hb dX10_round_64 (lv_at hl 0 rfl) ?_
          refine lv_if_ne (tgt := 80) hx hb dX10_round_66 (by decide) (fun hc => ?_) (fun hc => ?_)
          · replace hf := it_f hc hf
            refine lv_aload_n hx hb dX10_round_80 rfl (lv_at hl 1 rfl) ?_
            refine lv_iload_n hx hb dX10_round_81 rfl (lv_at hl 2 rfl) ?_
            refine lv_iconst (v := 0) hx hb dX10_round_82 (by decide) ?_
            refine lv_iload hx hb dX10_round_83 (lv_at hl 0 rfl) ?_
            obtain ⟨r16, hq17, hf⟩ := b1_s hf
            refine h_cVi hC hw mvX10_228 (cn_X10_bestStep l G A_t A_t_steps A_t_wet A_t_where A_t_home A_t_light A_t_carries A_t_sightPlace A_t_sightLight A_t_pad A_t_act A_t_whose A_t_whom A_t_tens A_t_had A_t_leaves A_t_apart A_t_stop A_t_restOf A_t_group A_t_along A_t_kept A_t_isKept c_t_foggy c_t_walkers c_t_sights c_t_padMany c_t_acts c_t_spent c_t_walks c_t_badAct c_t_badWhy c_t_keptAt c_t_isWriting w9 w12 w14 x1 0 r11 r16 hq17) [0, 3, 4, 5] rfl (by decide) 0 rfl rfl rfl hl.1 rfl (Nat.le_of_ble_eq_true rfl) ⟨Nat.le_of_ble_eq_true rfl, Nat.le_of_ble_eq_true rfl⟩ ⟨Nat.le_refl _, Nat.le_refl _⟩ dX10_round_85 (fun H locs hw => ?_)
            refine lv_istore (lv' := [(5, .int r16), (4, .int r11), (0, .ref A_t), (1, .int x1), (2, .int x2), (3, .int x3)]) hx hb dX10_round_88 hl (by decide) rfl (fun ls hl => ?_)
            refine lv_iload hx hb dX10_round_90 (lv_at hl 0 rfl) ?_
            refine g_ldc (v := 1000000) hC (tb5 17 rfl rfl) dX10_round_92 ?_
            refine lv_icmp_ge (tgt := 101) hx hb dX10_round_94 (by decide) (fun hc => ?_) (fun hc => ?_)
            · replace hf := it_t hc hf
              exact wn_X10_round_j101 hC hret hf (lv_sub hl [0] rfl) hw
            · replace hf := it_f hc hf
              refine lv_iload_n hx hb dX10_round_97 rfl (lv_at hl 5 rfl) ?_
              refine lv_if_ne (tgt := 116) hx hb dX10_round_98 (by decide) (fun hc => ?_) (fun hc => ?_)
              · replace hf := it_f hc hf
                refine lv_bipush (v := (-6)) hx hb dX10_round_116 (by decide) ?_
                refine lv_istore (lv' := [(6, .int (-6)), (5, .int r16), (4, .int r11), (0, .ref A_t), (1, .int x1), (2, .int x2), (3, .int x3)]) hx hb dX10_round_118 hl (by decide) rfl (fun ls hl => ?_)
                refine lv_iload hx hb dX10_round_120 (lv_at hl 2 rfl) ?_
                refine lv_iconst (v := 1) hx hb dX10_round_122 (by decide) ?_
                refine lv_isub hx hb dX10_round_123 ?_
                refine lv_istore (lv' := [(7, .int (r11 - 1)), (6, .int (-6)), (5, .int r16), (4, .int r11), (0, .ref A_t), (1, .int x1), (2, .int x2), (3, .int x3)]) hx hb dX10_round_124 hl (by decide) rfl (fun ls hl => ?_)
                refine wn_X10_round_l126 hC hret (fun v21 H locs ls hf hl hw => ?_) fu_ (-6) (r11 - 1) _ _ _ hf (lv_sub hl [4, 5, 2, 1, 0] rfl) hw
                refine lv_iload hx hb dX10_round_188 (lv_at hl 0 rfl) ?_
                obtain ⟨h1_, h2_, h3_, h4_⟩ := t4_ hf
                subst h1_
                subst h2_
                subst h3_
                subst h4_
                exact hret _ _ _ _ dX10_round_190 hw
              · replace hf := it_t hc hf
                exact wn_X10_round_j101 hC hret hf (lv_sub hl [0] rfl) hw
          · replace hf := it_t hc hf
            refine lv_iload_n hx hb dX10_round_69 rfl (lv_at hl 4 rfl) ?_
            refine lv_if_ne (tgt := 77) hx hb dX10_round_70 (by decide) (fun hc => ?_) (fun hc => ?_)
            · replace hf := it_f hc hf
              refine lv_bipush (v := (-6)) hx hb dX10_round_77 (by decide) ?_
              obtain ⟨h1_, h2_, h3_, h4_⟩ := t4_ hf
              subst h1_
              subst h2_
              subst h3_
              subst h4_
              exact hret _ _ _ _ dX10_round_79 hw
            · replace hf := it_t hc hf
              refine lv_iconst (v := 0) hx hb dX10_round_73 (by decide) ?_
              refine lv_goto (tgt := 79) hx hb dX10_round_74 (by decide) ?_
              obtain ⟨h1_, h2_, h3_, h4_⟩ := t4_ hf
              subst h1_
              subst h2_
              subst h3_
              subst h4_
              exact hret _ _ _ _ dX10_round_79 hw
        · replace hf := it_f hc hf
          refine lv_bipush (v := (-4)) hx hb dX10_round_43 (by decide) ?_
          obtain ⟨h1_, h2_, h3_, h4_⟩ := t4_ hf
          subst h1_
          subst h2_
          subst h3_
          subst h4_
          exact hret _ _ _ _ dX10_round_45 hw
      · replace hf := it_t hc hf
        refine lv_bipush (v := (-2)) hx hb dX10_round_31 (by decide) ?_
        obtain ⟨h1_, h2_, h3_, h4_⟩ := t4_ hf
        subst h1_
        subst h2_
        subst h3_
        subst h4_
        exact hret _ _ _ _ dX10_round_33 hw
    · replace hf := it_t hc hf
      refine lv_iconst (v := (-1)) hx hb dX10_round_19 (by decide) ?_
      obtain ⟨h1_, h2_, h3_, h4_⟩ := t4_ hf
      subst h1_
      subst h2_
      subst h3_
      subst h4_
      exact hret _ _ _ _ dX10_round_20 hw
set_option maxHeartbeats 4000000 in
set_option maxRecDepth 100000 in
theorem cn_X10_round (l : Launch) (G : gw_) (A_t : Nat) (A_t_steps : Nat) (A_t_wet : Nat) (A_t_where : Nat) (A_t_home : Nat) (A_t_light : Nat) (A_t_carries : Nat) (A_t_sightPlace : Nat) (A_t_sightLight : Nat) (A_t_pad : Nat) (A_t_act : Nat) (A_t_whose : Nat) (A_t_whom : Nat) (A_t_tens : Nat) (A_t_had : Nat) (A_t_leaves : Nat) (A_t_apart : Nat) (A_t_stop : Nat) (A_t_restOf : Nat) (A_t_group : Nat) (A_t_along : Nat) (A_t_kept : Nat) (A_t_isKept : Nat) (c_t_foggy : Int32) (c_t_walkers : Int32) (c_t_sights : Int32) (c_t_padMany : Int32) (c_t_acts : Int32) (c_t_spent : Int32) (c_t_walks : Int32) (c_t_badAct : Int32) (c_t_badWhy : Int32) (c_t_keptAt : Int32) (c_t_isWriting : Int32) (c_t_steps : Nat → Int32) (c_t_wet : Nat → Int32) (c_t_apart : Nat → Int32) (c_t_stop : Nat → Int32) (c_t_restOf : Nat → Int32) (x1 : Int32) (x2 : Int32) (x3 : Int32) (r : Int32) (z_t_apart : Nat → Int32) (z_t_stop : Nat → Int32) (z_t_restOf : Nat → Int32) (hf : fn_X10_round c_t_foggy c_t_steps c_t_wet c_t_apart c_t_stop c_t_restOf x1 x2 x3 = some (r, z_t_apart, z_t_stop, z_t_restOf)) : ci_ l G yX10_round cX10_round 8 (some .int) 4 91 (wl_X10_round G A_t A_t_steps A_t_wet A_t_where A_t_home A_t_light A_t_carries A_t_sightPlace A_t_sightLight A_t_pad A_t_act A_t_whose A_t_whom A_t_tens A_t_had A_t_leaves A_t_apart A_t_stop A_t_restOf A_t_group A_t_along A_t_kept A_t_isKept c_t_foggy c_t_walkers c_t_sights c_t_padMany c_t_acts c_t_spent c_t_walks c_t_badAct c_t_badWhy c_t_keptAt c_t_isWriting c_t_steps c_t_wet c_t_apart c_t_stop c_t_restOf) [.ref A_t, .int x1, .int x2, .int x3] r (wl_X10_round G A_t A_t_steps A_t_wet A_t_where A_t_home A_t_light A_t_carries A_t_sightPlace A_t_sightLight A_t_pad A_t_act A_t_whose A_t_whom A_t_tens A_t_had A_t_leaves A_t_apart A_t_stop A_t_restOf A_t_group A_t_along A_t_kept A_t_isKept c_t_foggy c_t_walkers c_t_sights c_t_padMany c_t_acts c_t_spent c_t_walks c_t_badAct c_t_badWhy c_t_keptAt c_t_isWriting c_t_steps c_t_wet z_t_apart z_t_stop z_t_restOf) := fun sz => met_intro (by decide) (Nat.le_of_ble_eq_true rfl) (fun p e s m args below meth c ls hsz hC hr hlk hnm hl hw => wn_X10_round hC (fun pc H locs ls hd hw => g_iret hC hr hlk hw rfl rfl hd) hf hl hw)

theorem dX10_more_0 : decode cX10_more 0 = .ok (.iload_n 1, 1) := by decide +kernel
theorem dX10_more_1 : decode cX10_more 1 = .ok (.invokestatic 100, 3) := by decide +kernel
theorem dX10_more_4 : decode cX10_more 4 = .ok (.ifCond .ne 5, 3) := by decide +kernel
theorem dX10_more_7 : decode cX10_more 7 = .ok (.iconst (-1), 1) := by decide +kernel
theorem dX10_more_8 : decode cX10_more 8 = .ok (.ireturn, 1) := by decide +kernel
theorem dX10_more_9 : decode cX10_more 9 = .ok (.aload_n 0, 1) := by decide +kernel
theorem dX10_more_10 : decode cX10_more 10 = .ok (.invokevirtual 219, 3) := by decide +kernel
theorem dX10_more_13 : decode cX10_more 13 = .ok (.iconst 0, 1) := by decide +kernel
theorem dX10_more_14 : decode cX10_more 14 = .ok (.istore_n 2, 1) := by decide +kernel
theorem dX10_more_15 : decode cX10_more 15 = .ok (.iconst 0, 1) := by decide +kernel
theorem dX10_more_16 : decode cX10_more 16 = .ok (.istore_n 3, 1) := by decide +kernel
theorem dX10_more_17 : decode cX10_more 17 = .ok (.iconst 1, 1) := by decide +kernel
theorem dX10_more_18 : decode cX10_more 18 = .ok (.istore 4, 2) := by decide +kernel
theorem dX10_more_20 : decode cX10_more 20 = .ok (.iconst 0, 1) := by decide +kernel
theorem dX10_more_21 : decode cX10_more 21 = .ok (.istore 5, 2) := by decide +kernel
theorem dX10_more_23 : decode cX10_more 23 = .ok (.iload 5, 2) := by decide +kernel
theorem dX10_more_25 : decode cX10_more 25 = .ok (.bipush 6, 2) := by decide +kernel
theorem dX10_more_27 : decode cX10_more 27 = .ok (.if_icmp .ge 71, 3) := by decide +kernel
theorem dX10_more_30 : decode cX10_more 30 = .ok (.aload_n 0, 1) := by decide +kernel
theorem dX10_more_31 : decode cX10_more 31 = .ok (.iload 5, 2) := by decide +kernel
theorem dX10_more_33 : decode cX10_more 33 = .ok (.invokevirtual 106, 3) := by decide +kernel
theorem dX10_more_36 : decode cX10_more 36 = .ok (.ifCond .eq 56, 3) := by decide +kernel
theorem dX10_more_39 : decode cX10_more 39 = .ok (.aload_n 0, 1) := by decide +kernel
theorem dX10_more_40 : decode cX10_more 40 = .ok (.getfield 16, 3) := by decide +kernel
theorem dX10_more_43 : decode cX10_more 43 = .ok (.iload 5, 2) := by decide +kernel
theorem dX10_more_45 : decode cX10_more 45 = .ok (.iaload, 1) := by decide +kernel
theorem dX10_more_46 : decode cX10_more 46 = .ok (.iload_n 1, 1) := by decide +kernel
theorem dX10_more_47 : decode cX10_more 47 = .ok (.if_icmp .ne 45, 3) := by decide +kernel
theorem dX10_more_50 : decode cX10_more 50 = .ok (.iload 4, 2) := by decide +kernel
theorem dX10_more_52 : decode cX10_more 52 = .ok (.ifCond .eq 18, 3) := by decide +kernel
theorem dX10_more_55 : decode cX10_more 55 = .ok (.aload_n 0, 1) := by decide +kernel
theorem dX10_more_56 : decode cX10_more 56 = .ok (.iload 5, 2) := by decide +kernel
theorem dX10_more_58 : decode cX10_more 58 = .ok (.invokevirtual 225, 3) := by decide +kernel
theorem dX10_more_61 : decode cX10_more 61 = .ok (.ldc 214, 2) := by decide +kernel
theorem dX10_more_63 : decode cX10_more 63 = .ok (.if_icmp .ge 7, 3) := by decide +kernel
theorem dX10_more_66 : decode cX10_more 66 = .ok (.iconst 1, 1) := by decide +kernel
theorem dX10_more_67 : decode cX10_more 67 = .ok (.goto 4, 3) := by decide +kernel
theorem dX10_more_70 : decode cX10_more 70 = .ok (.iconst 0, 1) := by decide +kernel
theorem dX10_more_71 : decode cX10_more 71 = .ok (.istore 4, 2) := by decide +kernel
theorem dX10_more_73 : decode cX10_more 73 = .ok (.iload_n 2, 1) := by decide +kernel
theorem dX10_more_74 : decode cX10_more 74 = .ok (.aload_n 0, 1) := by decide +kernel
theorem dX10_more_75 : decode cX10_more 75 = .ok (.iload 5, 2) := by decide +kernel
theorem dX10_more_77 : decode cX10_more 77 = .ok (.invokevirtual 225, 3) := by decide +kernel
theorem dX10_more_80 : decode cX10_more 80 = .ok (.iadd, 1) := by decide +kernel
theorem dX10_more_81 : decode cX10_more 81 = .ok (.istore_n 2, 1) := by decide +kernel
theorem dX10_more_82 : decode cX10_more 82 = .ok (.iload_n 3, 1) := by decide +kernel
theorem dX10_more_83 : decode cX10_more 83 = .ok (.aload_n 0, 1) := by decide +kernel
theorem dX10_more_84 : decode cX10_more 84 = .ok (.getfield 22, 3) := by decide +kernel
theorem dX10_more_87 : decode cX10_more 87 = .ok (.iload 5, 2) := by decide +kernel
theorem dX10_more_89 : decode cX10_more 89 = .ok (.iaload, 1) := by decide +kernel
theorem dX10_more_90 : decode cX10_more 90 = .ok (.iadd, 1) := by decide +kernel
theorem dX10_more_91 : decode cX10_more 91 = .ok (.istore_n 3, 1) := by decide +kernel
theorem dX10_more_92 : decode cX10_more 92 = .ok (.iinc 5 1, 3) := by decide +kernel
theorem dX10_more_95 : decode cX10_more 95 = .ok (.goto (-72), 3) := by decide +kernel
theorem dX10_more_98 : decode cX10_more 98 = .ok (.iload 4, 2) := by decide +kernel
theorem dX10_more_100 : decode cX10_more 100 = .ok (.ifCond .ne 8, 3) := by decide +kernel
theorem dX10_more_103 : decode cX10_more 103 = .ok (.bipush (-6), 2) := by decide +kernel
theorem dX10_more_105 : decode cX10_more 105 = .ok (.goto 15, 3) := by decide +kernel
theorem dX10_more_108 : decode cX10_more 108 = .ok (.iload_n 2, 1) := by decide +kernel
theorem dX10_more_109 : decode cX10_more 109 = .ok (.iload_n 3, 1) := by decide +kernel
theorem dX10_more_110 : decode cX10_more 110 = .ok (.if_icmp .le 9, 3) := by decide +kernel
theorem dX10_more_113 : decode cX10_more 113 = .ok (.iload_n 2, 1) := by decide +kernel
theorem dX10_more_114 : decode cX10_more 114 = .ok (.iload_n 3, 1) := by decide +kernel
theorem dX10_more_115 : decode cX10_more 115 = .ok (.isub, 1) := by decide +kernel
theorem dX10_more_116 : decode cX10_more 116 = .ok (.goto 4, 3) := by decide +kernel
theorem dX10_more_119 : decode cX10_more 119 = .ok (.iconst 0, 1) := by decide +kernel
theorem dX10_more_120 : decode cX10_more 120 = .ok (.ireturn, 1) := by decide +kernel
abbrev wl_X10_more (G : gw_) (A_t : Nat) (A_t_steps : Nat) (A_t_wet : Nat) (A_t_where : Nat) (A_t_home : Nat) (A_t_light : Nat) (A_t_carries : Nat) (A_t_sightPlace : Nat) (A_t_sightLight : Nat) (A_t_pad : Nat) (A_t_act : Nat) (A_t_whose : Nat) (A_t_whom : Nat) (A_t_tens : Nat) (A_t_had : Nat) (A_t_leaves : Nat) (A_t_apart : Nat) (A_t_stop : Nat) (A_t_restOf : Nat) (A_t_group : Nat) (A_t_along : Nat) (A_t_kept : Nat) (A_t_isKept : Nat) (c_t_foggy : Int32) (c_t_walkers : Int32) (c_t_sights : Int32) (c_t_padMany : Int32) (c_t_acts : Int32) (c_t_spent : Int32) (c_t_walks : Int32) (c_t_badAct : Int32) (c_t_badWhy : Int32) (c_t_keptAt : Int32) (c_t_isWriting : Int32) (c_t_steps : Nat → Int32) (c_t_wet : Nat → Int32) (c_t_where : Nat → Int32) (c_t_home : Nat → Int32) (c_t_light : Nat → Int32) (c_t_apart : Nat → Int32) : va_W := [ob_ A_t 10 [.ref A_t_steps, .ref A_t_wet, .int c_t_foggy, .int c_t_walkers, .ref A_t_where, .ref A_t_home, .ref A_t_light, .ref A_t_carries, .ref A_t_sightPlace, .ref A_t_sightLight, .int c_t_sights, .ref A_t_pad, .int c_t_padMany, .ref A_t_act, .ref A_t_whose, .ref A_t_whom, .ref A_t_tens, .int c_t_acts, .int c_t_spent, .int c_t_walks, .ref A_t_had, .ref A_t_leaves, .int c_t_badAct, .int c_t_badWhy, .ref A_t_apart, .ref A_t_stop, .ref A_t_restOf, .ref A_t_group, .ref A_t_along, .ref A_t_kept, .ref A_t_isKept, .int c_t_keptAt, .int c_t_isWriting], ia_ G A_t_steps 144 c_t_steps, ia_ G A_t_wet 144 c_t_wet, ia_ G A_t_where 6 c_t_where, ia_ G A_t_home 6 c_t_home, ia_ G A_t_light 6 c_t_light, ia_ G A_t_apart 144 c_t_apart]
def fn_X10_more_j71 (c_t_where : Nat → Int32) (c_t_home : Nat → Int32) (c_t_light : Nat → Int32) (c_t_apart : Nat → Int32) (x2 : Int32) (x3 : Int32) (x5 : Int32) (s0 : Int32) (rc : Int32 → Int32 → Int32 → Int32 → Option (Int32 × (Nat → Int32))) (k : Int32 → Int32 → Int32 → Option (Int32 × (Nat → Int32))) : Option (Int32 × (Nat → Int32)) :=
  b1_ (fn_X10_homeWay c_t_where c_t_home c_t_apart x5) fun r7 =>
  ck_ x5 6 <|
  lx_ (x3 + (c_t_light (Int32.toNatClampNeg x5))) fun y9 =>
  rc (x2 + r7) y9 s0 (x5 + 1)
def fn_X10_more_j70 (c_t_where : Nat → Int32) (c_t_home : Nat → Int32) (c_t_light : Nat → Int32) (c_t_apart : Nat → Int32) (x2 : Int32) (x3 : Int32) (x5 : Int32) (rc : Int32 → Int32 → Int32 → Int32 → Option (Int32 × (Nat → Int32))) (k : Int32 → Int32 → Int32 → Option (Int32 × (Nat → Int32))) : Option (Int32 × (Nat → Int32)) :=
  fn_X10_more_j71 c_t_where c_t_home c_t_light c_t_apart x2 x3 x5 0 rc k
def fn_X10_more_b23 (c_t_walkers : Int32) (c_t_where : Nat → Int32) (c_t_home : Nat → Int32) (c_t_light : Nat → Int32) (c_t_apart : Nat → Int32) (x1 : Int32) (rc : Int32 → Int32 → Int32 → Int32 → Option (Int32 × (Nat → Int32))) (k : Int32 → Int32 → Int32 → Option (Int32 × (Nat → Int32))) (x2 : Int32) (x3 : Int32) (x4 : Int32) (x5 : Int32) : Option (Int32 × (Nat → Int32)) :=
  if 6 ≤ x5 then
    k x2 x3 x4
  else
    b1_ (fn_X10_isWalker c_t_walkers x5) fun r5 =>
    if r5 = 0 then
      rc x2 x3 x4 (x5 + 1)
    else
      ck_ x5 6 <|
      if (c_t_where (Int32.toNatClampNeg x5)) = x1 then
        if x4 = 0 then
          fn_X10_more_j70 c_t_where c_t_home c_t_light c_t_apart x2 x3 x5 rc k
        else
          b1_ (fn_X10_homeWay c_t_where c_t_home c_t_apart x5) fun r10 =>
          if 1000000 ≤ r10 then
            fn_X10_more_j70 c_t_where c_t_home c_t_light c_t_apart x2 x3 x5 rc k
          else
            fn_X10_more_j71 c_t_where c_t_home c_t_light c_t_apart x2 x3 x5 1 rc k
      else
        rc x2 x3 x4 (x5 + 1)
def fn_X10_more_l23 (c_t_walkers : Int32) (c_t_where : Nat → Int32) (c_t_home : Nat → Int32) (c_t_light : Nat → Int32) (c_t_apart : Nat → Int32) (x1 : Int32) (k : Int32 → Int32 → Int32 → Option (Int32 × (Nat → Int32))) : Nat → Int32 → Int32 → Int32 → Int32 → Option (Int32 × (Nat → Int32))
  | 0 => fun _ _ _ _ => none
  | n + 1 => fun x2 x3 x4 x5 => fn_X10_more_b23 c_t_walkers c_t_where c_t_home c_t_light c_t_apart x1 (fn_X10_more_l23 c_t_walkers c_t_where c_t_home c_t_light c_t_apart x1 k n) k x2 x3 x4 x5
def fn_X10_more (c_t_foggy : Int32) (c_t_walkers : Int32) (c_t_steps : Nat → Int32) (c_t_wet : Nat → Int32) (c_t_where : Nat → Int32) (c_t_home : Nat → Int32) (c_t_light : Nat → Int32) (c_t_apart : Nat → Int32) (x1 : Int32) : Option (Int32 × (Nat → Int32)) :=
  b1_ (fn_X10_isPlace x1) fun r1 =>
  if r1 = 0 then
    some ((-1), c_t_apart)
  else
    b1_ (fn_X10_findWays c_t_foggy c_t_steps c_t_wet c_t_apart) fun w3 =>
    fn_X10_more_l23 c_t_walkers c_t_where c_t_home c_t_light w3 x1 (fun v12 v13 v14 =>
      if v14 = 0 then
        some ((-6), w3)
      else
        if v12 ≤ v13 then
          some (0, w3)
        else
          some (v12 - v13, w3)) fu_ 0 0 1 0
set_option maxHeartbeats 4000000 in
set_option maxRecDepth 100000 in
theorem wn_X10_more_j71 {p : Program} {l : Launch} {e : Env} {s : State} {m : MethodId} {args : Array Value} {below : List Frame} {meth : Method} {c : Code} {G : gw_} {A : Nat → Prop} {Q : State → Prop} {A_t : Nat} {A_t_steps : Nat} {A_t_wet : Nat} {A_t_where : Nat} {A_t_home : Nat} {A_t_light : Nat} {A_t_carries : Nat} {A_t_sightPlace : Nat} {A_t_sightLight : Nat} {A_t_pad : Nat} {A_t_act : Nat} {A_t_whose : Nat} {A_t_whom : Nat} {A_t_tens : Nat} {A_t_had : Nat} {A_t_leaves : Nat} {A_t_apart : Nat} {A_t_stop : Nat} {A_t_restOf : Nat} {A_t_group : Nat} {A_t_along : Nat} {A_t_kept : Nat} {A_t_isKept : Nat} {c_t_foggy : Int32} {c_t_walkers : Int32} {c_t_sights : Int32} {c_t_padMany : Int32} {c_t_acts : Int32} {c_t_spent : Int32} {c_t_walks : Int32} {c_t_badAct : Int32} {c_t_badWhy : Int32} {c_t_keptAt : Int32} {c_t_isWriting : Int32} {c_t_steps : Nat → Int32} {c_t_wet : Nat → Int32} {c_t_where : Nat → Int32} {c_t_home : Nat → Int32} {c_t_light : Nat → Int32} {c_t_apart : Nat → Int32} {z_t_apart : Nat → Int32} {r : Int32} {x1 : Int32} {x2 : Int32} {x3 : Int32} {x5 : Int32} {s0 : Int32} {rc : Int32 → Int32 → Int32 → Int32 → Option (Int32 × (Nat → Int32))} {k : Int32 → Int32 → Int32 → Option (Int32 × (Nat → Int32))} (hC : cx_ p s m c G cX10_more 6 RX10) (hret : ∀ (pc : Nat) (H : Heap) (locs : List Loc) (ls : Array Slot), decode cX10_more pc = .ok (.ireturn, 1) → wd_ G A s.heap (wl_X10_more G A_t A_t_steps A_t_wet A_t_where A_t_home A_t_light A_t_carries A_t_sightPlace A_t_sightLight A_t_pad A_t_act A_t_whose A_t_whom A_t_tens A_t_had A_t_leaves A_t_apart A_t_stop A_t_restOf A_t_group A_t_along A_t_kept A_t_isKept c_t_foggy c_t_walkers c_t_sights c_t_padMany c_t_acts c_t_spent c_t_walks c_t_badAct c_t_badWhy c_t_keptAt c_t_isWriting c_t_steps c_t_wet c_t_where c_t_home c_t_light z_t_apart) H locs → W p l e { frames := 4, cells := 0, slots := 0, locals := 91 } s m args below meth c H locs 0 0 Q (F0 m pc ls [.int r])) (hrc : ∀ (x2 : Int32) (x3 : Int32) (x4 : Int32) (x5 : Int32) (H : Heap) (locs : List Loc) (ls : Array Slot), rc x2 x3 x4 x5 = some (r, z_t_apart) → lv_has ls 6 [(0, .ref A_t), (1, .int x1), (2, .int x2), (3, .int x3), (4, .int x4), (5, .int x5)] → wd_ G A s.heap (wl_X10_more G A_t A_t_steps A_t_wet A_t_where A_t_home A_t_light A_t_carries A_t_sightPlace A_t_sightLight A_t_pad A_t_act A_t_whose A_t_whom A_t_tens A_t_had A_t_leaves A_t_apart A_t_stop A_t_restOf A_t_group A_t_along A_t_kept A_t_isKept c_t_foggy c_t_walkers c_t_sights c_t_padMany c_t_acts c_t_spent c_t_walks c_t_badAct c_t_badWhy c_t_keptAt c_t_isWriting c_t_steps c_t_wet c_t_where c_t_home c_t_light c_t_apart) H locs → W p l e { frames := 4, cells := 0, slots := 0, locals := 91 } s m args below meth c H locs 0 0 Q (F0 m 23 ls [])) (hk : ∀ (x2 : Int32) (x3 : Int32) (x4 : Int32) (H : Heap) (locs : List Loc) (ls : Array Slot), k x2 x3 x4 = some (r, z_t_apart) → lv_has ls 6 [(2, .int x2), (3, .int x3), (4, .int x4)] → wd_ G A s.heap (wl_X10_more G A_t A_t_steps A_t_wet A_t_where A_t_home A_t_light A_t_carries A_t_sightPlace A_t_sightLight A_t_pad A_t_act A_t_whose A_t_whom A_t_tens A_t_had A_t_leaves A_t_apart A_t_stop A_t_restOf A_t_group A_t_along A_t_kept A_t_isKept c_t_foggy c_t_walkers c_t_sights c_t_padMany c_t_acts c_t_spent c_t_walks c_t_badAct c_t_badWhy c_t_keptAt c_t_isWriting c_t_steps c_t_wet c_t_where c_t_home c_t_light c_t_apart) H locs → W p l e { frames := 4, cells := 0, slots := 0, locals := 91 } s m args below meth c H locs 0 0 Q (F0 m 98 ls [])) (hf : fn_X10_more_j71 c_t_where c_t_home c_t_light c_t_apart x2 x3 x5 s0 rc k = some (r, z_t_apart)) {H : Heap} {locs : List Loc} {ls : Array Slot} (hl : lv_has ls 6 [(0, .ref A_t), (1, .int x1), (2, .int x2), (3, .int x3), (5, .int x5)]) (hw : wd_ G A s.heap (wl_X10_more G A_t A_t_steps A_t_wet A_t_where A_t_home A_t_light A_t_carries A_t_sightPlace A_t_sightLight A_t_pad A_t_act A_t_whose A_t_whom A_t_tens A_t_had A_t_leaves A_t_apart A_t_stop A_t_restOf A_t_group A_t_along A_t_kept A_t_isKept c_t_foggy c_t_walkers c_t_sights c_t_padMany c_t_acts c_t_spent c_t_walks c_t_badAct c_t_badWhy c_t_keptAt c_t_isWriting c_t_steps c_t_wet c_t_where c_t_home c_t_light c_t_apart) H locs) : W p l e { frames := 4, cells := 0, slots := 0, locals := 91 } s m args below meth c H locs 0 0 Q (F0 m 71 ls [.int s0]) := by
  have hx := hC.1
  have hb := hC.2.1
  unfold fn_X10_more_j71 at hf
  refine lv_istore (lv' := [(4, .int s0), (0, .ref A_t), (1, .int x1), (2, .int x2), (3, .int x3), (5, .int x5)]) hx hb dX10_more_71 hl (by decide) rfl (fun ls hl => ?_)
  refine lv_iload_n hx hb dX10_more_73 rfl (lv_at hl 3 rfl) ?_
  refine lv_aload_n hx hb dX10_more_74 rfl (lv_at hl 1 rfl) ?_
  refine lv_iload hx hb dX10_more_75 (lv_at hl 5 rfl) ?_
  obtain ⟨r7, hq8, hf⟩ := b1_s hf
  refine h_cVi hC hw mvX10_225 (cn_X10_homeWay l G A_t A_t_steps A_t_wet A_t_where A_t_home A_t_light A_t_carries A_t_sightPlace A_t_sightLight A_t_pad A_t_act A_t_whose A_t_whom A_t_tens A_t_had A_t_leaves A_t_apart A_t_stop A_t_restOf A_t_group A_t_along A_t_kept A_t_isKept c_t_foggy c_t_walkers c_t_sights c_t_padMany c_t_acts c_t_spent c_t_walks c_t_badAct c_t_badWhy c_t_keptAt c_t_isWriting c_t_where c_t_home c_t_apart x5 r7 hq8) [0, 3, 4, 6] rfl (by decide) 0 rfl rfl rfl hl.1 rfl (Nat.le_of_ble_eq_true rfl) ⟨Nat.le_of_ble_eq_true rfl, Nat.le_of_ble_eq_true rfl⟩ ⟨Nat.le_refl _, Nat.le_refl _⟩ dX10_more_77 (fun H locs hw => ?_)
  refine lv_iadd hx hb dX10_more_80 ?_
  refine lv_istore_n (lv' := [(2, .int (x2 + r7)), (4, .int s0), (0, .ref A_t), (1, .int x1), (3, .int x3), (5, .int x5)]) hx hb dX10_more_81 rfl hl (by decide) rfl (fun ls hl => ?_)
  refine lv_iload_n hx hb dX10_more_82 rfl (lv_at hl 4 rfl) ?_
  refine lv_aload_n hx hb dX10_more_83 rfl (lv_at hl 2 rfl) ?_
  refine g_get hC hw fkX10_22 0 rfl rfl dX10_more_84 ?_
  refine lv_iload hx hb dX10_more_87 (lv_at hl 5 rfl) ?_
  obtain ⟨hi, hf⟩ := ck_s hf
  refine g_iald hC hw 5 rfl hi dX10_more_89 ?_
  refine lv_iadd hx hb dX10_more_90 ?_
  obtain ⟨y9, ey9, hf⟩ := lx_s hf
  rw [← ey9]
  refine lv_istore_n (lv' := [(3, .int y9), (2, .int (x2 + r7)), (4, .int s0), (0, .ref A_t), (1, .int x1), (5, .int x5)]) hx hb dX10_more_91 rfl hl (by decide) rfl (fun ls hl => ?_)
  refine lv_iinc (v := x5 + 1) (lv' := [(5, .int (x5 + 1)), (3, .int y9), (2, .int (x2 + r7)), (4, .int s0), (0, .ref A_t), (1, .int x1)]) hx hb dX10_more_92 hl (k := 5) rfl rfl (by decide) rfl (fun ls hl => ?_)
  refine lv_goto (tgt := 23) hx hb dX10_more_95 (by decide) ?_
  exact hrc (x2 + r7) y9 s0 (x5 + 1) _ _ _ hf (lv_sub hl [4, 5, 2, 1, 3, 0] rfl) hw
set_option maxHeartbeats 4000000 in
set_option maxRecDepth 100000 in
theorem wn_X10_more_j70 {p : Program} {l : Launch} {e : Env} {s : State} {m : MethodId} {args : Array Value} {below : List Frame} {meth : Method} {c : Code} {G : gw_} {A : Nat → Prop} {Q : State → Prop} {A_t : Nat} {A_t_steps : Nat} {A_t_wet : Nat} {A_t_where : Nat} {A_t_home : Nat} {A_t_light : Nat} {A_t_carries : Nat} {A_t_sightPlace : Nat} {A_t_sightLight : Nat} {A_t_pad : Nat} {A_t_act : Nat} {A_t_whose : Nat} {A_t_whom : Nat} {A_t_tens : Nat} {A_t_had : Nat} {A_t_leaves : Nat} {A_t_apart : Nat} {A_t_stop : Nat} {A_t_restOf : Nat} {A_t_group : Nat} {A_t_along : Nat} {A_t_kept : Nat} {A_t_isKept : Nat} {c_t_foggy : Int32} {c_t_walkers : Int32} {c_t_sights : Int32} {c_t_padMany : Int32} {c_t_acts : Int32} {c_t_spent : Int32} {c_t_walks : Int32} {c_t_badAct : Int32} {c_t_badWhy : Int32} {c_t_keptAt : Int32} {c_t_isWriting : Int32} {c_t_steps : Nat → Int32} {c_t_wet : Nat → Int32} {c_t_where : Nat → Int32} {c_t_home : Nat → Int32} {c_t_light : Nat → Int32} {c_t_apart : Nat → Int32} {z_t_apart : Nat → Int32} {r : Int32} {x1 : Int32} {x2 : Int32} {x3 : Int32} {x5 : Int32} {rc : Int32 → Int32 → Int32 → Int32 → Option (Int32 × (Nat → Int32))} {k : Int32 → Int32 → Int32 → Option (Int32 × (Nat → Int32))} (hC : cx_ p s m c G cX10_more 6 RX10) (hret : ∀ (pc : Nat) (H : Heap) (locs : List Loc) (ls : Array Slot), decode cX10_more pc = .ok (.ireturn, 1) → wd_ G A s.heap (wl_X10_more G A_t A_t_steps A_t_wet A_t_where A_t_home A_t_light A_t_carries A_t_sightPlace A_t_sightLight A_t_pad A_t_act A_t_whose A_t_whom A_t_tens A_t_had A_t_leaves A_t_apart A_t_stop A_t_restOf A_t_group A_t_along A_t_kept A_t_isKept c_t_foggy c_t_walkers c_t_sights c_t_padMany c_t_acts c_t_spent c_t_walks c_t_badAct c_t_badWhy c_t_keptAt c_t_isWriting c_t_steps c_t_wet c_t_where c_t_home c_t_light z_t_apart) H locs → W p l e { frames := 4, cells := 0, slots := 0, locals := 91 } s m args below meth c H locs 0 0 Q (F0 m pc ls [.int r])) (hrc : ∀ (x2 : Int32) (x3 : Int32) (x4 : Int32) (x5 : Int32) (H : Heap) (locs : List Loc) (ls : Array Slot), rc x2 x3 x4 x5 = some (r, z_t_apart) → lv_has ls 6 [(0, .ref A_t), (1, .int x1), (2, .int x2), (3, .int x3), (4, .int x4), (5, .int x5)] → wd_ G A s.heap (wl_X10_more G A_t A_t_steps A_t_wet A_t_where A_t_home A_t_light A_t_carries A_t_sightPlace A_t_sightLight A_t_pad A_t_act A_t_whose A_t_whom A_t_tens A_t_had A_t_leaves A_t_apart A_t_stop A_t_restOf A_t_group A_t_along A_t_kept A_t_isKept c_t_foggy c_t_walkers c_t_sights c_t_padMany c_t_acts c_t_spent c_t_walks c_t_badAct c_t_badWhy c_t_keptAt c_t_isWriting c_t_steps c_t_wet c_t_where c_t_home c_t_light c_t_apart) H locs → W p l e { frames := 4, cells := 0, slots := 0, locals := 91 } s m args below meth c H locs 0 0 Q (F0 m 23 ls [])) (hk : ∀ (x2 : Int32) (x3 : Int32) (x4 : Int32) (H : Heap) (locs : List Loc) (ls : Array Slot), k x2 x3 x4 = some (r, z_t_apart) → lv_has ls 6 [(2, .int x2), (3, .int x3), (4, .int x4)] → wd_ G A s.heap (wl_X10_more G A_t A_t_steps A_t_wet A_t_where A_t_home A_t_light A_t_carries A_t_sightPlace A_t_sightLight A_t_pad A_t_act A_t_whose A_t_whom A_t_tens A_t_had A_t_leaves A_t_apart A_t_stop A_t_restOf A_t_group A_t_along A_t_kept A_t_isKept c_t_foggy c_t_walkers c_t_sights c_t_padMany c_t_acts c_t_spent c_t_walks c_t_badAct c_t_badWhy c_t_keptAt c_t_isWriting c_t_steps c_t_wet c_t_where c_t_home c_t_light c_t_apart) H locs → W p l e { frames := 4, cells := 0, slots := 0, locals := 91 } s m args below meth c H locs 0 0 Q (F0 m 98 ls [])) (hf : fn_X10_more_j70 c_t_where c_t_home c_t_light c_t_apart x2 x3 x5 rc k = some (r, z_t_apart)) {H : Heap} {locs : List Loc} {ls : Array Slot} (hl : lv_has ls 6 [(0, .ref A_t), (1, .int x1), (2, .int x2), (3, .int x3), (5, .int x5)]) (hw : wd_ G A s.heap (wl_X10_more G A_t A_t_steps A_t_wet A_t_where A_t_home A_t_light A_t_carries A_t_sightPlace A_t_sightLight A_t_pad A_t_act A_t_whose A_t_whom A_t_tens A_t_had A_t_leaves A_t_apart A_t_stop A_t_restOf A_t_group A_t_along A_t_kept A_t_isKept c_t_foggy c_t_walkers c_t_sights c_t_padMany c_t_acts c_t_spent c_t_walks c_t_badAct c_t_badWhy c_t_keptAt c_t_isWriting c_t_steps c_t_wet c_t_where c_t_home c_t_light c_t_apart) H locs) : W p l e { frames := 4, cells := 0, slots := 0, locals := 91 } s m args below meth c H locs 0 0 Q (F0 m 70 ls []) := by
  have hx := hC.1
  have hb := hC.2.1
  unfold fn_X10_more_j70 at hf
  refine lv_iconst (v := 0) hx hb dX10_more_70 (by decide) ?_
  exact wn_X10_more_j71 hC hret hrc hk hf (lv_sub hl [0, 1, 2, 3, 4] rfl) hw
set_option maxHeartbeats 4000000 in
set_option maxRecDepth 100000 in
theorem wn_X10_more_l23 {p : Program} {l : Launch} {e : Env} {s : State} {m : MethodId} {args : Array Value} {below : List Frame} {meth : Method} {c : Code} {G : gw_} {A : Nat → Prop} {Q : State → Prop} {A_t : Nat} {A_t_steps : Nat} {A_t_wet : Nat} {A_t_where : Nat} {A_t_home : Nat} {A_t_light : Nat} {A_t_carries : Nat} {A_t_sightPlace : Nat} {A_t_sightLight : Nat} {A_t_pad : Nat} {A_t_act : Nat} {A_t_whose : Nat} {A_t_whom : Nat} {A_t_tens : Nat} {A_t_had : Nat} {A_t_leaves : Nat} {A_t_apart : Nat} {A_t_stop : Nat} {A_t_restOf : Nat} {A_t_group : Nat} {A_t_along : Nat} {A_t_kept : Nat} {A_t_isKept : Nat} {c_t_foggy : Int32} {c_t_walkers : Int32} {c_t_sights : Int32} {c_t_padMany : Int32} {c_t_acts : Int32} {c_t_spent : Int32} {c_t_walks : Int32} {c_t_badAct : Int32} {c_t_badWhy : Int32} {c_t_keptAt : Int32} {c_t_isWriting : Int32} {c_t_steps : Nat → Int32} {c_t_wet : Nat → Int32} {c_t_where : Nat → Int32} {c_t_home : Nat → Int32} {c_t_light : Nat → Int32} {c_t_apart : Nat → Int32} {z_t_apart : Nat → Int32} {r : Int32} {x1 : Int32} {k : Int32 → Int32 → Int32 → Option (Int32 × (Nat → Int32))} (hC : cx_ p s m c G cX10_more 6 RX10) (hret : ∀ (pc : Nat) (H : Heap) (locs : List Loc) (ls : Array Slot), decode cX10_more pc = .ok (.ireturn, 1) → wd_ G A s.heap (wl_X10_more G A_t A_t_steps A_t_wet A_t_where A_t_home A_t_light A_t_carries A_t_sightPlace A_t_sightLight A_t_pad A_t_act A_t_whose A_t_whom A_t_tens A_t_had A_t_leaves A_t_apart A_t_stop A_t_restOf A_t_group A_t_along A_t_kept A_t_isKept c_t_foggy c_t_walkers c_t_sights c_t_padMany c_t_acts c_t_spent c_t_walks c_t_badAct c_t_badWhy c_t_keptAt c_t_isWriting c_t_steps c_t_wet c_t_where c_t_home c_t_light z_t_apart) H locs → W p l e { frames := 4, cells := 0, slots := 0, locals := 91 } s m args below meth c H locs 0 0 Q (F0 m pc ls [.int r])) (hk : ∀ (x2 : Int32) (x3 : Int32) (x4 : Int32) (H : Heap) (locs : List Loc) (ls : Array Slot), k x2 x3 x4 = some (r, z_t_apart) → lv_has ls 6 [(2, .int x2), (3, .int x3), (4, .int x4)] → wd_ G A s.heap (wl_X10_more G A_t A_t_steps A_t_wet A_t_where A_t_home A_t_light A_t_carries A_t_sightPlace A_t_sightLight A_t_pad A_t_act A_t_whose A_t_whom A_t_tens A_t_had A_t_leaves A_t_apart A_t_stop A_t_restOf A_t_group A_t_along A_t_kept A_t_isKept c_t_foggy c_t_walkers c_t_sights c_t_padMany c_t_acts c_t_spent c_t_walks c_t_badAct c_t_badWhy c_t_keptAt c_t_isWriting c_t_steps c_t_wet c_t_where c_t_home c_t_light c_t_apart) H locs → W p l e { frames := 4, cells := 0, slots := 0, locals := 91 } s m args below meth c H locs 0 0 Q (F0 m 98 ls [])) : ∀ (n : Nat) (x2 : Int32) (x3 : Int32) (x4 : Int32) (x5 : Int32) (H : Heap) (locs : List Loc) (ls : Array Slot), fn_X10_more_l23 c_t_walkers c_t_where c_t_home c_t_light c_t_apart x1 k n x2 x3 x4 x5 = some (r, z_t_apart) → lv_has ls 6 [(0, .ref A_t), (1, .int x1), (2, .int x2), (3, .int x3), (4, .int x4), (5, .int x5)] → wd_ G A s.heap (wl_X10_more G A_t A_t_steps A_t_wet A_t_where A_t_home A_t_light A_t_carries A_t_sightPlace A_t_sightLight A_t_pad A_t_act A_t_whose A_t_whom A_t_tens A_t_had A_t_leaves A_t_apart A_t_stop A_t_restOf A_t_group A_t_along A_t_kept A_t_isKept c_t_foggy c_t_walkers c_t_sights c_t_padMany c_t_acts c_t_spent c_t_walks c_t_badAct c_t_badWhy c_t_keptAt c_t_isWriting c_t_steps c_t_wet c_t_where c_t_home c_t_light c_t_apart) H locs → W p l e { frames := 4, cells := 0, slots := 0, locals := 91 } s m args below meth c H locs 0 0 Q (F0 m 23 ls []) := by
  have hx := hC.1
  have hb := hC.2.1
  intro n
  induction n with
  | zero =>
    intro x2 x3 x4 x5 H locs ls hf
    cases (show (none : Option (Int32 × (Nat → Int32))) = some _ from hf)
  | succ n hrc =>
    intro x2 x3 x4 x5 H locs ls hf hl hw
    replace hf : fn_X10_more_b23 c_t_walkers c_t_where c_t_home c_t_light c_t_apart x1 (fn_X10_more_l23 c_t_walkers c_t_where c_t_home c_t_light c_t_apart x1 k n) k x2 x3 x4 x5 = some (r, z_t_apart) := hf
    unfold fn_X10_more_b23 at hf
    refine lv_iload hx hb dX10_more_23 (lv_at hl 5 rfl) ?_
    refine lv_bipush (v := 6) hx hb dX10_more_25 (by decide) ?_
    refine lv_icmp_ge (tgt := 98) hx hb dX10_more_27 (by decide) (fun hc => ?_) (fun hc => ?_)
    · replace hf := it_t hc hf
      exact hk x2 x3 x4 _ _ _ hf (lv_sub hl [2, 3, 4] rfl) hw
    · replace hf := it_f hc hf
      refine lv_aload_n hx hb dX10_more_30 rfl (lv_at hl 0 rfl) ?_
      refine lv_iload hx hb dX10_more_31 (lv_at hl 5 rfl) ?_
      obtain ⟨r5, hq6, hf⟩ := b1_s hf
      refine h_cVi hC hw mvX10_106 (cn_X10_isWalker l G A_t A_t_steps A_t_wet A_t_where A_t_home A_t_light A_t_carries A_t_sightPlace A_t_sightLight A_t_pad A_t_act A_t_whose A_t_whom A_t_tens A_t_had A_t_leaves A_t_apart A_t_stop A_t_restOf A_t_group A_t_along A_t_kept A_t_isKept c_t_foggy c_t_walkers c_t_sights c_t_padMany c_t_acts c_t_spent c_t_walks c_t_badAct c_t_badWhy c_t_keptAt c_t_isWriting x5 r5 hq6) [0] rfl (by decide) 0 rfl rfl rfl hl.1 rfl (Nat.le_of_ble_eq_true rfl) ⟨Nat.le_of_ble_eq_true rfl, Nat.le_of_ble_eq_true rfl⟩ ⟨Nat.le_refl _, Nat.le_refl _⟩ dX10_more_33 (fun H locs hw => ?_)
      refine lv_if_eq (tgt := 92) hx hb dX10_more_36 (by decide) (fun hc => ?_) (fun hc => ?_)
      · replace hf := it_t hc hf
        refine lv_iinc (v := x5 + 1) (lv' := [(5, .int (x5 + 1)), (0, .ref A_t), (1, .int x1), (2, .int x2), (3, .int x3), (4, .int x4)]) hx hb dX10_more_92 hl (k := 5) rfl rfl (by decide) rfl (fun ls hl => ?_)
        refine lv_goto (tgt := 23) hx hb dX10_more_95 (by decide) ?_
        exact hrc x2 x3 x4 (x5 + 1) _ _ _ hf (lv_sub hl [1, 2, 3, 4, 5, 0] rfl) hw
      · replace hf := it_f hc hf
        refine lv_aload_n hx hb dX10_more_39 rfl (lv_at hl 0 rfl) ?_
        refine g_get hC hw fkX10_16 0 rfl rfl dX10_more_40 ?_
        refine lv_iload hx hb dX10_more_43 (lv_at hl 5 rfl) ?_
        obtain ⟨hi, hf⟩ := ck_s hf
        refine g_iald hC hw 3 rfl hi dX10_more_45 ?_
        refine lv_iload_n hx hb dX10_more_46 rfl (lv_at hl 1 rfl) ?_
        refine lv_icmp_ne (tgt := 92) hx hb dX10_more_47 (by decide) (fun hc => ?_) (fun hc => ?_)
        · replace hf := it_f hc hf
          refine lv_iinc (v := x5 + 1) (lv' := [(5, .int (x5 + 1)), (0, .ref A_t), (1, .int x1), (2, .int x2), (3, .int x3), (4, .int x4)]) hx hb dX10_more_92 hl (k := 5) rfl rfl (by decide) rfl (fun ls hl => ?_)
          refine lv_goto (tgt := 23) hx hb dX10_more_95 (by decide) ?_
          exact hrc x2 x3 x4 (x5 + 1) _ _ _ hf (lv_sub hl [1, 2, 3, 4, 5, 0] rfl) hw
        · replace hf := it_t hc hf
          refine lv_iload hx hb dX10_more_50 (lv_at hl 4 rfl) ?_
          refine lv_if_eq (tgt := 70) hx hb dX10_more_52 (by decide) (fun hc => ?_) (fun hc => ?_)
          · replace hf := it_t hc hf
            exact wn_X10_more_j70 hC hret hrc hk hf (lv_sub hl [0, 1, 2, 3, 5] rfl) hw
          · replace hf := it_f hc hf
            refine lv_aload_n hx hb dX10_more_55 rfl (lv_at hl 0 rfl) ?_
            refine lv_iload hx hb dX10_more_56 (lv_at hl 5 rfl) ?_
            obtain ⟨r10, hq11, hf⟩ := b1_s hf
            refine h_cVi hC hw mvX10_225 (cn_X10_homeWay l G A_t A_t_steps A_t_wet A_t_where A_t_home A_t_light A_t_carries A_t_sightPlace A_t_sightLight A_t_pad A_t_act A_t_whose A_t_whom A_t_tens A_t_had A_t_leaves A_t_apart A_t_stop A_t_restOf A_t_group A_t_along A_t_kept A_t_isKept c_t_foggy c_t_walkers c_t_sights c_t_padMany c_t_acts c_t_spent c_t_walks c_t_badAct c_t_badWhy c_t_keptAt c_t_isWriting c_t_where c_t_home c_t_apart x5 r10 hq11) [0, 3, 4, 6] rfl (by decide) 0 rfl rfl rfl hl.1 rfl (Nat.le_of_ble_eq_true rfl) ⟨Nat.le_of_ble_eq_true rfl, Nat.le_of_ble_eq_true rfl⟩ ⟨Nat.le_refl _, Nat.le_refl _⟩ dX10_more_58 (fun H locs hw => ?_)
            refine g_ldc (v := 1000000) hC (tb5 17 rfl rfl) dX10_more_61 ?_
            refine lv_icmp_ge (tgt := 70) hx hb dX10_more_63 (by decide) (fun hc => ?_) (fun hc => ?_)
            · replace hf := it_t hc hf
              exact wn_X10_more_j70 hC hret hrc hk hf (lv_sub hl [0, 1, 2, 3, 5] rfl) hw
            · replace hf := it_f hc hf
              refine lv_iconst (v := 1) hx hb dX10_more_66 (by decide) ?_
              refine lv_goto (tgt := 71) hx hb dX10_more_67 (by decide) ?_
              exact wn_X10_more_j71 hC hret hrc hk hf (lv_sub hl [0, 1, 2, 3, 5] rfl) hw
set_option maxHeartbeats 4000000 in
set_option maxRecDepth 100000 in
theorem wn_X10_more {p : Program} {l : Launch} {e : Env} {s : State} {m : MethodId} {args : Array Value} {below : List Frame} {meth : Method} {c : Code} {G : gw_} {A : Nat → Prop} {Q : State → Prop} {A_t : Nat} {A_t_steps : Nat} {A_t_wet : Nat} {A_t_where : Nat} {A_t_home : Nat} {A_t_light : Nat} {A_t_carries : Nat} {A_t_sightPlace : Nat} {A_t_sightLight : Nat} {A_t_pad : Nat} {A_t_act : Nat} {A_t_whose : Nat} {A_t_whom : Nat} {A_t_tens : Nat} {A_t_had : Nat} {A_t_leaves : Nat} {A_t_apart : Nat} {A_t_stop : Nat} {A_t_restOf : Nat} {A_t_group : Nat} {A_t_along : Nat} {A_t_kept : Nat} {A_t_isKept : Nat} {c_t_foggy : Int32} {c_t_walkers : Int32} {c_t_sights : Int32} {c_t_padMany : Int32} {c_t_acts : Int32} {c_t_spent : Int32} {c_t_walks : Int32} {c_t_badAct : Int32} {c_t_badWhy : Int32} {c_t_keptAt : Int32} {c_t_isWriting : Int32} {c_t_steps : Nat → Int32} {c_t_wet : Nat → Int32} {c_t_where : Nat → Int32} {c_t_home : Nat → Int32} {c_t_light : Nat → Int32} {c_t_apart : Nat → Int32} {z_t_apart : Nat → Int32} {r : Int32} {x1 : Int32} (hC : cx_ p s m c G cX10_more 6 RX10) (hret : ∀ (pc : Nat) (H : Heap) (locs : List Loc) (ls : Array Slot), decode cX10_more pc = .ok (.ireturn, 1) → wd_ G A s.heap (wl_X10_more G A_t A_t_steps A_t_wet A_t_where A_t_home A_t_light A_t_carries A_t_sightPlace A_t_sightLight A_t_pad A_t_act A_t_whose A_t_whom A_t_tens A_t_had A_t_leaves A_t_apart A_t_stop A_t_restOf A_t_group A_t_along A_t_kept A_t_isKept c_t_foggy c_t_walkers c_t_sights c_t_padMany c_t_acts c_t_spent c_t_walks c_t_badAct c_t_badWhy c_t_keptAt c_t_isWriting c_t_steps c_t_wet c_t_where c_t_home c_t_light z_t_apart) H locs → W p l e { frames := 4, cells := 0, slots := 0, locals := 91 } s m args below meth c H locs 0 0 Q (F0 m pc ls [.int r])) (hf : fn_X10_more c_t_foggy c_t_walkers c_t_steps c_t_wet c_t_where c_t_home c_t_light c_t_apart x1 = some (r, z_t_apart)) {H : Heap} {locs : List Loc} {ls : Array Slot} (hl : lv_has ls 6 [(0, .ref A_t), (1, .int x1)]) (hw : wd_ G A s.heap (wl_X10_more G A_t A_t_steps A_t_wet A_t_where A_t_home A_t_light A_t_carries A_t_sightPlace A_t_sightLight A_t_pad A_t_act A_t_whose A_t_whom A_t_tens A_t_had A_t_leaves A_t_apart A_t_stop A_t_restOf A_t_group A_t_along A_t_kept A_t_isKept c_t_foggy c_t_walkers c_t_sights c_t_padMany c_t_acts c_t_spent c_t_walks c_t_badAct c_t_badWhy c_t_keptAt c_t_isWriting c_t_steps c_t_wet c_t_where c_t_home c_t_light c_t_apart) H locs) : W p l e { frames := 4, cells := 0, slots := 0, locals := 91 } s m args below meth c H locs 0 0 Q (F0 m 0 ls []) := by
  have hx := hC.1
  have hb := hC.2.1
  unfold fn_X10_more at hf
  refine lv_iload_n hx hb dX10_more_0 rfl (lv_at hl 1 rfl) ?_
  obtain ⟨r1, hq2, hf⟩ := b1_s hf
  refine h_cSi hC hw msX10_100 (cn_X10_isPlace l G x1 r1 hq2) [] rfl (by decide) rfl hl.1 rfl (Nat.le_of_ble_eq_true rfl) ⟨Nat.le_of_ble_eq_true rfl, Nat.le_of_ble_eq_true rfl⟩ ⟨Nat.le_refl _, Nat.le_refl _⟩ dX10_more_1 (fun H locs hw => ?_)
  refine lv_if_ne (tgt := 9) hx hb dX10_more_4 (by decide) (fun hc => ?_) (fun hc => ?_)
  · replace hf := it_f hc hf
    refine lv_aload_n hx hb dX10_more_9 rfl (lv_at hl 0 rfl) ?_
    obtain ⟨w3, hq4, hf⟩ := b1_s hf
    refine g_cVv hC hw mvX10_219 (cn_X10_findWays l G A_t A_t_steps A_t_wet A_t_where A_t_home A_t_light A_t_carries A_t_sightPlace A_t_sightLight A_t_pad A_t_act A_t_whose A_t_whom A_t_tens A_t_had A_t_leaves A_t_apart A_t_stop A_t_restOf A_t_group A_t_along A_t_kept A_t_isKept c_t_foggy c_t_walkers c_t_sights c_t_padMany c_t_acts c_t_spent c_t_walks c_t_badAct c_t_badWhy c_t_keptAt c_t_isWriting c_t_steps c_t_wet c_t_apart w3 hq4) [0, 1, 2, 6] rfl (by decide) rfl 0 rfl rfl rfl hl.1 rfl (Nat.le_of_ble_eq_true rfl) ⟨Nat.le_of_ble_eq_true rfl, Nat.le_of_ble_eq_true rfl⟩ ⟨Nat.le_refl _, Nat.le_refl _⟩ dX10_more_10 (fun H locs hw => ?_)
    have hw : wd_ G A s.heap (wl_X10_more G A_t A_t_steps A_t_wet A_t_where A_t_home A_t_light A_t_carries A_t_sightPlace A_t_sightLight A_t_pad A_t_act A_t_whose A_t_whom A_t_tens A_t_had A_t_leaves A_t_apart A_t_stop A_t_restOf A_t_group A_t_along A_t_kept A_t_isKept c_t_foggy c_t_walkers c_t_sights c_t_padMany c_t_acts c_t_spent c_t_walks c_t_badAct c_t_badWhy c_t_keptAt c_t_isWriting c_t_steps c_t_wet c_t_where c_t_home c_t_light w3) H locs := hw
    refine lv_iconst (v := 0) hx hb dX10_more_13 (by decide) ?_
    refine lv_istore_n (lv' := [(2, .int 0), (0, .ref A_t), (1, .int x1)]) hx hb dX10_more_14 rfl hl (by decide) rfl (fun ls hl => ?_)
    refine lv_iconst (v := 0) hx hb dX10_more_15 (by decide) ?_
    refine lv_istore_n (lv' := [(3, .int 0), (2, .int 0), (0, .ref A_t), (1, .int x1)]) hx hb dX10_more_16 rfl hl (by decide) rfl (fun ls hl => ?_)
    refine lv_iconst (v := 1) hx hb dX10_more_17 (by decide) ?_
    refine lv_istore (lv' := [(4, .int 1), (3, .int 0), (2, .int 0), (0, .ref A_t), (1, .int x1)]) hx hb dX10_more_18 hl (by decide) rfl (fun ls hl => ?_)
    refine lv_iconst (v := 0) hx hb dX10_more_20 (by decide) ?_
    refine lv_istore (lv' := [(5, .int 0), (4, .int 1), (3, .int 0), (2, .int 0), (0, .ref A_t), (1, .int x1)]) hx hb dX10_more_21 hl (by decide) rfl (fun ls hl => ?_)
    refine wn_X10_more_l23 hC hret (fun v12 v13 v14 H locs ls hf hl hw => ?_) fu_ 0 0 1 0 _ _ _ hf (lv_sub hl [4, 5, 3, 2, 1, 0] rfl) hw
    refine lv_iload hx hb dX10_more_98 (lv_at hl 2 rfl) ?_
    refine lv_if_ne (tgt := 108) hx hb dX10_more_100 (by decide) (fun hc => ?_) (fun hc => ?_)
    · replace hf := it_f hc hf
      refine lv_iload_n hx hb dX10_more_108 rfl (lv_at hl 0 rfl) ?_
      refine lv_iload_n hx hb dX10_more_109 rfl (lv_at hl 1 rfl) ?_
      refine lv_icmp_le (tgt := 119) hx hb dX10_more_110 (by decide) (fun hc => ?_) (fun hc => ?_)
      · replace hf := it_t hc hf
        refine lv_iconst (v := 0) hx hb dX10_more_119 (by decide) ?_
        obtain ⟨h1_, h2_⟩ := t2_ hf
        subst h1_
        subst h2_
        exact hret _ _ _ _ dX10_more_120 hw
      · replace hf := it_f hc hf
        refine lv_iload_n hx hb dX10_more_113 rfl (lv_at hl 0 rfl) ?_
        refine lv_iload_n hx hb dX10_more_114 rfl (lv_at hl 1 rfl) ?_
        refine lv_isub hx hb dX10_more_115 ?_
        refine lv_goto (tgt := 120) hx hb dX10_more_116 (by decide) ?_
        obtain ⟨h1_, h2_⟩ := t2_ hf
        subst h1_
        subst h2_
        exact hret _ _ _ _ dX10_more_120 hw
    · replace hf := it_t hc hf
      refine lv_bipush (v := (-6)) hx hb dX10_more_103 (by decide) ?_
      refine lv_goto (tgt := 120) hx hb dX10_more_105 (by decide) ?_
      obtain ⟨h1_, h2_⟩ := t2_ hf
      subst h1_
      subst h2_
      exact hret _ _ _ _ dX10_more_120 hw
  · replace hf := it_t hc hf
    refine lv_iconst (v := (-1)) hx hb dX10_more_7 (by decide) ?_
    obtain ⟨h1_, h2_⟩ := t2_ hf
    subst h1_
    subst h2_
    exact hret _ _ _ _ dX10_more_8 hw
set_option maxHeartbeats 4000000 in
set_option maxRecDepth 100000 in
theorem cn_X10_more (l : Launch) (G : gw_) (A_t : Nat) (A_t_steps : Nat) (A_t_wet : Nat) (A_t_where : Nat) (A_t_home : Nat) (A_t_light : Nat) (A_t_carries : Nat) (A_t_sightPlace : Nat) (A_t_sightLight : Nat) (A_t_pad : Nat) (A_t_act : Nat) (A_t_whose : Nat) (A_t_whom : Nat) (A_t_tens : Nat) (A_t_had : Nat) (A_t_leaves : Nat) (A_t_apart : Nat) (A_t_stop : Nat) (A_t_restOf : Nat) (A_t_group : Nat) (A_t_along : Nat) (A_t_kept : Nat) (A_t_isKept : Nat) (c_t_foggy : Int32) (c_t_walkers : Int32) (c_t_sights : Int32) (c_t_padMany : Int32) (c_t_acts : Int32) (c_t_spent : Int32) (c_t_walks : Int32) (c_t_badAct : Int32) (c_t_badWhy : Int32) (c_t_keptAt : Int32) (c_t_isWriting : Int32) (c_t_steps : Nat → Int32) (c_t_wet : Nat → Int32) (c_t_where : Nat → Int32) (c_t_home : Nat → Int32) (c_t_light : Nat → Int32) (c_t_apart : Nat → Int32) (x1 : Int32) (r : Int32) (z_t_apart : Nat → Int32) (hf : fn_X10_more c_t_foggy c_t_walkers c_t_steps c_t_wet c_t_where c_t_home c_t_light c_t_apart x1 = some (r, z_t_apart)) : ci_ l G yX10_more cX10_more 6 (some .int) 4 91 (wl_X10_more G A_t A_t_steps A_t_wet A_t_where A_t_home A_t_light A_t_carries A_t_sightPlace A_t_sightLight A_t_pad A_t_act A_t_whose A_t_whom A_t_tens A_t_had A_t_leaves A_t_apart A_t_stop A_t_restOf A_t_group A_t_along A_t_kept A_t_isKept c_t_foggy c_t_walkers c_t_sights c_t_padMany c_t_acts c_t_spent c_t_walks c_t_badAct c_t_badWhy c_t_keptAt c_t_isWriting c_t_steps c_t_wet c_t_where c_t_home c_t_light c_t_apart) [.ref A_t, .int x1] r (wl_X10_more G A_t A_t_steps A_t_wet A_t_where A_t_home A_t_light A_t_carries A_t_sightPlace A_t_sightLight A_t_pad A_t_act A_t_whose A_t_whom A_t_tens A_t_had A_t_leaves A_t_apart A_t_stop A_t_restOf A_t_group A_t_along A_t_kept A_t_isKept c_t_foggy c_t_walkers c_t_sights c_t_padMany c_t_acts c_t_spent c_t_walks c_t_badAct c_t_badWhy c_t_keptAt c_t_isWriting c_t_steps c_t_wet c_t_where c_t_home c_t_light z_t_apart) := fun sz => met_intro (by decide) (Nat.le_of_ble_eq_true rfl) (fun p e s m args below meth c ls hsz hC hr hlk hnm hl hw => wn_X10_more hC (fun pc H locs ls hd hw => g_iret hC hr hlk hw rfl rfl hd) hf hl hw)

theorem dX10_beginGroups_0 : decode cX10_beginGroups 0 = .ok (.iconst 0, 1) := by decide +kernel
theorem dX10_beginGroups_1 : decode cX10_beginGroups 1 = .ok (.istore_n 1, 1) := by decide +kernel
theorem dX10_beginGroups_2 : decode cX10_beginGroups 2 = .ok (.iload_n 1, 1) := by decide +kernel
theorem dX10_beginGroups_3 : decode cX10_beginGroups 3 = .ok (.bipush 12, 2) := by decide +kernel
theorem dX10_beginGroups_5 : decode cX10_beginGroups 5 = .ok (.if_icmp .ge 16, 3) := by decide +kernel
theorem dX10_beginGroups_8 : decode cX10_beginGroups 8 = .ok (.aload_n 0, 1) := by decide +kernel
theorem dX10_beginGroups_9 : decode cX10_beginGroups 9 = .ok (.getfield 64, 3) := by decide +kernel
theorem dX10_beginGroups_12 : decode cX10_beginGroups 12 = .ok (.iload_n 1, 1) := by decide +kernel
theorem dX10_beginGroups_13 : decode cX10_beginGroups 13 = .ok (.iload_n 1, 1) := by decide +kernel
theorem dX10_beginGroups_14 : decode cX10_beginGroups 14 = .ok (.iastore, 1) := by decide +kernel
theorem dX10_beginGroups_15 : decode cX10_beginGroups 15 = .ok (.iinc 1 1, 3) := by decide +kernel
theorem dX10_beginGroups_18 : decode cX10_beginGroups 18 = .ok (.goto (-16), 3) := by decide +kernel
theorem dX10_beginGroups_21 : decode cX10_beginGroups 21 = .ok (.return_, 1) := by decide +kernel
abbrev wl_X10_beginGroups (G : gw_) (A_t : Nat) (A_t_steps : Nat) (A_t_wet : Nat) (A_t_where : Nat) (A_t_home : Nat) (A_t_light : Nat) (A_t_carries : Nat) (A_t_sightPlace : Nat) (A_t_sightLight : Nat) (A_t_pad : Nat) (A_t_act : Nat) (A_t_whose : Nat) (A_t_whom : Nat) (A_t_tens : Nat) (A_t_had : Nat) (A_t_leaves : Nat) (A_t_apart : Nat) (A_t_stop : Nat) (A_t_restOf : Nat) (A_t_group : Nat) (A_t_along : Nat) (A_t_kept : Nat) (A_t_isKept : Nat) (c_t_foggy : Int32) (c_t_walkers : Int32) (c_t_sights : Int32) (c_t_padMany : Int32) (c_t_acts : Int32) (c_t_spent : Int32) (c_t_walks : Int32) (c_t_badAct : Int32) (c_t_badWhy : Int32) (c_t_keptAt : Int32) (c_t_isWriting : Int32) (c_t_group : Nat → Int32) : va_W := [ob_ A_t 10 [.ref A_t_steps, .ref A_t_wet, .int c_t_foggy, .int c_t_walkers, .ref A_t_where, .ref A_t_home, .ref A_t_light, .ref A_t_carries, .ref A_t_sightPlace, .ref A_t_sightLight, .int c_t_sights, .ref A_t_pad, .int c_t_padMany, .ref A_t_act, .ref A_t_whose, .ref A_t_whom, .ref A_t_tens, .int c_t_acts, .int c_t_spent, .int c_t_walks, .ref A_t_had, .ref A_t_leaves, .int c_t_badAct, .int c_t_badWhy, .ref A_t_apart, .ref A_t_stop, .ref A_t_restOf, .ref A_t_group, .ref A_t_along, .ref A_t_kept, .ref A_t_isKept, .int c_t_keptAt, .int c_t_isWriting], ia_ G A_t_group 12 c_t_group]
def fn_X10_beginGroups_b2 (rc : Int32 → (Nat → Int32) → Option ((Nat → Int32))) (k : (Nat → Int32) → Option ((Nat → Int32))) (x1 : Int32) (c_t_group : Nat → Int32) : Option ((Nat → Int32)) :=
  if 12 ≤ x1 then
    k c_t_group
  else
    ck_ x1 12 <|
    lx_ (upd c_t_group (Int32.toNatClampNeg x1) x1) fun f1 =>
    rc (x1 + 1) f1
def fn_X10_beginGroups_l2 (k : (Nat → Int32) → Option ((Nat → Int32))) : Nat → Int32 → (Nat → Int32) → Option ((Nat → Int32))
  | 0 => fun _ _ => none
  | n + 1 => fun x1 c_t_group => fn_X10_beginGroups_b2 (fn_X10_beginGroups_l2 k n) k x1 c_t_group
def fn_X10_beginGroups (c_t_group : Nat → Int32) : Option ((Nat → Int32)) :=
  fn_X10_beginGroups_l2 (fun v2 =>
    some v2) fu_ 0 c_t_group
set_option maxHeartbeats 4000000 in
set_option maxRecDepth 100000 in
theorem wn_X10_beginGroups_l2 {p : Program} {l : Launch} {e : Env} {s : State} {m : MethodId} {args : Array Value} {below : List Frame} {meth : Method} {c : Code} {G : gw_} {A : Nat → Prop} {Q : State → Prop} {A_t : Nat} {A_t_steps : Nat} {A_t_wet : Nat} {A_t_where : Nat} {A_t_home : Nat} {A_t_light : Nat} {A_t_carries : Nat} {A_t_sightPlace : Nat} {A_t_sightLight : Nat} {A_t_pad : Nat} {A_t_act : Nat} {A_t_whose : Nat} {A_t_whom : Nat} {A_t_tens : Nat} {A_t_had : Nat} {A_t_leaves : Nat} {A_t_apart : Nat} {A_t_stop : Nat} {A_t_restOf : Nat} {A_t_group : Nat} {A_t_along : Nat} {A_t_kept : Nat} {A_t_isKept : Nat} {c_t_foggy : Int32} {c_t_walkers : Int32} {c_t_sights : Int32} {c_t_padMany : Int32} {c_t_acts : Int32} {c_t_spent : Int32} {c_t_walks : Int32} {c_t_badAct : Int32} {c_t_badWhy : Int32} {c_t_keptAt : Int32} {c_t_isWriting : Int32} {z_t_group : Nat → Int32} {k : (Nat → Int32) → Option ((Nat → Int32))} (hC : cx_ p s m c G cX10_beginGroups 2 RX10) (hret : ∀ (pc : Nat) (H : Heap) (locs : List Loc) (ls : Array Slot), decode cX10_beginGroups pc = .ok (.return_, 1) → wd_ G A s.heap (wl_X10_beginGroups G A_t A_t_steps A_t_wet A_t_where A_t_home A_t_light A_t_carries A_t_sightPlace A_t_sightLight A_t_pad A_t_act A_t_whose A_t_whom A_t_tens A_t_had A_t_leaves A_t_apart A_t_stop A_t_restOf A_t_group A_t_along A_t_kept A_t_isKept c_t_foggy c_t_walkers c_t_sights c_t_padMany c_t_acts c_t_spent c_t_walks c_t_badAct c_t_badWhy c_t_keptAt c_t_isWriting z_t_group) H locs → W p l e { frames := 0, cells := 0, slots := 0, locals := 0 } s m args below meth c H locs 0 0 Q (F0 m pc ls [])) (hk : ∀ (c_t_group : Nat → Int32) (H : Heap) (locs : List Loc) (ls : Array Slot), k c_t_group = some z_t_group → lv_has ls 2 [] → wd_ G A s.heap (wl_X10_beginGroups G A_t A_t_steps A_t_wet A_t_where A_t_home A_t_light A_t_carries A_t_sightPlace A_t_sightLight A_t_pad A_t_act A_t_whose A_t_whom A_t_tens A_t_had A_t_leaves A_t_apart A_t_stop A_t_restOf A_t_group A_t_along A_t_kept A_t_isKept c_t_foggy c_t_walkers c_t_sights c_t_padMany c_t_acts c_t_spent c_t_walks c_t_badAct c_t_badWhy c_t_keptAt c_t_isWriting c_t_group) H locs → W p l e { frames := 0, cells := 0, slots := 0, locals := 0 } s m args below meth c H locs 0 0 Q (F0 m 21 ls [])) : ∀ (n : Nat) (x1 : Int32) (c_t_group : Nat → Int32) (H : Heap) (locs : List Loc) (ls : Array Slot), fn_X10_beginGroups_l2 k n x1 c_t_group = some z_t_group → lv_has ls 2 [(0, .ref A_t), (1, .int x1)] → wd_ G A s.heap (wl_X10_beginGroups G A_t A_t_steps A_t_wet A_t_where A_t_home A_t_light A_t_carries A_t_sightPlace A_t_sightLight A_t_pad A_t_act A_t_whose A_t_whom A_t_tens A_t_had A_t_leaves A_t_apart A_t_stop A_t_restOf A_t_group A_t_along A_t_kept A_t_isKept c_t_foggy c_t_walkers c_t_sights c_t_padMany c_t_acts c_t_spent c_t_walks c_t_badAct c_t_badWhy c_t_keptAt c_t_isWriting c_t_group) H locs → W p l e { frames := 0, cells := 0, slots := 0, locals := 0 } s m args below meth c H locs 0 0 Q (F0 m 2 ls []) := by
  have hx := hC.1
  have hb := hC.2.1
  intro n
  induction n with
  | zero =>
    intro x1 c_t_group H locs ls hf
    cases (show (none : Option ((Nat → Int32))) = some _ from hf)
  | succ n hrc =>
    intro x1 c_t_group H locs ls hf hl hw
    replace hf : fn_X10_beginGroups_b2 (fn_X10_beginGroups_l2 k n) k x1 c_t_group = some z_t_group := hf
    unfold fn_X10_beginGroups_b2 at hf
    refine lv_iload_n hx hb dX10_beginGroups_2 rfl (lv_at hl 1 rfl) ?_
    refine lv_bipush (v := 12) hx hb dX10_beginGroups_3 (by decide) ?_
    refine lv_icmp_ge (tgt := 21) hx hb dX10_beginGroups_5 (by decide) (fun hc => ?_) (fun hc => ?_)
    · replace hf := it_t hc hf
      exact hk c_t_group _ _ _ hf (lv_sub hl [] rfl) hw
    · replace hf := it_f hc hf
      refine lv_aload_n hx hb dX10_beginGroups_8 rfl (lv_at hl 0 rfl) ?_
      refine g_get hC hw fkX10_64 0 rfl rfl dX10_beginGroups_9 ?_
      refine lv_iload_n hx hb dX10_beginGroups_12 rfl (lv_at hl 1 rfl) ?_
      refine lv_iload_n hx hb dX10_beginGroups_13 rfl (lv_at hl 1 rfl) ?_
      obtain ⟨hi, hf⟩ := ck_s hf
      obtain ⟨f1, ef1, hf⟩ := lx_s hf
      refine g_iast hC hw 1 rfl hi ef1 dX10_beginGroups_14 (fun H locs hw => ?_)
      have hw : wd_ G A s.heap (wl_X10_beginGroups G A_t A_t_steps A_t_wet A_t_where A_t_home A_t_light A_t_carries A_t_sightPlace A_t_sightLight A_t_pad A_t_act A_t_whose A_t_whom A_t_tens A_t_had A_t_leaves A_t_apart A_t_stop A_t_restOf A_t_group A_t_along A_t_kept A_t_isKept c_t_foggy c_t_walkers c_t_sights c_t_padMany c_t_acts c_t_spent c_t_walks c_t_badAct c_t_badWhy c_t_keptAt c_t_isWriting f1) H locs := hw
      refine lv_iinc (v := x1 + 1) (lv' := [(1, .int (x1 + 1)), (0, .ref A_t)]) hx hb dX10_beginGroups_15 hl (k := 1) rfl rfl (by decide) rfl (fun ls hl => ?_)
      refine lv_goto (tgt := 2) hx hb dX10_beginGroups_18 (by decide) ?_
      exact hrc (x1 + 1) f1 _ _ _ hf (lv_sub hl [1, 0] rfl) hw
set_option maxHeartbeats 4000000 in
set_option maxRecDepth 100000 in
theorem wn_X10_beginGroups {p : Program} {l : Launch} {e : Env} {s : State} {m : MethodId} {args : Array Value} {below : List Frame} {meth : Method} {c : Code} {G : gw_} {A : Nat → Prop} {Q : State → Prop} {A_t : Nat} {A_t_steps : Nat} {A_t_wet : Nat} {A_t_where : Nat} {A_t_home : Nat} {A_t_light : Nat} {A_t_carries : Nat} {A_t_sightPlace : Nat} {A_t_sightLight : Nat} {A_t_pad : Nat} {A_t_act : Nat} {A_t_whose : Nat} {A_t_whom : Nat} {A_t_tens : Nat} {A_t_had : Nat} {A_t_leaves : Nat} {A_t_apart : Nat} {A_t_stop : Nat} {A_t_restOf : Nat} {A_t_group : Nat} {A_t_along : Nat} {A_t_kept : Nat} {A_t_isKept : Nat} {c_t_foggy : Int32} {c_t_walkers : Int32} {c_t_sights : Int32} {c_t_padMany : Int32} {c_t_acts : Int32} {c_t_spent : Int32} {c_t_walks : Int32} {c_t_badAct : Int32} {c_t_badWhy : Int32} {c_t_keptAt : Int32} {c_t_isWriting : Int32} {c_t_group : Nat → Int32} {z_t_group : Nat → Int32} (hC : cx_ p s m c G cX10_beginGroups 2 RX10) (hret : ∀ (pc : Nat) (H : Heap) (locs : List Loc) (ls : Array Slot), decode cX10_beginGroups pc = .ok (.return_, 1) → wd_ G A s.heap (wl_X10_beginGroups G A_t A_t_steps A_t_wet A_t_where A_t_home A_t_light A_t_carries A_t_sightPlace A_t_sightLight A_t_pad A_t_act A_t_whose A_t_whom A_t_tens A_t_had A_t_leaves A_t_apart A_t_stop A_t_restOf A_t_group A_t_along A_t_kept A_t_isKept c_t_foggy c_t_walkers c_t_sights c_t_padMany c_t_acts c_t_spent c_t_walks c_t_badAct c_t_badWhy c_t_keptAt c_t_isWriting z_t_group) H locs → W p l e { frames := 0, cells := 0, slots := 0, locals := 0 } s m args below meth c H locs 0 0 Q (F0 m pc ls [])) (hf : fn_X10_beginGroups c_t_group = some z_t_group) {H : Heap} {locs : List Loc} {ls : Array Slot} (hl : lv_has ls 2 [(0, .ref A_t)]) (hw : wd_ G A s.heap (wl_X10_beginGroups G A_t A_t_steps A_t_wet A_t_where A_t_home A_t_light A_t_carries A_t_sightPlace A_t_sightLight A_t_pad A_t_act A_t_whose A_t_whom A_t_tens A_t_had A_t_leaves A_t_apart A_t_stop A_t_restOf A_t_group A_t_along A_t_kept A_t_isKept c_t_foggy c_t_walkers c_t_sights c_t_padMany c_t_acts c_t_spent c_t_walks c_t_badAct c_t_badWhy c_t_keptAt c_t_isWriting c_t_group) H locs) : W p l e { frames := 0, cells := 0, slots := 0, locals := 0 } s m args below meth c H locs 0 0 Q (F0 m 0 ls []) := by
  have hx := hC.1
  have hb := hC.2.1
  unfold fn_X10_beginGroups at hf
  refine lv_iconst (v := 0) hx hb dX10_beginGroups_0 (by decide) ?_
  refine lv_istore_n (lv' := [(1, .int 0), (0, .ref A_t)]) hx hb dX10_beginGroups_1 rfl hl (by decide) rfl (fun ls hl => ?_)
  refine wn_X10_beginGroups_l2 hC hret (fun v2 H locs ls hf hl hw => ?_) fu_ 0 c_t_group _ _ _ hf (lv_sub hl [1, 0] rfl) hw
  have h1_ := t1_ hf
  subst h1_
  exact hret _ _ _ _ dX10_beginGroups_21 hw
set_option maxHeartbeats 4000000 in
set_option maxRecDepth 100000 in
theorem cn_X10_beginGroups (l : Launch) (G : gw_) (A_t : Nat) (A_t_steps : Nat) (A_t_wet : Nat) (A_t_where : Nat) (A_t_home : Nat) (A_t_light : Nat) (A_t_carries : Nat) (A_t_sightPlace : Nat) (A_t_sightLight : Nat) (A_t_pad : Nat) (A_t_act : Nat) (A_t_whose : Nat) (A_t_whom : Nat) (A_t_tens : Nat) (A_t_had : Nat) (A_t_leaves : Nat) (A_t_apart : Nat) (A_t_stop : Nat) (A_t_restOf : Nat) (A_t_group : Nat) (A_t_along : Nat) (A_t_kept : Nat) (A_t_isKept : Nat) (c_t_foggy : Int32) (c_t_walkers : Int32) (c_t_sights : Int32) (c_t_padMany : Int32) (c_t_acts : Int32) (c_t_spent : Int32) (c_t_walks : Int32) (c_t_badAct : Int32) (c_t_badWhy : Int32) (c_t_keptAt : Int32) (c_t_isWriting : Int32) (c_t_group : Nat → Int32) (z_t_group : Nat → Int32) (hf : fn_X10_beginGroups c_t_group = some z_t_group) : cv_ l G yX10_beginGroups cX10_beginGroups 2 none 0 0 (wl_X10_beginGroups G A_t A_t_steps A_t_wet A_t_where A_t_home A_t_light A_t_carries A_t_sightPlace A_t_sightLight A_t_pad A_t_act A_t_whose A_t_whom A_t_tens A_t_had A_t_leaves A_t_apart A_t_stop A_t_restOf A_t_group A_t_along A_t_kept A_t_isKept c_t_foggy c_t_walkers c_t_sights c_t_padMany c_t_acts c_t_spent c_t_walks c_t_badAct c_t_badWhy c_t_keptAt c_t_isWriting c_t_group) [.ref A_t] (wl_X10_beginGroups G A_t A_t_steps A_t_wet A_t_where A_t_home A_t_light A_t_carries A_t_sightPlace A_t_sightLight A_t_pad A_t_act A_t_whose A_t_whom A_t_tens A_t_had A_t_leaves A_t_apart A_t_stop A_t_restOf A_t_group A_t_along A_t_kept A_t_isKept c_t_foggy c_t_walkers c_t_sights c_t_padMany c_t_acts c_t_spent c_t_walks c_t_badAct c_t_badWhy c_t_keptAt c_t_isWriting z_t_group) := fun sz => met_intro (by decide) (Nat.le_of_ble_eq_true rfl) (fun p e s m args below meth c ls hsz hC hr hlk hnm hl hw => wn_X10_beginGroups hC (fun pc H locs ls hd hw => g_vret hC hr hlk hw hd) hf hl hw)

theorem dX10_join_0 : decode cX10_join 0 = .ok (.aload_n 0, 1) := by decide +kernel
theorem dX10_join_1 : decode cX10_join 1 = .ok (.getfield 64, 3) := by decide +kernel
theorem dX10_join_4 : decode cX10_join 4 = .ok (.iload_n 1, 1) := by decide +kernel
theorem dX10_join_5 : decode cX10_join 5 = .ok (.iaload, 1) := by decide +kernel
theorem dX10_join_6 : decode cX10_join 6 = .ok (.istore_n 3, 1) := by decide +kernel
theorem dX10_join_7 : decode cX10_join 7 = .ok (.aload_n 0, 1) := by decide +kernel
theorem dX10_join_8 : decode cX10_join 8 = .ok (.getfield 64, 3) := by decide +kernel
theorem dX10_join_11 : decode cX10_join 11 = .ok (.iload_n 2, 1) := by decide +kernel
theorem dX10_join_12 : decode cX10_join 12 = .ok (.iaload, 1) := by decide +kernel
theorem dX10_join_13 : decode cX10_join 13 = .ok (.istore 4, 2) := by decide +kernel
theorem dX10_join_15 : decode cX10_join 15 = .ok (.iconst 0, 1) := by decide +kernel
theorem dX10_join_16 : decode cX10_join 16 = .ok (.istore 5, 2) := by decide +kernel
theorem dX10_join_18 : decode cX10_join 18 = .ok (.iload 5, 2) := by decide +kernel
theorem dX10_join_20 : decode cX10_join 20 = .ok (.bipush 12, 2) := by decide +kernel
theorem dX10_join_22 : decode cX10_join 22 = .ok (.if_icmp .ge 39, 3) := by decide +kernel
theorem dX10_join_25 : decode cX10_join 25 = .ok (.aload_n 0, 1) := by decide +kernel
theorem dX10_join_26 : decode cX10_join 26 = .ok (.getfield 64, 3) := by decide +kernel
theorem dX10_join_29 : decode cX10_join 29 = .ok (.iload 5, 2) := by decide +kernel
theorem dX10_join_31 : decode cX10_join 31 = .ok (.aload_n 0, 1) := by decide +kernel
theorem dX10_join_32 : decode cX10_join 32 = .ok (.getfield 64, 3) := by decide +kernel
theorem dX10_join_35 : decode cX10_join 35 = .ok (.iload 5, 2) := by decide +kernel
theorem dX10_join_37 : decode cX10_join 37 = .ok (.iaload, 1) := by decide +kernel
theorem dX10_join_38 : decode cX10_join 38 = .ok (.iload 4, 2) := by decide +kernel
theorem dX10_join_40 : decode cX10_join 40 = .ok (.if_icmp .ne 7, 3) := by decide +kernel
theorem dX10_join_43 : decode cX10_join 43 = .ok (.iload_n 3, 1) := by decide +kernel
theorem dX10_join_44 : decode cX10_join 44 = .ok (.goto 10, 3) := by decide +kernel
theorem dX10_join_47 : decode cX10_join 47 = .ok (.aload_n 0, 1) := by decide +kernel
theorem dX10_join_48 : decode cX10_join 48 = .ok (.getfield 64, 3) := by decide +kernel
theorem dX10_join_51 : decode cX10_join 51 = .ok (.iload 5, 2) := by decide +kernel
theorem dX10_join_53 : decode cX10_join 53 = .ok (.iaload, 1) := by decide +kernel
theorem dX10_join_54 : decode cX10_join 54 = .ok (.iastore, 1) := by decide +kernel
theorem dX10_join_55 : decode cX10_join 55 = .ok (.iinc 5 1, 3) := by decide +kernel
theorem dX10_join_58 : decode cX10_join 58 = .ok (.goto (-40), 3) := by decide +kernel
theorem dX10_join_61 : decode cX10_join 61 = .ok (.iload_n 3, 1) := by decide +kernel
theorem dX10_join_62 : decode cX10_join 62 = .ok (.iload 4, 2) := by decide +kernel
theorem dX10_join_64 : decode cX10_join 64 = .ok (.if_icmp .eq 7, 3) := by decide +kernel
theorem dX10_join_67 : decode cX10_join 67 = .ok (.iconst 1, 1) := by decide +kernel
theorem dX10_join_68 : decode cX10_join 68 = .ok (.goto 4, 3) := by decide +kernel
theorem dX10_join_71 : decode cX10_join 71 = .ok (.iconst 0, 1) := by decide +kernel
theorem dX10_join_72 : decode cX10_join 72 = .ok (.ireturn, 1) := by decide +kernel
abbrev wl_X10_join (G : gw_) (A_t : Nat) (A_t_steps : Nat) (A_t_wet : Nat) (A_t_where : Nat) (A_t_home : Nat) (A_t_light : Nat) (A_t_carries : Nat) (A_t_sightPlace : Nat) (A_t_sightLight : Nat) (A_t_pad : Nat) (A_t_act : Nat) (A_t_whose : Nat) (A_t_whom : Nat) (A_t_tens : Nat) (A_t_had : Nat) (A_t_leaves : Nat) (A_t_apart : Nat) (A_t_stop : Nat) (A_t_restOf : Nat) (A_t_group : Nat) (A_t_along : Nat) (A_t_kept : Nat) (A_t_isKept : Nat) (c_t_foggy : Int32) (c_t_walkers : Int32) (c_t_sights : Int32) (c_t_padMany : Int32) (c_t_acts : Int32) (c_t_spent : Int32) (c_t_walks : Int32) (c_t_badAct : Int32) (c_t_badWhy : Int32) (c_t_keptAt : Int32) (c_t_isWriting : Int32) (c_t_group : Nat → Int32) : va_W := [ob_ A_t 10 [.ref A_t_steps, .ref A_t_wet, .int c_t_foggy, .int c_t_walkers, .ref A_t_where, .ref A_t_home, .ref A_t_light, .ref A_t_carries, .ref A_t_sightPlace, .ref A_t_sightLight, .int c_t_sights, .ref A_t_pad, .int c_t_padMany, .ref A_t_act, .ref A_t_whose, .ref A_t_whom, .ref A_t_tens, .int c_t_acts, .int c_t_spent, .int c_t_walks, .ref A_t_had, .ref A_t_leaves, .int c_t_badAct, .int c_t_badWhy, .ref A_t_apart, .ref A_t_stop, .ref A_t_restOf, .ref A_t_group, .ref A_t_along, .ref A_t_kept, .ref A_t_isKept, .int c_t_keptAt, .int c_t_isWriting], ia_ G A_t_group 12 c_t_group]
def fn_X10_join_b18 (x3 : Int32) (x4 : Int32) (rc : Int32 → (Nat → Int32) → Option (Int32 × (Nat → Int32))) (k : (Nat → Int32) → Option (Int32 × (Nat → Int32))) (x5 : Int32) (c_t_group : Nat → Int32) : Option (Int32 × (Nat → Int32)) :=
  if 12 ≤ x5 then
    k c_t_group
  else
    ck_ x5 12 <|
    if (c_t_group (Int32.toNatClampNeg x5)) = x4 then
      ck_ x5 12 <|
      lx_ (upd c_t_group (Int32.toNatClampNeg x5) x3) fun f4 =>
      rc (x5 + 1) f4
    else
      ck_ x5 12 <|
      ck_ x5 12 <|
      lx_ (upd c_t_group (Int32.toNatClampNeg x5) (c_t_group (Int32.toNatClampNeg x5))) fun f3 =>
      rc (x5 + 1) f3
def fn_X10_join_l18 (x3 : Int32) (x4 : Int32) (k : (Nat → Int32) → Option (Int32 × (Nat → Int32))) : Nat → Int32 → (Nat → Int32) → Option (Int32 × (Nat → Int32))
  | 0 => fun _ _ => none
  | n + 1 => fun x5 c_t_group => fn_X10_join_b18 x3 x4 (fn_X10_join_l18 x3 x4 k n) k x5 c_t_group
def fn_X10_join (c_t_group : Nat → Int32) (x1 : Int32) (x2 : Int32) : Option (Int32 × (Nat → Int32)) :=
  ck_ x1 12 <|
  lx_ (c_t_group (Int32.toNatClampNeg x1)) fun y1 =>
  ck_ x2 12 <|
  lx_ (c_t_group (Int32.toNatClampNeg x2)) fun y2 =>
  fn_X10_join_l18 y1 y2 (fun v5 =>
    if y1 = y2 then
      some (0, v5)
    else
      some (1, v5)) fu_ 0 c_t_group
set_option maxHeartbeats 4000000 in
set_option maxRecDepth 100000 in
theorem wn_X10_join_l18 {p : Program} {l : Launch} {e : Env} {s : State} {m : MethodId} {args : Array Value} {below : List Frame} {meth : Method} {c : Code} {G : gw_} {A : Nat → Prop} {Q : State → Prop} {A_t : Nat} {A_t_steps : Nat} {A_t_wet : Nat} {A_t_where : Nat} {A_t_home : Nat} {A_t_light : Nat} {A_t_carries : Nat} {A_t_sightPlace : Nat} {A_t_sightLight : Nat} {A_t_pad : Nat} {A_t_act : Nat} {A_t_whose : Nat} {A_t_whom : Nat} {A_t_tens : Nat} {A_t_had : Nat} {A_t_leaves : Nat} {A_t_apart : Nat} {A_t_stop : Nat} {A_t_restOf : Nat} {A_t_group : Nat} {A_t_along : Nat} {A_t_kept : Nat} {A_t_isKept : Nat} {c_t_foggy : Int32} {c_t_walkers : Int32} {c_t_sights : Int32} {c_t_padMany : Int32} {c_t_acts : Int32} {c_t_spent : Int32} {c_t_walks : Int32} {c_t_badAct : Int32} {c_t_badWhy : Int32} {c_t_keptAt : Int32} {c_t_isWriting : Int32} {z_t_group : Nat → Int32} {r : Int32} {x3 : Int32} {x4 : Int32} {k : (Nat → Int32) → Option (Int32 × (Nat → Int32))} (hC : cx_ p s m c G cX10_join 6 RX10) (hret : ∀ (pc : Nat) (H : Heap) (locs : List Loc) (ls : Array Slot), narrow .boolean (.int r) = .int r → decode cX10_join pc = .ok (.ireturn, 1) → wd_ G A s.heap (wl_X10_join G A_t A_t_steps A_t_wet A_t_where A_t_home A_t_light A_t_carries A_t_sightPlace A_t_sightLight A_t_pad A_t_act A_t_whose A_t_whom A_t_tens A_t_had A_t_leaves A_t_apart A_t_stop A_t_restOf A_t_group A_t_along A_t_kept A_t_isKept c_t_foggy c_t_walkers c_t_sights c_t_padMany c_t_acts c_t_spent c_t_walks c_t_badAct c_t_badWhy c_t_keptAt c_t_isWriting z_t_group) H locs → W p l e { frames := 0, cells := 0, slots := 0, locals := 0 } s m args below meth c H locs 0 0 Q (F0 m pc ls [.int r])) (hk : ∀ (c_t_group : Nat → Int32) (H : Heap) (locs : List Loc) (ls : Array Slot), k c_t_group = some (r, z_t_group) → lv_has ls 6 [(3, .int x3), (4, .int x4)] → wd_ G A s.heap (wl_X10_join G A_t A_t_steps A_t_wet A_t_where A_t_home A_t_light A_t_carries A_t_sightPlace A_t_sightLight A_t_pad A_t_act A_t_whose A_t_whom A_t_tens A_t_had A_t_leaves A_t_apart A_t_stop A_t_restOf A_t_group A_t_along A_t_kept A_t_isKept c_t_foggy c_t_walkers c_t_sights c_t_padMany c_t_acts c_t_spent c_t_walks c_t_badAct c_t_badWhy c_t_keptAt c_t_isWriting c_t_group) H locs → W p l e { frames := 0, cells := 0, slots := 0, locals := 0 } s m args below meth c H locs 0 0 Q (F0 m 61 ls [])) : ∀ (n : Nat) (x5 : Int32) (c_t_group : Nat → Int32) (H : Heap) (locs : List Loc) (ls : Array Slot), fn_X10_join_l18 x3 x4 k n x5 c_t_group = some (r, z_t_group) → lv_has ls 6 [(0, .ref A_t), (3, .int x3), (4, .int x4), (5, .int x5)] → wd_ G A s.heap (wl_X10_join G A_t A_t_steps A_t_wet A_t_where A_t_home A_t_light A_t_carries A_t_sightPlace A_t_sightLight A_t_pad A_t_act A_t_whose A_t_whom A_t_tens A_t_had A_t_leaves A_t_apart A_t_stop A_t_restOf A_t_group A_t_along A_t_kept A_t_isKept c_t_foggy c_t_walkers c_t_sights c_t_padMany c_t_acts c_t_spent c_t_walks c_t_badAct c_t_badWhy c_t_keptAt c_t_isWriting c_t_group) H locs → W p l e { frames := 0, cells := 0, slots := 0, locals := 0 } s m args below meth c H locs 0 0 Q (F0 m 18 ls []) := by
  have hx := hC.1
  have hb := hC.2.1
  intro n
  induction n with
  | zero =>
    intro x5 c_t_group H locs ls hf
    cases (show (none : Option (Int32 × (Nat → Int32))) = some _ from hf)
  | succ n hrc =>
    intro x5 c_t_group H locs ls hf hl hw
    replace hf : fn_X10_join_b18 x3 x4 (fn_X10_join_l18 x3 x4 k n) k x5 c_t_group = some (r, z_t_group) := hf
    unfold fn_X10_join_b18 at hf
    refine lv_iload hx hb dX10_join_18 (lv_at hl 3 rfl) ?_
    refine lv_bipush (v := 12) hx hb dX10_join_20 (by decide) ?_
    refine lv_icmp_ge (tgt := 61) hx hb dX10_join_22 (by decide) (fun hc => ?_) (fun hc => ?_)
    · replace hf := it_t hc hf
      exact hk c_t_group _ _ _ hf (lv_sub hl [1, 2] rfl) hw
    · replace hf := it_f hc hf
      refine lv_aload_n hx hb dX10_join_25 rfl (lv_at hl 0 rfl) ?_
      refine g_get hC hw fkX10_64 0 rfl rfl dX10_join_26 ?_
      refine lv_iload hx hb dX10_join_29 (lv_at hl 3 rfl) ?_
      refine lv_aload_n hx hb dX10_join_31 rfl (lv_at hl 0 rfl) ?_
      refine g_get hC hw fkX10_64 0 rfl rfl dX10_join_32 ?_
      refine lv_iload hx hb dX10_join_35 (lv_at hl 3 rfl) ?_
      obtain ⟨hi, hf⟩ := ck_s hf
      refine g_iald hC hw 1 rfl hi dX10_join_37 ?_
      refine lv_iload hx hb dX10_join_38 (lv_at hl 2 rfl) ?_
      refine lv_icmp_ne (tgt := 47) hx hb dX10_join_40 (by decide) (fun hc => ?_) (fun hc => ?_)
      · replace hf := it_f hc hf
        refine lv_aload_n hx hb dX10_join_47 rfl (lv_at hl 0 rfl) ?_
        refine g_get hC hw fkX10_64 0 rfl rfl dX10_join_48 ?_
        refine lv_iload hx hb dX10_join_51 (lv_at hl 3 rfl) ?_
        obtain ⟨hi, hf⟩ := ck_s hf
        refine g_iald hC hw 1 rfl hi dX10_join_53 ?_
        obtain ⟨hi, hf⟩ := ck_s hf
        obtain ⟨f3, ef3, hf⟩ := lx_s hf
        refine g_iast hC hw 1 rfl hi ef3 dX10_join_54 (fun H locs hw => ?_)
        have hw : wd_ G A s.heap (wl_X10_join G A_t A_t_steps A_t_wet A_t_where A_t_home A_t_light A_t_carries A_t_sightPlace A_t_sightLight A_t_pad A_t_act A_t_whose A_t_whom A_t_tens A_t_had A_t_leaves A_t_apart A_t_stop A_t_restOf A_t_group A_t_along A_t_kept A_t_isKept c_t_foggy c_t_walkers c_t_sights c_t_padMany c_t_acts c_t_spent c_t_walks c_t_badAct c_t_badWhy c_t_keptAt c_t_isWriting f3) H locs := hw
        refine lv_iinc (v := x5 + 1) (lv' := [(5, .int (x5 + 1)), (0, .ref A_t), (3, .int x3), (4, .int x4)]) hx hb dX10_join_55 hl (k := 3) rfl rfl (by decide) rfl (fun ls hl => ?_)
        refine lv_goto (tgt := 18) hx hb dX10_join_58 (by decide) ?_
        exact hrc (x5 + 1) f3 _ _ _ hf (lv_sub hl [1, 2, 3, 0] rfl) hw
      · replace hf := it_t hc hf
        refine lv_iload_n hx hb dX10_join_43 rfl (lv_at hl 1 rfl) ?_
        refine lv_goto (tgt := 54) hx hb dX10_join_44 (by decide) ?_
        obtain ⟨hi, hf⟩ := ck_s hf
        obtain ⟨f4, ef4, hf⟩ := lx_s hf
        refine g_iast hC hw 1 rfl hi ef4 dX10_join_54 (fun H locs hw => ?_)
        have hw : wd_ G A s.heap (wl_X10_join G A_t A_t_steps A_t_wet A_t_where A_t_home A_t_light A_t_carries A_t_sightPlace A_t_sightLight A_t_pad A_t_act A_t_whose A_t_whom A_t_tens A_t_had A_t_leaves A_t_apart A_t_stop A_t_restOf A_t_group A_t_along A_t_kept A_t_isKept c_t_foggy c_t_walkers c_t_sights c_t_padMany c_t_acts c_t_spent c_t_walks c_t_badAct c_t_badWhy c_t_keptAt c_t_isWriting f4) H locs := hw
        refine lv_iinc (v := x5 + 1) (lv' := [(5, .int (x5 + 1)), (0, .ref A_t), (3, .int x3), (4, .int x4)]) hx hb dX10_join_55 hl (k := 3) rfl rfl (by decide) rfl (fun ls hl => ?_)
        refine lv_goto (tgt := 18) hx hb dX10_join_58 (by decide) ?_
        exact hrc (x5 + 1) f4 _ _ _ hf (lv_sub hl [1, 2, 3, 0] rfl) hw
set_option maxHeartbeats 4000000 in
set_option maxRecDepth 100000 in
theorem wn_X10_join {p : Program} {l : Launch} {e : Env} {s : State} {m : MethodId} {args : Array Value} {below : List Frame} {meth : Method} {c : Code} {G : gw_} {A : Nat → Prop} {Q : State → Prop} {A_t : Nat} {A_t_steps : Nat} {A_t_wet : Nat} {A_t_where : Nat} {A_t_home : Nat} {A_t_light : Nat} {A_t_carries : Nat} {A_t_sightPlace : Nat} {A_t_sightLight : Nat} {A_t_pad : Nat} {A_t_act : Nat} {A_t_whose : Nat} {A_t_whom : Nat} {A_t_tens : Nat} {A_t_had : Nat} {A_t_leaves : Nat} {A_t_apart : Nat} {A_t_stop : Nat} {A_t_restOf : Nat} {A_t_group : Nat} {A_t_along : Nat} {A_t_kept : Nat} {A_t_isKept : Nat} {c_t_foggy : Int32} {c_t_walkers : Int32} {c_t_sights : Int32} {c_t_padMany : Int32} {c_t_acts : Int32} {c_t_spent : Int32} {c_t_walks : Int32} {c_t_badAct : Int32} {c_t_badWhy : Int32} {c_t_keptAt : Int32} {c_t_isWriting : Int32} {c_t_group : Nat → Int32} {z_t_group : Nat → Int32} {r : Int32} {x1 : Int32} {x2 : Int32} (hC : cx_ p s m c G cX10_join 6 RX10) (hret : ∀ (pc : Nat) (H : Heap) (locs : List Loc) (ls : Array Slot), narrow .boolean (.int r) = .int r → decode cX10_join pc = .ok (.ireturn, 1) → wd_ G A s.heap (wl_X10_join G A_t A_t_steps A_t_wet A_t_where A_t_home A_t_light A_t_carries A_t_sightPlace A_t_sightLight A_t_pad A_t_act A_t_whose A_t_whom A_t_tens A_t_had A_t_leaves A_t_apart A_t_stop A_t_restOf A_t_group A_t_along A_t_kept A_t_isKept c_t_foggy c_t_walkers c_t_sights c_t_padMany c_t_acts c_t_spent c_t_walks c_t_badAct c_t_badWhy c_t_keptAt c_t_isWriting z_t_group) H locs → W p l e { frames := 0, cells := 0, slots := 0, locals := 0 } s m args below meth c H locs 0 0 Q (F0 m pc ls [.int r])) (hf : fn_X10_join c_t_group x1 x2 = some (r, z_t_group)) {H : Heap} {locs : List Loc} {ls : Array Slot} (hl : lv_has ls 6 [(0, .ref A_t), (1, .int x1), (2, .int x2)]) (hw : wd_ G A s.heap (wl_X10_join G A_t A_t_steps A_t_wet A_t_where A_t_home A_t_light A_t_carries A_t_sightPlace A_t_sightLight A_t_pad A_t_act A_t_whose A_t_whom A_t_tens A_t_had A_t_leaves A_t_apart A_t_stop A_t_restOf A_t_group A_t_along A_t_kept A_t_isKept c_t_foggy c_t_walkers c_t_sights c_t_padMany c_t_acts c_t_spent c_t_walks c_t_badAct c_t_badWhy c_t_keptAt c_t_isWriting c_t_group) H locs) : W p l e { frames := 0, cells := 0, slots := 0, locals := 0 } s m args below meth c H locs 0 0 Q (F0 m 0 ls []) := by
  have hx := hC.1
  have hb := hC.2.1
  unfold fn_X10_join at hf
  refine lv_aload_n hx hb dX10_join_0 rfl (lv_at hl 0 rfl) ?_
  refine g_get hC hw fkX10_64 0 rfl rfl dX10_join_1 ?_
  refine lv_iload_n hx hb dX10_join_4 rfl (lv_at hl 1 rfl) ?_
  obtain ⟨hi, hf⟩ := ck_s hf
  refine g_iald hC hw 1 rfl hi dX10_join_5 ?_
  obtain ⟨y1, ey1, hf⟩ := lx_s hf
  rw [← ey1]
  refine lv_istore_n (lv' := [(3, .int y1), (0, .ref A_t), (1, .int x1), (2, .int x2)]) hx hb dX10_join_6 rfl hl (by decide) rfl (fun ls hl => ?_)
  refine lv_aload_n hx hb dX10_join_7 rfl (lv_at hl 1 rfl) ?_
  refine g_get hC hw fkX10_64 0 rfl rfl dX10_join_8 ?_
  refine lv_iload_n hx hb dX10_join_11 rfl (lv_at hl 3 rfl) ?_
  obtain ⟨hi, hf⟩ := ck_s hf
  refine g_iald hC hw 1 rfl hi dX10_join_12 ?_
  obtain ⟨y2, ey2, hf⟩ := lx_s hf
  rw [← ey2]
  refine lv_istore (lv' := [(4, .int y2), (3, .int y1), (0, .ref A_t), (1, .int x1), (2, .int x2)]) hx hb dX10_join_13 hl (by decide) rfl (fun ls hl => ?_)
  refine lv_iconst (v := 0) hx hb dX10_join_15 (by decide) ?_
  refine lv_istore (lv' := [(5, .int 0), (4, .int y2), (3, .int y1), (0, .ref A_t), (1, .int x1), (2, .int x2)]) hx hb dX10_join_16 hl (by decide) rfl (fun ls hl => ?_)
  refine wn_X10_join_l18 hC hret (fun v5 H locs ls hf hl hw => ?_) fu_ 0 c_t_group _ _ _ hf (lv_sub hl [3, 2, 1, 0] rfl) hw
  refine lv_iload_n hx hb dX10_join_61 rfl (lv_at hl 0 rfl) ?_
  refine lv_iload hx hb dX10_join_62 (lv_at hl 1 rfl) ?_
  refine lv_icmp_eq (tgt := 71) hx hb dX10_join_64 (by decide) (fun hc => ?_) (fun hc => ?_)
  · replace hf := it_t hc hf
    refine lv_iconst (v := 0) hx hb dX10_join_71 (by decide) ?_
    obtain ⟨h1_, h2_⟩ := t2_ hf
    subst h1_
    subst h2_
    exact hret _ _ _ _ rfl dX10_join_72 hw
  · replace hf := it_f hc hf
    refine lv_iconst (v := 1) hx hb dX10_join_67 (by decide) ?_
    refine lv_goto (tgt := 72) hx hb dX10_join_68 (by decide) ?_
    obtain ⟨h1_, h2_⟩ := t2_ hf
    subst h1_
    subst h2_
    exact hret _ _ _ _ rfl dX10_join_72 hw
set_option maxHeartbeats 4000000 in
set_option maxRecDepth 100000 in
theorem cn_X10_join (l : Launch) (G : gw_) (A_t : Nat) (A_t_steps : Nat) (A_t_wet : Nat) (A_t_where : Nat) (A_t_home : Nat) (A_t_light : Nat) (A_t_carries : Nat) (A_t_sightPlace : Nat) (A_t_sightLight : Nat) (A_t_pad : Nat) (A_t_act : Nat) (A_t_whose : Nat) (A_t_whom : Nat) (A_t_tens : Nat) (A_t_had : Nat) (A_t_leaves : Nat) (A_t_apart : Nat) (A_t_stop : Nat) (A_t_restOf : Nat) (A_t_group : Nat) (A_t_along : Nat) (A_t_kept : Nat) (A_t_isKept : Nat) (c_t_foggy : Int32) (c_t_walkers : Int32) (c_t_sights : Int32) (c_t_padMany : Int32) (c_t_acts : Int32) (c_t_spent : Int32) (c_t_walks : Int32) (c_t_badAct : Int32) (c_t_badWhy : Int32) (c_t_keptAt : Int32) (c_t_isWriting : Int32) (c_t_group : Nat → Int32) (x1 : Int32) (x2 : Int32) (r : Int32) (z_t_group : Nat → Int32) (hf : fn_X10_join c_t_group x1 x2 = some (r, z_t_group)) : ci_ l G yX10_join cX10_join 6 (some .boolean) 0 0 (wl_X10_join G A_t A_t_steps A_t_wet A_t_where A_t_home A_t_light A_t_carries A_t_sightPlace A_t_sightLight A_t_pad A_t_act A_t_whose A_t_whom A_t_tens A_t_had A_t_leaves A_t_apart A_t_stop A_t_restOf A_t_group A_t_along A_t_kept A_t_isKept c_t_foggy c_t_walkers c_t_sights c_t_padMany c_t_acts c_t_spent c_t_walks c_t_badAct c_t_badWhy c_t_keptAt c_t_isWriting c_t_group) [.ref A_t, .int x1, .int x2] r (wl_X10_join G A_t A_t_steps A_t_wet A_t_where A_t_home A_t_light A_t_carries A_t_sightPlace A_t_sightLight A_t_pad A_t_act A_t_whose A_t_whom A_t_tens A_t_had A_t_leaves A_t_apart A_t_stop A_t_restOf A_t_group A_t_along A_t_kept A_t_isKept c_t_foggy c_t_walkers c_t_sights c_t_padMany c_t_acts c_t_spent c_t_walks c_t_badAct c_t_badWhy c_t_keptAt c_t_isWriting z_t_group) := fun sz => met_intro (by decide) (Nat.le_of_ble_eq_true rfl) (fun p e s m args below meth c ls hsz hC hr hlk hnm hl hw => wn_X10_join hC (fun pc H locs ls hn hd hw => g_iret hC hr hlk hw rfl hn hd) hf hl hw)
