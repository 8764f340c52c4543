theorem dX10_year_0 : decode cX10_year 0 = .ok (.iload_n 1, 1) := by decide +kernel
theorem dX10_year_1 : decode cX10_year 1 = .ok (.i2l, 1) := by decide +kernel
theorem dX10_year_2 : decode cX10_year 2 = .ok (.lconst 0, 1) := by decide +kernel
theorem dX10_year_3 : decode cX10_year 3 = .ok (.ldc2_w 280, 3) := by decide +kernel
theorem dX10_year_6 : decode cX10_year 6 = .ok (.invokestatic 79, 3) := by decide +kernel
theorem dX10_year_9 : decode cX10_year 9 = .ok (.ifCond .eq 27, 3) := by decide +kernel
theorem dX10_year_12 : decode cX10_year 12 = .ok (.iload_n 2, 1) := by decide +kernel
theorem dX10_year_13 : decode cX10_year 13 = .ok (.i2l, 1) := by decide +kernel
theorem dX10_year_14 : decode cX10_year 14 = .ok (.lconst 1, 1) := by decide +kernel
theorem dX10_year_15 : decode cX10_year 15 = .ok (.ldc2_w 104, 3) := by decide +kernel
theorem dX10_year_18 : decode cX10_year 18 = .ok (.invokestatic 79, 3) := by decide +kernel
theorem dX10_year_21 : decode cX10_year 21 = .ok (.ifCond .eq 15, 3) := by decide +kernel
theorem dX10_year_24 : decode cX10_year 24 = .ok (.iload_n 3, 1) := by decide +kernel
theorem dX10_year_25 : decode cX10_year 25 = .ok (.i2l, 1) := by decide +kernel
theorem dX10_year_26 : decode cX10_year 26 = .ok (.lconst 0, 1) := by decide +kernel
theorem dX10_year_27 : decode cX10_year 27 = .ok (.ldc2_w 207, 3) := by decide +kernel
theorem dX10_year_30 : decode cX10_year 30 = .ok (.invokestatic 79, 3) := by decide +kernel
theorem dX10_year_33 : decode cX10_year 33 = .ok (.ifCond .ne 6, 3) := by decide +kernel
theorem dX10_year_36 : decode cX10_year 36 = .ok (.bipush (-2), 2) := by decide +kernel
theorem dX10_year_38 : decode cX10_year 38 = .ok (.ireturn, 1) := by decide +kernel
theorem dX10_year_39 : decode cX10_year 39 = .ok (.aload_n 0, 1) := by decide +kernel
theorem dX10_year_40 : decode cX10_year 40 = .ok (.aload_n 0, 1) := by decide +kernel
theorem dX10_year_41 : decode cX10_year 41 = .ok (.getfield 49, 3) := by decide +kernel
theorem dX10_year_44 : decode cX10_year 44 = .ok (.invokevirtual 197, 3) := by decide +kernel
theorem dX10_year_47 : decode cX10_year 47 = .ok (.aload_n 0, 1) := by decide +kernel
theorem dX10_year_48 : decode cX10_year 48 = .ok (.iconst 0, 1) := by decide +kernel
theorem dX10_year_49 : decode cX10_year 49 = .ok (.putfield 166, 3) := by decide +kernel
theorem dX10_year_52 : decode cX10_year 52 = .ok (.aload_n 0, 1) := by decide +kernel
theorem dX10_year_53 : decode cX10_year 53 = .ok (.iconst 0, 1) := by decide +kernel
theorem dX10_year_54 : decode cX10_year 54 = .ok (.putfield 169, 3) := by decide +kernel
theorem dX10_year_57 : decode cX10_year 57 = .ok (.iload_n 1, 1) := by decide +kernel
theorem dX10_year_58 : decode cX10_year 58 = .ok (.istore 4, 2) := by decide +kernel
theorem dX10_year_60 : decode cX10_year 60 = .ok (.iconst 0, 1) := by decide +kernel
theorem dX10_year_61 : decode cX10_year 61 = .ok (.istore 5, 2) := by decide +kernel
theorem dX10_year_63 : decode cX10_year 63 = .ok (.iload 5, 2) := by decide +kernel
theorem dX10_year_65 : decode cX10_year 65 = .ok (.iload_n 2, 1) := by decide +kernel
theorem dX10_year_66 : decode cX10_year 66 = .ok (.if_icmp .ge 84, 3) := by decide +kernel
theorem dX10_year_69 : decode cX10_year 69 = .ok (.ldc2_w 282, 3) := by decide +kernel
theorem dX10_year_72 : decode cX10_year 72 = .ok (.iload 4, 2) := by decide +kernel
theorem dX10_year_74 : decode cX10_year 74 = .ok (.i2l, 1) := by decide +kernel
theorem dX10_year_75 : decode cX10_year 75 = .ok (.lmul, 1) := by decide +kernel
theorem dX10_year_76 : decode cX10_year 76 = .ok (.ldc2_w 284, 3) := by decide +kernel
theorem dX10_year_79 : decode cX10_year 79 = .ok (.ladd, 1) := by decide +kernel
theorem dX10_year_80 : decode cX10_year 80 = .ok (.ldc2_w 286, 3) := by decide +kernel
theorem dX10_year_83 : decode cX10_year 83 = .ok (.lrem, 1) := by decide +kernel
theorem dX10_year_84 : decode cX10_year 84 = .ok (.l2i, 1) := by decide +kernel
theorem dX10_year_85 : decode cX10_year 85 = .ok (.istore 4, 2) := by decide +kernel
theorem dX10_year_87 : decode cX10_year 87 = .ok (.iload 4, 2) := by decide +kernel
theorem dX10_year_89 : decode cX10_year 89 = .ok (.bipush 17, 2) := by decide +kernel
theorem dX10_year_91 : decode cX10_year 91 = .ok (.irem, 1) := by decide +kernel
theorem dX10_year_92 : decode cX10_year 92 = .ok (.ifCond .ne 7, 3) := by decide +kernel
theorem dX10_year_95 : decode cX10_year 95 = .ok (.iconst 4, 1) := by decide +kernel
theorem dX10_year_96 : decode cX10_year 96 = .ok (.goto 4, 3) := by decide +kernel
theorem dX10_year_99 : decode cX10_year 99 = .ok (.iconst 0, 1) := by decide +kernel
theorem dX10_year_100 : decode cX10_year 100 = .ok (.istore 6, 2) := by decide +kernel
theorem dX10_year_102 : decode cX10_year 102 = .ok (.iload 4, 2) := by decide +kernel
theorem dX10_year_104 : decode cX10_year 104 = .ok (.bipush 6, 2) := by decide +kernel
theorem dX10_year_106 : decode cX10_year 106 = .ok (.irem, 1) := by decide +kernel
theorem dX10_year_107 : decode cX10_year 107 = .ok (.istore 7, 2) := by decide +kernel
theorem dX10_year_109 : decode cX10_year 109 = .ok (.iload 4, 2) := by decide +kernel
theorem dX10_year_111 : decode cX10_year 111 = .ok (.bipush 6, 2) := by decide +kernel
theorem dX10_year_113 : decode cX10_year 113 = .ok (.idiv, 1) := by decide +kernel
theorem dX10_year_114 : decode cX10_year 114 = .ok (.bipush 12, 2) := by decide +kernel
theorem dX10_year_116 : decode cX10_year 116 = .ok (.irem, 1) := by decide +kernel
theorem dX10_year_117 : decode cX10_year 117 = .ok (.istore 8, 2) := by decide +kernel
theorem dX10_year_119 : decode cX10_year 119 = .ok (.aload_n 0, 1) := by decide +kernel
theorem dX10_year_120 : decode cX10_year 120 = .ok (.iload 6, 2) := by decide +kernel
theorem dX10_year_122 : decode cX10_year 122 = .ok (.iload 7, 2) := by decide +kernel
theorem dX10_year_124 : decode cX10_year 124 = .ok (.iload 8, 2) := by decide +kernel
theorem dX10_year_126 : decode cX10_year 126 = .ok (.iconst 0, 1) := by decide +kernel
theorem dX10_year_127 : decode cX10_year 127 = .ok (.invokevirtual 186, 3) := by decide +kernel
theorem dX10_year_130 : decode cX10_year 130 = .ok (.ifCond .ne 14, 3) := by decide +kernel
theorem dX10_year_133 : decode cX10_year 133 = .ok (.aload_n 0, 1) := by decide +kernel
theorem dX10_year_134 : decode cX10_year 134 = .ok (.iload 6, 2) := by decide +kernel
theorem dX10_year_136 : decode cX10_year 136 = .ok (.iload 7, 2) := by decide +kernel
theorem dX10_year_138 : decode cX10_year 138 = .ok (.iload 8, 2) := by decide +kernel
theorem dX10_year_140 : decode cX10_year 140 = .ok (.iconst 0, 1) := by decide +kernel
theorem dX10_year_141 : decode cX10_year 141 = .ok (.invokevirtual 189, 3) := by decide +kernel
theorem dX10_year_144 : decode cX10_year 144 = .ok (.iinc 5 1, 3) := by decide +kernel
theorem dX10_year_147 : decode cX10_year 147 = .ok (.goto (-84), 3) := by decide +kernel
theorem dX10_year_150 : decode cX10_year 150 = .ok (.iconst 0, 1) := by decide +kernel
theorem dX10_year_151 : decode cX10_year 151 = .ok (.istore 5, 2) := by decide +kernel
theorem dX10_year_153 : decode cX10_year 153 = .ok (.iconst 0, 1) := by decide +kernel
theorem dX10_year_154 : decode cX10_year 154 = .ok (.istore 6, 2) := by decide +kernel
theorem dX10_year_156 : decode cX10_year 156 = .ok (.iload 6, 2) := by decide +kernel
theorem dX10_year_158 : decode cX10_year 158 = .ok (.bipush 6, 2) := by decide +kernel
theorem dX10_year_160 : decode cX10_year 160 = .ok (.if_icmp .ge 45, 3) := by decide +kernel
theorem dX10_year_163 : decode cX10_year 163 = .ok (.iload 5, 2) := by decide +kernel
theorem dX10_year_165 : decode cX10_year 165 = .ok (.aload_n 0, 1) := by decide +kernel
theorem dX10_year_166 : decode cX10_year 166 = .ok (.iload 6, 2) := by decide +kernel
theorem dX10_year_168 : decode cX10_year 168 = .ok (.invokevirtual 106, 3) := by decide +kernel
theorem dX10_year_171 : decode cX10_year 171 = .ok (.ifCond .eq 24, 3) := by decide +kernel
theorem dX10_year_174 : decode cX10_year 174 = .ok (.aload_n 0, 1) := by decide +kernel
theorem dX10_year_175 : decode cX10_year 175 = .ok (.getfield 16, 3) := by decide +kernel
theorem dX10_year_178 : decode cX10_year 178 = .ok (.iload 6, 2) := by decide +kernel
theorem dX10_year_180 : decode cX10_year 180 = .ok (.iaload, 1) := by decide +kernel
theorem dX10_year_181 : decode cX10_year 181 = .ok (.aload_n 0, 1) := by decide +kernel
theorem dX10_year_182 : decode cX10_year 182 = .ok (.getfield 19, 3) := by decide +kernel
theorem dX10_year_185 : decode cX10_year 185 = .ok (.iload 6, 2) := by decide +kernel
theorem dX10_year_187 : decode cX10_year 187 = .ok (.iaload, 1) := by decide +kernel
theorem dX10_year_188 : decode cX10_year 188 = .ok (.if_icmp .ne 7, 3) := by decide +kernel
theorem dX10_year_191 : decode cX10_year 191 = .ok (.iconst 1, 1) := by decide +kernel
theorem dX10_year_192 : decode cX10_year 192 = .ok (.goto 4, 3) := by decide +kernel
theorem dX10_year_195 : decode cX10_year 195 = .ok (.iconst 0, 1) := by decide +kernel
theorem dX10_year_196 : decode cX10_year 196 = .ok (.iadd, 1) := by decide +kernel
theorem dX10_year_197 : decode cX10_year 197 = .ok (.istore 5, 2) := by decide +kernel
theorem dX10_year_199 : decode cX10_year 199 = .ok (.iinc 6 1, 3) := by decide +kernel
theorem dX10_year_202 : decode cX10_year 202 = .ok (.goto (-46), 3) := by decide +kernel
theorem dX10_year_205 : decode cX10_year 205 = .ok (.aload_n 0, 1) := by decide +kernel
theorem dX10_year_206 : decode cX10_year 206 = .ok (.aload_n 0, 1) := by decide +kernel
theorem dX10_year_207 : decode cX10_year 207 = .ok (.getfield 49, 3) := by decide +kernel
theorem dX10_year_210 : decode cX10_year 210 = .ok (.invokevirtual 204, 3) := by decide +kernel
theorem dX10_year_213 : decode cX10_year 213 = .ok (.iload_n 3, 1) := by decide +kernel
theorem dX10_year_214 : decode cX10_year 214 = .ok (.ifCond .ne 10, 3) := by decide +kernel
theorem dX10_year_217 : decode cX10_year 217 = .ok (.aload_n 0, 1) := by decide +kernel
theorem dX10_year_218 : decode cX10_year 218 = .ok (.getfield 166, 3) := by decide +kernel
theorem dX10_year_221 : decode cX10_year 221 = .ok (.goto 17, 3) := by decide +kernel
theorem dX10_year_224 : decode cX10_year 224 = .ok (.iload_n 3, 1) := by decide +kernel
theorem dX10_year_225 : decode cX10_year 225 = .ok (.iconst 1, 1) := by decide +kernel
theorem dX10_year_226 : decode cX10_year 226 = .ok (.if_icmp .ne 8, 3) := by decide +kernel
theorem dX10_year_229 : decode cX10_year 229 = .ok (.iload 5, 2) := by decide +kernel
theorem dX10_year_231 : decode cX10_year 231 = .ok (.goto 7, 3) := by decide +kernel
theorem dX10_year_234 : decode cX10_year 234 = .ok (.aload_n 0, 1) := by decide +kernel
theorem dX10_year_235 : decode cX10_year 235 = .ok (.getfield 169, 3) := by decide +kernel
theorem dX10_year_238 : decode cX10_year 238 = .ok (.ireturn, 1) := by decide +kernel
abbrev wl_X10_year (G : gw_) (A_t : Nat) (A_t_steps : Nat) (A_t_wet : Nat) (A_t_where : Nat) (A_t_home : Nat) (A_t_light : Nat) (A_t_carries : Nat) (A_t_sightPlace : Nat) (A_t_sightLight : Nat) (A_t_pad : Nat) (A_t_act : Nat) (A_t_whose : Nat) (A_t_whom : Nat) (A_t_tens : Nat) (A_t_had : Nat) (A_t_leaves : Nat) (A_t_apart : Nat) (A_t_stop : Nat) (A_t_restOf : Nat) (A_t_group : Nat) (A_t_along : Nat) (A_t_kept : Nat) (A_t_isKept : Nat) (c_t_foggy : Int32) (c_t_walkers : Int32) (c_t_sights : Int32) (c_t_padMany : Int32) (c_t_acts : Int32) (c_t_spent : Int32) (c_t_walks : Int32) (c_t_badAct : Int32) (c_t_badWhy : Int32) (c_t_keptAt : Int32) (c_t_isWriting : Int32) (c_t_steps : Nat → Int32) (c_t_wet : Nat → Int32) (c_t_where : Nat → Int32) (c_t_home : Nat → Int32) (c_t_light : Nat → Int32) (c_t_carries : Nat → Int32) (c_t_had : Nat → Int32) : va_W := [ob_ A_t 10 [.ref A_t_steps, .ref A_t_wet, .int c_t_foggy, .int c_t_walkers, .ref A_t_where, .ref A_t_home, .ref A_t_light, .ref A_t_carries, .ref A_t_sightPlace, .ref A_t_sightLight, .int c_t_sights, .ref A_t_pad, .int c_t_padMany, .ref A_t_act, .ref A_t_whose, .ref A_t_whom, .ref A_t_tens, .int c_t_acts, .int c_t_spent, .int c_t_walks, .ref A_t_had, .ref A_t_leaves, .int c_t_badAct, .int c_t_badWhy, .ref A_t_apart, .ref A_t_stop, .ref A_t_restOf, .ref A_t_group, .ref A_t_along, .ref A_t_kept, .ref A_t_isKept, .int c_t_keptAt, .int c_t_isWriting], ia_ G A_t_steps 144 c_t_steps, ia_ G A_t_wet 144 c_t_wet, ia_ G A_t_where 6 c_t_where, ia_ G A_t_home 6 c_t_home, ia_ G A_t_light 6 c_t_light, ia_ G A_t_carries 6 c_t_carries, ia_ G A_t_had 25 c_t_had]
def fn_X10_year_j100 (c_t_foggy : Int32) (c_t_walkers : Int32) (c_t_spent : Int32) (c_t_walks : Int32) (c_t_steps : Nat → Int32) (c_t_wet : Nat → Int32) (c_t_where : Nat → Int32) (c_t_light : Nat → Int32) (c_t_carries : Nat → Int32) (x4 : Int32) (x5 : Int32) (s0 : Int32) (rc : Int32 → Int32 → Int32 → Int32 → Int32 → (Nat → Int32) → (Nat → Int32) → (Nat → Int32) → Option (Int32 × Int32 × Int32 × Int32 × (Nat → Int32) × (Nat → Int32) × (Nat → Int32) × (Nat → Int32))) (k : Int32 → Int32 → Int32 → (Nat → Int32) → (Nat → Int32) → (Nat → Int32) → Option (Int32 × Int32 × Int32 × Int32 × (Nat → Int32) × (Nat → Int32) × (Nat → Int32) × (Nat → Int32))) : Option (Int32 × Int32 × Int32 × Int32 × (Nat → Int32) × (Nat → Int32) × (Nat → Int32) × (Nat → Int32)) :=
  lx_ ((x4 / 6) - (x4 / 6) / 12 * 12) fun y10 =>
  b1_ (fn_X10_whyNot c_t_foggy c_t_walkers c_t_steps c_t_wet c_t_where c_t_light c_t_carries s0 (x4 - x4 / 6 * 6) y10 0) fun r11 =>
  if r11 = 0 then
    b6_ (fn_X10_happen c_t_foggy c_t_spent c_t_walks c_t_steps c_t_wet c_t_where c_t_light c_t_carries s0 (x4 - x4 / 6 * 6) y10 0) fun w13 w14 w15 w16 w17 w18 =>
    rc x4 (x5 + 1) w13 w14 w15 w16 w17 w18
  else
    rc x4 (x5 + 1) c_t_foggy c_t_spent c_t_walks c_t_where c_t_light c_t_carries
def fn_X10_year_b63 (c_t_walkers : Int32) (c_t_steps : Nat → Int32) (c_t_wet : Nat → Int32) (x2 : Int32) (rc : Int32 → Int32 → Int32 → Int32 → Int32 → (Nat → Int32) → (Nat → Int32) → (Nat → Int32) → Option (Int32 × Int32 × Int32 × Int32 × (Nat → Int32) × (Nat → Int32) × (Nat → Int32) × (Nat → Int32))) (k : Int32 → Int32 → Int32 → (Nat → Int32) → (Nat → Int32) → (Nat → Int32) → Option (Int32 × Int32 × Int32 × Int32 × (Nat → Int32) × (Nat → Int32) × (Nat → Int32) × (Nat → Int32))) (x4 : Int32) (x5 : Int32) (c_t_foggy : Int32) (c_t_spent : Int32) (c_t_walks : Int32) (c_t_where : Nat → Int32) (c_t_light : Nat → Int32) (c_t_carries : Nat → Int32) : Option (Int32 × Int32 × Int32 × Int32 × (Nat → Int32) × (Nat → Int32) × (Nat → Int32) × (Nat → Int32)) :=
  if x2 ≤ x5 then
    k c_t_foggy c_t_spent c_t_walks c_t_where c_t_light c_t_carries
  else
    lx_ (Int64.toInt32 (((75 * (Int32.toInt64 x4)) + 74) - ((75 * (Int32.toInt64 x4)) + 74) / 65537 * 65537)) fun y9 =>
    if (y9 - y9 / 17 * 17) = 0 then
      fn_X10_year_j100 c_t_foggy c_t_walkers c_t_spent c_t_walks c_t_steps c_t_wet c_t_where c_t_light c_t_carries y9 x5 4 rc k
    else
      fn_X10_year_j100 c_t_foggy c_t_walkers c_t_spent c_t_walks c_t_steps c_t_wet c_t_where c_t_light c_t_carries y9 x5 0 rc k
def fn_X10_year_l63 (c_t_walkers : Int32) (c_t_steps : Nat → Int32) (c_t_wet : Nat → Int32) (x2 : Int32) (k : Int32 → Int32 → Int32 → (Nat → Int32) → (Nat → Int32) → (Nat → Int32) → Option (Int32 × Int32 × Int32 × Int32 × (Nat → Int32) × (Nat → Int32) × (Nat → Int32) × (Nat → Int32))) : Nat → Int32 → Int32 → Int32 → Int32 → Int32 → (Nat → Int32) → (Nat → Int32) → (Nat → Int32) → Option (Int32 × Int32 × Int32 × Int32 × (Nat → Int32) × (Nat → Int32) × (Nat → Int32) × (Nat → Int32))
  | 0 => fun _ _ _ _ _ _ _ _ => none
  | n + 1 => fun x4 x5 c_t_foggy c_t_spent c_t_walks c_t_where c_t_light c_t_carries => fn_X10_year_b63 c_t_walkers c_t_steps c_t_wet x2 (fn_X10_year_l63 c_t_walkers c_t_steps c_t_wet x2 k n) k x4 x5 c_t_foggy c_t_spent c_t_walks c_t_where c_t_light c_t_carries
def fn_X10_year_j195 (x6 : Int32) (s0 : Int32) (rc : Int32 → Int32 → Option (Int32 × Int32 × Int32 × Int32 × (Nat → Int32) × (Nat → Int32) × (Nat → Int32) × (Nat → Int32))) (k : Int32 → Option (Int32 × Int32 × Int32 × Int32 × (Nat → Int32) × (Nat → Int32) × (Nat → Int32) × (Nat → Int32))) : Option (Int32 × Int32 × Int32 × Int32 × (Nat → Int32) × (Nat → Int32) × (Nat → Int32) × (Nat → Int32)) :=
  rc (s0 + 0) (x6 + 1)
def fn_X10_year_b156 (c_t_walkers : Int32) (c_t_where : Nat → Int32) (c_t_home : Nat → Int32) (rc : Int32 → Int32 → Option (Int32 × Int32 × Int32 × Int32 × (Nat → Int32) × (Nat → Int32) × (Nat → Int32) × (Nat → Int32))) (k : Int32 → Option (Int32 × Int32 × Int32 × Int32 × (Nat → Int32) × (Nat → Int32) × (Nat → Int32) × (Nat → Int32))) (x5 : Int32) (x6 : Int32) : Option (Int32 × Int32 × Int32 × Int32 × (Nat → Int32) × (Nat → Int32) × (Nat → Int32) × (Nat → Int32)) :=
  if 6 ≤ x6 then
    k x5
  else
    b1_ (fn_X10_isWalker c_t_walkers x6) fun r26 =>
    if r26 = 0 then
      fn_X10_year_j195 x6 x5 rc k
    else
      ck_ x6 6 <|
      ck_ x6 6 <|
      if (c_t_where (Int32.toNatClampNeg x6)) = (c_t_home (Int32.toNatClampNeg x6)) then
        rc (x5 + 1) (x6 + 1)
      else
        fn_X10_year_j195 x6 x5 rc k
def fn_X10_year_l156 (c_t_walkers : Int32) (c_t_where : Nat → Int32) (c_t_home : Nat → Int32) (k : Int32 → Option (Int32 × Int32 × Int32 × Int32 × (Nat → Int32) × (Nat → Int32) × (Nat → Int32) × (Nat → Int32))) : Nat → Int32 → Int32 → Option (Int32 × Int32 × Int32 × Int32 × (Nat → Int32) × (Nat → Int32) × (Nat → Int32) × (Nat → Int32))
  | 0 => fun _ _ => none
  | n + 1 => fun x5 x6 => fn_X10_year_b156 c_t_walkers c_t_where c_t_home (fn_X10_year_l156 c_t_walkers c_t_where c_t_home k n) k x5 x6
def fn_X10_year (c_t_foggy : Int32) (c_t_walkers : Int32) (c_t_spent : Int32) (c_t_walks : Int32) (c_t_steps : Nat → Int32) (c_t_wet : Nat → Int32) (c_t_where : Nat → Int32) (c_t_home : Nat → Int32) (c_t_light : Nat → Int32) (c_t_carries : Nat → Int32) (c_t_had : Nat → Int32) (x1 : Int32) (x2 : Int32) (x3 : Int32) : Option (Int32 × Int32 × Int32 × Int32 × (Nat → Int32) × (Nat → Int32) × (Nat → Int32) × (Nat → Int32)) :=
  b1_ (fn_X10_in (Int32.toInt64 x1) 0 9999) fun r1 =>
  if r1 = 0 then
    some ((-2), c_t_foggy, c_t_spent, c_t_walks, c_t_where, c_t_light, c_t_carries, c_t_had)
  else
    b1_ (fn_X10_in (Int32.toInt64 x2) 1 99) fun r3 =>
    if r3 = 0 then
      some ((-2), c_t_foggy, c_t_spent, c_t_walks, c_t_where, c_t_light, c_t_carries, c_t_had)
    else
      b1_ (fn_X10_in (Int32.toInt64 x3) 0 2) fun r5 =>
      if r5 = 0 then
        some ((-2), c_t_foggy, c_t_spent, c_t_walks, c_t_where, c_t_light, c_t_carries, c_t_had)
      else
        b1_ (fn_X10_store c_t_foggy c_t_walkers c_t_where c_t_light c_t_carries c_t_had) fun w7 =>
        fn_X10_year_l63 c_t_walkers c_t_steps c_t_wet x2 (fun v20 v21 v22 v23 v24 v25 =>
          fn_X10_year_l156 c_t_walkers v23 c_t_home (fun v28 =>
            b4_ (fn_X10_lay v20 v23 v24 v25 w7) fun w29 w30 w31 w32 =>
            if x3 = 0 then
              some (v21, w29, v21, v22, w30, w31, w32, w7)
            else
              if x3 = 1 then
                some (v28, w29, v21, v22, w30, w31, w32, w7)
              else
                some (v22, w29, v21, v22, w30, w31, w32, w7)) fu_ 0 0) fu_ x1 0 c_t_foggy 0 0 c_t_where c_t_light c_t_carries
set_option maxHeartbeats 4000000 in
set_option maxRecDepth 100000 in
theorem wn_X10_year_j100 {p : Program} {l : Launch} {e : Env} {s : State} {m : MethodId} {args : Array Value} {below : List Frame} {meth : Method} {c : Code} {G : gw_} {A : Nat → Prop} {Q : State → Prop} {A_t : Nat} {A_t_steps : Nat} {A_t_wet : Nat} {A_t_where : Nat} {A_t_home : Nat} {A_t_light : Nat} {A_t_carries : Nat} {A_t_sightPlace : Nat} {A_t_sightLight : Nat} {A_t_pad : Nat} {A_t_act : Nat} {A_t_whose : Nat} {A_t_whom : Nat} {A_t_tens : Nat} {A_t_had : Nat} {A_t_leaves : Nat} {A_t_apart : Nat} {A_t_stop : Nat} {A_t_restOf : Nat} {A_t_group : Nat} {A_t_along : Nat} {A_t_kept : Nat} {A_t_isKept : Nat} {c_t_foggy : Int32} {z_t_foggy : Int32} {c_t_walkers : Int32} {c_t_sights : Int32} {c_t_padMany : Int32} {c_t_acts : Int32} {c_t_spent : Int32} {z_t_spent : Int32} {c_t_walks : Int32} {z_t_walks : Int32} {c_t_badAct : Int32} {c_t_badWhy : Int32} {c_t_keptAt : Int32} {c_t_isWriting : Int32} {c_t_steps : Nat → Int32} {c_t_wet : Nat → Int32} {c_t_where : Nat → Int32} {z_t_where : Nat → Int32} {c_t_home : Nat → Int32} {c_t_light : Nat → Int32} {z_t_light : Nat → Int32} {c_t_carries : Nat → Int32} {z_t_carries : Nat → Int32} {c_t_had : Nat → Int32} {z_t_had : Nat → Int32} {r : Int32} {x2 : Int32} {x3 : Int32} {x4 : Int32} {x5 : Int32} {s0 : Int32} {rc : Int32 → Int32 → Int32 → Int32 → Int32 → (Nat → Int32) → (Nat → Int32) → (Nat → Int32) → Option (Int32 × Int32 × Int32 × Int32 × (Nat → Int32) × (Nat → Int32) × (Nat → Int32) × (Nat → Int32))} {k : Int32 → Int32 → Int32 → (Nat → Int32) → (Nat → Int32) → (Nat → Int32) → Option (Int32 × Int32 × Int32 × Int32 × (Nat → Int32) × (Nat → Int32) × (Nat → Int32) × (Nat → Int32))} (hC : cx_ p s m c G cX10_year 9 RX10) (hret : ∀ (pc : Nat) (H : Heap) (locs : List Loc) (ls : Array Slot), decode cX10_year pc = .ok (.ireturn, 1) → wd_ G A s.heap (wl_X10_year G A_t A_t_steps A_t_wet A_t_where A_t_home A_t_light A_t_carries A_t_sightPlace A_t_sightLight A_t_pad A_t_act A_t_whose A_t_whom A_t_tens A_t_had A_t_leaves A_t_apart A_t_stop A_t_restOf A_t_group A_t_along A_t_kept A_t_isKept z_t_foggy c_t_walkers c_t_sights c_t_padMany c_t_acts z_t_spent z_t_walks c_t_badAct c_t_badWhy c_t_keptAt c_t_isWriting c_t_steps c_t_wet z_t_where c_t_home z_t_light z_t_carries z_t_had) H locs → W p l e { frames := 6, cells := 0, slots := 0, locals := 139 } s m args below meth c H locs 0 0 Q (F0 m pc ls [.int r])) (hrc : ∀ (x4 : Int32) (x5 : Int32) (c_t_foggy : Int32) (c_t_spent : Int32) (c_t_walks : Int32) (c_t_where : Nat → Int32) (c_t_light : Nat → Int32) (c_t_carries : Nat → Int32) (H : Heap) (locs : List Loc) (ls : Array Slot), rc x4 x5 c_t_foggy c_t_spent c_t_walks c_t_where c_t_light c_t_carries = some (r, z_t_foggy, z_t_spent, z_t_walks, z_t_where, z_t_light, z_t_carries, z_t_had) → lv_has ls 9 [(0, .ref A_t), (2, .int x2), (3, .int x3), (4, .int x4), (5, .int x5)] → wd_ G A s.heap (wl_X10_year G A_t A_t_steps A_t_wet A_t_where A_t_home A_t_light A_t_carries A_t_sightPlace A_t_sightLight A_t_pad A_t_act A_t_whose A_t_whom A_t_tens A_t_had A_t_leaves A_t_apart A_t_stop A_t_restOf A_t_group A_t_along A_t_kept A_t_isKept c_t_foggy c_t_walkers c_t_sights c_t_padMany c_t_acts c_t_spent c_t_walks c_t_badAct c_t_badWhy c_t_keptAt c_t_isWriting c_t_steps c_t_wet c_t_where c_t_home c_t_light c_t_carries c_t_had) H locs → W p l e { frames := 6, cells := 0, slots := 0, locals := 139 } s m args below meth c H locs 0 0 Q (F0 m 63 ls [])) (hk : ∀ (c_t_foggy : Int32) (c_t_spent : Int32) (c_t_walks : Int32) (c_t_where : Nat → Int32) (c_t_light : Nat → Int32) (c_t_carries : Nat → Int32) (H : Heap) (locs : List Loc) (ls : Array Slot), k c_t_foggy c_t_spent c_t_walks c_t_where c_t_light c_t_carries = some (r, z_t_foggy, z_t_spent, z_t_walks, z_t_where, z_t_light, z_t_carries, z_t_had) → lv_has ls 9 [(0, .ref A_t), (3, .int x3)] → wd_ G A s.heap (wl_X10_year G A_t A_t_steps A_t_wet A_t_where A_t_home A_t_light A_t_carries A_t_sightPlace A_t_sightLight A_t_pad A_t_act A_t_whose A_t_whom A_t_tens A_t_had A_t_leaves A_t_apart A_t_stop A_t_restOf A_t_group A_t_along A_t_kept A_t_isKept c_t_foggy c_t_walkers c_t_sights c_t_padMany c_t_acts c_t_spent c_t_walks c_t_badAct c_t_badWhy c_t_keptAt c_t_isWriting c_t_steps c_t_wet c_t_where c_t_home c_t_light c_t_carries c_t_had) H locs → W p l e { frames := 6, cells := 0, slots := 0, locals := 139 } s m args below meth c H locs 0 0 Q (F0 m 150 ls [])) (hf : fn_X10_year_j100 c_t_foggy c_t_walkers c_t_spent c_t_walks c_t_steps c_t_wet c_t_where c_t_light c_t_carries x4 x5 s0 rc k = some (r, z_t_foggy, z_t_spent, z_t_walks, z_t_where, z_t_light, z_t_carries, z_t_had)) {H : Heap} {locs : List Loc} {ls : Array Slot} (hl : lv_has ls 9 [(0, .ref A_t), (2, .int x2), (3, .int x3), (4, .int x4), (5, .int x5)]) (hw : wd_ G A s.heap (wl_X10_year G A_t A_t_steps A_t_wet A_t_where A_t_home A_t_light A_t_carries A_t_sightPlace A_t_sightLight A_t_pad A_t_act A_t_whose A_t_whom A_t_tens A_t_had A_t_leaves A_t_apart A_t_stop A_t_restOf A_t_group A_t_along A_t_kept A_t_isKept c_t_foggy c_t_walkers c_t_sights c_t_padMany c_t_acts c_t_spent c_t_walks c_t_badAct c_t_badWhy c_t_keptAt c_t_isWriting c_t_steps c_t_wet c_t_where c_t_home c_t_light c_t_carries c_t_had) H locs) : W p l e { frames := 6, cells := 0, slots := 0, locals := 139 } s m args below meth c H locs 0 0 Q (F0 m 100 ls [.int s0]) := by
  have hx := hC.1
  have hb := hC.2.1
  unfold fn_X10_year_j100 at hf
  refine lv_istore (lv' := [(6, .int s0), (0, .ref A_t), (2, .int x2), (3, .int x3), (4, .int x4), (5, .int x5)]) hx hb dX10_year_100 hl (by decide) rfl (fun ls hl => ?_)
  refine lv_iload hx hb dX10_year_102 (lv_at hl 4 rfl) ?_
  refine lv_bipush (v := 6) hx hb dX10_year_104 (by decide) ?_
  refine lv_irem hx hb dX10_year_106 (by decide) ?_
  refine lv_istore (lv' := [(7, .int (x4 - x4 / 6 * 6)), (6, .int s0), (0, .ref A_t), (2, .int x2), (3, .int x3), (4, .int x4), (5, .int x5)]) hx hb dX10_year_107 hl (by decide) rfl (fun ls hl => ?_)
  refine lv_iload hx hb dX10_year_109 (lv_at hl 5 rfl) ?_
  refine lv_bipush (v := 6) hx hb dX10_year_111 (by decide) ?_
  refine lv_idiv hx hb dX10_year_113 (by decide) ?_
  refine lv_bipush (v := 12) hx hb dX10_year_114 (by decide) ?_
  refine lv_irem hx hb dX10_year_116 (by decide) ?_
  obtain ⟨y10, ey10, hf⟩ := lx_s hf
  rw [← ey10]
  refine lv_istore (lv' := [(8, .int y10), (7, .int (x4 - x4 / 6 * 6)), (6, .int s0), (0, .ref A_t), (2, .int x2), (3, .int x3), (4, .int x4), (5, .int x5)]) hx hb dX10_year_117 hl (by decide) rfl (fun ls hl => ?_)
  refine lv_aload_n hx hb dX10_year_119 rfl (lv_at hl 3 rfl) ?_
  refine lv_iload hx hb dX10_year_120 (lv_at hl 2 rfl) ?_
  refine lv_iload hx hb dX10_year_122 (lv_at hl 1 rfl) ?_
  refine lv_iload hx hb dX10_year_124 (lv_at hl 0 rfl) ?_
  refine lv_iconst (v := 0) hx hb dX10_year_126 (by decide) ?_
  obtain ⟨r11, hq12, hf⟩ := b1_s hf
  refine h_cVi hC hw mvX10_186 (cn_X10_whyNot l G A_t A_t_steps A_t_wet A_t_where A_t_home A_t_light A_t_carries A_t_sightPlace A_t_sightLight A_t_pad A_t_act A_t_whose A_t_whom A_t_tens A_t_had A_t_leaves A_t_apart A_t_stop A_t_restOf A_t_group A_t_along A_t_kept A_t_isKept c_t_foggy c_t_walkers c_t_sights c_t_padMany c_t_acts c_t_spent c_t_walks c_t_badAct c_t_badWhy c_t_keptAt c_t_isWriting c_t_steps c_t_wet c_t_where c_t_light c_t_carries s0 (x4 - x4 / 6 * 6) y10 0 r11 hq12) [0, 1, 2, 3, 5, 6] rfl (by decide) 0 rfl rfl rfl hl.1 rfl (Nat.le_of_ble_eq_true rfl) ⟨Nat.le_of_ble_eq_true rfl, Nat.le_of_ble_eq_true rfl⟩ ⟨Nat.le_refl _, Nat.le_refl _⟩ dX10_year_127 (fun H locs hw => ?_)
  refine lv_if_ne (tgt := 144) hx hb dX10_year_130 (by decide) (fun hc => ?_) (fun hc => ?_)
  · replace hf := it_f hc hf
    refine lv_iinc (v := x5 + 1) (lv' := [(5, .int (x5 + 1)), (8, .int y10), (7, .int (x4 - x4 / 6 * 6)), (6, .int s0), (0, .ref A_t), (2, .int x2), (3, .int x3), (4, .int x4)]) hx hb dX10_year_144 hl (k := 7) rfl rfl (by decide) rfl (fun ls hl => ?_)
    refine lv_goto (tgt := 63) hx hb dX10_year_147 (by decide) ?_
    exact hrc x4 (x5 + 1) c_t_foggy c_t_spent c_t_walks c_t_where c_t_light c_t_carries _ _ _ hf (lv_sub hl [4, 5, 6, 7, 0] rfl) hw
  · replace hf := it_t hc hf
    refine lv_aload_n hx hb dX10_year_133 rfl (lv_at hl 3 rfl) ?_
    refine lv_iload hx hb dX10_year_134 (lv_at hl 2 rfl) ?_
    refine lv_iload hx hb dX10_year_136 (lv_at hl 1 rfl) ?_
    refine lv_iload hx hb dX10_year_138 (lv_at hl 0 rfl) ?_
    refine lv_iconst (v := 0) hx hb dX10_year_140 (by decide) ?_
    obtain ⟨w13, w14, w15, w16, w17, w18, hq19, hf⟩ := b6_s hf
    refine g_cVv hC hw mvX10_189 (cn_X10_happen l G A_t A_t_steps A_t_wet A_t_where A_t_home A_t_light A_t_carries A_t_sightPlace A_t_sightLight A_t_pad A_t_act A_t_whose A_t_whom A_t_tens A_t_had A_t_leaves A_t_apart A_t_stop A_t_restOf A_t_group A_t_along A_t_kept A_t_isKept c_t_foggy c_t_walkers c_t_sights c_t_padMany c_t_acts c_t_spent c_t_walks c_t_badAct c_t_badWhy c_t_keptAt c_t_isWriting c_t_steps c_t_wet c_t_where c_t_light c_t_carries s0 (x4 - x4 / 6 * 6) y10 0 w13 w14 w15 w16 w17 w18 hq19) [0, 1, 2, 3, 5, 6] rfl (by decide) rfl 0 rfl rfl rfl hl.1 rfl (Nat.le_of_ble_eq_true rfl) ⟨Nat.le_of_ble_eq_true rfl, Nat.le_of_ble_eq_true rfl⟩ ⟨Nat.le_refl _, Nat.le_refl _⟩ dX10_year_141 (fun H locs hw => ?_)
    have hw : wd_ G A s.heap (wl_X10_year G A_t A_t_steps A_t_wet A_t_where A_t_home A_t_light A_t_carries A_t_sightPlace A_t_sightLight A_t_pad A_t_act A_t_whose A_t_whom A_t_tens A_t_had A_t_leaves A_t_apart A_t_stop A_t_restOf A_t_group A_t_along A_t_kept A_t_isKept w13 c_t_walkers c_t_sights c_t_padMany c_t_acts w14 w15 c_t_badAct c_t_badWhy c_t_keptAt c_t_isWriting c_t_steps c_t_wet w16 c_t_home w17 w18 c_t_had) H locs := hw
    refine lv_iinc (v := x5 + 1) (lv' := [(5, .int (x5 + 1)), (8, .int y10), (7, .int (x4 - x4 / 6 * 6)), (6, .int s0), (0, .ref A_t), (2, .int x2), (3, .int x3), (4, .int x4)]) hx hb dX10_year_144 hl (k := 7) rfl rfl (by decide) rfl (fun ls hl => ?_)
    refine lv_goto (tgt := 63) hx hb dX10_year_147 (by decide) ?_
    exact hrc x4 (x5 + 1) w13 w14 w15 w16 w17 w18 _ _ _ hf (lv_sub hl [4, 5, 6, 7, 0] rfl) hw
set_option maxHeartbeats 4000000 in
set_option maxRecDepth 100000 in
theorem wn_X10_year_l63 {p : Program} {l : Launch} {e : Env} {s : State} {m : MethodId} {args : Array Value} {below : List Frame} {meth : Method} {c : Code} {G : gw_} {A : Nat → Prop} {Q : State → Prop} {A_t : Nat} {A_t_steps : Nat} {A_t_wet : Nat} {A_t_where : Nat} {A_t_home : Nat} {A_t_light : Nat} {A_t_carries : Nat} {A_t_sightPlace : Nat} {A_t_sightLight : Nat} {A_t_pad : Nat} {A_t_act : Nat} {A_t_whose : Nat} {A_t_whom : Nat} {A_t_tens : Nat} {A_t_had : Nat} {A_t_leaves : Nat} {A_t_apart : Nat} {A_t_stop : Nat} {A_t_restOf : Nat} {A_t_group : Nat} {A_t_along : Nat} {A_t_kept : Nat} {A_t_isKept : Nat} {z_t_foggy : Int32} {c_t_walkers : Int32} {c_t_sights : Int32} {c_t_padMany : Int32} {c_t_acts : Int32} {z_t_spent : Int32} {z_t_walks : Int32} {c_t_badAct : Int32} {c_t_badWhy : Int32} {c_t_keptAt : Int32} {c_t_isWriting : Int32} {c_t_steps : Nat → Int32} {c_t_wet : Nat → Int32} {z_t_where : Nat → Int32} {c_t_home : Nat → Int32} {z_t_light : Nat → Int32} {z_t_carries : Nat → Int32} {c_t_had : Nat → Int32} {z_t_had : Nat → Int32} {r : Int32} {x2 : Int32} {x3 : Int32} {k : Int32 → Int32 → Int32 → (Nat → Int32) → (Nat → Int32) → (Nat → Int32) → Option (Int32 × Int32 × Int32 × Int32 × (Nat → Int32) × (Nat → Int32) × (Nat → Int32) × (Nat → Int32))} (hC : cx_ p s m c G cX10_year 9 RX10) (hret : ∀ (pc : Nat) (H : Heap) (locs : List Loc) (ls : Array Slot), decode cX10_year pc = .ok (.ireturn, 1) → wd_ G A s.heap (wl_X10_year G A_t A_t_steps A_t_wet A_t_where A_t_home A_t_light A_t_carries A_t_sightPlace A_t_sightLight A_t_pad A_t_act A_t_whose A_t_whom A_t_tens A_t_had A_t_leaves A_t_apart A_t_stop A_t_restOf A_t_group A_t_along A_t_kept A_t_isKept z_t_foggy c_t_walkers c_t_sights c_t_padMany c_t_acts z_t_spent z_t_walks c_t_badAct c_t_badWhy c_t_keptAt c_t_isWriting c_t_steps c_t_wet z_t_where c_t_home z_t_light z_t_carries z_t_had) H locs → W p l e { frames := 6, cells := 0, slots := 0, locals := 139 } s m args below meth c H locs 0 0 Q (F0 m pc ls [.int r])) (hk : ∀ (c_t_foggy : Int32) (c_t_spent : Int32) (c_t_walks : Int32) (c_t_where : Nat → Int32) (c_t_light : Nat → Int32) (c_t_carries : Nat → Int32) (H : Heap) (locs : List Loc) (ls : Array Slot), k c_t_foggy c_t_spent c_t_walks c_t_where c_t_light c_t_carries = some (r, z_t_foggy, z_t_spent, z_t_walks, z_t_where, z_t_light, z_t_carries, z_t_had) → lv_has ls 9 [(0, .ref A_t), (3, .int x3)] → wd_ G A s.heap (wl_X10_year G A_t A_t_steps A_t_wet A_t_where A_t_home A_t_light A_t_carries A_t_sightPlace A_t_sightLight A_t_pad A_t_act A_t_whose A_t_whom A_t_tens A_t_had A_t_leaves A_t_apart A_t_stop A_t_restOf A_t_group A_t_along A_t_kept A_t_isKept c_t_foggy c_t_walkers c_t_sights c_t_padMany c_t_acts c_t_spent c_t_walks c_t_badAct c_t_badWhy c_t_keptAt c_t_isWriting c_t_steps c_t_wet c_t_where c_t_home c_t_light c_t_carries c_t_had) H locs → W p l e { frames := 6, cells := 0, slots := 0, locals := 139 } s m args below meth c H locs 0 0 Q (F0 m 150 ls [])) : ∀ (n : Nat) (x4 : Int32) (x5 : Int32) (c_t_foggy : Int32) (c_t_spent : Int32) (c_t_walks : Int32) (c_t_where : Nat → Int32) (c_t_light : Nat → Int32) (c_t_carries : Nat → Int32) (H : Heap) (locs : List Loc) (ls : Array Slot), fn_X10_year_l63 c_t_walkers c_t_steps c_t_wet x2 k n x4 x5 c_t_foggy c_t_spent c_t_walks c_t_where c_t_light c_t_carries = some (r, z_t_foggy, z_t_spent, z_t_walks, z_t_where, z_t_light, z_t_carries, z_t_had) → lv_has ls 9 [(0, .ref A_t), (2, .int x2), (3, .int x3), (4, .int x4), (5, .int x5)] → wd_ G A s.heap (wl_X10_year G A_t A_t_steps A_t_wet A_t_where A_t_home A_t_light A_t_carries A_t_sightPlace A_t_sightLight A_t_pad A_t_act A_t_whose A_t_whom A_t_tens A_t_had A_t_leaves A_t_apart A_t_stop A_t_restOf A_t_group A_t_along A_t_kept A_t_isKept c_t_foggy c_t_walkers c_t_sights c_t_padMany c_t_acts c_t_spent c_t_walks c_t_badAct c_t_badWhy c_t_keptAt c_t_isWriting c_t_steps c_t_wet c_t_where c_t_home c_t_light c_t_carries c_t_had) H locs → W p l e { frames := 6, cells := 0, slots := 0, locals := 139 } s m args below meth c H locs 0 0 Q (F0 m 63 ls []) := by
  have hx := hC.1
  have hb := hC.2.1
  intro n
  induction n with
  | zero =>
    intro x4 x5 c_t_foggy c_t_spent c_t_walks c_t_where c_t_light c_t_carries H locs ls hf
    cases (show (none : Option (Int32 × Int32 × Int32 × Int32 × (Nat → Int32) × (Nat → Int32) × (Nat → Int32) × (Nat → Int32))) = some _ from hf)
  | succ n hrc =>
    intro x4 x5 c_t_foggy c_t_spent c_t_walks c_t_where c_t_light c_t_carries H locs ls hf hl hw
    replace hf : fn_X10_year_b63 c_t_walkers c_t_steps c_t_wet x2 (fn_X10_year_l63 c_t_walkers c_t_steps c_t_wet x2 k n) k x4 x5 c_t_foggy c_t_spent c_t_walks c_t_where c_t_light c_t_carries = some (r, z_t_foggy, z_t_spent, z_t_walks, z_t_where, z_t_light, z_t_carries, z_t_had) := hf
    unfold fn_X10_year_b63 at hf
    refine lv_iload hx hb dX10_year_63 (lv_at hl 4 rfl) ?_
    refine lv_iload_n hx hb dX10_year_65 rfl (lv_at hl 1 rfl) ?_
    refine lv_icmp_ge (tgt := 150) hx hb dX10_year_66 (by decide) (fun hc => ?_) (fun hc => ?_)
    · replace hf := it_t hc hf
      exact hk c_t_foggy c_t_spent c_t_walks c_t_where c_t_light c_t_carries _ _ _ hf (lv_sub hl [0, 2] rfl) hw
    · replace hf := it_f hc hf
      refine g_ldc2 (v := 75) hC (tb5 144 rfl rfl) dX10_year_69 ?_
      refine lv_iload hx hb dX10_year_72 (lv_at hl 3 rfl) ?_
      refine lv_i2l hx hb dX10_year_74 rfl ?_
      refine lv_lmul hx hb dX10_year_75 ?_
      refine g_ldc2 (v := 74) hC (tb5 145 rfl rfl) dX10_year_76 ?_
      refine lv_ladd hx hb dX10_year_79 ?_
      refine g_ldc2 (v := 65537) hC (tb5 146 rfl rfl) dX10_year_80 ?_
      refine lv_lrem hx hb dX10_year_83 (by decide) ?_
      refine lv_l2i hx hb dX10_year_84 rfl ?_
      obtain ⟨y9, ey9, hf⟩ := lx_s hf
      rw [← ey9]
      refine lv_istore (lv' := [(4, .int y9), (0, .ref A_t), (2, .int x2), (3, .int x3), (5, .int x5)]) hx hb dX10_year_85 hl (by decide) rfl (fun ls hl => ?_)
      refine lv_iload hx hb dX10_year_87 (lv_at hl 0 rfl) ?_
      refine lv_bipush (v := 17) hx hb dX10_year_89 (by decide) ?_
      refine lv_irem hx hb dX10_year_91 (by decide) ?_
      refine lv_if_ne (tgt := 99) hx hb dX10_year_92 (by decide) (fun hc => ?_) (fun hc => ?_)
      · replace hf := it_f hc hf
        refine lv_iconst (v := 0) hx hb dX10_year_99 (by decide) ?_
        exact wn_X10_year_j100 hC hret hrc hk hf (lv_sub hl [1, 2, 3, 0, 4] rfl) hw
      · replace hf := it_t hc hf
        refine lv_iconst (v := 4) hx hb dX10_year_95 (by decide) ?_
        refine lv_goto (tgt := 100) hx hb dX10_year_96 (by decide) ?_
        exact wn_X10_year_j100 hC hret hrc hk hf (lv_sub hl [1, 2, 3, 0, 4] rfl) hw
set_option maxHeartbeats 4000000 in
set_option maxRecDepth 100000 in
theorem wn_X10_year_j195 {p : Program} {l : Launch} {e : Env} {s : State} {m : MethodId} {args : Array Value} {below : List Frame} {meth : Method} {c : Code} {G : gw_} {A : Nat → Prop} {Q : State → Prop} {A_t : Nat} {A_t_steps : Nat} {A_t_wet : Nat} {A_t_where : Nat} {A_t_home : Nat} {A_t_light : Nat} {A_t_carries : Nat} {A_t_sightPlace : Nat} {A_t_sightLight : Nat} {A_t_pad : Nat} {A_t_act : Nat} {A_t_whose : Nat} {A_t_whom : Nat} {A_t_tens : Nat} {A_t_had : Nat} {A_t_leaves : Nat} {A_t_apart : Nat} {A_t_stop : Nat} {A_t_restOf : Nat} {A_t_group : Nat} {A_t_along : Nat} {A_t_kept : Nat} {A_t_isKept : Nat} {c_t_foggy : Int32} {z_t_foggy : Int32} {c_t_walkers : Int32} {c_t_sights : Int32} {c_t_padMany : Int32} {c_t_acts : Int32} {c_t_spent : Int32} {z_t_spent : Int32} {c_t_walks : Int32} {z_t_walks : Int32} {c_t_badAct : Int32} {c_t_badWhy : Int32} {c_t_keptAt : Int32} {c_t_isWriting : Int32} {c_t_steps : Nat → Int32} {c_t_wet : Nat → Int32} {c_t_where : Nat → Int32} {z_t_where : Nat → Int32} {c_t_home : Nat → Int32} {c_t_light : Nat → Int32} {z_t_light : Nat → Int32} {c_t_carries : Nat → Int32} {z_t_carries : Nat → Int32} {c_t_had : Nat → Int32} {z_t_had : Nat → Int32} {r : Int32} {x3 : Int32} {x6 : Int32} {s0 : Int32} {rc : Int32 → Int32 → Option (Int32 × Int32 × Int32 × Int32 × (Nat → Int32) × (Nat → Int32) × (Nat → Int32) × (Nat → Int32))} {k : Int32 → Option (Int32 × Int32 × Int32 × Int32 × (Nat → Int32) × (Nat → Int32) × (Nat → Int32) × (Nat → Int32))} (hC : cx_ p s m c G cX10_year 9 RX10) (hret : ∀ (pc : Nat) (H : Heap) (locs : List Loc) (ls : Array Slot), decode cX10_year pc = .ok (.ireturn, 1) → wd_ G A s.heap (wl_X10_year G A_t A_t_steps A_t_wet A_t_where A_t_home A_t_light A_t_carries A_t_sightPlace A_t_sightLight A_t_pad A_t_act A_t_whose A_t_whom A_t_tens A_t_had A_t_leaves A_t_apart A_t_stop A_t_restOf A_t_group A_t_along A_t_kept A_t_isKept z_t_foggy c_t_walkers c_t_sights c_t_padMany c_t_acts z_t_spent z_t_walks c_t_badAct c_t_badWhy c_t_keptAt c_t_isWriting c_t_steps c_t_wet z_t_where c_t_home z_t_light z_t_carries z_t_had) H locs → W p l e { frames := 6, cells := 0, slots := 0, locals := 139 } s m args below meth c H locs 0 0 Q (F0 m pc ls [.int r])) (hrc : ∀ (x5 : Int32) (x6 : Int32) (H : Heap) (locs : List Loc) (ls : Array Slot), rc x5 x6 = some (r, z_t_foggy, z_t_spent, z_t_walks, z_t_where, z_t_light, z_t_carries, z_t_had) → lv_has ls 9 [(0, .ref A_t), (3, .int x3), (5, .int x5), (6, .int x6)] → wd_ G A s.heap (wl_X10_year G A_t A_t_steps A_t_wet A_t_where A_t_home A_t_light A_t_carries A_t_sightPlace A_t_sightLight A_t_pad A_t_act A_t_whose A_t_whom A_t_tens A_t_had A_t_leaves A_t_apart A_t_stop A_t_restOf A_t_group A_t_along A_t_kept A_t_isKept c_t_foggy c_t_walkers c_t_sights c_t_padMany c_t_acts c_t_spent c_t_walks c_t_badAct c_t_badWhy c_t_keptAt c_t_isWriting c_t_steps c_t_wet c_t_where c_t_home c_t_light c_t_carries c_t_had) H locs → W p l e { frames := 6, cells := 0, slots := 0, locals := 139 } s m args below meth c H locs 0 0 Q (F0 m 156 ls [])) (hk : ∀ (x5 : Int32) (H : Heap) (locs : List Loc) (ls : Array Slot), k x5 = some (r, z_t_foggy, z_t_spent, z_t_walks, z_t_where, z_t_light, z_t_carries, z_t_had) → lv_has ls 9 [(0, .ref A_t), (3, .int x3), (5, .int x5)] → wd_ G A s.heap (wl_X10_year G A_t A_t_steps A_t_wet A_t_where A_t_home A_t_light A_t_carries A_t_sightPlace A_t_sightLight A_t_pad A_t_act A_t_whose A_t_whom A_t_tens A_t_had A_t_leaves A_t_apart A_t_stop A_t_restOf A_t_group A_t_along A_t_kept A_t_isKept c_t_foggy c_t_walkers c_t_sights c_t_padMany c_t_acts c_t_spent c_t_walks c_t_badAct c_t_badWhy c_t_keptAt c_t_isWriting c_t_steps c_t_wet c_t_where c_t_home c_t_light c_t_carries c_t_had) H locs → W p l e { frames := 6, cells := 0, slots := 0, locals := 139 } s m args below meth c H locs 0 0 Q (F0 m 205 ls [])) (hf : fn_X10_year_j195 x6 s0 rc k = some (r, z_t_foggy, z_t_spent, z_t_walks, z_t_where, z_t_light, z_t_carries, z_t_had)) {H : Heap} {locs : List Loc} {ls : Array Slot} (hl : lv_has ls 9 [(0, .ref A_t), (3, .int x3), (6, .int x6)]) (hw : wd_ G A s.heap (wl_X10_year G A_t A_t_steps A_t_wet A_t_where A_t_home A_t_light A_t_carries A_t_sightPlace A_t_sightLight A_t_pad A_t_act A_t_whose A_t_whom A_t_tens A_t_had A_t_leaves A_t_apart A_t_stop A_t_restOf A_t_group A_t_along A_t_kept A_t_isKept c_t_foggy c_t_walkers c_t_sights c_t_padMany c_t_acts c_t_spent c_t_walks c_t_badAct c_t_badWhy c_t_keptAt c_t_isWriting c_t_steps c_t_wet c_t_where c_t_home c_t_light c_t_carries c_t_had) H locs) : W p l e { frames := 6, cells := 0, slots := 0, locals := 139 } s m args below meth c H locs 0 0 Q (F0 m 195 ls [.int s0]) := by
  have hx := hC.1
  have hb := hC.2.1
  unfold fn_X10_year_j195 at hf
  refine lv_iconst (v := 0) hx hb dX10_year_195 (by decide) ?_
  refine lv_iadd hx hb dX10_year_196 ?_
  refine lv_istore (lv' := [(5, .int (s0 + 0)), (0, .ref A_t), (3, .int x3), (6, .int x6)]) hx hb dX10_year_197 hl (by decide) rfl (fun ls hl => ?_)
  refine lv_iinc (v := x6 + 1) (lv' := [(6, .int (x6 + 1)), (5, .int (s0 + 0)), (0, .ref A_t), (3, .int x3)]) hx hb dX10_year_199 hl (k := 3) rfl rfl (by decide) rfl (fun ls hl => ?_)
  refine lv_goto (tgt := 156) hx hb dX10_year_202 (by decide) ?_
  exact hrc (s0 + 0) (x6 + 1) _ _ _ hf (lv_sub hl [2, 3, 1, 0] rfl) hw
set_option maxHeartbeats 4000000 in
set_option maxRecDepth 100000 in
theorem wn_X10_year_l156 {p : Program} {l : Launch} {e : Env} {s : State} {m : MethodId} {args : Array Value} {below : List Frame} {meth : Method} {c : Code} {G : gw_} {A : Nat → Prop} {Q : State → Prop} {A_t : Nat} {A_t_steps : Nat} {A_t_wet : Nat} {A_t_where : Nat} {A_t_home : Nat} {A_t_light : Nat} {A_t_carries : Nat} {A_t_sightPlace : Nat} {A_t_sightLight : Nat} {A_t_pad : Nat} {A_t_act : Nat} {A_t_whose : Nat} {A_t_whom : Nat} {A_t_tens : Nat} {A_t_had : Nat} {A_t_leaves : Nat} {A_t_apart : Nat} {A_t_stop : Nat} {A_t_restOf : Nat} {A_t_group : Nat} {A_t_along : Nat} {A_t_kept : Nat} {A_t_isKept : Nat} {c_t_foggy : Int32} {z_t_foggy : Int32} {c_t_walkers : Int32} {c_t_sights : Int32} {c_t_padMany : Int32} {c_t_acts : Int32} {c_t_spent : Int32} {z_t_spent : Int32} {c_t_walks : Int32} {z_t_walks : Int32} {c_t_badAct : Int32} {c_t_badWhy : Int32} {c_t_keptAt : Int32} {c_t_isWriting : Int32} {c_t_steps : Nat → Int32} {c_t_wet : Nat → Int32} {c_t_where : Nat → Int32} {z_t_where : Nat → Int32} {c_t_home : Nat → Int32} {c_t_light : Nat → Int32} {z_t_light : Nat → Int32} {c_t_carries : Nat → Int32} {z_t_carries : Nat → Int32} {c_t_had : Nat → Int32} {z_t_had : Nat → Int32} {r : Int32} {x3 : Int32} {k : Int32 → Option (Int32 × Int32 × Int32 × Int32 × (Nat → Int32) × (Nat → Int32) × (Nat → Int32) × (Nat → Int32))} (hC : cx_ p s m c G cX10_year 9 RX10) (hret : ∀ (pc : Nat) (H : Heap) (locs : List Loc) (ls : Array Slot), decode cX10_year pc = .ok (.ireturn, 1) → wd_ G A s.heap (wl_X10_year G A_t A_t_steps A_t_wet A_t_where A_t_home A_t_light A_t_carries A_t_sightPlace A_t_sightLight A_t_pad A_t_act A_t_whose A_t_whom A_t_tens A_t_had A_t_leaves A_t_apart A_t_stop A_t_restOf A_t_group A_t_along A_t_kept A_t_isKept z_t_foggy c_t_walkers c_t_sights c_t_padMany c_t_acts z_t_spent z_t_walks c_t_badAct c_t_badWhy c_t_keptAt c_t_isWriting c_t_steps c_t_wet z_t_where c_t_home z_t_light z_t_carries z_t_had) H locs → W p l e { frames := 6, cells := 0, slots := 0, locals := 139 } s m args below meth c H locs 0 0 Q (F0 m pc ls [.int r])) (hk : ∀ (x5 : Int32) (H : Heap) (locs : List Loc) (ls : Array Slot), k x5 = some (r, z_t_foggy, z_t_spent, z_t_walks, z_t_where, z_t_light, z_t_carries, z_t_had) → lv_has ls 9 [(0, .ref A_t), (3, .int x3), (5, .int x5)] → wd_ G A s.heap (wl_X10_year G A_t A_t_steps A_t_wet A_t_where A_t_home A_t_light A_t_carries A_t_sightPlace A_t_sightLight A_t_pad A_t_act A_t_whose A_t_whom A_t_tens A_t_had A_t_leaves A_t_apart A_t_stop A_t_restOf A_t_group A_t_along A_t_kept A_t_isKept c_t_foggy c_t_walkers c_t_sights c_t_padMany c_t_acts c_t_spent c_t_walks c_t_badAct c_t_badWhy c_t_keptAt c_t_isWriting c_t_steps c_t_wet c_t_where c_t_home c_t_light c_t_carries c_t_had) H locs → W p l e { frames := 6, cells := 0, slots := 0, locals := 139 } s m args below meth c H locs 0 0 Q (F0 m 205 ls [])) : ∀ (n : Nat) (x5 : Int32) (x6 : Int32) (H : Heap) (locs : List Loc) (ls : Array Slot), fn_X10_year_l156 c_t_walkers c_t_where c_t_home k n x5 x6 = some (r, z_t_foggy, z_t_spent, z_t_walks, z_t_where, z_t_light, z_t_carries, z_t_had) → lv_has ls 9 [(0, .ref A_t), (3, .int x3), (5, .int x5), (6, .int x6)] → wd_ G A s.heap (wl_X10_year G A_t A_t_steps A_t_wet A_t_where A_t_home A_t_light A_t_carries A_t_sightPlace A_t_sightLight A_t_pad A_t_act A_t_whose A_t_whom A_t_tens A_t_had A_t_leaves A_t_apart A_t_stop A_t_restOf A_t_group A_t_along A_t_kept A_t_isKept c_t_foggy c_t_walkers c_t_sights c_t_padMany c_t_acts c_t_spent c_t_walks c_t_badAct c_t_badWhy c_t_keptAt c_t_isWriting c_t_steps c_t_wet c_t_where c_t_home c_t_light c_t_carries c_t_had) H locs → W p l e { frames := 6, cells := 0, slots := 0, locals := 139 } s m args below meth c H locs 0 0 Q (F0 m 156 ls []) := by
  have hx := hC.1
  have hb := hC.2.1
  intro n
  induction n with
  | zero =>
    intro x5 x6 H locs ls hf
    cases (show (none : Option (Int32 × Int32 × Int32 × Int32 × (Nat → Int32) × (Nat → Int32) × (Nat → Int32) × (Nat → Int32))) = some _ from hf)
  | succ n hrc =>
    intro x5 x6 H locs ls hf hl hw
    replace hf : fn_X10_year_b156 c_t_walkers c_t_where c_t_home (fn_X10_year_l156 c_t_walkers c_t_where c_t_home k n) k x5 x6 = some (r, z_t_foggy, z_t_spent, z_t_walks, z_t_where, z_t_light, z_t_carries, z_t_had) := hf
    unfold fn_X10_year_b156 at hf
    refine lv_iload hx hb dX10_year_156 (lv_at hl 3 rfl) ?_
    refine lv_bipush (v := 6) hx hb dX10_year_158 (by decide) ?_
    refine lv_icmp_ge (tgt := 205) hx hb dX10_year_160 (by decide) (fun hc => ?_) (fun hc => ?_)
    · replace hf := it_t hc hf
      exact hk x5 _ _ _ hf (lv_sub hl [0, 1, 2] rfl) hw
    · replace hf := it_f hc hf
      refine lv_iload hx hb dX10_year_163 (lv_at hl 2 rfl) ?_
      refine lv_aload_n hx hb dX10_year_165 rfl (lv_at hl 0 rfl) ?_
      refine lv_iload hx hb dX10_year_166 (lv_at hl 3 rfl) ?_
      obtain ⟨r26, hq27, hf⟩ := b1_s hf
      refine h_cVi hC hw mvX10_106 (cn_X10_isWalker l G A_t A_t_steps A_t_wet A_t_where A_t_home A_t_light A_t_carries A_t_sightPlace A_t_sightLight A_t_pad A_t_act A_t_whose A_t_whom A_t_tens A_t_had A_t_leaves A_t_apart A_t_stop A_t_restOf A_t_group A_t_along A_t_kept A_t_isKept c_t_foggy c_t_walkers c_t_sights c_t_padMany c_t_acts c_t_spent c_t_walks c_t_badAct c_t_badWhy c_t_keptAt c_t_isWriting x6 r26 hq27) [0] rfl (by decide) 0 rfl rfl rfl hl.1 rfl (Nat.le_of_ble_eq_true rfl) ⟨Nat.le_of_ble_eq_true rfl, Nat.le_of_ble_eq_true rfl⟩ ⟨Nat.le_refl _, Nat.le_refl _⟩ dX10_year_168 (fun H locs hw => ?_)
      refine lv_if_eq (tgt := 195) hx hb dX10_year_171 (by decide) (fun hc => ?_) (fun hc => ?_)
      · replace hf := it_t hc hf
        exact wn_X10_year_j195 hC hret hrc hk hf (lv_sub hl [0, 1, 3] rfl) hw
      · replace hf := it_f hc hf
        refine lv_aload_n hx hb dX10_year_174 rfl (lv_at hl 0 rfl) ?_
        refine g_get hC hw fkX10_16 0 rfl rfl dX10_year_175 ?_
        refine lv_iload hx hb dX10_year_178 (lv_at hl 3 rfl) ?_
        obtain ⟨hi, hf⟩ := ck_s hf
        refine g_iald hC hw 3 rfl hi dX10_year_180 ?_
        refine lv_aload_n hx hb dX10_year_181 rfl (lv_at hl 0 rfl) ?_
        refine g_get hC hw fkX10_19 0 rfl rfl dX10_year_182 ?_
        refine lv_iload hx hb dX10_year_185 (lv_at hl 3 rfl) ?_
        obtain ⟨hi, hf⟩ := ck_s hf
        refine g_iald hC hw 4 rfl hi dX10_year_187 ?_
        refine lv_icmp_ne (tgt := 195) hx hb dX10_year_188 (by decide) (fun hc => ?_) (fun hc => ?_)
        · replace hf := it_f hc hf
          exact wn_X10_year_j195 hC hret hrc hk hf (lv_sub hl [0, 1, 3] rfl) hw
        · replace hf := it_t hc hf
          refine lv_iconst (v := 1) hx hb dX10_year_191 (by decide) ?_
          refine lv_goto (tgt := 196) hx hb dX10_year_192 (by decide) ?_
          refine lv_iadd hx hb dX10_year_196 ?_
          refine lv_istore (lv' := [(5, .int (x5 + 1)), (0, .ref A_t), (3, .int x3), (6, .int x6)]) hx hb dX10_year_197 hl (by decide) rfl (fun ls hl => ?_)
          refine lv_iinc (v := x6 + 1) (lv' := [(6, .int (x6 + 1)), (5, .int (x5 + 1)), (0, .ref A_t), (3, .int x3)]) hx hb dX10_year_199 hl (k := 3) rfl rfl (by decide) rfl (fun ls hl => ?_)
          refine lv_goto (tgt := 156) hx hb dX10_year_202 (by decide) ?_
          exact hrc (x5 + 1) (x6 + 1) _ _ _ hf (lv_sub hl [2, 3, 1, 0] rfl) hw
set_option maxHeartbeats 4000000 in
set_option maxRecDepth 100000 in
theorem wn_X10_year {p : Program} {l : Launch} {e : Env} {s : State} {m : MethodId} {args : Array Value} {below : List Frame} {meth : Method} {c : Code} {G : gw_} {A : Nat → Prop} {Q : State → Prop} {A_t : Nat} {A_t_steps : Nat} {A_t_wet : Nat} {A_t_where : Nat} {A_t_home : Nat} {A_t_light : Nat} {A_t_carries : Nat} {A_t_sightPlace : Nat} {A_t_sightLight : Nat} {A_t_pad : Nat} {A_t_act : Nat} {A_t_whose : Nat} {A_t_whom : Nat} {A_t_tens : Nat} {A_t_had : Nat} {A_t_leaves : Nat} {A_t_apart : Nat} {A_t_stop : Nat} {A_t_restOf : Nat} {A_t_group : Nat} {A_t_along : Nat} {A_t_kept : Nat} {A_t_isKept : Nat} {c_t_foggy : Int32} {z_t_foggy : Int32} {c_t_walkers : Int32} {c_t_sights : Int32} {c_t_padMany : Int32} {c_t_acts : Int32} {c_t_spent : Int32} {z_t_spent : Int32} {c_t_walks : Int32} {z_t_walks : Int32} {c_t_badAct : Int32} {c_t_badWhy : Int32} {c_t_keptAt : Int32} {c_t_isWriting : Int32} {c_t_steps : Nat → Int32} {c_t_wet : Nat → Int32} {c_t_where : Nat → Int32} {z_t_where : Nat → Int32} {c_t_home : Nat → Int32} {c_t_light : Nat → Int32} {z_t_light : Nat → Int32} {c_t_carries : Nat → Int32} {z_t_carries : Nat → Int32} {c_t_had : Nat → Int32} {z_t_had : Nat → Int32} {r : Int32} {x1 : Int32} {x2 : Int32} {x3 : Int32} (hC : cx_ p s m c G cX10_year 9 RX10) (hret : ∀ (pc : Nat) (H : Heap) (locs : List Loc) (ls : Array Slot), decode cX10_year pc = .ok (.ireturn, 1) → wd_ G A s.heap (wl_X10_year G A_t A_t_steps A_t_wet A_t_where A_t_home A_t_light A_t_carries A_t_sightPlace A_t_sightLight A_t_pad A_t_act A_t_whose A_t_whom A_t_tens A_t_had A_t_leaves A_t_apart A_t_stop A_t_restOf A_t_group A_t_along A_t_kept A_t_isKept z_t_foggy c_t_walkers c_t_sights c_t_padMany c_t_acts z_t_spent z_t_walks c_t_badAct c_t_badWhy c_t_keptAt c_t_isWriting c_t_steps c_t_wet z_t_where c_t_home z_t_light z_t_carries z_t_had) H locs → W p l e { frames := 6, cells := 0, slots := 0, locals := 139 } s m args below meth c H locs 0 0 Q (F0 m pc ls [.int r])) (hf : fn_X10_year c_t_foggy c_t_walkers c_t_spent c_t_walks c_t_steps c_t_wet c_t_where c_t_home c_t_light c_t_carries c_t_had x1 x2 x3 = some (r, z_t_foggy, z_t_spent, z_t_walks, z_t_where, z_t_light, z_t_carries, z_t_had)) {H : Heap} {locs : List Loc} {ls : Array Slot} (hl : lv_has ls 9 [(0, .ref A_t), (1, .int x1), (2, .int x2), (3, .int x3)]) (hw : wd_ G A s.heap (wl_X10_year G A_t A_t_steps A_t_wet A_t_where A_t_home A_t_light A_t_carries A_t_sightPlace A_t_sightLight A_t_pad A_t_act A_t_whose A_t_whom A_t_tens A_t_had A_t_leaves A_t_apart A_t_stop A_t_restOf A_t_group A_t_along A_t_kept A_t_isKept c_t_foggy c_t_walkers c_t_sights c_t_padMany c_t_acts c_t_spent c_t_walks c_t_badAct c_t_badWhy c_t_keptAt c_t_isWriting c_t_steps c_t_wet c_t_where c_t_home c_t_light c_t_carries c_t_had) H locs) : W p l e { frames := 6, cells := 0, slots := 0, locals := 139 } s m args below meth c H locs 0 0 Q (F0 m 0 ls []) := by
  have hx := hC.1
  have hb := hC.2.1
  unfold fn_X10_year at hf
  refine lv_iload_n hx hb dX10_year_0 rfl (lv_at hl 1 rfl) ?_
  refine lv_i2l hx hb dX10_year_1 rfl ?_
  refine lv_lconst (v := 0) hx hb dX10_year_2 (by decide) ?_
  refine g_ldc2 (v := 9999) hC (tb5 143 rfl rfl) dX10_year_3 ?_
  obtain ⟨r1, hq2, hf⟩ := b1_s hf
  refine h_cSi hC hw msX10_79 (cn_X10_in l G (Int32.toInt64 x1) 0 9999 r1 hq2) [] rfl (by decide) rfl hl.1 rfl (Nat.le_of_ble_eq_true rfl) ⟨Nat.le_of_ble_eq_true rfl, Nat.le_of_ble_eq_true rfl⟩ ⟨Nat.le_refl _, Nat.le_refl _⟩ dX10_year_6 (fun H locs hw => ?_)
  refine lv_if_eq (tgt := 36) hx hb dX10_year_9 (by decide) (fun hc => ?_) (fun hc => ?_)
  · replace hf := it_t hc hf
    refine lv_bipush (v := (-2)) hx hb dX10_year_36 (by decide) ?_
    obtain ⟨h1_, h2_, h3_, h4_, h5_, h6_, h7_, h8_⟩ := t8_ hf
    subst h1_
    subst h2_
    subst h3_
    subst h4_
    subst h5_
    subst h6_
    subst h7_
    subst h8_
    exact hret _ _ _ _ dX10_year_38 hw
  · replace hf := it_f hc hf
    refine lv_iload_n hx hb dX10_year_12 rfl (lv_at hl 2 rfl) ?_
    refine lv_i2l hx hb dX10_year_13 rfl ?_
    refine lv_lconst (v := 1) hx hb dX10_year_14 (by decide) ?_
    refine g_ldc2 (v := 99) hC (tb4 114 rfl rfl) dX10_year_15 ?_
    obtain ⟨r3, hq4, hf⟩ := b1_s hf
    refine h_cSi hC hw msX10_79 (cn_X10_in l G (Int32.toInt64 x2) 1 99 r3 hq4) [] rfl (by decide) rfl hl.1 rfl (Nat.le_of_ble_eq_true rfl) ⟨Nat.le_of_ble_eq_true rfl, Nat.le_of_ble_eq_true rfl⟩ ⟨Nat.le_refl _, Nat.le_refl _⟩ dX10_year_18 (fun H locs hw => ?_)
    refine lv_if_eq (tgt := 36) hx hb dX10_year_21 (by decide) (fun hc => ?_) (fun hc => ?_)
    · replace hf := it_t hc hf
      refine lv_bipush (v := (-2)) hx hb dX10_year_36 (by decide) ?_
      obtain ⟨h1_, h2_, h3_, h4_, h5_, h6_, h7_, h8_⟩ := t8_ hf
      subst h1_
      subst h2_
      subst h3_
      subst h4_
      subst h5_
      subst h6_
      subst h7_
      subst h8_
      exact hret _ _ _ _ dX10_year_38 hw
    · replace hf := it_f hc hf
      refine lv_iload_n hx hb dX10_year_24 rfl (lv_at hl 3 rfl) ?_
      refine lv_i2l hx hb dX10_year_25 rfl ?_
      refine lv_lconst (v := 0) hx hb dX10_year_26 (by decide) ?_
      refine g_ldc2 (v := 2) hC (tb4 182 rfl rfl) dX10_year_27 ?_
      obtain ⟨r5, hq6, hf⟩ := b1_s hf
      refine h_cSi hC hw msX10_79 (cn_X10_in l G (Int32.toInt64 x3) 0 2 r5 hq6) [] rfl (by decide) rfl hl.1 rfl (Nat.le_of_ble_eq_true rfl) ⟨Nat.le_of_ble_eq_true rfl, Nat.le_of_ble_eq_true rfl⟩ ⟨Nat.le_refl _, Nat.le_refl _⟩ dX10_year_30 (fun H locs hw => ?_)
      refine lv_if_ne (tgt := 39) hx hb dX10_year_33 (by decide) (fun hc => ?_) (fun hc => ?_)
      · replace hf := it_f hc hf
        refine lv_aload_n hx hb dX10_year_39 rfl (lv_at hl 0 rfl) ?_
        refine lv_aload_n hx hb dX10_year_40 rfl (lv_at hl 0 rfl) ?_
        refine g_get hC hw fkX10_49 0 rfl rfl dX10_year_41 ?_
        obtain ⟨w7, hq8, hf⟩ := b1_s hf
        refine g_cVv hC hw mvX10_197 (cn_X10_store l G A_t A_t_steps A_t_wet A_t_where A_t_home A_t_light A_t_carries A_t_sightPlace A_t_sightLight A_t_pad A_t_act A_t_whose A_t_whom A_t_tens A_t_had A_t_leaves A_t_apart A_t_stop A_t_restOf A_t_group A_t_along A_t_kept A_t_isKept A_t_had c_t_foggy c_t_walkers c_t_sights c_t_padMany c_t_acts c_t_spent c_t_walks c_t_badAct c_t_badWhy c_t_keptAt c_t_isWriting c_t_where c_t_light c_t_carries c_t_had w7 hq8) [0, 3, 5, 6, 7] rfl (by decide) rfl 0 rfl rfl rfl hl.1 rfl (Nat.le_of_ble_eq_true rfl) ⟨Nat.le_of_ble_eq_true rfl, Nat.le_of_ble_eq_true rfl⟩ ⟨Nat.le_refl _, Nat.le_refl _⟩ dX10_year_44 (fun H locs hw => ?_)
        have hw : wd_ G A s.heap (wl_X10_year G A_t A_t_steps A_t_wet A_t_where A_t_home A_t_light A_t_carries A_t_sightPlace A_t_sightLight A_t_pad A_t_act A_t_whose A_t_whom A_t_tens A_t_had A_t_leaves A_t_apart A_t_stop A_t_restOf A_t_group A_t_along A_t_kept A_t_isKept c_t_foggy c_t_walkers c_t_sights c_t_padMany c_t_acts c_t_spent c_t_walks c_t_badAct c_t_badWhy c_t_keptAt c_t_isWriting c_t_steps c_t_wet c_t_where c_t_home c_t_light c_t_carries w7) H locs := hw
        refine lv_aload_n hx hb dX10_year_47 rfl (lv_at hl 0 rfl) ?_
        refine lv_iconst (v := 0) hx hb dX10_year_48 (by decide) ?_
        refine g_put hC hw fpX10_166 0 rfl rfl rfl (Nat.le_of_ble_eq_true rfl) dX10_year_49 (fun H locs hw => ?_)
        have hw : wd_ G A s.heap (wl_X10_year G A_t A_t_steps A_t_wet A_t_where A_t_home A_t_light A_t_carries A_t_sightPlace A_t_sightLight A_t_pad A_t_act A_t_whose A_t_whom A_t_tens A_t_had A_t_leaves A_t_apart A_t_stop A_t_restOf A_t_group A_t_along A_t_kept A_t_isKept c_t_foggy c_t_walkers c_t_sights c_t_padMany c_t_acts 0 c_t_walks c_t_badAct c_t_badWhy c_t_keptAt c_t_isWriting c_t_steps c_t_wet c_t_where c_t_home c_t_light c_t_carries w7) H locs := hw
        refine lv_aload_n hx hb dX10_year_52 rfl (lv_at hl 0 rfl) ?_
        refine lv_iconst (v := 0) hx hb dX10_year_53 (by decide) ?_
        refine g_put hC hw fpX10_169 0 rfl rfl rfl (Nat.le_of_ble_eq_true rfl) dX10_year_54 (fun H locs hw => ?_)
        have hw : wd_ G A s.heap (wl_X10_year G A_t A_t_steps A_t_wet A_t_where A_t_home A_t_light A_t_carries A_t_sightPlace A_t_sightLight A_t_pad A_t_act A_t_whose A_t_whom A_t_tens A_t_had A_t_leaves A_t_apart A_t_stop A_t_restOf A_t_group A_t_along A_t_kept A_t_isKept c_t_foggy c_t_walkers c_t_sights c_t_padMany c_t_acts 0 0 c_t_badAct c_t_badWhy c_t_keptAt c_t_isWriting c_t_steps c_t_wet c_t_where c_t_home c_t_light c_t_carries w7) H locs := hw
        refine lv_iload_n hx hb dX10_year_57 rfl (lv_at hl 1 rfl) ?_
        refine lv_istore (lv' := [(4, .int x1), (0, .ref A_t), (1, .int x1), (2, .int x2), (3, .int x3)]) hx hb dX10_year_58 hl (by decide) rfl (fun ls hl => ?_)
        refine lv_iconst (v := 0) hx hb dX10_year_60 (by decide) ?_
        refine lv_istore (lv' := [(5, .int 0), (4, .int x1), (0, .ref A_t), (1, .int x1), (2, .int x2), (3, .int x3)]) hx hb dX10_year_61 hl (by decide) rfl (fun ls hl => ?_)
        refine wn_X10_year_l63 hC hret (fun v20 v21 v22 v23 v24 v25 H locs ls hf hl hw => ?_) fu_ x1 0 c_t_foggy 0 0 c_t_where c_t_light c_t_carries _ _ _ hf (lv_sub hl [2, 4, 5, 1, 0] rfl) hw
        refine lv_iconst (v := 0) hx hb dX10_year_150 (by decide) ?_
        refine lv_istore (lv' := [(5, .int 0), (0, .ref A_t), (3, .int x3)]) hx hb dX10_year_151 hl (by decide) rfl (fun ls hl => ?_)
        refine lv_iconst (v := 0) hx hb dX10_year_153 (by decide) ?_
        refine lv_istore (lv' := [(6, .int 0), (5, .int 0), (0, .ref A_t), (3, .int x3)]) hx hb dX10_year_154 hl (by decide) rfl (fun ls hl => ?_)
        refine wn_X10_year_l156 hC hret (fun v28 H locs ls hf hl hw => ?_) fu_ 0 0 _ _ _ hf (lv_sub hl [2, 3, 1, 0] rfl) hw
        refine lv_aload_n hx hb dX10_year_205 rfl (lv_at hl 0 rfl) ?_
        refine lv_aload_n hx hb dX10_year_206 rfl (lv_at hl 0 rfl) ?_
        refine g_get hC hw fkX10_49 0 rfl rfl dX10_year_207 ?_
        obtain ⟨w29, w30, w31, w32, hq33, hf⟩ := b4_s hf
        refine g_cVv hC hw mvX10_204 (cn_X10_lay l G A_t A_t_steps A_t_wet A_t_where A_t_home A_t_light A_t_carries A_t_sightPlace A_t_sightLight A_t_pad A_t_act A_t_whose A_t_whom A_t_tens A_t_had A_t_leaves A_t_apart A_t_stop A_t_restOf A_t_group A_t_along A_t_kept A_t_isKept A_t_had v20 c_t_walkers c_t_sights c_t_padMany c_t_acts v21 v22 c_t_badAct c_t_badWhy c_t_keptAt c_t_isWriting v23 v24 v25 w7 w29 w30 w31 w32 hq33) [0, 3, 5, 6, 7] rfl (by decide) rfl 0 rfl rfl rfl hl.1 rfl (Nat.le_of_ble_eq_true rfl) ⟨Nat.le_of_ble_eq_true rfl, Nat.le_of_ble_eq_true rfl⟩ ⟨Nat.le_refl _, Nat.le_refl _⟩ dX10_year_210 (fun H locs hw => ?_)
        have hw : wd_ G A s.heap (wl_X10_year G A_t A_t_steps A_t_wet A_t_where A_t_home A_t_light A_t_carries A_t_sightPlace A_t_sightLight A_t_pad A_t_act A_t_whose A_t_whom A_t_tens A_t_had A_t_leaves A_t_apart A_t_stop A_t_restOf A_t_group A_t_along A_t_kept A_t_isKept w29 c_t_walkers c_t_sights c_t_padMany c_t_acts v21 v22 c_t_badAct c_t_badWhy c_t_keptAt c_t_isWriting c_t_steps c_t_wet w30 c_t_home w31 w32 w7) H locs := hw
        refine lv_iload_n hx hb dX10_year_213 rfl (lv_at hl 1 rfl) ?_
        refine lv_if_ne (tgt := 224) hx hb dX10_year_214 (by decide) (fun hc => ?_) (fun hc => ?_)
        · replace hf := it_f hc hf
          refine lv_iload_n hx hb dX10_year_224 rfl (lv_at hl 1 rfl) ?_
          refine lv_iconst (v := 1) hx hb dX10_year_225 (by decide) ?_
          refine lv_icmp_ne (tgt := 234) hx hb dX10_year_226 (by decide) (fun hc => ?_) (fun hc => ?_)
          · replace hf := it_f hc hf
            refine lv_aload_n hx hb dX10_year_234 rfl (lv_at hl 0 rfl) ?_
            refine g_get hC hw fkX10_169 0 rfl rfl dX10_year_235 ?_
            obtain ⟨h1_, h2_, h3_, h4_, h5_, h6_, h7_, h8_⟩ := t8_ hf
            subst h1_
            subst h2_
            subst h3_
            subst h4_
            subst h5_
            subst h6_
            subst h7_
            subst h8_
            exact hret _ _ _ _ dX10_year_238 hw
          · replace hf := it_t hc hf
            refine lv_iload hx hb dX10_year_229 (lv_at hl 2 rfl) ?_
            refine lv_goto (tgt := 238) hx hb dX10_year_231 (by decide) ?_
            obtain ⟨h1_, h2_, h3_, h4_, h5_, h6_, h7_, h8_⟩ := t8_ hf
            subst h1_
            subst h2_
            subst h3_
            subst h4_
            subst h5_
            subst h6_
            subst h7_
            subst h8_
            exact hret _ _ _ _ dX10_year_238 hw
        · replace hf := it_t hc hf
          refine lv_aload_n hx hb dX10_year_217 rfl (lv_at hl 0 rfl) ?_
          refine g_get hC hw fkX10_166 0 rfl rfl dX10_year_218 ?_
          refine lv_goto (tgt := 238) hx hb dX10_year_221 (by decide) ?_
          obtain ⟨h1_, h2_, h3_, h4_, h5_, h6_, h7_, h8_⟩ := t8_ hf
          subst h1_
          subst h2_
          subst h3_
          subst h4_
          subst h5_
          subst h6_
          subst h7_
          subst h8_
          exact hret _ _ _ _ dX10_year_238 hw
      · replace hf := it_t hc hf
        refine lv_bipush (v := (-2)) hx hb dX10_year_36 (by decide) ?_
        obtain ⟨h1_, h2_, h3_, h4_, h5_, h6_, h7_, h8_⟩ := t8_ hf
        subst h1_
        subst h2_
        subst h3_
        subst h4_
        subst h5_
        subst h6_
        subst h7_
        subst h8_
        exact hret _ _ _ _ dX10_year_38 hw
set_option maxHeartbeats 4000000 in
set_option maxRecDepth 100000 in
theorem cn_X10_year (l : Launch) (G : gw_) (A_t : Nat) (A_t_steps : Nat) (A_t_wet : Nat) (A_t_where : Nat) (A_t_home : Nat) (A_t_light : Nat) (A_t_carries : Nat) (A_t_sightPlace : Nat) (A_t_sightLight : Nat) (A_t_pad : Nat) (A_t_act : Nat) (A_t_whose : Nat) (A_t_whom : Nat) (A_t_tens : Nat) (A_t_had : Nat) (A_t_leaves : Nat) (A_t_apart : Nat) (A_t_stop : Nat) (A_t_restOf : Nat) (A_t_group : Nat) (A_t_along : Nat) (A_t_kept : Nat) (A_t_isKept : Nat) (c_t_foggy : Int32) (c_t_walkers : Int32) (c_t_sights : Int32) (c_t_padMany : Int32) (c_t_acts : Int32) (c_t_spent : Int32) (c_t_walks : Int32) (c_t_badAct : Int32) (c_t_badWhy : Int32) (c_t_keptAt : Int32) (c_t_isWriting : Int32) (c_t_steps : Nat → Int32) (c_t_wet : Nat → Int32) (c_t_where : Nat → Int32) (c_t_home : Nat → Int32) (c_t_light : Nat → Int32) (c_t_carries : Nat → Int32) (c_t_had : Nat → Int32) (x1 : Int32) (x2 : Int32) (x3 : Int32) (r : Int32) (z_t_foggy : Int32) (z_t_spent : Int32) (z_t_walks : Int32) (z_t_where : Nat → Int32) (z_t_light : Nat → Int32) (z_t_carries : Nat → Int32) (z_t_had : Nat → Int32) (hf : fn_X10_year c_t_foggy c_t_walkers c_t_spent c_t_walks c_t_steps c_t_wet c_t_where c_t_home c_t_light c_t_carries c_t_had x1 x2 x3 = some (r, z_t_foggy, z_t_spent, z_t_walks, z_t_where, z_t_light, z_t_carries, z_t_had)) : ci_ l G yX10_year cX10_year 9 (some .int) 6 139 (wl_X10_year G A_t A_t_steps A_t_wet A_t_where A_t_home A_t_light A_t_carries A_t_sightPlace A_t_sightLight A_t_pad A_t_act A_t_whose A_t_whom A_t_tens A_t_had A_t_leaves A_t_apart A_t_stop A_t_restOf A_t_group A_t_along A_t_kept A_t_isKept c_t_foggy c_t_walkers c_t_sights c_t_padMany c_t_acts c_t_spent c_t_walks c_t_badAct c_t_badWhy c_t_keptAt c_t_isWriting c_t_steps c_t_wet c_t_where c_t_home c_t_light c_t_carries c_t_had) [.ref A_t, .int x1, .int x2, .int x3] r (wl_X10_year G A_t A_t_steps A_t_wet A_t_where A_t_home A_t_light A_t_carries A_t_sightPlace A_t_sightLight A_t_pad A_t_act A_t_whose A_t_whom A_t_tens A_t_had A_t_leaves A_t_apart A_t_stop A_t_restOf A_t_group A_t_along A_t_kept A_t_isKept z_t_foggy c_t_walkers c_t_sights c_t_padMany c_t_acts z_t_spent z_t_walks c_t_badAct c_t_badWhy c_t_keptAt c_t_isWriting c_t_steps c_t_wet z_t_where c_t_home z_t_light z_t_carries z_t_had) := fun sz => met_intro (by decide) (Nat.le_of_ble_eq_true rfl) (fun p e s m args below meth c ls hsz hC hr hlk hnm hl hw => wn_X10_year hC (fun pc H locs ls hd hw => g_iret hC hr hlk hw rfl rfl hd) hf hl hw)

theorem dX10_pass_0 : decode cX10_pass 0 = .ok (.aload_n 0, 1) := by decide +kernel
theorem dX10_pass_1 : decode cX10_pass 1 = .ok (.getfield 288, 3) := by decide +kernel
theorem dX10_pass_4 : decode cX10_pass 4 = .ok (.ifCond .eq 7, 3) := by decide +kernel
theorem dX10_pass_7 : decode cX10_pass 7 = .ok (.iload_n 1, 1) := by decide +kernel
theorem dX10_pass_8 : decode cX10_pass 8 = .ok (.goto 12, 3) := by decide +kernel
theorem dX10_pass_11 : decode cX10_pass 11 = .ok (.aload_n 0, 1) := by decide +kernel
theorem dX10_pass_12 : decode cX10_pass 12 = .ok (.getfield 70, 3) := by decide +kernel
theorem dX10_pass_15 : decode cX10_pass 15 = .ok (.aload_n 0, 1) := by decide +kernel
theorem dX10_pass_16 : decode cX10_pass 16 = .ok (.getfield 292, 3) := by decide +kernel
theorem dX10_pass_19 : decode cX10_pass 19 = .ok (.iaload, 1) := by decide +kernel
theorem dX10_pass_20 : decode cX10_pass 20 = .ok (.istore_n 2, 1) := by decide +kernel
theorem dX10_pass_21 : decode cX10_pass 21 = .ok (.aload_n 0, 1) := by decide +kernel
theorem dX10_pass_22 : decode cX10_pass 22 = .ok (.getfield 70, 3) := by decide +kernel
theorem dX10_pass_25 : decode cX10_pass 25 = .ok (.aload_n 0, 1) := by decide +kernel
theorem dX10_pass_26 : decode cX10_pass 26 = .ok (.getfield 292, 3) := by decide +kernel
theorem dX10_pass_29 : decode cX10_pass 29 = .ok (.iload_n 2, 1) := by decide +kernel
theorem dX10_pass_30 : decode cX10_pass 30 = .ok (.iastore, 1) := by decide +kernel
theorem dX10_pass_31 : decode cX10_pass 31 = .ok (.aload_n 0, 1) := by decide +kernel
theorem dX10_pass_32 : decode cX10_pass 32 = .ok (.dup, 1) := by decide +kernel
theorem dX10_pass_33 : decode cX10_pass 33 = .ok (.getfield 292, 3) := by decide +kernel
theorem dX10_pass_36 : decode cX10_pass 36 = .ok (.iconst 1, 1) := by decide +kernel
theorem dX10_pass_37 : decode cX10_pass 37 = .ok (.iadd, 1) := by decide +kernel
theorem dX10_pass_38 : decode cX10_pass 38 = .ok (.putfield 292, 3) := by decide +kernel
theorem dX10_pass_41 : decode cX10_pass 41 = .ok (.iload_n 2, 1) := by decide +kernel
theorem dX10_pass_42 : decode cX10_pass 42 = .ok (.ireturn, 1) := by decide +kernel
abbrev wl_X10_pass (G : gw_) (A_t : Nat) (A_t_steps : Nat) (A_t_wet : Nat) (A_t_where : Nat) (A_t_home : Nat) (A_t_light : Nat) (A_t_carries : Nat) (A_t_sightPlace : Nat) (A_t_sightLight : Nat) (A_t_pad : Nat) (A_t_act : Nat) (A_t_whose : Nat) (A_t_whom : Nat) (A_t_tens : Nat) (A_t_had : Nat) (A_t_leaves : Nat) (A_t_apart : Nat) (A_t_stop : Nat) (A_t_restOf : Nat) (A_t_group : Nat) (A_t_along : Nat) (A_t_kept : Nat) (A_t_isKept : Nat) (c_t_foggy : Int32) (c_t_walkers : Int32) (c_t_sights : Int32) (c_t_padMany : Int32) (c_t_acts : Int32) (c_t_spent : Int32) (c_t_walks : Int32) (c_t_badAct : Int32) (c_t_badWhy : Int32) (c_t_keptAt : Int32) (c_t_isWriting : Int32) (c_t_kept : Nat → Int32) : va_W := [ob_ A_t 10 [.ref A_t_steps, .ref A_t_wet, .int c_t_foggy, .int c_t_walkers, .ref A_t_where, .ref A_t_home, .ref A_t_light, .ref A_t_carries, .ref A_t_sightPlace, .ref A_t_sightLight, .int c_t_sights, .ref A_t_pad, .int c_t_padMany, .ref A_t_act, .ref A_t_whose, .ref A_t_whom, .ref A_t_tens, .int c_t_acts, .int c_t_spent, .int c_t_walks, .ref A_t_had, .ref A_t_leaves, .int c_t_badAct, .int c_t_badWhy, .ref A_t_apart, .ref A_t_stop, .ref A_t_restOf, .ref A_t_group, .ref A_t_along, .ref A_t_kept, .ref A_t_isKept, .int c_t_keptAt, .int c_t_isWriting], ia_ G A_t_kept 700 c_t_kept]
def fn_X10_pass_j20 (c_t_keptAt : Int32) (c_t_kept : Nat → Int32) (s0 : Int32)  : Option (Int32 × Int32 × (Nat → Int32)) :=
  ck_ c_t_keptAt 700 <|
  lx_ (upd c_t_kept (Int32.toNatClampNeg c_t_keptAt) s0) fun f1 =>
  some (s0, c_t_keptAt + 1, f1)
def fn_X10_pass (c_t_keptAt : Int32) (c_t_isWriting : Int32) (c_t_kept : Nat → Int32) (x1 : Int32) : Option (Int32 × Int32 × (Nat → Int32)) :=
  if c_t_isWriting = 0 then
    ck_ c_t_keptAt 700 <|
    fn_X10_pass_j20 c_t_keptAt c_t_kept (c_t_kept (Int32.toNatClampNeg c_t_keptAt))
  else
    fn_X10_pass_j20 c_t_keptAt c_t_kept x1
set_option maxHeartbeats 4000000 in
set_option maxRecDepth 100000 in
theorem wn_X10_pass_j20 {p : Program} {l : Launch} {e : Env} {s : State} {m : MethodId} {args : Array Value} {below : List Frame} {meth : Method} {c : Code} {G : gw_} {A : Nat → Prop} {Q : State → Prop} {A_t : Nat} {A_t_steps : Nat} {A_t_wet : Nat} {A_t_where : Nat} {A_t_home : Nat} {A_t_light : Nat} {A_t_carries : Nat} {A_t_sightPlace : Nat} {A_t_sightLight : Nat} {A_t_pad : Nat} {A_t_act : Nat} {A_t_whose : Nat} {A_t_whom : Nat} {A_t_tens : Nat} {A_t_had : Nat} {A_t_leaves : Nat} {A_t_apart : Nat} {A_t_stop : Nat} {A_t_restOf : Nat} {A_t_group : Nat} {A_t_along : Nat} {A_t_kept : Nat} {A_t_isKept : Nat} {c_t_foggy : Int32} {c_t_walkers : Int32} {c_t_sights : Int32} {c_t_padMany : Int32} {c_t_acts : Int32} {c_t_spent : Int32} {c_t_walks : Int32} {c_t_badAct : Int32} {c_t_badWhy : Int32} {c_t_keptAt : Int32} {z_t_keptAt : Int32} {c_t_isWriting : Int32} {c_t_kept : Nat → Int32} {z_t_kept : Nat → Int32} {r : Int32} {s0 : Int32} (hC : cx_ p s m c G cX10_pass 3 RX10) (hret : ∀ (pc : Nat) (H : Heap) (locs : List Loc) (ls : Array Slot), decode cX10_pass pc = .ok (.ireturn, 1) → wd_ G A s.heap (wl_X10_pass G A_t A_t_steps A_t_wet A_t_where A_t_home A_t_light A_t_carries A_t_sightPlace A_t_sightLight A_t_pad A_t_act A_t_whose A_t_whom A_t_tens A_t_had A_t_leaves A_t_apart A_t_stop A_t_restOf A_t_group A_t_along A_t_kept A_t_isKept c_t_foggy c_t_walkers c_t_sights c_t_padMany c_t_acts c_t_spent c_t_walks c_t_badAct c_t_badWhy z_t_keptAt c_t_isWriting z_t_kept) H locs → W p l e { frames := 0, cells := 0, slots := 0, locals := 0 } s m args below meth c H locs 0 0 Q (F0 m pc ls [.int r]))  (hf : fn_X10_pass_j20 c_t_keptAt c_t_kept s0 = some (r, z_t_keptAt, z_t_kept)) {H : Heap} {locs : List Loc} {ls : Array Slot} (hl : lv_has ls 3 [(0, .ref A_t)]) (hw : wd_ G A s.heap (wl_X10_pass G A_t A_t_steps A_t_wet A_t_where A_t_home A_t_light A_t_carries A_t_sightPlace A_t_sightLight A_t_pad A_t_act A_t_whose A_t_whom A_t_tens A_t_had A_t_leaves A_t_apart A_t_stop A_t_restOf A_t_group A_t_along A_t_kept A_t_isKept c_t_foggy c_t_walkers c_t_sights c_t_padMany c_t_acts c_t_spent c_t_walks c_t_badAct c_t_badWhy c_t_keptAt c_t_isWriting c_t_kept) H locs) : W p l e { frames := 0, cells := 0, slots := 0, locals := 0 } s m args below meth c H locs 0 0 Q (F0 m 20 ls [.int s0]) := by
  have hx := hC.1
  have hb := hC.2.1
  unfold fn_X10_pass_j20 at hf
  refine lv_istore_n (lv' := [(2, .int s0), (0, .ref A_t)]) hx hb dX10_pass_20 rfl hl (by decide) rfl (fun ls hl => ?_)
  refine lv_aload_n hx hb dX10_pass_21 rfl (lv_at hl 1 rfl) ?_
  refine g_get hC hw fkX10_70 0 rfl rfl dX10_pass_22 ?_
  refine lv_aload_n hx hb dX10_pass_25 rfl (lv_at hl 1 rfl) ?_
  refine g_get hC hw fkX10_292 0 rfl rfl dX10_pass_26 ?_
  refine lv_iload_n hx hb dX10_pass_29 rfl (lv_at hl 0 rfl) ?_
  obtain ⟨hi, hf⟩ := ck_s hf
  obtain ⟨f1, ef1, hf⟩ := lx_s hf
  refine g_iast hC hw 1 rfl hi ef1 dX10_pass_30 (fun H locs hw => ?_)
  have hw : wd_ G A s.heap (wl_X10_pass G A_t A_t_steps A_t_wet A_t_where A_t_home A_t_light A_t_carries A_t_sightPlace A_t_sightLight A_t_pad A_t_act A_t_whose A_t_whom A_t_tens A_t_had A_t_leaves A_t_apart A_t_stop A_t_restOf A_t_group A_t_along A_t_kept A_t_isKept c_t_foggy c_t_walkers c_t_sights c_t_padMany c_t_acts c_t_spent c_t_walks c_t_badAct c_t_badWhy c_t_keptAt c_t_isWriting f1) H locs := hw
  refine lv_aload_n hx hb dX10_pass_31 rfl (lv_at hl 1 rfl) ?_
  refine lv_dup hx hb dX10_pass_32 rfl ?_
  refine g_get hC hw fkX10_292 0 rfl rfl dX10_pass_33 ?_
  refine lv_iconst (v := 1) hx hb dX10_pass_36 (by decide) ?_
  refine lv_iadd hx hb dX10_pass_37 ?_
  refine g_put hC hw fpX10_292 0 rfl rfl rfl (Nat.le_of_ble_eq_true rfl) dX10_pass_38 (fun H locs hw => ?_)
  have hw : wd_ G A s.heap (wl_X10_pass G A_t A_t_steps A_t_wet A_t_where A_t_home A_t_light A_t_carries A_t_sightPlace A_t_sightLight A_t_pad A_t_act A_t_whose A_t_whom A_t_tens A_t_had A_t_leaves A_t_apart A_t_stop A_t_restOf A_t_group A_t_along A_t_kept A_t_isKept c_t_foggy c_t_walkers c_t_sights c_t_padMany c_t_acts c_t_spent c_t_walks c_t_badAct c_t_badWhy (c_t_keptAt + 1) c_t_isWriting f1) H locs := hw
  refine lv_iload_n hx hb dX10_pass_41 rfl (lv_at hl 0 rfl) ?_
  obtain ⟨h1_, h2_, h3_⟩ := t3_ hf
  subst h1_
  subst h2_
  subst h3_
  exact hret _ _ _ _ dX10_pass_42 hw
set_option maxHeartbeats 4000000 in
set_option maxRecDepth 100000 in
theorem wn_X10_pass {p : Program} {l : Launch} {e : Env} {s : State} {m : MethodId} {args : Array Value} {below : List Frame} {meth : Method} {c : Code} {G : gw_} {A : Nat → Prop} {Q : State → Prop} {A_t : Nat} {A_t_steps : Nat} {A_t_wet : Nat} {A_t_where : Nat} {A_t_home : Nat} {A_t_light : Nat} {A_t_carries : Nat} {A_t_sightPlace : Nat} {A_t_sightLight : Nat} {A_t_pad : Nat} {A_t_act : Nat} {A_t_whose : Nat} {A_t_whom : Nat} {A_t_tens : Nat} {A_t_had : Nat} {A_t_leaves : Nat} {A_t_apart : Nat} {A_t_stop : Nat} {A_t_restOf : Nat} {A_t_group : Nat} {A_t_along : Nat} {A_t_kept : Nat} {A_t_isKept : Nat} {c_t_foggy : Int32} {c_t_walkers : Int32} {c_t_sights : Int32} {c_t_padMany : Int32} {c_t_acts : Int32} {c_t_spent : Int32} {c_t_walks : Int32} {c_t_badAct : Int32} {c_t_badWhy : Int32} {c_t_keptAt : Int32} {z_t_keptAt : Int32} {c_t_isWriting : Int32} {c_t_kept : Nat → Int32} {z_t_kept : Nat → Int32} {r : Int32} {x1 : Int32} (hC : cx_ p s m c G cX10_pass 3 RX10) (hret : ∀ (pc : Nat) (H : Heap) (locs : List Loc) (ls : Array Slot), decode cX10_pass pc = .ok (.ireturn, 1) → wd_ G A s.heap (wl_X10_pass G A_t A_t_steps A_t_wet A_t_where A_t_home A_t_light A_t_carries A_t_sightPlace A_t_sightLight A_t_pad A_t_act A_t_whose A_t_whom A_t_tens A_t_had A_t_leaves A_t_apart A_t_stop A_t_restOf A_t_group A_t_along A_t_kept A_t_isKept c_t_foggy c_t_walkers c_t_sights c_t_padMany c_t_acts c_t_spent c_t_walks c_t_badAct c_t_badWhy z_t_keptAt c_t_isWriting z_t_kept) H locs → W p l e { frames := 0, cells := 0, slots := 0, locals := 0 } s m args below meth c H locs 0 0 Q (F0 m pc ls [.int r])) (hf : fn_X10_pass c_t_keptAt c_t_isWriting c_t_kept x1 = some (r, z_t_keptAt, z_t_kept)) {H : Heap} {locs : List Loc} {ls : Array Slot} (hl : lv_has ls 3 [(0, .ref A_t), (1, .int x1)]) (hw : wd_ G A s.heap (wl_X10_pass G A_t A_t_steps A_t_wet A_t_where A_t_home A_t_light A_t_carries A_t_sightPlace A_t_sightLight A_t_pad A_t_act A_t_whose A_t_whom A_t_tens A_t_had A_t_leaves A_t_apart A_t_stop A_t_restOf A_t_group A_t_along A_t_kept A_t_isKept c_t_foggy c_t_walkers c_t_sights c_t_padMany c_t_acts c_t_spent c_t_walks c_t_badAct c_t_badWhy c_t_keptAt c_t_isWriting c_t_kept) H locs) : W p l e { frames := 0, cells := 0, slots := 0, locals := 0 } s m args below meth c H locs 0 0 Q (F0 m 0 ls []) := by
  have hx := hC.1
  have hb := hC.2.1
  unfold fn_X10_pass at hf
  refine lv_aload_n hx hb dX10_pass_0 rfl (lv_at hl 0 rfl) ?_
  refine g_get hC hw fkX10_288 0 rfl rfl dX10_pass_1 ?_
  refine lv_if_eq (tgt := 11) hx hb dX10_pass_4 (by decide) (fun hc => ?_) (fun hc => ?_)
  · replace hf := it_t hc hf
    refine lv_aload_n hx hb dX10_pass_11 rfl (lv_at hl 0 rfl) ?_
    refine g_get hC hw fkX10_70 0 rfl rfl dX10_pass_12 ?_
    refine lv_aload_n hx hb dX10_pass_15 rfl (lv_at hl 0 rfl) ?_
    refine g_get hC hw fkX10_292 0 rfl rfl dX10_pass_16 ?_
    obtain ⟨hi, hf⟩ := ck_s hf
    refine g_iald hC hw 1 rfl hi dX10_pass_19 ?_
    exact wn_X10_pass_j20 hC hret hf (lv_sub hl [0] rfl) hw
  · replace hf := it_f hc hf
    refine lv_iload_n hx hb dX10_pass_7 rfl (lv_at hl 1 rfl) ?_
    refine lv_goto (tgt := 20) hx hb dX10_pass_8 (by decide) ?_
    exact wn_X10_pass_j20 hC hret hf (lv_sub hl [0] rfl) hw
set_option maxHeartbeats 4000000 in
set_option maxRecDepth 100000 in
theorem cn_X10_pass (l : Launch) (G : gw_) (A_t : Nat) (A_t_steps : Nat) (A_t_wet : Nat) (A_t_where : Nat) (A_t_home : Nat) (A_t_light : Nat) (A_t_carries : Nat) (A_t_sightPlace : Nat) (A_t_sightLight : Nat) (A_t_pad : Nat) (A_t_act : Nat) (A_t_whose : Nat) (A_t_whom : Nat) (A_t_tens : Nat) (A_t_had : Nat) (A_t_leaves : Nat) (A_t_apart : Nat) (A_t_stop : Nat) (A_t_restOf : Nat) (A_t_group : Nat) (A_t_along : Nat) (A_t_kept : Nat) (A_t_isKept : Nat) (c_t_foggy : Int32) (c_t_walkers : Int32) (c_t_sights : Int32) (c_t_padMany : Int32) (c_t_acts : Int32) (c_t_spent : Int32) (c_t_walks : Int32) (c_t_badAct : Int32) (c_t_badWhy : Int32) (c_t_keptAt : Int32) (c_t_isWriting : Int32) (c_t_kept : Nat → Int32) (x1 : Int32) (r : Int32) (z_t_keptAt : Int32) (z_t_kept : Nat → Int32) (hf : fn_X10_pass c_t_keptAt c_t_isWriting c_t_kept x1 = some (r, z_t_keptAt, z_t_kept)) : ci_ l G yX10_pass cX10_pass 3 (some .int) 0 0 (wl_X10_pass G A_t A_t_steps A_t_wet A_t_where A_t_home A_t_light A_t_carries A_t_sightPlace A_t_sightLight A_t_pad A_t_act A_t_whose A_t_whom A_t_tens A_t_had A_t_leaves A_t_apart A_t_stop A_t_restOf A_t_group A_t_along A_t_kept A_t_isKept c_t_foggy c_t_walkers c_t_sights c_t_padMany c_t_acts c_t_spent c_t_walks c_t_badAct c_t_badWhy c_t_keptAt c_t_isWriting c_t_kept) [.ref A_t, .int x1] r (wl_X10_pass G A_t A_t_steps A_t_wet A_t_where A_t_home A_t_light A_t_carries A_t_sightPlace A_t_sightLight A_t_pad A_t_act A_t_whose A_t_whom A_t_tens A_t_had A_t_leaves A_t_apart A_t_stop A_t_restOf A_t_group A_t_along A_t_kept A_t_isKept c_t_foggy c_t_walkers c_t_sights c_t_padMany c_t_acts c_t_spent c_t_walks c_t_badAct c_t_badWhy z_t_keptAt c_t_isWriting z_t_kept) := fun sz => met_intro (by decide) (Nat.le_of_ble_eq_true rfl) (fun p e s m args below meth c ls hsz hC hr hlk hnm hl hw => wn_X10_pass hC (fun pc H locs ls hd hw => g_iret hC hr hlk hw rfl rfl hd) hf hl hw)
