set_option maxRecDepth 100000 in
theorem fkX9_12 : fk_ RX9 12 9 0 := ⟨_, _, _, rfl, by decide, Or.inl (tb1 214 rfl rfl)⟩
set_option maxRecDepth 100000 in
theorem fkX9_23 : fk_ RX9 23 9 2 := ⟨_, _, _, rfl, by decide, Or.inl (tb1 216 rfl rfl)⟩
set_option maxRecDepth 100000 in
theorem fkX9_30 : fk_ RX9 30 9 3 := ⟨_, _, _, rfl, by decide, Or.inl (tb1 217 rfl rfl)⟩
set_option maxRecDepth 100000 in
theorem fkX9_37 : fk_ RX9 37 9 4 := ⟨_, _, _, rfl, by decide, Or.inl (tb1 218 rfl rfl)⟩
set_option maxRecDepth 100000 in
theorem fkX9_44 : fk_ RX9 44 9 5 := ⟨_, _, _, rfl, by decide, Or.inl (tb1 219 rfl rfl)⟩
set_option maxRecDepth 100000 in
theorem fkX9_55 : fk_ RX9 55 9 7 := ⟨_, _, _, rfl, by decide, Or.inl (tb1 221 rfl rfl)⟩
set_option maxRecDepth 100000 in
theorem fpX9_55 : fp_ RX9 55 9 7 .boolean := ⟨_, _, _, rfl, by decide, rfl, by decide +kernel, Or.inl (tb1 221 rfl rfl)⟩
set_option maxRecDepth 100000 in
theorem msX9_59 : ms_ RX9 59 yX9_isPlace cX9_isPlace 1 (some .boolean) 1 := ⟨Or.inl (tb2 3 rfl rfl), (tb2 4 rfl rfl), (tb1 1 rfl rfl), (tb2 5 rfl rfl), by decide +kernel⟩
set_option maxRecDepth 100000 in
theorem msX9_63 : ms_ RX9 63 yX9_isWithin cX9_isWithin 3 (some .boolean) 3 := ⟨Or.inl (tb2 6 rfl rfl), (tb2 7 rfl rfl), (tb1 1 rfl rfl), (tb2 8 rfl rfl), by decide +kernel⟩
set_option maxRecDepth 100000 in
theorem fkX9_67 : fk_ RX9 67 5 0 := ⟨_, _, _, rfl, by decide, Or.inr ⟨_, (tb1 98 rfl rfl)⟩⟩
set_option maxRecDepth 100000 in
theorem mvX9_71 : mv_ RX9 71 yX2_code cX2_code 3 (some .int) RX2 2 := ⟨Or.inl (tb2 9 rfl rfl), (tb2 10 rfl rfl), (tb2 11 rfl rfl), (tb1 3 rfl rfl), (tb2 12 rfl rfl), by decide +kernel⟩
set_option maxRecDepth 100000 in
theorem mvX9_77 : mv_ RX9 77 yX2_lay cX2_lay 6 none RX2 4 := ⟨Or.inl (tb2 13 rfl rfl), (tb2 14 rfl rfl), (tb2 15 rfl rfl), (tb1 3 rfl rfl), (tb2 16 rfl rfl), by decide +kernel⟩
set_option maxRecDepth 100000 in
theorem fkX9_81 : fk_ RX9 81 5 1 := ⟨_, _, _, rfl, by decide, Or.inr ⟨_, (tb1 102 rfl rfl)⟩⟩
set_option maxRecDepth 100000 in
theorem mvX9_85 : mv_ RX9 85 yX0_enter cX0_enter 5 none RX0 4 := ⟨Or.inl (tb2 21 rfl rfl), (tb2 22 rfl rfl), (tb2 23 rfl rfl), (tb1 4 rfl rfl), (tb2 24 rfl rfl), by decide +kernel⟩
set_option maxRecDepth 100000 in
theorem mvX9_91 : mv_ RX9 91 yX0_size cX0_size 1 (some .int) RX0 0 := ⟨Or.inl (tb2 33 rfl rfl), (tb2 34 rfl rfl), (tb2 35 rfl rfl), (tb1 4 rfl rfl), (tb2 36 rfl rfl), by decide +kernel⟩
set_option maxRecDepth 100000 in
theorem mvX9_95 : mv_ RX9 95 yX0_has cX0_has 2 (some .boolean) RX0 1 := ⟨Or.inl (tb2 47 rfl rfl), (tb2 48 rfl rfl), (tb2 49 rfl rfl), (tb1 4 rfl rfl), (tb2 50 rfl rfl), by decide +kernel⟩
set_option maxRecDepth 100000 in
theorem mvX9_98 : mv_ RX9 98 yX0_remove cX0_remove 2 none RX0 1 := ⟨Or.inl (tb2 55 rfl rfl), (tb2 56 rfl rfl), (tb2 57 rfl rfl), (tb1 4 rfl rfl), (tb2 58 rfl rfl), by decide +kernel⟩
set_option maxRecDepth 100000 in
theorem fkX9_102 : fk_ RX9 102 0 1 := ⟨_, _, _, rfl, by decide, Or.inr ⟨_, (tb1 54 rfl rfl)⟩⟩
set_option maxRecDepth 100000 in
theorem fpX9_102 : fp_ RX9 102 0 1 .boolean := ⟨_, _, _, rfl, by decide, rfl, by decide +kernel, Or.inr ⟨_, (tb1 54 rfl rfl)⟩⟩
set_option maxRecDepth 100000 in
theorem fkX9_105 : fk_ RX9 105 4 0 := ⟨_, _, _, rfl, by decide, Or.inr ⟨_, (tb1 121 rfl rfl)⟩⟩
set_option maxRecDepth 100000 in
theorem mvX9_109 : mv_ RX9 109 yX4_add cX4_add 2 none RX4 1 := ⟨Or.inl (tb2 67 rfl rfl), (tb2 68 rfl rfl), (tb2 69 rfl rfl), (tb1 7 rfl rfl), (tb2 70 rfl rfl), by decide +kernel⟩
set_option maxRecDepth 100000 in
theorem mvX9_112 : mv_ RX9 112 yX4_clear cX4_clear 1 none RX4 0 := ⟨Or.inl (tb2 75 rfl rfl), (tb2 76 rfl rfl), (tb2 77 rfl rfl), (tb1 7 rfl rfl), (tb2 78 rfl rfl), by decide +kernel⟩
set_option maxRecDepth 100000 in
theorem mvX9_115 : mv_ RX9 115 yX4_firstFault cX4_firstFault 3 (some .int) RX4 0 := ⟨Or.inl (tb2 83 rfl rfl), (tb2 84 rfl rfl), (tb2 85 rfl rfl), (tb1 7 rfl rfl), (tb2 86 rfl rfl), by decide +kernel⟩
set_option maxRecDepth 100000 in
theorem mvX9_118 : mv_ RX9 118 yX9_playEvening cX9_playEvening 1 (some .int) RX9 0 := ⟨Or.inl (tb2 98 rfl rfl), (tb2 100 rfl rfl), (tb0 2 rfl rfl), (tb1 1 rfl rfl), (tb2 101 rfl rfl), by decide +kernel⟩
set_option maxRecDepth 100000 in
theorem fkX9_121 : fk_ RX9 121 1 2 := ⟨_, _, _, rfl, by decide, Or.inr ⟨_, (tb1 141 rfl rfl)⟩⟩
set_option maxRecDepth 100000 in
theorem fkX9_124 : fk_ RX9 124 1 3 := ⟨_, _, _, rfl, by decide, Or.inr ⟨_, (tb1 143 rfl rfl)⟩⟩
set_option maxRecDepth 100000 in
theorem fkX9_127 : fk_ RX9 127 1 4 := ⟨_, _, _, rfl, by decide, Or.inr ⟨_, (tb1 145 rfl rfl)⟩⟩
set_option maxRecDepth 100000 in
theorem fkX9_130 : fk_ RX9 130 1 0 := ⟨_, _, _, rfl, by decide, Or.inr ⟨_, (tb1 137 rfl rfl)⟩⟩
set_option maxRecDepth 100000 in
theorem fkX9_131 : fk_ RX9 131 0 2 := ⟨_, _, _, rfl, by decide, Or.inr ⟨_, (tb1 56 rfl rfl)⟩⟩
set_option maxRecDepth 100000 in
theorem fkX9_135 : fk_ RX9 135 0 4 := ⟨_, _, _, rfl, by decide, Or.inr ⟨_, (tb1 60 rfl rfl)⟩⟩
set_option maxRecDepth 100000 in
theorem fkX9_138 : fk_ RX9 138 0 5 := ⟨_, _, _, rfl, by decide, Or.inr ⟨_, (tb1 62 rfl rfl)⟩⟩
set_option maxRecDepth 100000 in
theorem fkX9_141 : fk_ RX9 141 0 6 := ⟨_, _, _, rfl, by decide, Or.inr ⟨_, (tb1 64 rfl rfl)⟩⟩
set_option maxRecDepth 100000 in
theorem mvX9_144 : mv_ RX9 144 yX0_standingAt cX0_standingAt 4 (some .int) RX0 1 := ⟨Or.inl (tb2 176 rfl rfl), (tb2 177 rfl rfl), (tb2 178 rfl rfl), (tb1 4 rfl rfl), (tb2 179 rfl rfl), by decide +kernel⟩
set_option maxRecDepth 100000 in
theorem mvX9_148 : mv_ RX9 148 yX0_copyFrom cX0_copyFrom 2 none RX0 1 := ⟨Or.inl (tb2 184 rfl rfl), (tb2 111 rfl rfl), (tb2 112 rfl rfl), (tb1 4 rfl rfl), (tb2 113 rfl rfl), by decide +kernel⟩
set_option maxRecDepth 100000 in
theorem fkX9_152 : fk_ RX9 152 1 1 := ⟨_, _, _, rfl, by decide, Or.inr ⟨_, (tb1 139 rfl rfl)⟩⟩
set_option maxRecDepth 100000 in
theorem mvX9_155 : mv_ RX9 155 yX9_measure cX9_measure 1 none RX9 0 := ⟨Or.inl (tb2 189 rfl rfl), (tb2 191 rfl rfl), (tb0 7 rfl rfl), (tb1 1 rfl rfl), (tb2 192 rfl rfl), by decide +kernel⟩
set_option maxRecDepth 100000 in
theorem mvX9_158 : mv_ RX9 158 yX8_between cX8_between 3 (some .int) RX8 2 := ⟨Or.inl (tb2 207 rfl rfl), (tb2 204 rfl rfl), (tb2 205 rfl rfl), (tb1 9 rfl rfl), (tb2 206 rfl rfl), by decide +kernel⟩
set_option maxRecDepth 100000 in
theorem msX9_161 : ms_ RX9 161 yX9_orNone cX9_orNone 1 (some .int) 1 := ⟨Or.inl (tb2 208 rfl rfl), (tb2 209 rfl rfl), (tb1 1 rfl rfl), (tb2 210 rfl rfl), by decide +kernel⟩
set_option maxRecDepth 100000 in
theorem mvX9_164 : mv_ RX9 164 yX8_firstPlace cX8_firstPlace 4 (some .int) RX8 2 := ⟨Or.inl (tb2 212 rfl rfl), (tb2 213 rfl rfl), (tb2 214 rfl rfl), (tb1 9 rfl rfl), (tb2 215 rfl rfl), by decide +kernel⟩
set_option maxRecDepth 100000 in
theorem mvX9_167 : mv_ RX9 167 yX0_lightAfter cX0_lightAfter 5 (some .int) RX0 3 := ⟨Or.inl (tb2 224 rfl rfl), (tb2 225 rfl rfl), (tb2 226 rfl rfl), (tb1 4 rfl rfl), (tb2 227 rfl rfl), by decide +kernel⟩
set_option maxRecDepth 100000 in
theorem mvX9_171 : mv_ RX9 171 yX0_costsHome cX0_costsHome 3 (some .int) RX0 2 := ⟨Or.inl (tb2 233 rfl rfl), (tb2 234 rfl rfl), (tb2 235 rfl rfl), (tb1 4 rfl rfl), (tb2 236 rfl rfl), by decide +kernel⟩
set_option maxRecDepth 100000 in
theorem mvX9_176 : mv_ RX9 176 yX0_nthHome cX0_nthHome 4 (some .int) RX0 2 := ⟨Or.inl (tb3 1 rfl rfl), (tb3 2 rfl rfl), (tb3 3 rfl rfl), (tb1 4 rfl rfl), (tb3 4 rfl rfl), by decide +kernel⟩
set_option maxRecDepth 100000 in
theorem msX9_179 : ms_ RX9 179 yJ6_bitCount_0f7a4 cJ6_bitCount_0f7a4 1 (some .int) 1 := ⟨Or.inl (tb3 17 rfl rfl), (tb2 38 rfl rfl), (tb1 13 rfl rfl), (tb2 39 rfl rfl), by decide +kernel⟩
set_option maxRecDepth 100000 in
theorem mvX9_184 : mv_ RX9 184 yX7_plan cX7_plan 7 none RX7 3 := ⟨Or.inl (tb3 18 rfl rfl), (tb3 19 rfl rfl), (tb3 20 rfl rfl), (tb1 10 rfl rfl), (tb3 21 rfl rfl), by decide +kernel⟩
set_option maxRecDepth 100000 in
theorem fkX9_188 : fk_ RX9 188 7 0 := ⟨_, _, _, rfl, by decide, Or.inr ⟨_, (tb1 184 rfl rfl)⟩⟩
set_option maxRecDepth 100000 in
theorem fkX9_189 : fk_ RX9 189 7 1 := ⟨_, _, _, rfl, by decide, Or.inr ⟨_, (tb1 186 rfl rfl)⟩⟩
set_option maxRecDepth 100000 in
theorem mvX9_192 : mv_ RX9 192 yX0_lackAt cX0_lackAt 6 (some .int) RX0 2 := ⟨Or.inl (tb3 42 rfl rfl), (tb3 43 rfl rfl), (tb3 44 rfl rfl), (tb1 4 rfl rfl), (tb3 45 rfl rfl), by decide +kernel⟩
set_option maxRecDepth 100000 in
theorem mvX9_195 : mv_ RX9 195 yX8_countDeciding cX8_countDeciding 3 (some .int) RX8 0 := ⟨Or.inl (tb3 54 rfl rfl), (tb3 55 rfl rfl), (tb3 56 rfl rfl), (tb1 9 rfl rfl), (tb3 57 rfl rfl), by decide +kernel⟩
set_option maxRecDepth 100000 in
theorem mvX9_198 : mv_ RX9 198 yX8_nthDeciding cX8_nthDeciding 4 (some .int) RX8 1 := ⟨Or.inl (tb3 67 rfl rfl), (tb3 68 rfl rfl), (tb3 69 rfl rfl), (tb1 9 rfl rfl), (tb3 70 rfl rfl), by decide +kernel⟩
set_option maxRecDepth 100000 in
theorem mvX9_201 : mv_ RX9 201 yX8_leastFrame cX8_leastFrame 7 (some .int) RX8 1 := ⟨Or.inl (tb3 75 rfl rfl), (tb3 76 rfl rfl), (tb3 77 rfl rfl), (tb1 9 rfl rfl), (tb3 78 rfl rfl), by decide +kernel⟩
set_option maxRecDepth 100000 in
theorem fkX9_205 : fk_ RX9 205 0 0 := ⟨_, _, _, rfl, by decide, Or.inr ⟨_, (tb1 51 rfl rfl)⟩⟩
set_option maxRecDepth 100000 in
theorem mvX9_208 : mv_ RX9 208 yX0_bestPost cX0_bestPost 7 (some .int) RX0 2 := ⟨Or.inl (tb3 90 rfl rfl), (tb3 91 rfl rfl), (tb3 92 rfl rfl), (tb1 4 rfl rfl), (tb3 93 rfl rfl), by decide +kernel⟩
set_option maxRecDepth 100000 in
theorem mvX9_212 : mv_ RX9 212 yX0_postCosts cX0_postCosts 8 (some .int) RX0 3 := ⟨Or.inl (tb3 98 rfl rfl), (tb3 95 rfl rfl), (tb3 96 rfl rfl), (tb1 4 rfl rfl), (tb3 97 rfl rfl), by decide +kernel⟩
set_option maxRecDepth 100000 in
theorem mvX9_216 : mv_ RX9 216 yX8_countPassing cX8_countPassing 5 (some .int) RX8 1 := ⟨Or.inl (tb3 103 rfl rfl), (tb3 104 rfl rfl), (tb3 105 rfl rfl), (tb1 9 rfl rfl), (tb3 106 rfl rfl), by decide +kernel⟩
set_option maxRecDepth 100000 in
theorem fkX9_219 : fk_ RX9 219 5 2 := ⟨_, _, _, rfl, by decide, Or.inr ⟨_, (tb1 104 rfl rfl)⟩⟩
set_option maxRecDepth 100000 in
theorem fkX9_223 : fk_ RX9 223 6 0 := ⟨_, _, _, rfl, by decide, Or.inr ⟨_, (tb1 87 rfl rfl)⟩⟩
set_option maxRecDepth 100000 in
theorem mvX9_226 : mv_ RX9 226 yX6_add cX6_add 3 none RX6 2 := ⟨Or.inl (tb3 115 rfl rfl), (tb3 116 rfl rfl), (tb3 117 rfl rfl), (tb1 6 rfl rfl), (tb3 118 rfl rfl), by decide +kernel⟩
set_option maxRecDepth 100000 in
theorem mvX9_229 : mv_ RX9 229 yX6_clear cX6_clear 1 none RX6 0 := ⟨Or.inl (tb3 123 rfl rfl), (tb3 124 rfl rfl), (tb3 125 rfl rfl), (tb1 6 rfl rfl), (tb3 126 rfl rfl), by decide +kernel⟩
set_option maxRecDepth 100000 in
theorem mvX9_230 : mv_ RX9 230 yX6_fitting cX6_fitting 5 (some .int) RX6 2 := ⟨Or.inl (tb3 131 rfl rfl), (tb3 132 rfl rfl), (tb3 133 rfl rfl), (tb1 6 rfl rfl), (tb3 134 rfl rfl), by decide +kernel⟩
set_option maxRecDepth 100000 in
theorem msX9_234 : ms_ RX9 234 yX6_bestQuestion cX6_bestQuestion 7 (some .int) 3 := ⟨Or.inl (tb3 145 rfl rfl), (tb3 146 rfl rfl), (tb1 6 rfl rfl), (tb3 147 rfl rfl), by decide +kernel⟩
set_option maxRecDepth 100000 in
theorem msX9_238 : ms_ RX9 238 yX6_mostAlike cX6_mostAlike 7 (some .int) 4 := ⟨Or.inl (tb3 156 rfl rfl), (tb3 149 rfl rfl), (tb1 6 rfl rfl), (tb3 150 rfl rfl), by decide +kernel⟩
set_option maxRecDepth 100000 in
theorem fkX9_248 : fk_ RX9 248 0 3 := ⟨_, _, _, rfl, by decide, Or.inr ⟨_, (tb1 58 rfl rfl)⟩⟩
set_option maxRecDepth 100000 in
theorem mvX9_263 : mv_ RX9 263 yX1_playYear cX1_playYear 6 none RX1 3 := ⟨Or.inl (tb3 192 rfl rfl), (tb3 193 rfl rfl), (tb3 194 rfl rfl), (tb1 8 rfl rfl), (tb3 195 rfl rfl), by decide +kernel⟩
set_option maxRecDepth 100000 in
theorem mvX9_267 : mv_ RX9 267 yX0_countAtHome cX0_countAtHome 3 (some .int) RX0 0 := ⟨Or.inl (tb3 197 rfl rfl), (tb3 198 rfl rfl), (tb3 199 rfl rfl), (tb1 4 rfl rfl), (tb3 200 rfl rfl), by decide +kernel⟩
set_option maxRecDepth 100000 in
theorem fkX9_270 : fk_ RX9 270 1 5 := ⟨_, _, _, rfl, by decide, Or.inr ⟨_, (tb1 147 rfl rfl)⟩⟩
set_option maxRecDepth 100000 in
theorem mvX9_276 : mv_ RX9 276 yX9_tellCount cX9_tellCount 2 (some .int) RX9 1 := ⟨Or.inl (tb3 228 rfl rfl), (tb3 230 rfl rfl), (tb0 18 rfl rfl), (tb1 1 rfl rfl), (tb3 231 rfl rfl), by decide +kernel⟩
set_option maxRecDepth 100000 in
theorem mvX9_279 : mv_ RX9 279 yX9_tellWalker cX9_tellWalker 3 (some .int) RX9 2 := ⟨Or.inl (tb3 232 rfl rfl), (tb3 234 rfl rfl), (tb0 19 rfl rfl), (tb1 1 rfl rfl), (tb3 235 rfl rfl), by decide +kernel⟩
set_option maxRecDepth 100000 in
theorem mvX9_282 : mv_ RX9 282 yX1_play cX1_play 6 none RX1 2 := ⟨Or.inl (tb2 102 rfl rfl), (tb2 103 rfl rfl), (tb2 104 rfl rfl), (tb1 8 rfl rfl), (tb2 105 rfl rfl), by decide +kernel⟩
set_option maxRecDepth 100000 in
theorem mvX9_286 : mv_ RX9 286 yX8_measure cX8_measure 6 none RX8 2 := ⟨Or.inl (tb2 193 rfl rfl), (tb2 194 rfl rfl), (tb2 195 rfl rfl), (tb1 9 rfl rfl), (tb2 196 rfl rfl), by decide +kernel⟩
set_option maxRecDepth 100000 in
theorem fkX0_9 : fk_ RX0 9 0 0 := ⟨_, _, _, rfl, by decide, Or.inl (tb1 50 rfl rfl)⟩
set_option maxRecDepth 100000 in
theorem fpX0_9 : fp_ RX0 9 0 0 .int := ⟨_, _, _, rfl, by decide, rfl, by decide +kernel, Or.inl (tb1 50 rfl rfl)⟩
set_option maxRecDepth 100000 in
theorem fkX0_15 : fk_ RX0 15 0 1 := ⟨_, _, _, rfl, by decide, Or.inl (tb1 52 rfl rfl)⟩
set_option maxRecDepth 100000 in
theorem fpX0_15 : fp_ RX0 15 0 1 .boolean := ⟨_, _, _, rfl, by decide, rfl, by decide +kernel, Or.inl (tb1 52 rfl rfl)⟩
set_option maxRecDepth 100000 in
theorem fkX0_19 : fk_ RX0 19 0 2 := ⟨_, _, _, rfl, by decide, Or.inl (tb1 55 rfl rfl)⟩
set_option maxRecDepth 100000 in
theorem fkX0_23 : fk_ RX0 23 0 3 := ⟨_, _, _, rfl, by decide, Or.inl (tb1 57 rfl rfl)⟩
set_option maxRecDepth 100000 in
theorem fkX0_26 : fk_ RX0 26 0 4 := ⟨_, _, _, rfl, by decide, Or.inl (tb1 59 rfl rfl)⟩
set_option maxRecDepth 100000 in
theorem fkX0_29 : fk_ RX0 29 0 5 := ⟨_, _, _, rfl, by decide, Or.inl (tb1 61 rfl rfl)⟩
set_option maxRecDepth 100000 in
theorem fkX0_32 : fk_ RX0 32 0 6 := ⟨_, _, _, rfl, by decide, Or.inl (tb1 63 rfl rfl)⟩
set_option maxRecDepth 100000 in
theorem msX0_41 : ms_ RX0 41 yX9_isWithin cX9_isWithin 3 (some .boolean) 3 := ⟨Or.inr ⟨_, (tb2 51 rfl rfl)⟩, (tb2 7 rfl rfl), (tb1 1 rfl rfl), (tb2 8 rfl rfl), by decide +kernel⟩
set_option maxRecDepth 100000 in
theorem msX0_45 : ms_ RX0 45 yX9_isIn cX9_isIn 2 (some .boolean) 2 := ⟨Or.inr ⟨_, (tb2 52 rfl rfl)⟩, (tb2 53 rfl rfl), (tb1 1 rfl rfl), (tb2 54 rfl rfl), by decide +kernel⟩
set_option maxRecDepth 100000 in
theorem msX0_49 : ms_ RX0 49 yJ6_bitCount_0f7a4 cJ6_bitCount_0f7a4 1 (some .int) 1 := ⟨Or.inl (tb2 37 rfl rfl), (tb2 38 rfl rfl), (tb1 13 rfl rfl), (tb2 39 rfl rfl), by decide +kernel⟩
set_option maxRecDepth 100000 in
theorem mvX0_55 : mv_ RX0 55 yX0_part cX0_part 2 none RX0 1 := ⟨Or.inl (tb2 25 rfl rfl), (tb2 27 rfl rfl), (tb0 0 rfl rfl), (tb1 4 rfl rfl), (tb2 28 rfl rfl), by decide +kernel⟩
set_option maxRecDepth 100000 in
theorem mvX0_59 : mv_ RX0 59 yX0_putDown cX0_putDown 2 none RX0 1 := ⟨Or.inl (tb2 29 rfl rfl), (tb2 31 rfl rfl), (tb0 1 rfl rfl), (tb1 4 rfl rfl), (tb2 32 rfl rfl), by decide +kernel⟩
set_option maxRecDepth 100000 in
theorem mvX0_68 : mv_ RX0 68 yX0_has cX0_has 2 (some .boolean) RX0 1 := ⟨Or.inl (tb2 129 rfl rfl), (tb2 48 rfl rfl), (tb2 49 rfl rfl), (tb1 4 rfl rfl), (tb2 50 rfl rfl), by decide +kernel⟩
set_option maxRecDepth 100000 in
theorem mvX0_72 : mv_ RX0 72 yX2_costs cX2_costs 6 (some .int) RX2 3 := ⟨Or.inl (tb2 139 rfl rfl), (tb2 140 rfl rfl), (tb2 141 rfl rfl), (tb1 3 rfl rfl), (tb2 142 rfl rfl), by decide +kernel⟩
set_option maxRecDepth 100000 in
theorem mvX0_78 : mv_ RX0 78 yX0_whyNotMeet cX0_whyNotMeet 3 (some .int) RX0 2 := ⟨Or.inl (tb2 152 rfl rfl), (tb2 154 rfl rfl), (tb0 6 rfl rfl), (tb1 4 rfl rfl), (tb2 155 rfl rfl), by decide +kernel⟩
set_option maxRecDepth 100000 in
theorem mvX0_87 : mv_ RX0 87 yX8_between cX8_between 3 (some .int) RX8 2 := ⟨Or.inl (tb2 228 rfl rfl), (tb2 204 rfl rfl), (tb2 205 rfl rfl), (tb1 9 rfl rfl), (tb2 206 rfl rfl), by decide +kernel⟩
set_option maxRecDepth 100000 in
theorem mvX0_92 : mv_ RX0 92 yX0_countAheadHome cX0_countAheadHome 6 (some .int) RX0 2 := ⟨Or.inl (tb3 5 rfl rfl), (tb3 7 rfl rfl), (tb0 9 rfl rfl), (tb1 4 rfl rfl), (tb3 8 rfl rfl), by decide +kernel⟩
set_option maxRecDepth 100000 in
theorem mvX0_96 : mv_ RX0 96 yX0_costsHome cX0_costsHome 3 (some .int) RX0 2 := ⟨Or.inl (tb3 9 rfl rfl), (tb2 234 rfl rfl), (tb2 235 rfl rfl), (tb1 4 rfl rfl), (tb2 236 rfl rfl), by decide +kernel⟩
set_option maxRecDepth 100000 in
theorem msX0_99 : ms_ RX0 99 yX0_isAhead cX0_isAhead 4 (some .boolean) 4 := ⟨Or.inl (tb3 10 rfl rfl), (tb3 11 rfl rfl), (tb1 4 rfl rfl), (tb3 12 rfl rfl), by decide +kernel⟩
set_option maxRecDepth 100000 in
theorem mvX0_107 : mv_ RX0 107 yX0_postCosts cX0_postCosts 8 (some .int) RX0 3 := ⟨Or.inl (tb3 94 rfl rfl), (tb3 95 rfl rfl), (tb3 96 rfl rfl), (tb1 4 rfl rfl), (tb3 97 rfl rfl), by decide +kernel⟩
set_option maxRecDepth 100000 in
theorem fkX1_12 : fk_ RX1 12 1 0 := ⟨_, _, _, rfl, by decide, Or.inl (tb1 136 rfl rfl)⟩
set_option maxRecDepth 100000 in
theorem fkX1_18 : fk_ RX1 18 1 1 := ⟨_, _, _, rfl, by decide, Or.inl (tb1 138 rfl rfl)⟩
set_option maxRecDepth 100000 in
theorem fpX1_18 : fp_ RX1 18 1 1 .int := ⟨_, _, _, rfl, by decide, rfl, by decide +kernel, Or.inl (tb1 138 rfl rfl)⟩
set_option maxRecDepth 100000 in
theorem fpX1_22 : fp_ RX1 22 1 2 .int := ⟨_, _, _, rfl, by decide, rfl, by decide +kernel, Or.inl (tb1 140 rfl rfl)⟩
set_option maxRecDepth 100000 in
theorem fpX1_25 : fp_ RX1 25 1 3 .int := ⟨_, _, _, rfl, by decide, rfl, by decide +kernel, Or.inl (tb1 142 rfl rfl)⟩
set_option maxRecDepth 100000 in
theorem fkX1_28 : fk_ RX1 28 1 4 := ⟨_, _, _, rfl, by decide, Or.inl (tb1 144 rfl rfl)⟩
set_option maxRecDepth 100000 in
theorem fpX1_28 : fp_ RX1 28 1 4 .int := ⟨_, _, _, rfl, by decide, rfl, by decide +kernel, Or.inl (tb1 144 rfl rfl)⟩
set_option maxRecDepth 100000 in
theorem fkX1_31 : fk_ RX1 31 1 5 := ⟨_, _, _, rfl, by decide, Or.inl (tb1 146 rfl rfl)⟩
set_option maxRecDepth 100000 in
theorem fpX1_31 : fp_ RX1 31 1 5 .int := ⟨_, _, _, rfl, by decide, rfl, by decide +kernel, Or.inl (tb1 146 rfl rfl)⟩
set_option maxRecDepth 100000 in
theorem fkX1_34 : fk_ RX1 34 5 1 := ⟨_, _, _, rfl, by decide, Or.inr ⟨_, (tb1 101 rfl rfl)⟩⟩
set_option maxRecDepth 100000 in
theorem mvX1_37 : mv_ RX1 37 yX0_copyFrom cX0_copyFrom 2 none RX0 1 := ⟨Or.inl (tb2 110 rfl rfl), (tb2 111 rfl rfl), (tb2 112 rfl rfl), (tb1 4 rfl rfl), (tb2 113 rfl rfl), by decide +kernel⟩
set_option maxRecDepth 100000 in
theorem mvX1_41 : mv_ RX1 41 yX1_begin cX1_begin 2 none RX1 1 := ⟨Or.inl (tb2 106 rfl rfl), (tb2 108 rfl rfl), (tb0 3 rfl rfl), (tb1 8 rfl rfl), (tb2 109 rfl rfl), by decide +kernel⟩
set_option maxRecDepth 100000 in
theorem fkX1_45 : fk_ RX1 45 4 0 := ⟨_, _, _, rfl, by decide, Or.inr ⟨_, (tb1 120 rfl rfl)⟩⟩
set_option maxRecDepth 100000 in
theorem fkX1_50 : fk_ RX1 50 5 0 := ⟨_, _, _, rfl, by decide, Or.inr ⟨_, (tb1 99 rfl rfl)⟩⟩
set_option maxRecDepth 100000 in
theorem mvX1_54 : mv_ RX1 54 yX1_perform cX1_perform 8 (some .int) RX1 3 := ⟨Or.inl (tb2 117 rfl rfl), (tb2 119 rfl rfl), (tb0 4 rfl rfl), (tb1 8 rfl rfl), (tb2 120 rfl rfl), by decide +kernel⟩
set_option maxRecDepth 100000 in
theorem mvX1_58 : mv_ RX1 58 yX4_actLength cX4_actLength 2 (some .int) RX4 1 := ⟨Or.inl (tb2 163 rfl rfl), (tb2 164 rfl rfl), (tb2 165 rfl rfl), (tb1 7 rfl rfl), (tb2 166 rfl rfl), by decide +kernel⟩
set_option maxRecDepth 100000 in
theorem mvX1_62 : mv_ RX1 62 yX4_signAt cX4_signAt 2 (some .int) RX4 1 := ⟨Or.inl (tb2 121 rfl rfl), (tb2 122 rfl rfl), (tb2 123 rfl rfl), (tb1 7 rfl rfl), (tb2 124 rfl rfl), by decide +kernel⟩
set_option maxRecDepth 100000 in
theorem fkX1_65 : fk_ RX1 65 0 1 := ⟨_, _, _, rfl, by decide, Or.inr ⟨_, (tb1 53 rfl rfl)⟩⟩
set_option maxRecDepth 100000 in
theorem fpX1_65 : fp_ RX1 65 0 1 .boolean := ⟨_, _, _, rfl, by decide, rfl, by decide +kernel, Or.inr ⟨_, (tb1 53 rfl rfl)⟩⟩
set_option maxRecDepth 100000 in
theorem mvX1_69 : mv_ RX1 69 yX0_setDown cX0_setDown 2 (some .int) RX0 1 := ⟨Or.inl (tb2 125 rfl rfl), (tb2 126 rfl rfl), (tb2 127 rfl rfl), (tb1 4 rfl rfl), (tb2 128 rfl rfl), by decide +kernel⟩
set_option maxRecDepth 100000 in
theorem msX1_72 : ms_ RX1 72 yX9_isWithin cX9_isWithin 3 (some .boolean) 3 := ⟨Or.inr ⟨_, (tb2 130 rfl rfl)⟩, (tb2 7 rfl rfl), (tb1 1 rfl rfl), (tb2 8 rfl rfl), by decide +kernel⟩
set_option maxRecDepth 100000 in
theorem mvX1_76 : mv_ RX1 76 yX1_walk cX1_walk 5 (some .int) RX1 3 := ⟨Or.inl (tb2 131 rfl rfl), (tb2 133 rfl rfl), (tb0 5 rfl rfl), (tb1 8 rfl rfl), (tb2 134 rfl rfl), by decide +kernel⟩
set_option maxRecDepth 100000 in
theorem mvX1_80 : mv_ RX1 80 yX0_takeUp cX0_takeUp 4 (some .int) RX0 2 := ⟨Or.inl (tb2 148 rfl rfl), (tb2 149 rfl rfl), (tb2 150 rfl rfl), (tb1 4 rfl rfl), (tb2 151 rfl rfl), by decide +kernel⟩
set_option maxRecDepth 100000 in
theorem mvX1_84 : mv_ RX1 84 yX0_give cX0_give 5 (some .int) RX0 3 := ⟨Or.inl (tb2 156 rfl rfl), (tb2 157 rfl rfl), (tb2 158 rfl rfl), (tb1 4 rfl rfl), (tb2 159 rfl rfl), by decide +kernel⟩
set_option maxRecDepth 100000 in
theorem mvX1_88 : mv_ RX1 88 yX0_whyNotWalk cX0_whyNotWalk 5 (some .int) RX0 3 := ⟨Or.inl (tb2 135 rfl rfl), (tb2 136 rfl rfl), (tb2 137 rfl rfl), (tb1 4 rfl rfl), (tb2 138 rfl rfl), by decide +kernel⟩
set_option maxRecDepth 100000 in
theorem mvX1_91 : mv_ RX1 91 yX0_stepTo cX0_stepTo 5 (some .int) RX0 3 := ⟨Or.inl (tb2 144 rfl rfl), (tb2 145 rfl rfl), (tb2 146 rfl rfl), (tb1 4 rfl rfl), (tb2 147 rfl rfl), by decide +kernel⟩
set_option maxRecDepth 100000 in
theorem fkX2_9 : fk_ RX2 9 2 0 := ⟨_, _, _, rfl, by decide, Or.inl (tb1 36 rfl rfl)⟩
set_option maxRecDepth 100000 in
theorem mvX2_15 : mv_ RX2 15 yX2_code cX2_code 3 (some .int) RX2 2 := ⟨Or.inl (tb2 143 rfl rfl), (tb2 10 rfl rfl), (tb2 11 rfl rfl), (tb1 3 rfl rfl), (tb2 12 rfl rfl), by decide +kernel⟩
set_option maxRecDepth 100000 in
theorem fkX3_9 : fk_ RX3 9 3 0 := ⟨_, _, _, rfl, by decide, Or.inl (tb1 204 rfl rfl)⟩
set_option maxRecDepth 100000 in
theorem fkX3_15 : fk_ RX3 15 3 1 := ⟨_, _, _, rfl, by decide, Or.inl (tb1 205 rfl rfl)⟩
set_option maxRecDepth 100000 in
theorem fpX3_15 : fp_ RX3 15 3 1 .int := ⟨_, _, _, rfl, by decide, rfl, by decide +kernel, Or.inl (tb1 205 rfl rfl)⟩
set_option maxRecDepth 100000 in
theorem fkX3_19 : fk_ RX3 19 3 2 := ⟨_, _, _, rfl, by decide, Or.inl (tb1 206 rfl rfl)⟩
set_option maxRecDepth 100000 in
theorem fpX3_19 : fp_ RX3 19 3 2 .int := ⟨_, _, _, rfl, by decide, rfl, by decide +kernel, Or.inl (tb1 206 rfl rfl)⟩
set_option maxRecDepth 100000 in
theorem mvX3_22 : mv_ RX3 22 yX8_firstPlace cX8_firstPlace 4 (some .int) RX8 2 := ⟨Or.inl (tb3 168 rfl rfl), (tb2 213 rfl rfl), (tb2 214 rfl rfl), (tb1 9 rfl rfl), (tb2 215 rfl rfl), by decide +kernel⟩
set_option maxRecDepth 100000 in
theorem mvX3_28 : mv_ RX3 28 yX8_plankCosts cX8_plankCosts 3 (some .int) RX8 2 := ⟨Or.inl (tb3 169 rfl rfl), (tb2 217 rfl rfl), (tb2 218 rfl rfl), (tb1 9 rfl rfl), (tb2 219 rfl rfl), by decide +kernel⟩
set_option maxRecDepth 100000 in
theorem msX3_37 : ms_ RX3 37 yX3_partOf cX3_partOf 7 (some .long) 3 := ⟨Or.inl (tb3 178 rfl rfl), (tb3 179 rfl rfl), (tb1 11 rfl rfl), (tb3 180 rfl rfl), by decide +kernel⟩
set_option maxRecDepth 100000 in
theorem msX3_41 : ms_ RX3 41 yX3_sharedDivisor cX3_sharedDivisor 11 (some .long) 2 := ⟨Or.inl (tb3 181 rfl rfl), (tb3 182 rfl rfl), (tb1 11 rfl rfl), (tb3 183 rfl rfl), by decide +kernel⟩
set_option maxRecDepth 100000 in
theorem fkX4_9 : fk_ RX4 9 4 0 := ⟨_, _, _, rfl, by decide, Or.inl (tb1 119 rfl rfl)⟩
set_option maxRecDepth 100000 in
theorem fpX4_9 : fp_ RX4 9 4 0 .int := ⟨_, _, _, rfl, by decide, rfl, by decide +kernel, Or.inl (tb1 119 rfl rfl)⟩
set_option maxRecDepth 100000 in
theorem fkX4_15 : fk_ RX4 15 4 1 := ⟨_, _, _, rfl, by decide, Or.inl (tb1 122 rfl rfl)⟩
set_option maxRecDepth 100000 in
theorem msX4_19 : ms_ RX4 19 yX9_isWithin cX9_isWithin 3 (some .boolean) 3 := ⟨Or.inr ⟨_, (tb2 90 rfl rfl)⟩, (tb2 7 rfl rfl), (tb1 1 rfl rfl), (tb2 8 rfl rfl), by decide +kernel⟩
set_option maxRecDepth 100000 in
theorem msX4_23 : ms_ RX4 23 yX4_stateBehind cX4_stateBehind 3 (some .int) 2 := ⟨Or.inl (tb2 87 rfl rfl), (tb2 88 rfl rfl), (tb1 7 rfl rfl), (tb2 89 rfl rfl), by decide +kernel⟩
set_option maxRecDepth 100000 in
theorem msX4_27 : ms_ RX4 27 yX4_takesOther cX4_takesOther 1 (some .boolean) 1 := ⟨Or.inl (tb2 91 rfl rfl), (tb2 92 rfl rfl), (tb1 7 rfl rfl), (tb2 93 rfl rfl), by decide +kernel⟩
set_option maxRecDepth 100000 in
theorem mvX4_31 : mv_ RX4 31 yX4_signAt cX4_signAt 2 (some .int) RX4 1 := ⟨Or.inl (tb2 167 rfl rfl), (tb2 122 rfl rfl), (tb2 123 rfl rfl), (tb1 7 rfl rfl), (tb2 124 rfl rfl), by decide +kernel⟩
set_option maxRecDepth 100000 in
theorem fkX5_10 : fk_ RX5 10 5 0 := ⟨_, _, _, rfl, by decide, Or.inl (tb1 97 rfl rfl)⟩
set_option maxRecDepth 100000 in
theorem fkX5_19 : fk_ RX5 19 5 1 := ⟨_, _, _, rfl, by decide, Or.inl (tb1 100 rfl rfl)⟩
set_option maxRecDepth 100000 in
theorem fkX5_26 : fk_ RX5 26 5 2 := ⟨_, _, _, rfl, by decide, Or.inl (tb1 103 rfl rfl)⟩
set_option maxRecDepth 100000 in
theorem mvX5_30 : mv_ RX5 30 yX2_copyFrom cX2_copyFrom 2 none RX2 1 := ⟨Or.inl (tb3 209 rfl rfl), (tb3 210 rfl rfl), (tb3 211 rfl rfl), (tb1 3 rfl rfl), (tb3 212 rfl rfl), by decide +kernel⟩
set_option maxRecDepth 100000 in
theorem mvX5_34 : mv_ RX5 34 yX0_copyFrom cX0_copyFrom 2 none RX0 1 := ⟨Or.inl (tb3 214 rfl rfl), (tb2 111 rfl rfl), (tb2 112 rfl rfl), (tb1 4 rfl rfl), (tb2 113 rfl rfl), by decide +kernel⟩
set_option maxRecDepth 100000 in
theorem mvX5_37 : mv_ RX5 37 yX6_copyFrom cX6_copyFrom 2 none RX6 1 := ⟨Or.inl (tb3 215 rfl rfl), (tb3 216 rfl rfl), (tb3 217 rfl rfl), (tb1 6 rfl rfl), (tb3 218 rfl rfl), by decide +kernel⟩
set_option maxRecDepth 100000 in
theorem fkX6_9 : fk_ RX6 9 6 0 := ⟨_, _, _, rfl, by decide, Or.inl (tb1 86 rfl rfl)⟩
set_option maxRecDepth 100000 in
theorem fpX6_9 : fp_ RX6 9 6 0 .int := ⟨_, _, _, rfl, by decide, rfl, by decide +kernel, Or.inl (tb1 86 rfl rfl)⟩
set_option maxRecDepth 100000 in
theorem fkX6_15 : fk_ RX6 15 6 1 := ⟨_, _, _, rfl, by decide, Or.inl (tb1 88 rfl rfl)⟩
set_option maxRecDepth 100000 in
theorem fkX6_19 : fk_ RX6 19 6 2 := ⟨_, _, _, rfl, by decide, Or.inl (tb1 89 rfl rfl)⟩
set_option maxRecDepth 100000 in
theorem mvX6_28 : mv_ RX6 28 yX0_has cX0_has 2 (some .boolean) RX0 1 := ⟨Or.inl (tb3 135 rfl rfl), (tb2 48 rfl rfl), (tb2 49 rfl rfl), (tb1 4 rfl rfl), (tb2 50 rfl rfl), by decide +kernel⟩
set_option maxRecDepth 100000 in
theorem mvX6_34 : mv_ RX6 34 yX6_fits cX6_fits 5 (some .boolean) RX6 3 := ⟨Or.inl (tb3 136 rfl rfl), (tb3 138 rfl rfl), (tb0 17 rfl rfl), (tb1 6 rfl rfl), (tb3 139 rfl rfl), by decide +kernel⟩
set_option maxRecDepth 100000 in
theorem mvX6_38 : mv_ RX6 38 yX0_lightAfter cX0_lightAfter 5 (some .int) RX0 3 := ⟨Or.inl (tb3 140 rfl rfl), (tb2 225 rfl rfl), (tb2 226 rfl rfl), (tb1 4 rfl rfl), (tb2 227 rfl rfl), by decide +kernel⟩
set_option maxRecDepth 100000 in
theorem msX6_42 : ms_ RX6 42 yX6_mostAlike cX6_mostAlike 7 (some .int) 4 := ⟨Or.inl (tb3 148 rfl rfl), (tb3 149 rfl rfl), (tb1 6 rfl rfl), (tb3 150 rfl rfl), by decide +kernel⟩
set_option maxRecDepth 100000 in
theorem msX6_46 : ms_ RX6 46 yX9_isIn cX9_isIn 2 (some .boolean) 2 := ⟨Or.inr ⟨_, (tb3 151 rfl rfl)⟩, (tb2 53 rfl rfl), (tb1 1 rfl rfl), (tb2 54 rfl rfl), by decide +kernel⟩
set_option maxRecDepth 100000 in
theorem msX6_50 : ms_ RX6 50 yX6_countAlike cX6_countAlike 7 (some .int) 5 := ⟨Or.inl (tb3 152 rfl rfl), (tb3 153 rfl rfl), (tb1 6 rfl rfl), (tb3 154 rfl rfl), by decide +kernel⟩
set_option maxRecDepth 100000 in
theorem fkX7_9 : fk_ RX7 9 7 0 := ⟨_, _, _, rfl, by decide, Or.inl (tb1 183 rfl rfl)⟩
set_option maxRecDepth 100000 in
theorem fpX7_9 : fp_ RX7 9 7 0 .int := ⟨_, _, _, rfl, by decide, rfl, by decide +kernel, Or.inl (tb1 183 rfl rfl)⟩
set_option maxRecDepth 100000 in
theorem fpX7_15 : fp_ RX7 15 7 1 .int := ⟨_, _, _, rfl, by decide, rfl, by decide +kernel, Or.inl (tb1 185 rfl rfl)⟩
set_option maxRecDepth 100000 in
theorem fkX7_18 : fk_ RX7 18 7 2 := ⟨_, _, _, rfl, by decide, Or.inl (tb1 187 rfl rfl)⟩
set_option maxRecDepth 100000 in
theorem fkX7_22 : fk_ RX7 22 7 3 := ⟨_, _, _, rfl, by decide, Or.inl (tb1 188 rfl rfl)⟩
set_option maxRecDepth 100000 in
theorem mvX7_25 : mv_ RX7 25 yX7_listStops cX7_listStops 4 (some .int) RX7 1 := ⟨Or.inl (tb3 22 rfl rfl), (tb3 24 rfl rfl), (tb0 10 rfl rfl), (tb1 10 rfl rfl), (tb3 25 rfl rfl), by decide +kernel⟩
set_option maxRecDepth 100000 in
theorem msX7_29 : ms_ RX7 29 yX9_isIn cX9_isIn 2 (some .boolean) 2 := ⟨Or.inr ⟨_, (tb3 26 rfl rfl)⟩, (tb2 53 rfl rfl), (tb1 1 rfl rfl), (tb2 54 rfl rfl), by decide +kernel⟩
set_option maxRecDepth 100000 in
theorem mvX7_33 : mv_ RX7 33 yX7_restFrom cX7_restFrom 8 (some .int) RX7 5 := ⟨Or.inl (tb3 27 rfl rfl), (tb3 29 rfl rfl), (tb0 11 rfl rfl), (tb1 10 rfl rfl), (tb3 30 rfl rfl), by decide +kernel⟩
set_option maxRecDepth 100000 in
theorem mvX7_38 : mv_ RX7 38 yX7_restBy cX7_restBy 5 (some .int) RX7 4 := ⟨Or.inl (tb3 33 rfl rfl), (tb3 35 rfl rfl), (tb0 12 rfl rfl), (tb1 10 rfl rfl), (tb3 36 rfl rfl), by decide +kernel⟩
set_option maxRecDepth 100000 in
theorem mvX7_42 : mv_ RX7 42 yX8_between cX8_between 3 (some .int) RX8 2 := ⟨Or.inl (tb3 31 rfl rfl), (tb2 204 rfl rfl), (tb2 205 rfl rfl), (tb1 9 rfl rfl), (tb2 206 rfl rfl), by decide +kernel⟩
set_option maxRecDepth 100000 in
theorem fkX8_9 : fk_ RX8 9 8 0 := ⟨_, _, _, rfl, by decide, Or.inl (tb1 167 rfl rfl)⟩
set_option maxRecDepth 100000 in
theorem fkX8_15 : fk_ RX8 15 8 1 := ⟨_, _, _, rfl, by decide, Or.inl (tb1 168 rfl rfl)⟩
set_option maxRecDepth 100000 in
theorem fkX8_18 : fk_ RX8 18 8 2 := ⟨_, _, _, rfl, by decide, Or.inl (tb1 169 rfl rfl)⟩
set_option maxRecDepth 100000 in
theorem mvX8_21 : mv_ RX8 21 yX2_costs cX2_costs 6 (some .int) RX2 3 := ⟨Or.inl (tb2 197 rfl rfl), (tb2 140 rfl rfl), (tb2 141 rfl rfl), (tb1 3 rfl rfl), (tb2 142 rfl rfl), by decide +kernel⟩
set_option maxRecDepth 100000 in
theorem mvX8_28 : mv_ RX8 28 yX8_shortenBy cX8_shortenBy 6 none RX8 1 := ⟨Or.inl (tb2 199 rfl rfl), (tb2 201 rfl rfl), (tb0 8 rfl rfl), (tb1 9 rfl rfl), (tb2 202 rfl rfl), by decide +kernel⟩
set_option maxRecDepth 100000 in
theorem mvX8_32 : mv_ RX8 32 yX8_between cX8_between 3 (some .int) RX8 2 := ⟨Or.inl (tb2 203 rfl rfl), (tb2 204 rfl rfl), (tb2 205 rfl rfl), (tb1 9 rfl rfl), (tb2 206 rfl rfl), by decide +kernel⟩
set_option maxRecDepth 100000 in
theorem mvX8_36 : mv_ RX8 36 yX8_plankCosts cX8_plankCosts 3 (some .int) RX8 2 := ⟨Or.inl (tb2 216 rfl rfl), (tb2 217 rfl rfl), (tb2 218 rfl rfl), (tb1 9 rfl rfl), (tb2 219 rfl rfl), by decide +kernel⟩
set_option maxRecDepth 100000 in
theorem mvX8_39 : mv_ RX8 39 yX8_passes cX8_passes 4 (some .boolean) RX8 3 := ⟨Or.inl (tb3 107 rfl rfl), (tb3 109 rfl rfl), (tb0 16 rfl rfl), (tb1 9 rfl rfl), (tb3 110 rfl rfl), by decide +kernel⟩
set_option maxRecDepth 100000 in
theorem mvX8_43 : mv_ RX8 43 yX8_isDeciding cX8_isDeciding 3 (some .boolean) RX8 2 := ⟨Or.inl (tb3 58 rfl rfl), (tb3 60 rfl rfl), (tb0 13 rfl rfl), (tb1 9 rfl rfl), (tb3 61 rfl rfl), by decide +kernel⟩
set_option maxRecDepth 100000 in
theorem msX8_47 : ms_ RX8 47 yX9_isIn cX9_isIn 2 (some .boolean) 2 := ⟨Or.inr ⟨_, (tb3 62 rfl rfl)⟩, (tb2 53 rfl rfl), (tb1 1 rfl rfl), (tb2 54 rfl rfl), by decide +kernel⟩
set_option maxRecDepth 100000 in
theorem mvX8_50 : mv_ RX8 50 yX8_reachWithout cX8_reachWithout 7 (some .int) RX8 2 := ⟨Or.inl (tb3 63 rfl rfl), (tb3 65 rfl rfl), (tb0 14 rfl rfl), (tb1 9 rfl rfl), (tb3 66 rfl rfl), by decide +kernel⟩
set_option maxRecDepth 100000 in
theorem mvX8_53 : mv_ RX8 53 yX8_cheapestOutOf cX8_cheapestOutOf 5 (some .int) RX8 1 := ⟨Or.inl (tb3 79 rfl rfl), (tb3 81 rfl rfl), (tb0 15 rfl rfl), (tb1 9 rfl rfl), (tb3 82 rfl rfl), by decide +kernel⟩
set_option maxRecDepth 100000 in
theorem msX8_57 : ms_ RX8 57 yJ6_lowestOneBit_0f7a4 cJ6_lowestOneBit_0f7a4 1 (some .int) 1 := ⟨Or.inl (tb3 83 rfl rfl), (tb3 84 rfl rfl), (tb1 13 rfl rfl), (tb3 85 rfl rfl), by decide +kernel⟩
set_option maxRecDepth 100000 in
theorem fkX10_7 : fk_ RX10 7 10 0 := ⟨_, _, _, rfl, by decide, Or.inl (tb4 2 rfl rfl)⟩
set_option maxRecDepth 100000 in
theorem fkX10_13 : fk_ RX10 13 10 1 := ⟨_, _, _, rfl, by decide, Or.inl (tb4 3 rfl rfl)⟩
set_option maxRecDepth 100000 in
theorem fkX10_16 : fk_ RX10 16 10 4 := ⟨_, _, _, rfl, by decide, Or.inl (tb4 6 rfl rfl)⟩
set_option maxRecDepth 100000 in
theorem fkX10_19 : fk_ RX10 19 10 5 := ⟨_, _, _, rfl, by decide, Or.inl (tb4 7 rfl rfl)⟩
set_option maxRecDepth 100000 in
theorem fkX10_22 : fk_ RX10 22 10 6 := ⟨_, _, _, rfl, by decide, Or.inl (tb4 8 rfl rfl)⟩
set_option maxRecDepth 100000 in
theorem fkX10_25 : fk_ RX10 25 10 7 := ⟨_, _, _, rfl, by decide, Or.inl (tb4 9 rfl rfl)⟩
set_option maxRecDepth 100000 in
theorem fkX10_28 : fk_ RX10 28 10 8 := ⟨_, _, _, rfl, by decide, Or.inl (tb4 10 rfl rfl)⟩
set_option maxRecDepth 100000 in
theorem fkX10_31 : fk_ RX10 31 10 9 := ⟨_, _, _, rfl, by decide, Or.inl (tb4 11 rfl rfl)⟩
set_option maxRecDepth 100000 in
theorem fkX10_34 : fk_ RX10 34 10 11 := ⟨_, _, _, rfl, by decide, Or.inl (tb4 13 rfl rfl)⟩
set_option maxRecDepth 100000 in
theorem fkX10_37 : fk_ RX10 37 10 13 := ⟨_, _, _, rfl, by decide, Or.inl (tb4 15 rfl rfl)⟩
set_option maxRecDepth 100000 in
theorem fkX10_40 : fk_ RX10 40 10 14 := ⟨_, _, _, rfl, by decide, Or.inl (tb4 16 rfl rfl)⟩
set_option maxRecDepth 100000 in
theorem fkX10_43 : fk_ RX10 43 10 15 := ⟨_, _, _, rfl, by decide, Or.inl (tb4 17 rfl rfl)⟩
set_option maxRecDepth 100000 in
theorem fkX10_46 : fk_ RX10 46 10 16 := ⟨_, _, _, rfl, by decide, Or.inl (tb4 18 rfl rfl)⟩
set_option maxRecDepth 100000 in
theorem fkX10_49 : fk_ RX10 49 10 20 := ⟨_, _, _, rfl, by decide, Or.inl (tb4 22 rfl rfl)⟩
set_option maxRecDepth 100000 in
theorem fkX10_52 : fk_ RX10 52 10 21 := ⟨_, _, _, rfl, by decide, Or.inl (tb4 23 rfl rfl)⟩
set_option maxRecDepth 100000 in
theorem fkX10_55 : fk_ RX10 55 10 24 := ⟨_, _, _, rfl, by decide, Or.inl (tb4 26 rfl rfl)⟩
set_option maxRecDepth 100000 in
theorem fkX10_58 : fk_ RX10 58 10 25 := ⟨_, _, _, rfl, by decide, Or.inl (tb4 27 rfl rfl)⟩
set_option maxRecDepth 100000 in
theorem fkX10_61 : fk_ RX10 61 10 26 := ⟨_, _, _, rfl, by decide, Or.inl (tb4 28 rfl rfl)⟩
set_option maxRecDepth 100000 in
theorem fkX10_64 : fk_ RX10 64 10 27 := ⟨_, _, _, rfl, by decide, Or.inl (tb4 29 rfl rfl)⟩
set_option maxRecDepth 100000 in
theorem fkX10_67 : fk_ RX10 67 10 28 := ⟨_, _, _, rfl, by decide, Or.inl (tb4 30 rfl rfl)⟩
set_option maxRecDepth 100000 in
theorem fkX10_70 : fk_ RX10 70 10 29 := ⟨_, _, _, rfl, by decide, Or.inl (tb4 31 rfl rfl)⟩
set_option maxRecDepth 100000 in
theorem fkX10_73 : fk_ RX10 73 10 30 := ⟨_, _, _, rfl, by decide, Or.inl (tb4 32 rfl rfl)⟩
set_option maxRecDepth 100000 in
theorem msX10_79 : ms_ RX10 79 yX10_in cX10_in 6 (some .boolean) 3 := ⟨Or.inl (tb4 111 rfl rfl), (tb4 112 rfl rfl), (tb1 12 rfl rfl), (tb4 113 rfl rfl), by decide +kernel⟩
set_option maxRecDepth 100000 in
theorem fkX10_85 : fk_ RX10 85 10 3 := ⟨_, _, _, rfl, by decide, Or.inl (tb4 5 rfl rfl)⟩
set_option maxRecDepth 100000 in
theorem fpX10_85 : fp_ RX10 85 10 3 .int := ⟨_, _, _, rfl, by decide, rfl, by decide +kernel, Or.inl (tb4 5 rfl rfl)⟩
set_option maxRecDepth 100000 in
theorem msX10_89 : ms_ RX10 89 yX10_at cX10_at 2 (some .int) 2 := ⟨Or.inl (tb4 115 rfl rfl), (tb4 116 rfl rfl), (tb1 12 rfl rfl), (tb4 117 rfl rfl), by decide +kernel⟩
set_option maxRecDepth 100000 in
theorem fkX10_93 : fk_ RX10 93 10 2 := ⟨_, _, _, rfl, by decide, Or.inl (tb4 4 rfl rfl)⟩
set_option maxRecDepth 100000 in
theorem fpX10_93 : fp_ RX10 93 10 2 .int := ⟨_, _, _, rfl, by decide, rfl, by decide +kernel, Or.inl (tb4 4 rfl rfl)⟩
set_option maxRecDepth 100000 in
theorem mvX10_96 : mv_ RX10 96 yX10_costIn cX10_costIn 5 (some .int) RX10 3 := ⟨Or.inl (tb4 216 rfl rfl), (tb4 218 rfl rfl), (tb0 33 rfl rfl), (tb1 12 rfl rfl), (tb4 219 rfl rfl), by decide +kernel⟩
set_option maxRecDepth 100000 in
theorem msX10_100 : ms_ RX10 100 yX10_isPlace cX10_isPlace 1 (some .boolean) 1 := ⟨Or.inl (tb4 107 rfl rfl), (tb4 108 rfl rfl), (tb1 12 rfl rfl), (tb4 109 rfl rfl), by decide +kernel⟩
set_option maxRecDepth 100000 in
theorem mvX10_106 : mv_ RX10 106 yX10_isWalker cX10_isWalker 2 (some .boolean) RX10 1 := ⟨Or.inl (tb4 135 rfl rfl), (tb4 137 rfl rfl), (tb0 21 rfl rfl), (tb1 12 rfl rfl), (tb4 138 rfl rfl), by decide +kernel⟩
set_option maxRecDepth 100000 in
theorem mvX10_111 : mv_ RX10 111 yX10_letGo cX10_letGo 3 none RX10 1 := ⟨Or.inl (tb4 124 rfl rfl), (tb4 126 rfl rfl), (tb0 20 rfl rfl), (tb1 12 rfl rfl), (tb4 127 rfl rfl), by decide +kernel⟩
set_option maxRecDepth 100000 in
theorem msX10_115 : ms_ RX10 115 yX10_ones cX10_ones 3 (some .int) 1 := ⟨Or.inl (tb4 128 rfl rfl), (tb4 129 rfl rfl), (tb1 12 rfl rfl), (tb4 130 rfl rfl), by decide +kernel⟩
set_option maxRecDepth 100000 in
theorem fkX10_123 : fk_ RX10 123 10 12 := ⟨_, _, _, rfl, by decide, Or.inl (tb4 14 rfl rfl)⟩
set_option maxRecDepth 100000 in
theorem fpX10_123 : fp_ RX10 123 10 12 .int := ⟨_, _, _, rfl, by decide, rfl, by decide +kernel, Or.inl (tb4 14 rfl rfl)⟩
set_option maxRecDepth 100000 in
theorem fkX10_130 : fk_ RX10 130 10 17 := ⟨_, _, _, rfl, by decide, Or.inl (tb4 19 rfl rfl)⟩
set_option maxRecDepth 100000 in
theorem fpX10_130 : fp_ RX10 130 10 17 .int := ⟨_, _, _, rfl, by decide, rfl, by decide +kernel, Or.inl (tb4 19 rfl rfl)⟩
set_option maxRecDepth 100000 in
theorem msX10_133 : ms_ RX10 133 yX10_isLetter cX10_isLetter 1 (some .boolean) 1 := ⟨Or.inl (tb4 165 rfl rfl), (tb4 166 rfl rfl), (tb1 12 rfl rfl), (tb4 167 rfl rfl), by decide +kernel⟩
set_option maxRecDepth 100000 in
theorem mvX10_136 : mv_ RX10 136 yX10_close cX10_close 3 (some .int) RX10 2 := ⟨Or.inl (tb4 170 rfl rfl), (tb4 172 rfl rfl), (tb0 24 rfl rfl), (tb1 12 rfl rfl), (tb4 173 rfl rfl), by decide +kernel⟩
set_option maxRecDepth 100000 in
theorem mvX10_139 : mv_ RX10 139 yX10_begin cX10_begin 2 (some .int) RX10 1 := ⟨Or.inl (tb4 161 rfl rfl), (tb4 163 rfl rfl), (tb0 23 rfl rfl), (tb1 12 rfl rfl), (tb4 164 rfl rfl), by decide +kernel⟩
set_option maxRecDepth 100000 in
theorem mvX10_150 : mv_ RX10 150 yX10_readOn cX10_readOn 3 (some .int) RX10 2 := ⟨Or.inl (tb4 157 rfl rfl), (tb4 159 rfl rfl), (tb0 22 rfl rfl), (tb1 12 rfl rfl), (tb4 160 rfl rfl), by decide +kernel⟩
set_option maxRecDepth 100000 in
theorem mvX10_153 : mv_ RX10 153 yX10_carrierOf cX10_carrierOf 4 (some .int) RX10 1 := ⟨Or.inl (tb4 192 rfl rfl), (tb4 194 rfl rfl), (tb0 27 rfl rfl), (tb1 12 rfl rfl), (tb4 195 rfl rfl), by decide +kernel⟩
set_option maxRecDepth 100000 in
theorem mvX10_156 : mv_ RX10 156 yX10_isCarried cX10_isCarried 2 (some .boolean) RX10 1 := ⟨Or.inl (tb4 208 rfl rfl), (tb4 210 rfl rfl), (tb0 31 rfl rfl), (tb1 12 rfl rfl), (tb4 211 rfl rfl), by decide +kernel⟩
set_option maxRecDepth 100000 in
theorem mvX10_159 : mv_ RX10 159 yX10_whyNotBoth cX10_whyNotBoth 5 (some .int) RX10 4 := ⟨Or.inl (tb4 204 rfl rfl), (tb4 206 rfl rfl), (tb0 30 rfl rfl), (tb1 12 rfl rfl), (tb4 207 rfl rfl), by decide +kernel⟩
set_option maxRecDepth 100000 in
theorem mvX10_163 : mv_ RX10 163 yX10_cost cX10_cost 3 (some .int) RX10 2 := ⟨Or.inl (tb4 212 rfl rfl), (tb4 214 rfl rfl), (tb0 32 rfl rfl), (tb1 12 rfl rfl), (tb4 215 rfl rfl), by decide +kernel⟩
set_option maxRecDepth 100000 in
theorem fkX10_166 : fk_ RX10 166 10 18 := ⟨_, _, _, rfl, by decide, Or.inl (tb4 20 rfl rfl)⟩
set_option maxRecDepth 100000 in
theorem fpX10_166 : fp_ RX10 166 10 18 .int := ⟨_, _, _, rfl, by decide, rfl, by decide +kernel, Or.inl (tb4 20 rfl rfl)⟩
set_option maxRecDepth 100000 in
theorem fkX10_169 : fk_ RX10 169 10 19 := ⟨_, _, _, rfl, by decide, Or.inl (tb4 21 rfl rfl)⟩
set_option maxRecDepth 100000 in
theorem fpX10_169 : fp_ RX10 169 10 19 .int := ⟨_, _, _, rfl, by decide, rfl, by decide +kernel, Or.inl (tb4 21 rfl rfl)⟩
set_option maxRecDepth 100000 in
theorem mvX10_172 : mv_ RX10 172 yX10_walk cX10_walk 4 none RX10 2 := ⟨Or.inl (tb4 224 rfl rfl), (tb4 226 rfl rfl), (tb0 35 rfl rfl), (tb1 12 rfl rfl), (tb4 227 rfl rfl), by decide +kernel⟩
set_option maxRecDepth 100000 in
theorem mvX10_176 : mv_ RX10 176 yX10_give cX10_give 4 none RX10 3 := ⟨Or.inl (tb4 228 rfl rfl), (tb4 230 rfl rfl), (tb0 36 rfl rfl), (tb1 12 rfl rfl), (tb4 231 rfl rfl), by decide +kernel⟩
set_option maxRecDepth 100000 in
theorem fkX10_180 : fk_ RX10 180 10 22 := ⟨_, _, _, rfl, by decide, Or.inl (tb4 24 rfl rfl)⟩
set_option maxRecDepth 100000 in
theorem fpX10_180 : fp_ RX10 180 10 22 .int := ⟨_, _, _, rfl, by decide, rfl, by decide +kernel, Or.inl (tb4 24 rfl rfl)⟩
set_option maxRecDepth 100000 in
theorem fkX10_183 : fk_ RX10 183 10 23 := ⟨_, _, _, rfl, by decide, Or.inl (tb4 25 rfl rfl)⟩
set_option maxRecDepth 100000 in
theorem fpX10_183 : fp_ RX10 183 10 23 .int := ⟨_, _, _, rfl, by decide, rfl, by decide +kernel, Or.inl (tb4 25 rfl rfl)⟩
set_option maxRecDepth 100000 in
theorem mvX10_186 : mv_ RX10 186 yX10_whyNot cX10_whyNot 6 (some .int) RX10 4 := ⟨Or.inl (tb4 200 rfl rfl), (tb4 202 rfl rfl), (tb0 29 rfl rfl), (tb1 12 rfl rfl), (tb4 203 rfl rfl), by decide +kernel⟩
set_option maxRecDepth 100000 in
theorem mvX10_189 : mv_ RX10 189 yX10_happen cX10_happen 5 none RX10 4 := ⟨Or.inl (tb4 220 rfl rfl), (tb4 222 rfl rfl), (tb0 34 rfl rfl), (tb1 12 rfl rfl), (tb4 223 rfl rfl), by decide +kernel⟩
set_option maxRecDepth 100000 in
theorem mvX10_193 : mv_ RX10 193 yX10_fault cX10_fault 3 (some .int) RX10 0 := ⟨Or.inl (tb4 187 rfl rfl), (tb4 154 rfl rfl), (tb4 155 rfl rfl), (tb1 12 rfl rfl), (tb4 156 rfl rfl), by decide +kernel⟩
set_option maxRecDepth 100000 in
theorem mvX10_197 : mv_ RX10 197 yX10_store cX10_store 3 none RX10 1 := ⟨Or.inl (tb4 188 rfl rfl), (tb4 190 rfl rfl), (tb0 26 rfl rfl), (tb1 12 rfl rfl), (tb4 191 rfl rfl), by decide +kernel⟩
set_option maxRecDepth 100000 in
theorem mvX10_201 : mv_ RX10 201 yX10_goEvening cX10_goEvening 3 none RX10 0 := ⟨Or.inl (tb4 196 rfl rfl), (tb4 198 rfl rfl), (tb0 28 rfl rfl), (tb1 12 rfl rfl), (tb4 199 rfl rfl), by decide +kernel⟩
set_option maxRecDepth 100000 in
theorem mvX10_204 : mv_ RX10 204 yX10_lay cX10_lay 3 none RX10 1 := ⟨Or.inl (tb4 232 rfl rfl), (tb4 234 rfl rfl), (tb0 37 rfl rfl), (tb1 12 rfl rfl), (tb4 235 rfl rfl), by decide +kernel⟩
set_option maxRecDepth 100000 in
theorem mvX10_209 : mv_ RX10 209 yX10_refusal cX10_refusal 1 (some .int) RX10 0 := ⟨Or.inl (tb4 183 rfl rfl), (tb4 185 rfl rfl), (tb0 25 rfl rfl), (tb1 12 rfl rfl), (tb4 186 rfl rfl), by decide +kernel⟩
set_option maxRecDepth 100000 in
theorem mvX10_215 : mv_ RX10 215 yX10_hasWay cX10_hasWay 3 (some .boolean) RX10 2 := ⟨Or.inl (tb5 18 rfl rfl), (tb5 20 rfl rfl), (tb0 39 rfl rfl), (tb1 12 rfl rfl), (tb5 21 rfl rfl), by decide +kernel⟩
set_option maxRecDepth 100000 in
theorem mvX10_219 : mv_ RX10 219 yX10_findWays cX10_findWays 5 none RX10 0 := ⟨Or.inl (tb5 13 rfl rfl), (tb5 15 rfl rfl), (tb0 38 rfl rfl), (tb1 12 rfl rfl), (tb5 16 rfl rfl), by decide +kernel⟩
set_option maxRecDepth 100000 in
theorem mvX10_222 : mv_ RX10 222 yX10_firstPlace cX10_firstPlace 5 (some .int) RX10 2 := ⟨Or.inl (tb5 22 rfl rfl), (tb5 24 rfl rfl), (tb0 40 rfl rfl), (tb1 12 rfl rfl), (tb5 25 rfl rfl), by decide +kernel⟩
set_option maxRecDepth 100000 in
theorem mvX10_225 : mv_ RX10 225 yX10_homeWay cX10_homeWay 2 (some .int) RX10 1 := ⟨Or.inl (tb5 34 rfl rfl), (tb5 36 rfl rfl), (tb0 41 rfl rfl), (tb1 12 rfl rfl), (tb5 37 rfl rfl), by decide +kernel⟩
set_option maxRecDepth 100000 in
theorem mvX10_228 : mv_ RX10 228 yX10_bestStep cX10_bestStep 7 (some .int) RX10 3 := ⟨Or.inl (tb5 55 rfl rfl), (tb5 57 rfl rfl), (tb0 44 rfl rfl), (tb1 12 rfl rfl), (tb5 58 rfl rfl), by decide +kernel⟩
set_option maxRecDepth 100000 in
theorem mvX10_233 : mv_ RX10 233 yX10_layStops cX10_layStops 4 (some .int) RX10 1 := ⟨Or.inl (tb5 47 rfl rfl), (tb5 49 rfl rfl), (tb0 42 rfl rfl), (tb1 12 rfl rfl), (tb5 50 rfl rfl), by decide +kernel⟩
set_option maxRecDepth 100000 in
theorem mvX10_236 : mv_ RX10 236 yX10_findRests cX10_findRests 6 none RX10 2 := ⟨Or.inl (tb5 51 rfl rfl), (tb5 53 rfl rfl), (tb0 43 rfl rfl), (tb1 12 rfl rfl), (tb5 54 rfl rfl), by decide +kernel⟩
set_option maxRecDepth 100000 in
theorem mvX10_239 : mv_ RX10 239 yX10_beginGroups cX10_beginGroups 2 none RX10 0 := ⟨Or.inl (tb5 71 rfl rfl), (tb5 73 rfl rfl), (tb0 46 rfl rfl), (tb1 12 rfl rfl), (tb5 74 rfl rfl), by decide +kernel⟩
set_option maxRecDepth 100000 in
theorem mvX10_242 : mv_ RX10 242 yX10_join cX10_join 6 (some .boolean) RX10 2 := ⟨Or.inl (tb5 75 rfl rfl), (tb5 77 rfl rfl), (tb0 47 rfl rfl), (tb1 12 rfl rfl), (tb5 78 rfl rfl), by decide +kernel⟩
set_option maxRecDepth 100000 in
theorem mvX10_245 : mv_ RX10 245 yX10_isDeciding cX10_isDeciding 7 (some .boolean) RX10 2 := ⟨Or.inl (tb5 67 rfl rfl), (tb5 69 rfl rfl), (tb0 45 rfl rfl), (tb1 12 rfl rfl), (tb5 70 rfl rfl), by decide +kernel⟩
set_option maxRecDepth 100000 in
theorem mvX10_248 : mv_ RX10 248 yX10_cheapestBetween cX10_cheapestBetween 6 (some .int) RX10 0 := ⟨Or.inl (tb5 83 rfl rfl), (tb5 85 rfl rfl), (tb0 48 rfl rfl), (tb1 12 rfl rfl), (tb5 86 rfl rfl), by decide +kernel⟩
set_option maxRecDepth 100000 in
theorem mvX10_251 : mv_ RX10 251 yX10_postOf cX10_postOf 7 (some .int) RX10 2 := ⟨Or.inl (tb5 91 rfl rfl), (tb5 93 rfl rfl), (tb0 49 rfl rfl), (tb1 12 rfl rfl), (tb5 94 rfl rfl), by decide +kernel⟩
set_option maxRecDepth 100000 in
theorem fkX10_254 : fk_ RX10 254 10 10 := ⟨_, _, _, rfl, by decide, Or.inl (tb4 12 rfl rfl)⟩
set_option maxRecDepth 100000 in
theorem fpX10_254 : fp_ RX10 254 10 10 .int := ⟨_, _, _, rfl, by decide, rfl, by decide +kernel, Or.inl (tb4 12 rfl rfl)⟩
set_option maxRecDepth 100000 in
theorem mvX10_257 : mv_ RX10 257 yX10_leftAt cX10_leftAt 4 (some .int) RX10 2 := ⟨Or.inl (tb5 111 rfl rfl), (tb5 113 rfl rfl), (tb0 50 rfl rfl), (tb1 12 rfl rfl), (tb5 114 rfl rfl), by decide +kernel⟩
set_option maxRecDepth 100000 in
theorem mvX10_260 : mv_ RX10 260 yX10_whose cX10_whose 5 (some .int) RX10 0 := ⟨Or.inl (tb5 119 rfl rfl), (tb5 108 rfl rfl), (tb5 109 rfl rfl), (tb1 12 rfl rfl), (tb5 110 rfl rfl), by decide +kernel⟩
set_option maxRecDepth 100000 in
theorem mvX10_262 : mv_ RX10 262 yX10_mostAlike cX10_mostAlike 8 (some .int) RX10 2 := ⟨Or.inl (tb5 120 rfl rfl), (tb5 122 rfl rfl), (tb0 51 rfl rfl), (tb1 12 rfl rfl), (tb5 123 rfl rfl), by decide +kernel⟩
set_option maxRecDepth 100000 in
theorem mvX10_273 : mv_ RX10 273 yX10_layWay cX10_layWay 5 (some .int) RX10 1 := ⟨Or.inl (tb5 132 rfl rfl), (tb5 134 rfl rfl), (tb0 52 rfl rfl), (tb1 12 rfl rfl), (tb5 135 rfl rfl), by decide +kernel⟩
set_option maxRecDepth 100000 in
theorem msX10_276 : ms_ RX10 276 yX10_lowest cX10_lowest 11 (some .long) 3 := ⟨Or.inl (tb5 136 rfl rfl), (tb5 137 rfl rfl), (tb1 12 rfl rfl), (tb5 138 rfl rfl), by decide +kernel⟩
set_option maxRecDepth 100000 in
theorem fkX10_288 : fk_ RX10 288 10 32 := ⟨_, _, _, rfl, by decide, Or.inl (tb4 34 rfl rfl)⟩
set_option maxRecDepth 100000 in
theorem fpX10_288 : fp_ RX10 288 10 32 .boolean := ⟨_, _, _, rfl, by decide, rfl, by decide +kernel, Or.inl (tb4 34 rfl rfl)⟩
set_option maxRecDepth 100000 in
theorem fkX10_292 : fk_ RX10 292 10 31 := ⟨_, _, _, rfl, by decide, Or.inl (tb4 33 rfl rfl)⟩
set_option maxRecDepth 100000 in
theorem fpX10_292 : fp_ RX10 292 10 31 .int := ⟨_, _, _, rfl, by decide, rfl, by decide +kernel, Or.inl (tb4 33 rfl rfl)⟩
set_option maxRecDepth 100000 in
theorem mvX10_295 : mv_ RX10 295 yX10_pass cX10_pass 3 (some .int) RX10 1 := ⟨Or.inl (tb5 155 rfl rfl), (tb5 157 rfl rfl), (tb0 54 rfl rfl), (tb1 12 rfl rfl), (tb5 158 rfl rfl), by decide +kernel⟩
set_option maxRecDepth 100000 in
theorem mvX10_298 : mv_ RX10 298 yX10_passAll cX10_passAll 2 none RX10 0 := ⟨Or.inl (tb5 151 rfl rfl), (tb5 153 rfl rfl), (tb0 53 rfl rfl), (tb1 12 rfl rfl), (tb5 154 rfl rfl), by decide +kernel⟩
set_option maxRecDepth 100000 in
theorem mvX10_307 : mv_ RX10 307 yX10_toldOf cX10_toldOf 3 (some .int) RX10 2 := ⟨Or.inl (tb5 170 rfl rfl), (tb5 172 rfl rfl), (tb0 55 rfl rfl), (tb1 12 rfl rfl), (tb5 173 rfl rfl), by decide +kernel⟩
