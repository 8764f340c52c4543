/-- what Arrays.fill leaves of a new row of six -/
def nf6_ : Nat → Int32 := upd (upd (upd (upd (upd (upd (fun _ => 0) 0 (-6)) 1 (-6)) 2 (-6)) 3 (-6)) 4 (-6)) 5 (-6)
set_option maxRecDepth 100000 in
theorem fill6_ : fn_J7_fill_53178 (fun _ => 0) (-6) = some nf6_ := by rfl
/-- the constructor that makes an array of references too -/
def kq_ (l : Launch) (G : gw_) (y : MethodName) (bytes : ByteArray) (maxL fr lo mc ms : Nat) (ws : va_W) (av : List Value) (P : va_W → Prop) : Prop := ∀ sz : Nat, Met l y [.code y bytes maxL none] { frames := fr, cells := mc, slots := ms, locals := lo } (va_Pc av (fun U => pre_ G ws sz U ∧ va_AO "LanternSteps$Scene" U)) (va_Qv (S := va_W) P (fun ws1 t => wq_ G ws ws1 sz t) (va_A ws sz)) mc ms (va_A ws sz)
theorem metq_intro {l : Launch} {G : gw_} {y : MethodName} {bytes : ByteArray} {maxL fr lo mc ms sz : Nat} {ret : Option FieldType} {ws : va_W} {av : List Value} {Qc : Array Value → State → Outcome → State → Prop} (hy : plainName y.cls = true) (hav : (lg_sl av).length ≤ maxL)
    (h : ∀ (p : Program) (e : Env) (s : State) (m : MethodId) (args : Array Value) (below : List Frame) (meth : Method) (c : Code) (ls : Array Slot), s.heap.size = sz → cx_ p s m c G bytes maxL y.cls → va_AO "LanternSteps$Scene" s → meth.sig.returnType = ret → meth.locks = false → meth.name = y.name → lv_has ls maxL (lv_args 0 av) → wd_ G (va_A ws sz) s.heap ws s.heap [] →
      W p l e { frames := fr, cells := mc, slots := ms, locals := lo } s m args below meth c s.heap [] 0 0 (MQ below Qc args s mc ms (va_A ws sz)) (F0 m 0 ls [])) : Met l y [.code y bytes maxL ret] { frames := fr, cells := mc, slots := ms, locals := lo } (va_Pc av (fun U => pre_ G ws sz U ∧ va_AO "LanternSteps$Scene" U)) Qc mc ms (va_A ws sz) := by
  refine Met.ofW (cc := bytes) (maxL := maxL) (ret := ret) hy rfl ?_
  intro p e s m args below meth c s₁ B hml hv
  obtain ⟨rfl, ⟨hsz, hP, hK, hD0, hA0⟩, hAO⟩ := hv
  rw [lg_entry_eq]
  refine h p e s m _ below meth c _ hsz ⟨B.exec, B.bytes, hml, findClass_of_methodNamed B.named, hA0, hK⟩ hAO B.returns B.notSynchronized (name_of_methodNamed B.named B.method).1 (lv_entry av hav) ⟨hP, hD0.self, va_S.rf, fun q hq => Or.inr (by rw [hsz] at hq; exact hq)⟩
set_option maxRecDepth 100000 in
theorem msX0_35 : ms_ RX0 35 yJ7_fill_53178 cJ7_fill_53178 4 none 2 := ⟨Or.inl (tb1 47 rfl rfl), (tb1 48 rfl rfl), (tb1 5 rfl rfl), (tb1 49 rfl rfl), by decide +kernel⟩
set_option maxRecDepth 100000 in
theorem ffX2_9 : ff_ RX2 9 2 0 (.array .int) := ⟨_, _, _, rfl, by decide, rfl, rfl, by decide +kernel, (tb1 36 rfl rfl)⟩
set_option maxRecDepth 100000 in
theorem ffX0_19 : ff_ RX0 19 0 2 (.array .int) := ⟨_, _, _, rfl, by decide, rfl, rfl, by decide +kernel, (tb1 55 rfl rfl)⟩
set_option maxRecDepth 100000 in
theorem ffX0_23 : ff_ RX0 23 0 3 (.array .int) := ⟨_, _, _, rfl, by decide, rfl, rfl, by decide +kernel, (tb1 57 rfl rfl)⟩
set_option maxRecDepth 100000 in
theorem ffX0_26 : ff_ RX0 26 0 4 (.array .int) := ⟨_, _, _, rfl, by decide, rfl, rfl, by decide +kernel, (tb1 59 rfl rfl)⟩
set_option maxRecDepth 100000 in
theorem ffX0_29 : ff_ RX0 29 0 5 (.array .int) := ⟨_, _, _, rfl, by decide, rfl, rfl, by decide +kernel, (tb1 61 rfl rfl)⟩
set_option maxRecDepth 100000 in
theorem ffX0_32 : ff_ RX0 32 0 6 (.array .int) := ⟨_, _, _, rfl, by decide, rfl, rfl, by decide +kernel, (tb1 63 rfl rfl)⟩
set_option maxRecDepth 100000 in
theorem ffX6_15 : ff_ RX6 15 6 1 (.array .int) := ⟨_, _, _, rfl, by decide, rfl, rfl, by decide +kernel, (tb1 88 rfl rfl)⟩
set_option maxRecDepth 100000 in
theorem ffX6_19 : ff_ RX6 19 6 2 (.array .int) := ⟨_, _, _, rfl, by decide, rfl, rfl, by decide +kernel, (tb1 89 rfl rfl)⟩
set_option maxRecDepth 100000 in
theorem miX5_9 : mi_ RX5 9 yX2_init cX2_init 1 0 := ⟨(tb1 32 rfl rfl), (tb1 33 rfl rfl), rfl, (tb1 3 rfl rfl), (tb1 34 rfl rfl), by decide +kernel⟩
set_option maxRecDepth 100000 in
theorem ffX5_10 : ff_ RX5 10 5 0 (.object "LanternSteps$Marsh") := ⟨_, _, _, rfl, by decide, rfl, rfl, by decide +kernel, (tb1 97 rfl rfl)⟩
set_option maxRecDepth 100000 in
theorem miX5_18 : mi_ RX5 18 yX0_init cX0_init 1 0 := ⟨(tb1 43 rfl rfl), (tb1 44 rfl rfl), rfl, (tb1 4 rfl rfl), (tb1 45 rfl rfl), by decide +kernel⟩
set_option maxRecDepth 100000 in
theorem ffX5_19 : ff_ RX5 19 5 1 (.object "LanternSteps$Crowd") := ⟨_, _, _, rfl, by decide, rfl, rfl, by decide +kernel, (tb1 100 rfl rfl)⟩
set_option maxRecDepth 100000 in
theorem miX5_25 : mi_ RX5 25 yX6_init cX6_init 1 0 := ⟨(tb1 82 rfl rfl), (tb1 83 rfl rfl), rfl, (tb1 6 rfl rfl), (tb1 84 rfl rfl), by decide +kernel⟩
set_option maxRecDepth 100000 in
theorem ffX5_26 : ff_ RX5 26 5 2 (.object "LanternSteps$Sights") := ⟨_, _, _, rfl, by decide, rfl, rfl, by decide +kernel, (tb1 103 rfl rfl)⟩
set_option maxRecDepth 100000 in
theorem ffX4_15 : ff_ RX4 15 4 1 (.array .int) := ⟨_, _, _, rfl, by decide, rfl, rfl, by decide +kernel, (tb1 122 rfl rfl)⟩
set_option maxRecDepth 100000 in
theorem miX1_11 : mi_ RX1 11 yX0_init cX0_init 1 0 := ⟨(tb1 135 rfl rfl), (tb1 44 rfl rfl), rfl, (tb1 4 rfl rfl), (tb1 45 rfl rfl), by decide +kernel⟩
set_option maxRecDepth 100000 in
theorem ffX1_12 : ff_ RX1 12 1 0 (.object "LanternSteps$Crowd") := ⟨_, _, _, rfl, by decide, rfl, rfl, by decide +kernel, (tb1 136 rfl rfl)⟩
set_option maxRecDepth 100000 in
theorem ffX8_9 : ff_ RX8 9 8 0 (.array .int) := ⟨_, _, _, rfl, by decide, rfl, rfl, by decide +kernel, (tb1 167 rfl rfl)⟩
set_option maxRecDepth 100000 in
theorem ffX8_15 : ff_ RX8 15 8 1 (.array .int) := ⟨_, _, _, rfl, by decide, rfl, rfl, by decide +kernel, (tb1 168 rfl rfl)⟩
set_option maxRecDepth 100000 in
theorem ffX8_18 : ff_ RX8 18 8 2 (.array .int) := ⟨_, _, _, rfl, by decide, rfl, rfl, by decide +kernel, (tb1 169 rfl rfl)⟩
set_option maxRecDepth 100000 in
theorem ffX7_18 : ff_ RX7 18 7 2 (.array .int) := ⟨_, _, _, rfl, by decide, rfl, rfl, by decide +kernel, (tb1 187 rfl rfl)⟩
set_option maxRecDepth 100000 in
theorem ffX7_22 : ff_ RX7 22 7 3 (.array .int) := ⟨_, _, _, rfl, by decide, rfl, rfl, by decide +kernel, (tb1 188 rfl rfl)⟩
set_option maxRecDepth 100000 in
theorem ffX3_9 : ff_ RX3 9 3 0 (.array .int) := ⟨_, _, _, rfl, by decide, rfl, rfl, by decide +kernel, (tb1 204 rfl rfl)⟩
set_option maxRecDepth 100000 in
theorem miX9_11 : mi_ RX9 11 yX5_init cX5_init 1 0 := ⟨(tb1 26 rfl rfl), (tb1 27 rfl rfl), rfl, (tb1 2 rfl rfl), (tb1 28 rfl rfl), by decide +kernel⟩
set_option maxRecDepth 100000 in
theorem ffX9_12 : ff_ RX9 12 9 0 (.object "LanternSteps$Scene") := ⟨_, _, _, rfl, by decide, rfl, rfl, by decide +kernel, (tb1 214 rfl rfl)⟩
set_option maxRecDepth 100000 in
theorem ffX9_16 : ff_ RX9 16 9 1 (.array (.object "LanternSteps$Scene")) := ⟨_, _, _, rfl, by decide, rfl, rfl, by decide +kernel, (tb1 215 rfl rfl)⟩
set_option maxRecDepth 100000 in
theorem miX9_22 : mi_ RX9 22 yX4_init cX4_init 1 0 := ⟨(tb1 115 rfl rfl), (tb1 116 rfl rfl), rfl, (tb1 7 rfl rfl), (tb1 117 rfl rfl), by decide +kernel⟩
set_option maxRecDepth 100000 in
theorem ffX9_23 : ff_ RX9 23 9 2 (.object "LanternSteps$Pad") := ⟨_, _, _, rfl, by decide, rfl, rfl, by decide +kernel, (tb1 216 rfl rfl)⟩
set_option maxRecDepth 100000 in
theorem miX9_29 : mi_ RX9 29 yX1_init cX1_init 1 0 := ⟨(tb1 130 rfl rfl), (tb1 131 rfl rfl), rfl, (tb1 8 rfl rfl), (tb1 132 rfl rfl), by decide +kernel⟩
set_option maxRecDepth 100000 in
theorem ffX9_30 : ff_ RX9 30 9 3 (.object "LanternSteps$Evening") := ⟨_, _, _, rfl, by decide, rfl, rfl, by decide +kernel, (tb1 217 rfl rfl)⟩
set_option maxRecDepth 100000 in
theorem miX9_36 : mi_ RX9 36 yX8_init cX8_init 1 0 := ⟨(tb1 163 rfl rfl), (tb1 164 rfl rfl), rfl, (tb1 9 rfl rfl), (tb1 165 rfl rfl), by decide +kernel⟩
set_option maxRecDepth 100000 in
theorem ffX9_37 : ff_ RX9 37 9 4 (.object "LanternSteps$Ways") := ⟨_, _, _, rfl, by decide, rfl, rfl, by decide +kernel, (tb1 218 rfl rfl)⟩
set_option maxRecDepth 100000 in
theorem miX9_43 : mi_ RX9 43 yX7_init cX7_init 1 0 := ⟨(tb1 179 rfl rfl), (tb1 180 rfl rfl), rfl, (tb1 10 rfl rfl), (tb1 181 rfl rfl), by decide +kernel⟩
set_option maxRecDepth 100000 in
theorem ffX9_44 : ff_ RX9 44 9 5 (.object "LanternSteps$Tour") := ⟨_, _, _, rfl, by decide, rfl, rfl, by decide +kernel, (tb1 219 rfl rfl)⟩
set_option maxRecDepth 100000 in
theorem miX9_50 : mi_ RX9 50 yX3_init cX3_init 1 0 := ⟨(tb1 200 rfl rfl), (tb1 201 rfl rfl), rfl, (tb1 11 rfl rfl), (tb1 202 rfl rfl), by decide +kernel⟩
set_option maxRecDepth 100000 in
theorem ffX9_51 : ff_ RX9 51 9 6 (.object "LanternSteps$Odds") := ⟨_, _, _, rfl, by decide, rfl, rfl, by decide +kernel, (tb1 220 rfl rfl)⟩
set_option maxRecDepth 100000 in
theorem ffX10_7 : ff_ RX10 7 10 0 (.array .int) := ⟨_, _, _, rfl, by decide, rfl, rfl, by decide +kernel, (tb4 2 rfl rfl)⟩
set_option maxRecDepth 100000 in
theorem ffX10_13 : ff_ RX10 13 10 1 (.array .int) := ⟨_, _, _, rfl, by decide, rfl, rfl, by decide +kernel, (tb4 3 rfl rfl)⟩
set_option maxRecDepth 100000 in
theorem ffX10_16 : ff_ RX10 16 10 4 (.array .int) := ⟨_, _, _, rfl, by decide, rfl, rfl, by decide +kernel, (tb4 6 rfl rfl)⟩
set_option maxRecDepth 100000 in
theorem ffX10_19 : ff_ RX10 19 10 5 (.array .int) := ⟨_, _, _, rfl, by decide, rfl, rfl, by decide +kernel, (tb4 7 rfl rfl)⟩
set_option maxRecDepth 100000 in
theorem ffX10_22 : ff_ RX10 22 10 6 (.array .int) := ⟨_, _, _, rfl, by decide, rfl, rfl, by decide +kernel, (tb4 8 rfl rfl)⟩
set_option maxRecDepth 100000 in
theorem ffX10_25 : ff_ RX10 25 10 7 (.array .int) := ⟨_, _, _, rfl, by decide, rfl, rfl, by decide +kernel, (tb4 9 rfl rfl)⟩
set_option maxRecDepth 100000 in
theorem ffX10_28 : ff_ RX10 28 10 8 (.array .int) := ⟨_, _, _, rfl, by decide, rfl, rfl, by decide +kernel, (tb4 10 rfl rfl)⟩
set_option maxRecDepth 100000 in
theorem ffX10_31 : ff_ RX10 31 10 9 (.array .int) := ⟨_, _, _, rfl, by decide, rfl, rfl, by decide +kernel, (tb4 11 rfl rfl)⟩
set_option maxRecDepth 100000 in
theorem ffX10_34 : ff_ RX10 34 10 11 (.array .int) := ⟨_, _, _, rfl, by decide, rfl, rfl, by decide +kernel, (tb4 13 rfl rfl)⟩
set_option maxRecDepth 100000 in
theorem ffX10_37 : ff_ RX10 37 10 13 (.array .int) := ⟨_, _, _, rfl, by decide, rfl, rfl, by decide +kernel, (tb4 15 rfl rfl)⟩
set_option maxRecDepth 100000 in
theorem ffX10_40 : ff_ RX10 40 10 14 (.array .int) := ⟨_, _, _, rfl, by decide, rfl, rfl, by decide +kernel, (tb4 16 rfl rfl)⟩
set_option maxRecDepth 100000 in
theorem ffX10_43 : ff_ RX10 43 10 15 (.array .int) := ⟨_, _, _, rfl, by decide, rfl, rfl, by decide +kernel, (tb4 17 rfl rfl)⟩
set_option maxRecDepth 100000 in
theorem ffX10_46 : ff_ RX10 46 10 16 (.array .int) := ⟨_, _, _, rfl, by decide, rfl, rfl, by decide +kernel, (tb4 18 rfl rfl)⟩
set_option maxRecDepth 100000 in
theorem ffX10_49 : ff_ RX10 49 10 20 (.array .int) := ⟨_, _, _, rfl, by decide, rfl, rfl, by decide +kernel, (tb4 22 rfl rfl)⟩
set_option maxRecDepth 100000 in
theorem ffX10_52 : ff_ RX10 52 10 21 (.array .int) := ⟨_, _, _, rfl, by decide, rfl, rfl, by decide +kernel, (tb4 23 rfl rfl)⟩
set_option maxRecDepth 100000 in
theorem ffX10_55 : ff_ RX10 55 10 24 (.array .int) := ⟨_, _, _, rfl, by decide, rfl, rfl, by decide +kernel, (tb4 26 rfl rfl)⟩
set_option maxRecDepth 100000 in
theorem ffX10_58 : ff_ RX10 58 10 25 (.array .int) := ⟨_, _, _, rfl, by decide, rfl, rfl, by decide +kernel, (tb4 27 rfl rfl)⟩
set_option maxRecDepth 100000 in
theorem ffX10_61 : ff_ RX10 61 10 26 (.array .int) := ⟨_, _, _, rfl, by decide, rfl, rfl, by decide +kernel, (tb4 28 rfl rfl)⟩
set_option maxRecDepth 100000 in
theorem ffX10_64 : ff_ RX10 64 10 27 (.array .int) := ⟨_, _, _, rfl, by decide, rfl, rfl, by decide +kernel, (tb4 29 rfl rfl)⟩
set_option maxRecDepth 100000 in
theorem ffX10_67 : ff_ RX10 67 10 28 (.array .int) := ⟨_, _, _, rfl, by decide, rfl, rfl, by decide +kernel, (tb4 30 rfl rfl)⟩
set_option maxRecDepth 100000 in
theorem ffX10_70 : ff_ RX10 70 10 29 (.array .int) := ⟨_, _, _, rfl, by decide, rfl, rfl, by decide +kernel, (tb4 31 rfl rfl)⟩
set_option maxRecDepth 100000 in
theorem ffX10_73 : ff_ RX10 73 10 30 (.array .boolean) := ⟨_, _, _, rfl, by decide, rfl, rfl, by decide +kernel, (tb4 32 rfl rfl)⟩
theorem dX2_init_0 : decode cX2_init 0 = .ok (.aload_n 0, 1) := by decide +kernel
theorem dX2_init_1 : decode cX2_init 1 = .ok (.invokespecial 3, 3) := by decide +kernel
theorem dX2_init_4 : decode cX2_init 4 = .ok (.aload_n 0, 1) := by decide +kernel
theorem dX2_init_5 : decode cX2_init 5 = .ok (.sipush 144, 3) := by decide +kernel
theorem dX2_init_8 : decode cX2_init 8 = .ok (.newarray .int, 2) := by decide +kernel
theorem dX2_init_10 : decode cX2_init 10 = .ok (.putfield 9, 3) := by decide +kernel
theorem dX2_init_13 : decode cX2_init 13 = .ok (.return_, 1) := by decide +kernel
set_option maxHeartbeats 4000000 in
set_option maxRecDepth 100000 in
theorem kn_X2_init (l : Launch) (G : gw_) (A_t : Nat) : kn_ l G yX2_init cX2_init 1 1 12 1 144 [ob_ A_t 2 [.null]] [.ref A_t] (fun ws => ∃ q1 : Nat, ws = [ob_ A_t 2 [.ref q1], ia_ G q1 144 (fun _ => 0)]) := by
  intro sz
  refine met_intro (by decide) (Nat.le_of_ble_eq_true rfl) ?_
  intro p e s m args below meth c ls hsz hC hr hlk hnm hl hw
  have hx := hC.1
  have hb := hC.2.1
  have hl : lv_has ls 1 [(0, .ref A_t)] := hl
  refine lv_aload_n hx hb dX2_init_0 rfl (lv_at hl 0 rfl) ?_
  refine g_objInit hC hl.1 (tb1 35 rfl rfl) (tb1 22 rfl rfl) (tb1 23 rfl rfl) dX2_init_1 (by decide) (by decide) ?_
  refine lv_aload_n hx hb dX2_init_4 rfl (lv_at hl 0 rfl) ?_
  refine lv_sipush (v := 144) hx hb dX2_init_5 (by decide) ?_
  refine g_newa hC hw (tb1 40 rfl rfl) (by decide) rfl (by decide) (Nat.le_of_ble_eq_true rfl) (Nat.le_of_ble_eq_true rfl) dX2_init_8 (fun q1 H hw => ?_)
  have hw : wd_ G (va_A [ob_ A_t 2 [.null]] sz) s.heap [ob_ A_t 2 [.null], ia_ G q1 144 (fun _ => 0)] H _ := hw
  refine g_putF hC hw hnm ffX2_9 0 rfl rfl rfl (Nat.le_of_ble_eq_true rfl) dX2_init_10 (fun H locs hw => ?_)
  have hw : wd_ G (va_A [ob_ A_t 2 [.null]] sz) s.heap [ob_ A_t 2 [.ref q1], ia_ G q1 144 (fun _ => 0)] H _ := hw
  exact g_kret hC hr hlk hw ⟨q1, rfl⟩ dX2_init_13

theorem dX0_init_0 : decode cX0_init 0 = .ok (.aload_n 0, 1) := by decide +kernel
theorem dX0_init_1 : decode cX0_init 1 = .ok (.invokespecial 3, 3) := by decide +kernel
theorem dX0_init_4 : decode cX0_init 4 = .ok (.aload_n 0, 1) := by decide +kernel
theorem dX0_init_5 : decode cX0_init 5 = .ok (.iconst 0, 1) := by decide +kernel
theorem dX0_init_6 : decode cX0_init 6 = .ok (.putfield 9, 3) := by decide +kernel
theorem dX0_init_9 : decode cX0_init 9 = .ok (.aload_n 0, 1) := by decide +kernel
theorem dX0_init_10 : decode cX0_init 10 = .ok (.iconst 0, 1) := by decide +kernel
theorem dX0_init_11 : decode cX0_init 11 = .ok (.putfield 15, 3) := by decide +kernel
theorem dX0_init_14 : decode cX0_init 14 = .ok (.aload_n 0, 1) := by decide +kernel
theorem dX0_init_15 : decode cX0_init 15 = .ok (.bipush 6, 2) := by decide +kernel
theorem dX0_init_17 : decode cX0_init 17 = .ok (.newarray .int, 2) := by decide +kernel
theorem dX0_init_19 : decode cX0_init 19 = .ok (.putfield 19, 3) := by decide +kernel
theorem dX0_init_22 : decode cX0_init 22 = .ok (.aload_n 0, 1) := by decide +kernel
theorem dX0_init_23 : decode cX0_init 23 = .ok (.bipush 6, 2) := by decide +kernel
theorem dX0_init_25 : decode cX0_init 25 = .ok (.newarray .int, 2) := by decide +kernel
theorem dX0_init_27 : decode cX0_init 27 = .ok (.putfield 23, 3) := by decide +kernel
theorem dX0_init_30 : decode cX0_init 30 = .ok (.aload_n 0, 1) := by decide +kernel
theorem dX0_init_31 : decode cX0_init 31 = .ok (.bipush 6, 2) := by decide +kernel
theorem dX0_init_33 : decode cX0_init 33 = .ok (.newarray .int, 2) := by decide +kernel
theorem dX0_init_35 : decode cX0_init 35 = .ok (.putfield 26, 3) := by decide +kernel
theorem dX0_init_38 : decode cX0_init 38 = .ok (.aload_n 0, 1) := by decide +kernel
theorem dX0_init_39 : decode cX0_init 39 = .ok (.bipush 6, 2) := by decide +kernel
theorem dX0_init_41 : decode cX0_init 41 = .ok (.newarray .int, 2) := by decide +kernel
theorem dX0_init_43 : decode cX0_init 43 = .ok (.putfield 29, 3) := by decide +kernel
theorem dX0_init_46 : decode cX0_init 46 = .ok (.aload_n 0, 1) := by decide +kernel
theorem dX0_init_47 : decode cX0_init 47 = .ok (.bipush 6, 2) := by decide +kernel
theorem dX0_init_49 : decode cX0_init 49 = .ok (.newarray .int, 2) := by decide +kernel
theorem dX0_init_51 : decode cX0_init 51 = .ok (.putfield 32, 3) := by decide +kernel
theorem dX0_init_54 : decode cX0_init 54 = .ok (.aload_n 0, 1) := by decide +kernel
theorem dX0_init_55 : decode cX0_init 55 = .ok (.getfield 29, 3) := by decide +kernel
theorem dX0_init_58 : decode cX0_init 58 = .ok (.bipush (-6), 2) := by decide +kernel
theorem dX0_init_60 : decode cX0_init 60 = .ok (.invokestatic 35, 3) := by decide +kernel
theorem dX0_init_63 : decode cX0_init 63 = .ok (.aload_n 0, 1) := by decide +kernel
theorem dX0_init_64 : decode cX0_init 64 = .ok (.getfield 32, 3) := by decide +kernel
theorem dX0_init_67 : decode cX0_init 67 = .ok (.bipush (-6), 2) := by decide +kernel
theorem dX0_init_69 : decode cX0_init 69 = .ok (.invokestatic 35, 3) := by decide +kernel
theorem dX0_init_72 : decode cX0_init 72 = .ok (.return_, 1) := by decide +kernel
set_option maxHeartbeats 4000000 in
set_option maxRecDepth 100000 in
theorem kn_X0_init (l : Launch) (G : gw_) (A_t : Nat) : kn_ l G yX0_init cX0_init 1 1 23 5 30 [ob_ A_t 0 [.int 0, .int 0, .null, .null, .null, .null, .null]] [.ref A_t] (fun ws => ∃ q1 q2 q3 q4 q5 : Nat, ws = [ob_ A_t 0 [.int 0, .int 0, .ref q1, .ref q2, .ref q3, .ref q4, .ref q5], ia_ G q1 6 (fun _ => 0), ia_ G q2 6 (fun _ => 0), ia_ G q3 6 (fun _ => 0), ia_ G q4 6 nf6_, ia_ G q5 6 nf6_]) := by
  intro sz
  refine met_intro (by decide) (Nat.le_of_ble_eq_true rfl) ?_
  intro p e s m args below meth c ls hsz hC hr hlk hnm hl hw
  have hx := hC.1
  have hb := hC.2.1
  have hl : lv_has ls 1 [(0, .ref A_t)] := hl
  refine lv_aload_n hx hb dX0_init_0 rfl (lv_at hl 0 rfl) ?_
  refine g_objInit hC hl.1 (tb1 46 rfl rfl) (tb1 22 rfl rfl) (tb1 23 rfl rfl) dX0_init_1 (by decide) (by decide) ?_
  refine lv_aload_n hx hb dX0_init_4 rfl (lv_at hl 0 rfl) ?_
  refine lv_iconst (v := 0) hx hb dX0_init_5 (by decide) ?_
  refine g_put hC hw fpX0_9 0 rfl rfl rfl (Nat.le_of_ble_eq_true rfl) dX0_init_6 (fun H locs hw => ?_)
  have hw : wd_ G (va_A [ob_ A_t 0 [.int 0, .int 0, .null, .null, .null, .null, .null]] sz) s.heap [ob_ A_t 0 [.int 0, .int 0, .null, .null, .null, .null, .null]] H _ := hw
  refine lv_aload_n hx hb dX0_init_9 rfl (lv_at hl 0 rfl) ?_
  refine lv_iconst (v := 0) hx hb dX0_init_10 (by decide) ?_
  refine g_put hC hw fpX0_15 0 rfl rfl rfl (Nat.le_of_ble_eq_true rfl) dX0_init_11 (fun H locs hw => ?_)
  have hw : wd_ G (va_A [ob_ A_t 0 [.int 0, .int 0, .null, .null, .null, .null, .null]] sz) s.heap [ob_ A_t 0 [.int 0, .int 0, .null, .null, .null, .null, .null]] H _ := hw
  refine lv_aload_n hx hb dX0_init_14 rfl (lv_at hl 0 rfl) ?_
  refine lv_bipush (v := 6) hx hb dX0_init_15 (by decide) ?_
  refine g_newa hC hw (tb1 40 rfl rfl) (by decide) rfl (by decide) (Nat.le_of_ble_eq_true rfl) (Nat.le_of_ble_eq_true rfl) dX0_init_17 (fun q1 H hw => ?_)
  have hw : wd_ G (va_A [ob_ A_t 0 [.int 0, .int 0, .null, .null, .null, .null, .null]] sz) s.heap [ob_ A_t 0 [.int 0, .int 0, .null, .null, .null, .null, .null], ia_ G q1 6 (fun _ => 0)] H _ := hw
  refine g_putF hC hw hnm ffX0_19 0 rfl rfl rfl (Nat.le_of_ble_eq_true rfl) dX0_init_19 (fun H locs hw => ?_)
  have hw : wd_ G (va_A [ob_ A_t 0 [.int 0, .int 0, .null, .null, .null, .null, .null]] sz) s.heap [ob_ A_t 0 [.int 0, .int 0, .ref q1, .null, .null, .null, .null], ia_ G q1 6 (fun _ => 0)] H _ := hw
  refine lv_aload_n hx hb dX0_init_22 rfl (lv_at hl 0 rfl) ?_
  refine lv_bipush (v := 6) hx hb dX0_init_23 (by decide) ?_
  refine g_newa hC hw (tb1 40 rfl rfl) (by decide) rfl (by decide) (Nat.le_of_ble_eq_true rfl) (Nat.le_of_ble_eq_true rfl) dX0_init_25 (fun q2 H hw => ?_)
  have hw : wd_ G (va_A [ob_ A_t 0 [.int 0, .int 0, .null, .null, .null, .null, .null]] sz) s.heap [ob_ A_t 0 [.int 0, .int 0, .ref q1, .null, .null, .null, .null], ia_ G q1 6 (fun _ => 0), ia_ G q2 6 (fun _ => 0)] H _ := hw
  refine g_putF hC hw hnm ffX0_23 0 rfl rfl rfl (Nat.le_of_ble_eq_true rfl) dX0_init_27 (fun H locs hw => ?_)
  have hw : wd_ G (va_A [ob_ A_t 0 [.int 0, .int 0, .null, .null, .null, .null, .null]] sz) s.heap [ob_ A_t 0 [.int 0, .int 0, .ref q1, .ref q2, .null, .null, .null], ia_ G q1 6 (fun _ => 0), ia_ G q2 6 (fun _ => 0)] H _ := hw
  refine lv_aload_n hx hb dX0_init_30 rfl (lv_at hl 0 rfl) ?_
  refine lv_bipush (v := 6) hx hb dX0_init_31 (by decide) ?_
  refine g_newa hC hw (tb1 40 rfl rfl) (by decide) rfl (by decide) (Nat.le_of_ble_eq_true rfl) (Nat.le_of_ble_eq_true rfl) dX0_init_33 (fun q3 H hw => ?_)
  have hw : wd_ G (va_A [ob_ A_t 0 [.int 0, .int 0, .null, .null, .null, .null, .null]] sz) s.heap [ob_ A_t 0 [.int 0, .int 0, .ref q1, .ref q2, .null, .null, .null], ia_ G q1 6 (fun _ => 0), ia_ G q2 6 (fun _ => 0), ia_ G q3 6 (fun _ => 0)] H _ := hw
  refine g_putF hC hw hnm ffX0_26 0 rfl rfl rfl (Nat.le_of_ble_eq_true rfl) dX0_init_35 (fun H locs hw => ?_)
  have hw : wd_ G (va_A [ob_ A_t 0 [.int 0, .int 0, .null, .null, .null, .null, .null]] sz) s.heap [ob_ A_t 0 [.int 0, .int 0, .ref q1, .ref q2, .ref q3, .null, .null], ia_ G q1 6 (fun _ => 0), ia_ G q2 6 (fun _ => 0), ia_ G q3 6 (fun _ => 0)] H _ := hw
  refine lv_aload_n hx hb dX0_init_38 rfl (lv_at hl 0 rfl) ?_
  refine lv_bipush (v := 6) hx hb dX0_init_39 (by decide) ?_
  refine g_newa hC hw (tb1 40 rfl rfl) (by decide) rfl (by decide) (Nat.le_of_ble_eq_true rfl) (Nat.le_of_ble_eq_true rfl) dX0_init_41 (fun q4 H hw => ?_)
  have hw : wd_ G (va_A [ob_ A_t 0 [.int 0, .int 0, .null, .null, .null, .null, .null]] sz) s.heap [ob_ A_t 0 [.int 0, .int 0, .ref q1, .ref q2, .ref q3, .null, .null], ia_ G q1 6 (fun _ => 0), ia_ G q2 6 (fun _ => 0), ia_ G q3 6 (fun _ => 0), ia_ G q4 6 (fun _ => 0)] H _ := hw
  refine g_putF hC hw hnm ffX0_29 0 rfl rfl rfl (Nat.le_of_ble_eq_true rfl) dX0_init_43 (fun H locs hw => ?_)
  have hw : wd_ G (va_A [ob_ A_t 0 [.int 0, .int 0, .null, .null, .null, .null, .null]] sz) s.heap [ob_ A_t 0 [.int 0, .int 0, .ref q1, .ref q2, .ref q3, .ref q4, .null], ia_ G q1 6 (fun _ => 0), ia_ G q2 6 (fun _ => 0), ia_ G q3 6 (fun _ => 0), ia_ G q4 6 (fun _ => 0)] H _ := hw
  refine lv_aload_n hx hb dX0_init_46 rfl (lv_at hl 0 rfl) ?_
  refine lv_bipush (v := 6) hx hb dX0_init_47 (by decide) ?_
  refine g_newa hC hw (tb1 40 rfl rfl) (by decide) rfl (by decide) (Nat.le_of_ble_eq_true rfl) (Nat.le_of_ble_eq_true rfl) dX0_init_49 (fun q5 H hw => ?_)
  have hw : wd_ G (va_A [ob_ A_t 0 [.int 0, .int 0, .null, .null, .null, .null, .null]] sz) s.heap [ob_ A_t 0 [.int 0, .int 0, .ref q1, .ref q2, .ref q3, .ref q4, .null], ia_ G q1 6 (fun _ => 0), ia_ G q2 6 (fun _ => 0), ia_ G q3 6 (fun _ => 0), ia_ G q4 6 (fun _ => 0), ia_ G q5 6 (fun _ => 0)] H _ := hw
  refine g_putF hC hw hnm ffX0_32 0 rfl rfl rfl (Nat.le_of_ble_eq_true rfl) dX0_init_51 (fun H locs hw => ?_)
  have hw : wd_ G (va_A [ob_ A_t 0 [.int 0, .int 0, .null, .null, .null, .null, .null]] sz) s.heap [ob_ A_t 0 [.int 0, .int 0, .ref q1, .ref q2, .ref q3, .ref q4, .ref q5], ia_ G q1 6 (fun _ => 0), ia_ G q2 6 (fun _ => 0), ia_ G q3 6 (fun _ => 0), ia_ G q4 6 (fun _ => 0), ia_ G q5 6 (fun _ => 0)] H _ := hw
  refine lv_aload_n hx hb dX0_init_54 rfl (lv_at hl 0 rfl) ?_
  refine g_get hC hw fkX0_29 0 rfl rfl dX0_init_55 ?_
  refine lv_bipush (v := (-6)) hx hb dX0_init_58 (by decide) ?_
  refine g_cSv hC hw msX0_35 (cn_J7_fill_53178 l G q4 (fun _ => 0) (-6) nf6_ fill6_) [4] rfl (by decide) rfl rfl hl.1 rfl (Nat.le_of_ble_eq_true rfl) ⟨Nat.le_of_ble_eq_true rfl, Nat.le_of_ble_eq_true rfl⟩ ⟨Nat.le_of_ble_eq_true rfl, Nat.le_of_ble_eq_true rfl⟩ dX0_init_60 (fun H locs hw => ?_)
  have hw : wd_ G (va_A [ob_ A_t 0 [.int 0, .int 0, .null, .null, .null, .null, .null]] sz) s.heap [ob_ A_t 0 [.int 0, .int 0, .ref q1, .ref q2, .ref q3, .ref q4, .ref q5], ia_ G q1 6 (fun _ => 0), ia_ G q2 6 (fun _ => 0), ia_ G q3 6 (fun _ => 0), ia_ G q4 6 nf6_, ia_ G q5 6 (fun _ => 0)] H _ := hw
  refine lv_aload_n hx hb dX0_init_63 rfl (lv_at hl 0 rfl) ?_
  refine g_get hC hw fkX0_32 0 rfl rfl dX0_init_64 ?_
  refine lv_bipush (v := (-6)) hx hb dX0_init_67 (by decide) ?_
  refine g_cSv hC hw msX0_35 (cn_J7_fill_53178 l G q5 (fun _ => 0) (-6) nf6_ fill6_) [5] rfl (by decide) rfl rfl hl.1 rfl (Nat.le_of_ble_eq_true rfl) ⟨Nat.le_of_ble_eq_true rfl, Nat.le_of_ble_eq_true rfl⟩ ⟨Nat.le_of_ble_eq_true rfl, Nat.le_of_ble_eq_true rfl⟩ dX0_init_69 (fun H locs hw => ?_)
  have hw : wd_ G (va_A [ob_ A_t 0 [.int 0, .int 0, .null, .null, .null, .null, .null]] sz) s.heap [ob_ A_t 0 [.int 0, .int 0, .ref q1, .ref q2, .ref q3, .ref q4, .ref q5], ia_ G q1 6 (fun _ => 0), ia_ G q2 6 (fun _ => 0), ia_ G q3 6 (fun _ => 0), ia_ G q4 6 nf6_, ia_ G q5 6 nf6_] H _ := hw
  exact g_kret hC hr hlk hw ⟨q1, q2, q3, q4, q5, rfl⟩ dX0_init_72

theorem dX6_init_0 : decode cX6_init 0 = .ok (.aload_n 0, 1) := by decide +kernel
theorem dX6_init_1 : decode cX6_init 1 = .ok (.invokespecial 3, 3) := by decide +kernel
theorem dX6_init_4 : decode cX6_init 4 = .ok (.aload_n 0, 1) := by decide +kernel
theorem dX6_init_5 : decode cX6_init 5 = .ok (.iconst 0, 1) := by decide +kernel
theorem dX6_init_6 : decode cX6_init 6 = .ok (.putfield 9, 3) := by decide +kernel
theorem dX6_init_9 : decode cX6_init 9 = .ok (.aload_n 0, 1) := by decide +kernel
theorem dX6_init_10 : decode cX6_init 10 = .ok (.bipush 8, 2) := by decide +kernel
theorem dX6_init_12 : decode cX6_init 12 = .ok (.newarray .int, 2) := by decide +kernel
theorem dX6_init_14 : decode cX6_init 14 = .ok (.putfield 15, 3) := by decide +kernel
theorem dX6_init_17 : decode cX6_init 17 = .ok (.aload_n 0, 1) := by decide +kernel
theorem dX6_init_18 : decode cX6_init 18 = .ok (.bipush 8, 2) := by decide +kernel
theorem dX6_init_20 : decode cX6_init 20 = .ok (.newarray .int, 2) := by decide +kernel
theorem dX6_init_22 : decode cX6_init 22 = .ok (.putfield 19, 3) := by decide +kernel
theorem dX6_init_25 : decode cX6_init 25 = .ok (.return_, 1) := by decide +kernel
set_option maxHeartbeats 4000000 in
set_option maxRecDepth 100000 in
theorem kn_X6_init (l : Launch) (G : gw_) (A_t : Nat) : kn_ l G yX6_init cX6_init 1 1 12 2 16 [ob_ A_t 6 [.int 0, .null, .null]] [.ref A_t] (fun ws => ∃ q1 q2 : Nat, ws = [ob_ A_t 6 [.int 0, .ref q1, .ref q2], ia_ G q1 8 (fun _ => 0), ia_ G q2 8 (fun _ => 0)]) := by
  intro sz
  refine met_intro (by decide) (Nat.le_of_ble_eq_true rfl) ?_
  intro p e s m args below meth c ls hsz hC hr hlk hnm hl hw
  have hx := hC.1
  have hb := hC.2.1
  have hl : lv_has ls 1 [(0, .ref A_t)] := hl
  refine lv_aload_n hx hb dX6_init_0 rfl (lv_at hl 0 rfl) ?_
  refine g_objInit hC hl.1 (tb1 85 rfl rfl) (tb1 22 rfl rfl) (tb1 23 rfl rfl) dX6_init_1 (by decide) (by decide) ?_
  refine lv_aload_n hx hb dX6_init_4 rfl (lv_at hl 0 rfl) ?_
  refine lv_iconst (v := 0) hx hb dX6_init_5 (by decide) ?_
  refine g_put hC hw fpX6_9 0 rfl rfl rfl (Nat.le_of_ble_eq_true rfl) dX6_init_6 (fun H locs hw => ?_)
  have hw : wd_ G (va_A [ob_ A_t 6 [.int 0, .null, .null]] sz) s.heap [ob_ A_t 6 [.int 0, .null, .null]] H _ := hw
  refine lv_aload_n hx hb dX6_init_9 rfl (lv_at hl 0 rfl) ?_
  refine lv_bipush (v := 8) hx hb dX6_init_10 (by decide) ?_
  refine g_newa hC hw (tb1 40 rfl rfl) (by decide) rfl (by decide) (Nat.le_of_ble_eq_true rfl) (Nat.le_of_ble_eq_true rfl) dX6_init_12 (fun q1 H hw => ?_)
  have hw : wd_ G (va_A [ob_ A_t 6 [.int 0, .null, .null]] sz) s.heap [ob_ A_t 6 [.int 0, .null, .null], ia_ G q1 8 (fun _ => 0)] H _ := hw
  refine g_putF hC hw hnm ffX6_15 0 rfl rfl rfl (Nat.le_of_ble_eq_true rfl) dX6_init_14 (fun H locs hw => ?_)
  have hw : wd_ G (va_A [ob_ A_t 6 [.int 0, .null, .null]] sz) s.heap [ob_ A_t 6 [.int 0, .ref q1, .null], ia_ G q1 8 (fun _ => 0)] H _ := hw
  refine lv_aload_n hx hb dX6_init_17 rfl (lv_at hl 0 rfl) ?_
  refine lv_bipush (v := 8) hx hb dX6_init_18 (by decide) ?_
  refine g_newa hC hw (tb1 40 rfl rfl) (by decide) rfl (by decide) (Nat.le_of_ble_eq_true rfl) (Nat.le_of_ble_eq_true rfl) dX6_init_20 (fun q2 H hw => ?_)
  have hw : wd_ G (va_A [ob_ A_t 6 [.int 0, .null, .null]] sz) s.heap [ob_ A_t 6 [.int 0, .ref q1, .null], ia_ G q1 8 (fun _ => 0), ia_ G q2 8 (fun _ => 0)] H _ := hw
  refine g_putF hC hw hnm ffX6_19 0 rfl rfl rfl (Nat.le_of_ble_eq_true rfl) dX6_init_22 (fun H locs hw => ?_)
  have hw : wd_ G (va_A [ob_ A_t 6 [.int 0, .null, .null]] sz) s.heap [ob_ A_t 6 [.int 0, .ref q1, .ref q2], ia_ G q1 8 (fun _ => 0), ia_ G q2 8 (fun _ => 0)] H _ := hw
  exact g_kret hC hr hlk hw ⟨q1, q2, rfl⟩ dX6_init_25

theorem dX5_init_0 : decode cX5_init 0 = .ok (.aload_n 0, 1) := by decide +kernel
theorem dX5_init_1 : decode cX5_init 1 = .ok (.invokespecial 1, 3) := by decide +kernel
theorem dX5_init_4 : decode cX5_init 4 = .ok (.aload_n 0, 1) := by decide +kernel
theorem dX5_init_5 : decode cX5_init 5 = .ok (.new 7, 3) := by decide +kernel
theorem dX5_init_8 : decode cX5_init 8 = .ok (.dup, 1) := by decide +kernel
theorem dX5_init_9 : decode cX5_init 9 = .ok (.invokespecial 9, 3) := by decide +kernel
theorem dX5_init_12 : decode cX5_init 12 = .ok (.putfield 10, 3) := by decide +kernel
theorem dX5_init_15 : decode cX5_init 15 = .ok (.aload_n 0, 1) := by decide +kernel
theorem dX5_init_16 : decode cX5_init 16 = .ok (.new 16, 3) := by decide +kernel
theorem dX5_init_19 : decode cX5_init 19 = .ok (.dup, 1) := by decide +kernel
theorem dX5_init_20 : decode cX5_init 20 = .ok (.invokespecial 18, 3) := by decide +kernel
theorem dX5_init_23 : decode cX5_init 23 = .ok (.putfield 19, 3) := by decide +kernel
theorem dX5_init_26 : decode cX5_init 26 = .ok (.aload_n 0, 1) := by decide +kernel
theorem dX5_init_27 : decode cX5_init 27 = .ok (.new 23, 3) := by decide +kernel
theorem dX5_init_30 : decode cX5_init 30 = .ok (.dup, 1) := by decide +kernel
theorem dX5_init_31 : decode cX5_init 31 = .ok (.invokespecial 25, 3) := by decide +kernel
theorem dX5_init_34 : decode cX5_init 34 = .ok (.putfield 26, 3) := by decide +kernel
theorem dX5_init_37 : decode cX5_init 37 = .ok (.return_, 1) := by decide +kernel
set_option maxHeartbeats 4000000 in
set_option maxRecDepth 100000 in
theorem kn_X5_init (l : Launch) (G : gw_) (A_t : Nat) : kn_ l G yX5_init cX5_init 1 2 43 11 201 [ob_ A_t 5 [.null, .null, .null]] [.ref A_t] (fun ws => ∃ q1 q2 q4 q5 q6 q7 q8 q9 q11 q12 q13 : Nat, ws = [ob_ A_t 5 [.ref q1, .ref q4, .ref q11], ob_ q1 2 [.ref q2], ia_ G q2 144 (fun _ => 0), ob_ q4 0 [.int 0, .int 0, .ref q5, .ref q6, .ref q7, .ref q8, .ref q9], ia_ G q5 6 (fun _ => 0), ia_ G q6 6 (fun _ => 0), ia_ G q7 6 (fun _ => 0), ia_ G q8 6 nf6_, ia_ G q9 6 nf6_, ob_ q11 6 [.int 0, .ref q12, .ref q13], ia_ G q12 8 (fun _ => 0), ia_ G q13 8 (fun _ => 0)]) := by
  intro sz
  refine met_intro (by decide) (Nat.le_of_ble_eq_true rfl) ?_
  intro p e s m args below meth c ls hsz hC hr hlk hnm hl hw
  have hx := hC.1
  have hb := hC.2.1
  have hl : lv_has ls 1 [(0, .ref A_t)] := hl
  refine lv_aload_n hx hb dX5_init_0 rfl (lv_at hl 0 rfl) ?_
  refine g_objInit hC hl.1 (tb1 29 rfl rfl) (tb1 22 rfl rfl) (tb1 23 rfl rfl) dX5_init_1 (by decide) (by decide) ?_
  refine lv_aload_n hx hb dX5_init_4 rfl (lv_at hl 0 rfl) ?_
  refine g_newo (ci := 2) (fs := [.null]) hC hw (tb1 30 rfl rfl) (tb1 31 rfl rfl) (tb1 3 rfl rfl) rfl tyX2 tyX2_ok (fun j hj => match j, hj with | 0, _ => rfl | k + 1, hj => absurd hj (by omega)) (Nat.le_of_ble_eq_true rfl) (Nat.le_of_ble_eq_true rfl) dX5_init_5 (fun q1 H hw => ?_)
  have hw : wd_ G (va_A [ob_ A_t 5 [.null, .null, .null]] sz) s.heap [ob_ A_t 5 [.null, .null, .null], ob_ q1 2 [.null]] H _ := hw
  refine lv_dup hx hb dX5_init_8 rfl ?_
  refine g_cI (wr := [ob_ A_t 5 [.null, .null, .null]]) hC hw miX5_9 (kn_X2_init l G q1) [1] [0] rfl (by decide) rfl (by decide) (by decide) rfl hl.1 rfl (Nat.le_of_ble_eq_true rfl) ⟨Nat.le_of_ble_eq_true rfl, Nat.le_of_ble_eq_true rfl⟩ ⟨Nat.le_of_ble_eq_true rfl, Nat.le_of_ble_eq_true rfl⟩ dX5_init_9 (fun ws1 H locs hp hw => ?_)
  obtain ⟨q2, rfl⟩ := hp
  have hw : wd_ G (va_A [ob_ A_t 5 [.null, .null, .null]] sz) s.heap [ob_ A_t 5 [.null, .null, .null], ob_ q1 2 [.ref q2], ia_ G q2 144 (fun _ => 0)] H _ := hw
  refine g_putF hC hw hnm ffX5_10 0 rfl rfl rfl (Nat.le_of_ble_eq_true rfl) dX5_init_12 (fun H locs hw => ?_)
  have hw : wd_ G (va_A [ob_ A_t 5 [.null, .null, .null]] sz) s.heap [ob_ A_t 5 [.ref q1, .null, .null], ob_ q1 2 [.ref q2], ia_ G q2 144 (fun _ => 0)] H _ := hw
  refine lv_aload_n hx hb dX5_init_15 rfl (lv_at hl 0 rfl) ?_
  refine g_newo (ci := 0) (fs := [.int 0, .int 0, .null, .null, .null, .null, .null]) hC hw (tb1 41 rfl rfl) (tb1 42 rfl rfl) (tb1 4 rfl rfl) rfl tyX0 tyX0_ok (fun j hj => match j, hj with | 0, _ => rfl | 1, _ => rfl | 2, _ => rfl | 3, _ => rfl | 4, _ => rfl | 5, _ => rfl | 6, _ => rfl | k + 7, hj => absurd hj (by omega)) (Nat.le_of_ble_eq_true rfl) (Nat.le_of_ble_eq_true rfl) dX5_init_16 (fun q4 H hw => ?_)
  have hw : wd_ G (va_A [ob_ A_t 5 [.null, .null, .null]] sz) s.heap [ob_ A_t 5 [.ref q1, .null, .null], ob_ q1 2 [.ref q2], ia_ G q2 144 (fun _ => 0), ob_ q4 0 [.int 0, .int 0, .null, .null, .null, .null, .null]] H _ := hw
  refine lv_dup hx hb dX5_init_19 rfl ?_
  refine g_cI (wr := [ob_ A_t 5 [.ref q1, .null, .null], ob_ q1 2 [.ref q2], ia_ G q2 144 (fun _ => 0)]) hC hw miX5_18 (kn_X0_init l G q4) [3] [0, 1, 2] rfl (by decide) rfl (by decide) (by decide) rfl hl.1 rfl (Nat.le_of_ble_eq_true rfl) ⟨Nat.le_of_ble_eq_true rfl, Nat.le_of_ble_eq_true rfl⟩ ⟨Nat.le_of_ble_eq_true rfl, Nat.le_of_ble_eq_true rfl⟩ dX5_init_20 (fun ws1 H locs hp hw => ?_)
  obtain ⟨q5, q6, q7, q8, q9, rfl⟩ := hp
  have hw : wd_ G (va_A [ob_ A_t 5 [.null, .null, .null]] sz) s.heap [ob_ A_t 5 [.ref q1, .null, .null], ob_ q1 2 [.ref q2], ia_ G q2 144 (fun _ => 0), ob_ q4 0 [.int 0, .int 0, .ref q5, .ref q6, .ref q7, .ref q8, .ref q9], ia_ G q5 6 (fun _ => 0), ia_ G q6 6 (fun _ => 0), ia_ G q7 6 (fun _ => 0), ia_ G q8 6 nf6_, ia_ G q9 6 nf6_] H _ := hw
  refine g_putF hC hw hnm ffX5_19 0 rfl rfl rfl (Nat.le_of_ble_eq_true rfl) dX5_init_23 (fun H locs hw => ?_)
  have hw : wd_ G (va_A [ob_ A_t 5 [.null, .null, .null]] sz) s.heap [ob_ A_t 5 [.ref q1, .ref q4, .null], ob_ q1 2 [.ref q2], ia_ G q2 144 (fun _ => 0), ob_ q4 0 [.int 0, .int 0, .ref q5, .ref q6, .ref q7, .ref q8, .ref q9], ia_ G q5 6 (fun _ => 0), ia_ G q6 6 (fun _ => 0), ia_ G q7 6 (fun _ => 0), ia_ G q8 6 nf6_, ia_ G q9 6 nf6_] H _ := hw
  refine lv_aload_n hx hb dX5_init_26 rfl (lv_at hl 0 rfl) ?_
  refine g_newo (ci := 6) (fs := [.int 0, .null, .null]) hC hw (tb1 80 rfl rfl) (tb1 81 rfl rfl) (tb1 6 rfl rfl) rfl tyX6 tyX6_ok (fun j hj => match j, hj with | 0, _ => rfl | 1, _ => rfl | 2, _ => rfl | k + 3, hj => absurd hj (by omega)) (Nat.le_of_ble_eq_true rfl) (Nat.le_of_ble_eq_true rfl) dX5_init_27 (fun q11 H hw => ?_)
  have hw : wd_ G (va_A [ob_ A_t 5 [.null, .null, .null]] sz) s.heap [ob_ A_t 5 [.ref q1, .ref q4, .null], ob_ q1 2 [.ref q2], ia_ G q2 144 (fun _ => 0), ob_ q4 0 [.int 0, .int 0, .ref q5, .ref q6, .ref q7, .ref q8, .ref q9], ia_ G q5 6 (fun _ => 0), ia_ G q6 6 (fun _ => 0), ia_ G q7 6 (fun _ => 0), ia_ G q8 6 nf6_, ia_ G q9 6 nf6_, ob_ q11 6 [.int 0, .null, .null]] H _ := hw
  refine lv_dup hx hb dX5_init_30 rfl ?_
  refine g_cI (wr := [ob_ A_t 5 [.ref q1, .ref q4, .null], ob_ q1 2 [.ref q2], ia_ G q2 144 (fun _ => 0), ob_ q4 0 [.int 0, .int 0, .ref q5, .ref q6, .ref q7, .ref q8, .ref q9], ia_ G q5 6 (fun _ => 0), ia_ G q6 6 (fun _ => 0), ia_ G q7 6 (fun _ => 0), ia_ G q8 6 nf6_, ia_ G q9 6 nf6_]) hC hw miX5_25 (kn_X6_init l G q11) [9] [0, 1, 2, 3, 4, 5, 6, 7, 8] rfl (by decide) rfl (by decide) (by decide) rfl hl.1 rfl (Nat.le_of_ble_eq_true rfl) ⟨Nat.le_of_ble_eq_true rfl, Nat.le_of_ble_eq_true rfl⟩ ⟨Nat.le_of_ble_eq_true rfl, Nat.le_of_ble_eq_true rfl⟩ dX5_init_31 (fun ws1 H locs hp hw => ?_)
  obtain ⟨q12, q13, rfl⟩ := hp
  have hw : wd_ G (va_A [ob_ A_t 5 [.null, .null, .null]] sz) s.heap [ob_ A_t 5 [.ref q1, .ref q4, .null], ob_ q1 2 [.ref q2], ia_ G q2 144 (fun _ => 0), ob_ q4 0 [.int 0, .int 0, .ref q5, .ref q6, .ref q7, .ref q8, .ref q9], ia_ G q5 6 (fun _ => 0), ia_ G q6 6 (fun _ => 0), ia_ G q7 6 (fun _ => 0), ia_ G q8 6 nf6_, ia_ G q9 6 nf6_, ob_ q11 6 [.int 0, .ref q12, .ref q13], ia_ G q12 8 (fun _ => 0), ia_ G q13 8 (fun _ => 0)] H _ := hw
  refine g_putF hC hw hnm ffX5_26 0 rfl rfl rfl (Nat.le_of_ble_eq_true rfl) dX5_init_34 (fun H locs hw => ?_)
  have hw : wd_ G (va_A [ob_ A_t 5 [.null, .null, .null]] sz) s.heap [ob_ A_t 5 [.ref q1, .ref q4, .ref q11], ob_ q1 2 [.ref q2], ia_ G q2 144 (fun _ => 0), ob_ q4 0 [.int 0, .int 0, .ref q5, .ref q6, .ref q7, .ref q8, .ref q9], ia_ G q5 6 (fun _ => 0), ia_ G q6 6 (fun _ => 0), ia_ G q7 6 (fun _ => 0), ia_ G q8 6 nf6_, ia_ G q9 6 nf6_, ob_ q11 6 [.int 0, .ref q12, .ref q13], ia_ G q12 8 (fun _ => 0), ia_ G q13 8 (fun _ => 0)] H _ := hw
  exact g_kret hC hr hlk hw ⟨q1, q2, q4, q5, q6, q7, q8, q9, q11, q12, q13, rfl⟩ dX5_init_37

theorem dX4_init_0 : decode cX4_init 0 = .ok (.aload_n 0, 1) := by decide +kernel
theorem dX4_init_1 : decode cX4_init 1 = .ok (.invokespecial 3, 3) := by decide +kernel
theorem dX4_init_4 : decode cX4_init 4 = .ok (.aload_n 0, 1) := by decide +kernel
theorem dX4_init_5 : decode cX4_init 5 = .ok (.iconst 0, 1) := by decide +kernel
theorem dX4_init_6 : decode cX4_init 6 = .ok (.putfield 9, 3) := by decide +kernel
theorem dX4_init_9 : decode cX4_init 9 = .ok (.aload_n 0, 1) := by decide +kernel
theorem dX4_init_10 : decode cX4_init 10 = .ok (.bipush 60, 2) := by decide +kernel
theorem dX4_init_12 : decode cX4_init 12 = .ok (.newarray .int, 2) := by decide +kernel
theorem dX4_init_14 : decode cX4_init 14 = .ok (.putfield 15, 3) := by decide +kernel
theorem dX4_init_17 : decode cX4_init 17 = .ok (.return_, 1) := by decide +kernel
set_option maxHeartbeats 4000000 in
set_option maxRecDepth 100000 in
theorem kn_X4_init (l : Launch) (G : gw_) (A_t : Nat) : kn_ l G yX4_init cX4_init 1 1 12 1 60 [ob_ A_t 4 [.int 0, .null]] [.ref A_t] (fun ws => ∃ q1 : Nat, ws = [ob_ A_t 4 [.int 0, .ref q1], ia_ G q1 60 (fun _ => 0)]) := by
  intro sz
  refine met_intro (by decide) (Nat.le_of_ble_eq_true rfl) ?_
  intro p e s m args below meth c ls hsz hC hr hlk hnm hl hw
  have hx := hC.1
  have hb := hC.2.1
  have hl : lv_has ls 1 [(0, .ref A_t)] := hl
  refine lv_aload_n hx hb dX4_init_0 rfl (lv_at hl 0 rfl) ?_
  refine g_objInit hC hl.1 (tb1 118 rfl rfl) (tb1 22 rfl rfl) (tb1 23 rfl rfl) dX4_init_1 (by decide) (by decide) ?_
  refine lv_aload_n hx hb dX4_init_4 rfl (lv_at hl 0 rfl) ?_
  refine lv_iconst (v := 0) hx hb dX4_init_5 (by decide) ?_
  refine g_put hC hw fpX4_9 0 rfl rfl rfl (Nat.le_of_ble_eq_true rfl) dX4_init_6 (fun H locs hw => ?_)
  have hw : wd_ G (va_A [ob_ A_t 4 [.int 0, .null]] sz) s.heap [ob_ A_t 4 [.int 0, .null]] H _ := hw
  refine lv_aload_n hx hb dX4_init_9 rfl (lv_at hl 0 rfl) ?_
  refine lv_bipush (v := 60) hx hb dX4_init_10 (by decide) ?_
  refine g_newa hC hw (tb1 40 rfl rfl) (by decide) rfl (by decide) (Nat.le_of_ble_eq_true rfl) (Nat.le_of_ble_eq_true rfl) dX4_init_12 (fun q1 H hw => ?_)
  have hw : wd_ G (va_A [ob_ A_t 4 [.int 0, .null]] sz) s.heap [ob_ A_t 4 [.int 0, .null], ia_ G q1 60 (fun _ => 0)] H _ := hw
  refine g_putF hC hw hnm ffX4_15 0 rfl rfl rfl (Nat.le_of_ble_eq_true rfl) dX4_init_14 (fun H locs hw => ?_)
  have hw : wd_ G (va_A [ob_ A_t 4 [.int 0, .null]] sz) s.heap [ob_ A_t 4 [.int 0, .ref q1], ia_ G q1 60 (fun _ => 0)] H _ := hw
  exact g_kret hC hr hlk hw ⟨q1, rfl⟩ dX4_init_17

theorem dX1_init_0 : decode cX1_init 0 = .ok (.aload_n 0, 1) := by decide +kernel
theorem dX1_init_1 : decode cX1_init 1 = .ok (.invokespecial 3, 3) := by decide +kernel
theorem dX1_init_4 : decode cX1_init 4 = .ok (.aload_n 0, 1) := by decide +kernel
theorem dX1_init_5 : decode cX1_init 5 = .ok (.new 9, 3) := by decide +kernel
theorem dX1_init_8 : decode cX1_init 8 = .ok (.dup, 1) := by decide +kernel
theorem dX1_init_9 : decode cX1_init 9 = .ok (.invokespecial 11, 3) := by decide +kernel
theorem dX1_init_12 : decode cX1_init 12 = .ok (.putfield 12, 3) := by decide +kernel
theorem dX1_init_15 : decode cX1_init 15 = .ok (.aload_n 0, 1) := by decide +kernel
theorem dX1_init_16 : decode cX1_init 16 = .ok (.iconst 0, 1) := by decide +kernel
theorem dX1_init_17 : decode cX1_init 17 = .ok (.putfield 18, 3) := by decide +kernel
theorem dX1_init_20 : decode cX1_init 20 = .ok (.aload_n 0, 1) := by decide +kernel
theorem dX1_init_21 : decode cX1_init 21 = .ok (.bipush (-6), 2) := by decide +kernel
theorem dX1_init_23 : decode cX1_init 23 = .ok (.putfield 22, 3) := by decide +kernel
theorem dX1_init_26 : decode cX1_init 26 = .ok (.aload_n 0, 1) := by decide +kernel
theorem dX1_init_27 : decode cX1_init 27 = .ok (.bipush (-6), 2) := by decide +kernel
theorem dX1_init_29 : decode cX1_init 29 = .ok (.putfield 25, 3) := by decide +kernel
theorem dX1_init_32 : decode cX1_init 32 = .ok (.aload_n 0, 1) := by decide +kernel
theorem dX1_init_33 : decode cX1_init 33 = .ok (.iconst 0, 1) := by decide +kernel
theorem dX1_init_34 : decode cX1_init 34 = .ok (.putfield 28, 3) := by decide +kernel
theorem dX1_init_37 : decode cX1_init 37 = .ok (.aload_n 0, 1) := by decide +kernel
theorem dX1_init_38 : decode cX1_init 38 = .ok (.iconst 0, 1) := by decide +kernel
theorem dX1_init_39 : decode cX1_init 39 = .ok (.putfield 31, 3) := by decide +kernel
theorem dX1_init_42 : decode cX1_init 42 = .ok (.return_, 1) := by decide +kernel
set_option maxHeartbeats 4000000 in
set_option maxRecDepth 100000 in
theorem kn_X1_init (l : Launch) (G : gw_) (A_t : Nat) : kn_ l G yX1_init cX1_init 1 2 43 6 37 [ob_ A_t 1 [.null, .int 0, .int 0, .int 0, .int 0, .int 0]] [.ref A_t] (fun ws => ∃ q1 q2 q3 q4 q5 q6 : Nat, ws = [ob_ A_t 1 [.ref q1, .int 0, .int (-6), .int (-6), .int 0, .int 0], ob_ q1 0 [.int 0, .int 0, .ref q2, .ref q3, .ref q4, .ref q5, .ref q6], ia_ G q2 6 (fun _ => 0), ia_ G q3 6 (fun _ => 0), ia_ G q4 6 (fun _ => 0), ia_ G q5 6 nf6_, ia_ G q6 6 nf6_]) := by
  intro sz
  refine met_intro (by decide) (Nat.le_of_ble_eq_true rfl) ?_
  intro p e s m args below meth c ls hsz hC hr hlk hnm hl hw
  have hx := hC.1
  have hb := hC.2.1
  have hl : lv_has ls 1 [(0, .ref A_t)] := hl
  refine lv_aload_n hx hb dX1_init_0 rfl (lv_at hl 0 rfl) ?_
  refine g_objInit hC hl.1 (tb1 133 rfl rfl) (tb1 22 rfl rfl) (tb1 23 rfl rfl) dX1_init_1 (by decide) (by decide) ?_
  refine lv_aload_n hx hb dX1_init_4 rfl (lv_at hl 0 rfl) ?_
  refine g_newo (ci := 0) (fs := [.int 0, .int 0, .null, .null, .null, .null, .null]) hC hw (tb1 134 rfl rfl) (tb1 42 rfl rfl) (tb1 4 rfl rfl) rfl tyX0 tyX0_ok (fun j hj => match j, hj with | 0, _ => rfl | 1, _ => rfl | 2, _ => rfl | 3, _ => rfl | 4, _ => rfl | 5, _ => rfl | 6, _ => rfl | k + 7, hj => absurd hj (by omega)) (Nat.le_of_ble_eq_true rfl) (Nat.le_of_ble_eq_true rfl) dX1_init_5 (fun q1 H hw => ?_)
  have hw : wd_ G (va_A [ob_ A_t 1 [.null, .int 0, .int 0, .int 0, .int 0, .int 0]] sz) s.heap [ob_ A_t 1 [.null, .int 0, .int 0, .int 0, .int 0, .int 0], ob_ q1 0 [.int 0, .int 0, .null, .null, .null, .null, .null]] H _ := hw
  refine lv_dup hx hb dX1_init_8 rfl ?_
  refine g_cI (wr := [ob_ A_t 1 [.null, .int 0, .int 0, .int 0, .int 0, .int 0]]) hC hw miX1_11 (kn_X0_init l G q1) [1] [0] rfl (by decide) rfl (by decide) (by decide) rfl hl.1 rfl (Nat.le_of_ble_eq_true rfl) ⟨Nat.le_of_ble_eq_true rfl, Nat.le_of_ble_eq_true rfl⟩ ⟨Nat.le_of_ble_eq_true rfl, Nat.le_of_ble_eq_true rfl⟩ dX1_init_9 (fun ws1 H locs hp hw => ?_)
  obtain ⟨q2, q3, q4, q5, q6, rfl⟩ := hp
  have hw : wd_ G (va_A [ob_ A_t 1 [.null, .int 0, .int 0, .int 0, .int 0, .int 0]] sz) s.heap [ob_ A_t 1 [.null, .int 0, .int 0, .int 0, .int 0, .int 0], ob_ q1 0 [.int 0, .int 0, .ref q2, .ref q3, .ref q4, .ref q5, .ref q6], ia_ G q2 6 (fun _ => 0), ia_ G q3 6 (fun _ => 0), ia_ G q4 6 (fun _ => 0), ia_ G q5 6 nf6_, ia_ G q6 6 nf6_] H _ := hw
  refine g_putF hC hw hnm ffX1_12 0 rfl rfl rfl (Nat.le_of_ble_eq_true rfl) dX1_init_12 (fun H locs hw => ?_)
  have hw : wd_ G (va_A [ob_ A_t 1 [.null, .int 0, .int 0, .int 0, .int 0, .int 0]] sz) s.heap [ob_ A_t 1 [.ref q1, .int 0, .int 0, .int 0, .int 0, .int 0], ob_ q1 0 [.int 0, .int 0, .ref q2, .ref q3, .ref q4, .ref q5, .ref q6], ia_ G q2 6 (fun _ => 0), ia_ G q3 6 (fun _ => 0), ia_ G q4 6 (fun _ => 0), ia_ G q5 6 nf6_, ia_ G q6 6 nf6_] H _ := hw
  refine lv_aload_n hx hb dX1_init_15 rfl (lv_at hl 0 rfl) ?_
  refine lv_iconst (v := 0) hx hb dX1_init_16 (by decide) ?_
  refine g_put hC hw fpX1_18 0 rfl rfl rfl (Nat.le_of_ble_eq_true rfl) dX1_init_17 (fun H locs hw => ?_)
  have hw : wd_ G (va_A [ob_ A_t 1 [.null, .int 0, .int 0, .int 0, .int 0, .int 0]] sz) s.heap [ob_ A_t 1 [.ref q1, .int 0, .int 0, .int 0, .int 0, .int 0], ob_ q1 0 [.int 0, .int 0, .ref q2, .ref q3, .ref q4, .ref q5, .ref q6], ia_ G q2 6 (fun _ => 0), ia_ G q3 6 (fun _ => 0), ia_ G q4 6 (fun _ => 0), ia_ G q5 6 nf6_, ia_ G q6 6 nf6_] H _ := hw
  refine lv_aload_n hx hb dX1_init_20 rfl (lv_at hl 0 rfl) ?_
  refine lv_bipush (v := (-6)) hx hb dX1_init_21 (by decide) ?_
  refine g_put hC hw fpX1_22 0 rfl rfl rfl (Nat.le_of_ble_eq_true rfl) dX1_init_23 (fun H locs hw => ?_)
  have hw : wd_ G (va_A [ob_ A_t 1 [.null, .int 0, .int 0, .int 0, .int 0, .int 0]] sz) s.heap [ob_ A_t 1 [.ref q1, .int 0, .int (-6), .int 0, .int 0, .int 0], ob_ q1 0 [.int 0, .int 0, .ref q2, .ref q3, .ref q4, .ref q5, .ref q6], ia_ G q2 6 (fun _ => 0), ia_ G q3 6 (fun _ => 0), ia_ G q4 6 (fun _ => 0), ia_ G q5 6 nf6_, ia_ G q6 6 nf6_] H _ := hw
  refine lv_aload_n hx hb dX1_init_26 rfl (lv_at hl 0 rfl) ?_
  refine lv_bipush (v := (-6)) hx hb dX1_init_27 (by decide) ?_
  refine g_put hC hw fpX1_25 0 rfl rfl rfl (Nat.le_of_ble_eq_true rfl) dX1_init_29 (fun H locs hw => ?_)
  have hw : wd_ G (va_A [ob_ A_t 1 [.null, .int 0, .int 0, .int 0, .int 0, .int 0]] sz) s.heap [ob_ A_t 1 [.ref q1, .int 0, .int (-6), .int (-6), .int 0, .int 0], ob_ q1 0 [.int 0, .int 0, .ref q2, .ref q3, .ref q4, .ref q5, .ref q6], ia_ G q2 6 (fun _ => 0), ia_ G q3 6 (fun _ => 0), ia_ G q4 6 (fun _ => 0), ia_ G q5 6 nf6_, ia_ G q6 6 nf6_] H _ := hw
  refine lv_aload_n hx hb dX1_init_32 rfl (lv_at hl 0 rfl) ?_
  refine lv_iconst (v := 0) hx hb dX1_init_33 (by decide) ?_
  refine g_put hC hw fpX1_28 0 rfl rfl rfl (Nat.le_of_ble_eq_true rfl) dX1_init_34 (fun H locs hw => ?_)
  have hw : wd_ G (va_A [ob_ A_t 1 [.null, .int 0, .int 0, .int 0, .int 0, .int 0]] sz) s.heap [ob_ A_t 1 [.ref q1, .int 0, .int (-6), .int (-6), .int 0, .int 0], ob_ q1 0 [.int 0, .int 0, .ref q2, .ref q3, .ref q4, .ref q5, .ref q6], ia_ G q2 6 (fun _ => 0), ia_ G q3 6 (fun _ => 0), ia_ G q4 6 (fun _ => 0), ia_ G q5 6 nf6_, ia_ G q6 6 nf6_] H _ := hw
  refine lv_aload_n hx hb dX1_init_37 rfl (lv_at hl 0 rfl) ?_
  refine lv_iconst (v := 0) hx hb dX1_init_38 (by decide) ?_
  refine g_put hC hw fpX1_31 0 rfl rfl rfl (Nat.le_of_ble_eq_true rfl) dX1_init_39 (fun H locs hw => ?_)
  have hw : wd_ G (va_A [ob_ A_t 1 [.null, .int 0, .int 0, .int 0, .int 0, .int 0]] sz) s.heap [ob_ A_t 1 [.ref q1, .int 0, .int (-6), .int (-6), .int 0, .int 0], ob_ q1 0 [.int 0, .int 0, .ref q2, .ref q3, .ref q4, .ref q5, .ref q6], ia_ G q2 6 (fun _ => 0), ia_ G q3 6 (fun _ => 0), ia_ G q4 6 (fun _ => 0), ia_ G q5 6 nf6_, ia_ G q6 6 nf6_] H _ := hw
  exact g_kret hC hr hlk hw ⟨q1, q2, q3, q4, q5, q6, rfl⟩ dX1_init_42

theorem dX8_init_0 : decode cX8_init 0 = .ok (.aload_n 0, 1) := by decide +kernel
theorem dX8_init_1 : decode cX8_init 1 = .ok (.invokespecial 3, 3) := by decide +kernel
theorem dX8_init_4 : decode cX8_init 4 = .ok (.aload_n 0, 1) := by decide +kernel
theorem dX8_init_5 : decode cX8_init 5 = .ok (.sipush 144, 3) := by decide +kernel
theorem dX8_init_8 : decode cX8_init 8 = .ok (.newarray .int, 2) := by decide +kernel
theorem dX8_init_10 : decode cX8_init 10 = .ok (.putfield 9, 3) := by decide +kernel
theorem dX8_init_13 : decode cX8_init 13 = .ok (.aload_n 0, 1) := by decide +kernel
theorem dX8_init_14 : decode cX8_init 14 = .ok (.sipush 144, 3) := by decide +kernel
theorem dX8_init_17 : decode cX8_init 17 = .ok (.newarray .int, 2) := by decide +kernel
theorem dX8_init_19 : decode cX8_init 19 = .ok (.putfield 15, 3) := by decide +kernel
theorem dX8_init_22 : decode cX8_init 22 = .ok (.aload_n 0, 1) := by decide +kernel
theorem dX8_init_23 : decode cX8_init 23 = .ok (.bipush 12, 2) := by decide +kernel
theorem dX8_init_25 : decode cX8_init 25 = .ok (.newarray .int, 2) := by decide +kernel
theorem dX8_init_27 : decode cX8_init 27 = .ok (.putfield 18, 3) := by decide +kernel
theorem dX8_init_30 : decode cX8_init 30 = .ok (.return_, 1) := by decide +kernel
set_option maxHeartbeats 4000000 in
set_option maxRecDepth 100000 in
theorem kn_X8_init (l : Launch) (G : gw_) (A_t : Nat) : kn_ l G yX8_init cX8_init 1 1 12 3 300 [ob_ A_t 8 [.null, .null, .null]] [.ref A_t] (fun ws => ∃ q1 q2 q3 : Nat, ws = [ob_ A_t 8 [.ref q1, .ref q2, .ref q3], ia_ G q1 144 (fun _ => 0), ia_ G q2 144 (fun _ => 0), ia_ G q3 12 (fun _ => 0)]) := by
  intro sz
  refine met_intro (by decide) (Nat.le_of_ble_eq_true rfl) ?_
  intro p e s m args below meth c ls hsz hC hr hlk hnm hl hw
  have hx := hC.1
  have hb := hC.2.1
  have hl : lv_has ls 1 [(0, .ref A_t)] := hl
  refine lv_aload_n hx hb dX8_init_0 rfl (lv_at hl 0 rfl) ?_
  refine g_objInit hC hl.1 (tb1 166 rfl rfl) (tb1 22 rfl rfl) (tb1 23 rfl rfl) dX8_init_1 (by decide) (by decide) ?_
  refine lv_aload_n hx hb dX8_init_4 rfl (lv_at hl 0 rfl) ?_
  refine lv_sipush (v := 144) hx hb dX8_init_5 (by decide) ?_
  refine g_newa hC hw (tb1 40 rfl rfl) (by decide) rfl (by decide) (Nat.le_of_ble_eq_true rfl) (Nat.le_of_ble_eq_true rfl) dX8_init_8 (fun q1 H hw => ?_)
  have hw : wd_ G (va_A [ob_ A_t 8 [.null, .null, .null]] sz) s.heap [ob_ A_t 8 [.null, .null, .null], ia_ G q1 144 (fun _ => 0)] H _ := hw
  refine g_putF hC hw hnm ffX8_9 0 rfl rfl rfl (Nat.le_of_ble_eq_true rfl) dX8_init_10 (fun H locs hw => ?_)
  have hw : wd_ G (va_A [ob_ A_t 8 [.null, .null, .null]] sz) s.heap [ob_ A_t 8 [.ref q1, .null, .null], ia_ G q1 144 (fun _ => 0)] H _ := hw
  refine lv_aload_n hx hb dX8_init_13 rfl (lv_at hl 0 rfl) ?_
  refine lv_sipush (v := 144) hx hb dX8_init_14 (by decide) ?_
  refine g_newa hC hw (tb1 40 rfl rfl) (by decide) rfl (by decide) (Nat.le_of_ble_eq_true rfl) (Nat.le_of_ble_eq_true rfl) dX8_init_17 (fun q2 H hw => ?_)
  have hw : wd_ G (va_A [ob_ A_t 8 [.null, .null, .null]] sz) s.heap [ob_ A_t 8 [.ref q1, .null, .null], ia_ G q1 144 (fun _ => 0), ia_ G q2 144 (fun _ => 0)] H _ := hw
  refine g_putF hC hw hnm ffX8_15 0 rfl rfl rfl (Nat.le_of_ble_eq_true rfl) dX8_init_19 (fun H locs hw => ?_)
  have hw : wd_ G (va_A [ob_ A_t 8 [.null, .null, .null]] sz) s.heap [ob_ A_t 8 [.ref q1, .ref q2, .null], ia_ G q1 144 (fun _ => 0), ia_ G q2 144 (fun _ => 0)] H _ := hw
  refine lv_aload_n hx hb dX8_init_22 rfl (lv_at hl 0 rfl) ?_
  refine lv_bipush (v := 12) hx hb dX8_init_23 (by decide) ?_
  refine g_newa hC hw (tb1 40 rfl rfl) (by decide) rfl (by decide) (Nat.le_of_ble_eq_true rfl) (Nat.le_of_ble_eq_true rfl) dX8_init_25 (fun q3 H hw => ?_)
  have hw : wd_ G (va_A [ob_ A_t 8 [.null, .null, .null]] sz) s.heap [ob_ A_t 8 [.ref q1, .ref q2, .null], ia_ G q1 144 (fun _ => 0), ia_ G q2 144 (fun _ => 0), ia_ G q3 12 (fun _ => 0)] H _ := hw
  refine g_putF hC hw hnm ffX8_18 0 rfl rfl rfl (Nat.le_of_ble_eq_true rfl) dX8_init_27 (fun H locs hw => ?_)
  have hw : wd_ G (va_A [ob_ A_t 8 [.null, .null, .null]] sz) s.heap [ob_ A_t 8 [.ref q1, .ref q2, .ref q3], ia_ G q1 144 (fun _ => 0), ia_ G q2 144 (fun _ => 0), ia_ G q3 12 (fun _ => 0)] H _ := hw
  exact g_kret hC hr hlk hw ⟨q1, q2, q3, rfl⟩ dX8_init_30

theorem dX7_init_0 : decode cX7_init 0 = .ok (.aload_n 0, 1) := by decide +kernel
theorem dX7_init_1 : decode cX7_init 1 = .ok (.invokespecial 3, 3) := by decide +kernel
theorem dX7_init_4 : decode cX7_init 4 = .ok (.aload_n 0, 1) := by decide +kernel
theorem dX7_init_5 : decode cX7_init 5 = .ok (.iconst 0, 1) := by decide +kernel
theorem dX7_init_6 : decode cX7_init 6 = .ok (.putfield 9, 3) := by decide +kernel
theorem dX7_init_9 : decode cX7_init 9 = .ok (.aload_n 0, 1) := by decide +kernel
theorem dX7_init_10 : decode cX7_init 10 = .ok (.bipush (-6), 2) := by decide +kernel
theorem dX7_init_12 : decode cX7_init 12 = .ok (.putfield 15, 3) := by decide +kernel
theorem dX7_init_15 : decode cX7_init 15 = .ok (.aload_n 0, 1) := by decide +kernel
theorem dX7_init_16 : decode cX7_init 16 = .ok (.bipush 6, 2) := by decide +kernel
theorem dX7_init_18 : decode cX7_init 18 = .ok (.newarray .int, 2) := by decide +kernel
theorem dX7_init_20 : decode cX7_init 20 = .ok (.putfield 18, 3) := by decide +kernel
theorem dX7_init_23 : decode cX7_init 23 = .ok (.aload_n 0, 1) := by decide +kernel
theorem dX7_init_24 : decode cX7_init 24 = .ok (.sipush 384, 3) := by decide +kernel
theorem dX7_init_27 : decode cX7_init 27 = .ok (.newarray .int, 2) := by decide +kernel
theorem dX7_init_29 : decode cX7_init 29 = .ok (.putfield 22, 3) := by decide +kernel
theorem dX7_init_32 : decode cX7_init 32 = .ok (.return_, 1) := by decide +kernel
set_option maxHeartbeats 4000000 in
set_option maxRecDepth 100000 in
theorem kn_X7_init (l : Launch) (G : gw_) (A_t : Nat) : kn_ l G yX7_init cX7_init 1 1 12 2 390 [ob_ A_t 7 [.int 0, .int 0, .null, .null]] [.ref A_t] (fun ws => ∃ q1 q2 : Nat, ws = [ob_ A_t 7 [.int 0, .int (-6), .ref q1, .ref q2], ia_ G q1 6 (fun _ => 0), ia_ G q2 384 (fun _ => 0)]) := by
  intro sz
  refine met_intro (by decide) (Nat.le_of_ble_eq_true rfl) ?_
  intro p e s m args below meth c ls hsz hC hr hlk hnm hl hw
  have hx := hC.1
  have hb := hC.2.1
  have hl : lv_has ls 1 [(0, .ref A_t)] := hl
  refine lv_aload_n hx hb dX7_init_0 rfl (lv_at hl 0 rfl) ?_
  refine g_objInit hC hl.1 (tb1 182 rfl rfl) (tb1 22 rfl rfl) (tb1 23 rfl rfl) dX7_init_1 (by decide) (by decide) ?_
  refine lv_aload_n hx hb dX7_init_4 rfl (lv_at hl 0 rfl) ?_
  refine lv_iconst (v := 0) hx hb dX7_init_5 (by decide) ?_
  refine g_put hC hw fpX7_9 0 rfl rfl rfl (Nat.le_of_ble_eq_true rfl) dX7_init_6 (fun H locs hw => ?_)
  have hw : wd_ G (va_A [ob_ A_t 7 [.int 0, .int 0, .null, .null]] sz) s.heap [ob_ A_t 7 [.int 0, .int 0, .null, .null]] H _ := hw
  refine lv_aload_n hx hb dX7_init_9 rfl (lv_at hl 0 rfl) ?_
  refine lv_bipush (v := (-6)) hx hb dX7_init_10 (by decide) ?_
  refine g_put hC hw fpX7_15 0 rfl rfl rfl (Nat.le_of_ble_eq_true rfl) dX7_init_12 (fun H locs hw => ?_)
  have hw : wd_ G (va_A [ob_ A_t 7 [.int 0, .int 0, .null, .null]] sz) s.heap [ob_ A_t 7 [.int 0, .int (-6), .null, .null]] H _ := hw
  refine lv_aload_n hx hb dX7_init_15 rfl (lv_at hl 0 rfl) ?_
  refine lv_bipush (v := 6) hx hb dX7_init_16 (by decide) ?_
  refine g_newa hC hw (tb1 40 rfl rfl) (by decide) rfl (by decide) (Nat.le_of_ble_eq_true rfl) (Nat.le_of_ble_eq_true rfl) dX7_init_18 (fun q1 H hw => ?_)
  have hw : wd_ G (va_A [ob_ A_t 7 [.int 0, .int 0, .null, .null]] sz) s.heap [ob_ A_t 7 [.int 0, .int (-6), .null, .null], ia_ G q1 6 (fun _ => 0)] H _ := hw
  refine g_putF hC hw hnm ffX7_18 0 rfl rfl rfl (Nat.le_of_ble_eq_true rfl) dX7_init_20 (fun H locs hw => ?_)
  have hw : wd_ G (va_A [ob_ A_t 7 [.int 0, .int 0, .null, .null]] sz) s.heap [ob_ A_t 7 [.int 0, .int (-6), .ref q1, .null], ia_ G q1 6 (fun _ => 0)] H _ := hw
  refine lv_aload_n hx hb dX7_init_23 rfl (lv_at hl 0 rfl) ?_
  refine lv_sipush (v := 384) hx hb dX7_init_24 (by decide) ?_
  refine g_newa hC hw (tb1 40 rfl rfl) (by decide) rfl (by decide) (Nat.le_of_ble_eq_true rfl) (Nat.le_of_ble_eq_true rfl) dX7_init_27 (fun q2 H hw => ?_)
  have hw : wd_ G (va_A [ob_ A_t 7 [.int 0, .int 0, .null, .null]] sz) s.heap [ob_ A_t 7 [.int 0, .int (-6), .ref q1, .null], ia_ G q1 6 (fun _ => 0), ia_ G q2 384 (fun _ => 0)] H _ := hw
  refine g_putF hC hw hnm ffX7_22 0 rfl rfl rfl (Nat.le_of_ble_eq_true rfl) dX7_init_29 (fun H locs hw => ?_)
  have hw : wd_ G (va_A [ob_ A_t 7 [.int 0, .int 0, .null, .null]] sz) s.heap [ob_ A_t 7 [.int 0, .int (-6), .ref q1, .ref q2], ia_ G q1 6 (fun _ => 0), ia_ G q2 384 (fun _ => 0)] H _ := hw
  exact g_kret hC hr hlk hw ⟨q1, q2, rfl⟩ dX7_init_32

theorem dX3_init_0 : decode cX3_init 0 = .ok (.aload_n 0, 1) := by decide +kernel
theorem dX3_init_1 : decode cX3_init 1 = .ok (.invokespecial 3, 3) := by decide +kernel
theorem dX3_init_4 : decode cX3_init 4 = .ok (.aload_n 0, 1) := by decide +kernel
theorem dX3_init_5 : decode cX3_init 5 = .ok (.bipush 12, 2) := by decide +kernel
theorem dX3_init_7 : decode cX3_init 7 = .ok (.newarray .int, 2) := by decide +kernel
theorem dX3_init_9 : decode cX3_init 9 = .ok (.putfield 9, 3) := by decide +kernel
theorem dX3_init_12 : decode cX3_init 12 = .ok (.aload_n 0, 1) := by decide +kernel
theorem dX3_init_13 : decode cX3_init 13 = .ok (.iconst 0, 1) := by decide +kernel
theorem dX3_init_14 : decode cX3_init 14 = .ok (.putfield 15, 3) := by decide +kernel
theorem dX3_init_17 : decode cX3_init 17 = .ok (.aload_n 0, 1) := by decide +kernel
theorem dX3_init_18 : decode cX3_init 18 = .ok (.iconst 0, 1) := by decide +kernel
theorem dX3_init_19 : decode cX3_init 19 = .ok (.putfield 19, 3) := by decide +kernel
theorem dX3_init_22 : decode cX3_init 22 = .ok (.return_, 1) := by decide +kernel
set_option maxHeartbeats 4000000 in
set_option maxRecDepth 100000 in
theorem kn_X3_init (l : Launch) (G : gw_) (A_t : Nat) : kn_ l G yX3_init cX3_init 1 1 12 1 12 [ob_ A_t 3 [.null, .int 0, .int 0]] [.ref A_t] (fun ws => ∃ q1 : Nat, ws = [ob_ A_t 3 [.ref q1, .int 0, .int 0], ia_ G q1 12 (fun _ => 0)]) := by
  intro sz
  refine met_intro (by decide) (Nat.le_of_ble_eq_true rfl) ?_
  intro p e s m args below meth c ls hsz hC hr hlk hnm hl hw
  have hx := hC.1
  have hb := hC.2.1
  have hl : lv_has ls 1 [(0, .ref A_t)] := hl
  refine lv_aload_n hx hb dX3_init_0 rfl (lv_at hl 0 rfl) ?_
  refine g_objInit hC hl.1 (tb1 203 rfl rfl) (tb1 22 rfl rfl) (tb1 23 rfl rfl) dX3_init_1 (by decide) (by decide) ?_
  refine lv_aload_n hx hb dX3_init_4 rfl (lv_at hl 0 rfl) ?_
  refine lv_bipush (v := 12) hx hb dX3_init_5 (by decide) ?_
  refine g_newa hC hw (tb1 40 rfl rfl) (by decide) rfl (by decide) (Nat.le_of_ble_eq_true rfl) (Nat.le_of_ble_eq_true rfl) dX3_init_7 (fun q1 H hw => ?_)
  have hw : wd_ G (va_A [ob_ A_t 3 [.null, .int 0, .int 0]] sz) s.heap [ob_ A_t 3 [.null, .int 0, .int 0], ia_ G q1 12 (fun _ => 0)] H _ := hw
  refine g_putF hC hw hnm ffX3_9 0 rfl rfl rfl (Nat.le_of_ble_eq_true rfl) dX3_init_9 (fun H locs hw => ?_)
  have hw : wd_ G (va_A [ob_ A_t 3 [.null, .int 0, .int 0]] sz) s.heap [ob_ A_t 3 [.ref q1, .int 0, .int 0], ia_ G q1 12 (fun _ => 0)] H _ := hw
  refine lv_aload_n hx hb dX3_init_12 rfl (lv_at hl 0 rfl) ?_
  refine lv_iconst (v := 0) hx hb dX3_init_13 (by decide) ?_
  refine g_put hC hw fpX3_15 0 rfl rfl rfl (Nat.le_of_ble_eq_true rfl) dX3_init_14 (fun H locs hw => ?_)
  have hw : wd_ G (va_A [ob_ A_t 3 [.null, .int 0, .int 0]] sz) s.heap [ob_ A_t 3 [.ref q1, .int 0, .int 0], ia_ G q1 12 (fun _ => 0)] H _ := hw
  refine lv_aload_n hx hb dX3_init_17 rfl (lv_at hl 0 rfl) ?_
  refine lv_iconst (v := 0) hx hb dX3_init_18 (by decide) ?_
  refine g_put hC hw fpX3_19 0 rfl rfl rfl (Nat.le_of_ble_eq_true rfl) dX3_init_19 (fun H locs hw => ?_)
  have hw : wd_ G (va_A [ob_ A_t 3 [.null, .int 0, .int 0]] sz) s.heap [ob_ A_t 3 [.ref q1, .int 0, .int 0], ia_ G q1 12 (fun _ => 0)] H _ := hw
  exact g_kret hC hr hlk hw ⟨q1, rfl⟩ dX3_init_22

theorem dX9_init_0 : decode cX9_init 0 = .ok (.aload_n 0, 1) := by decide +kernel
theorem dX9_init_1 : decode cX9_init 1 = .ok (.invokespecial 3, 3) := by decide +kernel
theorem dX9_init_4 : decode cX9_init 4 = .ok (.aload_n 0, 1) := by decide +kernel
theorem dX9_init_5 : decode cX9_init 5 = .ok (.new 9, 3) := by decide +kernel
theorem dX9_init_8 : decode cX9_init 8 = .ok (.dup, 1) := by decide +kernel
theorem dX9_init_9 : decode cX9_init 9 = .ok (.invokespecial 11, 3) := by decide +kernel
theorem dX9_init_12 : decode cX9_init 12 = .ok (.putfield 12, 3) := by decide +kernel
theorem dX9_init_15 : decode cX9_init 15 = .ok (.aload_n 0, 1) := by decide +kernel
theorem dX9_init_16 : decode cX9_init 16 = .ok (.iconst 2, 1) := by decide +kernel
theorem dX9_init_17 : decode cX9_init 17 = .ok (.anewarray 9, 3) := by decide +kernel
theorem dX9_init_20 : decode cX9_init 20 = .ok (.putfield 16, 3) := by decide +kernel
theorem dX9_init_23 : decode cX9_init 23 = .ok (.aload_n 0, 1) := by decide +kernel
theorem dX9_init_24 : decode cX9_init 24 = .ok (.new 20, 3) := by decide +kernel
theorem dX9_init_27 : decode cX9_init 27 = .ok (.dup, 1) := by decide +kernel
theorem dX9_init_28 : decode cX9_init 28 = .ok (.invokespecial 22, 3) := by decide +kernel
theorem dX9_init_31 : decode cX9_init 31 = .ok (.putfield 23, 3) := by decide +kernel
theorem dX9_init_34 : decode cX9_init 34 = .ok (.aload_n 0, 1) := by decide +kernel
theorem dX9_init_35 : decode cX9_init 35 = .ok (.new 27, 3) := by decide +kernel
theorem dX9_init_38 : decode cX9_init 38 = .ok (.dup, 1) := by decide +kernel
theorem dX9_init_39 : decode cX9_init 39 = .ok (.invokespecial 29, 3) := by decide +kernel
theorem dX9_init_42 : decode cX9_init 42 = .ok (.putfield 30, 3) := by decide +kernel
theorem dX9_init_45 : decode cX9_init 45 = .ok (.aload_n 0, 1) := by decide +kernel
theorem dX9_init_46 : decode cX9_init 46 = .ok (.new 34, 3) := by decide +kernel
theorem dX9_init_49 : decode cX9_init 49 = .ok (.dup, 1) := by decide +kernel
theorem dX9_init_50 : decode cX9_init 50 = .ok (.invokespecial 36, 3) := by decide +kernel
theorem dX9_init_53 : decode cX9_init 53 = .ok (.putfield 37, 3) := by decide +kernel
theorem dX9_init_56 : decode cX9_init 56 = .ok (.aload_n 0, 1) := by decide +kernel
theorem dX9_init_57 : decode cX9_init 57 = .ok (.new 41, 3) := by decide +kernel
theorem dX9_init_60 : decode cX9_init 60 = .ok (.dup, 1) := by decide +kernel
theorem dX9_init_61 : decode cX9_init 61 = .ok (.invokespecial 43, 3) := by decide +kernel
theorem dX9_init_64 : decode cX9_init 64 = .ok (.putfield 44, 3) := by decide +kernel
theorem dX9_init_67 : decode cX9_init 67 = .ok (.aload_n 0, 1) := by decide +kernel
theorem dX9_init_68 : decode cX9_init 68 = .ok (.new 48, 3) := by decide +kernel
theorem dX9_init_71 : decode cX9_init 71 = .ok (.dup, 1) := by decide +kernel
theorem dX9_init_72 : decode cX9_init 72 = .ok (.invokespecial 50, 3) := by decide +kernel
theorem dX9_init_75 : decode cX9_init 75 = .ok (.putfield 51, 3) := by decide +kernel
theorem dX9_init_78 : decode cX9_init 78 = .ok (.aload_n 0, 1) := by decide +kernel
theorem dX9_init_79 : decode cX9_init 79 = .ok (.iconst 0, 1) := by decide +kernel
theorem dX9_init_80 : decode cX9_init 80 = .ok (.putfield 55, 3) := by decide +kernel
theorem dX9_init_83 : decode cX9_init 83 = .ok (.return_, 1) := by decide +kernel
set_option maxHeartbeats 4000000 in
set_option maxRecDepth 100000 in
theorem kn_X9_init (l : Launch) (G : gw_) (A_t : Nat) : kq_ l G yX9_init cX9_init 1 3 63 31 1023 [ob_ A_t 9 [.null, .null, .null, .null, .null, .null, .null, .int 0]] [.ref A_t] (fun ws => ∃ q1 q2 q3 q4 q5 q6 q7 q8 q9 q10 q11 q12 q14 q15 q16 q18 q19 q20 q21 q22 q23 q24 q26 q27 q28 q29 q31 q32 q33 q35 q36 : Nat, ws = [ob_ A_t 9 [.ref q1, .ref q14, .ref q15, .ref q18, .ref q26, .ref q31, .ref q35, .int 0], ob_ q1 5 [.ref q2, .ref q4, .ref q10], ob_ q2 2 [.ref q3], ia_ G q3 144 (fun _ => 0), ob_ q4 0 [.int 0, .int 0, .ref q5, .ref q6, .ref q7, .ref q8, .ref q9], ia_ G q5 6 (fun _ => 0), ia_ G q6 6 (fun _ => 0), ia_ G q7 6 (fun _ => 0), ia_ G q8 6 nf6_, ia_ G q9 6 nf6_, ob_ q10 6 [.int 0, .ref q11, .ref q12], ia_ G q11 8 (fun _ => 0), ia_ G q12 8 (fun _ => 0), qa_ G q14 2 (fun _ => none), ob_ q15 4 [.int 0, .ref q16], ia_ G q16 60 (fun _ => 0), ob_ q18 1 [.ref q19, .int 0, .int (-6), .int (-6), .int 0, .int 0], ob_ q19 0 [.int 0, .int 0, .ref q20, .ref q21, .ref q22, .ref q23, .ref q24], ia_ G q20 6 (fun _ => 0), ia_ G q21 6 (fun _ => 0), ia_ G q22 6 (fun _ => 0), ia_ G q23 6 nf6_, ia_ G q24 6 nf6_, ob_ q26 8 [.ref q27, .ref q28, .ref q29], ia_ G q27 144 (fun _ => 0), ia_ G q28 144 (fun _ => 0), ia_ G q29 12 (fun _ => 0), ob_ q31 7 [.int 0, .int (-6), .ref q32, .ref q33], ia_ G q32 6 (fun _ => 0), ia_ G q33 384 (fun _ => 0), ob_ q35 3 [.ref q36, .int 0, .int 0], ia_ G q36 12 (fun _ => 0)]) := by
  intro sz
  refine metq_intro (by decide) (Nat.le_of_ble_eq_true rfl) ?_
  intro p e s m args below meth c ls hsz hC hAO hr hlk hnm hl hw
  have hx := hC.1
  have hb := hC.2.1
  have hl : lv_has ls 1 [(0, .ref A_t)] := hl
  refine lv_aload_n hx hb dX9_init_0 rfl (lv_at hl 0 rfl) ?_
  refine g_objInit hC hl.1 (tb1 21 rfl rfl) (tb1 22 rfl rfl) (tb1 23 rfl rfl) dX9_init_1 (by decide) (by decide) ?_
  refine lv_aload_n hx hb dX9_init_4 rfl (lv_at hl 0 rfl) ?_
  refine g_newo (ci := 5) (fs := [.null, .null, .null]) hC hw (tb1 24 rfl rfl) (tb1 25 rfl rfl) (tb1 2 rfl rfl) rfl tyX5 tyX5_ok (fun j hj => match j, hj with | 0, _ => rfl | 1, _ => rfl | 2, _ => rfl | k + 3, hj => absurd hj (by omega)) (Nat.le_of_ble_eq_true rfl) (Nat.le_of_ble_eq_true rfl) dX9_init_5 (fun q1 H hw => ?_)
  have hw : wd_ G (va_A [ob_ A_t 9 [.null, .null, .null, .null, .null, .null, .null, .int 0]] sz) s.heap [ob_ A_t 9 [.null, .null, .null, .null, .null, .null, .null, .int 0], ob_ q1 5 [.null, .null, .null]] H _ := hw
  refine lv_dup hx hb dX9_init_8 rfl ?_
  refine g_cI (wr := [ob_ A_t 9 [.null, .null, .null, .null, .null, .null, .null, .int 0]]) hC hw miX9_11 (kn_X5_init l G q1) [1] [0] rfl (by decide) rfl (by decide) (by decide) rfl hl.1 rfl (Nat.le_of_ble_eq_true rfl) ⟨Nat.le_of_ble_eq_true rfl, Nat.le_of_ble_eq_true rfl⟩ ⟨Nat.le_of_ble_eq_true rfl, Nat.le_of_ble_eq_true rfl⟩ dX9_init_9 (fun ws1 H locs hp hw => ?_)
  obtain ⟨q2, q3, q4, q5, q6, q7, q8, q9, q10, q11, q12, rfl⟩ := hp
  have hw : wd_ G (va_A [ob_ A_t 9 [.null, .null, .null, .null, .null, .null, .null, .int 0]] sz) s.heap [ob_ A_t 9 [.null, .null, .null, .null, .null, .null, .null, .int 0], ob_ q1 5 [.ref q2, .ref q4, .ref q10], ob_ q2 2 [.ref q3], ia_ G q3 144 (fun _ => 0), ob_ q4 0 [.int 0, .int 0, .ref q5, .ref q6, .ref q7, .ref q8, .ref q9], ia_ G q5 6 (fun _ => 0), ia_ G q6 6 (fun _ => 0), ia_ G q7 6 (fun _ => 0), ia_ G q8 6 nf6_, ia_ G q9 6 nf6_, ob_ q10 6 [.int 0, .ref q11, .ref q12], ia_ G q11 8 (fun _ => 0), ia_ G q12 8 (fun _ => 0)] H _ := hw
  refine g_putF hC hw hnm ffX9_12 0 rfl rfl rfl (Nat.le_of_ble_eq_true rfl) dX9_init_12 (fun H locs hw => ?_)
  have hw : wd_ G (va_A [ob_ A_t 9 [.null, .null, .null, .null, .null, .null, .null, .int 0]] sz) s.heap [ob_ A_t 9 [.ref q1, .null, .null, .null, .null, .null, .null, .int 0], ob_ q1 5 [.ref q2, .ref q4, .ref q10], ob_ q2 2 [.ref q3], ia_ G q3 144 (fun _ => 0), ob_ q4 0 [.int 0, .int 0, .ref q5, .ref q6, .ref q7, .ref q8, .ref q9], ia_ G q5 6 (fun _ => 0), ia_ G q6 6 (fun _ => 0), ia_ G q7 6 (fun _ => 0), ia_ G q8 6 nf6_, ia_ G q9 6 nf6_, ob_ q10 6 [.int 0, .ref q11, .ref q12], ia_ G q11 8 (fun _ => 0), ia_ G q12 8 (fun _ => 0)] H _ := hw
  refine lv_aload_n hx hb dX9_init_15 rfl (lv_at hl 0 rfl) ?_
  refine lv_iconst (v := 2) hx hb dX9_init_16 (by decide) ?_
  refine g_newq hC hw (tb1 24 rfl rfl) hAO (by decide) rfl (by decide) (Nat.le_of_ble_eq_true rfl) (Nat.le_of_ble_eq_true rfl) dX9_init_17 (fun q14 H hw => ?_)
  have hw : wd_ G (va_A [ob_ A_t 9 [.null, .null, .null, .null, .null, .null, .null, .int 0]] sz) s.heap [ob_ A_t 9 [.ref q1, .null, .null, .null, .null, .null, .null, .int 0], ob_ q1 5 [.ref q2, .ref q4, .ref q10], ob_ q2 2 [.ref q3], ia_ G q3 144 (fun _ => 0), ob_ q4 0 [.int 0, .int 0, .ref q5, .ref q6, .ref q7, .ref q8, .ref q9], ia_ G q5 6 (fun _ => 0), ia_ G q6 6 (fun _ => 0), ia_ G q7 6 (fun _ => 0), ia_ G q8 6 nf6_, ia_ G q9 6 nf6_, ob_ q10 6 [.int 0, .ref q11, .ref q12], ia_ G q11 8 (fun _ => 0), ia_ G q12 8 (fun _ => 0), qa_ G q14 2 (fun _ => none)] H _ := hw
  refine g_putF hC hw hnm ffX9_16 0 rfl rfl rfl (Nat.le_of_ble_eq_true rfl) dX9_init_20 (fun H locs hw => ?_)
  have hw : wd_ G (va_A [ob_ A_t 9 [.null, .null, .null, .null, .null, .null, .null, .int 0]] sz) s.heap [ob_ A_t 9 [.ref q1, .ref q14, .null, .null, .null, .null, .null, .int 0], ob_ q1 5 [.ref q2, .ref q4, .ref q10], ob_ q2 2 [.ref q3], ia_ G q3 144 (fun _ => 0), ob_ q4 0 [.int 0, .int 0, .ref q5, .ref q6, .ref q7, .ref q8, .ref q9], ia_ G q5 6 (fun _ => 0), ia_ G q6 6 (fun _ => 0), ia_ G q7 6 (fun _ => 0), ia_ G q8 6 nf6_, ia_ G q9 6 nf6_, ob_ q10 6 [.int 0, .ref q11, .ref q12], ia_ G q11 8 (fun _ => 0), ia_ G q12 8 (fun _ => 0), qa_ G q14 2 (fun _ => none)] H _ := hw
  refine lv_aload_n hx hb dX9_init_23 rfl (lv_at hl 0 rfl) ?_
  refine g_newo (ci := 4) (fs := [.int 0, .null]) hC hw (tb1 113 rfl rfl) (tb1 114 rfl rfl) (tb1 7 rfl rfl) rfl tyX4 tyX4_ok (fun j hj => match j, hj with | 0, _ => rfl | 1, _ => rfl | k + 2, hj => absurd hj (by omega)) (Nat.le_of_ble_eq_true rfl) (Nat.le_of_ble_eq_true rfl) dX9_init_24 (fun q15 H hw => ?_)
  have hw : wd_ G (va_A [ob_ A_t 9 [.null, .null, .null, .null, .null, .null, .null, .int 0]] sz) s.heap [ob_ A_t 9 [.ref q1, .ref q14, .null, .null, .null, .null, .null, .int 0], ob_ q1 5 [.ref q2, .ref q4, .ref q10], ob_ q2 2 [.ref q3], ia_ G q3 144 (fun _ => 0), ob_ q4 0 [.int 0, .int 0, .ref q5, .ref q6, .ref q7, .ref q8, .ref q9], ia_ G q5 6 (fun _ => 0), ia_ G q6 6 (fun _ => 0), ia_ G q7 6 (fun _ => 0), ia_ G q8 6 nf6_, ia_ G q9 6 nf6_, ob_ q10 6 [.int 0, .ref q11, .ref q12], ia_ G q11 8 (fun _ => 0), ia_ G q12 8 (fun _ => 0), qa_ G q14 2 (fun _ => none), ob_ q15 4 [.int 0, .null]] H _ := hw
  refine lv_dup hx hb dX9_init_27 rfl ?_
  refine g_cI (wr := [ob_ A_t 9 [.ref q1, .ref q14, .null, .null, .null, .null, .null, .int 0], ob_ q1 5 [.ref q2, .ref q4, .ref q10], ob_ q2 2 [.ref q3], ia_ G q3 144 (fun _ => 0), ob_ q4 0 [.int 0, .int 0, .ref q5, .ref q6, .ref q7, .ref q8, .ref q9], ia_ G q5 6 (fun _ => 0), ia_ G q6 6 (fun _ => 0), ia_ G q7 6 (fun _ => 0), ia_ G q8 6 nf6_, ia_ G q9 6 nf6_, ob_ q10 6 [.int 0, .ref q11, .ref q12], ia_ G q11 8 (fun _ => 0), ia_ G q12 8 (fun _ => 0), qa_ G q14 2 (fun _ => none)]) hC hw miX9_22 (kn_X4_init l G q15) [14] [0, 1, 2, 3, 4, 5, 6, 7, 8, 9, 10, 11, 12, 13] rfl (by decide) rfl (by decide) (by decide) rfl hl.1 rfl (Nat.le_of_ble_eq_true rfl) ⟨Nat.le_of_ble_eq_true rfl, Nat.le_of_ble_eq_true rfl⟩ ⟨Nat.le_of_ble_eq_true rfl, Nat.le_of_ble_eq_true rfl⟩ dX9_init_28 (fun ws1 H locs hp hw => ?_)
  obtain ⟨q16, rfl⟩ := hp
  have hw : wd_ G (va_A [ob_ A_t 9 [.null, .null, .null, .null, .null, .null, .null, .int 0]] sz) s.heap [ob_ A_t 9 [.ref q1, .ref q14, .null, .null, .null, .null, .null, .int 0], ob_ q1 5 [.ref q2, .ref q4, .ref q10], ob_ q2 2 [.ref q3], ia_ G q3 144 (fun _ => 0), ob_ q4 0 [.int 0, .int 0, .ref q5, .ref q6, .ref q7, .ref q8, .ref q9], ia_ G q5 6 (fun _ => 0), ia_ G q6 6 (fun _ => 0), ia_ G q7 6 (fun _ => 0), ia_ G q8 6 nf6_, ia_ G q9 6 nf6_, ob_ q10 6 [.int 0, .ref q11, .ref q12], ia_ G q11 8 (fun _ => 0), ia_ G q12 8 (fun _ => 0), qa_ G q14 2 (fun _ => none), ob_ q15 4 [.int 0, .ref q16], ia_ G q16 60 (fun _ => 0)] H _ := hw
  refine g_putF hC hw hnm ffX9_23 0 rfl rfl rfl (Nat.le_of_ble_eq_true rfl) dX9_init_31 (fun H locs hw => ?_)
  have hw : wd_ G (va_A [ob_ A_t 9 [.null, .null, .null, .null, .null, .null, .null, .int 0]] sz) s.heap [ob_ A_t 9 [.ref q1, .ref q14, .ref q15, .null, .null, .null, .null, .int 0], ob_ q1 5 [.ref q2, .ref q4, .ref q10], ob_ q2 2 [.ref q3], ia_ G q3 144 (fun _ => 0), ob_ q4 0 [.int 0, .int 0, .ref q5, .ref q6, .ref q7, .ref q8, .ref q9], ia_ G q5 6 (fun _ => 0), ia_ G q6 6 (fun _ => 0), ia_ G q7 6 (fun _ => 0), ia_ G q8 6 nf6_, ia_ G q9 6 nf6_, ob_ q10 6 [.int 0, .ref q11, .ref q12], ia_ G q11 8 (fun _ => 0), ia_ G q12 8 (fun _ => 0), qa_ G q14 2 (fun _ => none), ob_ q15 4 [.int 0, .ref q16], ia_ G q16 60 (fun _ => 0)] H _ := hw
  refine lv_aload_n hx hb dX9_init_34 rfl (lv_at hl 0 rfl) ?_
  refine g_newo (ci := 1) (fs := [.null, .int 0, .int 0, .int 0, .int 0, .int 0]) hC hw (tb1 128 rfl rfl) (tb1 129 rfl rfl) (tb1 8 rfl rfl) rfl tyX1 tyX1_ok (fun j hj => match j, hj with | 0, _ => rfl | 1, _ => rfl | 2, _ => rfl | 3, _ => rfl | 4, _ => rfl | 5, _ => rfl | k + 6, hj => absurd hj (by omega)) (Nat.le_of_ble_eq_true rfl) (Nat.le_of_ble_eq_true rfl) dX9_init_35 (fun q18 H hw => ?_)
  have hw : wd_ G (va_A [ob_ A_t 9 [.null, .null, .null, .null, .null, .null, .null, .int 0]] sz) s.heap [ob_ A_t 9 [.ref q1, .ref q14, .ref q15, .null, .null, .null, .null, .int 0], ob_ q1 5 [.ref q2, .ref q4, .ref q10], ob_ q2 2 [.ref q3], ia_ G q3 144 (fun _ => 0), ob_ q4 0 [.int 0, .int 0, .ref q5, .ref q6, .ref q7, .ref q8, .ref q9], ia_ G q5 6 (fun _ => 0), ia_ G q6 6 (fun _ => 0), ia_ G q7 6 (fun _ => 0), ia_ G q8 6 nf6_, ia_ G q9 6 nf6_, ob_ q10 6 [.int 0, .ref q11, .ref q12], ia_ G q11 8 (fun _ => 0), ia_ G q12 8 (fun _ => 0), qa_ G q14 2 (fun _ => none), ob_ q15 4 [.int 0, .ref q16], ia_ G q16 60 (fun _ => 0), ob_ q18 1 [.null, .int 0, .int 0, .int 0, .int 0, .int 0]] H _ := hw
  refine lv_dup hx hb dX9_init_38 rfl ?_
  refine g_cI (wr := [ob_ A_t 9 [.ref q1, .ref q14, .ref q15, .null, .null, .null, .null, .int 0], ob_ q1 5 [.ref q2, .ref q4, .ref q10], ob_ q2 2 [.ref q3], ia_ G q3 144 (fun _ => 0), ob_ q4 0 [.int 0, .int 0, .ref q5, .ref q6, .ref q7, .ref q8, .ref q9], ia_ G q5 6 (fun _ => 0), ia_ G q6 6 (fun _ => 0), ia_ G q7 6 (fun _ => 0), ia_ G q8 6 nf6_, ia_ G q9 6 nf6_, ob_ q10 6 [.int 0, .ref q11, .ref q12], ia_ G q11 8 (fun _ => 0), ia_ G q12 8 (fun _ => 0), qa_ G q14 2 (fun _ => none), ob_ q15 4 [.int 0, .ref q16], ia_ G q16 60 (fun _ => 0)]) hC hw miX9_29 (kn_X1_init l G q18) [16] [0, 1, 2, 3, 4, 5, 6, 7, 8, 9, 10, 11, 12, 13, 14, 15] rfl (by decide) rfl (by decide) (by decide) rfl hl.1 rfl (Nat.le_of_ble_eq_true rfl) ⟨Nat.le_of_ble_eq_true rfl, Nat.le_of_ble_eq_true rfl⟩ ⟨Nat.le_of_ble_eq_true rfl, Nat.le_of_ble_eq_true rfl⟩ dX9_init_39 (fun ws1 H locs hp hw => ?_)
  obtain ⟨q19, q20, q21, q22, q23, q24, rfl⟩ := hp
  have hw : wd_ G (va_A [ob_ A_t 9 [.null, .null, .null, .null, .null, .null, .null, .int 0]] sz) s.heap [ob_ A_t 9 [.ref q1, .ref q14, .ref q15, .null, .null, .null, .null, .int 0], ob_ q1 5 [.ref q2, .ref q4, .ref q10], ob_ q2 2 [.ref q3], ia_ G q3 144 (fun _ => 0), ob_ q4 0 [.int 0, .int 0, .ref q5, .ref q6, .ref q7, .ref q8, .ref q9], ia_ G q5 6 (fun _ => 0), ia_ G q6 6 (fun _ => 0), ia_ G q7 6 (fun _ => 0), ia_ G q8 6 nf6_, ia_ G q9 6 nf6_, ob_ q10 6 [.int 0, .ref q11, .ref q12], ia_ G q11 8 (fun _ => 0), ia_ G q12 8 (fun _ => 0), qa_ G q14 2 (fun _ => none), ob_ q15 4 [.int 0, .ref q16], ia_ G q16 60 (fun _ => 0), ob_ q18 1 [.ref q19, .int 0, .int (-6), .int (-6), .int 0, .int 0], ob_ q19 0 [.int 0, .int 0, .ref q20, .ref q21, .ref q22, .ref q23, .ref q24], ia_ G q20 6 (fun _ => 0), ia_ G q21 6 (fun _ => 0), ia_ G q22 6 (fun _ => 0), ia_ G q23 6 nf6_, ia_ G q24 6 nf6_] H _ := hw
  refine g_putF hC hw hnm ffX9_30 0 rfl rfl rfl (Nat.le_of_ble_eq_true rfl) dX9_init_42 (fun H locs hw => ?_)
  have hw : wd_ G (va_A [ob_ A_t 9 [.null, .null, .null, .null, .null, .null, .null, .int 0]] sz) s.heap [ob_ A_t 9 [.ref q1, .ref q14, .ref q15, .ref q18, .null, .null, .null, .int 0], ob_ q1 5 [.ref q2, .ref q4, .ref q10], ob_ q2 2 [.ref q3], ia_ G q3 144 (fun _ => 0), ob_ q4 0 [.int 0, .int 0, .ref q5, .ref q6, .ref q7, .ref q8, .ref q9], ia_ G q5 6 (fun _ => 0), ia_ G q6 6 (fun _ => 0), ia_ G q7 6 (fun _ => 0), ia_ G q8 6 nf6_, ia_ G q9 6 nf6_, ob_ q10 6 [.int 0, .ref q11, .ref q12], ia_ G q11 8 (fun _ => 0), ia_ G q12 8 (fun _ => 0), qa_ G q14 2 (fun _ => none), ob_ q15 4 [.int 0, .ref q16], ia_ G q16 60 (fun _ => 0), ob_ q18 1 [.ref q19, .int 0, .int (-6), .int (-6), .int 0, .int 0], ob_ q19 0 [.int 0, .int 0, .ref q20, .ref q21, .ref q22, .ref q23, .ref q24], ia_ G q20 6 (fun _ => 0), ia_ G q21 6 (fun _ => 0), ia_ G q22 6 (fun _ => 0), ia_ G q23 6 nf6_, ia_ G q24 6 nf6_] H _ := hw
  refine lv_aload_n hx hb dX9_init_45 rfl (lv_at hl 0 rfl) ?_
  refine g_newo (ci := 8) (fs := [.null, .null, .null]) hC hw (tb1 161 rfl rfl) (tb1 162 rfl rfl) (tb1 9 rfl rfl) rfl tyX8 tyX8_ok (fun j hj => match j, hj with | 0, _ => rfl | 1, _ => rfl | 2, _ => rfl | k + 3, hj => absurd hj (by omega)) (Nat.le_of_ble_eq_true rfl) (Nat.le_of_ble_eq_true rfl) dX9_init_46 (fun q26 H hw => ?_)
  have hw : wd_ G (va_A [ob_ A_t 9 [.null, .null, .null, .null, .null, .null, .null, .int 0]] sz) s.heap [ob_ A_t 9 [.ref q1, .ref q14, .ref q15, .ref q18, .null, .null, .null, .int 0], ob_ q1 5 [.ref q2, .ref q4, .ref q10], ob_ q2 2 [.ref q3], ia_ G q3 144 (fun _ => 0), ob_ q4 0 [.int 0, .int 0, .ref q5, .ref q6, .ref q7, .ref q8, .ref q9], ia_ G q5 6 (fun _ => 0), ia_ G q6 6 (fun _ => 0), ia_ G q7 6 (fun _ => 0), ia_ G q8 6 nf6_, ia_ G q9 6 nf6_, ob_ q10 6 [.int 0, .ref q11, .ref q12], ia_ G q11 8 (fun _ => 0), ia_ G q12 8 (fun _ => 0), qa_ G q14 2 (fun _ => none), ob_ q15 4 [.int 0, .ref q16], ia_ G q16 60 (fun _ => 0), ob_ q18 1 [.ref q19, .int 0, .int (-6), .int (-6), .int 0, .int 0], ob_ q19 0 [.int 0, .int 0, .ref q20, .ref q21, .ref q22, .ref q23, .ref q24], ia_ G q20 6 (fun _ => 0), ia_ G q21 6 (fun _ => 0), ia_ G q22 6 (fun _ => 0), ia_ G q23 6 nf6_, ia_ G q24 6 nf6_, ob_ q26 8 [.null, .null, .null]] H _ := hw
  refine lv_dup hx hb dX9_init_49 rfl ?_
  refine g_cI (wr := [ob_ A_t 9 [.ref q1, .ref q14, .ref q15, .ref q18, .null, .null, .null, .int 0], ob_ q1 5 [.ref q2, .ref q4, .ref q10], ob_ q2 2 [.ref q3], ia_ G q3 144 (fun _ => 0), ob_ q4 0 [.int 0, .int 0, .ref q5, .ref q6, .ref q7, .ref q8, .ref q9], ia_ G q5 6 (fun _ => 0), ia_ G q6 6 (fun _ => 0), ia_ G q7 6 (fun _ => 0), ia_ G q8 6 nf6_, ia_ G q9 6 nf6_, ob_ q10 6 [.int 0, .ref q11, .ref q12], ia_ G q11 8 (fun _ => 0), ia_ G q12 8 (fun _ => 0), qa_ G q14 2 (fun _ => none), ob_ q15 4 [.int 0, .ref q16], ia_ G q16 60 (fun _ => 0), ob_ q18 1 [.ref q19, .int 0, .int (-6), .int (-6), .int 0, .int 0], ob_ q19 0 [.int 0, .int 0, .ref q20, .ref q21, .ref q22, .ref q23, .ref q24], ia_ G q20 6 (fun _ => 0), ia_ G q21 6 (fun _ => 0), ia_ G q22 6 (fun _ => 0), ia_ G q23 6 nf6_, ia_ G q24 6 nf6_]) hC hw miX9_36 (kn_X8_init l G q26) [23] [0, 1, 2, 3, 4, 5, 6, 7, 8, 9, 10, 11, 12, 13, 14, 15, 16, 17, 18, 19, 20, 21, 22] rfl (by decide) rfl (by decide) (by decide) rfl hl.1 rfl (Nat.le_of_ble_eq_true rfl) ⟨Nat.le_of_ble_eq_true rfl, Nat.le_of_ble_eq_true rfl⟩ ⟨Nat.le_of_ble_eq_true rfl, Nat.le_of_ble_eq_true rfl⟩ dX9_init_50 (fun ws1 H locs hp hw => ?_)
  obtain ⟨q27, q28, q29, rfl⟩ := hp
  have hw : wd_ G (va_A [ob_ A_t 9 [.null, .null, .null, .null, .null, .null, .null, .int 0]] sz) s.heap [ob_ A_t 9 [.ref q1, .ref q14, .ref q15, .ref q18, .null, .null, .null, .int 0], ob_ q1 5 [.ref q2, .ref q4, .ref q10], ob_ q2 2 [.ref q3], ia_ G q3 144 (fun _ => 0), ob_ q4 0 [.int 0, .int 0, .ref q5, .ref q6, .ref q7, .ref q8, .ref q9], ia_ G q5 6 (fun _ => 0), ia_ G q6 6 (fun _ => 0), ia_ G q7 6 (fun _ => 0), ia_ G q8 6 nf6_, ia_ G q9 6 nf6_, ob_ q10 6 [.int 0, .ref q11, .ref q12], ia_ G q11 8 (fun _ => 0), ia_ G q12 8 (fun _ => 0), qa_ G q14 2 (fun _ => none), ob_ q15 4 [.int 0, .ref q16], ia_ G q16 60 (fun _ => 0), ob_ q18 1 [.ref q19, .int 0, .int (-6), .int (-6), .int 0, .int 0], ob_ q19 0 [.int 0, .int 0, .ref q20, .ref q21, .ref q22, .ref q23, .ref q24], ia_ G q20 6 (fun _ => 0), ia_ G q21 6 (fun _ => 0), ia_ G q22 6 (fun _ => 0), ia_ G q23 6 nf6_, ia_ G q24 6 nf6_, ob_ q26 8 [.ref q27, .ref q28, .ref q29], ia_ G q27 144 (fun _ => 0), ia_ G q28 144 (fun _ => 0), ia_ G q29 12 (fun _ => 0)] H _ := hw
  refine g_putF hC hw hnm ffX9_37 0 rfl rfl rfl (Nat.le_of_ble_eq_true rfl) dX9_init_53 (fun H locs hw => ?_)
  have hw : wd_ G (va_A [ob_ A_t 9 [.null, .null, .null, .null, .null, .null, .null, .int 0]] sz) s.heap [ob_ A_t 9 [.ref q1, .ref q14, .ref q15, .ref q18, .ref q26, .null, .null, .int 0], ob_ q1 5 [.ref q2, .ref q4, .ref q10], ob_ q2 2 [.ref q3], ia_ G q3 144 (fun _ => 0), ob_ q4 0 [.int 0, .int 0, .ref q5, .ref q6, .ref q7, .ref q8, .ref q9], ia_ G q5 6 (fun _ => 0), ia_ G q6 6 (fun _ => 0), ia_ G q7 6 (fun _ => 0), ia_ G q8 6 nf6_, ia_ G q9 6 nf6_, ob_ q10 6 [.int 0, .ref q11, .ref q12], ia_ G q11 8 (fun _ => 0), ia_ G q12 8 (fun _ => 0), qa_ G q14 2 (fun _ => none), ob_ q15 4 [.int 0, .ref q16], ia_ G q16 60 (fun _ => 0), ob_ q18 1 [.ref q19, .int 0, .int (-6), .int (-6), .int 0, .int 0], ob_ q19 0 [.int 0, .int 0, .ref q20, .ref q21, .ref q22, .ref q23, .ref q24], ia_ G q20 6 (fun _ => 0), ia_ G q21 6 (fun _ => 0), ia_ G q22 6 (fun _ => 0), ia_ G q23 6 nf6_, ia_ G q24 6 nf6_, ob_ q26 8 [.ref q27, .ref q28, .ref q29], ia_ G q27 144 (fun _ => 0), ia_ G q28 144 (fun _ => 0), ia_ G q29 12 (fun _ => 0)] H _ := hw
  refine lv_aload_n hx hb dX9_init_56 rfl (lv_at hl 0 rfl) ?_
  refine g_newo (ci := 7) (fs := [.int 0, .int 0, .null, .null]) hC hw (tb1 177 rfl rfl) (tb1 178 rfl rfl) (tb1 10 rfl rfl) rfl tyX7 tyX7_ok (fun j hj => match j, hj with | 0, _ => rfl | 1, _ => rfl | 2, _ => rfl | 3, _ => rfl | k + 4, hj => absurd hj (by omega)) (Nat.le_of_ble_eq_true rfl) (Nat.le_of_ble_eq_true rfl) dX9_init_57 (fun q31 H hw => ?_)
  have hw : wd_ G (va_A [ob_ A_t 9 [.null, .null, .null, .null, .null, .null, .null, .int 0]] sz) s.heap [ob_ A_t 9 [.ref q1, .ref q14, .ref q15, .ref q18, .ref q26, .null, .null, .int 0], ob_ q1 5 [.ref q2, .ref q4, .ref q10], ob_ q2 2 [.ref q3], ia_ G q3 144 (fun _ => 0), ob_ q4 0 [.int 0, .int 0, .ref q5, .ref q6, .ref q7, .ref q8, .ref q9], ia_ G q5 6 (fun _ => 0), ia_ G q6 6 (fun _ => 0), ia_ G q7 6 (fun _ => 0), ia_ G q8 6 nf6_, ia_ G q9 6 nf6_, ob_ q10 6 [.int 0, .ref q11, .ref q12], ia_ G q11 8 (fun _ => 0), ia_ G q12 8 (fun _ => 0), qa_ G q14 2 (fun _ => none), ob_ q15 4 [.int 0, .ref q16], ia_ G q16 60 (fun _ => 0), ob_ q18 1 [.ref q19, .int 0, .int (-6), .int (-6), .int 0, .int 0], ob_ q19 0 [.int 0, .int 0, .ref q20, .ref q21, .ref q22, .ref q23, .ref q24], ia_ G q20 6 (fun _ => 0), ia_ G q21 6 (fun _ => 0), ia_ G q22 6 (fun _ => 0), ia_ G q23 6 nf6_, ia_ G q24 6 nf6_, ob_ q26 8 [.ref q27, .ref q28, .ref q29], ia_ G q27 144 (fun _ => 0), ia_ G q28 144 (fun _ => 0), ia_ G q29 12 (fun _ => 0), ob_ q31 7 [.int 0, .int 0, .null, .null]] H _ := hw
  refine lv_dup hx hb dX9_init_60 rfl ?_
  refine g_cI (wr := [ob_ A_t 9 [.ref q1, .ref q14, .ref q15, .ref q18, .ref q26, .null, .null, .int 0], ob_ q1 5 [.ref q2, .ref q4, .ref q10], ob_ q2 2 [.ref q3], ia_ G q3 144 (fun _ => 0), ob_ q4 0 [.int 0, .int 0, .ref q5, .ref q6, .ref q7, .ref q8, .ref q9], ia_ G q5 6 (fun _ => 0), ia_ G q6 6 (fun _ => 0), ia_ G q7 6 (fun _ => 0), ia_ G q8 6 nf6_, ia_ G q9 6 nf6_, ob_ q10 6 [.int 0, .ref q11, .ref q12], ia_ G q11 8 (fun _ => 0), ia_ G q12 8 (fun _ => 0), qa_ G q14 2 (fun _ => none), ob_ q15 4 [.int 0, .ref q16], ia_ G q16 60 (fun _ => 0), ob_ q18 1 [.ref q19, .int 0, .int (-6), .int (-6), .int 0, .int 0], ob_ q19 0 [.int 0, .int 0, .ref q20, .ref q21, .ref q22, .ref q23, .ref q24], ia_ G q20 6 (fun _ => 0), ia_ G q21 6 (fun _ => 0), ia_ G q22 6 (fun _ => 0), ia_ G q23 6 nf6_, ia_ G q24 6 nf6_, ob_ q26 8 [.ref q27, .ref q28, .ref q29], ia_ G q27 144 (fun _ => 0), ia_ G q28 144 (fun _ => 0), ia_ G q29 12 (fun _ => 0)]) hC hw miX9_43 (kn_X7_init l G q31) [27] [0, 1, 2, 3, 4, 5, 6, 7, 8, 9, 10, 11, 12, 13, 14, 15, 16, 17, 18, 19, 20, 21, 22, 23, 24, 25, 26] rfl (by decide) rfl (by decide) (by decide) rfl hl.1 rfl (Nat.le_of_ble_eq_true rfl) ⟨Nat.le_of_ble_eq_true rfl, Nat.le_of_ble_eq_true rfl⟩ ⟨Nat.le_of_ble_eq_true rfl, Nat.le_of_ble_eq_true rfl⟩ dX9_init_61 (fun ws1 H locs hp hw => ?_)
  obtain ⟨q32, q33, rfl⟩ := hp
  have hw : wd_ G (va_A [ob_ A_t 9 [.null, .null, .null, .null, .null, .null, .null, .int 0]] sz) s.heap [ob_ A_t 9 [.ref q1, .ref q14, .ref q15, .ref q18, .ref q26, .null, .null, .int 0], ob_ q1 5 [.ref q2, .ref q4, .ref q10], ob_ q2 2 [.ref q3], ia_ G q3 144 (fun _ => 0), ob_ q4 0 [.int 0, .int 0, .ref q5, .ref q6, .ref q7, .ref q8, .ref q9], ia_ G q5 6 (fun _ => 0), ia_ G q6 6 (fun _ => 0), ia_ G q7 6 (fun _ => 0), ia_ G q8 6 nf6_, ia_ G q9 6 nf6_, ob_ q10 6 [.int 0, .ref q11, .ref q12], ia_ G q11 8 (fun _ => 0), ia_ G q12 8 (fun _ => 0), qa_ G q14 2 (fun _ => none), ob_ q15 4 [.int 0, .ref q16], ia_ G q16 60 (fun _ => 0), ob_ q18 1 [.ref q19, .int 0, .int (-6), .int (-6), .int 0, .int 0], ob_ q19 0 [.int 0, .int 0, .ref q20, .ref q21, .ref q22, .ref q23, .ref q24], ia_ G q20 6 (fun _ => 0), ia_ G q21 6 (fun _ => 0), ia_ G q22 6 (fun _ => 0), ia_ G q23 6 nf6_, ia_ G q24 6 nf6_, ob_ q26 8 [.ref q27, .ref q28, .ref q29], ia_ G q27 144 (fun _ => 0), ia_ G q28 144 (fun _ => 0), ia_ G q29 12 (fun _ => 0), ob_ q31 7 [.int 0, .int (-6), .ref q32, .ref q33], ia_ G q32 6 (fun _ => 0), ia_ G q33 384 (fun _ => 0)] H _ := hw
  refine g_putF hC hw hnm ffX9_44 0 rfl rfl rfl (Nat.le_of_ble_eq_true rfl) dX9_init_64 (fun H locs hw => ?_)
  have hw : wd_ G (va_A [ob_ A_t 9 [.null, .null, .null, .null, .null, .null, .null, .int 0]] sz) s.heap [ob_ A_t 9 [.ref q1, .ref q14, .ref q15, .ref q18, .ref q26, .ref q31, .null, .int 0], ob_ q1 5 [.ref q2, .ref q4, .ref q10], ob_ q2 2 [.ref q3], ia_ G q3 144 (fun _ => 0), ob_ q4 0 [.int 0, .int 0, .ref q5, .ref q6, .ref q7, .ref q8, .ref q9], ia_ G q5 6 (fun _ => 0), ia_ G q6 6 (fun _ => 0), ia_ G q7 6 (fun _ => 0), ia_ G q8 6 nf6_, ia_ G q9 6 nf6_, ob_ q10 6 [.int 0, .ref q11, .ref q12], ia_ G q11 8 (fun _ => 0), ia_ G q12 8 (fun _ => 0), qa_ G q14 2 (fun _ => none), ob_ q15 4 [.int 0, .ref q16], ia_ G q16 60 (fun _ => 0), ob_ q18 1 [.ref q19, .int 0, .int (-6), .int (-6), .int 0, .int 0], ob_ q19 0 [.int 0, .int 0, .ref q20, .ref q21, .ref q22, .ref q23, .ref q24], ia_ G q20 6 (fun _ => 0), ia_ G q21 6 (fun _ => 0), ia_ G q22 6 (fun _ => 0), ia_ G q23 6 nf6_, ia_ G q24 6 nf6_, ob_ q26 8 [.ref q27, .ref q28, .ref q29], ia_ G q27 144 (fun _ => 0), ia_ G q28 144 (fun _ => 0), ia_ G q29 12 (fun _ => 0), ob_ q31 7 [.int 0, .int (-6), .ref q32, .ref q33], ia_ G q32 6 (fun _ => 0), ia_ G q33 384 (fun _ => 0)] H _ := hw
  refine lv_aload_n hx hb dX9_init_67 rfl (lv_at hl 0 rfl) ?_
  refine g_newo (ci := 3) (fs := [.null, .int 0, .int 0]) hC hw (tb1 198 rfl rfl) (tb1 199 rfl rfl) (tb1 11 rfl rfl) rfl tyX3 tyX3_ok (fun j hj => match j, hj with | 0, _ => rfl | 1, _ => rfl | 2, _ => rfl | k + 3, hj => absurd hj (by omega)) (Nat.le_of_ble_eq_true rfl) (Nat.le_of_ble_eq_true rfl) dX9_init_68 (fun q35 H hw => ?_)
  have hw : wd_ G (va_A [ob_ A_t 9 [.null, .null, .null, .null, .null, .null, .null, .int 0]] sz) s.heap [ob_ A_t 9 [.ref q1, .ref q14, .ref q15, .ref q18, .ref q26, .ref q31, .null, .int 0], ob_ q1 5 [.ref q2, .ref q4, .ref q10], ob_ q2 2 [.ref q3], ia_ G q3 144 (fun _ => 0), ob_ q4 0 [.int 0, .int 0, .ref q5, .ref q6, .ref q7, .ref q8, .ref q9], ia_ G q5 6 (fun _ => 0), ia_ G q6 6 (fun _ => 0), ia_ G q7 6 (fun _ => 0), ia_ G q8 6 nf6_, ia_ G q9 6 nf6_, ob_ q10 6 [.int 0, .ref q11, .ref q12], ia_ G q11 8 (fun _ => 0), ia_ G q12 8 (fun _ => 0), qa_ G q14 2 (fun _ => none), ob_ q15 4 [.int 0, .ref q16], ia_ G q16 60 (fun _ => 0), ob_ q18 1 [.ref q19, .int 0, .int (-6), .int (-6), .int 0, .int 0], ob_ q19 0 [.int 0, .int 0, .ref q20, .ref q21, .ref q22, .ref q23, .ref q24], ia_ G q20 6 (fun _ => 0), ia_ G q21 6 (fun _ => 0), ia_ G q22 6 (fun _ => 0), ia_ G q23 6 nf6_, ia_ G q24 6 nf6_, ob_ q26 8 [.ref q27, .ref q28, .ref q29], ia_ G q27 144 (fun _ => 0), ia_ G q28 144 (fun _ => 0), ia_ G q29 12 (fun _ => 0), ob_ q31 7 [.int 0, .int (-6), .ref q32, .ref q33], ia_ G q32 6 (fun _ => 0), ia_ G q33 384 (fun _ => 0), ob_ q35 3 [.null, .int 0, .int 0]] H _ := hw
  refine lv_dup hx hb dX9_init_71 rfl ?_
  refine g_cI (wr := [ob_ A_t 9 [.ref q1, .ref q14, .ref q15, .ref q18, .ref q26, .ref q31, .null, .int 0], ob_ q1 5 [.ref q2, .ref q4, .ref q10], ob_ q2 2 [.ref q3], ia_ G q3 144 (fun _ => 0), ob_ q4 0 [.int 0, .int 0, .ref q5, .ref q6, .ref q7, .ref q8, .ref q9], ia_ G q5 6 (fun _ => 0), ia_ G q6 6 (fun _ => 0), ia_ G q7 6 (fun _ => 0), ia_ G q8 6 nf6_, ia_ G q9 6 nf6_, ob_ q10 6 [.int 0, .ref q11, .ref q12], ia_ G q11 8 (fun _ => 0), ia_ G q12 8 (fun _ => 0), qa_ G q14 2 (fun _ => none), ob_ q15 4 [.int 0, .ref q16], ia_ G q16 60 (fun _ => 0), ob_ q18 1 [.ref q19, .int 0, .int (-6), .int (-6), .int 0, .int 0], ob_ q19 0 [.int 0, .int 0, .ref q20, .ref q21, .ref q22, .ref q23, .ref q24], ia_ G q20 6 (fun _ => 0), ia_ G q21 6 (fun _ => 0), ia_ G q22 6 (fun _ => 0), ia_ G q23 6 nf6_, ia_ G q24 6 nf6_, ob_ q26 8 [.ref q27, .ref q28, .ref q29], ia_ G q27 144 (fun _ => 0), ia_ G q28 144 (fun _ => 0), ia_ G q29 12 (fun _ => 0), ob_ q31 7 [.int 0, .int (-6), .ref q32, .ref q33], ia_ G q32 6 (fun _ => 0), ia_ G q33 384 (fun _ => 0)]) hC hw miX9_50 (kn_X3_init l G q35) [30] [0, 1, 2, 3, 4, 5, 6, 7, 8, 9, 10, 11, 12, 13, 14, 15, 16, 17, 18, 19, 20, 21, 22, 23, 24, 25, 26, 27, 28, 29] rfl (by decide) rfl (by decide) (by decide) rfl hl.1 rfl (Nat.le_of_ble_eq_true rfl) ⟨Nat.le_of_ble_eq_true rfl, Nat.le_of_ble_eq_true rfl⟩ ⟨Nat.le_of_ble_eq_true rfl, Nat.le_of_ble_eq_true rfl⟩ dX9_init_72 (fun ws1 H locs hp hw => ?_)
  obtain ⟨q36, rfl⟩ := hp
  have hw : wd_ G (va_A [ob_ A_t 9 [.null, .null, .null, .null, .null, .null, .null, .int 0]] sz) s.heap [ob_ A_t 9 [.ref q1, .ref q14, .ref q15, .ref q18, .ref q26, .ref q31, .null, .int 0], ob_ q1 5 [.ref q2, .ref q4, .ref q10], ob_ q2 2 [.ref q3], ia_ G q3 144 (fun _ => 0), ob_ q4 0 [.int 0, .int 0, .ref q5, .ref q6, .ref q7, .ref q8, .ref q9], ia_ G q5 6 (fun _ => 0), ia_ G q6 6 (fun _ => 0), ia_ G q7 6 (fun _ => 0), ia_ G q8 6 nf6_, ia_ G q9 6 nf6_, ob_ q10 6 [.int 0, .ref q11, .ref q12], ia_ G q11 8 (fun _ => 0), ia_ G q12 8 (fun _ => 0), qa_ G q14 2 (fun _ => none), ob_ q15 4 [.int 0, .ref q16], ia_ G q16 60 (fun _ => 0), ob_ q18 1 [.ref q19, .int 0, .int (-6), .int (-6), .int 0, .int 0], ob_ q19 0 [.int 0, .int 0, .ref q20, .ref q21, .ref q22, .ref q23, .ref q24], ia_ G q20 6 (fun _ => 0), ia_ G q21 6 (fun _ => 0), ia_ G q22 6 (fun _ => 0), ia_ G q23 6 nf6_, ia_ G q24 6 nf6_, ob_ q26 8 [.ref q27, .ref q28, .ref q29], ia_ G q27 144 (fun _ => 0), ia_ G q28 144 (fun _ => 0), ia_ G q29 12 (fun _ => 0), ob_ q31 7 [.int 0, .int (-6), .ref q32, .ref q33], ia_ G q32 6 (fun _ => 0), ia_ G q33 384 (fun _ => 0), ob_ q35 3 [.ref q36, .int 0, .int 0], ia_ G q36 12 (fun _ => 0)] H _ := hw
  refine g_putF hC hw hnm ffX9_51 0 rfl rfl rfl (Nat.le_of_ble_eq_true rfl) dX9_init_75 (fun H locs hw => ?_)
  have hw : wd_ G (va_A [ob_ A_t 9 [.null, .null, .null, .null, .null, .null, .null, .int 0]] sz) s.heap [ob_ A_t 9 [.ref q1, .ref q14, .ref q15, .ref q18, .ref q26, .ref q31, .ref q35, .int 0], ob_ q1 5 [.ref q2, .ref q4, .ref q10], ob_ q2 2 [.ref q3], ia_ G q3 144 (fun _ => 0), ob_ q4 0 [.int 0, .int 0, .ref q5, .ref q6, .ref q7, .ref q8, .ref q9], ia_ G q5 6 (fun _ => 0), ia_ G q6 6 (fun _ => 0), ia_ G q7 6 (fun _ => 0), ia_ G q8 6 nf6_, ia_ G q9 6 nf6_, ob_ q10 6 [.int 0, .ref q11, .ref q12], ia_ G q11 8 (fun _ => 0), ia_ G q12 8 (fun _ => 0), qa_ G q14 2 (fun _ => none), ob_ q15 4 [.int 0, .ref q16], ia_ G q16 60 (fun _ => 0), ob_ q18 1 [.ref q19, .int 0, .int (-6), .int (-6), .int 0, .int 0], ob_ q19 0 [.int 0, .int 0, .ref q20, .ref q21, .ref q22, .ref q23, .ref q24], ia_ G q20 6 (fun _ => 0), ia_ G q21 6 (fun _ => 0), ia_ G q22 6 (fun _ => 0), ia_ G q23 6 nf6_, ia_ G q24 6 nf6_, ob_ q26 8 [.ref q27, .ref q28, .ref q29], ia_ G q27 144 (fun _ => 0), ia_ G q28 144 (fun _ => 0), ia_ G q29 12 (fun _ => 0), ob_ q31 7 [.int 0, .int (-6), .ref q32, .ref q33], ia_ G q32 6 (fun _ => 0), ia_ G q33 384 (fun _ => 0), ob_ q35 3 [.ref q36, .int 0, .int 0], ia_ G q36 12 (fun _ => 0)] H _ := hw
  refine lv_aload_n hx hb dX9_init_78 rfl (lv_at hl 0 rfl) ?_
  refine lv_iconst (v := 0) hx hb dX9_init_79 (by decide) ?_
  refine g_put hC hw fpX9_55 0 rfl rfl rfl (Nat.le_of_ble_eq_true rfl) dX9_init_80 (fun H locs hw => ?_)
  have hw : wd_ G (va_A [ob_ A_t 9 [.null, .null, .null, .null, .null, .null, .null, .int 0]] sz) s.heap [ob_ A_t 9 [.ref q1, .ref q14, .ref q15, .ref q18, .ref q26, .ref q31, .ref q35, .int 0], ob_ q1 5 [.ref q2, .ref q4, .ref q10], ob_ q2 2 [.ref q3], ia_ G q3 144 (fun _ => 0), ob_ q4 0 [.int 0, .int 0, .ref q5, .ref q6, .ref q7, .ref q8, .ref q9], ia_ G q5 6 (fun _ => 0), ia_ G q6 6 (fun _ => 0), ia_ G q7 6 (fun _ => 0), ia_ G q8 6 nf6_, ia_ G q9 6 nf6_, ob_ q10 6 [.int 0, .ref q11, .ref q12], ia_ G q11 8 (fun _ => 0), ia_ G q12 8 (fun _ => 0), qa_ G q14 2 (fun _ => none), ob_ q15 4 [.int 0, .ref q16], ia_ G q16 60 (fun _ => 0), ob_ q18 1 [.ref q19, .int 0, .int (-6), .int (-6), .int 0, .int 0], ob_ q19 0 [.int 0, .int 0, .ref q20, .ref q21, .ref q22, .ref q23, .ref q24], ia_ G q20 6 (fun _ => 0), ia_ G q21 6 (fun _ => 0), ia_ G q22 6 (fun _ => 0), ia_ G q23 6 nf6_, ia_ G q24 6 nf6_, ob_ q26 8 [.ref q27, .ref q28, .ref q29], ia_ G q27 144 (fun _ => 0), ia_ G q28 144 (fun _ => 0), ia_ G q29 12 (fun _ => 0), ob_ q31 7 [.int 0, .int (-6), .ref q32, .ref q33], ia_ G q32 6 (fun _ => 0), ia_ G q33 384 (fun _ => 0), ob_ q35 3 [.ref q36, .int 0, .int 0], ia_ G q36 12 (fun _ => 0)] H _ := hw
  exact g_kret hC hr hlk hw ⟨q1, q2, q3, q4, q5, q6, q7, q8, q9, q10, q11, q12, q14, q15, q16, q18, q19, q20, q21, q22, q23, q24, q26, q27, q28, q29, q31, q32, q33, q35, q36, rfl⟩ dX9_init_83

theorem dX10_init_0 : decode cX10_init 0 = .ok (.aload_n 0, 1) := by decide +kernel
theorem dX10_init_1 : decode cX10_init 1 = .ok (.invokespecial 1, 3) := by decide +kernel
theorem dX10_init_4 : decode cX10_init 4 = .ok (.aload_n 0, 1) := by decide +kernel
theorem dX10_init_5 : decode cX10_init 5 = .ok (.sipush 144, 3) := by decide +kernel
theorem dX10_init_8 : decode cX10_init 8 = .ok (.newarray .int, 2) := by decide +kernel
theorem dX10_init_10 : decode cX10_init 10 = .ok (.putfield 7, 3) := by decide +kernel
theorem dX10_init_13 : decode cX10_init 13 = .ok (.aload_n 0, 1) := by decide +kernel
theorem dX10_init_14 : decode cX10_init 14 = .ok (.sipush 144, 3) := by decide +kernel
theorem dX10_init_17 : decode cX10_init 17 = .ok (.newarray .int, 2) := by decide +kernel
theorem dX10_init_19 : decode cX10_init 19 = .ok (.putfield 13, 3) := by decide +kernel
theorem dX10_init_22 : decode cX10_init 22 = .ok (.aload_n 0, 1) := by decide +kernel
theorem dX10_init_23 : decode cX10_init 23 = .ok (.bipush 6, 2) := by decide +kernel
theorem dX10_init_25 : decode cX10_init 25 = .ok (.newarray .int, 2) := by decide +kernel
theorem dX10_init_27 : decode cX10_init 27 = .ok (.putfield 16, 3) := by decide +kernel
theorem dX10_init_30 : decode cX10_init 30 = .ok (.aload_n 0, 1) := by decide +kernel
theorem dX10_init_31 : decode cX10_init 31 = .ok (.bipush 6, 2) := by decide +kernel
theorem dX10_init_33 : decode cX10_init 33 = .ok (.newarray .int, 2) := by decide +kernel
theorem dX10_init_35 : decode cX10_init 35 = .ok (.putfield 19, 3) := by decide +kernel
theorem dX10_init_38 : decode cX10_init 38 = .ok (.aload_n 0, 1) := by decide +kernel
theorem dX10_init_39 : decode cX10_init 39 = .ok (.bipush 6, 2) := by decide +kernel
theorem dX10_init_41 : decode cX10_init 41 = .ok (.newarray .int, 2) := by decide +kernel
theorem dX10_init_43 : decode cX10_init 43 = .ok (.putfield 22, 3) := by decide +kernel
theorem dX10_init_46 : decode cX10_init 46 = .ok (.aload_n 0, 1) := by decide +kernel
theorem dX10_init_47 : decode cX10_init 47 = .ok (.bipush 6, 2) := by decide +kernel
theorem dX10_init_49 : decode cX10_init 49 = .ok (.newarray .int, 2) := by decide +kernel
theorem dX10_init_51 : decode cX10_init 51 = .ok (.putfield 25, 3) := by decide +kernel
theorem dX10_init_54 : decode cX10_init 54 = .ok (.aload_n 0, 1) := by decide +kernel
theorem dX10_init_55 : decode cX10_init 55 = .ok (.bipush 8, 2) := by decide +kernel
theorem dX10_init_57 : decode cX10_init 57 = .ok (.newarray .int, 2) := by decide +kernel
theorem dX10_init_59 : decode cX10_init 59 = .ok (.putfield 28, 3) := by decide +kernel
theorem dX10_init_62 : decode cX10_init 62 = .ok (.aload_n 0, 1) := by decide +kernel
theorem dX10_init_63 : decode cX10_init 63 = .ok (.bipush 8, 2) := by decide +kernel
theorem dX10_init_65 : decode cX10_init 65 = .ok (.newarray .int, 2) := by decide +kernel
theorem dX10_init_67 : decode cX10_init 67 = .ok (.putfield 31, 3) := by decide +kernel
theorem dX10_init_70 : decode cX10_init 70 = .ok (.aload_n 0, 1) := by decide +kernel
theorem dX10_init_71 : decode cX10_init 71 = .ok (.bipush 60, 2) := by decide +kernel
theorem dX10_init_73 : decode cX10_init 73 = .ok (.newarray .int, 2) := by decide +kernel
theorem dX10_init_75 : decode cX10_init 75 = .ok (.putfield 34, 3) := by decide +kernel
theorem dX10_init_78 : decode cX10_init 78 = .ok (.aload_n 0, 1) := by decide +kernel
theorem dX10_init_79 : decode cX10_init 79 = .ok (.bipush 60, 2) := by decide +kernel
theorem dX10_init_81 : decode cX10_init 81 = .ok (.newarray .int, 2) := by decide +kernel
theorem dX10_init_83 : decode cX10_init 83 = .ok (.putfield 37, 3) := by decide +kernel
theorem dX10_init_86 : decode cX10_init 86 = .ok (.aload_n 0, 1) := by decide +kernel
theorem dX10_init_87 : decode cX10_init 87 = .ok (.bipush 60, 2) := by decide +kernel
theorem dX10_init_89 : decode cX10_init 89 = .ok (.newarray .int, 2) := by decide +kernel
theorem dX10_init_91 : decode cX10_init 91 = .ok (.putfield 40, 3) := by decide +kernel
theorem dX10_init_94 : decode cX10_init 94 = .ok (.aload_n 0, 1) := by decide +kernel
theorem dX10_init_95 : decode cX10_init 95 = .ok (.bipush 60, 2) := by decide +kernel
theorem dX10_init_97 : decode cX10_init 97 = .ok (.newarray .int, 2) := by decide +kernel
theorem dX10_init_99 : decode cX10_init 99 = .ok (.putfield 43, 3) := by decide +kernel
theorem dX10_init_102 : decode cX10_init 102 = .ok (.aload_n 0, 1) := by decide +kernel
theorem dX10_init_103 : decode cX10_init 103 = .ok (.bipush 60, 2) := by decide +kernel
theorem dX10_init_105 : decode cX10_init 105 = .ok (.newarray .int, 2) := by decide +kernel
theorem dX10_init_107 : decode cX10_init 107 = .ok (.putfield 46, 3) := by decide +kernel
theorem dX10_init_110 : decode cX10_init 110 = .ok (.aload_n 0, 1) := by decide +kernel
theorem dX10_init_111 : decode cX10_init 111 = .ok (.bipush 25, 2) := by decide +kernel
theorem dX10_init_113 : decode cX10_init 113 = .ok (.newarray .int, 2) := by decide +kernel
theorem dX10_init_115 : decode cX10_init 115 = .ok (.putfield 49, 3) := by decide +kernel
theorem dX10_init_118 : decode cX10_init 118 = .ok (.aload_n 0, 1) := by decide +kernel
theorem dX10_init_119 : decode cX10_init 119 = .ok (.bipush 25, 2) := by decide +kernel
theorem dX10_init_121 : decode cX10_init 121 = .ok (.newarray .int, 2) := by decide +kernel
theorem dX10_init_123 : decode cX10_init 123 = .ok (.putfield 52, 3) := by decide +kernel
theorem dX10_init_126 : decode cX10_init 126 = .ok (.aload_n 0, 1) := by decide +kernel
theorem dX10_init_127 : decode cX10_init 127 = .ok (.sipush 144, 3) := by decide +kernel
theorem dX10_init_130 : decode cX10_init 130 = .ok (.newarray .int, 2) := by decide +kernel
theorem dX10_init_132 : decode cX10_init 132 = .ok (.putfield 55, 3) := by decide +kernel
theorem dX10_init_135 : decode cX10_init 135 = .ok (.aload_n 0, 1) := by decide +kernel
theorem dX10_init_136 : decode cX10_init 136 = .ok (.bipush 6, 2) := by decide +kernel
theorem dX10_init_138 : decode cX10_init 138 = .ok (.newarray .int, 2) := by decide +kernel
theorem dX10_init_140 : decode cX10_init 140 = .ok (.putfield 58, 3) := by decide +kernel
theorem dX10_init_143 : decode cX10_init 143 = .ok (.aload_n 0, 1) := by decide +kernel
theorem dX10_init_144 : decode cX10_init 144 = .ok (.sipush 384, 3) := by decide +kernel
theorem dX10_init_147 : decode cX10_init 147 = .ok (.newarray .int, 2) := by decide +kernel
theorem dX10_init_149 : decode cX10_init 149 = .ok (.putfield 61, 3) := by decide +kernel
theorem dX10_init_152 : decode cX10_init 152 = .ok (.aload_n 0, 1) := by decide +kernel
theorem dX10_init_153 : decode cX10_init 153 = .ok (.bipush 12, 2) := by decide +kernel
theorem dX10_init_155 : decode cX10_init 155 = .ok (.newarray .int, 2) := by decide +kernel
theorem dX10_init_157 : decode cX10_init 157 = .ok (.putfield 64, 3) := by decide +kernel
theorem dX10_init_160 : decode cX10_init 160 = .ok (.aload_n 0, 1) := by decide +kernel
theorem dX10_init_161 : decode cX10_init 161 = .ok (.bipush 12, 2) := by decide +kernel
theorem dX10_init_163 : decode cX10_init 163 = .ok (.newarray .int, 2) := by decide +kernel
theorem dX10_init_165 : decode cX10_init 165 = .ok (.putfield 67, 3) := by decide +kernel
theorem dX10_init_168 : decode cX10_init 168 = .ok (.aload_n 0, 1) := by decide +kernel
theorem dX10_init_169 : decode cX10_init 169 = .ok (.sipush 700, 3) := by decide +kernel
theorem dX10_init_172 : decode cX10_init 172 = .ok (.newarray .int, 2) := by decide +kernel
theorem dX10_init_174 : decode cX10_init 174 = .ok (.putfield 70, 3) := by decide +kernel
theorem dX10_init_177 : decode cX10_init 177 = .ok (.aload_n 0, 1) := by decide +kernel
theorem dX10_init_178 : decode cX10_init 178 = .ok (.iconst 2, 1) := by decide +kernel
theorem dX10_init_179 : decode cX10_init 179 = .ok (.newarray .boolean, 2) := by decide +kernel
theorem dX10_init_181 : decode cX10_init 181 = .ok (.putfield 73, 3) := by decide +kernel
theorem dX10_init_184 : decode cX10_init 184 = .ok (.iconst 0, 1) := by decide +kernel
theorem dX10_init_185 : decode cX10_init 185 = .ok (.istore_n 1, 1) := by decide +kernel
theorem dX10_init_186 : decode cX10_init 186 = .ok (.iload_n 1, 1) := by decide +kernel
theorem dX10_init_187 : decode cX10_init 187 = .ok (.bipush 6, 2) := by decide +kernel
theorem dX10_init_189 : decode cX10_init 189 = .ok (.if_icmp .ge 17, 3) := by decide +kernel
theorem dX10_init_192 : decode cX10_init 192 = .ok (.aload_n 0, 1) := by decide +kernel
theorem dX10_init_193 : decode cX10_init 193 = .ok (.getfield 25, 3) := by decide +kernel
theorem dX10_init_196 : decode cX10_init 196 = .ok (.iload_n 1, 1) := by decide +kernel
theorem dX10_init_197 : decode cX10_init 197 = .ok (.bipush (-6), 2) := by decide +kernel
theorem dX10_init_199 : decode cX10_init 199 = .ok (.iastore, 1) := by decide +kernel
theorem dX10_init_200 : decode cX10_init 200 = .ok (.iinc 1 1, 3) := by decide +kernel
theorem dX10_init_203 : decode cX10_init 203 = .ok (.goto (-17), 3) := by decide +kernel
theorem dX10_init_206 : decode cX10_init 206 = .ok (.return_, 1) := by decide +kernel
set_option maxHeartbeats 4000000 in
set_option maxRecDepth 100000 in
theorem kn_X10_init (l : Launch) (G : gw_) (A_t : Nat) : kn_ l G yX10_init cX10_init 2 1 12 22 1938 [ob_ A_t 10 [.null, .null, .int 0, .int 0, .null, .null, .null, .null, .null, .null, .int 0, .null, .int 0, .null, .null, .null, .null, .int 0, .int 0, .int 0, .null, .null, .int 0, .int 0, .null, .null, .null, .null, .null, .null, .null, .int 0, .int 0]] [.ref A_t] (fun ws => ∃ q1 q2 q3 q4 q5 q6 q7 q8 q9 q10 q11 q12 q13 q14 q15 q16 q17 q18 q19 q20 q21 q22 : Nat, ws = [ob_ A_t 10 [.ref q1, .ref q2, .int 0, .int 0, .ref q3, .ref q4, .ref q5, .ref q6, .ref q7, .ref q8, .int 0, .ref q9, .int 0, .ref q10, .ref q11, .ref q12, .ref q13, .int 0, .int 0, .int 0, .ref q14, .ref q15, .int 0, .int 0, .ref q16, .ref q17, .ref q18, .ref q19, .ref q20, .ref q21, .ref q22, .int 0, .int 0], ia_ G q1 144 (fun _ => 0), ia_ G q2 144 (fun _ => 0), ia_ G q3 6 (fun _ => 0), ia_ G q4 6 (fun _ => 0), ia_ G q5 6 (fun _ => 0), ia_ G q6 6 (upd (upd (upd (upd (upd (upd (fun _ => 0) 0 (-6)) 1 (-6)) 2 (-6)) 3 (-6)) 4 (-6)) 5 (-6)), ia_ G q7 8 (fun _ => 0), ia_ G q8 8 (fun _ => 0), ia_ G q9 60 (fun _ => 0), ia_ G q10 60 (fun _ => 0), ia_ G q11 60 (fun _ => 0), ia_ G q12 60 (fun _ => 0), ia_ G q13 60 (fun _ => 0), ia_ G q14 25 (fun _ => 0), ia_ G q15 25 (fun _ => 0), ia_ G q16 144 (fun _ => 0), ia_ G q17 6 (fun _ => 0), ia_ G q18 384 (fun _ => 0), ia_ G q19 12 (fun _ => 0), ia_ G q20 12 (fun _ => 0), ia_ G q21 700 (fun _ => 0), za_ G q22 2 (fun _ => 0)]) := by
  intro sz
  refine met_intro (by decide) (Nat.le_of_ble_eq_true rfl) ?_
  intro p e s m args below meth c ls hsz hC hr hlk hnm hl hw
  have hx := hC.1
  have hb := hC.2.1
  have hl : lv_has ls 2 [(0, .ref A_t)] := hl
  refine lv_aload_n hx hb dX10_init_0 rfl (lv_at hl 0 rfl) ?_
  refine g_objInit hC hl.1 (tb4 1 rfl rfl) (tb1 22 rfl rfl) (tb1 23 rfl rfl) dX10_init_1 (by decide) (by decide) ?_
  refine lv_aload_n hx hb dX10_init_4 rfl (lv_at hl 0 rfl) ?_
  refine lv_sipush (v := 144) hx hb dX10_init_5 (by decide) ?_
  refine g_newa hC hw (tb1 40 rfl rfl) (by decide) rfl (by decide) (Nat.le_of_ble_eq_true rfl) (Nat.le_of_ble_eq_true rfl) dX10_init_8 (fun q1 H hw => ?_)
  have hw : wd_ G (va_A [ob_ A_t 10 [.null, .null, .int 0, .int 0, .null, .null, .null, .null, .null, .null, .int 0, .null, .int 0, .null, .null, .null, .null, .int 0, .int 0, .int 0, .null, .null, .int 0, .int 0, .null, .null, .null, .null, .null, .null, .null, .int 0, .int 0]] sz) s.heap [ob_ A_t 10 [.null, .null, .int 0, .int 0, .null, .null, .null, .null, .null, .null, .int 0, .null, .int 0, .null, .null, .null, .null, .int 0, .int 0, .int 0, .null, .null, .int 0, .int 0, .null, .null, .null, .null, .null, .null, .null, .int 0, .int 0], ia_ G q1 144 (fun _ => 0)] H _ := hw
  refine g_putF hC hw hnm ffX10_7 0 rfl rfl rfl (Nat.le_of_ble_eq_true rfl) dX10_init_10 (fun H locs hw => ?_)
  have hw : wd_ G (va_A [ob_ A_t 10 [.null, .null, .int 0, .int 0, .null, .null, .null, .null, .null, .null, .int 0, .null, .int 0, .null, .null, .null, .null, .int 0, .int 0, .int 0, .null, .null, .int 0, .int 0, .null, .null, .null, .null, .null, .null, .null, .int 0, .int 0]] sz) s.heap [ob_ A_t 10 [.ref q1, .null, .int 0, .int 0, .null, .null, .null, .null, .null, .null, .int 0, .null, .int 0, .null, .null, .null, .null, .int 0, .int 0, .int 0, .null, .null, .int 0, .int 0, .null, .null, .null, .null, .null, .null, .null, .int 0, .int 0], ia_ G q1 144 (fun _ => 0)] H _ := hw
  refine lv_aload_n hx hb dX10_init_13 rfl (lv_at hl 0 rfl) ?_
  refine lv_sipush (v := 144) hx hb dX10_init_14 (by decide) ?_
  refine g_newa hC hw (tb1 40 rfl rfl) (by decide) rfl (by decide) (Nat.le_of_ble_eq_true rfl) (Nat.le_of_ble_eq_true rfl) dX10_init_17 (fun q2 H hw => ?_)
  have hw : wd_ G (va_A [ob_ A_t 10 [.null, .null, .int 0, .int 0, .null, .null, .null, .null, .null, .null, .int 0, .null, .int 0, .null, .null, .null, .null, .int 0, .int 0, .int 0, .null, .null, .int 0, .int 0, .null, .null, .null, .null, .null, .null, .null, .int 0, .int 0]] sz) s.heap [ob_ A_t 10 [.ref q1, .null, .int 0, .int 0, .null, .null, .null, .null, .null, .null, .int 0, .null, .int 0, .null, .null, .null, .null, .int 0, .int 0, .int 0, .null, .null, .int 0, .int 0, .null, .null, .null, .null, .null, .null, .null, .int 0, .int 0], ia_ G q1 144 (fun _ => 0), ia_ G q2 144 (fun _ => 0)] H _ := hw
  refine g_putF hC hw hnm ffX10_13 0 rfl rfl rfl (Nat.le_of_ble_eq_true rfl) dX10_init_19 (fun H locs hw => ?_)
  have hw : wd_ G (va_A [ob_ A_t 10 [.null, .null, .int 0, .int 0, .null, .null, .null, .null, .null, .null, .int 0, .null, .int 0, .null, .null, .null, .null, .int 0, .int 0, .int 0, .null, .null, .int 0, .int 0, .null, .null, .null, .null, .null, .null, .null, .int 0, .int 0]] sz) s.heap [ob_ A_t 10 [.ref q1, .ref q2, .int 0, .int 0, .null, .null, .null, .null, .null, .null, .int 0, .null, .int 0, .null, .null, .null, .null, .int 0, .int 0, .int 0, .null, .null, .int 0, .int 0, .null, .null, .null, .null, .null, .null, .null, .int 0, .int 0], ia_ G q1 144 (fun _ => 0), ia_ G q2 144 (fun _ => 0)] H _ := hw
  refine lv_aload_n hx hb dX10_init_22 rfl (lv_at hl 0 rfl) ?_
  refine lv_bipush (v := 6) hx hb dX10_init_23 (by decide) ?_
  refine g_newa hC hw (tb1 40 rfl rfl) (by decide) rfl (by decide) (Nat.le_of_ble_eq_true rfl) (Nat.le_of_ble_eq_true rfl) dX10_init_25 (fun q3 H hw => ?_)
  have hw : wd_ G (va_A [ob_ A_t 10 [.null, .null, .int 0, .int 0, .null, .null, .null, .null, .null, .null, .int 0, .null, .int 0, .null, .null, .null, .null, .int 0, .int 0, .int 0, .null, .null, .int 0, .int 0, .null, .null, .null, .null, .null, .null, .null, .int 0, .int 0]] sz) s.heap [ob_ A_t 10 [.ref q1, .ref q2, .int 0, .int 0, .null, .null, .null, .null, .null, .null, .int 0, .null, .int 0, .null, .null, .null, .null, .int 0, .int 0, .int 0, .null, .null, .int 0, .int 0, .null, .null, .null, .null, .null, .null, .null, .int 0, .int 0], ia_ G q1 144 (fun _ => 0), ia_ G q2 144 (fun _ => 0), ia_ G q3 6 (fun _ => 0)] H _ := hw
  refine g_putF hC hw hnm ffX10_16 0 rfl rfl rfl (Nat.le_of_ble_eq_true rfl) dX10_init_27 (fun H locs hw => ?_)
  have hw : wd_ G (va_A [ob_ A_t 10 [.null, .null, .int 0, .int 0, .null, .null, .null, .null, .null, .null, .int 0, .null, .int 0, .null, .null, .null, .null, .int 0, .int 0, .int 0, .null, .null, .int 0, .int 0, .null, .null, .null, .null, .null, .null, .null, .int 0, .int 0]] sz) s.heap [ob_ A_t 10 [.ref q1, .ref q2, .int 0, .int 0, .ref q3, .null, .null, .null, .null, .null, .int 0, .null, .int 0, .null, .null, .null, .null, .int 0, .int 0, .int 0, .null, .null, .int 0, .int 0, .null, .null, .null, .null, .null, .null, .null, .int 0, .int 0], ia_ G q1 144 (fun _ => 0), ia_ G q2 144 (fun _ => 0), ia_ G q3 6 (fun _ => 0)] H _ := hw
  refine lv_aload_n hx hb dX10_init_30 rfl (lv_at hl 0 rfl) ?_
  refine lv_bipush (v := 6) hx hb dX10_init_31 (by decide) ?_
  refine g_newa hC hw (tb1 40 rfl rfl) (by decide) rfl (by decide) (Nat.le_of_ble_eq_true rfl) (Nat.le_of_ble_eq_true rfl) dX10_init_33 (fun q4 H hw => ?_)
  have hw : wd_ G (va_A [ob_ A_t 10 [.null, .null, .int 0, .int 0, .null, .null, .null, .null, .null, .null, .int 0, .null, .int 0, .null, .null, .null, .null, .int 0, .int 0, .int 0, .null, .null, .int 0, .int 0, .null, .null, .null, .null, .null, .null, .null, .int 0, .int 0]] sz) s.heap [ob_ A_t 10 [.ref q1, .ref q2, .int 0, .int 0, .ref q3, .null, .null, .null, .null, .null, .int 0, .null, .int 0, .null, .null, .null, .null, .int 0, .int 0, .int 0, .null, .null, .int 0, .int 0, .null, .null, .null, .null, .null, .null, .null, .int 0, .int 0], ia_ G q1 144 (fun _ => 0), ia_ G q2 144 (fun _ => 0), ia_ G q3 6 (fun _ => 0), ia_ G q4 6 (fun _ => 0)] H _ := hw
  refine g_putF hC hw hnm ffX10_19 0 rfl rfl rfl (Nat.le_of_ble_eq_true rfl) dX10_init_35 (fun H locs hw => ?_)
  have hw : wd_ G (va_A [ob_ A_t 10 [.null, .null, .int 0, .int 0, .null, .null, .null, .null, .null, .null, .int 0, .null, .int 0, .null, .null, .null, .null, .int 0, .int 0, .int 0, .null, .null, .int 0, .int 0, .null, .null, .null, .null, .null, .null, .null, .int 0, .int 0]] sz) s.heap [ob_ A_t 10 [.ref q1, .ref q2, .int 0, .int 0, .ref q3, .ref q4, .null, .null, .null, .null, .int 0, .null, .int 0, .null, .null, .null, .null, .int 0, .int 0, .int 0, .null, .null, .int 0, .int 0, .null, .null, .null, .null, .null, .null, .null, .int 0, .int 0], ia_ G q1 144 (fun _ => 0), ia_ G q2 144 (fun _ => 0), ia_ G q3 6 (fun _ => 0), ia_ G q4 6 (fun _ => 0)] H _ := hw
  refine lv_aload_n hx hb dX10_init_38 rfl (lv_at hl 0 rfl) ?_
  refine lv_bipush (v := 6) hx hb dX10_init_39 (by decide) ?_
  refine g_newa hC hw (tb1 40 rfl rfl) (by decide) rfl (by decide) (Nat.le_of_ble_eq_true rfl) (Nat.le_of_ble_eq_true rfl) dX10_init_41 (fun q5 H hw => ?_)
  have hw : wd_ G (va_A [ob_ A_t 10 [.null, .null, .int 0, .int 0, .null, .null, .null, .null, .null, .null, .int 0, .null, .int 0, .null, .null, .null, .null, .int 0, .int 0, .int 0, .null, .null, .int 0, .int 0, .null, .null, .null, .null, .null, .null, .null, .int 0, .int 0]] sz) s.heap [ob_ A_t 10 [.ref q1, .ref q2, .int 0, .int 0, .ref q3, .ref q4, .null, .null, .null, .null, .int 0, .null, .int 0, .null, .null, .null, .null, .int 0, .int 0, .int 0, .null, .null, .int 0, .int 0, .null, .null, .null, .null, .null, .null, .null, .int 0, .int 0], ia_ G q1 144 (fun _ => 0), ia_ G q2 144 (fun _ => 0), ia_ G q3 6 (fun _ => 0), ia_ G q4 6 (fun _ => 0), ia_ G q5 6 (fun _ => 0)] H _ := hw
  refine g_putF hC hw hnm ffX10_22 0 rfl rfl rfl (Nat.le_of_ble_eq_true rfl) dX10_init_43 (fun H locs hw => ?_)
  have hw : wd_ G (va_A [ob_ A_t 10 [.null, .null, .int 0, .int 0, .null, .null, .null, .null, .null, .null, .int 0, .null, .int 0, .null, .null, .null, .null, .int 0, .int 0, .int 0, .null, .null, .int 0, .int 0, .null, .null, .null, .null, .null, .null, .null, .int 0, .int 0]] sz) s.heap [ob_ A_t 10 [.ref q1, .ref q2, .int 0, .int 0, .ref q3, .ref q4, .ref q5, .null, .null, .null, .int 0, .null, .int 0, .null, .null, .null, .null, .int 0, .int 0, .int 0, .null, .null, .int 0, .int 0, .null, .null, .null, .null, .null, .null, .null, .int 0, .int 0], ia_ G q1 144 (fun _ => 0), ia_ G q2 144 (fun _ => 0), ia_ G q3 6 (fun _ => 0), ia_ G q4 6 (fun _ => 0), ia_ G q5 6 (fun _ => 0)] H _ := hw
  refine lv_aload_n hx hb dX10_init_46 rfl (lv_at hl 0 rfl) ?_
  refine lv_bipush (v := 6) hx hb dX10_init_47 (by decide) ?_
  refine g_newa hC hw (tb1 40 rfl rfl) (by decide) rfl (by decide) (Nat.le_of_ble_eq_true rfl) (Nat.le_of_ble_eq_true rfl) dX10_init_49 (fun q6 H hw => ?_)
  have hw : wd_ G (va_A [ob_ A_t 10 [.null, .null, .int 0, .int 0, .null, .null, .null, .null, .null, .null, .int 0, .null, .int 0, .null, .null, .null, .null, .int 0, .int 0, .int 0, .null, .null, .int 0, .int 0, .null, .null, .null, .null, .null, .null, .null, .int 0, .int 0]] sz) s.heap [ob_ A_t 10 [.ref q1, .ref q2, .int 0, .int 0, .ref q3, .ref q4, .ref q5, .null, .null, .null, .int 0, .null, .int 0, .null, .null, .null, .null, .int 0, .int 0, .int 0, .null, .null, .int 0, .int 0, .null, .null, .null, .null, .null, .null, .null, .int 0, .int 0], ia_ G q1 144 (fun _ => 0), ia_ G q2 144 (fun _ => 0), ia_ G q3 6 (fun _ => 0), ia_ G q4 6 (fun _ => 0), ia_ G q5 6 (fun _ => 0), ia_ G q6 6 (fun _ => 0)] H _ := hw
  refine g_putF hC hw hnm ffX10_25 0 rfl rfl rfl (Nat.le_of_ble_eq_true rfl) dX10_init_51 (fun H locs hw => ?_)
  have hw : wd_ G (va_A [ob_ A_t 10 [.null, .null, .int 0, .int 0, .null, .null, .null, .null, .null, .null, .int 0, .null, .int 0, .null, .null, .null, .null, .int 0, .int 0, .int 0, .null, .null, .int 0, .int 0, .null, .null, .null, .null, .null, .null, .null, .int 0, .int 0]] sz) s.heap [ob_ A_t 10 [.ref q1, .ref q2, .int 0, .int 0, .ref q3, .ref q4, .ref q5, .ref q6, .null, .null, .int 0, .null, .int 0, .null, .null, .null, .null, .int 0, .int 0, .int 0, .null, .null, .int 0, .int 0, .null, .null, .null, .null, .null, .null, .null, .int 0, .int 0], ia_ G q1 144 (fun _ => 0), ia_ G q2 144 (fun _ => 0), ia_ G q3 6 (fun _ => 0), ia_ G q4 6 (fun _ => 0), ia_ G q5 6 (fun _ => 0), ia_ G q6 6 (fun _ => 0)] H _ := hw
  refine lv_aload_n hx hb dX10_init_54 rfl (lv_at hl 0 rfl) ?_
  refine lv_bipush (v := 8) hx hb dX10_init_55 (by decide) ?_
  refine g_newa hC hw (tb1 40 rfl rfl) (by decide) rfl (by decide) (Nat.le_of_ble_eq_true rfl) (Nat.le_of_ble_eq_true rfl) dX10_init_57 (fun q7 H hw => ?_)
  have hw : wd_ G (va_A [ob_ A_t 10 [.null, .null, .int 0, .int 0, .null, .null, .null, .null, .null, .null, .int 0, .null, .int 0, .null, .null, .null, .null, .int 0, .int 0, .int 0, .null, .null, .int 0, .int 0, .null, .null, .null, .null, .null, .null, .null, .int 0, .int 0]] sz) s.heap [ob_ A_t 10 [.ref q1, .ref q2, .int 0, .int 0, .ref q3, .ref q4, .ref q5, .ref q6, .null, .null, .int 0, .null, .int 0, .null, .null, .null, .null, .int 0, .int 0, .int 0, .null, .null, .int 0, .int 0, .null, .null, .null, .null, .null, .null, .null, .int 0, .int 0], ia_ G q1 144 (fun _ => 0), ia_ G q2 144 (fun _ => 0), ia_ G q3 6 (fun _ => 0), ia_ G q4 6 (fun _ => 0), ia_ G q5 6 (fun _ => 0), ia_ G q6 6 (fun _ => 0), ia_ G q7 8 (fun _ => 0)] H _ := hw
  refine g_putF hC hw hnm ffX10_28 0 rfl rfl rfl (Nat.le_of_ble_eq_true rfl) dX10_init_59 (fun H locs hw => ?_)
  have hw : wd_ G (va_A [ob_ A_t 10 [.null, .null, .int 0, .int 0, .null, .null, .null, .null, .null, .null, .int 0, .null, .int 0, .null, .null, .null, .null, .int 0, .int 0, .int 0, .null, .null, .int 0, .int 0, .null, .null, .null, .null, .null, .null, .null, .int 0, .int 0]] sz) s.heap [ob_ A_t 10 [.ref q1, .ref q2, .int 0, .int 0, .ref q3, .ref q4, .ref q5, .ref q6, .ref q7, .null, .int 0, .null, .int 0, .null, .null, .null, .null, .int 0, .int 0, .int 0, .null, .null, .int 0, .int 0, .null, .null, .null, .null, .null, .null, .null, .int 0, .int 0], ia_ G q1 144 (fun _ => 0), ia_ G q2 144 (fun _ => 0), ia_ G q3 6 (fun _ => 0), ia_ G q4 6 (fun _ => 0), ia_ G q5 6 (fun _ => 0), ia_ G q6 6 (fun _ => 0), ia_ G q7 8 (fun _ => 0)] H _ := hw
  refine lv_aload_n hx hb dX10_init_62 rfl (lv_at hl 0 rfl) ?_
  refine lv_bipush (v := 8) hx hb dX10_init_63 (by decide) ?_
  refine g_newa hC hw (tb1 40 rfl rfl) (by decide) rfl (by decide) (Nat.le_of_ble_eq_true rfl) (Nat.le_of_ble_eq_true rfl) dX10_init_65 (fun q8 H hw => ?_)
  have hw : wd_ G (va_A [ob_ A_t 10 [.null, .null, .int 0, .int 0, .null, .null, .null, .null, .null, .null, .int 0, .null, .int 0, .null, .null, .null, .null, .int 0, .int 0, .int 0, .null, .null, .int 0, .int 0, .null, .null, .null, .null, .null, .null, .null, .int 0, .int 0]] sz) s.heap [ob_ A_t 10 [.ref q1, .ref q2, .int 0, .int 0, .ref q3, .ref q4, .ref q5, .ref q6, .ref q7, .null, .int 0, .null, .int 0, .null, .null, .null, .null, .int 0, .int 0, .int 0, .null, .null, .int 0, .int 0, .null, .null, .null, .null, .null, .null, .null, .int 0, .int 0], ia_ G q1 144 (fun _ => 0), ia_ G q2 144 (fun _ => 0), ia_ G q3 6 (fun _ => 0), ia_ G q4 6 (fun _ => 0), ia_ G q5 6 (fun _ => 0), ia_ G q6 6 (fun _ => 0), ia_ G q7 8 (fun _ => 0), ia_ G q8 8 (fun _ => 0)] H _ := hw
  refine g_putF hC hw hnm ffX10_31 0 rfl rfl rfl (Nat.le_of_ble_eq_true rfl) dX10_init_67 (fun H locs hw => ?_)
  have hw : wd_ G (va_A [ob_ A_t 10 [.null, .null, .int 0, .int 0, .null, .null, .null, .null, .null, .null, .int 0, .null, .int 0, .null, .null, .null, .null, .int 0, .int 0, .int 0, .null, .null, .int 0, .int 0, .null, .null, .null, .null, .null, .null, .null, .int 0, .int 0]] sz) s.heap [ob_ A_t 10 [.ref q1, .ref q2, .int 0, .int 0, .ref q3, .ref q4, .ref q5, .ref q6, .ref q7, .ref q8, .int 0, .null, .int 0, .null, .null, .null, .null, .int 0, .int 0, .int 0, .null, .null, .int 0, .int 0, .null, .null, .null, .null, .null, .null, .null, .int 0, .int 0], ia_ G q1 144 (fun _ => 0), ia_ G q2 144 (fun _ => 0), ia_ G q3 6 (fun _ => 0), ia_ G q4 6 (fun _ => 0), ia_ G q5 6 (fun _ => 0), ia_ G q6 6 (fun _ => 0), ia_ G q7 8 (fun _ => 0), ia_ G q8 8 (fun _ => 0)] H _ := hw
  refine lv_aload_n hx hb dX10_init_70 rfl (lv_at hl 0 rfl) ?_
  refine lv_bipush (v := 60) hx hb dX10_init_71 (by decide) ?_
  refine g_newa hC hw (tb1 40 rfl rfl) (by decide) rfl (by decide) (Nat.le_of_ble_eq_true rfl) (Nat.le_of_ble_eq_true rfl) dX10_init_73 (fun q9 H hw => ?_)
  have hw : wd_ G (va_A [ob_ A_t 10 [.null, .null, .int 0, .int 0, .null, .null, .null, .null, .null, .null, .int 0, .null, .int 0, .null, .null, .null, .null, .int 0, .int 0, .int 0, .null, .null, .int 0, .int 0, .null, .null, .null, .null, .null, .null, .null, .int 0, .int 0]] sz) s.heap [ob_ A_t 10 [.ref q1, .ref q2, .int 0, .int 0, .ref q3, .ref q4, .ref q5, .ref q6, .ref q7, .ref q8, .int 0, .null, .int 0, .null, .null, .null, .null, .int 0, .int 0, .int 0, .null, .null, .int 0, .int 0, .null, .null, .null, .null, .null, .null, .null, .int 0, .int 0], ia_ G q1 144 (fun _ => 0), ia_ G q2 144 (fun _ => 0), ia_ G q3 6 (fun _ => 0), ia_ G q4 6 (fun _ => 0), ia_ G q5 6 (fun _ => 0), ia_ G q6 6 (fun _ => 0), ia_ G q7 8 (fun _ => 0), ia_ G q8 8 (fun _ => 0), ia_ G q9 60 (fun _ => 0)] H _ := hw
  refine g_putF hC hw hnm ffX10_34 0 rfl rfl rfl (Nat.le_of_ble_eq_true rfl) dX10_init_75 (fun H locs hw => ?_)
  have hw : wd_ G (va_A [ob_ A_t 10 [.null, .null, .int 0, .int 0, .null, .null, .null, .null, .null, .null, .int 0, .null, .int 0, .null, .null, .null, .null, .int 0, .int 0, .int 0, .null, .null, .int 0, .int 0, .null, .null, .null, .null, .null, .null, .null, .int 0, .int 0]] sz) s.heap [ob_ A_t 10 [.ref q1, .ref q2, .int 0, .int 0, .ref q3, .ref q4, .ref q5, .ref q6, .ref q7, .ref q8, .int 0, .ref q9, .int 0, .null, .null, .null, .null, .int 0, .int 0, .int 0, .null, .null, .int 0, .int 0, .null, .null, .null, .null, .null, .null, .null, .int 0, .int 0], ia_ G q1 144 (fun _ => 0), ia_ G q2 144 (fun _ => 0), ia_ G q3 6 (fun _ => 0), ia_ G q4 6 (fun _ => 0), ia_ G q5 6 (fun _ => 0), ia_ G q6 6 (fun _ => 0), ia_ G q7 8 (fun _ => 0), ia_ G q8 8 (fun _ => 0), ia_ G q9 60 (fun _ => 0)] H _ := hw
  refine lv_aload_n hx hb dX10_init_78 rfl (lv_at hl 0 rfl) ?_
  refine lv_bipush (v := 60) hx hb dX10_init_79 (by decide) ?_
  refine g_newa hC hw (tb1 40 rfl rfl) (by decide) rfl (by decide) (Nat.le_of_ble_eq_true rfl) (Nat.le_of_ble_eq_true rfl) dX10_init_81 (fun q10 H hw => ?_)
  have hw : wd_ G (va_A [ob_ A_t 10 [.null, .null, .int 0, .int 0, .null, .null, .null, .null, .null, .null, .int 0, .null, .int 0, .null, .null, .null, .null, .int 0, .int 0, .int 0, .null, .null, .int 0, .int 0, .null, .null, .null, .null, .null, .null, .null, .int 0, .int 0]] sz) s.heap [ob_ A_t 10 [.ref q1, .ref q2, .int 0, .int 0, .ref q3, .ref q4, .ref q5, .ref q6, .ref q7, .ref q8, .int 0, .ref q9, .int 0, .null, .null, .null, .null, .int 0, .int 0, .int 0, .null, .null, .int 0, .int 0, .null, .null, .null, .null, .null, .null, .null, .int 0, .int 0], ia_ G q1 144 (fun _ => 0), ia_ G q2 144 (fun _ => 0), ia_ G q3 6 (fun _ => 0), ia_ G q4 6 (fun _ => 0), ia_ G q5 6 (fun _ => 0), ia_ G q6 6 (fun _ => 0), ia_ G q7 8 (fun _ => 0), ia_ G q8 8 (fun _ => 0), ia_ G q9 60 (fun _ => 0), ia_ G q10 60 (fun _ => 0)] H _ := hw
  refine g_putF hC hw hnm ffX10_37 0 rfl rfl rfl (Nat.le_of_ble_eq_true rfl) dX10_init_83 (fun H locs hw => ?_)
  have hw : wd_ G (va_A [ob_ A_t 10 [.null, .null, .int 0, .int 0, .null, .null, .null, .null, .null, .null, .int 0, .null, .int 0, .null, .null, .null, .null, .int 0, .int 0, .int 0, .null, .null, .int 0, .int 0, .null, .null, .null, .null, .null, .null, .null, .int 0, .int 0]] sz) s.heap [ob_ A_t 10 [.ref q1, .ref q2, .int 0, .int 0, .ref q3, .ref q4, .ref q5, .ref q6, .ref q7, .ref q8, .int 0, .ref q9, .int 0, .ref q10, .null, .null, .null, .int 0, .int 0, .int 0, .null, .null, .int 0, .int 0, .null, .null, .null, .null, .null, .null, .null, .int 0, .int 0], ia_ G q1 144 (fun _ => 0), ia_ G q2 144 (fun _ => 0), ia_ G q3 6 (fun _ => 0), ia_ G q4 6 (fun _ => 0), ia_ G q5 6 (fun _ => 0), ia_ G q6 6 (fun _ => 0), ia_ G q7 8 (fun _ => 0), ia_ G q8 8 (fun _ => 0), ia_ G q9 60 (fun _ => 0), ia_ G q10 60 (fun _ => 0)] H _ := hw
  refine lv_aload_n hx hb dX10_init_86 rfl (lv_at hl 0 rfl) ?_
  refine lv_bipush (v := 60) hx hb dX10_init_87 (by decide) ?_
  refine g_newa hC hw (tb1 40 rfl rfl) (by decide) rfl (by decide) (Nat.le_of_ble_eq_true rfl) (Nat.le_of_ble_eq_true rfl) dX10_init_89 (fun q11 H hw => ?_)
  have hw : wd_ G (va_A [ob_ A_t 10 [.null, .null, .int 0, .int 0, .null, .null, .null, .null, .null, .null, .int 0, .null, .int 0, .null, .null, .null, .null, .int 0, .int 0, .int 0, .null, .null, .int 0, .int 0, .null, .null, .null, .null, .null, .null, .null, .int 0, .int 0]] sz) s.heap [ob_ A_t 10 [.ref q1, .ref q2, .int 0, .int 0, .ref q3, .ref q4, .ref q5, .ref q6, .ref q7, .ref q8, .int 0, .ref q9, .int 0, .ref q10, .null, .null, .null, .int 0, .int 0, .int 0, .null, .null, .int 0, .int 0, .null, .null, .null, .null, .null, .null, .null, .int 0, .int 0], ia_ G q1 144 (fun _ => 0), ia_ G q2 144 (fun _ => 0), ia_ G q3 6 (fun _ => 0), ia_ G q4 6 (fun _ => 0), ia_ G q5 6 (fun _ => 0), ia_ G q6 6 (fun _ => 0), ia_ G q7 8 (fun _ => 0), ia_ G q8 8 (fun _ => 0), ia_ G q9 60 (fun _ => 0), ia_ G q10 60 (fun _ => 0), ia_ G q11 60 (fun _ => 0)] H _ := hw
  refine g_putF hC hw hnm ffX10_40 0 rfl rfl rfl (Nat.le_of_ble_eq_true rfl) dX10_init_91 (fun H locs hw => ?_)
  have hw : wd_ G (va_A [ob_ A_t 10 [.null, .null, .int 0, .int 0, .null, .null, .null, .null, .null, .null, .int 0, .null, .int 0, .null, .null, .null, .null, .int 0, .int 0, .int 0, .null, .null, .int 0, .int 0, .null, .null, .null, .null, .null, .null, .null, .int 0, .int 0]] sz) s.heap [ob_ A_t 10 [.ref q1, .ref q2, .int 0, .int 0, .ref q3, .ref q4, .ref q5, .ref q6, .ref q7, .ref q8, .int 0, .ref q9, .int 0, .ref q10, .ref q11, .null, .null, .int 0, .int 0, .int 0, .null, .null, .int 0, .int 0, .null, .null, .null, .null, .null, .null, .null, .int 0, .int 0], ia_ G q1 144 (fun _ => 0), ia_ G q2 144 (fun _ => 0), ia_ G q3 6 (fun _ => 0), ia_ G q4 6 (fun _ => 0), ia_ G q5 6 (fun _ => 0), ia_ G q6 6 (fun _ => 0), ia_ G q7 8 (fun _ => 0), ia_ G q8 8 (fun _ => 0), ia_ G q9 60 (fun _ => 0), ia_ G q10 60 (fun _ => 0), ia_ G q11 60 (fun _ => 0)] H _ := hw
  refine lv_aload_n hx hb dX10_init_94 rfl (lv_at hl 0 rfl) ?_
  refine lv_bipush (v := 60) hx hb dX10_init_95 (by decide) ?_
  refine g_newa hC hw (tb1 40 rfl rfl) (by decide) rfl (by decide) (Nat.le_of_ble_eq_true rfl) (Nat.le_of_ble_eq_true rfl) dX10_init_97 (fun q12 H hw => ?_)
  have hw : wd_ G (va_A [ob_ A_t 10 [.null, .null, .int 0, .int 0, .null, .null, .null, .null, .null, .null, .int 0, .null, .int 0, .null, .null, .null, .null, .int 0, .int 0, .int 0, .null, .null, .int 0, .int 0, .null, .null, .null, .null, .null, .null, .null, .int 0, .int 0]] sz) s.heap [ob_ A_t 10 [.ref q1, .ref q2, .int 0, .int 0, .ref q3, .ref q4, .ref q5, .ref q6, .ref q7, .ref q8, .int 0, .ref q9, .int 0, .ref q10, .ref q11, .null, .null, .int 0, .int 0, .int 0, .null, .null, .int 0, .int 0, .null, .null, .null, .null, .null, .null, .null, .int 0, .int 0], ia_ G q1 144 (fun _ => 0), ia_ G q2 144 (fun _ => 0), ia_ G q3 6 (fun _ => 0), ia_ G q4 6 (fun _ => 0), ia_ G q5 6 (fun _ => 0), ia_ G q6 6 (fun _ => 0), ia_ G q7 8 (fun _ => 0), ia_ G q8 8 (fun _ => 0), ia_ G q9 60 (fun _ => 0), ia_ G q10 60 (fun _ => 0), ia_ G q11 60 (fun _ => 0), ia_ G q12 60 (fun _ => 0)] H _ := hw
  refine g_putF hC hw hnm ffX10_43 0 rfl rfl rfl (Nat.le_of_ble_eq_true rfl) dX10_init_99 (fun H locs hw => ?_)
  have hw : wd_ G (va_A [ob_ A_t 10 [.null, .null, .int 0, .int 0, .null, .null, .null, .null, .null, .null, .int 0, .null, .int 0, .null, .null, .null, .null, .int 0, .int 0, .int 0, .null, .null, .int 0, .int 0, .null, .null, .null, .null, .null, .null, .null, .int 0, .int 0]] sz) s.heap [ob_ A_t 10 [.ref q1, .ref q2, .int 0, .int 0, .ref q3, .ref q4, .ref q5, .ref q6, .ref q7, .ref q8, .int 0, .ref q9, .int 0, .ref q10, .ref q11, .ref q12, .null, .int 0, .int 0, .int 0, .null, .null, .int 0, .int 0, .null, .null, .null, .null, .null, .null, .null, .int 0, .int 0], ia_ G q1 144 (fun _ => 0), ia_ G q2 144 (fun _ => 0), ia_ G q3 6 (fun _ => 0), ia_ G q4 6 (fun _ => 0), ia_ G q5 6 (fun _ => 0), ia_ G q6 6 (fun _ => 0), ia_ G q7 8 (fun _ => 0), ia_ G q8 8 (fun _ => 0), ia_ G q9 60 (fun _ => 0), ia_ G q10 60 (fun _ => 0), ia_ G q11 60 (fun _ => 0), ia_ G q12 60 (fun _ => 0)] H _ := hw
  refine lv_aload_n hx hb dX10_init_102 rfl (lv_at hl 0 rfl) ?_
  refine lv_bipush (v := 60) hx hb dX10_init_103 (by decide) ?_
  refine g_newa hC hw (tb1 40 rfl rfl) (by decide) rfl (by decide) (Nat.le_of_ble_eq_true rfl) (Nat.le_of_ble_eq_true rfl) dX10_init_105 (fun q13 H hw => ?_)
  have hw : wd_ G (va_A [ob_ A_t 10 [.null, .null, .int 0, .int 0, .null, .null, .null, .null, .null, .null, .int 0, .null, .int 0, .null, .null, .null, .null, .int 0, .int 0, .int 0, .null, .null, .int 0, .int 0, .null, .null, .null, .null, .null, .null, .null, .int 0, .int 0]] sz) s.heap [ob_ A_t 10 [.ref q1, .ref q2, .int 0, .int 0, .ref q3, .ref q4, .ref q5, .ref q6, .ref q7, .ref q8, .int 0, .ref q9, .int 0, .ref q10, .ref q11, .ref q12, .null, .int 0, .int 0, .int 0, .null, .null, .int 0, .int 0, .null, .null, .null, .null, .null, .null, .null, .int 0, .int 0], ia_ G q1 144 (fun _ => 0), ia_ G q2 144 (fun _ => 0), ia_ G q3 6 (fun _ => 0), ia_ G q4 6 (fun _ => 0), ia_ G q5 6 (fun _ => 0), ia_ G q6 6 (fun _ => 0), ia_ G q7 8 (fun _ => 0), ia_ G q8 8 (fun _ => 0), ia_ G q9 60 (fun _ => 0), ia_ G q10 60 (fun _ => 0), ia_ G q11 60 (fun _ => 0), ia_ G q12 60 (fun _ => 0), ia_ G q13 60 (fun _ => 0)] H _ := hw
  refine g_putF hC hw hnm ffX10_46 0 rfl rfl rfl (Nat.le_of_ble_eq_true rfl) dX10_init_107 (fun H locs hw => ?_)
  have hw : wd_ G (va_A [ob_ A_t 10 [.null, .null, .int 0, .int 0, .null, .null, .null, .null, .null, .null, .int 0, .null, .int 0, .null, .null, .null, .null, .int 0, .int 0, .int 0, .null, .null, .int 0, .int 0, .null, .null, .null, .null, .null, .null, .null, .int 0, .int 0]] sz) s.heap [ob_ A_t 10 [.ref q1, .ref q2, .int 0, .int 0, .ref q3, .ref q4, .ref q5, .ref q6, .ref q7, .ref q8, .int 0, .ref q9, .int 0, .ref q10, .ref q11, .ref q12, .ref q13, .int 0, .int 0, .int 0, .null, .null, .int 0, .int 0, .null, .null, .null, .null, .null, .null, .null, .int 0, .int 0], ia_ G q1 144 (fun _ => 0), ia_ G q2 144 (fun _ => 0), ia_ G q3 6 (fun _ => 0), ia_ G q4 6 (fun _ => 0), ia_ G q5 6 (fun _ => 0), ia_ G q6 6 (fun _ => 0), ia_ G q7 8 (fun _ => 0), ia_ G q8 8 (fun _ => 0), ia_ G q9 60 (fun _ => 0), ia_ G q10 60 (fun _ => 0), ia_ G q11 60 (fun _ => 0), ia_ G q12 60 (fun _ => 0), ia_ G q13 60 (fun _ => 0)] H _ := hw
  refine lv_aload_n hx hb dX10_init_110 rfl (lv_at hl 0 rfl) ?_
  refine lv_bipush (v := 25) hx hb dX10_init_111 (by decide) ?_
  refine g_newa hC hw (tb1 40 rfl rfl) (by decide) rfl (by decide) (Nat.le_of_ble_eq_true rfl) (Nat.le_of_ble_eq_true rfl) dX10_init_113 (fun q14 H hw => ?_)
  have hw : wd_ G (va_A [ob_ A_t 10 [.null, .null, .int 0, .int 0, .null, .null, .null, .null, .null, .null, .int 0, .null, .int 0, .null, .null, .null, .null, .int 0, .int 0, .int 0, .null, .null, .int 0, .int 0, .null, .null, .null, .null, .null, .null, .null, .int 0, .int 0]] sz) s.heap [ob_ A_t 10 [.ref q1, .ref q2, .int 0, .int 0, .ref q3, .ref q4, .ref q5, .ref q6, .ref q7, .ref q8, .int 0, .ref q9, .int 0, .ref q10, .ref q11, .ref q12, .ref q13, .int 0, .int 0, .int 0, .null, .null, .int 0, .int 0, .null, .null, .null, .null, .null, .null, .null, .int 0, .int 0], ia_ G q1 144 (fun _ => 0), ia_ G q2 144 (fun _ => 0), ia_ G q3 6 (fun _ => 0), ia_ G q4 6 (fun _ => 0), ia_ G q5 6 (fun _ => 0), ia_ G q6 6 (fun _ => 0), ia_ G q7 8 (fun _ => 0), ia_ G q8 8 (fun _ => 0), ia_ G q9 60 (fun _ => 0), ia_ G q10 60 (fun _ => 0), ia_ G q11 60 (fun _ => 0), ia_ G q12 60 (fun _ => 0), ia_ G q13 60 (fun _ => 0), ia_ G q14 25 (fun _ => 0)] H _ := hw
  refine g_putF hC hw hnm ffX10_49 0 rfl rfl rfl (Nat.le_of_ble_eq_true rfl) dX10_init_115 (fun H locs hw => ?_)
  have hw : wd_ G (va_A [ob_ A_t 10 [.null, .null, .int 0, .int 0, .null, .null, .null, .null, .null, .null, .int 0, .null, .int 0, .null, .null, .null, .null, .int 0, .int 0, .int 0, .null, .null, .int 0, .int 0, .null, .null, .null, .null, .null, .null, .null, .int 0, .int 0]] sz) s.heap [ob_ A_t 10 [.ref q1, .ref q2, .int 0, .int 0, .ref q3, .ref q4, .ref q5, .ref q6, .ref q7, .ref q8, .int 0, .ref q9, .int 0, .ref q10, .ref q11, .ref q12, .ref q13, .int 0, .int 0, .int 0, .ref q14, .null, .int 0, .int 0, .null, .null, .null, .null, .null, .null, .null, .int 0, .int 0], ia_ G q1 144 (fun _ => 0), ia_ G q2 144 (fun _ => 0), ia_ G q3 6 (fun _ => 0), ia_ G q4 6 (fun _ => 0), ia_ G q5 6 (fun _ => 0), ia_ G q6 6 (fun _ => 0), ia_ G q7 8 (fun _ => 0), ia_ G q8 8 (fun _ => 0), ia_ G q9 60 (fun _ => 0), ia_ G q10 60 (fun _ => 0), ia_ G q11 60 (fun _ => 0), ia_ G q12 60 (fun _ => 0), ia_ G q13 60 (fun _ => 0), ia_ G q14 25 (fun _ => 0)] H _ := hw
  refine lv_aload_n hx hb dX10_init_118 rfl (lv_at hl 0 rfl) ?_
  refine lv_bipush (v := 25) hx hb dX10_init_119 (by decide) ?_
  refine g_newa hC hw (tb1 40 rfl rfl) (by decide) rfl (by decide) (Nat.le_of_ble_eq_true rfl) (Nat.le_of_ble_eq_true rfl) dX10_init_121 (fun q15 H hw => ?_)
  have hw : wd_ G (va_A [ob_ A_t 10 [.null, .null, .int 0, .int 0, .null, .null, .null, .null, .null, .null, .int 0, .null, .int 0, .null, .null, .null, .null, .int 0, .int 0, .int 0, .null, .null, .int 0, .int 0, .null, .null, .null, .null, .null, .null, .null, .int 0, .int 0]] sz) s.heap [ob_ A_t 10 [.ref q1, .ref q2, .int 0, .int 0, .ref q3, .ref q4, .ref q5, .ref q6, .ref q7, .ref q8, .int 0, .ref q9, .int 0, .ref q10, .ref q11, .ref q12, .ref q13, .int 0, .int 0, .int 0, .ref q14, .null, .int 0, .int 0, .null, .null, .null, .null, .null, .null, .null, .int 0, .int 0], ia_ G q1 144 (fun _ => 0), ia_ G q2 144 (fun _ => 0), ia_ G q3 6 (fun _ => 0), ia_ G q4 6 (fun _ => 0), ia_ G q5 6 (fun _ => 0), ia_ G q6 6 (fun _ => 0), ia_ G q7 8 (fun _ => 0), ia_ G q8 8 (fun _ => 0), ia_ G q9 60 (fun _ => 0), ia_ G q10 60 (fun _ => 0), ia_ G q11 60 (fun _ => 0), ia_ G q12 60 (fun _ => 0), ia_ G q13 60 (fun _ => 0), ia_ G q14 25 (fun _ => 0), ia_ G q15 25 (fun _ => 0)] H _ := hw
  refine g_putF hC hw hnm ffX10_52 0 rfl rfl rfl (Nat.le_of_ble_eq_true rfl) dX10_init_123 (fun H locs hw => ?_)
  have hw : wd_ G (va_A [ob_ A_t 10 [.null, .null, .int 0, .int 0, .null, .null, .null, .null, .null, .null, .int 0, .null, .int 0, .null, .null, .null, .null, .int 0, .int 0, .int 0, .null, .null, .int 0, .int 0, .null, .null, .null, .null, .null, .null, .null, .int 0, .int 0]] sz) s.heap [ob_ A_t 10 [.ref q1, .ref q2, .int 0, .int 0, .ref q3, .ref q4, .ref q5, .ref q6, .ref q7, .ref q8, .int 0, .ref q9, .int 0, .ref q10, .ref q11, .ref q12, .ref q13, .int 0, .int 0, .int 0, .ref q14, .ref q15, .int 0, .int 0, .null, .null, .null, .null, .null, .null, .null, .int 0, .int 0], ia_ G q1 144 (fun _ => 0), ia_ G q2 144 (fun _ => 0), ia_ G q3 6 (fun _ => 0), ia_ G q4 6 (fun _ => 0), ia_ G q5 6 (fun _ => 0), ia_ G q6 6 (fun _ => 0), ia_ G q7 8 (fun _ => 0), ia_ G q8 8 (fun _ => 0), ia_ G q9 60 (fun _ => 0), ia_ G q10 60 (fun _ => 0), ia_ G q11 60 (fun _ => 0), ia_ G q12 60 (fun _ => 0), ia_ G q13 60 (fun _ => 0), ia_ G q14 25 (fun _ => 0), ia_ G q15 25 (fun _ => 0)] H _ := hw
  refine lv_aload_n hx hb dX10_init_126 rfl (lv_at hl 0 rfl) ?_
  refine lv_sipush (v := 144) hx hb dX10_init_127 (by decide) ?_
  refine g_newa hC hw (tb1 40 rfl rfl) (by decide) rfl (by decide) (Nat.le_of_ble_eq_true rfl) (Nat.le_of_ble_eq_true rfl) dX10_init_130 (fun q16 H hw => ?_)
  have hw : wd_ G (va_A [ob_ A_t 10 [.null, .null, .int 0, .int 0, .null, .null, .null, .null, .null, .null, .int 0, .null, .int 0, .null, .null, .null, .null, .int 0, .int 0, .int 0, .null, .null, .int 0, .int 0, .null, .null, .null, .null, .null, .null, .null, .int 0, .int 0]] sz) s.heap [ob_ A_t 10 [.ref q1, .ref q2, .int 0, .int 0, .ref q3, .ref q4, .ref q5, .ref q6, .ref q7, .ref q8, .int 0, .ref q9, .int 0, .ref q10, .ref q11, .ref q12, .ref q13, .int 0, .int 0, .int 0, .ref q14, .ref q15, .int 0, .int 0, .null, .null, .null, .null, .null, .null, .null, .int 0, .int 0], ia_ G q1 144 (fun _ => 0), ia_ G q2 144 (fun _ => 0), ia_ G q3 6 (fun _ => 0), ia_ G q4 6 (fun _ => 0), ia_ G q5 6 (fun _ => 0), ia_ G q6 6 (fun _ => 0), ia_ G q7 8 (fun _ => 0), ia_ G q8 8 (fun _ => 0), ia_ G q9 60 (fun _ => 0), ia_ G q10 60 (fun _ => 0), ia_ G q11 60 (fun _ => 0), ia_ G q12 60 (fun _ => 0), ia_ G q13 60 (fun _ => 0), ia_ G q14 25 (fun _ => 0), ia_ G q15 25 (fun _ => 0), ia_ G q16 144 (fun _ => 0)] H _ := hw
  refine g_putF hC hw hnm ffX10_55 0 rfl rfl rfl (Nat.le_of_ble_eq_true rfl) dX10_init_132 (fun H locs hw => ?_)
  have hw : wd_ G (va_A [ob_ A_t 10 [.null, .null, .int 0, .int 0, .null, .null, .null, .null, .null, .null, .int 0, .null, .int 0, .null, .null, .null, .null, .int 0, .int 0, .int 0, .null, .null, .int 0, .int 0, .null, .null, .null, .null, .null, .null, .null, .int 0, .int 0]] sz) s.heap [ob_ A_t 10 [.ref q1, .ref q2, .int 0, .int 0, .ref q3, .ref q4, .ref q5, .ref q6, .ref q7, .ref q8, .int 0, .ref q9, .int 0, .ref q10, .ref q11, .ref q12, .ref q13, .int 0, .int 0, .int 0, .ref q14, .ref q15, .int 0, .int 0, .ref q16, .null, .null, .null, .null, .null, .null, .int 0, .int 0], ia_ G q1 144 (fun _ => 0), ia_ G q2 144 (fun _ => 0), ia_ G q3 6 (fun _ => 0), ia_ G q4 6 (fun _ => 0), ia_ G q5 6 (fun _ => 0), ia_ G q6 6 (fun _ => 0), ia_ G q7 8 (fun _ => 0), ia_ G q8 8 (fun _ => 0), ia_ G q9 60 (fun _ => 0), ia_ G q10 60 (fun _ => 0), ia_ G q11 60 (fun _ => 0), ia_ G q12 60 (fun _ => 0), ia_ G q13 60 (fun _ => 0), ia_ G q14 25 (fun _ => 0), ia_ G q15 25 (fun _ => 0), ia_ G q16 144 (fun _ => 0)] H _ := hw
  refine lv_aload_n hx hb dX10_init_135 rfl (lv_at hl 0 rfl) ?_
  refine lv_bipush (v := 6) hx hb dX10_init_136 (by decide) ?_
  refine g_newa hC hw (tb1 40 rfl rfl) (by decide) rfl (by decide) (Nat.le_of_ble_eq_true rfl) (Nat.le_of_ble_eq_true rfl) dX10_init_138 (fun q17 H hw => ?_)
  have hw : wd_ G (va_A [ob_ A_t 10 [.null, .null, .int 0, .int 0, .null, .null, .null, .null, .null, .null, .int 0, .null, .int 0, .null, .null, .null, .null, .int 0, .int 0, .int 0, .null, .null, .int 0, .int 0, .null, .null, .null, .null, .null, .null, .null, .int 0, .int 0]] sz) s.heap [ob_ A_t 10 [.ref q1, .ref q2, .int 0, .int 0, .ref q3, .ref q4, .ref q5, .ref q6, .ref q7, .ref q8, .int 0, .ref q9, .int 0, .ref q10, .ref q11, .ref q12, .ref q13, .int 0, .int 0, .int 0, .ref q14, .ref q15, .int 0, .int 0, .ref q16, .null, .null, .null, .null, .null, .null, .int 0, .int 0], ia_ G q1 144 (fun _ => 0), ia_ G q2 144 (fun _ => 0), ia_ G q3 6 (fun _ => 0), ia_ G q4 6 (fun _ => 0), ia_ G q5 6 (fun _ => 0), ia_ G q6 6 (fun _ => 0), ia_ G q7 8 (fun _ => 0), ia_ G q8 8 (fun _ => 0), ia_ G q9 60 (fun _ => 0), ia_ G q10 60 (fun _ => 0), ia_ G q11 60 (fun _ => 0), ia_ G q12 60 (fun _ => 0), ia_ G q13 60 (fun _ => 0), ia_ G q14 25 (fun _ => 0), ia_ G q15 25 (fun _ => 0), ia_ G q16 144 (fun _ => 0), ia_ G q17 6 (fun _ => 0)] H _ := hw
  refine g_putF hC hw hnm ffX10_58 0 rfl rfl rfl (Nat.le_of_ble_eq_true rfl) dX10_init_140 (fun H locs hw => ?_)
  have hw : wd_ G (va_A [ob_ A_t 10 [.null, .null, .int 0, .int 0, .null, .null, .null, .null, .null, .null, .int 0, .null, .int 0, .null, .null, .null, .null, .int 0, .int 0, .int 0, .null, .null, .int 0, .int 0, .null, .null, .null, .null, .null, .null, .null, .int 0, .int 0]] sz) s.heap [ob_ A_t 10 [.ref q1, .ref q2, .int 0, .int 0, .ref q3, .ref q4, .ref q5, .ref q6, .ref q7, .ref q8, .int 0, .ref q9, .int 0, .ref q10, .ref q11, .ref q12, .ref q13, .int 0, .int 0, .int 0, .ref q14, .ref q15, .int 0, .int 0, .ref q16, .ref q17, .null, .null, .null, .null, .null, .int 0, .int 0], ia_ G q1 144 (fun _ => 0), ia_ G q2 144 (fun _ => 0), ia_ G q3 6 (fun _ => 0), ia_ G q4 6 (fun _ => 0), ia_ G q5 6 (fun _ => 0), ia_ G q6 6 (fun _ => 0), ia_ G q7 8 (fun _ => 0), ia_ G q8 8 (fun _ => 0), ia_ G q9 60 (fun _ => 0), ia_ G q10 60 (fun _ => 0), ia_ G q11 60 (fun _ => 0), ia_ G q12 60 (fun _ => 0), ia_ G q13 60 (fun _ => 0), ia_ G q14 25 (fun _ => 0), ia_ G q15 25 (fun _ => 0), ia_ G q16 144 (fun _ => 0), ia_ G q17 6 (fun _ => 0)] H _ := hw
  refine lv_aload_n hx hb dX10_init_143 rfl (lv_at hl 0 rfl) ?_
  refine lv_sipush (v := 384) hx hb dX10_init_144 (by decide) ?_
  refine g_newa hC hw (tb1 40 rfl rfl) (by decide) rfl (by decide) (Nat.le_of_ble_eq_true rfl) (Nat.le_of_ble_eq_true rfl) dX10_init_147 (fun q18 H hw => ?_)
  have hw : wd_ G (va_A [ob_ A_t 10 [.null, .null, .int 0, .int 0, .null, .null, .null, .null, .null, .null, .int 0, .null, .int 0, .null, .null, .null, .null, .int 0, .int 0, .int 0, .null, .null, .int 0, .int 0, .null, .null, .null, .null, .null, .null, .null, .int 0, .int 0]] sz) s.heap [ob_ A_t 10 [.ref q1, .ref q2, .int 0, .int 0, .ref q3, .ref q4, .ref q5, .ref q6, .ref q7, .ref q8, .int 0, .ref q9, .int 0, .ref q10, .ref q11, .ref q12, .ref q13, .int 0, .int 0, .int 0, .ref q14, .ref q15, .int 0, .int 0, .ref q16, .ref q17, .null, .null, .null, .null, .null, .int 0, .int 0], ia_ G q1 144 (fun _ => 0), ia_ G q2 144 (fun _ => 0), ia_ G q3 6 (fun _ => 0), ia_ G q4 6 (fun _ => 0), ia_ G q5 6 (fun _ => 0), ia_ G q6 6 (fun _ => 0), ia_ G q7 8 (fun _ => 0), ia_ G q8 8 (fun _ => 0), ia_ G q9 60 (fun _ => 0), ia_ G q10 60 (fun _ => 0), ia_ G q11 60 (fun _ => 0), ia_ G q12 60 (fun _ => 0), ia_ G q13 60 (fun _ => 0), ia_ G q14 25 (fun _ => 0), ia_ G q15 25 (fun _ => 0), ia_ G q16 144 (fun _ => 0), ia_ G q17 6 (fun _ => 0), ia_ G q18 384 (fun _ => 0)] H _ := hw
  refine g_putF hC hw hnm ffX10_61 0 rfl rfl rfl (Nat.le_of_ble_eq_true rfl) dX10_init_149 (fun H locs hw => ?_)
  have hw : wd_ G (va_A [ob_ A_t 10 [.null, .null, .int 0, .int 0, .null, .null, .null, .null, .null, .null, .int 0, .null, .int 0, .null, .null, .null, .null, .int 0, .int 0, .int 0, .null, .null, .int 0, .int 0, .null, .null, .null, .null, .null, .null, .null, .int 0, .int 0]] sz) s.heap [ob_ A_t 10 [.ref q1, .ref q2, .int 0, .int 0, .ref q3, .ref q4, .ref q5, .ref q6, .ref q7, .ref q8, .int 0, .ref q9, .int 0, .ref q10, .ref q11, .ref q12, .ref q13, .int 0, .int 0, .int 0, .ref q14, .ref q15, .int 0, .int 0, .ref q16, .ref q17, .ref q18, .null, .null, .null, .null, .int 0, .int 0], ia_ G q1 144 (fun _ => 0), ia_ G q2 144 (fun _ => 0), ia_ G q3 6 (fun _ => 0), ia_ G q4 6 (fun _ => 0), ia_ G q5 6 (fun _ => 0), ia_ G q6 6 (fun _ => 0), ia_ G q7 8 (fun _ => 0), ia_ G q8 8 (fun _ => 0), ia_ G q9 60 (fun _ => 0), ia_ G q10 60 (fun _ => 0), ia_ G q11 60 (fun _ => 0), ia_ G q12 60 (fun _ => 0), ia_ G q13 60 (fun _ => 0), ia_ G q14 25 (fun _ => 0), ia_ G q15 25 (fun _ => 0), ia_ G q16 144 (fun _ => 0), ia_ G q17 6 (fun _ => 0), ia_ G q18 384 (fun _ => 0)] H _ := hw
  refine lv_aload_n hx hb dX10_init_152 rfl (lv_at hl 0 rfl) ?_
  refine lv_bipush (v := 12) hx hb dX10_init_153 (by decide) ?_
  refine g_newa hC hw (tb1 40 rfl rfl) (by decide) rfl (by decide) (Nat.le_of_ble_eq_true rfl) (Nat.le_of_ble_eq_true rfl) dX10_init_155 (fun q19 H hw => ?_)
  have hw : wd_ G (va_A [ob_ A_t 10 [.null, .null, .int 0, .int 0, .null, .null, .null, .null, .null, .null, .int 0, .null, .int 0, .null, .null, .null, .null, .int 0, .int 0, .int 0, .null, .null, .int 0, .int 0, .null, .null, .null, .null, .null, .null, .null, .int 0, .int 0]] sz) s.heap [ob_ A_t 10 [.ref q1, .ref q2, .int 0, .int 0, .ref q3, .ref q4, .ref q5, .ref q6, .ref q7, .ref q8, .int 0, .ref q9, .int 0, .ref q10, .ref q11, .ref q12, .ref q13, .int 0, .int 0, .int 0, .ref q14, .ref q15, .int 0, .int 0, .ref q16, .ref q17, .ref q18, .null, .null, .null, .null, .int 0, .int 0], ia_ G q1 144 (fun _ => 0), ia_ G q2 144 (fun _ => 0), ia_ G q3 6 (fun _ => 0), ia_ G q4 6 (fun _ => 0), ia_ G q5 6 (fun _ => 0), ia_ G q6 6 (fun _ => 0), ia_ G q7 8 (fun _ => 0), ia_ G q8 8 (fun _ => 0), ia_ G q9 60 (fun _ => 0), ia_ G q10 60 (fun _ => 0), ia_ G q11 60 (fun _ => 0), ia_ G q12 60 (fun _ => 0), ia_ G q13 60 (fun _ => 0), ia_ G q14 25 (fun _ => 0), ia_ G q15 25 (fun _ => 0), ia_ G q16 144 (fun _ => 0), ia_ G q17 6 (fun _ => 0), ia_ G q18 384 (fun _ => 0), ia_ G q19 12 (fun _ => 0)] H _ := hw
  refine g_putF hC hw hnm ffX10_64 0 rfl rfl rfl (Nat.le_of_ble_eq_true rfl) dX10_init_157 (fun H locs hw => ?_)
  have hw : wd_ G (va_A [ob_ A_t 10 [.null, .null, .int 0, .int 0, .null, .null, .null, .null, .null, .null, .int 0, .null, .int 0, .null, .null, .null, .null, .int 0, .int 0, .int 0, .null, .null, .int 0, .int 0, .null, .null, .null, .null, .null, .null, .null, .int 0, .int 0]] sz) s.heap [ob_ A_t 10 [.ref q1, .ref q2, .int 0, .int 0, .ref q3, .ref q4, .ref q5, .ref q6, .ref q7, .ref q8, .int 0, .ref q9, .int 0, .ref q10, .ref q11, .ref q12, .ref q13, .int 0, .int 0, .int 0, .ref q14, .ref q15, .int 0, .int 0, .ref q16, .ref q17, .ref q18, .ref q19, .null, .null, .null, .int 0, .int 0], ia_ G q1 144 (fun _ => 0), ia_ G q2 144 (fun _ => 0), ia_ G q3 6 (fun _ => 0), ia_ G q4 6 (fun _ => 0), ia_ G q5 6 (fun _ => 0), ia_ G q6 6 (fun _ => 0), ia_ G q7 8 (fun _ => 0), ia_ G q8 8 (fun _ => 0), ia_ G q9 60 (fun _ => 0), ia_ G q10 60 (fun _ => 0), ia_ G q11 60 (fun _ => 0), ia_ G q12 60 (fun _ => 0), ia_ G q13 60 (fun _ => 0), ia_ G q14 25 (fun _ => 0), ia_ G q15 25 (fun _ => 0), ia_ G q16 144 (fun _ => 0), ia_ G q17 6 (fun _ => 0), ia_ G q18 384 (fun _ => 0), ia_ G q19 12 (fun _ => 0)] H _ := hw
  refine lv_aload_n hx hb dX10_init_160 rfl (lv_at hl 0 rfl) ?_
  refine lv_bipush (v := 12) hx hb dX10_init_161 (by decide) ?_
  refine g_newa hC hw (tb1 40 rfl rfl) (by decide) rfl (by decide) (Nat.le_of_ble_eq_true rfl) (Nat.le_of_ble_eq_true rfl) dX10_init_163 (fun q20 H hw => ?_)
  have hw : wd_ G (va_A [ob_ A_t 10 [.null, .null, .int 0, .int 0, .null, .null, .null, .null, .null, .null, .int 0, .null, .int 0, .null, .null, .null, .null, .int 0, .int 0, .int 0, .null, .null, .int 0, .int 0, .null, .null, .null, .null, .null, .null, .null, .int 0, .int 0]] sz) s.heap [ob_ A_t 10 [.ref q1, .ref q2, .int 0, .int 0, .ref q3, .ref q4, .ref q5, .ref q6, .ref q7, .ref q8, .int 0, .ref q9, .int 0, .ref q10, .ref q11, .ref q12, .ref q13, .int 0, .int 0, .int 0, .ref q14, .ref q15, .int 0, .int 0, .ref q16, .ref q17, .ref q18, .ref q19, .null, .null, .null, .int 0, .int 0], ia_ G q1 144 (fun _ => 0), ia_ G q2 144 (fun _ => 0), ia_ G q3 6 (fun _ => 0), ia_ G q4 6 (fun _ => 0), ia_ G q5 6 (fun _ => 0), ia_ G q6 6 (fun _ => 0), ia_ G q7 8 (fun _ => 0), ia_ G q8 8 (fun _ => 0), ia_ G q9 60 (fun _ => 0), ia_ G q10 60 (fun _ => 0), ia_ G q11 60 (fun _ => 0), ia_ G q12 60 (fun _ => 0), ia_ G q13 60 (fun _ => 0), ia_ G q14 25 (fun _ => 0), ia_ G q15 25 (fun _ => 0), ia_ G q16 144 (fun _ => 0), ia_ G q17 6 (fun _ => 0), ia_ G q18 384 (fun _ => 0), ia_ G q19 12 (fun _ => 0), ia_ G q20 12 (fun _ => 0)] H _ := hw
  refine g_putF hC hw hnm ffX10_67 0 rfl rfl rfl (Nat.le_of_ble_eq_true rfl) dX10_init_165 (fun H locs hw => ?_)
  have hw : wd_ G (va_A [ob_ A_t 10 [.null, .null, .int 0, .int 0, .null, .null, .null, .null, .null, .null, .int 0, .null, .int 0, .null, .null, .null, .null, .int 0, .int 0, .int 0, .null, .null, .int 0, .int 0, .null, .null, .null, .null, .null, .null, .null, .int 0, .int 0]] sz) s.heap [ob_ A_t 10 [.ref q1, .ref q2, .int 0, .int 0, .ref q3, .ref q4, .ref q5, .ref q6, .ref q7, .ref q8, .int 0, .ref q9, .int 0, .ref q10, .ref q11, .ref q12, .ref q13, .int 0, .int 0, .int 0, .ref q14, .ref q15, .int 0, .int 0, .ref q16, .ref q17, .ref q18, .ref q19, .ref q20, .null, .null, .int 0, .int 0], ia_ G q1 144 (fun _ => 0), ia_ G q2 144 (fun _ => 0), ia_ G q3 6 (fun _ => 0), ia_ G q4 6 (fun _ => 0), ia_ G q5 6 (fun _ => 0), ia_ G q6 6 (fun _ => 0), ia_ G q7 8 (fun _ => 0), ia_ G q8 8 (fun _ => 0), ia_ G q9 60 (fun _ => 0), ia_ G q10 60 (fun _ => 0), ia_ G q11 60 (fun _ => 0), ia_ G q12 60 (fun _ => 0), ia_ G q13 60 (fun _ => 0), ia_ G q14 25 (fun _ => 0), ia_ G q15 25 (fun _ => 0), ia_ G q16 144 (fun _ => 0), ia_ G q17 6 (fun _ => 0), ia_ G q18 384 (fun _ => 0), ia_ G q19 12 (fun _ => 0), ia_ G q20 12 (fun _ => 0)] H _ := hw
  refine lv_aload_n hx hb dX10_init_168 rfl (lv_at hl 0 rfl) ?_
  refine lv_sipush (v := 700) hx hb dX10_init_169 (by decide) ?_
  refine g_newa hC hw (tb1 40 rfl rfl) (by decide) rfl (by decide) (Nat.le_of_ble_eq_true rfl) (Nat.le_of_ble_eq_true rfl) dX10_init_172 (fun q21 H hw => ?_)
  have hw : wd_ G (va_A [ob_ A_t 10 [.null, .null, .int 0, .int 0, .null, .null, .null, .null, .null, .null, .int 0, .null, .int 0, .null, .null, .null, .null, .int 0, .int 0, .int 0, .null, .null, .int 0, .int 0, .null, .null, .null, .null, .null, .null, .null, .int 0, .int 0]] sz) s.heap [ob_ A_t 10 [.ref q1, .ref q2, .int 0, .int 0, .ref q3, .ref q4, .ref q5, .ref q6, .ref q7, .ref q8, .int 0, .ref q9, .int 0, .ref q10, .ref q11, .ref q12, .ref q13, .int 0, .int 0, .int 0, .ref q14, .ref q15, .int 0, .int 0, .ref q16, .ref q17, .ref q18, .ref q19, .ref q20, .null, .null, .int 0, .int 0], ia_ G q1 144 (fun _ => 0), ia_ G q2 144 (fun _ => 0), ia_ G q3 6 (fun _ => 0), ia_ G q4 6 (fun _ => 0), ia_ G q5 6 (fun _ => 0), ia_ G q6 6 (fun _ => 0), ia_ G q7 8 (fun _ => 0), ia_ G q8 8 (fun _ => 0), ia_ G q9 60 (fun _ => 0), ia_ G q10 60 (fun _ => 0), ia_ G q11 60 (fun _ => 0), ia_ G q12 60 (fun _ => 0), ia_ G q13 60 (fun _ => 0), ia_ G q14 25 (fun _ => 0), ia_ G q15 25 (fun _ => 0), ia_ G q16 144 (fun _ => 0), ia_ G q17 6 (fun _ => 0), ia_ G q18 384 (fun _ => 0), ia_ G q19 12 (fun _ => 0), ia_ G q20 12 (fun _ => 0), ia_ G q21 700 (fun _ => 0)] H _ := hw
  refine g_putF hC hw hnm ffX10_70 0 rfl rfl rfl (Nat.le_of_ble_eq_true rfl) dX10_init_174 (fun H locs hw => ?_)
  have hw : wd_ G (va_A [ob_ A_t 10 [.null, .null, .int 0, .int 0, .null, .null, .null, .null, .null, .null, .int 0, .null, .int 0, .null, .null, .null, .null, .int 0, .int 0, .int 0, .null, .null, .int 0, .int 0, .null, .null, .null, .null, .null, .null, .null, .int 0, .int 0]] sz) s.heap [ob_ A_t 10 [.ref q1, .ref q2, .int 0, .int 0, .ref q3, .ref q4, .ref q5, .ref q6, .ref q7, .ref q8, .int 0, .ref q9, .int 0, .ref q10, .ref q11, .ref q12, .ref q13, .int 0, .int 0, .int 0, .ref q14, .ref q15, .int 0, .int 0, .ref q16, .ref q17, .ref q18, .ref q19, .ref q20, .ref q21, .null, .int 0, .int 0], ia_ G q1 144 (fun _ => 0), ia_ G q2 144 (fun _ => 0), ia_ G q3 6 (fun _ => 0), ia_ G q4 6 (fun _ => 0), ia_ G q5 6 (fun _ => 0), ia_ G q6 6 (fun _ => 0), ia_ G q7 8 (fun _ => 0), ia_ G q8 8 (fun _ => 0), ia_ G q9 60 (fun _ => 0), ia_ G q10 60 (fun _ => 0), ia_ G q11 60 (fun _ => 0), ia_ G q12 60 (fun _ => 0), ia_ G q13 60 (fun _ => 0), ia_ G q14 25 (fun _ => 0), ia_ G q15 25 (fun _ => 0), ia_ G q16 144 (fun _ => 0), ia_ G q17 6 (fun _ => 0), ia_ G q18 384 (fun _ => 0), ia_ G q19 12 (fun _ => 0), ia_ G q20 12 (fun _ => 0), ia_ G q21 700 (fun _ => 0)] H _ := hw
  refine lv_aload_n hx hb dX10_init_177 rfl (lv_at hl 0 rfl) ?_
  refine lv_iconst (v := 2) hx hb dX10_init_178 (by decide) ?_
  refine g_newz hC hw (tb4 102 rfl rfl) (by decide) rfl (by decide) (Nat.le_of_ble_eq_true rfl) (Nat.le_of_ble_eq_true rfl) dX10_init_179 (fun q22 H hw => ?_)
  have hw : wd_ G (va_A [ob_ A_t 10 [.null, .null, .int 0, .int 0, .null, .null, .null, .null, .null, .null, .int 0, .null, .int 0, .null, .null, .null, .null, .int 0, .int 0, .int 0, .null, .null, .int 0, .int 0, .null, .null, .null, .null, .null, .null, .null, .int 0, .int 0]] sz) s.heap [ob_ A_t 10 [.ref q1, .ref q2, .int 0, .int 0, .ref q3, .ref q4, .ref q5, .ref q6, .ref q7, .ref q8, .int 0, .ref q9, .int 0, .ref q10, .ref q11, .ref q12, .ref q13, .int 0, .int 0, .int 0, .ref q14, .ref q15, .int 0, .int 0, .ref q16, .ref q17, .ref q18, .ref q19, .ref q20, .ref q21, .null, .int 0, .int 0], ia_ G q1 144 (fun _ => 0), ia_ G q2 144 (fun _ => 0), ia_ G q3 6 (fun _ => 0), ia_ G q4 6 (fun _ => 0), ia_ G q5 6 (fun _ => 0), ia_ G q6 6 (fun _ => 0), ia_ G q7 8 (fun _ => 0), ia_ G q8 8 (fun _ => 0), ia_ G q9 60 (fun _ => 0), ia_ G q10 60 (fun _ => 0), ia_ G q11 60 (fun _ => 0), ia_ G q12 60 (fun _ => 0), ia_ G q13 60 (fun _ => 0), ia_ G q14 25 (fun _ => 0), ia_ G q15 25 (fun _ => 0), ia_ G q16 144 (fun _ => 0), ia_ G q17 6 (fun _ => 0), ia_ G q18 384 (fun _ => 0), ia_ G q19 12 (fun _ => 0), ia_ G q20 12 (fun _ => 0), ia_ G q21 700 (fun _ => 0), za_ G q22 2 (fun _ => 0)] H _ := hw
  refine g_putF hC hw hnm ffX10_73 0 rfl rfl rfl (Nat.le_of_ble_eq_true rfl) dX10_init_181 (fun H locs hw => ?_)
  have hw : wd_ G (va_A [ob_ A_t 10 [.null, .null, .int 0, .int 0, .null, .null, .null, .null, .null, .null, .int 0, .null, .int 0, .null, .null, .null, .null, .int 0, .int 0, .int 0, .null, .null, .int 0, .int 0, .null, .null, .null, .null, .null, .null, .null, .int 0, .int 0]] sz) s.heap [ob_ A_t 10 [.ref q1, .ref q2, .int 0, .int 0, .ref q3, .ref q4, .ref q5, .ref q6, .ref q7, .ref q8, .int 0, .ref q9, .int 0, .ref q10, .ref q11, .ref q12, .ref q13, .int 0, .int 0, .int 0, .ref q14, .ref q15, .int 0, .int 0, .ref q16, .ref q17, .ref q18, .ref q19, .ref q20, .ref q21, .ref q22, .int 0, .int 0], ia_ G q1 144 (fun _ => 0), ia_ G q2 144 (fun _ => 0), ia_ G q3 6 (fun _ => 0), ia_ G q4 6 (fun _ => 0), ia_ G q5 6 (fun _ => 0), ia_ G q6 6 (fun _ => 0), ia_ G q7 8 (fun _ => 0), ia_ G q8 8 (fun _ => 0), ia_ G q9 60 (fun _ => 0), ia_ G q10 60 (fun _ => 0), ia_ G q11 60 (fun _ => 0), ia_ G q12 60 (fun _ => 0), ia_ G q13 60 (fun _ => 0), ia_ G q14 25 (fun _ => 0), ia_ G q15 25 (fun _ => 0), ia_ G q16 144 (fun _ => 0), ia_ G q17 6 (fun _ => 0), ia_ G q18 384 (fun _ => 0), ia_ G q19 12 (fun _ => 0), ia_ G q20 12 (fun _ => 0), ia_ G q21 700 (fun _ => 0), za_ G q22 2 (fun _ => 0)] H _ := hw
  refine lv_iconst (v := 0) hx hb dX10_init_184 (by decide) ?_
  refine lv_istore_n (lv' := [(1, .int 0), (0, .ref A_t)]) hx hb dX10_init_185 rfl hl (by decide) rfl (fun ls hl => ?_)
  refine lv_iload_n hx hb dX10_init_186 rfl (lv_at hl 0 rfl) ?_
  refine lv_bipush (v := 6) hx hb dX10_init_187 (by decide) ?_
  refine lv_icmp_ge (tgt := 206) hx hb dX10_init_189 (by decide) (fun hc => absurd hc (by decide)) (fun _ => ?_)
  refine lv_aload_n hx hb dX10_init_192 rfl (lv_at hl 1 rfl) ?_
  refine g_get hC hw fkX10_25 0 rfl rfl dX10_init_193 ?_
  refine lv_iload_n hx hb dX10_init_196 rfl (lv_at hl 0 rfl) ?_
  refine lv_bipush (v := (-6)) hx hb dX10_init_197 (by decide) ?_
  refine g_iast (f1 := upd (fun _ => 0) 0 (-6)) hC hw 6 rfl (by unfold vp_in; decide) rfl dX10_init_199 (fun H locs hw => ?_)
  have hw : wd_ G (va_A [ob_ A_t 10 [.null, .null, .int 0, .int 0, .null, .null, .null, .null, .null, .null, .int 0, .null, .int 0, .null, .null, .null, .null, .int 0, .int 0, .int 0, .null, .null, .int 0, .int 0, .null, .null, .null, .null, .null, .null, .null, .int 0, .int 0]] sz) s.heap [ob_ A_t 10 [.ref q1, .ref q2, .int 0, .int 0, .ref q3, .ref q4, .ref q5, .ref q6, .ref q7, .ref q8, .int 0, .ref q9, .int 0, .ref q10, .ref q11, .ref q12, .ref q13, .int 0, .int 0, .int 0, .ref q14, .ref q15, .int 0, .int 0, .ref q16, .ref q17, .ref q18, .ref q19, .ref q20, .ref q21, .ref q22, .int 0, .int 0], ia_ G q1 144 (fun _ => 0), ia_ G q2 144 (fun _ => 0), ia_ G q3 6 (fun _ => 0), ia_ G q4 6 (fun _ => 0), ia_ G q5 6 (fun _ => 0), ia_ G q6 6 (upd (fun _ => 0) 0 (-6)), ia_ G q7 8 (fun _ => 0), ia_ G q8 8 (fun _ => 0), ia_ G q9 60 (fun _ => 0), ia_ G q10 60 (fun _ => 0), ia_ G q11 60 (fun _ => 0), ia_ G q12 60 (fun _ => 0), ia_ G q13 60 (fun _ => 0), ia_ G q14 25 (fun _ => 0), ia_ G q15 25 (fun _ => 0), ia_ G q16 144 (fun _ => 0), ia_ G q17 6 (fun _ => 0), ia_ G q18 384 (fun _ => 0), ia_ G q19 12 (fun _ => 0), ia_ G q20 12 (fun _ => 0), ia_ G q21 700 (fun _ => 0), za_ G q22 2 (fun _ => 0)] H _ := hw
  refine lv_iinc (v := 1) (lv' := [(1, .int 1), (0, .ref A_t)]) hx hb dX10_init_200 hl (k := 0) rfl (by decide) (by decide) rfl (fun ls hl => ?_)
  refine lv_goto (tgt := 186) hx hb dX10_init_203 (by decide) ?_
  refine lv_iload_n hx hb dX10_init_186 rfl (lv_at hl 0 rfl) ?_
  refine lv_bipush (v := 6) hx hb dX10_init_187 (by decide) ?_
  refine lv_icmp_ge (tgt := 206) hx hb dX10_init_189 (by decide) (fun hc => absurd hc (by decide)) (fun _ => ?_)
  refine lv_aload_n hx hb dX10_init_192 rfl (lv_at hl 1 rfl) ?_
  refine g_get hC hw fkX10_25 0 rfl rfl dX10_init_193 ?_
  refine lv_iload_n hx hb dX10_init_196 rfl (lv_at hl 0 rfl) ?_
  refine lv_bipush (v := (-6)) hx hb dX10_init_197 (by decide) ?_
  refine g_iast (f1 := upd (upd (fun _ => 0) 0 (-6)) 1 (-6)) hC hw 6 rfl (by unfold vp_in; decide) rfl dX10_init_199 (fun H locs hw => ?_)
  have hw : wd_ G (va_A [ob_ A_t 10 [.null, .null, .int 0, .int 0, .null, .null, .null, .null, .null, .null, .int 0, .null, .int 0, .null, .null, .null, .null, .int 0, .int 0, .int 0, .null, .null, .int 0, .int 0, .null, .null, .null, .null, .null, .null, .null, .int 0, .int 0]] sz) s.heap [ob_ A_t 10 [.ref q1, .ref q2, .int 0, .int 0, .ref q3, .ref q4, .ref q5, .ref q6, .ref q7, .ref q8, .int 0, .ref q9, .int 0, .ref q10, .ref q11, .ref q12, .ref q13, .int 0, .int 0, .int 0, .ref q14, .ref q15, .int 0, .int 0, .ref q16, .ref q17, .ref q18, .ref q19, .ref q20, .ref q21, .ref q22, .int 0, .int 0], ia_ G q1 144 (fun _ => 0), ia_ G q2 144 (fun _ => 0), ia_ G q3 6 (fun _ => 0), ia_ G q4 6 (fun _ => 0), ia_ G q5 6 (fun _ => 0), ia_ G q6 6 (upd (upd (fun _ => 0) 0 (-6)) 1 (-6)), ia_ G q7 8 (fun _ => 0), ia_ G q8 8 (fun _ => 0), ia_ G q9 60 (fun _ => 0), ia_ G q10 60 (fun _ => 0), ia_ G q11 60 (fun _ => 0), ia_ G q12 60 (fun _ => 0), ia_ G q13 60 (fun _ => 0), ia_ G q14 25 (fun _ => 0), ia_ G q15 25 (fun _ => 0), ia_ G q16 144 (fun _ => 0), ia_ G q17 6 (fun _ => 0), ia_ G q18 384 (fun _ => 0), ia_ G q19 12 (fun _ => 0), ia_ G q20 12 (fun _ => 0), ia_ G q21 700 (fun _ => 0), za_ G q22 2 (fun _ => 0)] H _ := hw
  refine lv_iinc (v := 2) (lv' := [(1, .int 2), (0, .ref A_t)]) hx hb dX10_init_200 hl (k := 0) rfl (by decide) (by decide) rfl (fun ls hl => ?_)
  refine lv_goto (tgt := 186) hx hb dX10_init_203 (by decide) ?_
  refine lv_iload_n hx hb dX10_init_186 rfl (lv_at hl 0 rfl) ?_
  refine lv_bipush (v := 6) hx hb dX10_init_187 (by decide) ?_
  refine lv_icmp_ge (tgt := 206) hx hb dX10_init_189 (by decide) (fun hc => absurd hc (by decide)) (fun _ => ?_)
  refine lv_aload_n hx hb dX10_init_192 rfl (lv_at hl 1 rfl) ?_
  refine g_get hC hw fkX10_25 0 rfl rfl dX10_init_193 ?_
  refine lv_iload_n hx hb dX10_init_196 rfl (lv_at hl 0 rfl) ?_
  refine lv_bipush (v := (-6)) hx hb dX10_init_197 (by decide) ?_
  refine g_iast (f1 := upd (upd (upd (fun _ => 0) 0 (-6)) 1 (-6)) 2 (-6)) hC hw 6 rfl (by unfold vp_in; decide) rfl dX10_init_199 (fun H locs hw => ?_)
  have hw : wd_ G (va_A [ob_ A_t 10 [.null, .null, .int 0, .int 0, .null, .null, .null, .null, .null, .null, .int 0, .null, .int 0, .null, .null, .null, .null, .int 0, .int 0, .int 0, .null, .null, .int 0, .int 0, .null, .null, .null, .null, .null, .null, .null, .int 0, .int 0]] sz) s.heap [ob_ A_t 10 [.ref q1, .ref q2, .int 0, .int 0, .ref q3, .ref q4, .ref q5, .ref q6, .ref q7, .ref q8, .int 0, .ref q9, .int 0, .ref q10, .ref q11, .ref q12, .ref q13, .int 0, .int 0, .int 0, .ref q14, .ref q15, .int 0, .int 0, .ref q16, .ref q17, .ref q18, .ref q19, .ref q20, .ref q21, .ref q22, .int 0, .int 0], ia_ G q1 144 (fun _ => 0), ia_ G q2 144 (fun _ => 0), ia_ G q3 6 (fun _ => 0), ia_ G q4 6 (fun _ => 0), ia_ G q5 6 (fun _ => 0), ia_ G q6 6 (upd (upd (upd (fun _ => 0) 0 (-6)) 1 (-6)) 2 (-6)), ia_ G q7 8 (fun _ => 0), ia_ G q8 8 (fun _ => 0), ia_ G q9 60 (fun _ => 0), ia_ G q10 60 (fun _ => 0), ia_ G q11 60 (fun _ => 0), ia_ G q12 60 (fun _ => 0), ia_ G q13 60 (fun _ => 0), ia_ G q14 25 (fun _ => 0), ia_ G q15 25 (fun _ => 0), ia_ G q16 144 (fun _ => 0), ia_ G q17 6 (fun _ => 0), ia_ G q18 384 (fun _ => 0), ia_ G q19 12 (fun _ => 0), ia_ G q20 12 (fun _ => 0), ia_ G q21 700 (fun _ => 0), za_ G q22 2 (fun _ => 0)] H _ := hw
  refine lv_iinc (v := 3) (lv' := [(1, .int 3), (0, .ref A_t)]) hx hb dX10_init_200 hl (k := 0) rfl (by decide) (by decide) rfl (fun ls hl => ?_)
  refine lv_goto (tgt := 186) hx hb dX10_init_203 (by decide) ?_
  refine lv_iload_n hx hb dX10_init_186 rfl (lv_at hl 0 rfl) ?_
  refine lv_bipush (v := 6) hx hb dX10_init_187 (by decide) ?_
  refine lv_icmp_ge (tgt := 206) hx hb dX10_init_189 (by decide) (fun hc => absurd hc (by decide)) (fun _ => ?_)
  refine lv_aload_n hx hb dX10_init_192 rfl (lv_at hl 1 rfl) ?_
  refine g_get hC hw fkX10_25 0 rfl rfl dX10_init_193 ?_
  refine lv_iload_n hx hb dX10_init_196 rfl (lv_at hl 0 rfl) ?_
  refine lv_bipush (v := (-6)) hx hb dX10_init_197 (by decide) ?_
  refine g_iast (f1 := upd (upd (upd (upd (fun _ => 0) 0 (-6)) 1 (-6)) 2 (-6)) 3 (-6)) hC hw 6 rfl (by unfold vp_in; decide) rfl dX10_init_199 (fun H locs hw => ?_)
  have hw : wd_ G (va_A [ob_ A_t 10 [.null, .null, .int 0, .int 0, .null, .null, .null, .null, .null, .null, .int 0, .null, .int 0, .null, .null, .null, .null, .int 0, .int 0, .int 0, .null, .null, .int 0, .int 0, .null, .null, .null, .null, .null, .null, .null, .int 0, .int 0]] sz) s.heap [ob_ A_t 10 [.ref q1, .ref q2, .int 0, .int 0, .ref q3, .ref q4, .ref q5, .ref q6, .ref q7, .ref q8, .int 0, .ref q9, .int 0, .ref q10, .ref q11, .ref q12, .ref q13, .int 0, .int 0, .int 0, .ref q14, .ref q15, .int 0, .int 0, .ref q16, .ref q17, .ref q18, .ref q19, .ref q20, .ref q21, .ref q22, .int 0, .int 0], ia_ G q1 144 (fun _ => 0), ia_ G q2 144 (fun _ => 0), ia_ G q3 6 (fun _ => 0), ia_ G q4 6 (fun _ => 0), ia_ G q5 6 (fun _ => 0), ia_ G q6 6 (upd (upd (upd (upd (fun _ => 0) 0 (-6)) 1 (-6)) 2 (-6)) 3 (-6)), ia_ G q7 8 (fun _ => 0), ia_ G q8 8 (fun _ => 0), ia_ G q9 60 (fun _ => 0), ia_ G q10 60 (fun _ => 0), ia_ G q11 60 (fun _ => 0), ia_ G q12 60 (fun _ => 0), ia_ G q13 60 (fun _ => 0), ia_ G q14 25 (fun _ => 0), ia_ G q15 25 (fun _ => 0), ia_ G q16 144 (fun _ => 0), ia_ G q17 6 (fun _ => 0), ia_ G q18 384 (fun _ => 0), ia_ G q19 12 (fun _ => 0), ia_ G q20 12 (fun _ => 0), ia_ G q21 700 (fun _ => 0), za_ G q22 2 (fun _ => 0)] H _ := hw
  refine lv_iinc (v := 4) (lv' := [(1, .int 4), (0, .ref A_t)]) hx hb dX10_init_200 hl (k := 0) rfl (by decide) (by decide) rfl (fun ls hl => ?_)
  refine lv_goto (tgt := 186) hx hb dX10_init_203 (by decide) ?_
  refine lv_iload_n hx hb dX10_init_186 rfl (lv_at hl 0 rfl) ?_
  refine lv_bipush (v := 6) hx hb dX10_init_187 (by decide) ?_
  refine lv_icmp_ge (tgt := 206) hx hb dX10_init_189 (by decide) (fun hc => absurd hc (by decide)) (fun _ => ?_)
  refine lv_aload_n hx hb dX10_init_192 rfl (lv_at hl 1 rfl) ?_
  refine g_get hC hw fkX10_25 0 rfl rfl dX10_init_193 ?_
  refine lv_iload_n hx hb dX10_init_196 rfl (lv_at hl 0 rfl) ?_
  refine lv_bipush (v := (-6)) hx hb dX10_init_197 (by decide) ?_
  refine g_iast (f1 := upd (upd (upd (upd (upd (fun _ => 0) 0 (-6)) 1 (-6)) 2 (-6)) 3 (-6)) 4 (-6)) hC hw 6 rfl (by unfold vp_in; decide) rfl dX10_init_199 (fun H locs hw => ?_)
  have hw : wd_ G (va_A [ob_ A_t 10 [.null, .null, .int 0, .int 0, .null, .null, .null, .null, .null, .null, .int 0, .null, .int 0, .null, .null, .null, .null, .int 0, .int 0, .int 0, .null, .null, .int 0, .int 0, .null, .null, .null, .null, .null, .null, .null, .int 0, .int 0]] sz) s.heap [ob_ A_t 10 [.ref q1, .ref q2, .int 0, .int 0, .ref q3, .ref q4, .ref q5, .ref q6, .ref q7, .ref q8, .int 0, .ref q9, .int 0, .ref q10, .ref q11, .ref q12, .ref q13, .int 0, .int 0, .int 0, .ref q14, .ref q15, .int 0, .int 0, .ref q16, .ref q17, .ref q18, .ref q19, .ref q20, .ref q21, .ref q22, .int 0, .int 0], ia_ G q1 144 (fun _ => 0), ia_ G q2 144 (fun _ => 0), ia_ G q3 6 (fun _ => 0), ia_ G q4 6 (fun _ => 0), ia_ G q5 6 (fun _ => 0), ia_ G q6 6 (upd (upd (upd (upd (upd (fun _ => 0) 0 (-6)) 1 (-6)) 2 (-6)) 3 (-6)) 4 (-6)), ia_ G q7 8 (fun _ => 0), ia_ G q8 8 (fun _ => 0), ia_ G q9 60 (fun _ => 0), ia_ G q10 60 (fun _ => 0), ia_ G q11 60 (fun _ => 0), ia_ G q12 60 (fun _ => 0), ia_ G q13 60 (fun _ => 0), ia_ G q14 25 (fun _ => 0), ia_ G q15 25 (fun _ => 0), ia_ G q16 144 (fun _ => 0), ia_ G q17 6 (fun _ => 0), ia_ G q18 384 (fun _ => 0), ia_ G q19 12 (fun _ => 0), ia_ G q20 12 (fun _ => 0), ia_ G q21 700 (fun _ => 0), za_ G q22 2 (fun _ => 0)] H _ := hw
  refine lv_iinc (v := 5) (lv' := [(1, .int 5), (0, .ref A_t)]) hx hb dX10_init_200 hl (k := 0) rfl (by decide) (by decide) rfl (fun ls hl => ?_)
  refine lv_goto (tgt := 186) hx hb dX10_init_203 (by decide) ?_
  refine lv_iload_n hx hb dX10_init_186 rfl (lv_at hl 0 rfl) ?_
  refine lv_bipush (v := 6) hx hb dX10_init_187 (by decide) ?_
  refine lv_icmp_ge (tgt := 206) hx hb dX10_init_189 (by decide) (fun hc => absurd hc (by decide)) (fun _ => ?_)
  refine lv_aload_n hx hb dX10_init_192 rfl (lv_at hl 1 rfl) ?_
  refine g_get hC hw fkX10_25 0 rfl rfl dX10_init_193 ?_
  refine lv_iload_n hx hb dX10_init_196 rfl (lv_at hl 0 rfl) ?_
  refine lv_bipush (v := (-6)) hx hb dX10_init_197 (by decide) ?_
  refine g_iast (f1 := upd (upd (upd (upd (upd (upd (fun _ => 0) 0 (-6)) 1 (-6)) 2 (-6)) 3 (-6)) 4 (-6)) 5 (-6)) hC hw 6 rfl (by unfold vp_in; decide) rfl dX10_init_199 (fun H locs hw => ?_)
  have hw : wd_ G (va_A [ob_ A_t 10 [.null, .null, .int 0, .int 0, .null, .null, .null, .null, .null, .null, .int 0, .null, .int 0, .null, .null, .null, .null, .int 0, .int 0, .int 0, .null, .null, .int 0, .int 0, .null, .null, .null, .null, .null, .null, .null, .int 0, .int 0]] sz) s.heap [ob_ A_t 10 [.ref q1, .ref q2, .int 0, .int 0, .ref q3, .ref q4, .ref q5, .ref q6, .ref q7, .ref q8, .int 0, .ref q9, .int 0, .ref q10, .ref q11, .ref q12, .ref q13, .int 0, .int 0, .int 0, .ref q14, .ref q15, .int 0, .int 0, .ref q16, .ref q17, .ref q18, .ref q19, .ref q20, .ref q21, .ref q22, .int 0, .int 0], ia_ G q1 144 (fun _ => 0), ia_ G q2 144 (fun _ => 0), ia_ G q3 6 (fun _ => 0), ia_ G q4 6 (fun _ => 0), ia_ G q5 6 (fun _ => 0), ia_ G q6 6 (upd (upd (upd (upd (upd (upd (fun _ => 0) 0 (-6)) 1 (-6)) 2 (-6)) 3 (-6)) 4 (-6)) 5 (-6)), ia_ G q7 8 (fun _ => 0), ia_ G q8 8 (fun _ => 0), ia_ G q9 60 (fun _ => 0), ia_ G q10 60 (fun _ => 0), ia_ G q11 60 (fun _ => 0), ia_ G q12 60 (fun _ => 0), ia_ G q13 60 (fun _ => 0), ia_ G q14 25 (fun _ => 0), ia_ G q15 25 (fun _ => 0), ia_ G q16 144 (fun _ => 0), ia_ G q17 6 (fun _ => 0), ia_ G q18 384 (fun _ => 0), ia_ G q19 12 (fun _ => 0), ia_ G q20 12 (fun _ => 0), ia_ G q21 700 (fun _ => 0), za_ G q22 2 (fun _ => 0)] H _ := hw
  refine lv_iinc (v := 6) (lv' := [(1, .int 6), (0, .ref A_t)]) hx hb dX10_init_200 hl (k := 0) rfl (by decide) (by decide) rfl (fun ls hl => ?_)
  refine lv_goto (tgt := 186) hx hb dX10_init_203 (by decide) ?_
  refine lv_iload_n hx hb dX10_init_186 rfl (lv_at hl 0 rfl) ?_
  refine lv_bipush (v := 6) hx hb dX10_init_187 (by decide) ?_
  refine lv_icmp_ge (tgt := 206) hx hb dX10_init_189 (by decide) (fun _ => ?_) (fun hc => absurd (by decide) hc)
  exact g_kret hC hr hlk hw ⟨q1, q2, q3, q4, q5, q6, q7, q8, q9, q10, q11, q12, q13, q14, q15, q16, q17, q18, q19, q20, q21, q22, rfl⟩ dX10_init_206
