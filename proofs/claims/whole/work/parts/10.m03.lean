theorem dX1_playYear_0 : decode cX1_playYear 0 = .ok (.aload_n 0, 1) := by decide +kernel
theorem dX1_playYear_1 : decode cX1_playYear 1 = .ok (.aload_n 1, 1) := by decide +kernel
theorem dX1_playYear_2 : decode cX1_playYear 2 = .ok (.invokevirtual 41, 3) := by decide +kernel
theorem dX1_playYear_5 : decode cX1_playYear 5 = .ok (.iload_n 2, 1) := by decide +kernel
theorem dX1_playYear_6 : decode cX1_playYear 6 = .ok (.istore 4, 2) := by decide +kernel
theorem dX1_playYear_8 : decode cX1_playYear 8 = .ok (.iconst 0, 1) := by decide +kernel
theorem dX1_playYear_9 : decode cX1_playYear 9 = .ok (.istore 5, 2) := by decide +kernel
theorem dX1_playYear_11 : decode cX1_playYear 11 = .ok (.iload 5, 2) := by decide +kernel
theorem dX1_playYear_13 : decode cX1_playYear 13 = .ok (.iload_n 3, 1) := by decide +kernel
theorem dX1_playYear_14 : decode cX1_playYear 14 = .ok (.if_icmp .ge 77, 3) := by decide +kernel
theorem dX1_playYear_17 : decode cX1_playYear 17 = .ok (.bipush 75, 2) := by decide +kernel
theorem dX1_playYear_19 : decode cX1_playYear 19 = .ok (.iload 4, 2) := by decide +kernel
theorem dX1_playYear_21 : decode cX1_playYear 21 = .ok (.imul, 1) := by decide +kernel
theorem dX1_playYear_22 : decode cX1_playYear 22 = .ok (.bipush 74, 2) := by decide +kernel
theorem dX1_playYear_24 : decode cX1_playYear 24 = .ok (.iadd, 1) := by decide +kernel
theorem dX1_playYear_25 : decode cX1_playYear 25 = .ok (.ldc 94, 2) := by decide +kernel
theorem dX1_playYear_27 : decode cX1_playYear 27 = .ok (.irem, 1) := by decide +kernel
theorem dX1_playYear_28 : decode cX1_playYear 28 = .ok (.istore 4, 2) := by decide +kernel
theorem dX1_playYear_30 : decode cX1_playYear 30 = .ok (.iload 4, 2) := by decide +kernel
theorem dX1_playYear_32 : decode cX1_playYear 32 = .ok (.bipush 17, 2) := by decide +kernel
theorem dX1_playYear_34 : decode cX1_playYear 34 = .ok (.irem, 1) := by decide +kernel
theorem dX1_playYear_35 : decode cX1_playYear 35 = .ok (.ifCond .ne 28, 3) := by decide +kernel
theorem dX1_playYear_38 : decode cX1_playYear 38 = .ok (.aload_n 0, 1) := by decide +kernel
theorem dX1_playYear_39 : decode cX1_playYear 39 = .ok (.getfield 12, 3) := by decide +kernel
theorem dX1_playYear_42 : decode cX1_playYear 42 = .ok (.aload_n 0, 1) := by decide +kernel
theorem dX1_playYear_43 : decode cX1_playYear 43 = .ok (.getfield 12, 3) := by decide +kernel
theorem dX1_playYear_46 : decode cX1_playYear 46 = .ok (.getfield 65, 3) := by decide +kernel
theorem dX1_playYear_49 : decode cX1_playYear 49 = .ok (.ifCond .ne 7, 3) := by decide +kernel
theorem dX1_playYear_52 : decode cX1_playYear 52 = .ok (.iconst 1, 1) := by decide +kernel
theorem dX1_playYear_53 : decode cX1_playYear 53 = .ok (.goto 4, 3) := by decide +kernel
theorem dX1_playYear_56 : decode cX1_playYear 56 = .ok (.iconst 0, 1) := by decide +kernel
theorem dX1_playYear_57 : decode cX1_playYear 57 = .ok (.putfield 65, 3) := by decide +kernel
theorem dX1_playYear_60 : decode cX1_playYear 60 = .ok (.goto 25, 3) := by decide +kernel
theorem dX1_playYear_63 : decode cX1_playYear 63 = .ok (.aload_n 0, 1) := by decide +kernel
theorem dX1_playYear_64 : decode cX1_playYear 64 = .ok (.aload_n 1, 1) := by decide +kernel
theorem dX1_playYear_65 : decode cX1_playYear 65 = .ok (.getfield 50, 3) := by decide +kernel
theorem dX1_playYear_68 : decode cX1_playYear 68 = .ok (.iload 4, 2) := by decide +kernel
theorem dX1_playYear_70 : decode cX1_playYear 70 = .ok (.bipush 6, 2) := by decide +kernel
theorem dX1_playYear_72 : decode cX1_playYear 72 = .ok (.irem, 1) := by decide +kernel
theorem dX1_playYear_73 : decode cX1_playYear 73 = .ok (.iload 4, 2) := by decide +kernel
theorem dX1_playYear_75 : decode cX1_playYear 75 = .ok (.bipush 6, 2) := by decide +kernel
theorem dX1_playYear_77 : decode cX1_playYear 77 = .ok (.idiv, 1) := by decide +kernel
theorem dX1_playYear_78 : decode cX1_playYear 78 = .ok (.bipush 12, 2) := by decide +kernel
theorem dX1_playYear_80 : decode cX1_playYear 80 = .ok (.irem, 1) := by decide +kernel
theorem dX1_playYear_81 : decode cX1_playYear 81 = .ok (.invokevirtual 76, 3) := by decide +kernel
theorem dX1_playYear_84 : decode cX1_playYear 84 = .ok (.pop, 1) := by decide +kernel
theorem dX1_playYear_85 : decode cX1_playYear 85 = .ok (.iinc 5 1, 3) := by decide +kernel
theorem dX1_playYear_88 : decode cX1_playYear 88 = .ok (.goto (-77), 3) := by decide +kernel
theorem dX1_playYear_91 : decode cX1_playYear 91 = .ok (.return_, 1) := by decide +kernel
abbrev wl_X1_playYear (G : gw_) (A_t : Nat) (A_t_crowd : Nat) (A_t_crowd_at : Nat) (A_t_crowd_home : Nat) (A_t_crowd_light : Nat) (A_t_crowd_carries : Nat) (A_t_crowd_bearer : Nat) (A_q1 : Nat) (A_q1_marsh : Nat) (A_q1_crowd : Nat) (A_q1_sights : Nat) (A_q1_marsh_codes : Nat) (A_q1_crowd_at : Nat) (A_q1_crowd_home : Nat) (A_q1_crowd_light : Nat) (A_q1_crowd_carries : Nat) (A_q1_crowd_bearer : Nat) (c_t_acts : Int32) (c_t_failedAct : Int32) (c_t_reason : Int32) (c_t_costs : Int32) (c_t_walks : Int32) (c_t_crowd_there : Int32) (c_t_crowd_foggy : Int32) (c_t_crowd_at : Nat → Int32) (c_t_crowd_home : Nat → Int32) (c_t_crowd_light : Nat → Int32) (c_t_crowd_carries : Nat → Int32) (c_t_crowd_bearer : Nat → Int32) (c_q1_marsh_codes : Nat → Int32) (c_q1_crowd_there : Int32) (c_q1_crowd_foggy : Int32) (c_q1_crowd_at : Nat → Int32) (c_q1_crowd_home : Nat → Int32) (c_q1_crowd_light : Nat → Int32) (c_q1_crowd_carries : Nat → Int32) (c_q1_crowd_bearer : Nat → Int32) : va_W := [ob_ A_t 1 [.ref A_t_crowd, .int c_t_acts, .int c_t_failedAct, .int c_t_reason, .int c_t_costs, .int c_t_walks], ob_ A_t_crowd 0 [.int c_t_crowd_there, .int c_t_crowd_foggy, .ref A_t_crowd_at, .ref A_t_crowd_home, .ref A_t_crowd_light, .ref A_t_crowd_carries, .ref A_t_crowd_bearer], ia_ G A_t_crowd_at 6 c_t_crowd_at, ia_ G A_t_crowd_home 6 c_t_crowd_home, ia_ G A_t_crowd_light 6 c_t_crowd_light, ia_ G A_t_crowd_carries 6 c_t_crowd_carries, ia_ G A_t_crowd_bearer 6 c_t_crowd_bearer, ob_ A_q1 5 [.ref A_q1_marsh, .ref A_q1_crowd, .ref A_q1_sights], ob_ A_q1_marsh 2 [.ref A_q1_marsh_codes], ia_ G A_q1_marsh_codes 144 c_q1_marsh_codes, ob_ A_q1_crowd 0 [.int c_q1_crowd_there, .int c_q1_crowd_foggy, .ref A_q1_crowd_at, .ref A_q1_crowd_home, .ref A_q1_crowd_light, .ref A_q1_crowd_carries, .ref A_q1_crowd_bearer], ia_ G A_q1_crowd_at 6 c_q1_crowd_at, ia_ G A_q1_crowd_home 6 c_q1_crowd_home, ia_ G A_q1_crowd_light 6 c_q1_crowd_light, ia_ G A_q1_crowd_carries 6 c_q1_crowd_carries, ia_ G A_q1_crowd_bearer 6 c_q1_crowd_bearer]
def fn_X1_playYear_b11 (c_t_crowd_there : Int32) (c_t_crowd_carries : Nat → Int32) (c_t_crowd_bearer : Nat → Int32) (c_q1_marsh_codes : Nat → Int32) (x3 : Int32) (rc : Int32 → Int32 → Int32 → Int32 → Int32 → (Nat → Int32) → (Nat → Int32) → Option (Int32 × Int32 × Int32 × Int32 × Int32 × Int32 × Int32 × (Nat → Int32) × (Nat → Int32) × (Nat → Int32) × (Nat → Int32) × (Nat → Int32))) (k : Int32 → Int32 → Int32 → (Nat → Int32) → (Nat → Int32) → Option (Int32 × Int32 × Int32 × Int32 × Int32 × Int32 × Int32 × (Nat → Int32) × (Nat → Int32) × (Nat → Int32) × (Nat → Int32) × (Nat → Int32))) (x4 : Int32) (x5 : Int32) (c_t_costs : Int32) (c_t_walks : Int32) (c_t_crowd_foggy : Int32) (c_t_crowd_at : Nat → Int32) (c_t_crowd_light : Nat → Int32) : Option (Int32 × Int32 × Int32 × Int32 × Int32 × Int32 × Int32 × (Nat → Int32) × (Nat → Int32) × (Nat → Int32) × (Nat → Int32) × (Nat → Int32)) :=
  if x3 ≤ x5 then
    k c_t_costs c_t_walks c_t_crowd_foggy c_t_crowd_at c_t_crowd_light
  else
    lx_ (((75 * x4) + 74) - ((75 * x4) + 74) / 65537 * 65537) fun y14 =>
    if (y14 - y14 / 17 * 17) = 0 then
      if c_t_crowd_foggy = 0 then
        rc y14 (x5 + 1) c_t_costs c_t_walks 1 c_t_crowd_at c_t_crowd_light
      else
        rc y14 (x5 + 1) c_t_costs c_t_walks 0 c_t_crowd_at c_t_crowd_light
    else
      b5_ (fn_X1_walk c_t_costs c_t_walks c_t_crowd_there c_t_crowd_foggy c_t_crowd_at c_t_crowd_light c_t_crowd_carries c_t_crowd_bearer c_q1_marsh_codes (y14 - y14 / 6 * 6) ((y14 / 6) - (y14 / 6) / 12 * 12)) fun r15 w16 w17 w18 w19 =>
      rc y14 (x5 + 1) w16 w17 c_t_crowd_foggy w18 w19
def fn_X1_playYear_l11 (c_t_crowd_there : Int32) (c_t_crowd_carries : Nat → Int32) (c_t_crowd_bearer : Nat → Int32) (c_q1_marsh_codes : Nat → Int32) (x3 : Int32) (k : Int32 → Int32 → Int32 → (Nat → Int32) → (Nat → Int32) → Option (Int32 × Int32 × Int32 × Int32 × Int32 × Int32 × Int32 × (Nat → Int32) × (Nat → Int32) × (Nat → Int32) × (Nat → Int32) × (Nat → Int32))) : Nat → Int32 → Int32 → Int32 → Int32 → Int32 → (Nat → Int32) → (Nat → Int32) → Option (Int32 × Int32 × Int32 × Int32 × Int32 × Int32 × Int32 × (Nat → Int32) × (Nat → Int32) × (Nat → Int32) × (Nat → Int32) × (Nat → Int32))
  | 0 => fun _ _ _ _ _ _ _ => none
  | n + 1 => fun x4 x5 c_t_costs c_t_walks c_t_crowd_foggy c_t_crowd_at c_t_crowd_light => fn_X1_playYear_b11 c_t_crowd_there c_t_crowd_carries c_t_crowd_bearer c_q1_marsh_codes x3 (fn_X1_playYear_l11 c_t_crowd_there c_t_crowd_carries c_t_crowd_bearer c_q1_marsh_codes x3 k n) k x4 x5 c_t_costs c_t_walks c_t_crowd_foggy c_t_crowd_at c_t_crowd_light
def fn_X1_playYear (c_t_acts : Int32) (c_t_failedAct : Int32) (c_t_reason : Int32) (c_t_costs : Int32) (c_t_walks : Int32) (c_t_crowd_there : Int32) (c_t_crowd_foggy : Int32) (c_t_crowd_at : Nat → Int32) (c_t_crowd_home : Nat → Int32) (c_t_crowd_light : Nat → Int32) (c_t_crowd_carries : Nat → Int32) (c_t_crowd_bearer : Nat → Int32) (c_q1_marsh_codes : Nat → Int32) (c_q1_crowd_there : Int32) (c_q1_crowd_foggy : Int32) (c_q1_crowd_at : Nat → Int32) (c_q1_crowd_home : Nat → Int32) (c_q1_crowd_light : Nat → Int32) (c_q1_crowd_carries : Nat → Int32) (c_q1_crowd_bearer : Nat → Int32) (x2 : Int32) (x3 : Int32) : Option (Int32 × Int32 × Int32 × Int32 × Int32 × Int32 × Int32 × (Nat → Int32) × (Nat → Int32) × (Nat → Int32) × (Nat → Int32) × (Nat → Int32)) :=
  b12_ (fn_X1_begin c_t_acts c_t_failedAct c_t_reason c_t_costs c_t_walks c_t_crowd_there c_t_crowd_foggy c_t_crowd_at c_t_crowd_home c_t_crowd_light c_t_crowd_carries c_t_crowd_bearer c_q1_crowd_there c_q1_crowd_foggy c_q1_crowd_at c_q1_crowd_home c_q1_crowd_light c_q1_crowd_carries c_q1_crowd_bearer) fun w1 w2 w3 w4 w5 w6 w7 w8 w9 w10 w11 w12 =>
  fn_X1_playYear_l11 w6 w11 w12 c_q1_marsh_codes x3 (fun v21 v22 v23 v24 v25 =>
    some (w1, w2, w3, v21, v22, w6, v23, v24, w9, v25, w11, w12)) fu_ x2 0 w4 w5 w7 w8 w10
set_option maxHeartbeats 4000000 in
set_option maxRecDepth 100000 in
theorem wn_X1_playYear_l11 {p : Program} {l : Launch} {e : Env} {s : State} {m : MethodId} {args : Array Value} {below : List Frame} {meth : Method} {c : Code} {G : gw_} {A : Nat → Prop} {Q : State → Prop} {A_t : Nat} {A_t_crowd : Nat} {A_t_crowd_at : Nat} {A_t_crowd_home : Nat} {A_t_crowd_light : Nat} {A_t_crowd_carries : Nat} {A_t_crowd_bearer : Nat} {A_q1 : Nat} {A_q1_marsh : Nat} {A_q1_crowd : Nat} {A_q1_sights : Nat} {A_q1_marsh_codes : Nat} {A_q1_crowd_at : Nat} {A_q1_crowd_home : Nat} {A_q1_crowd_light : Nat} {A_q1_crowd_carries : Nat} {A_q1_crowd_bearer : Nat} {c_t_acts : Int32} {z_t_acts : Int32} {c_t_failedAct : Int32} {z_t_failedAct : Int32} {c_t_reason : Int32} {z_t_reason : Int32} {z_t_costs : Int32} {z_t_walks : Int32} {c_t_crowd_there : Int32} {z_t_crowd_there : Int32} {z_t_crowd_foggy : Int32} {z_t_crowd_at : Nat → Int32} {c_t_crowd_home : Nat → Int32} {z_t_crowd_home : Nat → Int32} {z_t_crowd_light : Nat → Int32} {c_t_crowd_carries : Nat → Int32} {z_t_crowd_carries : Nat → Int32} {c_t_crowd_bearer : Nat → Int32} {z_t_crowd_bearer : Nat → Int32} {c_q1_marsh_codes : Nat → Int32} {c_q1_crowd_there : Int32} {c_q1_crowd_foggy : Int32} {c_q1_crowd_at : Nat → Int32} {c_q1_crowd_home : Nat → Int32} {c_q1_crowd_light : Nat → Int32} {c_q1_crowd_carries : Nat → Int32} {c_q1_crowd_bearer : Nat → Int32} {x3 : Int32} {k : Int32 → Int32 → Int32 → (Nat → Int32) → (Nat → Int32) → Option (Int32 × Int32 × Int32 × Int32 × Int32 × Int32 × Int32 × (Nat → Int32) × (Nat → Int32) × (Nat → Int32) × (Nat → Int32) × (Nat → Int32))} (hC : cx_ p s m c G cX1_playYear 6 RX1) (hret : ∀ (pc : Nat) (H : Heap) (locs : List Loc) (ls : Array Slot), decode cX1_playYear pc = .ok (.return_, 1) → wd_ G A s.heap (wl_X1_playYear G A_t A_t_crowd A_t_crowd_at A_t_crowd_home A_t_crowd_light A_t_crowd_carries A_t_crowd_bearer A_q1 A_q1_marsh A_q1_crowd A_q1_sights A_q1_marsh_codes A_q1_crowd_at A_q1_crowd_home A_q1_crowd_light A_q1_crowd_carries A_q1_crowd_bearer z_t_acts z_t_failedAct z_t_reason z_t_costs z_t_walks z_t_crowd_there z_t_crowd_foggy z_t_crowd_at z_t_crowd_home z_t_crowd_light z_t_crowd_carries z_t_crowd_bearer c_q1_marsh_codes c_q1_crowd_there c_q1_crowd_foggy c_q1_crowd_at c_q1_crowd_home c_q1_crowd_light c_q1_crowd_carries c_q1_crowd_bearer) H locs → W p l e { frames := 4, cells := 0, slots := 0, locals := 95 } s m args below meth c H locs 0 0 Q (F0 m pc ls [])) (hk : ∀ (c_t_costs : Int32) (c_t_walks : Int32) (c_t_crowd_foggy : Int32) (c_t_crowd_at : Nat → Int32) (c_t_crowd_light : Nat → Int32) (H : Heap) (locs : List Loc) (ls : Array Slot), k c_t_costs c_t_walks c_t_crowd_foggy c_t_crowd_at c_t_crowd_light = some (z_t_acts, z_t_failedAct, z_t_reason, z_t_costs, z_t_walks, z_t_crowd_there, z_t_crowd_foggy, z_t_crowd_at, z_t_crowd_home, z_t_crowd_light, z_t_crowd_carries, z_t_crowd_bearer) → lv_has ls 6 [] → wd_ G A s.heap (wl_X1_playYear G A_t A_t_crowd A_t_crowd_at A_t_crowd_home A_t_crowd_light A_t_crowd_carries A_t_crowd_bearer A_q1 A_q1_marsh A_q1_crowd A_q1_sights A_q1_marsh_codes A_q1_crowd_at A_q1_crowd_home A_q1_crowd_light A_q1_crowd_carries A_q1_crowd_bearer c_t_acts c_t_failedAct c_t_reason c_t_costs c_t_walks c_t_crowd_there c_t_crowd_foggy c_t_crowd_at c_t_crowd_home c_t_crowd_light c_t_crowd_carries c_t_crowd_bearer c_q1_marsh_codes c_q1_crowd_there c_q1_crowd_foggy c_q1_crowd_at c_q1_crowd_home c_q1_crowd_light c_q1_crowd_carries c_q1_crowd_bearer) H locs → W p l e { frames := 4, cells := 0, slots := 0, locals := 95 } s m args below meth c H locs 0 0 Q (F0 m 91 ls [])) : ∀ (n : Nat) (x4 : Int32) (x5 : Int32) (c_t_costs : Int32) (c_t_walks : Int32) (c_t_crowd_foggy : Int32) (c_t_crowd_at : Nat → Int32) (c_t_crowd_light : Nat → Int32) (H : Heap) (locs : List Loc) (ls : Array Slot), fn_X1_playYear_l11 c_t_crowd_there c_t_crowd_carries c_t_crowd_bearer c_q1_marsh_codes x3 k n x4 x5 c_t_costs c_t_walks c_t_crowd_foggy c_t_crowd_at c_t_crowd_light = some (z_t_acts, z_t_failedAct, z_t_reason, z_t_costs, z_t_walks, z_t_crowd_there, z_t_crowd_foggy, z_t_crowd_at, z_t_crowd_home, z_t_crowd_light, z_t_crowd_carries, z_t_crowd_bearer) → lv_has ls 6 [(0, .ref A_t), (1, .ref A_q1), (3, .int x3), (4, .int x4), (5, .int x5)] → wd_ G A s.heap (wl_X1_playYear G A_t A_t_crowd A_t_crowd_at A_t_crowd_home A_t_crowd_light A_t_crowd_carries A_t_crowd_bearer A_q1 A_q1_marsh A_q1_crowd A_q1_sights A_q1_marsh_codes A_q1_crowd_at A_q1_crowd_home A_q1_crowd_light A_q1_crowd_carries A_q1_crowd_bearer c_t_acts c_t_failedAct c_t_reason c_t_costs c_t_walks c_t_crowd_there c_t_crowd_foggy c_t_crowd_at c_t_crowd_home c_t_crowd_light c_t_crowd_carries c_t_crowd_bearer c_q1_marsh_codes c_q1_crowd_there c_q1_crowd_foggy c_q1_crowd_at c_q1_crowd_home c_q1_crowd_light c_q1_crowd_carries c_q1_crowd_bearer) H locs → W p l e { frames := 4, cells := 0, slots := 0, locals := 95 } s m args below meth c H locs 0 0 Q (F0 m 11 ls []) := by
  have hx := hC.1
  have hb := hC.2.1
  intro n
  induction n with
  | zero =>
    intro x4 x5 c_t_costs c_t_walks c_t_crowd_foggy c_t_crowd_at c_t_crowd_light H locs ls hf
    cases (show (none : Option (Int32 × Int32 × Int32 × Int32 × Int32 × Int32 × Int32 × (Nat → Int32) × (Nat → Int32) × (Nat → Int32) × (Nat → Int32) × (Nat → Int32))) = some _ from hf)
  | succ n hrc =>
    intro x4 x5 c_t_costs c_t_walks c_t_crowd_foggy c_t_crowd_at c_t_crowd_light H locs ls hf hl hw
    replace hf : fn_X1_playYear_b11 c_t_crowd_there c_t_crowd_carries c_t_crowd_bearer c_q1_marsh_codes x3 (fn_X1_playYear_l11 c_t_crowd_there c_t_crowd_carries c_t_crowd_bearer c_q1_marsh_codes x3 k n) k x4 x5 c_t_costs c_t_walks c_t_crowd_foggy c_t_crowd_at c_t_crowd_light = some (z_t_acts, z_t_failedAct, z_t_reason, z_t_costs, z_t_walks, z_t_crowd_there, z_t_crowd_foggy, z_t_crowd_at, z_t_crowd_home, z_t_crowd_light, z_t_crowd_carries, z_t_crowd_bearer) := hf
    unfold fn_X1_playYear_b11 at hf
    refine lv_iload hx hb dX1_playYear_11 (lv_at hl 4 rfl) ?_
    refine lv_iload_n hx hb dX1_playYear_13 rfl (lv_at hl 2 rfl) ?_
    refine lv_icmp_ge (tgt := 91) hx hb dX1_playYear_14 (by decide) (fun hc => ?_) (fun hc => ?_)
    · replace hf := it_t hc hf
      exact hk c_t_costs c_t_walks c_t_crowd_foggy c_t_crowd_at c_t_crowd_light _ _ _ hf (lv_sub hl [] rfl) hw
    · replace hf := it_f hc hf
      refine lv_bipush (v := 75) hx hb dX1_playYear_17 (by decide) ?_
      refine lv_iload hx hb dX1_playYear_19 (lv_at hl 3 rfl) ?_
      refine lv_imul hx hb dX1_playYear_21 ?_
      refine lv_bipush (v := 74) hx hb dX1_playYear_22 (by decide) ?_
      refine lv_iadd hx hb dX1_playYear_24 ?_
      refine g_ldc (v := 65537) hC (tb3 196 rfl rfl) dX1_playYear_25 ?_
      refine lv_irem hx hb dX1_playYear_27 (by decide) ?_
      obtain ⟨y14, ey14, hf⟩ := lx_s hf
      rw [← ey14]
      refine lv_istore (lv' := [(4, .int y14), (0, .ref A_t), (1, .ref A_q1), (3, .int x3), (5, .int x5)]) hx hb dX1_playYear_28 hl (by decide) rfl (fun ls hl => ?_)
      refine lv_iload hx hb dX1_playYear_30 (lv_at hl 0 rfl) ?_
      refine lv_bipush (v := 17) hx hb dX1_playYear_32 (by decide) ?_
      refine lv_irem hx hb dX1_playYear_34 (by decide) ?_
      refine lv_if_ne (tgt := 63) hx hb dX1_playYear_35 (by decide) (fun hc => ?_) (fun hc => ?_)
      · replace hf := it_f hc hf
        refine lv_aload_n hx hb dX1_playYear_63 rfl (lv_at hl 1 rfl) ?_
        refine lv_aload_n hx hb dX1_playYear_64 rfl (lv_at hl 2 rfl) ?_
        refine g_get hC hw fkX1_50 7 rfl rfl dX1_playYear_65 ?_
        refine lv_iload hx hb dX1_playYear_68 (lv_at hl 0 rfl) ?_
        refine lv_bipush (v := 6) hx hb dX1_playYear_70 (by decide) ?_
        refine lv_irem hx hb dX1_playYear_72 (by decide) ?_
        refine lv_iload hx hb dX1_playYear_73 (lv_at hl 0 rfl) ?_
        refine lv_bipush (v := 6) hx hb dX1_playYear_75 (by decide) ?_
        refine lv_idiv hx hb dX1_playYear_77 (by decide) ?_
        refine lv_bipush (v := 12) hx hb dX1_playYear_78 (by decide) ?_
        refine lv_irem hx hb dX1_playYear_80 (by decide) ?_
        obtain ⟨r15, w16, w17, w18, w19, hq20, hf⟩ := b5_s hf
        refine g_cVi hC hw mvX1_76 (cn_X1_walk l G A_t A_t_crowd A_t_crowd_at A_t_crowd_home A_t_crowd_light A_t_crowd_carries A_t_crowd_bearer A_q1_marsh A_q1_marsh_codes c_t_acts c_t_failedAct c_t_reason c_t_costs c_t_walks c_t_crowd_there c_t_crowd_foggy c_t_crowd_at c_t_crowd_light c_t_crowd_carries c_t_crowd_bearer c_q1_marsh_codes (y14 - y14 / 6 * 6) ((y14 / 6) - (y14 / 6) / 12 * 12) r15 w16 w17 w18 w19 hq20) [0, 1, 2, 4, 5, 6, 8, 9] rfl (by decide) rfl 0 rfl rfl rfl hl.1 rfl (Nat.le_of_ble_eq_true rfl) ⟨Nat.le_of_ble_eq_true rfl, Nat.le_of_ble_eq_true rfl⟩ ⟨Nat.le_refl _, Nat.le_refl _⟩ dX1_playYear_81 (fun H locs hw => ?_)
        have hw : wd_ G A s.heap (wl_X1_playYear G A_t A_t_crowd A_t_crowd_at A_t_crowd_home A_t_crowd_light A_t_crowd_carries A_t_crowd_bearer A_q1 A_q1_marsh A_q1_crowd A_q1_sights A_q1_marsh_codes A_q1_crowd_at A_q1_crowd_home A_q1_crowd_light A_q1_crowd_carries A_q1_crowd_bearer c_t_acts c_t_failedAct c_t_reason w16 w17 c_t_crowd_there c_t_crowd_foggy w18 c_t_crowd_home w19 c_t_crowd_carries c_t_crowd_bearer c_q1_marsh_codes c_q1_crowd_there c_q1_crowd_foggy c_q1_crowd_at c_q1_crowd_home c_q1_crowd_light c_q1_crowd_carries c_q1_crowd_bearer) H locs := hw
        refine lv_pop hx hb dX1_playYear_84 rfl ?_
        refine lv_iinc (v := x5 + 1) (lv' := [(5, .int (x5 + 1)), (4, .int y14), (0, .ref A_t), (1, .ref A_q1), (3, .int x3)]) hx hb dX1_playYear_85 hl (k := 4) rfl rfl (by decide) rfl (fun ls hl => ?_)
        refine lv_goto (tgt := 11) hx hb dX1_playYear_88 (by decide) ?_
        exact hrc y14 (x5 + 1) w16 w17 c_t_crowd_foggy w18 w19 _ _ _ hf (lv_sub hl [2, 3, 4, 1, 0] rfl) hw
      · replace hf := it_t hc hf
        refine lv_aload_n hx hb dX1_playYear_38 rfl (lv_at hl 1 rfl) ?_
        refine g_get hC hw fkX1_12 0 rfl rfl dX1_playYear_39 ?_
        refine lv_aload_n hx hb dX1_playYear_42 rfl (lv_at hl 1 rfl) ?_
        refine g_get hC hw fkX1_12 0 rfl rfl dX1_playYear_43 ?_
        refine g_get hC hw fkX1_65 1 rfl rfl dX1_playYear_46 ?_
        refine lv_if_ne (tgt := 56) hx hb dX1_playYear_49 (by decide) (fun hc => ?_) (fun hc => ?_)
        · replace hf := it_f hc hf
          refine lv_iconst (v := 0) hx hb dX1_playYear_56 (by decide) ?_
          refine g_put hC hw fpX1_65 1 rfl rfl rfl (Nat.le_of_ble_eq_true rfl) dX1_playYear_57 (fun H locs hw => ?_)
          have hw : wd_ G A s.heap (wl_X1_playYear G A_t A_t_crowd A_t_crowd_at A_t_crowd_home A_t_crowd_light A_t_crowd_carries A_t_crowd_bearer A_q1 A_q1_marsh A_q1_crowd A_q1_sights A_q1_marsh_codes A_q1_crowd_at A_q1_crowd_home A_q1_crowd_light A_q1_crowd_carries A_q1_crowd_bearer c_t_acts c_t_failedAct c_t_reason c_t_costs c_t_walks c_t_crowd_there 0 c_t_crowd_at c_t_crowd_home c_t_crowd_light c_t_crowd_carries c_t_crowd_bearer c_q1_marsh_codes c_q1_crowd_there c_q1_crowd_foggy c_q1_crowd_at c_q1_crowd_home c_q1_crowd_light c_q1_crowd_carries c_q1_crowd_bearer) H locs := hw
          refine lv_goto (tgt := 85) hx hb dX1_playYear_60 (by decide) ?_
          refine lv_iinc (v := x5 + 1) (lv' := [(5, .int (x5 + 1)), (4, .int y14), (0, .ref A_t), (1, .ref A_q1), (3, .int x3)]) hx hb dX1_playYear_85 hl (k := 4) rfl rfl (by decide) rfl (fun ls hl => ?_)
          refine lv_goto (tgt := 11) hx hb dX1_playYear_88 (by decide) ?_
          exact hrc y14 (x5 + 1) c_t_costs c_t_walks 0 c_t_crowd_at c_t_crowd_light _ _ _ hf (lv_sub hl [2, 3, 4, 1, 0] rfl) hw
        · replace hf := it_t hc hf
          refine lv_iconst (v := 1) hx hb dX1_playYear_52 (by decide) ?_
          refine lv_goto (tgt := 57) hx hb dX1_playYear_53 (by decide) ?_
          refine g_put hC hw fpX1_65 1 rfl rfl rfl (Nat.le_of_ble_eq_true rfl) dX1_playYear_57 (fun H locs hw => ?_)
          have hw : wd_ G A s.heap (wl_X1_playYear G A_t A_t_crowd A_t_crowd_at A_t_crowd_home A_t_crowd_light A_t_crowd_carries A_t_crowd_bearer A_q1 A_q1_marsh A_q1_crowd A_q1_sights A_q1_marsh_codes A_q1_crowd_at A_q1_crowd_home A_q1_crowd_light A_q1_crowd_carries A_q1_crowd_bearer c_t_acts c_t_failedAct c_t_reason c_t_costs c_t_walks c_t_crowd_there 1 c_t_crowd_at c_t_crowd_home c_t_crowd_light c_t_crowd_carries c_t_crowd_bearer c_q1_marsh_codes c_q1_crowd_there c_q1_crowd_foggy c_q1_crowd_at c_q1_crowd_home c_q1_crowd_light c_q1_crowd_carries c_q1_crowd_bearer) H locs := hw
          refine lv_goto (tgt := 85) hx hb dX1_playYear_60 (by decide) ?_
          refine lv_iinc (v := x5 + 1) (lv' := [(5, .int (x5 + 1)), (4, .int y14), (0, .ref A_t), (1, .ref A_q1), (3, .int x3)]) hx hb dX1_playYear_85 hl (k := 4) rfl rfl (by decide) rfl (fun ls hl => ?_)
          refine lv_goto (tgt := 11) hx hb dX1_playYear_88 (by decide) ?_
          exact hrc y14 (x5 + 1) c_t_costs c_t_walks 1 c_t_crowd_at c_t_crowd_light _ _ _ hf (lv_sub hl [2, 3, 4, 1, 0] rfl) hw
set_option maxHeartbeats 4000000 in
set_option maxRecDepth 100000 in
theorem wn_X1_playYear {p : Program} {l : Launch} {e : Env} {s : State} {m : MethodId} {args : Array Value} {below : List Frame} {meth : Method} {c : Code} {G : gw_} {A : Nat → Prop} {Q : State → Prop} {A_t : Nat} {A_t_crowd : Nat} {A_t_crowd_at : Nat} {A_t_crowd_home : Nat} {A_t_crowd_light : Nat} {A_t_crowd_carries : Nat} {A_t_crowd_bearer : Nat} {A_q1 : Nat} {A_q1_marsh : Nat} {A_q1_crowd : Nat} {A_q1_sights : Nat} {A_q1_marsh_codes : Nat} {A_q1_crowd_at : Nat} {A_q1_crowd_home : Nat} {A_q1_crowd_light : Nat} {A_q1_crowd_carries : Nat} {A_q1_crowd_bearer : Nat} {c_t_acts : Int32} {z_t_acts : Int32} {c_t_failedAct : Int32} {z_t_failedAct : Int32} {c_t_reason : Int32} {z_t_reason : Int32} {c_t_costs : Int32} {z_t_costs : Int32} {c_t_walks : Int32} {z_t_walks : Int32} {c_t_crowd_there : Int32} {z_t_crowd_there : Int32} {c_t_crowd_foggy : Int32} {z_t_crowd_foggy : Int32} {c_t_crowd_at : Nat → Int32} {z_t_crowd_at : Nat → Int32} {c_t_crowd_home : Nat → Int32} {z_t_crowd_home : Nat → Int32} {c_t_crowd_light : Nat → Int32} {z_t_crowd_light : Nat → Int32} {c_t_crowd_carries : Nat → Int32} {z_t_crowd_carries : Nat → Int32} {c_t_crowd_bearer : Nat → Int32} {z_t_crowd_bearer : Nat → Int32} {c_q1_marsh_codes : Nat → Int32} {c_q1_crowd_there : Int32} {c_q1_crowd_foggy : Int32} {c_q1_crowd_at : Nat → Int32} {c_q1_crowd_home : Nat → Int32} {c_q1_crowd_light : Nat → Int32} {c_q1_crowd_carries : Nat → Int32} {c_q1_crowd_bearer : Nat → Int32} {x2 : Int32} {x3 : Int32} (hC : cx_ p s m c G cX1_playYear 6 RX1) (hret : ∀ (pc : Nat) (H : Heap) (locs : List Loc) (ls : Array Slot), decode cX1_playYear pc = .ok (.return_, 1) → wd_ G A s.heap (wl_X1_playYear G A_t A_t_crowd A_t_crowd_at A_t_crowd_home A_t_crowd_light A_t_crowd_carries A_t_crowd_bearer A_q1 A_q1_marsh A_q1_crowd A_q1_sights A_q1_marsh_codes A_q1_crowd_at A_q1_crowd_home A_q1_crowd_light A_q1_crowd_carries A_q1_crowd_bearer z_t_acts z_t_failedAct z_t_reason z_t_costs z_t_walks z_t_crowd_there z_t_crowd_foggy z_t_crowd_at z_t_crowd_home z_t_crowd_light z_t_crowd_carries z_t_crowd_bearer c_q1_marsh_codes c_q1_crowd_there c_q1_crowd_foggy c_q1_crowd_at c_q1_crowd_home c_q1_crowd_light c_q1_crowd_carries c_q1_crowd_bearer) H locs → W p l e { frames := 4, cells := 0, slots := 0, locals := 95 } s m args below meth c H locs 0 0 Q (F0 m pc ls [])) (hf : fn_X1_playYear c_t_acts c_t_failedAct c_t_reason c_t_costs c_t_walks c_t_crowd_there c_t_crowd_foggy c_t_crowd_at c_t_crowd_home c_t_crowd_light c_t_crowd_carries c_t_crowd_bearer c_q1_marsh_codes c_q1_crowd_there c_q1_crowd_foggy c_q1_crowd_at c_q1_crowd_home c_q1_crowd_light c_q1_crowd_carries c_q1_crowd_bearer x2 x3 = some (z_t_acts, z_t_failedAct, z_t_reason, z_t_costs, z_t_walks, z_t_crowd_there, z_t_crowd_foggy, z_t_crowd_at, z_t_crowd_home, z_t_crowd_light, z_t_crowd_carries, z_t_crowd_bearer)) {H : Heap} {locs : List Loc} {ls : Array Slot} (hl : lv_has ls 6 [(0, .ref A_t), (1, .ref A_q1), (2, .int x2), (3, .int x3)]) (hw : wd_ G A s.heap (wl_X1_playYear G A_t A_t_crowd A_t_crowd_at A_t_crowd_home A_t_crowd_light A_t_crowd_carries A_t_crowd_bearer A_q1 A_q1_marsh A_q1_crowd A_q1_sights A_q1_marsh_codes A_q1_crowd_at A_q1_crowd_home A_q1_crowd_light A_q1_crowd_carries A_q1_crowd_bearer c_t_acts c_t_failedAct c_t_reason c_t_costs c_t_walks c_t_crowd_there c_t_crowd_foggy c_t_crowd_at c_t_crowd_home c_t_crowd_light c_t_crowd_carries c_t_crowd_bearer c_q1_marsh_codes c_q1_crowd_there c_q1_crowd_foggy c_q1_crowd_at c_q1_crowd_home c_q1_crowd_light c_q1_crowd_carries c_q1_crowd_bearer) H locs) : W p l e { frames := 4, cells := 0, slots := 0, locals := 95 } s m args below meth c H locs 0 0 Q (F0 m 0 ls []) := by
  have hx := hC.1
  have hb := hC.2.1
  unfold fn_X1_playYear at hf
  refine lv_aload_n hx hb dX1_playYear_0 rfl (lv_at hl 0 rfl) ?_
  refine lv_aload_n hx hb dX1_playYear_1 rfl (lv_at hl 1 rfl) ?_
  obtain ⟨w1, w2, w3, w4, w5, w6, w7, w8, w9, w10, w11, w12, hq13, hf⟩ := b12_s hf
  refine g_cVv hC hw mvX1_41 (cn_X1_begin l G A_t A_t_crowd A_t_crowd_at A_t_crowd_home A_t_crowd_light A_t_crowd_carries A_t_crowd_bearer A_q1 A_q1_marsh A_q1_crowd A_q1_sights A_q1_crowd_at A_q1_crowd_home A_q1_crowd_light A_q1_crowd_carries A_q1_crowd_bearer c_t_acts c_t_failedAct c_t_reason c_t_costs c_t_walks c_t_crowd_there c_t_crowd_foggy c_t_crowd_at c_t_crowd_home c_t_crowd_light c_t_crowd_carries c_t_crowd_bearer c_q1_crowd_there c_q1_crowd_foggy c_q1_crowd_at c_q1_crowd_home c_q1_crowd_light c_q1_crowd_carries c_q1_crowd_bearer w1 w2 w3 w4 w5 w6 w7 w8 w9 w10 w11 w12 hq13) [0, 1, 2, 3, 4, 5, 6, 7, 10, 11, 12, 13, 14, 15] rfl (by decide) rfl 0 rfl rfl rfl hl.1 rfl (Nat.le_of_ble_eq_true rfl) ⟨Nat.le_of_ble_eq_true rfl, Nat.le_of_ble_eq_true rfl⟩ ⟨Nat.le_refl _, Nat.le_refl _⟩ dX1_playYear_2 (fun H locs hw => ?_)
  have hw : wd_ G A s.heap (wl_X1_playYear G A_t A_t_crowd A_t_crowd_at A_t_crowd_home A_t_crowd_light A_t_crowd_carries A_t_crowd_bearer A_q1 A_q1_marsh A_q1_crowd A_q1_sights A_q1_marsh_codes A_q1_crowd_at A_q1_crowd_home A_q1_crowd_light A_q1_crowd_carries A_q1_crowd_bearer w1 w2 w3 w4 w5 w6 w7 w8 w9 w10 w11 w12 c_q1_marsh_codes c_q1_crowd_there c_q1_crowd_foggy c_q1_crowd_at c_q1_crowd_home c_q1_crowd_light c_q1_crowd_carries c_q1_crowd_bearer) H locs := hw
  refine lv_iload_n hx hb dX1_playYear_5 rfl (lv_at hl 2 rfl) ?_
  refine lv_istore (lv' := [(4, .int x2), (0, .ref A_t), (1, .ref A_q1), (2, .int x2), (3, .int x3)]) hx hb dX1_playYear_6 hl (by decide) rfl (fun ls hl => ?_)
  refine lv_iconst (v := 0) hx hb dX1_playYear_8 (by decide) ?_
  refine lv_istore (lv' := [(5, .int 0), (4, .int x2), (0, .ref A_t), (1, .ref A_q1), (2, .int x2), (3, .int x3)]) hx hb dX1_playYear_9 hl (by decide) rfl (fun ls hl => ?_)
  refine wn_X1_playYear_l11 hC hret (fun v21 v22 v23 v24 v25 H locs ls hf hl hw => ?_) fu_ x2 0 w4 w5 w7 w8 w10 _ _ _ hf (lv_sub hl [2, 3, 5, 1, 0] rfl) hw
  obtain ⟨h1_, h2_, h3_, h4_, h5_, h6_, h7_, h8_, h9_, h10_, h11_, h12_⟩ := t12_ hf
  subst h1_
  subst h2_
  subst h3_
  subst h4_
  subst h5_
  subst h6_
  subst h7_
  subst h8_
  subst h9_
  subst h10_
  subst h11_
  subst h12_
  exact hret _ _ _ _ dX1_playYear_91 hw
set_option maxHeartbeats 4000000 in
set_option maxRecDepth 100000 in
theorem cn_X1_playYear (l : Launch) (G : gw_) (A_t : Nat) (A_t_crowd : Nat) (A_t_crowd_at : Nat) (A_t_crowd_home : Nat) (A_t_crowd_light : Nat) (A_t_crowd_carries : Nat) (A_t_crowd_bearer : Nat) (A_q1 : Nat) (A_q1_marsh : Nat) (A_q1_crowd : Nat) (A_q1_sights : Nat) (A_q1_marsh_codes : Nat) (A_q1_crowd_at : Nat) (A_q1_crowd_home : Nat) (A_q1_crowd_light : Nat) (A_q1_crowd_carries : Nat) (A_q1_crowd_bearer : Nat) (c_t_acts : Int32) (c_t_failedAct : Int32) (c_t_reason : Int32) (c_t_costs : Int32) (c_t_walks : Int32) (c_t_crowd_there : Int32) (c_t_crowd_foggy : Int32) (c_t_crowd_at : Nat → Int32) (c_t_crowd_home : Nat → Int32) (c_t_crowd_light : Nat → Int32) (c_t_crowd_carries : Nat → Int32) (c_t_crowd_bearer : Nat → Int32) (c_q1_marsh_codes : Nat → Int32) (c_q1_crowd_there : Int32) (c_q1_crowd_foggy : Int32) (c_q1_crowd_at : Nat → Int32) (c_q1_crowd_home : Nat → Int32) (c_q1_crowd_light : Nat → Int32) (c_q1_crowd_carries : Nat → Int32) (c_q1_crowd_bearer : Nat → Int32) (x2 : Int32) (x3 : Int32) (z_t_acts : Int32) (z_t_failedAct : Int32) (z_t_reason : Int32) (z_t_costs : Int32) (z_t_walks : Int32) (z_t_crowd_there : Int32) (z_t_crowd_foggy : Int32) (z_t_crowd_at : Nat → Int32) (z_t_crowd_home : Nat → Int32) (z_t_crowd_light : Nat → Int32) (z_t_crowd_carries : Nat → Int32) (z_t_crowd_bearer : Nat → Int32) (hf : fn_X1_playYear c_t_acts c_t_failedAct c_t_reason c_t_costs c_t_walks c_t_crowd_there c_t_crowd_foggy c_t_crowd_at c_t_crowd_home c_t_crowd_light c_t_crowd_carries c_t_crowd_bearer c_q1_marsh_codes c_q1_crowd_there c_q1_crowd_foggy c_q1_crowd_at c_q1_crowd_home c_q1_crowd_light c_q1_crowd_carries c_q1_crowd_bearer x2 x3 = some (z_t_acts, z_t_failedAct, z_t_reason, z_t_costs, z_t_walks, z_t_crowd_there, z_t_crowd_foggy, z_t_crowd_at, z_t_crowd_home, z_t_crowd_light, z_t_crowd_carries, z_t_crowd_bearer)) : cv_ l G yX1_playYear cX1_playYear 6 none 4 95 (wl_X1_playYear G A_t A_t_crowd A_t_crowd_at A_t_crowd_home A_t_crowd_light A_t_crowd_carries A_t_crowd_bearer A_q1 A_q1_marsh A_q1_crowd A_q1_sights A_q1_marsh_codes A_q1_crowd_at A_q1_crowd_home A_q1_crowd_light A_q1_crowd_carries A_q1_crowd_bearer c_t_acts c_t_failedAct c_t_reason c_t_costs c_t_walks c_t_crowd_there c_t_crowd_foggy c_t_crowd_at c_t_crowd_home c_t_crowd_light c_t_crowd_carries c_t_crowd_bearer c_q1_marsh_codes c_q1_crowd_there c_q1_crowd_foggy c_q1_crowd_at c_q1_crowd_home c_q1_crowd_light c_q1_crowd_carries c_q1_crowd_bearer) [.ref A_t, .ref A_q1, .int x2, .int x3] (wl_X1_playYear G A_t A_t_crowd A_t_crowd_at A_t_crowd_home A_t_crowd_light A_t_crowd_carries A_t_crowd_bearer A_q1 A_q1_marsh A_q1_crowd A_q1_sights A_q1_marsh_codes A_q1_crowd_at A_q1_crowd_home A_q1_crowd_light A_q1_crowd_carries A_q1_crowd_bearer z_t_acts z_t_failedAct z_t_reason z_t_costs z_t_walks z_t_crowd_there z_t_crowd_foggy z_t_crowd_at z_t_crowd_home z_t_crowd_light z_t_crowd_carries z_t_crowd_bearer c_q1_marsh_codes c_q1_crowd_there c_q1_crowd_foggy c_q1_crowd_at c_q1_crowd_home c_q1_crowd_light c_q1_crowd_carries c_q1_crowd_bearer) := fun sz => met_intro (by decide) (Nat.le_of_ble_eq_true rfl) (fun p e s m args below meth c ls hsz hC hr hlk hnm hl hw => wn_X1_playYear hC (fun pc H locs ls hd hw => g_vret hC hr hlk hw hd) hf hl hw)

theorem dX2_lay_0 : decode cX2_lay 0 = .ok (.iload_n 3, 1) := by decide +kernel
theorem dX2_lay_1 : decode cX2_lay 1 = .ok (.ifCond .ne 7, 3) := by decide +kernel
theorem dX2_lay_4 : decode cX2_lay 4 = .ok (.iconst 0, 1) := by decide +kernel
theorem dX2_lay_5 : decode cX2_lay 5 = .ok (.goto 17, 3) := by decide +kernel
theorem dX2_lay_8 : decode cX2_lay 8 = .ok (.iconst 2, 1) := by decide +kernel
theorem dX2_lay_9 : decode cX2_lay 9 = .ok (.iload_n 3, 1) := by decide +kernel
theorem dX2_lay_10 : decode cX2_lay 10 = .ok (.imul, 1) := by decide +kernel
theorem dX2_lay_11 : decode cX2_lay 11 = .ok (.iload 4, 2) := by decide +kernel
theorem dX2_lay_13 : decode cX2_lay 13 = .ok (.ifCond .eq 7, 3) := by decide +kernel
theorem dX2_lay_16 : decode cX2_lay 16 = .ok (.iconst 1, 1) := by decide +kernel
theorem dX2_lay_17 : decode cX2_lay 17 = .ok (.goto 4, 3) := by decide +kernel
theorem dX2_lay_20 : decode cX2_lay 20 = .ok (.iconst 0, 1) := by decide +kernel
theorem dX2_lay_21 : decode cX2_lay 21 = .ok (.iadd, 1) := by decide +kernel
theorem dX2_lay_22 : decode cX2_lay 22 = .ok (.istore 5, 2) := by decide +kernel
theorem dX2_lay_24 : decode cX2_lay 24 = .ok (.aload_n 0, 1) := by decide +kernel
theorem dX2_lay_25 : decode cX2_lay 25 = .ok (.getfield 9, 3) := by decide +kernel
theorem dX2_lay_28 : decode cX2_lay 28 = .ok (.iload_n 1, 1) := by decide +kernel
theorem dX2_lay_29 : decode cX2_lay 29 = .ok (.bipush 12, 2) := by decide +kernel
theorem dX2_lay_31 : decode cX2_lay 31 = .ok (.imul, 1) := by decide +kernel
theorem dX2_lay_32 : decode cX2_lay 32 = .ok (.iload_n 2, 1) := by decide +kernel
theorem dX2_lay_33 : decode cX2_lay 33 = .ok (.iadd, 1) := by decide +kernel
theorem dX2_lay_34 : decode cX2_lay 34 = .ok (.iload 5, 2) := by decide +kernel
theorem dX2_lay_36 : decode cX2_lay 36 = .ok (.iastore, 1) := by decide +kernel
theorem dX2_lay_37 : decode cX2_lay 37 = .ok (.aload_n 0, 1) := by decide +kernel
theorem dX2_lay_38 : decode cX2_lay 38 = .ok (.getfield 9, 3) := by decide +kernel
theorem dX2_lay_41 : decode cX2_lay 41 = .ok (.iload_n 2, 1) := by decide +kernel
theorem dX2_lay_42 : decode cX2_lay 42 = .ok (.bipush 12, 2) := by decide +kernel
theorem dX2_lay_44 : decode cX2_lay 44 = .ok (.imul, 1) := by decide +kernel
theorem dX2_lay_45 : decode cX2_lay 45 = .ok (.iload_n 1, 1) := by decide +kernel
theorem dX2_lay_46 : decode cX2_lay 46 = .ok (.iadd, 1) := by decide +kernel
theorem dX2_lay_47 : decode cX2_lay 47 = .ok (.iload 5, 2) := by decide +kernel
theorem dX2_lay_49 : decode cX2_lay 49 = .ok (.iastore, 1) := by decide +kernel
theorem dX2_lay_50 : decode cX2_lay 50 = .ok (.return_, 1) := by decide +kernel
abbrev wl_X2_lay (G : gw_) (A_t : Nat) (A_t_codes : Nat) (c_t_codes : Nat → Int32) : va_W := [ob_ A_t 2 [.ref A_t_codes], ia_ G A_t_codes 144 c_t_codes]
def fn_X2_lay_j22 (c_t_codes : Nat → Int32) (x1 : Int32) (x2 : Int32) (s0 : Int32)  : Option ((Nat → Int32)) :=
  ck_ ((x1 * 12) + x2) 144 <|
  lx_ (upd c_t_codes (Int32.toNatClampNeg ((x1 * 12) + x2)) s0) fun f1 =>
  ck_ ((x2 * 12) + x1) 144 <|
  lx_ (upd f1 (Int32.toNatClampNeg ((x2 * 12) + x1)) s0) fun f2 =>
  some f2
def fn_X2_lay_j21 (c_t_codes : Nat → Int32) (x1 : Int32) (x2 : Int32) (s0 : Int32) (s1 : Int32)  : Option ((Nat → Int32)) :=
  fn_X2_lay_j22 c_t_codes x1 x2 (s0 + s1)
def fn_X2_lay (c_t_codes : Nat → Int32) (x1 : Int32) (x2 : Int32) (x3 : Int32) (x4 : Int32) : Option ((Nat → Int32)) :=
  if x3 = 0 then
    fn_X2_lay_j22 c_t_codes x1 x2 0
  else
    if x4 = 0 then
      fn_X2_lay_j21 c_t_codes x1 x2 (2 * x3) 0
    else
      fn_X2_lay_j21 c_t_codes x1 x2 (2 * x3) 1
set_option maxHeartbeats 4000000 in
set_option maxRecDepth 100000 in
theorem wn_X2_lay_j22 {p : Program} {l : Launch} {e : Env} {s : State} {m : MethodId} {args : Array Value} {below : List Frame} {meth : Method} {c : Code} {G : gw_} {A : Nat → Prop} {Q : State → Prop} {A_t : Nat} {A_t_codes : Nat} {c_t_codes : Nat → Int32} {z_t_codes : Nat → Int32} {x1 : Int32} {x2 : Int32} {s0 : Int32} (hC : cx_ p s m c G cX2_lay 6 RX2) (hret : ∀ (pc : Nat) (H : Heap) (locs : List Loc) (ls : Array Slot), decode cX2_lay pc = .ok (.return_, 1) → wd_ G A s.heap (wl_X2_lay G A_t A_t_codes z_t_codes) H locs → W p l e { frames := 0, cells := 0, slots := 0, locals := 0 } s m args below meth c H locs 0 0 Q (F0 m pc ls []))  (hf : fn_X2_lay_j22 c_t_codes x1 x2 s0 = some z_t_codes) {H : Heap} {locs : List Loc} {ls : Array Slot} (hl : lv_has ls 6 [(0, .ref A_t), (1, .int x1), (2, .int x2)]) (hw : wd_ G A s.heap (wl_X2_lay G A_t A_t_codes c_t_codes) H locs) : W p l e { frames := 0, cells := 0, slots := 0, locals := 0 } s m args below meth c H locs 0 0 Q (F0 m 22 ls [.int s0]) := by
  have hx := hC.1
  have hb := hC.2.1
  unfold fn_X2_lay_j22 at hf
  refine lv_istore (lv' := [(5, .int s0), (0, .ref A_t), (1, .int x1), (2, .int x2)]) hx hb dX2_lay_22 hl (by decide) rfl (fun ls hl => ?_)
  refine lv_aload_n hx hb dX2_lay_24 rfl (lv_at hl 1 rfl) ?_
  refine g_get hC hw fkX2_9 0 rfl rfl dX2_lay_25 ?_
  refine lv_iload_n hx hb dX2_lay_28 rfl (lv_at hl 2 rfl) ?_
  refine lv_bipush (v := 12) hx hb dX2_lay_29 (by decide) ?_
  refine lv_imul hx hb dX2_lay_31 ?_
  refine lv_iload_n hx hb dX2_lay_32 rfl (lv_at hl 3 rfl) ?_
  refine lv_iadd hx hb dX2_lay_33 ?_
  refine lv_iload hx hb dX2_lay_34 (lv_at hl 0 rfl) ?_
  obtain ⟨hi, hf⟩ := ck_s hf
  obtain ⟨f1, ef1, hf⟩ := lx_s hf
  refine g_iast hC hw 1 rfl hi ef1 dX2_lay_36 (fun H locs hw => ?_)
  have hw : wd_ G A s.heap (wl_X2_lay G A_t A_t_codes f1) H locs := hw
  refine lv_aload_n hx hb dX2_lay_37 rfl (lv_at hl 1 rfl) ?_
  refine g_get hC hw fkX2_9 0 rfl rfl dX2_lay_38 ?_
  refine lv_iload_n hx hb dX2_lay_41 rfl (lv_at hl 3 rfl) ?_
  refine lv_bipush (v := 12) hx hb dX2_lay_42 (by decide) ?_
  refine lv_imul hx hb dX2_lay_44 ?_
  refine lv_iload_n hx hb dX2_lay_45 rfl (lv_at hl 2 rfl) ?_
  refine lv_iadd hx hb dX2_lay_46 ?_
  refine lv_iload hx hb dX2_lay_47 (lv_at hl 0 rfl) ?_
  obtain ⟨hi, hf⟩ := ck_s hf
  obtain ⟨f2, ef2, hf⟩ := lx_s hf
  refine g_iast hC hw 1 rfl hi ef2 dX2_lay_49 (fun H locs hw => ?_)
  have hw : wd_ G A s.heap (wl_X2_lay G A_t A_t_codes f2) H locs := hw
  have h1_ := t1_ hf
  subst h1_
  exact hret _ _ _ _ dX2_lay_50 hw
set_option maxHeartbeats 4000000 in
set_option maxRecDepth 100000 in
theorem wn_X2_lay_j21 {p : Program} {l : Launch} {e : Env} {s : State} {m : MethodId} {args : Array Value} {below : List Frame} {meth : Method} {c : Code} {G : gw_} {A : Nat → Prop} {Q : State → Prop} {A_t : Nat} {A_t_codes : Nat} {c_t_codes : Nat → Int32} {z_t_codes : Nat → Int32} {x1 : Int32} {x2 : Int32} {s0 : Int32} {s1 : Int32} (hC : cx_ p s m c G cX2_lay 6 RX2) (hret : ∀ (pc : Nat) (H : Heap) (locs : List Loc) (ls : Array Slot), decode cX2_lay pc = .ok (.return_, 1) → wd_ G A s.heap (wl_X2_lay G A_t A_t_codes z_t_codes) H locs → W p l e { frames := 0, cells := 0, slots := 0, locals := 0 } s m args below meth c H locs 0 0 Q (F0 m pc ls []))  (hf : fn_X2_lay_j21 c_t_codes x1 x2 s0 s1 = some z_t_codes) {H : Heap} {locs : List Loc} {ls : Array Slot} (hl : lv_has ls 6 [(0, .ref A_t), (1, .int x1), (2, .int x2)]) (hw : wd_ G A s.heap (wl_X2_lay G A_t A_t_codes c_t_codes) H locs) : W p l e { frames := 0, cells := 0, slots := 0, locals := 0 } s m args below meth c H locs 0 0 Q (F0 m 21 ls [.int s1, .int s0]) := by
  have hx := hC.1
  have hb := hC.2.1
  unfold fn_X2_lay_j21 at hf
  refine lv_iadd hx hb dX2_lay_21 ?_
  exact wn_X2_lay_j22 hC hret hf (lv_sub hl [0, 1, 2] rfl) hw
set_option maxHeartbeats 4000000 in
set_option maxRecDepth 100000 in
theorem wn_X2_lay {p : Program} {l : Launch} {e : Env} {s : State} {m : MethodId} {args : Array Value} {below : List Frame} {meth : Method} {c : Code} {G : gw_} {A : Nat → Prop} {Q : State → Prop} {A_t : Nat} {A_t_codes : Nat} {c_t_codes : Nat → Int32} {z_t_codes : Nat → Int32} {x1 : Int32} {x2 : Int32} {x3 : Int32} {x4 : Int32} (hC : cx_ p s m c G cX2_lay 6 RX2) (hret : ∀ (pc : Nat) (H : Heap) (locs : List Loc) (ls : Array Slot), decode cX2_lay pc = .ok (.return_, 1) → wd_ G A s.heap (wl_X2_lay G A_t A_t_codes z_t_codes) H locs → W p l e { frames := 0, cells := 0, slots := 0, locals := 0 } s m args below meth c H locs 0 0 Q (F0 m pc ls [])) (hf : fn_X2_lay c_t_codes x1 x2 x3 x4 = some z_t_codes) {H : Heap} {locs : List Loc} {ls : Array Slot} (hl : lv_has ls 6 [(0, .ref A_t), (1, .int x1), (2, .int x2), (3, .int x3), (4, .int x4)]) (hw : wd_ G A s.heap (wl_X2_lay G A_t A_t_codes c_t_codes) H locs) : W p l e { frames := 0, cells := 0, slots := 0, locals := 0 } s m args below meth c H locs 0 0 Q (F0 m 0 ls []) := by
  have hx := hC.1
  have hb := hC.2.1
  unfold fn_X2_lay at hf
  refine lv_iload_n hx hb dX2_lay_0 rfl (lv_at hl 3 rfl) ?_
  refine lv_if_ne (tgt := 8) hx hb dX2_lay_1 (by decide) (fun hc => ?_) (fun hc => ?_)
  · replace hf := it_f hc hf
    refine lv_iconst (v := 2) hx hb dX2_lay_8 (by decide) ?_
    refine lv_iload_n hx hb dX2_lay_9 rfl (lv_at hl 3 rfl) ?_
    refine lv_imul hx hb dX2_lay_10 ?_
    refine lv_iload hx hb dX2_lay_11 (lv_at hl 4 rfl) ?_
    refine lv_if_eq (tgt := 20) hx hb dX2_lay_13 (by decide) (fun hc => ?_) (fun hc => ?_)
    · replace hf := it_t hc hf
      refine lv_iconst (v := 0) hx hb dX2_lay_20 (by decide) ?_
      exact wn_X2_lay_j21 hC hret hf (lv_sub hl [0, 1, 2] rfl) hw
    · replace hf := it_f hc hf
      refine lv_iconst (v := 1) hx hb dX2_lay_16 (by decide) ?_
      refine lv_goto (tgt := 21) hx hb dX2_lay_17 (by decide) ?_
      exact wn_X2_lay_j21 hC hret hf (lv_sub hl [0, 1, 2] rfl) hw
  · replace hf := it_t hc hf
    refine lv_iconst (v := 0) hx hb dX2_lay_4 (by decide) ?_
    refine lv_goto (tgt := 22) hx hb dX2_lay_5 (by decide) ?_
    exact wn_X2_lay_j22 hC hret hf (lv_sub hl [0, 1, 2] rfl) hw
set_option maxHeartbeats 4000000 in
set_option maxRecDepth 100000 in
theorem cn_X2_lay (l : Launch) (G : gw_) (A_t : Nat) (A_t_codes : Nat) (c_t_codes : Nat → Int32) (x1 : Int32) (x2 : Int32) (x3 : Int32) (x4 : Int32) (z_t_codes : Nat → Int32) (hf : fn_X2_lay c_t_codes x1 x2 x3 x4 = some z_t_codes) : cv_ l G yX2_lay cX2_lay 6 none 0 0 (wl_X2_lay G A_t A_t_codes c_t_codes) [.ref A_t, .int x1, .int x2, .int x3, .int x4] (wl_X2_lay G A_t A_t_codes z_t_codes) := fun sz => met_intro (by decide) (Nat.le_of_ble_eq_true rfl) (fun p e s m args below meth c ls hsz hC hr hlk hnm hl hw => wn_X2_lay hC (fun pc H locs ls hd hw => g_vret hC hr hlk hw hd) hf hl hw)

theorem dX2_copyFrom_0 : decode cX2_copyFrom 0 = .ok (.aload_n 1, 1) := by decide +kernel
theorem dX2_copyFrom_1 : decode cX2_copyFrom 1 = .ok (.getfield 9, 3) := by decide +kernel
theorem dX2_copyFrom_4 : decode cX2_copyFrom 4 = .ok (.iconst 0, 1) := by decide +kernel
theorem dX2_copyFrom_5 : decode cX2_copyFrom 5 = .ok (.aload_n 0, 1) := by decide +kernel
theorem dX2_copyFrom_6 : decode cX2_copyFrom 6 = .ok (.getfield 9, 3) := by decide +kernel
theorem dX2_copyFrom_9 : decode cX2_copyFrom 9 = .ok (.iconst 0, 1) := by decide +kernel
theorem dX2_copyFrom_10 : decode cX2_copyFrom 10 = .ok (.sipush 144, 3) := by decide +kernel
theorem dX2_copyFrom_13 : decode cX2_copyFrom 13 = .ok (.invokestatic 19, 3) := by decide +kernel
theorem dX2_copyFrom_16 : decode cX2_copyFrom 16 = .ok (.return_, 1) := by decide +kernel
abbrev wl_X2_copyFrom (G : gw_) (A_t : Nat) (A_t_codes : Nat) (A_q1 : Nat) (A_q1_codes : Nat) (c_t_codes : Nat → Int32) (c_q1_codes : Nat → Int32) : va_W := [ob_ A_t 2 [.ref A_t_codes], ia_ G A_t_codes 144 c_t_codes, ob_ A_q1 2 [.ref A_q1_codes], ia_ G A_q1_codes 144 c_q1_codes]
def fn_X2_copyFrom (c_t_codes : Nat → Int32) (c_q1_codes : Nat → Int32) : Option ((Nat → Int32)) :=
  lx_ (va_cpy c_q1_codes c_t_codes 0 0 144) fun f1 =>
  some f1
set_option maxHeartbeats 4000000 in
set_option maxRecDepth 100000 in
theorem wn_X2_copyFrom {p : Program} {l : Launch} {e : Env} {s : State} {m : MethodId} {args : Array Value} {below : List Frame} {meth : Method} {c : Code} {G : gw_} {A : Nat → Prop} {Q : State → Prop} {A_t : Nat} {A_t_codes : Nat} {A_q1 : Nat} {A_q1_codes : Nat} {c_t_codes : Nat → Int32} {z_t_codes : Nat → Int32} {c_q1_codes : Nat → Int32} (hC : cx_ p s m c G cX2_copyFrom 2 RX2) (hret : ∀ (pc : Nat) (H : Heap) (locs : List Loc) (ls : Array Slot), decode cX2_copyFrom pc = .ok (.return_, 1) → wd_ G A s.heap (wl_X2_copyFrom G A_t A_t_codes A_q1 A_q1_codes z_t_codes c_q1_codes) H locs → W p l e { frames := 1, cells := 0, slots := 0, locals := 40 } s m args below meth c H locs 0 0 Q (F0 m pc ls [])) (hf : fn_X2_copyFrom c_t_codes c_q1_codes = some z_t_codes) {H : Heap} {locs : List Loc} {ls : Array Slot} (hl : lv_has ls 2 [(0, .ref A_t), (1, .ref A_q1)]) (hw : wd_ G A s.heap (wl_X2_copyFrom G A_t A_t_codes A_q1 A_q1_codes c_t_codes c_q1_codes) H locs) : W p l e { frames := 1, cells := 0, slots := 0, locals := 40 } s m args below meth c H locs 0 0 Q (F0 m 0 ls []) := by
  have hx := hC.1
  have hb := hC.2.1
  unfold fn_X2_copyFrom at hf
  refine lv_aload_n hx hb dX2_copyFrom_0 rfl (lv_at hl 1 rfl) ?_
  refine g_get hC hw fkX2_9 2 rfl rfl dX2_copyFrom_1 ?_
  refine lv_iconst (v := 0) hx hb dX2_copyFrom_4 (by decide) ?_
  refine lv_aload_n hx hb dX2_copyFrom_5 rfl (lv_at hl 0 rfl) ?_
  refine g_get hC hw fkX2_9 0 rfl rfl dX2_copyFrom_6 ?_
  refine lv_iconst (v := 0) hx hb dX2_copyFrom_9 (by decide) ?_
  refine lv_sipush (v := 144) hx hb dX2_copyFrom_10 (by decide) ?_
  obtain ⟨f1, ef1, hf⟩ := lx_s hf
  refine g_copy hC hw hl.1 (tb3 213 rfl rfl) (tb2 116 rfl rfl) (tb2 115 rfl rfl) (tb1 14 rfl rfl) 3 1 rfl rfl rfl rfl rfl (by decide) (by decide) (by decide) ef1 (by decide) (by decide) dX2_copyFrom_13 (fun H locs hw => ?_)
  have hw : wd_ G A s.heap (wl_X2_copyFrom G A_t A_t_codes A_q1 A_q1_codes f1 c_q1_codes) H locs := hw
  have h1_ := t1_ hf
  subst h1_
  exact hret _ _ _ _ dX2_copyFrom_16 hw
set_option maxHeartbeats 4000000 in
set_option maxRecDepth 100000 in
theorem cn_X2_copyFrom (l : Launch) (G : gw_) (A_t : Nat) (A_t_codes : Nat) (A_q1 : Nat) (A_q1_codes : Nat) (c_t_codes : Nat → Int32) (c_q1_codes : Nat → Int32) (z_t_codes : Nat → Int32) (hf : fn_X2_copyFrom c_t_codes c_q1_codes = some z_t_codes) : cv_ l G yX2_copyFrom cX2_copyFrom 2 none 1 40 (wl_X2_copyFrom G A_t A_t_codes A_q1 A_q1_codes c_t_codes c_q1_codes) [.ref A_t, .ref A_q1] (wl_X2_copyFrom G A_t A_t_codes A_q1 A_q1_codes z_t_codes c_q1_codes) := fun sz => met_intro (by decide) (Nat.le_of_ble_eq_true rfl) (fun p e s m args below meth c ls hsz hC hr hlk hnm hl hw => wn_X2_copyFrom hC (fun pc H locs ls hd hw => g_vret hC hr hlk hw hd) hf hl hw)

theorem dX8_plankCosts_0 : decode cX8_plankCosts 0 = .ok (.aload_n 0, 1) := by decide +kernel
theorem dX8_plankCosts_1 : decode cX8_plankCosts 1 = .ok (.getfield 9, 3) := by decide +kernel
theorem dX8_plankCosts_4 : decode cX8_plankCosts 4 = .ok (.iload_n 1, 1) := by decide +kernel
theorem dX8_plankCosts_5 : decode cX8_plankCosts 5 = .ok (.bipush 12, 2) := by decide +kernel
theorem dX8_plankCosts_7 : decode cX8_plankCosts 7 = .ok (.imul, 1) := by decide +kernel
theorem dX8_plankCosts_8 : decode cX8_plankCosts 8 = .ok (.iload_n 2, 1) := by decide +kernel
theorem dX8_plankCosts_9 : decode cX8_plankCosts 9 = .ok (.iadd, 1) := by decide +kernel
theorem dX8_plankCosts_10 : decode cX8_plankCosts 10 = .ok (.iaload, 1) := by decide +kernel
theorem dX8_plankCosts_11 : decode cX8_plankCosts 11 = .ok (.ireturn, 1) := by decide +kernel
abbrev wl_X8_plankCosts (G : gw_) (A_t : Nat) (A_t_planks : Nat) (A_t_least : Nat) (A_t_neighbours : Nat) (c_t_planks : Nat → Int32) : va_W := [ob_ A_t 8 [.ref A_t_planks, .ref A_t_least, .ref A_t_neighbours], ia_ G A_t_planks 144 c_t_planks]
def fn_X8_plankCosts (c_t_planks : Nat → Int32) (x1 : Int32) (x2 : Int32) : Option (Int32) :=
  ck_ ((x1 * 12) + x2) 144 <|
  some (c_t_planks (Int32.toNatClampNeg ((x1 * 12) + x2)))
set_option maxHeartbeats 4000000 in
set_option maxRecDepth 100000 in
theorem wn_X8_plankCosts {p : Program} {l : Launch} {e : Env} {s : State} {m : MethodId} {args : Array Value} {below : List Frame} {meth : Method} {c : Code} {G : gw_} {A : Nat → Prop} {Q : State → Prop} {A_t : Nat} {A_t_planks : Nat} {A_t_least : Nat} {A_t_neighbours : Nat} {c_t_planks : Nat → Int32} {r : Int32} {x1 : Int32} {x2 : Int32} (hC : cx_ p s m c G cX8_plankCosts 3 RX8) (hret : ∀ (pc : Nat) (H : Heap) (locs : List Loc) (ls : Array Slot), decode cX8_plankCosts pc = .ok (.ireturn, 1) → wd_ G A s.heap (wl_X8_plankCosts G A_t A_t_planks A_t_least A_t_neighbours c_t_planks) H locs → W p l e { frames := 0, cells := 0, slots := 0, locals := 0 } s m args below meth c H locs 0 0 Q (F0 m pc ls [.int r])) (hf : fn_X8_plankCosts c_t_planks x1 x2 = some r) {H : Heap} {locs : List Loc} {ls : Array Slot} (hl : lv_has ls 3 [(0, .ref A_t), (1, .int x1), (2, .int x2)]) (hw : wd_ G A s.heap (wl_X8_plankCosts G A_t A_t_planks A_t_least A_t_neighbours c_t_planks) H locs) : W p l e { frames := 0, cells := 0, slots := 0, locals := 0 } s m args below meth c H locs 0 0 Q (F0 m 0 ls []) := by
  have hx := hC.1
  have hb := hC.2.1
  unfold fn_X8_plankCosts at hf
  refine lv_aload_n hx hb dX8_plankCosts_0 rfl (lv_at hl 0 rfl) ?_
  refine g_get hC hw fkX8_9 0 rfl rfl dX8_plankCosts_1 ?_
  refine lv_iload_n hx hb dX8_plankCosts_4 rfl (lv_at hl 1 rfl) ?_
  refine lv_bipush (v := 12) hx hb dX8_plankCosts_5 (by decide) ?_
  refine lv_imul hx hb dX8_plankCosts_7 ?_
  refine lv_iload_n hx hb dX8_plankCosts_8 rfl (lv_at hl 2 rfl) ?_
  refine lv_iadd hx hb dX8_plankCosts_9 ?_
  obtain ⟨hi, hf⟩ := ck_s hf
  refine g_iald hC hw 1 rfl hi dX8_plankCosts_10 ?_
  have h1_ := t1_ hf
  subst h1_
  exact hret _ _ _ _ dX8_plankCosts_11 hw
set_option maxHeartbeats 4000000 in
set_option maxRecDepth 100000 in
theorem cn_X8_plankCosts (l : Launch) (G : gw_) (A_t : Nat) (A_t_planks : Nat) (A_t_least : Nat) (A_t_neighbours : Nat) (c_t_planks : Nat → Int32) (x1 : Int32) (x2 : Int32) (r : Int32) (hf : fn_X8_plankCosts c_t_planks x1 x2 = some r) : ci_ l G yX8_plankCosts cX8_plankCosts 3 (some .int) 0 0 (wl_X8_plankCosts G A_t A_t_planks A_t_least A_t_neighbours c_t_planks) [.ref A_t, .int x1, .int x2] r (wl_X8_plankCosts G A_t A_t_planks A_t_least A_t_neighbours c_t_planks) := fun sz => met_intro (by decide) (Nat.le_of_ble_eq_true rfl) (fun p e s m args below meth c ls hsz hC hr hlk hnm hl hw => wn_X8_plankCosts hC (fun pc H locs ls hd hw => g_iret hC hr hlk hw rfl rfl hd) hf hl hw)

theorem dX8_firstPlace_0 : decode cX8_firstPlace 0 = .ok (.iload_n 1, 1) := by decide +kernel
theorem dX8_firstPlace_1 : decode cX8_firstPlace 1 = .ok (.iload_n 2, 1) := by decide +kernel
theorem dX8_firstPlace_2 : decode cX8_firstPlace 2 = .ok (.if_icmp .eq 14, 3) := by decide +kernel
theorem dX8_firstPlace_5 : decode cX8_firstPlace 5 = .ok (.aload_n 0, 1) := by decide +kernel
theorem dX8_firstPlace_6 : decode cX8_firstPlace 6 = .ok (.iload_n 1, 1) := by decide +kernel
theorem dX8_firstPlace_7 : decode cX8_firstPlace 7 = .ok (.iload_n 2, 1) := by decide +kernel
theorem dX8_firstPlace_8 : decode cX8_firstPlace 8 = .ok (.invokevirtual 32, 3) := by decide +kernel
theorem dX8_firstPlace_11 : decode cX8_firstPlace 11 = .ok (.ldc 27, 2) := by decide +kernel
theorem dX8_firstPlace_13 : decode cX8_firstPlace 13 = .ok (.if_icmp .lt 6, 3) := by decide +kernel
theorem dX8_firstPlace_16 : decode cX8_firstPlace 16 = .ok (.bipush (-6), 2) := by decide +kernel
theorem dX8_firstPlace_18 : decode cX8_firstPlace 18 = .ok (.ireturn, 1) := by decide +kernel
theorem dX8_firstPlace_19 : decode cX8_firstPlace 19 = .ok (.iconst 0, 1) := by decide +kernel
theorem dX8_firstPlace_20 : decode cX8_firstPlace 20 = .ok (.istore_n 3, 1) := by decide +kernel
theorem dX8_firstPlace_21 : decode cX8_firstPlace 21 = .ok (.iload_n 3, 1) := by decide +kernel
theorem dX8_firstPlace_22 : decode cX8_firstPlace 22 = .ok (.bipush 12, 2) := by decide +kernel
theorem dX8_firstPlace_24 : decode cX8_firstPlace 24 = .ok (.if_icmp .ge 33, 3) := by decide +kernel
theorem dX8_firstPlace_27 : decode cX8_firstPlace 27 = .ok (.aload_n 0, 1) := by decide +kernel
theorem dX8_firstPlace_28 : decode cX8_firstPlace 28 = .ok (.iload_n 1, 1) := by decide +kernel
theorem dX8_firstPlace_29 : decode cX8_firstPlace 29 = .ok (.iload_n 3, 1) := by decide +kernel
theorem dX8_firstPlace_30 : decode cX8_firstPlace 30 = .ok (.invokevirtual 36, 3) := by decide +kernel
theorem dX8_firstPlace_33 : decode cX8_firstPlace 33 = .ok (.aload_n 0, 1) := by decide +kernel
theorem dX8_firstPlace_34 : decode cX8_firstPlace 34 = .ok (.iload_n 3, 1) := by decide +kernel
theorem dX8_firstPlace_35 : decode cX8_firstPlace 35 = .ok (.iload_n 2, 1) := by decide +kernel
theorem dX8_firstPlace_36 : decode cX8_firstPlace 36 = .ok (.invokevirtual 32, 3) := by decide +kernel
theorem dX8_firstPlace_39 : decode cX8_firstPlace 39 = .ok (.iadd, 1) := by decide +kernel
theorem dX8_firstPlace_40 : decode cX8_firstPlace 40 = .ok (.aload_n 0, 1) := by decide +kernel
theorem dX8_firstPlace_41 : decode cX8_firstPlace 41 = .ok (.iload_n 1, 1) := by decide +kernel
theorem dX8_firstPlace_42 : decode cX8_firstPlace 42 = .ok (.iload_n 2, 1) := by decide +kernel
theorem dX8_firstPlace_43 : decode cX8_firstPlace 43 = .ok (.invokevirtual 32, 3) := by decide +kernel
theorem dX8_firstPlace_46 : decode cX8_firstPlace 46 = .ok (.if_icmp .ne 5, 3) := by decide +kernel
theorem dX8_firstPlace_49 : decode cX8_firstPlace 49 = .ok (.iload_n 3, 1) := by decide +kernel
theorem dX8_firstPlace_50 : decode cX8_firstPlace 50 = .ok (.ireturn, 1) := by decide +kernel
theorem dX8_firstPlace_51 : decode cX8_firstPlace 51 = .ok (.iinc 3 1, 3) := by decide +kernel
theorem dX8_firstPlace_54 : decode cX8_firstPlace 54 = .ok (.goto (-33), 3) := by decide +kernel
theorem dX8_firstPlace_57 : decode cX8_firstPlace 57 = .ok (.bipush (-6), 2) := by decide +kernel
theorem dX8_firstPlace_59 : decode cX8_firstPlace 59 = .ok (.ireturn, 1) := by decide +kernel
abbrev wl_X8_firstPlace (G : gw_) (A_t : Nat) (A_t_planks : Nat) (A_t_least : Nat) (A_t_neighbours : Nat) (c_t_planks : Nat → Int32) (c_t_least : Nat → Int32) : va_W := [ob_ A_t 8 [.ref A_t_planks, .ref A_t_least, .ref A_t_neighbours], ia_ G A_t_planks 144 c_t_planks, ia_ G A_t_least 144 c_t_least]
def fn_X8_firstPlace_b21 (c_t_planks : Nat → Int32) (c_t_least : Nat → Int32) (x1 : Int32) (x2 : Int32) (rc : Int32 → Option (Int32)) (k : Option (Int32)) (x3 : Int32) : Option (Int32) :=
  if 12 ≤ x3 then
    k
  else
    b1_ (fn_X8_plankCosts c_t_planks x1 x3) fun r3 =>
    b1_ (fn_X8_between c_t_least x3 x2) fun r5 =>
    b1_ (fn_X8_between c_t_least x1 x2) fun r7 =>
    if (r3 + r5) = r7 then
      some x3
    else
      rc (x3 + 1)
def fn_X8_firstPlace_l21 (c_t_planks : Nat → Int32) (c_t_least : Nat → Int32) (x1 : Int32) (x2 : Int32) (k : Option (Int32)) : Nat → Int32 → Option (Int32)
  | 0 => fun _ => none
  | n + 1 => fun x3 => fn_X8_firstPlace_b21 c_t_planks c_t_least x1 x2 (fn_X8_firstPlace_l21 c_t_planks c_t_least x1 x2 k n) k x3
def fn_X8_firstPlace (c_t_planks : Nat → Int32) (c_t_least : Nat → Int32) (x1 : Int32) (x2 : Int32) : Option (Int32) :=
  if x1 = x2 then
    some (-6)
  else
    b1_ (fn_X8_between c_t_least x1 x2) fun r1 =>
    if r1 < 1000000 then
      fn_X8_firstPlace_l21 c_t_planks c_t_least x1 x2 (some (-6)) fu_ 0
    else
      some (-6)
set_option maxHeartbeats 4000000 in
set_option maxRecDepth 100000 in
theorem wn_X8_firstPlace_l21 {p : Program} {l : Launch} {e : Env} {s : State} {m : MethodId} {args : Array Value} {below : List Frame} {meth : Method} {c : Code} {G : gw_} {A : Nat → Prop} {Q : State → Prop} {A_t : Nat} {A_t_planks : Nat} {A_t_least : Nat} {A_t_neighbours : Nat} {c_t_planks : Nat → Int32} {c_t_least : Nat → Int32} {r : Int32} {x1 : Int32} {x2 : Int32} {k : Option (Int32)} (hC : cx_ p s m c G cX8_firstPlace 4 RX8) (hret : ∀ (pc : Nat) (H : Heap) (locs : List Loc) (ls : Array Slot), decode cX8_firstPlace pc = .ok (.ireturn, 1) → wd_ G A s.heap (wl_X8_firstPlace G A_t A_t_planks A_t_least A_t_neighbours c_t_planks c_t_least) H locs → W p l e { frames := 1, cells := 0, slots := 0, locals := 22 } s m args below meth c H locs 0 0 Q (F0 m pc ls [.int r])) (hk : ∀  (H : Heap) (locs : List Loc) (ls : Array Slot), k = some r → lv_has ls 4 [] → wd_ G A s.heap (wl_X8_firstPlace G A_t A_t_planks A_t_least A_t_neighbours c_t_planks c_t_least) H locs → W p l e { frames := 1, cells := 0, slots := 0, locals := 22 } s m args below meth c H locs 0 0 Q (F0 m 57 ls [])) : ∀ (n : Nat) (x3 : Int32) (H : Heap) (locs : List Loc) (ls : Array Slot), fn_X8_firstPlace_l21 c_t_planks c_t_least x1 x2 k n x3 = some r → lv_has ls 4 [(0, .ref A_t), (1, .int x1), (2, .int x2), (3, .int x3)] → wd_ G A s.heap (wl_X8_firstPlace G A_t A_t_planks A_t_least A_t_neighbours c_t_planks c_t_least) H locs → W p l e { frames := 1, cells := 0, slots := 0, locals := 22 } s m args below meth c H locs 0 0 Q (F0 m 21 ls []) := by
  have hx := hC.1
  have hb := hC.2.1
  intro n
  induction n with
  | zero =>
    intro x3 H locs ls hf
    cases (show (none : Option (Int32)) = some _ from hf)
  | succ n hrc =>
    intro x3 H locs ls hf hl hw
    replace hf : fn_X8_firstPlace_b21 c_t_planks c_t_least x1 x2 (fn_X8_firstPlace_l21 c_t_planks c_t_least x1 x2 k n) k x3 = some r := hf
    unfold fn_X8_firstPlace_b21 at hf
    refine lv_iload_n hx hb dX8_firstPlace_21 rfl (lv_at hl 3 rfl) ?_
    refine lv_bipush (v := 12) hx hb dX8_firstPlace_22 (by decide) ?_
    refine lv_icmp_ge (tgt := 57) hx hb dX8_firstPlace_24 (by decide) (fun hc => ?_) (fun hc => ?_)
    · replace hf := it_t hc hf
      exact hk _ _ _ hf (lv_sub hl [] rfl) hw
    · replace hf := it_f hc hf
      refine lv_aload_n hx hb dX8_firstPlace_27 rfl (lv_at hl 0 rfl) ?_
      refine lv_iload_n hx hb dX8_firstPlace_28 rfl (lv_at hl 1 rfl) ?_
      refine lv_iload_n hx hb dX8_firstPlace_29 rfl (lv_at hl 3 rfl) ?_
      obtain ⟨r3, hq4, hf⟩ := b1_s hf
      refine h_cVi hC hw mvX8_36 (cn_X8_plankCosts l G A_t A_t_planks A_t_least A_t_neighbours c_t_planks x1 x3 r3 hq4) [0, 1] rfl (by decide) 0 rfl rfl rfl hl.1 rfl (Nat.le_of_ble_eq_true rfl) ⟨Nat.le_of_ble_eq_true rfl, Nat.le_of_ble_eq_true rfl⟩ ⟨Nat.le_refl _, Nat.le_refl _⟩ dX8_firstPlace_30 (fun H locs hw => ?_)
      refine lv_aload_n hx hb dX8_firstPlace_33 rfl (lv_at hl 0 rfl) ?_
      refine lv_iload_n hx hb dX8_firstPlace_34 rfl (lv_at hl 3 rfl) ?_
      refine lv_iload_n hx hb dX8_firstPlace_35 rfl (lv_at hl 2 rfl) ?_
      obtain ⟨r5, hq6, hf⟩ := b1_s hf
      refine h_cVi hC hw mvX8_32 (cn_X8_between l G A_t A_t_planks A_t_least A_t_neighbours c_t_least x3 x2 r5 hq6) [0, 2] rfl (by decide) 0 rfl rfl rfl hl.1 rfl (Nat.le_of_ble_eq_true rfl) ⟨Nat.le_of_ble_eq_true rfl, Nat.le_of_ble_eq_true rfl⟩ ⟨Nat.le_refl _, Nat.le_refl _⟩ dX8_firstPlace_36 (fun H locs hw => ?_)
      refine lv_iadd hx hb dX8_firstPlace_39 ?_
      refine lv_aload_n hx hb dX8_firstPlace_40 rfl (lv_at hl 0 rfl) ?_
      refine lv_iload_n hx hb dX8_firstPlace_41 rfl (lv_at hl 1 rfl) ?_
      refine lv_iload_n hx hb dX8_firstPlace_42 rfl (lv_at hl 2 rfl) ?_
      obtain ⟨r7, hq8, hf⟩ := b1_s hf
      refine h_cVi hC hw mvX8_32 (cn_X8_between l G A_t A_t_planks A_t_least A_t_neighbours c_t_least x1 x2 r7 hq8) [0, 2] rfl (by decide) 0 rfl rfl rfl hl.1 rfl (Nat.le_of_ble_eq_true rfl) ⟨Nat.le_of_ble_eq_true rfl, Nat.le_of_ble_eq_true rfl⟩ ⟨Nat.le_refl _, Nat.le_refl _⟩ dX8_firstPlace_43 (fun H locs hw => ?_)
      refine lv_icmp_ne (tgt := 51) hx hb dX8_firstPlace_46 (by decide) (fun hc => ?_) (fun hc => ?_)
      · replace hf := it_f hc hf
        refine lv_iinc (v := x3 + 1) (lv' := [(3, .int (x3 + 1)), (0, .ref A_t), (1, .int x1), (2, .int x2)]) hx hb dX8_firstPlace_51 hl (k := 3) rfl rfl (by decide) rfl (fun ls hl => ?_)
        refine lv_goto (tgt := 21) hx hb dX8_firstPlace_54 (by decide) ?_
        exact hrc (x3 + 1) _ _ _ hf (lv_sub hl [1, 2, 3, 0] rfl) hw
      · replace hf := it_t hc hf
        refine lv_iload_n hx hb dX8_firstPlace_49 rfl (lv_at hl 3 rfl) ?_
        have h1_ := t1_ hf
        subst h1_
        exact hret _ _ _ _ dX8_firstPlace_50 hw
set_option maxHeartbeats 4000000 in
set_option maxRecDepth 100000 in
theorem wn_X8_firstPlace {p : Program} {l : Launch} {e : Env} {s : State} {m : MethodId} {args : Array Value} {below : List Frame} {meth : Method} {c : Code} {G : gw_} {A : Nat → Prop} {Q : State → Prop} {A_t : Nat} {A_t_planks : Nat} {A_t_least : Nat} {A_t_neighbours : Nat} {c_t_planks : Nat → Int32} {c_t_least : Nat → Int32} {r : Int32} {x1 : Int32} {x2 : Int32} (hC : cx_ p s m c G cX8_firstPlace 4 RX8) (hret : ∀ (pc : Nat) (H : Heap) (locs : List Loc) (ls : Array Slot), decode cX8_firstPlace pc = .ok (.ireturn, 1) → wd_ G A s.heap (wl_X8_firstPlace G A_t A_t_planks A_t_least A_t_neighbours c_t_planks c_t_least) H locs → W p l e { frames := 1, cells := 0, slots := 0, locals := 22 } s m args below meth c H locs 0 0 Q (F0 m pc ls [.int r])) (hf : fn_X8_firstPlace c_t_planks c_t_least x1 x2 = some r) {H : Heap} {locs : List Loc} {ls : Array Slot} (hl : lv_has ls 4 [(0, .ref A_t), (1, .int x1), (2, .int x2)]) (hw : wd_ G A s.heap (wl_X8_firstPlace G A_t A_t_planks A_t_least A_t_neighbours c_t_planks c_t_least) H locs) : W p l e { frames := 1, cells := 0, slots := 0, locals := 22 } s m args below meth c H locs 0 0 Q (F0 m 0 ls []) := by
  have hx := hC.1
  have hb := hC.2.1
  unfold fn_X8_firstPlace at hf
  refine lv_iload_n hx hb dX8_firstPlace_0 rfl (lv_at hl 1 rfl) ?_
  refine lv_iload_n hx hb dX8_firstPlace_1 rfl (lv_at hl 2 rfl) ?_
  refine lv_icmp_eq (tgt := 16) hx hb dX8_firstPlace_2 (by decide) (fun hc => ?_) (fun hc => ?_)
  · replace hf := it_t hc hf
    refine lv_bipush (v := (-6)) hx hb dX8_firstPlace_16 (by decide) ?_
    have h1_ := t1_ hf
    subst h1_
    exact hret _ _ _ _ dX8_firstPlace_18 hw
  · replace hf := it_f hc hf
    refine lv_aload_n hx hb dX8_firstPlace_5 rfl (lv_at hl 0 rfl) ?_
    refine lv_iload_n hx hb dX8_firstPlace_6 rfl (lv_at hl 1 rfl) ?_
    refine lv_iload_n hx hb dX8_firstPlace_7 rfl (lv_at hl 2 rfl) ?_
    obtain ⟨r1, hq2, hf⟩ := b1_s hf
    refine h_cVi hC hw mvX8_32 (cn_X8_between l G A_t A_t_planks A_t_least A_t_neighbours c_t_least x1 x2 r1 hq2) [0, 2] rfl (by decide) 0 rfl rfl rfl hl.1 rfl (Nat.le_of_ble_eq_true rfl) ⟨Nat.le_of_ble_eq_true rfl, Nat.le_of_ble_eq_true rfl⟩ ⟨Nat.le_refl _, Nat.le_refl _⟩ dX8_firstPlace_8 (fun H locs hw => ?_)
    refine g_ldc (v := 1000000) hC (tb2 198 rfl rfl) dX8_firstPlace_11 ?_
    refine lv_icmp_lt (tgt := 19) hx hb dX8_firstPlace_13 (by decide) (fun hc => ?_) (fun hc => ?_)
    · replace hf := it_t hc hf
      refine lv_iconst (v := 0) hx hb dX8_firstPlace_19 (by decide) ?_
      refine lv_istore_n (lv' := [(3, .int 0), (0, .ref A_t), (1, .int x1), (2, .int x2)]) hx hb dX8_firstPlace_20 rfl hl (by decide) rfl (fun ls hl => ?_)
      refine wn_X8_firstPlace_l21 hC hret (fun H locs ls hf hl hw => ?_) fu_ 0 _ _ _ hf (lv_sub hl [1, 2, 3, 0] rfl) hw
      refine lv_bipush (v := (-6)) hx hb dX8_firstPlace_57 (by decide) ?_
      have h1_ := t1_ hf
      subst h1_
      exact hret _ _ _ _ dX8_firstPlace_59 hw
    · replace hf := it_f hc hf
      refine lv_bipush (v := (-6)) hx hb dX8_firstPlace_16 (by decide) ?_
      have h1_ := t1_ hf
      subst h1_
      exact hret _ _ _ _ dX8_firstPlace_18 hw
set_option maxHeartbeats 4000000 in
set_option maxRecDepth 100000 in
theorem cn_X8_firstPlace (l : Launch) (G : gw_) (A_t : Nat) (A_t_planks : Nat) (A_t_least : Nat) (A_t_neighbours : Nat) (c_t_planks : Nat → Int32) (c_t_least : Nat → Int32) (x1 : Int32) (x2 : Int32) (r : Int32) (hf : fn_X8_firstPlace c_t_planks c_t_least x1 x2 = some r) : ci_ l G yX8_firstPlace cX8_firstPlace 4 (some .int) 1 22 (wl_X8_firstPlace G A_t A_t_planks A_t_least A_t_neighbours c_t_planks c_t_least) [.ref A_t, .int x1, .int x2] r (wl_X8_firstPlace G A_t A_t_planks A_t_least A_t_neighbours c_t_planks c_t_least) := fun sz => met_intro (by decide) (Nat.le_of_ble_eq_true rfl) (fun p e s m args below meth c ls hsz hC hr hlk hnm hl hw => wn_X8_firstPlace hC (fun pc H locs ls hd hw => g_iret hC hr hlk hw rfl rfl hd) hf hl hw)

theorem dX3_follow_0 : decode cX3_follow 0 = .ok (.aload_n 0, 1) := by decide +kernel
theorem dX3_follow_1 : decode cX3_follow 1 = .ok (.iload 4, 2) := by decide +kernel
theorem dX3_follow_3 : decode cX3_follow 3 = .ok (.putfield 19, 3) := by decide +kernel
theorem dX3_follow_6 : decode cX3_follow 6 = .ok (.aload_n 0, 1) := by decide +kernel
theorem dX3_follow_7 : decode cX3_follow 7 = .ok (.iconst 0, 1) := by decide +kernel
theorem dX3_follow_8 : decode cX3_follow 8 = .ok (.putfield 15, 3) := by decide +kernel
theorem dX3_follow_11 : decode cX3_follow 11 = .ok (.iload_n 2, 1) := by decide +kernel
theorem dX3_follow_12 : decode cX3_follow 12 = .ok (.istore 5, 2) := by decide +kernel
theorem dX3_follow_14 : decode cX3_follow 14 = .ok (.iconst 0, 1) := by decide +kernel
theorem dX3_follow_15 : decode cX3_follow 15 = .ok (.istore 6, 2) := by decide +kernel
theorem dX3_follow_17 : decode cX3_follow 17 = .ok (.iload 6, 2) := by decide +kernel
theorem dX3_follow_19 : decode cX3_follow 19 = .ok (.bipush 12, 2) := by decide +kernel
theorem dX3_follow_21 : decode cX3_follow 21 = .ok (.if_icmp .ge 63, 3) := by decide +kernel
theorem dX3_follow_24 : decode cX3_follow 24 = .ok (.iload 5, 2) := by decide +kernel
theorem dX3_follow_26 : decode cX3_follow 26 = .ok (.iload_n 3, 1) := by decide +kernel
theorem dX3_follow_27 : decode cX3_follow 27 = .ok (.if_icmp .eq 57, 3) := by decide +kernel
theorem dX3_follow_30 : decode cX3_follow 30 = .ok (.aload_n 1, 1) := by decide +kernel
theorem dX3_follow_31 : decode cX3_follow 31 = .ok (.iload 5, 2) := by decide +kernel
theorem dX3_follow_33 : decode cX3_follow 33 = .ok (.iload_n 3, 1) := by decide +kernel
theorem dX3_follow_34 : decode cX3_follow 34 = .ok (.invokevirtual 22, 3) := by decide +kernel
theorem dX3_follow_37 : decode cX3_follow 37 = .ok (.istore 7, 2) := by decide +kernel
theorem dX3_follow_39 : decode cX3_follow 39 = .ok (.iload 7, 2) := by decide +kernel
theorem dX3_follow_41 : decode cX3_follow 41 = .ok (.bipush (-6), 2) := by decide +kernel
theorem dX3_follow_43 : decode cX3_follow 43 = .ok (.if_icmp .ne 4, 3) := by decide +kernel
theorem dX3_follow_46 : decode cX3_follow 46 = .ok (.return_, 1) := by decide +kernel
theorem dX3_follow_47 : decode cX3_follow 47 = .ok (.aload_n 0, 1) := by decide +kernel
theorem dX3_follow_48 : decode cX3_follow 48 = .ok (.getfield 9, 3) := by decide +kernel
theorem dX3_follow_51 : decode cX3_follow 51 = .ok (.aload_n 0, 1) := by decide +kernel
theorem dX3_follow_52 : decode cX3_follow 52 = .ok (.getfield 15, 3) := by decide +kernel
theorem dX3_follow_55 : decode cX3_follow 55 = .ok (.aload_n 1, 1) := by decide +kernel
theorem dX3_follow_56 : decode cX3_follow 56 = .ok (.iload 5, 2) := by decide +kernel
theorem dX3_follow_58 : decode cX3_follow 58 = .ok (.iload 7, 2) := by decide +kernel
theorem dX3_follow_60 : decode cX3_follow 60 = .ok (.invokevirtual 28, 3) := by decide +kernel
theorem dX3_follow_63 : decode cX3_follow 63 = .ok (.iastore, 1) := by decide +kernel
theorem dX3_follow_64 : decode cX3_follow 64 = .ok (.aload_n 0, 1) := by decide +kernel
theorem dX3_follow_65 : decode cX3_follow 65 = .ok (.dup, 1) := by decide +kernel
theorem dX3_follow_66 : decode cX3_follow 66 = .ok (.getfield 15, 3) := by decide +kernel
theorem dX3_follow_69 : decode cX3_follow 69 = .ok (.iconst 1, 1) := by decide +kernel
theorem dX3_follow_70 : decode cX3_follow 70 = .ok (.iadd, 1) := by decide +kernel
theorem dX3_follow_71 : decode cX3_follow 71 = .ok (.putfield 15, 3) := by decide +kernel
theorem dX3_follow_74 : decode cX3_follow 74 = .ok (.iload 7, 2) := by decide +kernel
theorem dX3_follow_76 : decode cX3_follow 76 = .ok (.istore 5, 2) := by decide +kernel
theorem dX3_follow_78 : decode cX3_follow 78 = .ok (.iinc 6 1, 3) := by decide +kernel
theorem dX3_follow_81 : decode cX3_follow 81 = .ok (.goto (-64), 3) := by decide +kernel
theorem dX3_follow_84 : decode cX3_follow 84 = .ok (.return_, 1) := by decide +kernel
abbrev wl_X3_follow (G : gw_) (A_t : Nat) (A_t_planks : Nat) (A_q1 : Nat) (A_q1_planks : Nat) (A_q1_least : Nat) (A_q1_neighbours : Nat) (c_t_count : Int32) (c_t_tenths : Int32) (c_t_planks : Nat → Int32) (c_q1_planks : Nat → Int32) (c_q1_least : Nat → Int32) : va_W := [ob_ A_t 3 [.ref A_t_planks, .int c_t_count, .int c_t_tenths], ia_ G A_t_planks 12 c_t_planks, ob_ A_q1 8 [.ref A_q1_planks, .ref A_q1_least, .ref A_q1_neighbours], ia_ G A_q1_planks 144 c_q1_planks, ia_ G A_q1_least 144 c_q1_least]
def fn_X3_follow_b17 (c_t_tenths : Int32) (c_q1_planks : Nat → Int32) (c_q1_least : Nat → Int32) (x3 : Int32) (rc : Int32 → Int32 → Int32 → (Nat → Int32) → Option (Int32 × Int32 × (Nat → Int32))) (k : Int32 → (Nat → Int32) → Option (Int32 × Int32 × (Nat → Int32))) (x5 : Int32) (x6 : Int32) (c_t_count : Int32) (c_t_planks : Nat → Int32) : Option (Int32 × Int32 × (Nat → Int32)) :=
  if 12 ≤ x6 then
    k c_t_count c_t_planks
  else
    if x5 = x3 then
      k c_t_count c_t_planks
    else
      b1_ (fn_X8_firstPlace c_q1_planks c_q1_least x5 x3) fun r1 =>
      if r1 = (-6) then
        some (c_t_count, c_t_tenths, c_t_planks)
      else
        b1_ (fn_X8_plankCosts c_q1_planks x5 r1) fun r3 =>
        ck_ c_t_count 12 <|
        lx_ (upd c_t_planks (Int32.toNatClampNeg c_t_count) r3) fun f5 =>
        rc r1 (x6 + 1) (c_t_count + 1) f5
def fn_X3_follow_l17 (c_t_tenths : Int32) (c_q1_planks : Nat → Int32) (c_q1_least : Nat → Int32) (x3 : Int32) (k : Int32 → (Nat → Int32) → Option (Int32 × Int32 × (Nat → Int32))) : Nat → Int32 → Int32 → Int32 → (Nat → Int32) → Option (Int32 × Int32 × (Nat → Int32))
  | 0 => fun _ _ _ _ => none
  | n + 1 => fun x5 x6 c_t_count c_t_planks => fn_X3_follow_b17 c_t_tenths c_q1_planks c_q1_least x3 (fn_X3_follow_l17 c_t_tenths c_q1_planks c_q1_least x3 k n) k x5 x6 c_t_count c_t_planks
def fn_X3_follow (c_t_count : Int32) (c_t_tenths : Int32) (c_t_planks : Nat → Int32) (c_q1_planks : Nat → Int32) (c_q1_least : Nat → Int32) (x2 : Int32) (x3 : Int32) (x4 : Int32) : Option (Int32 × Int32 × (Nat → Int32)) :=
  fn_X3_follow_l17 x4 c_q1_planks c_q1_least x3 (fun v6 v7 =>
    some (v6, x4, v7)) fu_ x2 0 0 c_t_planks
set_option maxHeartbeats 4000000 in
set_option maxRecDepth 100000 in
theorem wn_X3_follow_l17 {p : Program} {l : Launch} {e : Env} {s : State} {m : MethodId} {args : Array Value} {below : List Frame} {meth : Method} {c : Code} {G : gw_} {A : Nat → Prop} {Q : State → Prop} {A_t : Nat} {A_t_planks : Nat} {A_q1 : Nat} {A_q1_planks : Nat} {A_q1_least : Nat} {A_q1_neighbours : Nat} {z_t_count : Int32} {c_t_tenths : Int32} {z_t_tenths : Int32} {z_t_planks : Nat → Int32} {c_q1_planks : Nat → Int32} {c_q1_least : Nat → Int32} {x3 : Int32} {k : Int32 → (Nat → Int32) → Option (Int32 × Int32 × (Nat → Int32))} (hC : cx_ p s m c G cX3_follow 8 RX3) (hret : ∀ (pc : Nat) (H : Heap) (locs : List Loc) (ls : Array Slot), decode cX3_follow pc = .ok (.return_, 1) → wd_ G A s.heap (wl_X3_follow G A_t A_t_planks A_q1 A_q1_planks A_q1_least A_q1_neighbours z_t_count z_t_tenths z_t_planks c_q1_planks c_q1_least) H locs → W p l e { frames := 2, cells := 0, slots := 0, locals := 45 } s m args below meth c H locs 0 0 Q (F0 m pc ls [])) (hk : ∀ (c_t_count : Int32) (c_t_planks : Nat → Int32) (H : Heap) (locs : List Loc) (ls : Array Slot), k c_t_count c_t_planks = some (z_t_count, z_t_tenths, z_t_planks) → lv_has ls 8 [] → wd_ G A s.heap (wl_X3_follow G A_t A_t_planks A_q1 A_q1_planks A_q1_least A_q1_neighbours c_t_count c_t_tenths c_t_planks c_q1_planks c_q1_least) H locs → W p l e { frames := 2, cells := 0, slots := 0, locals := 45 } s m args below meth c H locs 0 0 Q (F0 m 84 ls [])) : ∀ (n : Nat) (x5 : Int32) (x6 : Int32) (c_t_count : Int32) (c_t_planks : Nat → Int32) (H : Heap) (locs : List Loc) (ls : Array Slot), fn_X3_follow_l17 c_t_tenths c_q1_planks c_q1_least x3 k n x5 x6 c_t_count c_t_planks = some (z_t_count, z_t_tenths, z_t_planks) → lv_has ls 8 [(0, .ref A_t), (1, .ref A_q1), (3, .int x3), (5, .int x5), (6, .int x6)] → wd_ G A s.heap (wl_X3_follow G A_t A_t_planks A_q1 A_q1_planks A_q1_least A_q1_neighbours c_t_count c_t_tenths c_t_planks c_q1_planks c_q1_least) H locs → W p l e { frames := 2, cells := 0, slots := 0, locals := 45 } s m args below meth c H locs 0 0 Q (F0 m 17 ls []) := by
  have hx := hC.1
  have hb := hC.2.1
  intro n
  induction n with
  | zero =>
    intro x5 x6 c_t_count c_t_planks H locs ls hf
    cases (show (none : Option (Int32 × Int32 × (Nat → Int32))) = some _ from hf)
  | succ n hrc =>
    intro x5 x6 c_t_count c_t_planks H locs ls hf hl hw
    replace hf : fn_X3_follow_b17 c_t_tenths c_q1_planks c_q1_least x3 (fn_X3_follow_l17 c_t_tenths c_q1_planks c_q1_least x3 k n) k x5 x6 c_t_count c_t_planks = some (z_t_count, z_t_tenths, z_t_planks) := hf
    unfold fn_X3_follow_b17 at hf
    refine lv_iload hx hb dX3_follow_17 (lv_at hl 4 rfl) ?_
    refine lv_bipush (v := 12) hx hb dX3_follow_19 (by decide) ?_
    refine lv_icmp_ge (tgt := 84) hx hb dX3_follow_21 (by decide) (fun hc => ?_) (fun hc => ?_)
    · replace hf := it_t hc hf
      exact hk c_t_count c_t_planks _ _ _ hf (lv_sub hl [] rfl) hw
    · replace hf := it_f hc hf
      refine lv_iload hx hb dX3_follow_24 (lv_at hl 3 rfl) ?_
      refine lv_iload_n hx hb dX3_follow_26 rfl (lv_at hl 2 rfl) ?_
      refine lv_icmp_eq (tgt := 84) hx hb dX3_follow_27 (by decide) (fun hc => ?_) (fun hc => ?_)
      · replace hf := it_t hc hf
        exact hk c_t_count c_t_planks _ _ _ hf (lv_sub hl [] rfl) hw
      · replace hf := it_f hc hf
        refine lv_aload_n hx hb dX3_follow_30 rfl (lv_at hl 1 rfl) ?_
        refine lv_iload hx hb dX3_follow_31 (lv_at hl 3 rfl) ?_
        refine lv_iload_n hx hb dX3_follow_33 rfl (lv_at hl 2 rfl) ?_
        obtain ⟨r1, hq2, hf⟩ := b1_s hf
        refine h_cVi hC hw mvX3_22 (cn_X8_firstPlace l G A_q1 A_q1_planks A_q1_least A_q1_neighbours c_q1_planks c_q1_least x5 x3 r1 hq2) [2, 3, 4] rfl (by decide) 2 rfl rfl rfl hl.1 rfl (Nat.le_of_ble_eq_true rfl) ⟨Nat.le_of_ble_eq_true rfl, Nat.le_of_ble_eq_true rfl⟩ ⟨Nat.le_refl _, Nat.le_refl _⟩ dX3_follow_34 (fun H locs hw => ?_)
        refine lv_istore (lv' := [(7, .int r1), (0, .ref A_t), (1, .ref A_q1), (3, .int x3), (5, .int x5), (6, .int x6)]) hx hb dX3_follow_37 hl (by decide) rfl (fun ls hl => ?_)
        refine lv_iload hx hb dX3_follow_39 (lv_at hl 0 rfl) ?_
        refine lv_bipush (v := (-6)) hx hb dX3_follow_41 (by decide) ?_
        refine lv_icmp_ne (tgt := 47) hx hb dX3_follow_43 (by decide) (fun hc => ?_) (fun hc => ?_)
        · replace hf := it_f hc hf
          refine lv_aload_n hx hb dX3_follow_47 rfl (lv_at hl 1 rfl) ?_
          refine g_get hC hw fkX3_9 0 rfl rfl dX3_follow_48 ?_
          refine lv_aload_n hx hb dX3_follow_51 rfl (lv_at hl 1 rfl) ?_
          refine g_get hC hw fkX3_15 0 rfl rfl dX3_follow_52 ?_
          refine lv_aload_n hx hb dX3_follow_55 rfl (lv_at hl 2 rfl) ?_
          refine lv_iload hx hb dX3_follow_56 (lv_at hl 4 rfl) ?_
          refine lv_iload hx hb dX3_follow_58 (lv_at hl 0 rfl) ?_
          obtain ⟨r3, hq4, hf⟩ := b1_s hf
          refine h_cVi hC hw mvX3_28 (cn_X8_plankCosts l G A_q1 A_q1_planks A_q1_least A_q1_neighbours c_q1_planks x5 r1 r3 hq4) [2, 3] rfl (by decide) 2 rfl rfl rfl hl.1 rfl (Nat.le_of_ble_eq_true rfl) ⟨Nat.le_of_ble_eq_true rfl, Nat.le_of_ble_eq_true rfl⟩ ⟨Nat.le_refl _, Nat.le_refl _⟩ dX3_follow_60 (fun H locs hw => ?_)
          obtain ⟨hi, hf⟩ := ck_s hf
          obtain ⟨f5, ef5, hf⟩ := lx_s hf
          refine g_iast hC hw 1 rfl hi ef5 dX3_follow_63 (fun H locs hw => ?_)
          have hw : wd_ G A s.heap (wl_X3_follow G A_t A_t_planks A_q1 A_q1_planks A_q1_least A_q1_neighbours c_t_count c_t_tenths f5 c_q1_planks c_q1_least) H locs := hw
          refine lv_aload_n hx hb dX3_follow_64 rfl (lv_at hl 1 rfl) ?_
          refine lv_dup hx hb dX3_follow_65 rfl ?_
          refine g_get hC hw fkX3_15 0 rfl rfl dX3_follow_66 ?_
          refine lv_iconst (v := 1) hx hb dX3_follow_69 (by decide) ?_
          refine lv_iadd hx hb dX3_follow_70 ?_
          refine g_put hC hw fpX3_15 0 rfl rfl rfl (Nat.le_of_ble_eq_true rfl) dX3_follow_71 (fun H locs hw => ?_)
          have hw : wd_ G A s.heap (wl_X3_follow G A_t A_t_planks A_q1 A_q1_planks A_q1_least A_q1_neighbours (c_t_count + 1) c_t_tenths f5 c_q1_planks c_q1_least) H locs := hw
          refine lv_iload hx hb dX3_follow_74 (lv_at hl 0 rfl) ?_
          refine lv_istore (lv' := [(5, .int r1), (7, .int r1), (0, .ref A_t), (1, .ref A_q1), (3, .int x3), (6, .int x6)]) hx hb dX3_follow_76 hl (by decide) rfl (fun ls hl => ?_)
          refine lv_iinc (v := x6 + 1) (lv' := [(6, .int (x6 + 1)), (5, .int r1), (7, .int r1), (0, .ref A_t), (1, .ref A_q1), (3, .int x3)]) hx hb dX3_follow_78 hl (k := 5) rfl rfl (by decide) rfl (fun ls hl => ?_)
          refine lv_goto (tgt := 17) hx hb dX3_follow_81 (by decide) ?_
          exact hrc r1 (x6 + 1) (c_t_count + 1) f5 _ _ _ hf (lv_sub hl [3, 4, 5, 1, 0] rfl) hw
        · replace hf := it_t hc hf
          obtain ⟨h1_, h2_, h3_⟩ := t3_ hf
          subst h1_
          subst h2_
          subst h3_
          exact hret _ _ _ _ dX3_follow_46 hw
set_option maxHeartbeats 4000000 in
set_option maxRecDepth 100000 in
theorem wn_X3_follow {p : Program} {l : Launch} {e : Env} {s : State} {m : MethodId} {args : Array Value} {below : List Frame} {meth : Method} {c : Code} {G : gw_} {A : Nat → Prop} {Q : State → Prop} {A_t : Nat} {A_t_planks : Nat} {A_q1 : Nat} {A_q1_planks : Nat} {A_q1_least : Nat} {A_q1_neighbours : Nat} {c_t_count : Int32} {z_t_count : Int32} {c_t_tenths : Int32} {z_t_tenths : Int32} {c_t_planks : Nat → Int32} {z_t_planks : Nat → Int32} {c_q1_planks : Nat → Int32} {c_q1_least : Nat → Int32} {x2 : Int32} {x3 : Int32} {x4 : Int32} (hC : cx_ p s m c G cX3_follow 8 RX3) (hret : ∀ (pc : Nat) (H : Heap) (locs : List Loc) (ls : Array Slot), decode cX3_follow pc = .ok (.return_, 1) → wd_ G A s.heap (wl_X3_follow G A_t A_t_planks A_q1 A_q1_planks A_q1_least A_q1_neighbours z_t_count z_t_tenths z_t_planks c_q1_planks c_q1_least) H locs → W p l e { frames := 2, cells := 0, slots := 0, locals := 45 } s m args below meth c H locs 0 0 Q (F0 m pc ls [])) (hf : fn_X3_follow c_t_count c_t_tenths c_t_planks c_q1_planks c_q1_least x2 x3 x4 = some (z_t_count, z_t_tenths, z_t_planks)) {H : Heap} {locs : List Loc} {ls : Array Slot} (hl : lv_has ls 8 [(0, .ref A_t), (1, .ref A_q1), (2, .int x2), (3, .int x3), (4, .int x4)]) (hw : wd_ G A s.heap (wl_X3_follow G A_t A_t_planks A_q1 A_q1_planks A_q1_least A_q1_neighbours c_t_count c_t_tenths c_t_planks c_q1_planks c_q1_least) H locs) : W p l e { frames := 2, cells := 0, slots := 0, locals := 45 } s m args below meth c H locs 0 0 Q (F0 m 0 ls []) := by
  have hx := hC.1
  have hb := hC.2.1
  unfold fn_X3_follow at hf
  refine lv_aload_n hx hb dX3_follow_0 rfl (lv_at hl 0 rfl) ?_
  refine lv_iload hx hb dX3_follow_1 (lv_at hl 4 rfl) ?_
  refine g_put hC hw fpX3_19 0 rfl rfl rfl (Nat.le_of_ble_eq_true rfl) dX3_follow_3 (fun H locs hw => ?_)
  have hw : wd_ G A s.heap (wl_X3_follow G A_t A_t_planks A_q1 A_q1_planks A_q1_least A_q1_neighbours c_t_count x4 c_t_planks c_q1_planks c_q1_least) H locs := hw
  refine lv_aload_n hx hb dX3_follow_6 rfl (lv_at hl 0 rfl) ?_
  refine lv_iconst (v := 0) hx hb dX3_follow_7 (by decide) ?_
  refine g_put hC hw fpX3_15 0 rfl rfl rfl (Nat.le_of_ble_eq_true rfl) dX3_follow_8 (fun H locs hw => ?_)
  have hw : wd_ G A s.heap (wl_X3_follow G A_t A_t_planks A_q1 A_q1_planks A_q1_least A_q1_neighbours 0 x4 c_t_planks c_q1_planks c_q1_least) H locs := hw
  refine lv_iload_n hx hb dX3_follow_11 rfl (lv_at hl 2 rfl) ?_
  refine lv_istore (lv' := [(5, .int x2), (0, .ref A_t), (1, .ref A_q1), (2, .int x2), (3, .int x3), (4, .int x4)]) hx hb dX3_follow_12 hl (by decide) rfl (fun ls hl => ?_)
  refine lv_iconst (v := 0) hx hb dX3_follow_14 (by decide) ?_
  refine lv_istore (lv' := [(6, .int 0), (5, .int x2), (0, .ref A_t), (1, .ref A_q1), (2, .int x2), (3, .int x3), (4, .int x4)]) hx hb dX3_follow_15 hl (by decide) rfl (fun ls hl => ?_)
  refine wn_X3_follow_l17 hC hret (fun v6 v7 H locs ls hf hl hw => ?_) fu_ x2 0 0 c_t_planks _ _ _ hf (lv_sub hl [2, 3, 5, 1, 0] rfl) hw
  obtain ⟨h1_, h2_, h3_⟩ := t3_ hf
  subst h1_
  subst h2_
  subst h3_
  exact hret _ _ _ _ dX3_follow_84 hw
set_option maxHeartbeats 4000000 in
set_option maxRecDepth 100000 in
theorem cn_X3_follow (l : Launch) (G : gw_) (A_t : Nat) (A_t_planks : Nat) (A_q1 : Nat) (A_q1_planks : Nat) (A_q1_least : Nat) (A_q1_neighbours : Nat) (c_t_count : Int32) (c_t_tenths : Int32) (c_t_planks : Nat → Int32) (c_q1_planks : Nat → Int32) (c_q1_least : Nat → Int32) (x2 : Int32) (x3 : Int32) (x4 : Int32) (z_t_count : Int32) (z_t_tenths : Int32) (z_t_planks : Nat → Int32) (hf : fn_X3_follow c_t_count c_t_tenths c_t_planks c_q1_planks c_q1_least x2 x3 x4 = some (z_t_count, z_t_tenths, z_t_planks)) : cv_ l G yX3_follow cX3_follow 8 none 2 45 (wl_X3_follow G A_t A_t_planks A_q1 A_q1_planks A_q1_least A_q1_neighbours c_t_count c_t_tenths c_t_planks c_q1_planks c_q1_least) [.ref A_t, .ref A_q1, .int x2, .int x3, .int x4] (wl_X3_follow G A_t A_t_planks A_q1 A_q1_planks A_q1_least A_q1_neighbours z_t_count z_t_tenths z_t_planks c_q1_planks c_q1_least) := fun sz => met_intro (by decide) (Nat.le_of_ble_eq_true rfl) (fun p e s m args below meth c ls hsz hC hr hlk hnm hl hw => wn_X3_follow hC (fun pc H locs ls hd hw => g_vret hC hr hlk hw hd) hf hl hw)

theorem dX3_sharedDivisor_0 : decode cX3_sharedDivisor 0 = .ok (.lload_n 0, 1) := by decide +kernel
theorem dX3_sharedDivisor_1 : decode cX3_sharedDivisor 1 = .ok (.lstore 4, 2) := by decide +kernel
theorem dX3_sharedDivisor_3 : decode cX3_sharedDivisor 3 = .ok (.lload_n 2, 1) := by decide +kernel
theorem dX3_sharedDivisor_4 : decode cX3_sharedDivisor 4 = .ok (.lstore 6, 2) := by decide +kernel
theorem dX3_sharedDivisor_6 : decode cX3_sharedDivisor 6 = .ok (.iconst 0, 1) := by decide +kernel
theorem dX3_sharedDivisor_7 : decode cX3_sharedDivisor 7 = .ok (.istore 8, 2) := by decide +kernel
theorem dX3_sharedDivisor_9 : decode cX3_sharedDivisor 9 = .ok (.iload 8, 2) := by decide +kernel
theorem dX3_sharedDivisor_11 : decode cX3_sharedDivisor 11 = .ok (.sipush 200, 3) := by decide +kernel
theorem dX3_sharedDivisor_14 : decode cX3_sharedDivisor 14 = .ok (.if_icmp .ge 31, 3) := by decide +kernel
theorem dX3_sharedDivisor_17 : decode cX3_sharedDivisor 17 = .ok (.lload 6, 2) := by decide +kernel
theorem dX3_sharedDivisor_19 : decode cX3_sharedDivisor 19 = .ok (.lconst 0, 1) := by decide +kernel
theorem dX3_sharedDivisor_20 : decode cX3_sharedDivisor 20 = .ok (.lcmp, 1) := by decide +kernel
theorem dX3_sharedDivisor_21 : decode cX3_sharedDivisor 21 = .ok (.ifCond .eq 24, 3) := by decide +kernel
theorem dX3_sharedDivisor_24 : decode cX3_sharedDivisor 24 = .ok (.lload 4, 2) := by decide +kernel
theorem dX3_sharedDivisor_26 : decode cX3_sharedDivisor 26 = .ok (.lload 6, 2) := by decide +kernel
theorem dX3_sharedDivisor_28 : decode cX3_sharedDivisor 28 = .ok (.lrem, 1) := by decide +kernel
theorem dX3_sharedDivisor_29 : decode cX3_sharedDivisor 29 = .ok (.lstore 9, 2) := by decide +kernel
theorem dX3_sharedDivisor_31 : decode cX3_sharedDivisor 31 = .ok (.lload 6, 2) := by decide +kernel
theorem dX3_sharedDivisor_33 : decode cX3_sharedDivisor 33 = .ok (.lstore 4, 2) := by decide +kernel
theorem dX3_sharedDivisor_35 : decode cX3_sharedDivisor 35 = .ok (.lload 9, 2) := by decide +kernel
theorem dX3_sharedDivisor_37 : decode cX3_sharedDivisor 37 = .ok (.lstore 6, 2) := by decide +kernel
theorem dX3_sharedDivisor_39 : decode cX3_sharedDivisor 39 = .ok (.iinc 8 1, 3) := by decide +kernel
theorem dX3_sharedDivisor_42 : decode cX3_sharedDivisor 42 = .ok (.goto (-33), 3) := by decide +kernel
theorem dX3_sharedDivisor_45 : decode cX3_sharedDivisor 45 = .ok (.lload 4, 2) := by decide +kernel
theorem dX3_sharedDivisor_47 : decode cX3_sharedDivisor 47 = .ok (.lreturn, 1) := by decide +kernel
def fn_X3_sharedDivisor_b9 (rc : Int64 → Int64 → Int32 → Option (Int64)) (k : Int64 → Option (Int64)) (x4 : Int64) (x6 : Int64) (x8 : Int32) : Option (Int64) :=
  if 200 ≤ x8 then
    k x4
  else
    if (lg_cmp x6 0) = 0 then
      k x4
    else
      dl_ x6 <|
      rc x6 (x4 - x4 / x6 * x6) (x8 + 1)
def fn_X3_sharedDivisor_l9 (k : Int64 → Option (Int64)) : Nat → Int64 → Int64 → Int32 → Option (Int64)
  | 0 => fun _ _ _ => none
  | n + 1 => fun x4 x6 x8 => fn_X3_sharedDivisor_b9 (fn_X3_sharedDivisor_l9 k n) k x4 x6 x8
def fn_X3_sharedDivisor (x0 : Int64) (x2 : Int64) : Option (Int64) :=
  fn_X3_sharedDivisor_l9 (fun v1 =>
    some v1) fu_ x0 x2 0
set_option maxHeartbeats 4000000 in
set_option maxRecDepth 100000 in
theorem wn_X3_sharedDivisor_l9 {p : Program} {l : Launch} {e : Env} {s : State} {m : MethodId} {args : Array Value} {below : List Frame} {meth : Method} {c : Code} {G : gw_} {A : Nat → Prop} {Q : State → Prop} {r : Int64} {k : Int64 → Option (Int64)} (hC : cx_ p s m c G cX3_sharedDivisor 11 RX3) (hret : ∀ (pc : Nat) (H : Heap) (locs : List Loc) (ls : Array Slot), decode cX3_sharedDivisor pc = .ok (.lreturn, 1) → wd_ G A s.heap [] H locs → W p l e { frames := 0, cells := 0, slots := 0, locals := 0 } s m args below meth c H locs 0 0 Q (F0 m pc ls [.long r])) (hk : ∀ (x4 : Int64) (H : Heap) (locs : List Loc) (ls : Array Slot), k x4 = some r → lv_has ls 11 [(4, .long x4)] → wd_ G A s.heap [] H locs → W p l e { frames := 0, cells := 0, slots := 0, locals := 0 } s m args below meth c H locs 0 0 Q (F0 m 45 ls [])) : ∀ (n : Nat) (x4 : Int64) (x6 : Int64) (x8 : Int32) (H : Heap) (locs : List Loc) (ls : Array Slot), fn_X3_sharedDivisor_l9 k n x4 x6 x8 = some r → lv_has ls 11 [(4, .long x4), (6, .long x6), (8, .int x8)] → wd_ G A s.heap [] H locs → W p l e { frames := 0, cells := 0, slots := 0, locals := 0 } s m args below meth c H locs 0 0 Q (F0 m 9 ls []) := by
  have hx := hC.1
  have hb := hC.2.1
  intro n
  induction n with
  | zero =>
    intro x4 x6 x8 H locs ls hf
    cases (show (none : Option (Int64)) = some _ from hf)
  | succ n hrc =>
    intro x4 x6 x8 H locs ls hf hl hw
    replace hf : fn_X3_sharedDivisor_b9 (fn_X3_sharedDivisor_l9 k n) k x4 x6 x8 = some r := hf
    unfold fn_X3_sharedDivisor_b9 at hf
    refine lv_iload hx hb dX3_sharedDivisor_9 (lv_at hl 2 rfl) ?_
    refine lv_sipush (v := 200) hx hb dX3_sharedDivisor_11 (by decide) ?_
    refine lv_icmp_ge (tgt := 45) hx hb dX3_sharedDivisor_14 (by decide) (fun hc => ?_) (fun hc => ?_)
    · replace hf := it_t hc hf
      exact hk x4 _ _ _ hf (lv_sub hl [0] rfl) hw
    · replace hf := it_f hc hf
      refine lv_lload hx hb dX3_sharedDivisor_17 (lv_at hl 1 rfl) ?_
      refine lv_lconst (v := 0) hx hb dX3_sharedDivisor_19 (by decide) ?_
      refine W.lcmp hx hb dX3_sharedDivisor_20 ?_
      refine lv_if_eq (tgt := 45) hx hb dX3_sharedDivisor_21 (by decide) (fun hc => ?_) (fun hc => ?_)
      · replace hf := it_t hc hf
        exact hk x4 _ _ _ hf (lv_sub hl [0] rfl) hw
      · replace hf := it_f hc hf
        refine lv_lload hx hb dX3_sharedDivisor_24 (lv_at hl 0 rfl) ?_
        refine lv_lload hx hb dX3_sharedDivisor_26 (lv_at hl 1 rfl) ?_
        obtain ⟨hd0, hf⟩ := dl_s hf
        refine lv_lrem hx hb dX3_sharedDivisor_28 hd0 ?_
        refine lv_lstore (lv' := [(9, .long (x4 - x4 / x6 * x6)), (4, .long x4), (6, .long x6), (8, .int x8)]) hx hb dX3_sharedDivisor_29 hl (by decide) rfl (fun ls hl => ?_)
        refine lv_lload hx hb dX3_sharedDivisor_31 (lv_at hl 2 rfl) ?_
        refine lv_lstore (lv' := [(4, .long x6), (9, .long (x4 - x4 / x6 * x6)), (6, .long x6), (8, .int x8)]) hx hb dX3_sharedDivisor_33 hl (by decide) rfl (fun ls hl => ?_)
        refine lv_lload hx hb dX3_sharedDivisor_35 (lv_at hl 1 rfl) ?_
        refine lv_lstore (lv' := [(6, .long (x4 - x4 / x6 * x6)), (4, .long x6), (9, .long (x4 - x4 / x6 * x6)), (8, .int x8)]) hx hb dX3_sharedDivisor_37 hl (by decide) rfl (fun ls hl => ?_)
        refine lv_iinc (v := x8 + 1) (lv' := [(8, .int (x8 + 1)), (6, .long (x4 - x4 / x6 * x6)), (4, .long x6), (9, .long (x4 - x4 / x6 * x6))]) hx hb dX3_sharedDivisor_39 hl (k := 3) rfl rfl (by decide) rfl (fun ls hl => ?_)
        refine lv_goto (tgt := 9) hx hb dX3_sharedDivisor_42 (by decide) ?_
        exact hrc x6 (x4 - x4 / x6 * x6) (x8 + 1) _ _ _ hf (lv_sub hl [2, 1, 0] rfl) hw
set_option maxHeartbeats 4000000 in
set_option maxRecDepth 100000 in
theorem wn_X3_sharedDivisor {p : Program} {l : Launch} {e : Env} {s : State} {m : MethodId} {args : Array Value} {below : List Frame} {meth : Method} {c : Code} {G : gw_} {A : Nat → Prop} {Q : State → Prop} {r : Int64} {x0 : Int64} {x2 : Int64} (hC : cx_ p s m c G cX3_sharedDivisor 11 RX3) (hret : ∀ (pc : Nat) (H : Heap) (locs : List Loc) (ls : Array Slot), decode cX3_sharedDivisor pc = .ok (.lreturn, 1) → wd_ G A s.heap [] H locs → W p l e { frames := 0, cells := 0, slots := 0, locals := 0 } s m args below meth c H locs 0 0 Q (F0 m pc ls [.long r])) (hf : fn_X3_sharedDivisor x0 x2 = some r) {H : Heap} {locs : List Loc} {ls : Array Slot} (hl : lv_has ls 11 [(0, .long x0), (2, .long x2)]) (hw : wd_ G A s.heap [] H locs) : W p l e { frames := 0, cells := 0, slots := 0, locals := 0 } s m args below meth c H locs 0 0 Q (F0 m 0 ls []) := by
  have hx := hC.1
  have hb := hC.2.1
  unfold fn_X3_sharedDivisor at hf
  refine lv_lload_n hx hb dX3_sharedDivisor_0 rfl (lv_at hl 0 rfl) ?_
  refine lv_lstore (lv' := [(4, .long x0), (0, .long x0), (2, .long x2)]) hx hb dX3_sharedDivisor_1 hl (by decide) rfl (fun ls hl => ?_)
  refine lv_lload_n hx hb dX3_sharedDivisor_3 rfl (lv_at hl 2 rfl) ?_
  refine lv_lstore (lv' := [(6, .long x2), (4, .long x0), (0, .long x0), (2, .long x2)]) hx hb dX3_sharedDivisor_4 hl (by decide) rfl (fun ls hl => ?_)
  refine lv_iconst (v := 0) hx hb dX3_sharedDivisor_6 (by decide) ?_
  refine lv_istore (lv' := [(8, .int 0), (6, .long x2), (4, .long x0), (0, .long x0), (2, .long x2)]) hx hb dX3_sharedDivisor_7 hl (by decide) rfl (fun ls hl => ?_)
  refine wn_X3_sharedDivisor_l9 hC hret (fun v1 H locs ls hf hl hw => ?_) fu_ x0 x2 0 _ _ _ hf (lv_sub hl [2, 1, 0] rfl) hw
  refine lv_lload hx hb dX3_sharedDivisor_45 (lv_at hl 0 rfl) ?_
  have h1_ := t1_ hf
  subst h1_
  exact hret _ _ _ _ dX3_sharedDivisor_47 hw
set_option maxHeartbeats 4000000 in
set_option maxRecDepth 100000 in
theorem cn_X3_sharedDivisor (l : Launch) (G : gw_) (x0 : Int64) (x2 : Int64) (r : Int64) (hf : fn_X3_sharedDivisor x0 x2 = some r) : cj_ l G yX3_sharedDivisor cX3_sharedDivisor 11 (some .long) 0 0 [] [.long x0, .long x2] r [] := fun sz => met_intro (by decide) (Nat.le_of_ble_eq_true rfl) (fun p e s m args below meth c ls hsz hC hr hlk hnm hl hw => wn_X3_sharedDivisor hC (fun pc H locs ls hd hw => g_lret hC hr hlk hw hd) hf hl hw)

theorem dX3_partOf_0 : decode cX3_partOf 0 = .ok (.lload_n 2, 1) := by decide +kernel
theorem dX3_partOf_1 : decode cX3_partOf 1 = .ok (.lload_n 0, 1) := by decide +kernel
theorem dX3_partOf_2 : decode cX3_partOf 2 = .ok (.invokestatic 41, 3) := by decide +kernel
theorem dX3_partOf_5 : decode cX3_partOf 5 = .ok (.lstore 5, 2) := by decide +kernel
theorem dX3_partOf_7 : decode cX3_partOf 7 = .ok (.lload 5, 2) := by decide +kernel
theorem dX3_partOf_9 : decode cX3_partOf 9 = .ok (.lconst 0, 1) := by decide +kernel
theorem dX3_partOf_10 : decode cX3_partOf 10 = .ok (.lcmp, 1) := by decide +kernel
theorem dX3_partOf_11 : decode cX3_partOf 11 = .ok (.ifCond .gt 5, 3) := by decide +kernel
theorem dX3_partOf_14 : decode cX3_partOf 14 = .ok (.lconst 0, 1) := by decide +kernel
theorem dX3_partOf_15 : decode cX3_partOf 15 = .ok (.lreturn, 1) := by decide +kernel
theorem dX3_partOf_16 : decode cX3_partOf 16 = .ok (.iload 4, 2) := by decide +kernel
theorem dX3_partOf_18 : decode cX3_partOf 18 = .ok (.ifCond .ne 10, 3) := by decide +kernel
theorem dX3_partOf_21 : decode cX3_partOf 21 = .ok (.lload_n 0, 1) := by decide +kernel
theorem dX3_partOf_22 : decode cX3_partOf 22 = .ok (.lload 5, 2) := by decide +kernel
theorem dX3_partOf_24 : decode cX3_partOf 24 = .ok (.ldiv, 1) := by decide +kernel
theorem dX3_partOf_25 : decode cX3_partOf 25 = .ok (.goto 7, 3) := by decide +kernel
theorem dX3_partOf_28 : decode cX3_partOf 28 = .ok (.lload_n 2, 1) := by decide +kernel
theorem dX3_partOf_29 : decode cX3_partOf 29 = .ok (.lload 5, 2) := by decide +kernel
theorem dX3_partOf_31 : decode cX3_partOf 31 = .ok (.ldiv, 1) := by decide +kernel
theorem dX3_partOf_32 : decode cX3_partOf 32 = .ok (.lreturn, 1) := by decide +kernel
def fn_X3_partOf (x0 : Int64) (x2 : Int64) (x4 : Int32) : Option (Int64) :=
  b1_ (fn_X3_sharedDivisor x2 x0) fun r1 =>
  if 0 < (lg_cmp r1 0) then
    if x4 = 0 then
      dl_ r1 <|
      some (x0 / r1)
    else
      dl_ r1 <|
      some (x2 / r1)
  else
    some 0
set_option maxHeartbeats 4000000 in
set_option maxRecDepth 100000 in
theorem wn_X3_partOf {p : Program} {l : Launch} {e : Env} {s : State} {m : MethodId} {args : Array Value} {below : List Frame} {meth : Method} {c : Code} {G : gw_} {A : Nat → Prop} {Q : State → Prop} {r : Int64} {x0 : Int64} {x2 : Int64} {x4 : Int32} (hC : cx_ p s m c G cX3_partOf 7 RX3) (hret : ∀ (pc : Nat) (H : Heap) (locs : List Loc) (ls : Array Slot), decode cX3_partOf pc = .ok (.lreturn, 1) → wd_ G A s.heap [] H locs → W p l e { frames := 1, cells := 0, slots := 0, locals := 30 } s m args below meth c H locs 0 0 Q (F0 m pc ls [.long r])) (hf : fn_X3_partOf x0 x2 x4 = some r) {H : Heap} {locs : List Loc} {ls : Array Slot} (hl : lv_has ls 7 [(0, .long x0), (2, .long x2), (4, .int x4)]) (hw : wd_ G A s.heap [] H locs) : W p l e { frames := 1, cells := 0, slots := 0, locals := 30 } s m args below meth c H locs 0 0 Q (F0 m 0 ls []) := by
  have hx := hC.1
  have hb := hC.2.1
  unfold fn_X3_partOf at hf
  refine lv_lload_n hx hb dX3_partOf_0 rfl (lv_at hl 1 rfl) ?_
  refine lv_lload_n hx hb dX3_partOf_1 rfl (lv_at hl 0 rfl) ?_
  obtain ⟨r1, hq2, hf⟩ := b1_s hf
  refine h_cSj hC hw msX3_41 (cn_X3_sharedDivisor l G x2 x0 r1 hq2) [] rfl (by decide) rfl hl.1 rfl (Nat.le_of_ble_eq_true rfl) ⟨Nat.le_of_ble_eq_true rfl, Nat.le_of_ble_eq_true rfl⟩ ⟨Nat.le_refl _, Nat.le_refl _⟩ dX3_partOf_2 (fun H locs hw => ?_)
  refine lv_lstore (lv' := [(5, .long r1), (0, .long x0), (2, .long x2), (4, .int x4)]) hx hb dX3_partOf_5 hl (by decide) rfl (fun ls hl => ?_)
  refine lv_lload hx hb dX3_partOf_7 (lv_at hl 0 rfl) ?_
  refine lv_lconst (v := 0) hx hb dX3_partOf_9 (by decide) ?_
  refine W.lcmp hx hb dX3_partOf_10 ?_
  refine lv_if_gt (tgt := 16) hx hb dX3_partOf_11 (by decide) (fun hc => ?_) (fun hc => ?_)
  · replace hf := it_t hc hf
    refine lv_iload hx hb dX3_partOf_16 (lv_at hl 3 rfl) ?_
    refine lv_if_ne (tgt := 28) hx hb dX3_partOf_18 (by decide) (fun hc => ?_) (fun hc => ?_)
    · replace hf := it_f hc hf
      refine lv_lload_n hx hb dX3_partOf_28 rfl (lv_at hl 2 rfl) ?_
      refine lv_lload hx hb dX3_partOf_29 (lv_at hl 0 rfl) ?_
      obtain ⟨hd0, hf⟩ := dl_s hf
      refine lv_ldiv hx hb dX3_partOf_31 hd0 ?_
      have h1_ := t1_ hf
      subst h1_
      exact hret _ _ _ _ dX3_partOf_32 hw
    · replace hf := it_t hc hf
      refine lv_lload_n hx hb dX3_partOf_21 rfl (lv_at hl 1 rfl) ?_
      refine lv_lload hx hb dX3_partOf_22 (lv_at hl 0 rfl) ?_
      obtain ⟨hd0, hf⟩ := dl_s hf
      refine lv_ldiv hx hb dX3_partOf_24 hd0 ?_
      refine lv_goto (tgt := 32) hx hb dX3_partOf_25 (by decide) ?_
      have h1_ := t1_ hf
      subst h1_
      exact hret _ _ _ _ dX3_partOf_32 hw
  · replace hf := it_f hc hf
    refine lv_lconst (v := 0) hx hb dX3_partOf_14 (by decide) ?_
    have h1_ := t1_ hf
    subst h1_
    exact hret _ _ _ _ dX3_partOf_15 hw
set_option maxHeartbeats 4000000 in
set_option maxRecDepth 100000 in
theorem cn_X3_partOf (l : Launch) (G : gw_) (x0 : Int64) (x2 : Int64) (x4 : Int32) (r : Int64) (hf : fn_X3_partOf x0 x2 x4 = some r) : cj_ l G yX3_partOf cX3_partOf 7 (some .long) 1 30 [] [.long x0, .long x2, .int x4] r [] := fun sz => met_intro (by decide) (Nat.le_of_ble_eq_true rfl) (fun p e s m args below meth c ls hsz hC hr hlk hnm hl hw => wn_X3_partOf hC (fun pc H locs ls hd hw => g_lret hC hr hlk hw hd) hf hl hw)

theorem dX3_partOfMean_0 : decode cX3_partOfMean 0 = .ok (.lconst 0, 1) := by decide +kernel
theorem dX3_partOfMean_1 : decode cX3_partOfMean 1 = .ok (.lstore_n 2, 1) := by decide +kernel
theorem dX3_partOfMean_2 : decode cX3_partOfMean 2 = .ok (.iconst 0, 1) := by decide +kernel
theorem dX3_partOfMean_3 : decode cX3_partOfMean 3 = .ok (.istore 4, 2) := by decide +kernel
theorem dX3_partOfMean_5 : decode cX3_partOfMean 5 = .ok (.iload 4, 2) := by decide +kernel
theorem dX3_partOfMean_7 : decode cX3_partOfMean 7 = .ok (.aload_n 0, 1) := by decide +kernel
theorem dX3_partOfMean_8 : decode cX3_partOfMean 8 = .ok (.getfield 15, 3) := by decide +kernel
theorem dX3_partOfMean_11 : decode cX3_partOfMean 11 = .ok (.if_icmp .ge 20, 3) := by decide +kernel
theorem dX3_partOfMean_14 : decode cX3_partOfMean 14 = .ok (.lload_n 2, 1) := by decide +kernel
theorem dX3_partOfMean_15 : decode cX3_partOfMean 15 = .ok (.aload_n 0, 1) := by decide +kernel
theorem dX3_partOfMean_16 : decode cX3_partOfMean 16 = .ok (.getfield 9, 3) := by decide +kernel
theorem dX3_partOfMean_19 : decode cX3_partOfMean 19 = .ok (.iload 4, 2) := by decide +kernel
theorem dX3_partOfMean_21 : decode cX3_partOfMean 21 = .ok (.iaload, 1) := by decide +kernel
theorem dX3_partOfMean_22 : decode cX3_partOfMean 22 = .ok (.i2l, 1) := by decide +kernel
theorem dX3_partOfMean_23 : decode cX3_partOfMean 23 = .ok (.ladd, 1) := by decide +kernel
theorem dX3_partOfMean_24 : decode cX3_partOfMean 24 = .ok (.lstore_n 2, 1) := by decide +kernel
theorem dX3_partOfMean_25 : decode cX3_partOfMean 25 = .ok (.iinc 4 1, 3) := by decide +kernel
theorem dX3_partOfMean_28 : decode cX3_partOfMean 28 = .ok (.goto (-23), 3) := by decide +kernel
theorem dX3_partOfMean_31 : decode cX3_partOfMean 31 = .ok (.lload_n 2, 1) := by decide +kernel
theorem dX3_partOfMean_32 : decode cX3_partOfMean 32 = .ok (.bipush 10, 2) := by decide +kernel
theorem dX3_partOfMean_34 : decode cX3_partOfMean 34 = .ok (.aload_n 0, 1) := by decide +kernel
theorem dX3_partOfMean_35 : decode cX3_partOfMean 35 = .ok (.getfield 19, 3) := by decide +kernel
theorem dX3_partOfMean_38 : decode cX3_partOfMean 38 = .ok (.iadd, 1) := by decide +kernel
theorem dX3_partOfMean_39 : decode cX3_partOfMean 39 = .ok (.i2l, 1) := by decide +kernel
theorem dX3_partOfMean_40 : decode cX3_partOfMean 40 = .ok (.lmul, 1) := by decide +kernel
theorem dX3_partOfMean_41 : decode cX3_partOfMean 41 = .ok (.ldc2_w 31, 3) := by decide +kernel
theorem dX3_partOfMean_44 : decode cX3_partOfMean 44 = .ok (.iload_n 1, 1) := by decide +kernel
theorem dX3_partOfMean_45 : decode cX3_partOfMean 45 = .ok (.invokestatic 37, 3) := by decide +kernel
theorem dX3_partOfMean_48 : decode cX3_partOfMean 48 = .ok (.lreturn, 1) := by decide +kernel
abbrev wl_X3_partOfMean (G : gw_) (A_t : Nat) (A_t_planks : Nat) (c_t_count : Int32) (c_t_tenths : Int32) (c_t_planks : Nat → Int32) : va_W := [ob_ A_t 3 [.ref A_t_planks, .int c_t_count, .int c_t_tenths], ia_ G A_t_planks 12 c_t_planks]
def fn_X3_partOfMean_b5 (c_t_count : Int32) (c_t_planks : Nat → Int32) (rc : Int64 → Int32 → Option (Int64)) (k : Int64 → Option (Int64)) (x2 : Int64) (x4 : Int32) : Option (Int64) :=
  if c_t_count ≤ x4 then
    k x2
  else
    ck_ x4 12 <|
    lx_ (x2 + (Int32.toInt64 (c_t_planks (Int32.toNatClampNeg x4)))) fun y1 =>
    rc y1 (x4 + 1)
def fn_X3_partOfMean_l5 (c_t_count : Int32) (c_t_planks : Nat → Int32) (k : Int64 → Option (Int64)) : Nat → Int64 → Int32 → Option (Int64)
  | 0 => fun _ _ => none
  | n + 1 => fun x2 x4 => fn_X3_partOfMean_b5 c_t_count c_t_planks (fn_X3_partOfMean_l5 c_t_count c_t_planks k n) k x2 x4
def fn_X3_partOfMean (c_t_count : Int32) (c_t_tenths : Int32) (c_t_planks : Nat → Int32) (x1 : Int32) : Option (Int64) :=
  fn_X3_partOfMean_l5 c_t_count c_t_planks (fun v2 =>
    b1_ (fn_X3_partOf (v2 * (Int32.toInt64 (10 + c_t_tenths))) 10 x1) fun r3 =>
    some r3) fu_ 0 0
set_option maxHeartbeats 4000000 in
set_option maxRecDepth 100000 in
theorem wn_X3_partOfMean_l5 {p : Program} {l : Launch} {e : Env} {s : State} {m : MethodId} {args : Array Value} {below : List Frame} {meth : Method} {c : Code} {G : gw_} {A : Nat → Prop} {Q : State → Prop} {A_t : Nat} {A_t_planks : Nat} {c_t_count : Int32} {c_t_tenths : Int32} {c_t_planks : Nat → Int32} {r : Int64} {x1 : Int32} {k : Int64 → Option (Int64)} (hC : cx_ p s m c G cX3_partOfMean 5 RX3) (hret : ∀ (pc : Nat) (H : Heap) (locs : List Loc) (ls : Array Slot), decode cX3_partOfMean pc = .ok (.lreturn, 1) → wd_ G A s.heap (wl_X3_partOfMean G A_t A_t_planks c_t_count c_t_tenths c_t_planks) H locs → W p l e { frames := 2, cells := 0, slots := 0, locals := 56 } s m args below meth c H locs 0 0 Q (F0 m pc ls [.long r])) (hk : ∀ (x2 : Int64) (H : Heap) (locs : List Loc) (ls : Array Slot), k x2 = some r → lv_has ls 5 [(0, .ref A_t), (1, .int x1), (2, .long x2)] → wd_ G A s.heap (wl_X3_partOfMean G A_t A_t_planks c_t_count c_t_tenths c_t_planks) H locs → W p l e { frames := 2, cells := 0, slots := 0, locals := 56 } s m args below meth c H locs 0 0 Q (F0 m 31 ls [])) : ∀ (n : Nat) (x2 : Int64) (x4 : Int32) (H : Heap) (locs : List Loc) (ls : Array Slot), fn_X3_partOfMean_l5 c_t_count c_t_planks k n x2 x4 = some r → lv_has ls 5 [(0, .ref A_t), (1, .int x1), (2, .long x2), (4, .int x4)] → wd_ G A s.heap (wl_X3_partOfMean G A_t A_t_planks c_t_count c_t_tenths c_t_planks) H locs → W p l e { frames := 2, cells := 0, slots := 0, locals := 56 } s m args below meth c H locs 0 0 Q (F0 m 5 ls []) := by
  have hx := hC.1
  have hb := hC.2.1
  intro n
  induction n with
  | zero =>
    intro x2 x4 H locs ls hf
    cases (show (none : Option (Int64)) = some _ from hf)
  | succ n hrc =>
    intro x2 x4 H locs ls hf hl hw
    replace hf : fn_X3_partOfMean_b5 c_t_count c_t_planks (fn_X3_partOfMean_l5 c_t_count c_t_planks k n) k x2 x4 = some r := hf
    unfold fn_X3_partOfMean_b5 at hf
    refine lv_iload hx hb dX3_partOfMean_5 (lv_at hl 3 rfl) ?_
    refine lv_aload_n hx hb dX3_partOfMean_7 rfl (lv_at hl 0 rfl) ?_
    refine g_get hC hw fkX3_15 0 rfl rfl dX3_partOfMean_8 ?_
    refine lv_icmp_ge (tgt := 31) hx hb dX3_partOfMean_11 (by decide) (fun hc => ?_) (fun hc => ?_)
    · replace hf := it_t hc hf
      exact hk x2 _ _ _ hf (lv_sub hl [0, 1, 2] rfl) hw
    · replace hf := it_f hc hf
      refine lv_lload_n hx hb dX3_partOfMean_14 rfl (lv_at hl 2 rfl) ?_
      refine lv_aload_n hx hb dX3_partOfMean_15 rfl (lv_at hl 0 rfl) ?_
      refine g_get hC hw fkX3_9 0 rfl rfl dX3_partOfMean_16 ?_
      refine lv_iload hx hb dX3_partOfMean_19 (lv_at hl 3 rfl) ?_
      obtain ⟨hi, hf⟩ := ck_s hf
      refine g_iald hC hw 1 rfl hi dX3_partOfMean_21 ?_
      refine lv_i2l hx hb dX3_partOfMean_22 rfl ?_
      refine lv_ladd hx hb dX3_partOfMean_23 ?_
      obtain ⟨y1, ey1, hf⟩ := lx_s hf
      rw [← ey1]
      refine lv_lstore_n (lv' := [(2, .long y1), (0, .ref A_t), (1, .int x1), (4, .int x4)]) hx hb dX3_partOfMean_24 rfl hl (by decide) rfl (fun ls hl => ?_)
      refine lv_iinc (v := x4 + 1) (lv' := [(4, .int (x4 + 1)), (2, .long y1), (0, .ref A_t), (1, .int x1)]) hx hb dX3_partOfMean_25 hl (k := 3) rfl rfl (by decide) rfl (fun ls hl => ?_)
      refine lv_goto (tgt := 5) hx hb dX3_partOfMean_28 (by decide) ?_
      exact hrc y1 (x4 + 1) _ _ _ hf (lv_sub hl [2, 3, 1, 0] rfl) hw
set_option maxHeartbeats 4000000 in
set_option maxRecDepth 100000 in
theorem wn_X3_partOfMean {p : Program} {l : Launch} {e : Env} {s : State} {m : MethodId} {args : Array Value} {below : List Frame} {meth : Method} {c : Code} {G : gw_} {A : Nat → Prop} {Q : State → Prop} {A_t : Nat} {A_t_planks : Nat} {c_t_count : Int32} {c_t_tenths : Int32} {c_t_planks : Nat → Int32} {r : Int64} {x1 : Int32} (hC : cx_ p s m c G cX3_partOfMean 5 RX3) (hret : ∀ (pc : Nat) (H : Heap) (locs : List Loc) (ls : Array Slot), decode cX3_partOfMean pc = .ok (.lreturn, 1) → wd_ G A s.heap (wl_X3_partOfMean G A_t A_t_planks c_t_count c_t_tenths c_t_planks) H locs → W p l e { frames := 2, cells := 0, slots := 0, locals := 56 } s m args below meth c H locs 0 0 Q (F0 m pc ls [.long r])) (hf : fn_X3_partOfMean c_t_count c_t_tenths c_t_planks x1 = some r) {H : Heap} {locs : List Loc} {ls : Array Slot} (hl : lv_has ls 5 [(0, .ref A_t), (1, .int x1)]) (hw : wd_ G A s.heap (wl_X3_partOfMean G A_t A_t_planks c_t_count c_t_tenths c_t_planks) H locs) : W p l e { frames := 2, cells := 0, slots := 0, locals := 56 } s m args below meth c H locs 0 0 Q (F0 m 0 ls []) := by
  have hx := hC.1
  have hb := hC.2.1
  unfold fn_X3_partOfMean at hf
  refine lv_lconst (v := 0) hx hb dX3_partOfMean_0 (by decide) ?_
  refine lv_lstore_n (lv' := [(2, .long 0), (0, .ref A_t), (1, .int x1)]) hx hb dX3_partOfMean_1 rfl hl (by decide) rfl (fun ls hl => ?_)
  refine lv_iconst (v := 0) hx hb dX3_partOfMean_2 (by decide) ?_
  refine lv_istore (lv' := [(4, .int 0), (2, .long 0), (0, .ref A_t), (1, .int x1)]) hx hb dX3_partOfMean_3 hl (by decide) rfl (fun ls hl => ?_)
  refine wn_X3_partOfMean_l5 hC hret (fun v2 H locs ls hf hl hw => ?_) fu_ 0 0 _ _ _ hf (lv_sub hl [2, 3, 1, 0] rfl) hw
  refine lv_lload_n hx hb dX3_partOfMean_31 rfl (lv_at hl 2 rfl) ?_
  refine lv_bipush (v := 10) hx hb dX3_partOfMean_32 (by decide) ?_
  refine lv_aload_n hx hb dX3_partOfMean_34 rfl (lv_at hl 0 rfl) ?_
  refine g_get hC hw fkX3_19 0 rfl rfl dX3_partOfMean_35 ?_
  refine lv_iadd hx hb dX3_partOfMean_38 ?_
  refine lv_i2l hx hb dX3_partOfMean_39 rfl ?_
  refine lv_lmul hx hb dX3_partOfMean_40 ?_
  refine g_ldc2 (v := 10) hC (tb3 174 rfl rfl) dX3_partOfMean_41 ?_
  refine lv_iload_n hx hb dX3_partOfMean_44 rfl (lv_at hl 1 rfl) ?_
  obtain ⟨r3, hq4, hf⟩ := b1_s hf
  refine h_cSj hC hw msX3_37 (cn_X3_partOf l G (v2 * (Int32.toInt64 (10 + c_t_tenths))) 10 x1 r3 hq4) [] rfl (by decide) rfl hl.1 rfl (Nat.le_of_ble_eq_true rfl) ⟨Nat.le_of_ble_eq_true rfl, Nat.le_of_ble_eq_true rfl⟩ ⟨Nat.le_refl _, Nat.le_refl _⟩ dX3_partOfMean_45 (fun H locs hw => ?_)
  have h1_ := t1_ hf
  subst h1_
  exact hret _ _ _ _ dX3_partOfMean_48 hw
set_option maxHeartbeats 4000000 in
set_option maxRecDepth 100000 in
theorem cn_X3_partOfMean (l : Launch) (G : gw_) (A_t : Nat) (A_t_planks : Nat) (c_t_count : Int32) (c_t_tenths : Int32) (c_t_planks : Nat → Int32) (x1 : Int32) (r : Int64) (hf : fn_X3_partOfMean c_t_count c_t_tenths c_t_planks x1 = some r) : cj_ l G yX3_partOfMean cX3_partOfMean 5 (some .long) 2 56 (wl_X3_partOfMean G A_t A_t_planks c_t_count c_t_tenths c_t_planks) [.ref A_t, .int x1] r (wl_X3_partOfMean G A_t A_t_planks c_t_count c_t_tenths c_t_planks) := fun sz => met_intro (by decide) (Nat.le_of_ble_eq_true rfl) (fun p e s m args below meth c ls hsz hC hr hlk hnm hl hw => wn_X3_partOfMean hC (fun pc H locs ls hd hw => g_lret hC hr hlk hw hd) hf hl hw)

theorem dX4_add_0 : decode cX4_add 0 = .ok (.aload_n 0, 1) := by decide +kernel
theorem dX4_add_1 : decode cX4_add 1 = .ok (.getfield 9, 3) := by decide +kernel
theorem dX4_add_4 : decode cX4_add 4 = .ok (.bipush 60, 2) := by decide +kernel
theorem dX4_add_6 : decode cX4_add 6 = .ok (.if_icmp .ge 23, 3) := by decide +kernel
theorem dX4_add_9 : decode cX4_add 9 = .ok (.aload_n 0, 1) := by decide +kernel
theorem dX4_add_10 : decode cX4_add 10 = .ok (.getfield 15, 3) := by decide +kernel
theorem dX4_add_13 : decode cX4_add 13 = .ok (.aload_n 0, 1) := by decide +kernel
theorem dX4_add_14 : decode cX4_add 14 = .ok (.getfield 9, 3) := by decide +kernel
theorem dX4_add_17 : decode cX4_add 17 = .ok (.iload_n 1, 1) := by decide +kernel
theorem dX4_add_18 : decode cX4_add 18 = .ok (.iastore, 1) := by decide +kernel
theorem dX4_add_19 : decode cX4_add 19 = .ok (.aload_n 0, 1) := by decide +kernel
theorem dX4_add_20 : decode cX4_add 20 = .ok (.dup, 1) := by decide +kernel
theorem dX4_add_21 : decode cX4_add 21 = .ok (.getfield 9, 3) := by decide +kernel
theorem dX4_add_24 : decode cX4_add 24 = .ok (.iconst 1, 1) := by decide +kernel
theorem dX4_add_25 : decode cX4_add 25 = .ok (.iadd, 1) := by decide +kernel
theorem dX4_add_26 : decode cX4_add 26 = .ok (.putfield 9, 3) := by decide +kernel
theorem dX4_add_29 : decode cX4_add 29 = .ok (.return_, 1) := by decide +kernel
abbrev wl_X4_add (G : gw_) (A_t : Nat) (A_t_signs : Nat) (c_t_count : Int32) (c_t_signs : Nat → Int32) : va_W := [ob_ A_t 4 [.int c_t_count, .ref A_t_signs], ia_ G A_t_signs 60 c_t_signs]
def fn_X4_add (c_t_count : Int32) (c_t_signs : Nat → Int32) (x1 : Int32) : Option (Int32 × (Nat → Int32)) :=
  if 60 ≤ c_t_count then
    some (c_t_count, c_t_signs)
  else
    ck_ c_t_count 60 <|
    lx_ (upd c_t_signs (Int32.toNatClampNeg c_t_count) x1) fun f1 =>
    some (c_t_count + 1, f1)
set_option maxHeartbeats 4000000 in
set_option maxRecDepth 100000 in
theorem wn_X4_add {p : Program} {l : Launch} {e : Env} {s : State} {m : MethodId} {args : Array Value} {below : List Frame} {meth : Method} {c : Code} {G : gw_} {A : Nat → Prop} {Q : State → Prop} {A_t : Nat} {A_t_signs : Nat} {c_t_count : Int32} {z_t_count : Int32} {c_t_signs : Nat → Int32} {z_t_signs : Nat → Int32} {x1 : Int32} (hC : cx_ p s m c G cX4_add 2 RX4) (hret : ∀ (pc : Nat) (H : Heap) (locs : List Loc) (ls : Array Slot), decode cX4_add pc = .ok (.return_, 1) → wd_ G A s.heap (wl_X4_add G A_t A_t_signs z_t_count z_t_signs) H locs → W p l e { frames := 0, cells := 0, slots := 0, locals := 0 } s m args below meth c H locs 0 0 Q (F0 m pc ls [])) (hf : fn_X4_add c_t_count c_t_signs x1 = some (z_t_count, z_t_signs)) {H : Heap} {locs : List Loc} {ls : Array Slot} (hl : lv_has ls 2 [(0, .ref A_t), (1, .int x1)]) (hw : wd_ G A s.heap (wl_X4_add G A_t A_t_signs c_t_count c_t_signs) H locs) : W p l e { frames := 0, cells := 0, slots := 0, locals := 0 } s m args below meth c H locs 0 0 Q (F0 m 0 ls []) := by
  have hx := hC.1
  have hb := hC.2.1
  unfold fn_X4_add at hf
  refine lv_aload_n hx hb dX4_add_0 rfl (lv_at hl 0 rfl) ?_
  refine g_get hC hw fkX4_9 0 rfl rfl dX4_add_1 ?_
  refine lv_bipush (v := 60) hx hb dX4_add_4 (by decide) ?_
  refine lv_icmp_ge (tgt := 29) hx hb dX4_add_6 (by decide) (fun hc => ?_) (fun hc => ?_)
  · replace hf := it_t hc hf
    obtain ⟨h1_, h2_⟩ := t2_ hf
    subst h1_
    subst h2_
    exact hret _ _ _ _ dX4_add_29 hw
  · replace hf := it_f hc hf
    refine lv_aload_n hx hb dX4_add_9 rfl (lv_at hl 0 rfl) ?_
    refine g_get hC hw fkX4_15 0 rfl rfl dX4_add_10 ?_
    refine lv_aload_n hx hb dX4_add_13 rfl (lv_at hl 0 rfl) ?_
    refine g_get hC hw fkX4_9 0 rfl rfl dX4_add_14 ?_
    refine lv_iload_n hx hb dX4_add_17 rfl (lv_at hl 1 rfl) ?_
    obtain ⟨hi, hf⟩ := ck_s hf
    obtain ⟨f1, ef1, hf⟩ := lx_s hf
    refine g_iast hC hw 1 rfl hi ef1 dX4_add_18 (fun H locs hw => ?_)
    have hw : wd_ G A s.heap (wl_X4_add G A_t A_t_signs c_t_count f1) H locs := hw
    refine lv_aload_n hx hb dX4_add_19 rfl (lv_at hl 0 rfl) ?_
    refine lv_dup hx hb dX4_add_20 rfl ?_
    refine g_get hC hw fkX4_9 0 rfl rfl dX4_add_21 ?_
    refine lv_iconst (v := 1) hx hb dX4_add_24 (by decide) ?_
    refine lv_iadd hx hb dX4_add_25 ?_
    refine g_put hC hw fpX4_9 0 rfl rfl rfl (Nat.le_of_ble_eq_true rfl) dX4_add_26 (fun H locs hw => ?_)
    have hw : wd_ G A s.heap (wl_X4_add G A_t A_t_signs (c_t_count + 1) f1) H locs := hw
    obtain ⟨h1_, h2_⟩ := t2_ hf
    subst h1_
    subst h2_
    exact hret _ _ _ _ dX4_add_29 hw
set_option maxHeartbeats 4000000 in
set_option maxRecDepth 100000 in
theorem cn_X4_add (l : Launch) (G : gw_) (A_t : Nat) (A_t_signs : Nat) (c_t_count : Int32) (c_t_signs : Nat → Int32) (x1 : Int32) (z_t_count : Int32) (z_t_signs : Nat → Int32) (hf : fn_X4_add c_t_count c_t_signs x1 = some (z_t_count, z_t_signs)) : cv_ l G yX4_add cX4_add 2 none 0 0 (wl_X4_add G A_t A_t_signs c_t_count c_t_signs) [.ref A_t, .int x1] (wl_X4_add G A_t A_t_signs z_t_count z_t_signs) := fun sz => met_intro (by decide) (Nat.le_of_ble_eq_true rfl) (fun p e s m args below meth c ls hsz hC hr hlk hnm hl hw => wn_X4_add hC (fun pc H locs ls hd hw => g_vret hC hr hlk hw hd) hf hl hw)

theorem dX4_clear_0 : decode cX4_clear 0 = .ok (.aload_n 0, 1) := by decide +kernel
theorem dX4_clear_1 : decode cX4_clear 1 = .ok (.iconst 0, 1) := by decide +kernel
theorem dX4_clear_2 : decode cX4_clear 2 = .ok (.putfield 9, 3) := by decide +kernel
theorem dX4_clear_5 : decode cX4_clear 5 = .ok (.return_, 1) := by decide +kernel
abbrev wl_X4_clear (G : gw_) (A_t : Nat) (A_t_signs : Nat) (c_t_count : Int32) : va_W := [ob_ A_t 4 [.int c_t_count, .ref A_t_signs]]
def fn_X4_clear (c_t_count : Int32) : Option (Int32) :=
  some 0
set_option maxHeartbeats 4000000 in
set_option maxRecDepth 100000 in
theorem wn_X4_clear {p : Program} {l : Launch} {e : Env} {s : State} {m : MethodId} {args : Array Value} {below : List Frame} {meth : Method} {c : Code} {G : gw_} {A : Nat → Prop} {Q : State → Prop} {A_t : Nat} {A_t_signs : Nat} {c_t_count : Int32} {z_t_count : Int32} (hC : cx_ p s m c G cX4_clear 1 RX4) (hret : ∀ (pc : Nat) (H : Heap) (locs : List Loc) (ls : Array Slot), decode cX4_clear pc = .ok (.return_, 1) → wd_ G A s.heap (wl_X4_clear G A_t A_t_signs z_t_count) H locs → W p l e { frames := 0, cells := 0, slots := 0, locals := 0 } s m args below meth c H locs 0 0 Q (F0 m pc ls [])) (hf : fn_X4_clear c_t_count = some z_t_count) {H : Heap} {locs : List Loc} {ls : Array Slot} (hl : lv_has ls 1 [(0, .ref A_t)]) (hw : wd_ G A s.heap (wl_X4_clear G A_t A_t_signs c_t_count) H locs) : W p l e { frames := 0, cells := 0, slots := 0, locals := 0 } s m args below meth c H locs 0 0 Q (F0 m 0 ls []) := by
  have hx := hC.1
  have hb := hC.2.1
  unfold fn_X4_clear at hf
  refine lv_aload_n hx hb dX4_clear_0 rfl (lv_at hl 0 rfl) ?_
  refine lv_iconst (v := 0) hx hb dX4_clear_1 (by decide) ?_
  refine g_put hC hw fpX4_9 0 rfl rfl rfl (Nat.le_of_ble_eq_true rfl) dX4_clear_2 (fun H locs hw => ?_)
  have hw : wd_ G A s.heap (wl_X4_clear G A_t A_t_signs 0) H locs := hw
  have h1_ := t1_ hf
  subst h1_
  exact hret _ _ _ _ dX4_clear_5 hw
set_option maxHeartbeats 4000000 in
set_option maxRecDepth 100000 in
theorem cn_X4_clear (l : Launch) (G : gw_) (A_t : Nat) (A_t_signs : Nat) (c_t_count : Int32) (z_t_count : Int32) (hf : fn_X4_clear c_t_count = some z_t_count) : cv_ l G yX4_clear cX4_clear 1 none 0 0 (wl_X4_clear G A_t A_t_signs c_t_count) [.ref A_t] (wl_X4_clear G A_t A_t_signs z_t_count) := fun sz => met_intro (by decide) (Nat.le_of_ble_eq_true rfl) (fun p e s m args below meth c ls hsz hC hr hlk hnm hl hw => wn_X4_clear hC (fun pc H locs ls hd hw => g_vret hC hr hlk hw hd) hf hl hw)

theorem dX4_stateBehind_0 : decode cX4_stateBehind 0 = .ok (.iload_n 0, 1) := by decide +kernel
theorem dX4_stateBehind_1 : decode cX4_stateBehind 1 = .ok (.iconst 1, 1) := by decide +kernel
theorem dX4_stateBehind_2 : decode cX4_stateBehind 2 = .ok (.if_icmp .ne 35, 3) := by decide +kernel
theorem dX4_stateBehind_5 : decode cX4_stateBehind 5 = .ok (.iload_n 1, 1) := by decide +kernel
theorem dX4_stateBehind_6 : decode cX4_stateBehind 6 = .ok (.bipush 45, 2) := by decide +kernel
theorem dX4_stateBehind_8 : decode cX4_stateBehind 8 = .ok (.if_icmp .eq 14, 3) := by decide +kernel
theorem dX4_stateBehind_11 : decode cX4_stateBehind 11 = .ok (.iload_n 1, 1) := by decide +kernel
theorem dX4_stateBehind_12 : decode cX4_stateBehind 12 = .ok (.bipush 97, 2) := by decide +kernel
theorem dX4_stateBehind_14 : decode cX4_stateBehind 14 = .ok (.bipush 108, 2) := by decide +kernel
theorem dX4_stateBehind_16 : decode cX4_stateBehind 16 = .ok (.invokestatic 19, 3) := by decide +kernel
theorem dX4_stateBehind_19 : decode cX4_stateBehind 19 = .ok (.ifCond .eq 5, 3) := by decide +kernel
theorem dX4_stateBehind_22 : decode cX4_stateBehind 22 = .ok (.iconst 0, 1) := by decide +kernel
theorem dX4_stateBehind_23 : decode cX4_stateBehind 23 = .ok (.ireturn, 1) := by decide +kernel
theorem dX4_stateBehind_24 : decode cX4_stateBehind 24 = .ok (.iload_n 1, 1) := by decide +kernel
theorem dX4_stateBehind_25 : decode cX4_stateBehind 25 = .ok (.invokestatic 27, 3) := by decide +kernel
theorem dX4_stateBehind_28 : decode cX4_stateBehind 28 = .ok (.ifCond .eq 7, 3) := by decide +kernel
theorem dX4_stateBehind_31 : decode cX4_stateBehind 31 = .ok (.iconst 2, 1) := by decide +kernel
theorem dX4_stateBehind_32 : decode cX4_stateBehind 32 = .ok (.goto 4, 3) := by decide +kernel
theorem dX4_stateBehind_35 : decode cX4_stateBehind 35 = .ok (.iconst 3, 1) := by decide +kernel
theorem dX4_stateBehind_36 : decode cX4_stateBehind 36 = .ok (.ireturn, 1) := by decide +kernel
theorem dX4_stateBehind_37 : decode cX4_stateBehind 37 = .ok (.iload_n 1, 1) := by decide +kernel
theorem dX4_stateBehind_38 : decode cX4_stateBehind 38 = .ok (.bipush 65, 2) := by decide +kernel
theorem dX4_stateBehind_40 : decode cX4_stateBehind 40 = .ok (.bipush 70, 2) := by decide +kernel
theorem dX4_stateBehind_42 : decode cX4_stateBehind 42 = .ok (.invokestatic 19, 3) := by decide +kernel
theorem dX4_stateBehind_45 : decode cX4_stateBehind 45 = .ok (.istore_n 2, 1) := by decide +kernel
theorem dX4_stateBehind_46 : decode cX4_stateBehind 46 = .ok (.iload_n 0, 1) := by decide +kernel
theorem dX4_stateBehind_47 : decode cX4_stateBehind 47 = .ok (.iconst 2, 1) := by decide +kernel
theorem dX4_stateBehind_48 : decode cX4_stateBehind 48 = .ok (.if_icmp .ne 13, 3) := by decide +kernel
theorem dX4_stateBehind_51 : decode cX4_stateBehind 51 = .ok (.iload_n 2, 1) := by decide +kernel
theorem dX4_stateBehind_52 : decode cX4_stateBehind 52 = .ok (.ifCond .eq 7, 3) := by decide +kernel
theorem dX4_stateBehind_55 : decode cX4_stateBehind 55 = .ok (.iconst 0, 1) := by decide +kernel
theorem dX4_stateBehind_56 : decode cX4_stateBehind 56 = .ok (.goto 4, 3) := by decide +kernel
theorem dX4_stateBehind_59 : decode cX4_stateBehind 59 = .ok (.iconst 3, 1) := by decide +kernel
theorem dX4_stateBehind_60 : decode cX4_stateBehind 60 = .ok (.ireturn, 1) := by decide +kernel
theorem dX4_stateBehind_61 : decode cX4_stateBehind 61 = .ok (.iload_n 1, 1) := by decide +kernel
theorem dX4_stateBehind_62 : decode cX4_stateBehind 62 = .ok (.bipush 126, 2) := by decide +kernel
theorem dX4_stateBehind_64 : decode cX4_stateBehind 64 = .ok (.if_icmp .ne 5, 3) := by decide +kernel
theorem dX4_stateBehind_67 : decode cX4_stateBehind 67 = .ok (.iconst 0, 1) := by decide +kernel
theorem dX4_stateBehind_68 : decode cX4_stateBehind 68 = .ok (.ireturn, 1) := by decide +kernel
theorem dX4_stateBehind_69 : decode cX4_stateBehind 69 = .ok (.iload_n 2, 1) := by decide +kernel
theorem dX4_stateBehind_70 : decode cX4_stateBehind 70 = .ok (.ifCond .eq 7, 3) := by decide +kernel
theorem dX4_stateBehind_73 : decode cX4_stateBehind 73 = .ok (.iconst 1, 1) := by decide +kernel
theorem dX4_stateBehind_74 : decode cX4_stateBehind 74 = .ok (.goto 4, 3) := by decide +kernel
theorem dX4_stateBehind_77 : decode cX4_stateBehind 77 = .ok (.iconst 3, 1) := by decide +kernel
theorem dX4_stateBehind_78 : decode cX4_stateBehind 78 = .ok (.ireturn, 1) := by decide +kernel
def fn_X4_stateBehind (x0 : Int32) (x1 : Int32) : Option (Int32) :=
  if x0 = 1 then
    if x1 = 45 then
      some 0
    else
      b1_ (fn_X9_isWithin x1 97 108) fun r3 =>
      if r3 = 0 then
        b1_ (fn_X4_takesOther x1) fun r5 =>
        if r5 = 0 then
          some 3
        else
          some 2
      else
        some 0
  else
    b1_ (fn_X9_isWithin x1 65 70) fun r1 =>
    if x0 = 2 then
      if r1 = 0 then
        some 3
      else
        some 0
    else
      if x1 = 126 then
        some 0
      else
        if r1 = 0 then
          some 3
        else
          some 1
set_option maxHeartbeats 4000000 in
set_option maxRecDepth 100000 in
theorem wn_X4_stateBehind {p : Program} {l : Launch} {e : Env} {s : State} {m : MethodId} {args : Array Value} {below : List Frame} {meth : Method} {c : Code} {G : gw_} {A : Nat → Prop} {Q : State → Prop} {r : Int32} {x0 : Int32} {x1 : Int32} (hC : cx_ p s m c G cX4_stateBehind 3 RX4) (hret : ∀ (pc : Nat) (H : Heap) (locs : List Loc) (ls : Array Slot), decode cX4_stateBehind pc = .ok (.ireturn, 1) → wd_ G A s.heap [] H locs → W p l e { frames := 2, cells := 0, slots := 0, locals := 42 } s m args below meth c H locs 0 0 Q (F0 m pc ls [.int r])) (hf : fn_X4_stateBehind x0 x1 = some r) {H : Heap} {locs : List Loc} {ls : Array Slot} (hl : lv_has ls 3 [(0, .int x0), (1, .int x1)]) (hw : wd_ G A s.heap [] H locs) : W p l e { frames := 2, cells := 0, slots := 0, locals := 42 } s m args below meth c H locs 0 0 Q (F0 m 0 ls []) := by
  have hx := hC.1
  have hb := hC.2.1
  unfold fn_X4_stateBehind at hf
  refine lv_iload_n hx hb dX4_stateBehind_0 rfl (lv_at hl 0 rfl) ?_
  refine lv_iconst (v := 1) hx hb dX4_stateBehind_1 (by decide) ?_
  refine lv_icmp_ne (tgt := 37) hx hb dX4_stateBehind_2 (by decide) (fun hc => ?_) (fun hc => ?_)
  · replace hf := it_f hc hf
    refine lv_iload_n hx hb dX4_stateBehind_37 rfl (lv_at hl 1 rfl) ?_
    refine lv_bipush (v := 65) hx hb dX4_stateBehind_38 (by decide) ?_
    refine lv_bipush (v := 70) hx hb dX4_stateBehind_40 (by decide) ?_
    obtain ⟨r1, hq2, hf⟩ := b1_s hf
    refine h_cSi hC hw msX4_19 (cn_X9_isWithin l G x1 65 70 r1 hq2) [] rfl (by decide) rfl hl.1 rfl (Nat.le_of_ble_eq_true rfl) ⟨Nat.le_of_ble_eq_true rfl, Nat.le_of_ble_eq_true rfl⟩ ⟨Nat.le_refl _, Nat.le_refl _⟩ dX4_stateBehind_42 (fun H locs hw => ?_)
    refine lv_istore_n (lv' := [(2, .int r1), (0, .int x0), (1, .int x1)]) hx hb dX4_stateBehind_45 rfl hl (by decide) rfl (fun ls hl => ?_)
    refine lv_iload_n hx hb dX4_stateBehind_46 rfl (lv_at hl 1 rfl) ?_
    refine lv_iconst (v := 2) hx hb dX4_stateBehind_47 (by decide) ?_
    refine lv_icmp_ne (tgt := 61) hx hb dX4_stateBehind_48 (by decide) (fun hc => ?_) (fun hc => ?_)
    · replace hf := it_f hc hf
      refine lv_iload_n hx hb dX4_stateBehind_61 rfl (lv_at hl 2 rfl) ?_
      refine lv_bipush (v := 126) hx hb dX4_stateBehind_62 (by decide) ?_
      refine lv_icmp_ne (tgt := 69) hx hb dX4_stateBehind_64 (by decide) (fun hc => ?_) (fun hc => ?_)
      · replace hf := it_f hc hf
        refine lv_iload_n hx hb dX4_stateBehind_69 rfl (lv_at hl 0 rfl) ?_
        refine lv_if_eq (tgt := 77) hx hb dX4_stateBehind_70 (by decide) (fun hc => ?_) (fun hc => ?_)
        · replace hf := it_t hc hf
          refine lv_iconst (v := 3) hx hb dX4_stateBehind_77 (by decide) ?_
          have h1_ := t1_ hf
          subst h1_
          exact hret _ _ _ _ dX4_stateBehind_78 hw
        · replace hf := it_f hc hf
          refine lv_iconst (v := 1) hx hb dX4_stateBehind_73 (by decide) ?_
          refine lv_goto (tgt := 78) hx hb dX4_stateBehind_74 (by decide) ?_
          have h1_ := t1_ hf
          subst h1_
          exact hret _ _ _ _ dX4_stateBehind_78 hw
      · replace hf := it_t hc hf
        refine lv_iconst (v := 0) hx hb dX4_stateBehind_67 (by decide) ?_
        have h1_ := t1_ hf
        subst h1_
        exact hret _ _ _ _ dX4_stateBehind_68 hw
    · replace hf := it_t hc hf
      refine lv_iload_n hx hb dX4_stateBehind_51 rfl (lv_at hl 0 rfl) ?_
      refine lv_if_eq (tgt := 59) hx hb dX4_stateBehind_52 (by decide) (fun hc => ?_) (fun hc => ?_)
      · replace hf := it_t hc hf
        refine lv_iconst (v := 3) hx hb dX4_stateBehind_59 (by decide) ?_
        have h1_ := t1_ hf
        subst h1_
        exact hret _ _ _ _ dX4_stateBehind_60 hw
      · replace hf := it_f hc hf
        refine lv_iconst (v := 0) hx hb dX4_stateBehind_55 (by decide) ?_
        refine lv_goto (tgt := 60) hx hb dX4_stateBehind_56 (by decide) ?_
        have h1_ := t1_ hf
        subst h1_
        exact hret _ _ _ _ dX4_stateBehind_60 hw
  · replace hf := it_t hc hf
    refine lv_iload_n hx hb dX4_stateBehind_5 rfl (lv_at hl 1 rfl) ?_
    refine lv_bipush (v := 45) hx hb dX4_stateBehind_6 (by decide) ?_
    refine lv_icmp_eq (tgt := 22) hx hb dX4_stateBehind_8 (by decide) (fun hc => ?_) (fun hc => ?_)
    · replace hf := it_t hc hf
      refine lv_iconst (v := 0) hx hb dX4_stateBehind_22 (by decide) ?_
      have h1_ := t1_ hf
      subst h1_
      exact hret _ _ _ _ dX4_stateBehind_23 hw
    · replace hf := it_f hc hf
      refine lv_iload_n hx hb dX4_stateBehind_11 rfl (lv_at hl 1 rfl) ?_
      refine lv_bipush (v := 97) hx hb dX4_stateBehind_12 (by decide) ?_
      refine lv_bipush (v := 108) hx hb dX4_stateBehind_14 (by decide) ?_
      obtain ⟨r3, hq4, hf⟩ := b1_s hf
      refine h_cSi hC hw msX4_19 (cn_X9_isWithin l G x1 97 108 r3 hq4) [] rfl (by decide) rfl hl.1 rfl (Nat.le_of_ble_eq_true rfl) ⟨Nat.le_of_ble_eq_true rfl, Nat.le_of_ble_eq_true rfl⟩ ⟨Nat.le_refl _, Nat.le_refl _⟩ dX4_stateBehind_16 (fun H locs hw => ?_)
      refine lv_if_eq (tgt := 24) hx hb dX4_stateBehind_19 (by decide) (fun hc => ?_) (fun hc => ?_)
      · replace hf := it_t hc hf
        refine lv_iload_n hx hb dX4_stateBehind_24 rfl (lv_at hl 1 rfl) ?_
        obtain ⟨r5, hq6, hf⟩ := b1_s hf
        refine h_cSi hC hw msX4_27 (cn_X4_takesOther l G x1 r5 hq6) [] rfl (by decide) rfl hl.1 rfl (Nat.le_of_ble_eq_true rfl) ⟨Nat.le_of_ble_eq_true rfl, Nat.le_of_ble_eq_true rfl⟩ ⟨Nat.le_refl _, Nat.le_refl _⟩ dX4_stateBehind_25 (fun H locs hw => ?_)
        refine lv_if_eq (tgt := 35) hx hb dX4_stateBehind_28 (by decide) (fun hc => ?_) (fun hc => ?_)
        · replace hf := it_t hc hf
          refine lv_iconst (v := 3) hx hb dX4_stateBehind_35 (by decide) ?_
          have h1_ := t1_ hf
          subst h1_
          exact hret _ _ _ _ dX4_stateBehind_36 hw
        · replace hf := it_f hc hf
          refine lv_iconst (v := 2) hx hb dX4_stateBehind_31 (by decide) ?_
          refine lv_goto (tgt := 36) hx hb dX4_stateBehind_32 (by decide) ?_
          have h1_ := t1_ hf
          subst h1_
          exact hret _ _ _ _ dX4_stateBehind_36 hw
      · replace hf := it_f hc hf
        refine lv_iconst (v := 0) hx hb dX4_stateBehind_22 (by decide) ?_
        have h1_ := t1_ hf
        subst h1_
        exact hret _ _ _ _ dX4_stateBehind_23 hw
set_option maxHeartbeats 4000000 in
set_option maxRecDepth 100000 in
theorem cn_X4_stateBehind (l : Launch) (G : gw_) (x0 : Int32) (x1 : Int32) (r : Int32) (hf : fn_X4_stateBehind x0 x1 = some r) : ci_ l G yX4_stateBehind cX4_stateBehind 3 (some .int) 2 42 [] [.int x0, .int x1] r [] := fun sz => met_intro (by decide) (Nat.le_of_ble_eq_true rfl) (fun p e s m args below meth c ls hsz hC hr hlk hnm hl hw => wn_X4_stateBehind hC (fun pc H locs ls hd hw => g_iret hC hr hlk hw rfl rfl hd) hf hl hw)
