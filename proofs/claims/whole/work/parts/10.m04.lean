theorem dX4_firstFault_0 : decode cX4_firstFault 0 = .ok (.iconst 0, 1) := by decide +kernel
theorem dX4_firstFault_1 : decode cX4_firstFault 1 = .ok (.istore_n 1, 1) := by decide +kernel
theorem dX4_firstFault_2 : decode cX4_firstFault 2 = .ok (.iconst 0, 1) := by decide +kernel
theorem dX4_firstFault_3 : decode cX4_firstFault 3 = .ok (.istore_n 2, 1) := by decide +kernel
theorem dX4_firstFault_4 : decode cX4_firstFault 4 = .ok (.iload_n 2, 1) := by decide +kernel
theorem dX4_firstFault_5 : decode cX4_firstFault 5 = .ok (.aload_n 0, 1) := by decide +kernel
theorem dX4_firstFault_6 : decode cX4_firstFault 6 = .ok (.getfield 9, 3) := by decide +kernel
theorem dX4_firstFault_9 : decode cX4_firstFault 9 = .ok (.if_icmp .ge 27, 3) := by decide +kernel
theorem dX4_firstFault_12 : decode cX4_firstFault 12 = .ok (.iload_n 1, 1) := by decide +kernel
theorem dX4_firstFault_13 : decode cX4_firstFault 13 = .ok (.aload_n 0, 1) := by decide +kernel
theorem dX4_firstFault_14 : decode cX4_firstFault 14 = .ok (.getfield 15, 3) := by decide +kernel
theorem dX4_firstFault_17 : decode cX4_firstFault 17 = .ok (.iload_n 2, 1) := by decide +kernel
theorem dX4_firstFault_18 : decode cX4_firstFault 18 = .ok (.iaload, 1) := by decide +kernel
theorem dX4_firstFault_19 : decode cX4_firstFault 19 = .ok (.invokestatic 23, 3) := by decide +kernel
theorem dX4_firstFault_22 : decode cX4_firstFault 22 = .ok (.istore_n 1, 1) := by decide +kernel
theorem dX4_firstFault_23 : decode cX4_firstFault 23 = .ok (.iload_n 1, 1) := by decide +kernel
theorem dX4_firstFault_24 : decode cX4_firstFault 24 = .ok (.iconst 3, 1) := by decide +kernel
theorem dX4_firstFault_25 : decode cX4_firstFault 25 = .ok (.if_icmp .ne 5, 3) := by decide +kernel
theorem dX4_firstFault_28 : decode cX4_firstFault 28 = .ok (.iload_n 2, 1) := by decide +kernel
theorem dX4_firstFault_29 : decode cX4_firstFault 29 = .ok (.ireturn, 1) := by decide +kernel
theorem dX4_firstFault_30 : decode cX4_firstFault 30 = .ok (.iinc 2 1, 3) := by decide +kernel
theorem dX4_firstFault_33 : decode cX4_firstFault 33 = .ok (.goto (-29), 3) := by decide +kernel
theorem dX4_firstFault_36 : decode cX4_firstFault 36 = .ok (.iload_n 1, 1) := by decide +kernel
theorem dX4_firstFault_37 : decode cX4_firstFault 37 = .ok (.ifCond .ne 8, 3) := by decide +kernel
theorem dX4_firstFault_40 : decode cX4_firstFault 40 = .ok (.bipush (-6), 2) := by decide +kernel
theorem dX4_firstFault_42 : decode cX4_firstFault 42 = .ok (.goto 7, 3) := by decide +kernel
theorem dX4_firstFault_45 : decode cX4_firstFault 45 = .ok (.aload_n 0, 1) := by decide +kernel
theorem dX4_firstFault_46 : decode cX4_firstFault 46 = .ok (.getfield 9, 3) := by decide +kernel
theorem dX4_firstFault_49 : decode cX4_firstFault 49 = .ok (.ireturn, 1) := by decide +kernel
abbrev wl_X4_firstFault (G : gw_) (A_t : Nat) (A_t_signs : Nat) (c_t_count : Int32) (c_t_signs : Nat → Int32) : va_W := [ob_ A_t 4 [.int c_t_count, .ref A_t_signs], ia_ G A_t_signs 60 c_t_signs]
def fn_X4_firstFault_b4 (c_t_count : Int32) (c_t_signs : Nat → Int32) (rc : Int32 → Int32 → Option (Int32)) (k : Int32 → Option (Int32)) (x1 : Int32) (x2 : Int32) : Option (Int32) :=
  if c_t_count ≤ x2 then
    k x1
  else
    ck_ x2 60 <|
    b1_ (fn_X4_stateBehind x1 (c_t_signs (Int32.toNatClampNeg x2))) fun r1 =>
    if r1 = 3 then
      some x2
    else
      rc r1 (x2 + 1)
def fn_X4_firstFault_l4 (c_t_count : Int32) (c_t_signs : Nat → Int32) (k : Int32 → Option (Int32)) : Nat → Int32 → Int32 → Option (Int32)
  | 0 => fun _ _ => none
  | n + 1 => fun x1 x2 => fn_X4_firstFault_b4 c_t_count c_t_signs (fn_X4_firstFault_l4 c_t_count c_t_signs k n) k x1 x2
def fn_X4_firstFault (c_t_count : Int32) (c_t_signs : Nat → Int32) : Option (Int32) :=
  fn_X4_firstFault_l4 c_t_count c_t_signs (fun v3 =>
    if v3 = 0 then
      some (-6)
    else
      some c_t_count) fu_ 0 0
set_option maxHeartbeats 4000000 in
set_option maxRecDepth 100000 in
theorem wn_X4_firstFault_l4 {p : Program} {l : Launch} {e : Env} {s : State} {m : MethodId} {args : Array Value} {below : List Frame} {meth : Method} {c : Code} {G : gw_} {A : Nat → Prop} {Q : State → Prop} {A_t : Nat} {A_t_signs : Nat} {c_t_count : Int32} {c_t_signs : Nat → Int32} {r : Int32} {k : Int32 → Option (Int32)} (hC : cx_ p s m c G cX4_firstFault 3 RX4) (hret : ∀ (pc : Nat) (H : Heap) (locs : List Loc) (ls : Array Slot), decode cX4_firstFault pc = .ok (.ireturn, 1) → wd_ G A s.heap (wl_X4_firstFault G A_t A_t_signs c_t_count c_t_signs) H locs → W p l e { frames := 3, cells := 0, slots := 0, locals := 64 } s m args below meth c H locs 0 0 Q (F0 m pc ls [.int r])) (hk : ∀ (x1 : Int32) (H : Heap) (locs : List Loc) (ls : Array Slot), k x1 = some r → lv_has ls 3 [(0, .ref A_t), (1, .int x1)] → wd_ G A s.heap (wl_X4_firstFault G A_t A_t_signs c_t_count c_t_signs) H locs → W p l e { frames := 3, cells := 0, slots := 0, locals := 64 } s m args below meth c H locs 0 0 Q (F0 m 36 ls [])) : ∀ (n : Nat) (x1 : Int32) (x2 : Int32) (H : Heap) (locs : List Loc) (ls : Array Slot), fn_X4_firstFault_l4 c_t_count c_t_signs k n x1 x2 = some r → lv_has ls 3 [(0, .ref A_t), (1, .int x1), (2, .int x2)] → wd_ G A s.heap (wl_X4_firstFault G A_t A_t_signs c_t_count c_t_signs) H locs → W p l e { frames := 3, cells := 0, slots := 0, locals := 64 } s m args below meth c H locs 0 0 Q (F0 m 4 ls []) := by
  have hx := hC.1
  have hb := hC.2.1
  intro n
  induction n with
  | zero =>
    intro x1 x2 H locs ls hf
    cases (show (none : Option (Int32)) = some _ from hf)
  | succ n hrc =>
    intro x1 x2 H locs ls hf hl hw
    replace hf : fn_X4_firstFault_b4 c_t_count c_t_signs (fn_X4_firstFault_l4 c_t_count c_t_signs k n) k x1 x2 = some r := hf
    unfold fn_X4_firstFault_b4 at hf
    refine lv_iload_n hx hb dX4_firstFault_4 rfl (lv_at hl 2 rfl) ?_
    refine lv_aload_n hx hb dX4_firstFault_5 rfl (lv_at hl 0 rfl) ?_
    refine g_get hC hw fkX4_9 0 rfl rfl dX4_firstFault_6 ?_
    refine lv_icmp_ge (tgt := 36) hx hb dX4_firstFault_9 (by decide) (fun hc => ?_) (fun hc => ?_)
    · replace hf := it_t hc hf
      exact hk x1 _ _ _ hf (lv_sub hl [0, 1] rfl) hw
    · replace hf := it_f hc hf
      refine lv_iload_n hx hb dX4_firstFault_12 rfl (lv_at hl 1 rfl) ?_
      refine lv_aload_n hx hb dX4_firstFault_13 rfl (lv_at hl 0 rfl) ?_
      refine g_get hC hw fkX4_15 0 rfl rfl dX4_firstFault_14 ?_
      refine lv_iload_n hx hb dX4_firstFault_17 rfl (lv_at hl 2 rfl) ?_
      obtain ⟨hi, hf⟩ := ck_s hf
      refine g_iald hC hw 1 rfl hi dX4_firstFault_18 ?_
      obtain ⟨r1, hq2, hf⟩ := b1_s hf
      refine h_cSi hC hw msX4_23 (cn_X4_stateBehind l G x1 (c_t_signs (Int32.toNatClampNeg x2)) r1 hq2) [] rfl (by decide) rfl hl.1 rfl (Nat.le_of_ble_eq_true rfl) ⟨Nat.le_of_ble_eq_true rfl, Nat.le_of_ble_eq_true rfl⟩ ⟨Nat.le_refl _, Nat.le_refl _⟩ dX4_firstFault_19 (fun H locs hw => ?_)
      refine lv_istore_n (lv' := [(1, .int r1), (0, .ref A_t), (2, .int x2)]) hx hb dX4_firstFault_22 rfl hl (by decide) rfl (fun ls hl => ?_)
      refine lv_iload_n hx hb dX4_firstFault_23 rfl (lv_at hl 0 rfl) ?_
      refine lv_iconst (v := 3) hx hb dX4_firstFault_24 (by decide) ?_
      refine lv_icmp_ne (tgt := 30) hx hb dX4_firstFault_25 (by decide) (fun hc => ?_) (fun hc => ?_)
      · replace hf := it_f hc hf
        refine lv_iinc (v := x2 + 1) (lv' := [(2, .int (x2 + 1)), (1, .int r1), (0, .ref A_t)]) hx hb dX4_firstFault_30 hl (k := 2) rfl rfl (by decide) rfl (fun ls hl => ?_)
        refine lv_goto (tgt := 4) hx hb dX4_firstFault_33 (by decide) ?_
        exact hrc r1 (x2 + 1) _ _ _ hf (lv_sub hl [2, 1, 0] rfl) hw
      · replace hf := it_t hc hf
        refine lv_iload_n hx hb dX4_firstFault_28 rfl (lv_at hl 2 rfl) ?_
        have h1_ := t1_ hf
        subst h1_
        exact hret _ _ _ _ dX4_firstFault_29 hw
set_option maxHeartbeats 4000000 in
set_option maxRecDepth 100000 in
theorem wn_X4_firstFault {p : Program} {l : Launch} {e : Env} {s : State} {m : MethodId} {args : Array Value} {below : List Frame} {meth : Method} {c : Code} {G : gw_} {A : Nat → Prop} {Q : State → Prop} {A_t : Nat} {A_t_signs : Nat} {c_t_count : Int32} {c_t_signs : Nat → Int32} {r : Int32} (hC : cx_ p s m c G cX4_firstFault 3 RX4) (hret : ∀ (pc : Nat) (H : Heap) (locs : List Loc) (ls : Array Slot), decode cX4_firstFault pc = .ok (.ireturn, 1) → wd_ G A s.heap (wl_X4_firstFault G A_t A_t_signs c_t_count c_t_signs) H locs → W p l e { frames := 3, cells := 0, slots := 0, locals := 64 } s m args below meth c H locs 0 0 Q (F0 m pc ls [.int r])) (hf : fn_X4_firstFault c_t_count c_t_signs = some r) {H : Heap} {locs : List Loc} {ls : Array Slot} (hl : lv_has ls 3 [(0, .ref A_t)]) (hw : wd_ G A s.heap (wl_X4_firstFault G A_t A_t_signs c_t_count c_t_signs) H locs) : W p l e { frames := 3, cells := 0, slots := 0, locals := 64 } s m args below meth c H locs 0 0 Q (F0 m 0 ls []) := by
  have hx := hC.1
  have hb := hC.2.1
  unfold fn_X4_firstFault at hf
  refine lv_iconst (v := 0) hx hb dX4_firstFault_0 (by decide) ?_
  refine lv_istore_n (lv' := [(1, .int 0), (0, .ref A_t)]) hx hb dX4_firstFault_1 rfl hl (by decide) rfl (fun ls hl => ?_)
  refine lv_iconst (v := 0) hx hb dX4_firstFault_2 (by decide) ?_
  refine lv_istore_n (lv' := [(2, .int 0), (1, .int 0), (0, .ref A_t)]) hx hb dX4_firstFault_3 rfl hl (by decide) rfl (fun ls hl => ?_)
  refine wn_X4_firstFault_l4 hC hret (fun v3 H locs ls hf hl hw => ?_) fu_ 0 0 _ _ _ hf (lv_sub hl [2, 1, 0] rfl) hw
  refine lv_iload_n hx hb dX4_firstFault_36 rfl (lv_at hl 1 rfl) ?_
  refine lv_if_ne (tgt := 45) hx hb dX4_firstFault_37 (by decide) (fun hc => ?_) (fun hc => ?_)
  · replace hf := it_f hc hf
    refine lv_aload_n hx hb dX4_firstFault_45 rfl (lv_at hl 0 rfl) ?_
    refine g_get hC hw fkX4_9 0 rfl rfl dX4_firstFault_46 ?_
    have h1_ := t1_ hf
    subst h1_
    exact hret _ _ _ _ dX4_firstFault_49 hw
  · replace hf := it_t hc hf
    refine lv_bipush (v := (-6)) hx hb dX4_firstFault_40 (by decide) ?_
    refine lv_goto (tgt := 49) hx hb dX4_firstFault_42 (by decide) ?_
    have h1_ := t1_ hf
    subst h1_
    exact hret _ _ _ _ dX4_firstFault_49 hw
set_option maxHeartbeats 4000000 in
set_option maxRecDepth 100000 in
theorem cn_X4_firstFault (l : Launch) (G : gw_) (A_t : Nat) (A_t_signs : Nat) (c_t_count : Int32) (c_t_signs : Nat → Int32) (r : Int32) (hf : fn_X4_firstFault c_t_count c_t_signs = some r) : ci_ l G yX4_firstFault cX4_firstFault 3 (some .int) 3 64 (wl_X4_firstFault G A_t A_t_signs c_t_count c_t_signs) [.ref A_t] r (wl_X4_firstFault G A_t A_t_signs c_t_count c_t_signs) := fun sz => met_intro (by decide) (Nat.le_of_ble_eq_true rfl) (fun p e s m args below meth c ls hsz hC hr hlk hnm hl hw => wn_X4_firstFault hC (fun pc H locs ls hd hw => g_iret hC hr hlk hw rfl rfl hd) hf hl hw)

theorem dX6_copyFrom_0 : decode cX6_copyFrom 0 = .ok (.aload_n 0, 1) := by decide +kernel
theorem dX6_copyFrom_1 : decode cX6_copyFrom 1 = .ok (.aload_n 1, 1) := by decide +kernel
theorem dX6_copyFrom_2 : decode cX6_copyFrom 2 = .ok (.getfield 9, 3) := by decide +kernel
theorem dX6_copyFrom_5 : decode cX6_copyFrom 5 = .ok (.putfield 9, 3) := by decide +kernel
theorem dX6_copyFrom_8 : decode cX6_copyFrom 8 = .ok (.aload_n 1, 1) := by decide +kernel
theorem dX6_copyFrom_9 : decode cX6_copyFrom 9 = .ok (.getfield 15, 3) := by decide +kernel
theorem dX6_copyFrom_12 : decode cX6_copyFrom 12 = .ok (.iconst 0, 1) := by decide +kernel
theorem dX6_copyFrom_13 : decode cX6_copyFrom 13 = .ok (.aload_n 0, 1) := by decide +kernel
theorem dX6_copyFrom_14 : decode cX6_copyFrom 14 = .ok (.getfield 15, 3) := by decide +kernel
theorem dX6_copyFrom_17 : decode cX6_copyFrom 17 = .ok (.iconst 0, 1) := by decide +kernel
theorem dX6_copyFrom_18 : decode cX6_copyFrom 18 = .ok (.bipush 8, 2) := by decide +kernel
theorem dX6_copyFrom_20 : decode cX6_copyFrom 20 = .ok (.invokestatic 22, 3) := by decide +kernel
theorem dX6_copyFrom_23 : decode cX6_copyFrom 23 = .ok (.aload_n 1, 1) := by decide +kernel
theorem dX6_copyFrom_24 : decode cX6_copyFrom 24 = .ok (.getfield 19, 3) := by decide +kernel
theorem dX6_copyFrom_27 : decode cX6_copyFrom 27 = .ok (.iconst 0, 1) := by decide +kernel
theorem dX6_copyFrom_28 : decode cX6_copyFrom 28 = .ok (.aload_n 0, 1) := by decide +kernel
theorem dX6_copyFrom_29 : decode cX6_copyFrom 29 = .ok (.getfield 19, 3) := by decide +kernel
theorem dX6_copyFrom_32 : decode cX6_copyFrom 32 = .ok (.iconst 0, 1) := by decide +kernel
theorem dX6_copyFrom_33 : decode cX6_copyFrom 33 = .ok (.bipush 8, 2) := by decide +kernel
theorem dX6_copyFrom_35 : decode cX6_copyFrom 35 = .ok (.invokestatic 22, 3) := by decide +kernel
theorem dX6_copyFrom_38 : decode cX6_copyFrom 38 = .ok (.return_, 1) := by decide +kernel
abbrev wl_X6_copyFrom (G : gw_) (A_t : Nat) (A_t_places : Nat) (A_t_lights : Nat) (A_q1 : Nat) (A_q1_places : Nat) (A_q1_lights : Nat) (c_t_count : Int32) (c_t_places : Nat → Int32) (c_t_lights : Nat → Int32) (c_q1_count : Int32) (c_q1_places : Nat → Int32) (c_q1_lights : Nat → Int32) : va_W := [ob_ A_t 6 [.int c_t_count, .ref A_t_places, .ref A_t_lights], ia_ G A_t_places 8 c_t_places, ia_ G A_t_lights 8 c_t_lights, ob_ A_q1 6 [.int c_q1_count, .ref A_q1_places, .ref A_q1_lights], ia_ G A_q1_places 8 c_q1_places, ia_ G A_q1_lights 8 c_q1_lights]
def fn_X6_copyFrom (c_t_count : Int32) (c_t_places : Nat → Int32) (c_t_lights : Nat → Int32) (c_q1_count : Int32) (c_q1_places : Nat → Int32) (c_q1_lights : Nat → Int32) : Option (Int32 × (Nat → Int32) × (Nat → Int32)) :=
  lx_ (va_cpy c_q1_places c_t_places 0 0 8) fun f1 =>
  lx_ (va_cpy c_q1_lights c_t_lights 0 0 8) fun f2 =>
  some (c_q1_count, f1, f2)
set_option maxHeartbeats 4000000 in
set_option maxRecDepth 100000 in
theorem wn_X6_copyFrom {p : Program} {l : Launch} {e : Env} {s : State} {m : MethodId} {args : Array Value} {below : List Frame} {meth : Method} {c : Code} {G : gw_} {A : Nat → Prop} {Q : State → Prop} {A_t : Nat} {A_t_places : Nat} {A_t_lights : Nat} {A_q1 : Nat} {A_q1_places : Nat} {A_q1_lights : Nat} {c_t_count : Int32} {z_t_count : Int32} {c_t_places : Nat → Int32} {z_t_places : Nat → Int32} {c_t_lights : Nat → Int32} {z_t_lights : Nat → Int32} {c_q1_count : Int32} {c_q1_places : Nat → Int32} {c_q1_lights : Nat → Int32} (hC : cx_ p s m c G cX6_copyFrom 2 RX6) (hret : ∀ (pc : Nat) (H : Heap) (locs : List Loc) (ls : Array Slot), decode cX6_copyFrom pc = .ok (.return_, 1) → wd_ G A s.heap (wl_X6_copyFrom G A_t A_t_places A_t_lights A_q1 A_q1_places A_q1_lights z_t_count z_t_places z_t_lights c_q1_count c_q1_places c_q1_lights) H locs → W p l e { frames := 1, cells := 0, slots := 0, locals := 40 } s m args below meth c H locs 0 0 Q (F0 m pc ls [])) (hf : fn_X6_copyFrom c_t_count c_t_places c_t_lights c_q1_count c_q1_places c_q1_lights = some (z_t_count, z_t_places, z_t_lights)) {H : Heap} {locs : List Loc} {ls : Array Slot} (hl : lv_has ls 2 [(0, .ref A_t), (1, .ref A_q1)]) (hw : wd_ G A s.heap (wl_X6_copyFrom G A_t A_t_places A_t_lights A_q1 A_q1_places A_q1_lights c_t_count c_t_places c_t_lights c_q1_count c_q1_places c_q1_lights) H locs) : W p l e { frames := 1, cells := 0, slots := 0, locals := 40 } s m args below meth c H locs 0 0 Q (F0 m 0 ls []) := by
  have hx := hC.1
  have hb := hC.2.1
  unfold fn_X6_copyFrom at hf
  refine lv_aload_n hx hb dX6_copyFrom_0 rfl (lv_at hl 0 rfl) ?_
  refine lv_aload_n hx hb dX6_copyFrom_1 rfl (lv_at hl 1 rfl) ?_
  refine g_get hC hw fkX6_9 3 rfl rfl dX6_copyFrom_2 ?_
  refine g_put hC hw fpX6_9 0 rfl rfl rfl (Nat.le_of_ble_eq_true rfl) dX6_copyFrom_5 (fun H locs hw => ?_)
  have hw : wd_ G A s.heap (wl_X6_copyFrom G A_t A_t_places A_t_lights A_q1 A_q1_places A_q1_lights c_q1_count c_t_places c_t_lights c_q1_count c_q1_places c_q1_lights) H locs := hw
  refine lv_aload_n hx hb dX6_copyFrom_8 rfl (lv_at hl 1 rfl) ?_
  refine g_get hC hw fkX6_15 3 rfl rfl dX6_copyFrom_9 ?_
  refine lv_iconst (v := 0) hx hb dX6_copyFrom_12 (by decide) ?_
  refine lv_aload_n hx hb dX6_copyFrom_13 rfl (lv_at hl 0 rfl) ?_
  refine g_get hC hw fkX6_15 0 rfl rfl dX6_copyFrom_14 ?_
  refine lv_iconst (v := 0) hx hb dX6_copyFrom_17 (by decide) ?_
  refine lv_bipush (v := 8) hx hb dX6_copyFrom_18 (by decide) ?_
  obtain ⟨f1, ef1, hf⟩ := lx_s hf
  refine g_copy hC hw hl.1 (tb3 219 rfl rfl) (tb2 116 rfl rfl) (tb2 115 rfl rfl) (tb1 14 rfl rfl) 4 1 rfl rfl rfl rfl rfl (by decide) (by decide) (by decide) ef1 (by decide) (by decide) dX6_copyFrom_20 (fun H locs hw => ?_)
  have hw : wd_ G A s.heap (wl_X6_copyFrom G A_t A_t_places A_t_lights A_q1 A_q1_places A_q1_lights c_q1_count f1 c_t_lights c_q1_count c_q1_places c_q1_lights) H locs := hw
  refine lv_aload_n hx hb dX6_copyFrom_23 rfl (lv_at hl 1 rfl) ?_
  refine g_get hC hw fkX6_19 3 rfl rfl dX6_copyFrom_24 ?_
  refine lv_iconst (v := 0) hx hb dX6_copyFrom_27 (by decide) ?_
  refine lv_aload_n hx hb dX6_copyFrom_28 rfl (lv_at hl 0 rfl) ?_
  refine g_get hC hw fkX6_19 0 rfl rfl dX6_copyFrom_29 ?_
  refine lv_iconst (v := 0) hx hb dX6_copyFrom_32 (by decide) ?_
  refine lv_bipush (v := 8) hx hb dX6_copyFrom_33 (by decide) ?_
  obtain ⟨f2, ef2, hf⟩ := lx_s hf
  refine g_copy hC hw hl.1 (tb3 219 rfl rfl) (tb2 116 rfl rfl) (tb2 115 rfl rfl) (tb1 14 rfl rfl) 5 2 rfl rfl rfl rfl rfl (by decide) (by decide) (by decide) ef2 (by decide) (by decide) dX6_copyFrom_35 (fun H locs hw => ?_)
  have hw : wd_ G A s.heap (wl_X6_copyFrom G A_t A_t_places A_t_lights A_q1 A_q1_places A_q1_lights c_q1_count f1 f2 c_q1_count c_q1_places c_q1_lights) H locs := hw
  obtain ⟨h1_, h2_, h3_⟩ := t3_ hf
  subst h1_
  subst h2_
  subst h3_
  exact hret _ _ _ _ dX6_copyFrom_38 hw
set_option maxHeartbeats 4000000 in
set_option maxRecDepth 100000 in
theorem cn_X6_copyFrom (l : Launch) (G : gw_) (A_t : Nat) (A_t_places : Nat) (A_t_lights : Nat) (A_q1 : Nat) (A_q1_places : Nat) (A_q1_lights : Nat) (c_t_count : Int32) (c_t_places : Nat → Int32) (c_t_lights : Nat → Int32) (c_q1_count : Int32) (c_q1_places : Nat → Int32) (c_q1_lights : Nat → Int32) (z_t_count : Int32) (z_t_places : Nat → Int32) (z_t_lights : Nat → Int32) (hf : fn_X6_copyFrom c_t_count c_t_places c_t_lights c_q1_count c_q1_places c_q1_lights = some (z_t_count, z_t_places, z_t_lights)) : cv_ l G yX6_copyFrom cX6_copyFrom 2 none 1 40 (wl_X6_copyFrom G A_t A_t_places A_t_lights A_q1 A_q1_places A_q1_lights c_t_count c_t_places c_t_lights c_q1_count c_q1_places c_q1_lights) [.ref A_t, .ref A_q1] (wl_X6_copyFrom G A_t A_t_places A_t_lights A_q1 A_q1_places A_q1_lights z_t_count z_t_places z_t_lights c_q1_count c_q1_places c_q1_lights) := fun sz => met_intro (by decide) (Nat.le_of_ble_eq_true rfl) (fun p e s m args below meth c ls hsz hC hr hlk hnm hl hw => wn_X6_copyFrom hC (fun pc H locs ls hd hw => g_vret hC hr hlk hw hd) hf hl hw)

theorem dX5_copyFrom_0 : decode cX5_copyFrom 0 = .ok (.aload_n 0, 1) := by decide +kernel
theorem dX5_copyFrom_1 : decode cX5_copyFrom 1 = .ok (.getfield 10, 3) := by decide +kernel
theorem dX5_copyFrom_4 : decode cX5_copyFrom 4 = .ok (.aload_n 1, 1) := by decide +kernel
theorem dX5_copyFrom_5 : decode cX5_copyFrom 5 = .ok (.getfield 10, 3) := by decide +kernel
theorem dX5_copyFrom_8 : decode cX5_copyFrom 8 = .ok (.invokevirtual 30, 3) := by decide +kernel
theorem dX5_copyFrom_11 : decode cX5_copyFrom 11 = .ok (.aload_n 0, 1) := by decide +kernel
theorem dX5_copyFrom_12 : decode cX5_copyFrom 12 = .ok (.getfield 19, 3) := by decide +kernel
theorem dX5_copyFrom_15 : decode cX5_copyFrom 15 = .ok (.aload_n 1, 1) := by decide +kernel
theorem dX5_copyFrom_16 : decode cX5_copyFrom 16 = .ok (.getfield 19, 3) := by decide +kernel
theorem dX5_copyFrom_19 : decode cX5_copyFrom 19 = .ok (.invokevirtual 34, 3) := by decide +kernel
theorem dX5_copyFrom_22 : decode cX5_copyFrom 22 = .ok (.aload_n 0, 1) := by decide +kernel
theorem dX5_copyFrom_23 : decode cX5_copyFrom 23 = .ok (.getfield 26, 3) := by decide +kernel
theorem dX5_copyFrom_26 : decode cX5_copyFrom 26 = .ok (.aload_n 1, 1) := by decide +kernel
theorem dX5_copyFrom_27 : decode cX5_copyFrom 27 = .ok (.getfield 26, 3) := by decide +kernel
theorem dX5_copyFrom_30 : decode cX5_copyFrom 30 = .ok (.invokevirtual 37, 3) := by decide +kernel
theorem dX5_copyFrom_33 : decode cX5_copyFrom 33 = .ok (.return_, 1) := by decide +kernel
abbrev wl_X5_copyFrom (G : gw_) (A_t : Nat) (A_t_marsh : Nat) (A_t_crowd : Nat) (A_t_sights : Nat) (A_t_marsh_codes : Nat) (A_t_crowd_at : Nat) (A_t_crowd_home : Nat) (A_t_crowd_light : Nat) (A_t_crowd_carries : Nat) (A_t_crowd_bearer : Nat) (A_t_sights_places : Nat) (A_t_sights_lights : Nat) (A_q1 : Nat) (A_q1_marsh : Nat) (A_q1_crowd : Nat) (A_q1_sights : Nat) (A_q1_marsh_codes : Nat) (A_q1_crowd_at : Nat) (A_q1_crowd_home : Nat) (A_q1_crowd_light : Nat) (A_q1_crowd_carries : Nat) (A_q1_crowd_bearer : Nat) (A_q1_sights_places : Nat) (A_q1_sights_lights : Nat) (c_t_marsh_codes : Nat → Int32) (c_t_crowd_there : Int32) (c_t_crowd_foggy : Int32) (c_t_crowd_at : Nat → Int32) (c_t_crowd_home : Nat → Int32) (c_t_crowd_light : Nat → Int32) (c_t_crowd_carries : Nat → Int32) (c_t_crowd_bearer : Nat → Int32) (c_t_sights_count : Int32) (c_t_sights_places : Nat → Int32) (c_t_sights_lights : Nat → Int32) (c_q1_marsh_codes : Nat → Int32) (c_q1_crowd_there : Int32) (c_q1_crowd_foggy : Int32) (c_q1_crowd_at : Nat → Int32) (c_q1_crowd_home : Nat → Int32) (c_q1_crowd_light : Nat → Int32) (c_q1_crowd_carries : Nat → Int32) (c_q1_crowd_bearer : Nat → Int32) (c_q1_sights_count : Int32) (c_q1_sights_places : Nat → Int32) (c_q1_sights_lights : Nat → Int32) : va_W := [ob_ A_t 5 [.ref A_t_marsh, .ref A_t_crowd, .ref A_t_sights], ob_ A_t_marsh 2 [.ref A_t_marsh_codes], ia_ G A_t_marsh_codes 144 c_t_marsh_codes, ob_ A_t_crowd 0 [.int c_t_crowd_there, .int c_t_crowd_foggy, .ref A_t_crowd_at, .ref A_t_crowd_home, .ref A_t_crowd_light, .ref A_t_crowd_carries, .ref A_t_crowd_bearer], ia_ G A_t_crowd_at 6 c_t_crowd_at, ia_ G A_t_crowd_home 6 c_t_crowd_home, ia_ G A_t_crowd_light 6 c_t_crowd_light, ia_ G A_t_crowd_carries 6 c_t_crowd_carries, ia_ G A_t_crowd_bearer 6 c_t_crowd_bearer, ob_ A_t_sights 6 [.int c_t_sights_count, .ref A_t_sights_places, .ref A_t_sights_lights], ia_ G A_t_sights_places 8 c_t_sights_places, ia_ G A_t_sights_lights 8 c_t_sights_lights, ob_ A_q1 5 [.ref A_q1_marsh, .ref A_q1_crowd, .ref A_q1_sights], ob_ A_q1_marsh 2 [.ref A_q1_marsh_codes], ia_ G A_q1_marsh_codes 144 c_q1_marsh_codes, ob_ A_q1_crowd 0 [.int c_q1_crowd_there, .int c_q1_crowd_foggy, .ref A_q1_crowd_at, .ref A_q1_crowd_home, .ref A_q1_crowd_light, .ref A_q1_crowd_carries, .ref A_q1_crowd_bearer], ia_ G A_q1_crowd_at 6 c_q1_crowd_at, ia_ G A_q1_crowd_home 6 c_q1_crowd_home, ia_ G A_q1_crowd_light 6 c_q1_crowd_light, ia_ G A_q1_crowd_carries 6 c_q1_crowd_carries, ia_ G A_q1_crowd_bearer 6 c_q1_crowd_bearer, ob_ A_q1_sights 6 [.int c_q1_sights_count, .ref A_q1_sights_places, .ref A_q1_sights_lights], ia_ G A_q1_sights_places 8 c_q1_sights_places, ia_ G A_q1_sights_lights 8 c_q1_sights_lights]
def fn_X5_copyFrom (c_t_marsh_codes : Nat → Int32) (c_t_crowd_there : Int32) (c_t_crowd_foggy : Int32) (c_t_crowd_at : Nat → Int32) (c_t_crowd_home : Nat → Int32) (c_t_crowd_light : Nat → Int32) (c_t_crowd_carries : Nat → Int32) (c_t_crowd_bearer : Nat → Int32) (c_t_sights_count : Int32) (c_t_sights_places : Nat → Int32) (c_t_sights_lights : Nat → Int32) (c_q1_marsh_codes : Nat → Int32) (c_q1_crowd_there : Int32) (c_q1_crowd_foggy : Int32) (c_q1_crowd_at : Nat → Int32) (c_q1_crowd_home : Nat → Int32) (c_q1_crowd_light : Nat → Int32) (c_q1_crowd_carries : Nat → Int32) (c_q1_crowd_bearer : Nat → Int32) (c_q1_sights_count : Int32) (c_q1_sights_places : Nat → Int32) (c_q1_sights_lights : Nat → Int32) : Option ((Nat → Int32) × Int32 × Int32 × (Nat → Int32) × (Nat → Int32) × (Nat → Int32) × (Nat → Int32) × (Nat → Int32) × Int32 × (Nat → Int32) × (Nat → Int32)) :=
  b1_ (fn_X2_copyFrom c_t_marsh_codes c_q1_marsh_codes) fun w1 =>
  b7_ (fn_X0_copyFrom c_t_crowd_there c_t_crowd_foggy c_t_crowd_at c_t_crowd_home c_t_crowd_light c_t_crowd_carries c_t_crowd_bearer c_q1_crowd_there c_q1_crowd_foggy c_q1_crowd_at c_q1_crowd_home c_q1_crowd_light c_q1_crowd_carries c_q1_crowd_bearer) fun w3 w4 w5 w6 w7 w8 w9 =>
  b3_ (fn_X6_copyFrom c_t_sights_count c_t_sights_places c_t_sights_lights c_q1_sights_count c_q1_sights_places c_q1_sights_lights) fun w11 w12 w13 =>
  some (w1, w3, w4, w5, w6, w7, w8, w9, w11, w12, w13)
set_option maxHeartbeats 4000000 in
set_option maxRecDepth 100000 in
theorem wn_X5_copyFrom {p : Program} {l : Launch} {e : Env} {s : State} {m : MethodId} {args : Array Value} {below : List Frame} {meth : Method} {c : Code} {G : gw_} {A : Nat → Prop} {Q : State → Prop} {A_t : Nat} {A_t_marsh : Nat} {A_t_crowd : Nat} {A_t_sights : Nat} {A_t_marsh_codes : Nat} {A_t_crowd_at : Nat} {A_t_crowd_home : Nat} {A_t_crowd_light : Nat} {A_t_crowd_carries : Nat} {A_t_crowd_bearer : Nat} {A_t_sights_places : Nat} {A_t_sights_lights : Nat} {A_q1 : Nat} {A_q1_marsh : Nat} {A_q1_crowd : Nat} {A_q1_sights : Nat} {A_q1_marsh_codes : Nat} {A_q1_crowd_at : Nat} {A_q1_crowd_home : Nat} {A_q1_crowd_light : Nat} {A_q1_crowd_carries : Nat} {A_q1_crowd_bearer : Nat} {A_q1_sights_places : Nat} {A_q1_sights_lights : Nat} {c_t_marsh_codes : Nat → Int32} {z_t_marsh_codes : Nat → Int32} {c_t_crowd_there : Int32} {z_t_crowd_there : Int32} {c_t_crowd_foggy : Int32} {z_t_crowd_foggy : Int32} {c_t_crowd_at : Nat → Int32} {z_t_crowd_at : Nat → Int32} {c_t_crowd_home : Nat → Int32} {z_t_crowd_home : Nat → Int32} {c_t_crowd_light : Nat → Int32} {z_t_crowd_light : Nat → Int32} {c_t_crowd_carries : Nat → Int32} {z_t_crowd_carries : Nat → Int32} {c_t_crowd_bearer : Nat → Int32} {z_t_crowd_bearer : Nat → Int32} {c_t_sights_count : Int32} {z_t_sights_count : Int32} {c_t_sights_places : Nat → Int32} {z_t_sights_places : Nat → Int32} {c_t_sights_lights : Nat → Int32} {z_t_sights_lights : Nat → Int32} {c_q1_marsh_codes : Nat → Int32} {c_q1_crowd_there : Int32} {c_q1_crowd_foggy : Int32} {c_q1_crowd_at : Nat → Int32} {c_q1_crowd_home : Nat → Int32} {c_q1_crowd_light : Nat → Int32} {c_q1_crowd_carries : Nat → Int32} {c_q1_crowd_bearer : Nat → Int32} {c_q1_sights_count : Int32} {c_q1_sights_places : Nat → Int32} {c_q1_sights_lights : Nat → Int32} (hC : cx_ p s m c G cX5_copyFrom 2 RX5) (hret : ∀ (pc : Nat) (H : Heap) (locs : List Loc) (ls : Array Slot), decode cX5_copyFrom pc = .ok (.return_, 1) → wd_ G A s.heap (wl_X5_copyFrom G A_t A_t_marsh A_t_crowd A_t_sights A_t_marsh_codes A_t_crowd_at A_t_crowd_home A_t_crowd_light A_t_crowd_carries A_t_crowd_bearer A_t_sights_places A_t_sights_lights A_q1 A_q1_marsh A_q1_crowd A_q1_sights A_q1_marsh_codes A_q1_crowd_at A_q1_crowd_home A_q1_crowd_light A_q1_crowd_carries A_q1_crowd_bearer A_q1_sights_places A_q1_sights_lights z_t_marsh_codes z_t_crowd_there z_t_crowd_foggy z_t_crowd_at z_t_crowd_home z_t_crowd_light z_t_crowd_carries z_t_crowd_bearer z_t_sights_count z_t_sights_places z_t_sights_lights c_q1_marsh_codes c_q1_crowd_there c_q1_crowd_foggy c_q1_crowd_at c_q1_crowd_home c_q1_crowd_light c_q1_crowd_carries c_q1_crowd_bearer c_q1_sights_count c_q1_sights_places c_q1_sights_lights) H locs → W p l e { frames := 2, cells := 0, slots := 0, locals := 61 } s m args below meth c H locs 0 0 Q (F0 m pc ls [])) (hf : fn_X5_copyFrom c_t_marsh_codes c_t_crowd_there c_t_crowd_foggy c_t_crowd_at c_t_crowd_home c_t_crowd_light c_t_crowd_carries c_t_crowd_bearer c_t_sights_count c_t_sights_places c_t_sights_lights c_q1_marsh_codes c_q1_crowd_there c_q1_crowd_foggy c_q1_crowd_at c_q1_crowd_home c_q1_crowd_light c_q1_crowd_carries c_q1_crowd_bearer c_q1_sights_count c_q1_sights_places c_q1_sights_lights = some (z_t_marsh_codes, z_t_crowd_there, z_t_crowd_foggy, z_t_crowd_at, z_t_crowd_home, z_t_crowd_light, z_t_crowd_carries, z_t_crowd_bearer, z_t_sights_count, z_t_sights_places, z_t_sights_lights)) {H : Heap} {locs : List Loc} {ls : Array Slot} (hl : lv_has ls 2 [(0, .ref A_t), (1, .ref A_q1)]) (hw : wd_ G A s.heap (wl_X5_copyFrom G A_t A_t_marsh A_t_crowd A_t_sights A_t_marsh_codes A_t_crowd_at A_t_crowd_home A_t_crowd_light A_t_crowd_carries A_t_crowd_bearer A_t_sights_places A_t_sights_lights A_q1 A_q1_marsh A_q1_crowd A_q1_sights A_q1_marsh_codes A_q1_crowd_at A_q1_crowd_home A_q1_crowd_light A_q1_crowd_carries A_q1_crowd_bearer A_q1_sights_places A_q1_sights_lights c_t_marsh_codes c_t_crowd_there c_t_crowd_foggy c_t_crowd_at c_t_crowd_home c_t_crowd_light c_t_crowd_carries c_t_crowd_bearer c_t_sights_count c_t_sights_places c_t_sights_lights c_q1_marsh_codes c_q1_crowd_there c_q1_crowd_foggy c_q1_crowd_at c_q1_crowd_home c_q1_crowd_light c_q1_crowd_carries c_q1_crowd_bearer c_q1_sights_count c_q1_sights_places c_q1_sights_lights) H locs) : W p l e { frames := 2, cells := 0, slots := 0, locals := 61 } s m args below meth c H locs 0 0 Q (F0 m 0 ls []) := by
  have hx := hC.1
  have hb := hC.2.1
  unfold fn_X5_copyFrom at hf
  refine lv_aload_n hx hb dX5_copyFrom_0 rfl (lv_at hl 0 rfl) ?_
  refine g_get hC hw fkX5_10 0 rfl rfl dX5_copyFrom_1 ?_
  refine lv_aload_n hx hb dX5_copyFrom_4 rfl (lv_at hl 1 rfl) ?_
  refine g_get hC hw fkX5_10 12 rfl rfl dX5_copyFrom_5 ?_
  obtain ⟨w1, hq2, hf⟩ := b1_s hf
  refine g_cVv hC hw mvX5_30 (cn_X2_copyFrom l G A_t_marsh A_t_marsh_codes A_q1_marsh A_q1_marsh_codes c_t_marsh_codes c_q1_marsh_codes w1 hq2) [1, 2, 13, 14] rfl (by decide) rfl 1 rfl rfl rfl hl.1 rfl (Nat.le_of_ble_eq_true rfl) ⟨Nat.le_of_ble_eq_true rfl, Nat.le_of_ble_eq_true rfl⟩ ⟨Nat.le_refl _, Nat.le_refl _⟩ dX5_copyFrom_8 (fun H locs hw => ?_)
  have hw : wd_ G A s.heap (wl_X5_copyFrom G A_t A_t_marsh A_t_crowd A_t_sights A_t_marsh_codes A_t_crowd_at A_t_crowd_home A_t_crowd_light A_t_crowd_carries A_t_crowd_bearer A_t_sights_places A_t_sights_lights A_q1 A_q1_marsh A_q1_crowd A_q1_sights A_q1_marsh_codes A_q1_crowd_at A_q1_crowd_home A_q1_crowd_light A_q1_crowd_carries A_q1_crowd_bearer A_q1_sights_places A_q1_sights_lights w1 c_t_crowd_there c_t_crowd_foggy c_t_crowd_at c_t_crowd_home c_t_crowd_light c_t_crowd_carries c_t_crowd_bearer c_t_sights_count c_t_sights_places c_t_sights_lights c_q1_marsh_codes c_q1_crowd_there c_q1_crowd_foggy c_q1_crowd_at c_q1_crowd_home c_q1_crowd_light c_q1_crowd_carries c_q1_crowd_bearer c_q1_sights_count c_q1_sights_places c_q1_sights_lights) H locs := hw
  refine lv_aload_n hx hb dX5_copyFrom_11 rfl (lv_at hl 0 rfl) ?_
  refine g_get hC hw fkX5_19 0 rfl rfl dX5_copyFrom_12 ?_
  refine lv_aload_n hx hb dX5_copyFrom_15 rfl (lv_at hl 1 rfl) ?_
  refine g_get hC hw fkX5_19 12 rfl rfl dX5_copyFrom_16 ?_
  obtain ⟨w3, w4, w5, w6, w7, w8, w9, hq10, hf⟩ := b7_s hf
  refine g_cVv hC hw mvX5_34 (cn_X0_copyFrom l G A_t_crowd A_t_crowd_at A_t_crowd_home A_t_crowd_light A_t_crowd_carries A_t_crowd_bearer A_q1_crowd A_q1_crowd_at A_q1_crowd_home A_q1_crowd_light A_q1_crowd_carries A_q1_crowd_bearer c_t_crowd_there c_t_crowd_foggy c_t_crowd_at c_t_crowd_home c_t_crowd_light c_t_crowd_carries c_t_crowd_bearer c_q1_crowd_there c_q1_crowd_foggy c_q1_crowd_at c_q1_crowd_home c_q1_crowd_light c_q1_crowd_carries c_q1_crowd_bearer w3 w4 w5 w6 w7 w8 w9 hq10) [3, 4, 5, 6, 7, 8, 15, 16, 17, 18, 19, 20] rfl (by decide) rfl 3 rfl rfl rfl hl.1 rfl (Nat.le_of_ble_eq_true rfl) ⟨Nat.le_of_ble_eq_true rfl, Nat.le_of_ble_eq_true rfl⟩ ⟨Nat.le_refl _, Nat.le_refl _⟩ dX5_copyFrom_19 (fun H locs hw => ?_)
  have hw : wd_ G A s.heap (wl_X5_copyFrom G A_t A_t_marsh A_t_crowd A_t_sights A_t_marsh_codes A_t_crowd_at A_t_crowd_home A_t_crowd_light A_t_crowd_carries A_t_crowd_bearer A_t_sights_places A_t_sights_lights A_q1 A_q1_marsh A_q1_crowd A_q1_sights A_q1_marsh_codes A_q1_crowd_at A_q1_crowd_home A_q1_crowd_light A_q1_crowd_carries A_q1_crowd_bearer A_q1_sights_places A_q1_sights_lights w1 w3 w4 w5 w6 w7 w8 w9 c_t_sights_count c_t_sights_places c_t_sights_lights c_q1_marsh_codes c_q1_crowd_there c_q1_crowd_foggy c_q1_crowd_at c_q1_crowd_home c_q1_crowd_light c_q1_crowd_carries c_q1_crowd_bearer c_q1_sights_count c_q1_sights_places c_q1_sights_lights) H locs := hw
  refine lv_aload_n hx hb dX5_copyFrom_22 rfl (lv_at hl 0 rfl) ?_
  refine g_get hC hw fkX5_26 0 rfl rfl dX5_copyFrom_23 ?_
  refine lv_aload_n hx hb dX5_copyFrom_26 rfl (lv_at hl 1 rfl) ?_
  refine g_get hC hw fkX5_26 12 rfl rfl dX5_copyFrom_27 ?_
  obtain ⟨w11, w12, w13, hq14, hf⟩ := b3_s hf
  refine g_cVv hC hw mvX5_37 (cn_X6_copyFrom l G A_t_sights A_t_sights_places A_t_sights_lights A_q1_sights A_q1_sights_places A_q1_sights_lights c_t_sights_count c_t_sights_places c_t_sights_lights c_q1_sights_count c_q1_sights_places c_q1_sights_lights w11 w12 w13 hq14) [9, 10, 11, 21, 22, 23] rfl (by decide) rfl 9 rfl rfl rfl hl.1 rfl (Nat.le_of_ble_eq_true rfl) ⟨Nat.le_of_ble_eq_true rfl, Nat.le_of_ble_eq_true rfl⟩ ⟨Nat.le_refl _, Nat.le_refl _⟩ dX5_copyFrom_30 (fun H locs hw => ?_)
  have hw : wd_ G A s.heap (wl_X5_copyFrom G A_t A_t_marsh A_t_crowd A_t_sights A_t_marsh_codes A_t_crowd_at A_t_crowd_home A_t_crowd_light A_t_crowd_carries A_t_crowd_bearer A_t_sights_places A_t_sights_lights A_q1 A_q1_marsh A_q1_crowd A_q1_sights A_q1_marsh_codes A_q1_crowd_at A_q1_crowd_home A_q1_crowd_light A_q1_crowd_carries A_q1_crowd_bearer A_q1_sights_places A_q1_sights_lights w1 w3 w4 w5 w6 w7 w8 w9 w11 w12 w13 c_q1_marsh_codes c_q1_crowd_there c_q1_crowd_foggy c_q1_crowd_at c_q1_crowd_home c_q1_crowd_light c_q1_crowd_carries c_q1_crowd_bearer c_q1_sights_count c_q1_sights_places c_q1_sights_lights) H locs := hw
  obtain ⟨h1_, h2_, h3_, h4_, h5_, h6_, h7_, h8_, h9_, h10_, h11_⟩ := t11_ hf
  subst h1_
  subst h2_
  subst h3_
  subst h4_
  subst h5_
  subst h6_
  subst h7_
  subst h8_
  subst h9_
  subst h10_
  subst h11_
  exact hret _ _ _ _ dX5_copyFrom_33 hw
set_option maxHeartbeats 4000000 in
set_option maxRecDepth 100000 in
theorem cn_X5_copyFrom (l : Launch) (G : gw_) (A_t : Nat) (A_t_marsh : Nat) (A_t_crowd : Nat) (A_t_sights : Nat) (A_t_marsh_codes : Nat) (A_t_crowd_at : Nat) (A_t_crowd_home : Nat) (A_t_crowd_light : Nat) (A_t_crowd_carries : Nat) (A_t_crowd_bearer : Nat) (A_t_sights_places : Nat) (A_t_sights_lights : Nat) (A_q1 : Nat) (A_q1_marsh : Nat) (A_q1_crowd : Nat) (A_q1_sights : Nat) (A_q1_marsh_codes : Nat) (A_q1_crowd_at : Nat) (A_q1_crowd_home : Nat) (A_q1_crowd_light : Nat) (A_q1_crowd_carries : Nat) (A_q1_crowd_bearer : Nat) (A_q1_sights_places : Nat) (A_q1_sights_lights : Nat) (c_t_marsh_codes : Nat → Int32) (c_t_crowd_there : Int32) (c_t_crowd_foggy : Int32) (c_t_crowd_at : Nat → Int32) (c_t_crowd_home : Nat → Int32) (c_t_crowd_light : Nat → Int32) (c_t_crowd_carries : Nat → Int32) (c_t_crowd_bearer : Nat → Int32) (c_t_sights_count : Int32) (c_t_sights_places : Nat → Int32) (c_t_sights_lights : Nat → Int32) (c_q1_marsh_codes : Nat → Int32) (c_q1_crowd_there : Int32) (c_q1_crowd_foggy : Int32) (c_q1_crowd_at : Nat → Int32) (c_q1_crowd_home : Nat → Int32) (c_q1_crowd_light : Nat → Int32) (c_q1_crowd_carries : Nat → Int32) (c_q1_crowd_bearer : Nat → Int32) (c_q1_sights_count : Int32) (c_q1_sights_places : Nat → Int32) (c_q1_sights_lights : Nat → Int32) (z_t_marsh_codes : Nat → Int32) (z_t_crowd_there : Int32) (z_t_crowd_foggy : Int32) (z_t_crowd_at : Nat → Int32) (z_t_crowd_home : Nat → Int32) (z_t_crowd_light : Nat → Int32) (z_t_crowd_carries : Nat → Int32) (z_t_crowd_bearer : Nat → Int32) (z_t_sights_count : Int32) (z_t_sights_places : Nat → Int32) (z_t_sights_lights : Nat → Int32) (hf : fn_X5_copyFrom c_t_marsh_codes c_t_crowd_there c_t_crowd_foggy c_t_crowd_at c_t_crowd_home c_t_crowd_light c_t_crowd_carries c_t_crowd_bearer c_t_sights_count c_t_sights_places c_t_sights_lights c_q1_marsh_codes c_q1_crowd_there c_q1_crowd_foggy c_q1_crowd_at c_q1_crowd_home c_q1_crowd_light c_q1_crowd_carries c_q1_crowd_bearer c_q1_sights_count c_q1_sights_places c_q1_sights_lights = some (z_t_marsh_codes, z_t_crowd_there, z_t_crowd_foggy, z_t_crowd_at, z_t_crowd_home, z_t_crowd_light, z_t_crowd_carries, z_t_crowd_bearer, z_t_sights_count, z_t_sights_places, z_t_sights_lights)) : cv_ l G yX5_copyFrom cX5_copyFrom 2 none 2 61 (wl_X5_copyFrom G A_t A_t_marsh A_t_crowd A_t_sights A_t_marsh_codes A_t_crowd_at A_t_crowd_home A_t_crowd_light A_t_crowd_carries A_t_crowd_bearer A_t_sights_places A_t_sights_lights A_q1 A_q1_marsh A_q1_crowd A_q1_sights A_q1_marsh_codes A_q1_crowd_at A_q1_crowd_home A_q1_crowd_light A_q1_crowd_carries A_q1_crowd_bearer A_q1_sights_places A_q1_sights_lights c_t_marsh_codes c_t_crowd_there c_t_crowd_foggy c_t_crowd_at c_t_crowd_home c_t_crowd_light c_t_crowd_carries c_t_crowd_bearer c_t_sights_count c_t_sights_places c_t_sights_lights c_q1_marsh_codes c_q1_crowd_there c_q1_crowd_foggy c_q1_crowd_at c_q1_crowd_home c_q1_crowd_light c_q1_crowd_carries c_q1_crowd_bearer c_q1_sights_count c_q1_sights_places c_q1_sights_lights) [.ref A_t, .ref A_q1] (wl_X5_copyFrom G A_t A_t_marsh A_t_crowd A_t_sights A_t_marsh_codes A_t_crowd_at A_t_crowd_home A_t_crowd_light A_t_crowd_carries A_t_crowd_bearer A_t_sights_places A_t_sights_lights A_q1 A_q1_marsh A_q1_crowd A_q1_sights A_q1_marsh_codes A_q1_crowd_at A_q1_crowd_home A_q1_crowd_light A_q1_crowd_carries A_q1_crowd_bearer A_q1_sights_places A_q1_sights_lights z_t_marsh_codes z_t_crowd_there z_t_crowd_foggy z_t_crowd_at z_t_crowd_home z_t_crowd_light z_t_crowd_carries z_t_crowd_bearer z_t_sights_count z_t_sights_places z_t_sights_lights c_q1_marsh_codes c_q1_crowd_there c_q1_crowd_foggy c_q1_crowd_at c_q1_crowd_home c_q1_crowd_light c_q1_crowd_carries c_q1_crowd_bearer c_q1_sights_count c_q1_sights_places c_q1_sights_lights) := fun sz => met_intro (by decide) (Nat.le_of_ble_eq_true rfl) (fun p e s m args below meth c ls hsz hC hr hlk hnm hl hw => wn_X5_copyFrom hC (fun pc H locs ls hd hw => g_vret hC hr hlk hw hd) hf hl hw)

theorem dX6_add_0 : decode cX6_add 0 = .ok (.aload_n 0, 1) := by decide +kernel
theorem dX6_add_1 : decode cX6_add 1 = .ok (.getfield 9, 3) := by decide +kernel
theorem dX6_add_4 : decode cX6_add 4 = .ok (.bipush 8, 2) := by decide +kernel
theorem dX6_add_6 : decode cX6_add 6 = .ok (.if_icmp .ge 33, 3) := by decide +kernel
theorem dX6_add_9 : decode cX6_add 9 = .ok (.aload_n 0, 1) := by decide +kernel
theorem dX6_add_10 : decode cX6_add 10 = .ok (.getfield 15, 3) := by decide +kernel
theorem dX6_add_13 : decode cX6_add 13 = .ok (.aload_n 0, 1) := by decide +kernel
theorem dX6_add_14 : decode cX6_add 14 = .ok (.getfield 9, 3) := by decide +kernel
theorem dX6_add_17 : decode cX6_add 17 = .ok (.iload_n 1, 1) := by decide +kernel
theorem dX6_add_18 : decode cX6_add 18 = .ok (.iastore, 1) := by decide +kernel
theorem dX6_add_19 : decode cX6_add 19 = .ok (.aload_n 0, 1) := by decide +kernel
theorem dX6_add_20 : decode cX6_add 20 = .ok (.getfield 19, 3) := by decide +kernel
theorem dX6_add_23 : decode cX6_add 23 = .ok (.aload_n 0, 1) := by decide +kernel
theorem dX6_add_24 : decode cX6_add 24 = .ok (.getfield 9, 3) := by decide +kernel
theorem dX6_add_27 : decode cX6_add 27 = .ok (.iload_n 2, 1) := by decide +kernel
theorem dX6_add_28 : decode cX6_add 28 = .ok (.iastore, 1) := by decide +kernel
theorem dX6_add_29 : decode cX6_add 29 = .ok (.aload_n 0, 1) := by decide +kernel
theorem dX6_add_30 : decode cX6_add 30 = .ok (.dup, 1) := by decide +kernel
theorem dX6_add_31 : decode cX6_add 31 = .ok (.getfield 9, 3) := by decide +kernel
theorem dX6_add_34 : decode cX6_add 34 = .ok (.iconst 1, 1) := by decide +kernel
theorem dX6_add_35 : decode cX6_add 35 = .ok (.iadd, 1) := by decide +kernel
theorem dX6_add_36 : decode cX6_add 36 = .ok (.putfield 9, 3) := by decide +kernel
theorem dX6_add_39 : decode cX6_add 39 = .ok (.return_, 1) := by decide +kernel
abbrev wl_X6_add (G : gw_) (A_t : Nat) (A_t_places : Nat) (A_t_lights : Nat) (c_t_count : Int32) (c_t_places : Nat → Int32) (c_t_lights : Nat → Int32) : va_W := [ob_ A_t 6 [.int c_t_count, .ref A_t_places, .ref A_t_lights], ia_ G A_t_places 8 c_t_places, ia_ G A_t_lights 8 c_t_lights]
def fn_X6_add (c_t_count : Int32) (c_t_places : Nat → Int32) (c_t_lights : Nat → Int32) (x1 : Int32) (x2 : Int32) : Option (Int32 × (Nat → Int32) × (Nat → Int32)) :=
  if 8 ≤ c_t_count then
    some (c_t_count, c_t_places, c_t_lights)
  else
    ck_ c_t_count 8 <|
    lx_ (upd c_t_places (Int32.toNatClampNeg c_t_count) x1) fun f1 =>
    ck_ c_t_count 8 <|
    lx_ (upd c_t_lights (Int32.toNatClampNeg c_t_count) x2) fun f2 =>
    some (c_t_count + 1, f1, f2)
set_option maxHeartbeats 4000000 in
set_option maxRecDepth 100000 in
theorem wn_X6_add {p : Program} {l : Launch} {e : Env} {s : State} {m : MethodId} {args : Array Value} {below : List Frame} {meth : Method} {c : Code} {G : gw_} {A : Nat → Prop} {Q : State → Prop} {A_t : Nat} {A_t_places : Nat} {A_t_lights : Nat} {c_t_count : Int32} {z_t_count : Int32} {c_t_places : Nat → Int32} {z_t_places : Nat → Int32} {c_t_lights : Nat → Int32} {z_t_lights : Nat → Int32} {x1 : Int32} {x2 : Int32} (hC : cx_ p s m c G cX6_add 3 RX6) (hret : ∀ (pc : Nat) (H : Heap) (locs : List Loc) (ls : Array Slot), decode cX6_add pc = .ok (.return_, 1) → wd_ G A s.heap (wl_X6_add G A_t A_t_places A_t_lights z_t_count z_t_places z_t_lights) H locs → W p l e { frames := 0, cells := 0, slots := 0, locals := 0 } s m args below meth c H locs 0 0 Q (F0 m pc ls [])) (hf : fn_X6_add c_t_count c_t_places c_t_lights x1 x2 = some (z_t_count, z_t_places, z_t_lights)) {H : Heap} {locs : List Loc} {ls : Array Slot} (hl : lv_has ls 3 [(0, .ref A_t), (1, .int x1), (2, .int x2)]) (hw : wd_ G A s.heap (wl_X6_add G A_t A_t_places A_t_lights c_t_count c_t_places c_t_lights) H locs) : W p l e { frames := 0, cells := 0, slots := 0, locals := 0 } s m args below meth c H locs 0 0 Q (F0 m 0 ls []) := by
  have hx := hC.1
  have hb := hC.2.1
  unfold fn_X6_add at hf
  refine lv_aload_n hx hb dX6_add_0 rfl (lv_at hl 0 rfl) ?_
  refine g_get hC hw fkX6_9 0 rfl rfl dX6_add_1 ?_
  refine lv_bipush (v := 8) hx hb dX6_add_4 (by decide) ?_
  refine lv_icmp_ge (tgt := 39) hx hb dX6_add_6 (by decide) (fun hc => ?_) (fun hc => ?_)
  · replace hf := it_t hc hf
    obtain ⟨h1_, h2_, h3_⟩ := t3_ hf
    subst h1_
    subst h2_
    subst h3_
    exact hret _ _ _ _ dX6_add_39 hw
  · replace hf := it_f hc hf
    refine lv_aload_n hx hb dX6_add_9 rfl (lv_at hl 0 rfl) ?_
    refine g_get hC hw fkX6_15 0 rfl rfl dX6_add_10 ?_
    refine lv_aload_n hx hb dX6_add_13 rfl (lv_at hl 0 rfl) ?_
    refine g_get hC hw fkX6_9 0 rfl rfl dX6_add_14 ?_
    refine lv_iload_n hx hb dX6_add_17 rfl (lv_at hl 1 rfl) ?_
    obtain ⟨hi, hf⟩ := ck_s hf
    obtain ⟨f1, ef1, hf⟩ := lx_s hf
    refine g_iast hC hw 1 rfl hi ef1 dX6_add_18 (fun H locs hw => ?_)
    have hw : wd_ G A s.heap (wl_X6_add G A_t A_t_places A_t_lights c_t_count f1 c_t_lights) H locs := hw
    refine lv_aload_n hx hb dX6_add_19 rfl (lv_at hl 0 rfl) ?_
    refine g_get hC hw fkX6_19 0 rfl rfl dX6_add_20 ?_
    refine lv_aload_n hx hb dX6_add_23 rfl (lv_at hl 0 rfl) ?_
    refine g_get hC hw fkX6_9 0 rfl rfl dX6_add_24 ?_
    refine lv_iload_n hx hb dX6_add_27 rfl (lv_at hl 2 rfl) ?_
    obtain ⟨hi, hf⟩ := ck_s hf
    obtain ⟨f2, ef2, hf⟩ := lx_s hf
    refine g_iast hC hw 2 rfl hi ef2 dX6_add_28 (fun H locs hw => ?_)
    have hw : wd_ G A s.heap (wl_X6_add G A_t A_t_places A_t_lights c_t_count f1 f2) H locs := hw
    refine lv_aload_n hx hb dX6_add_29 rfl (lv_at hl 0 rfl) ?_
    refine lv_dup hx hb dX6_add_30 rfl ?_
    refine g_get hC hw fkX6_9 0 rfl rfl dX6_add_31 ?_
    refine lv_iconst (v := 1) hx hb dX6_add_34 (by decide) ?_
    refine lv_iadd hx hb dX6_add_35 ?_
    refine g_put hC hw fpX6_9 0 rfl rfl rfl (Nat.le_of_ble_eq_true rfl) dX6_add_36 (fun H locs hw => ?_)
    have hw : wd_ G A s.heap (wl_X6_add G A_t A_t_places A_t_lights (c_t_count + 1) f1 f2) H locs := hw
    obtain ⟨h1_, h2_, h3_⟩ := t3_ hf
    subst h1_
    subst h2_
    subst h3_
    exact hret _ _ _ _ dX6_add_39 hw
set_option maxHeartbeats 4000000 in
set_option maxRecDepth 100000 in
theorem cn_X6_add (l : Launch) (G : gw_) (A_t : Nat) (A_t_places : Nat) (A_t_lights : Nat) (c_t_count : Int32) (c_t_places : Nat → Int32) (c_t_lights : Nat → Int32) (x1 : Int32) (x2 : Int32) (z_t_count : Int32) (z_t_places : Nat → Int32) (z_t_lights : Nat → Int32) (hf : fn_X6_add c_t_count c_t_places c_t_lights x1 x2 = some (z_t_count, z_t_places, z_t_lights)) : cv_ l G yX6_add cX6_add 3 none 0 0 (wl_X6_add G A_t A_t_places A_t_lights c_t_count c_t_places c_t_lights) [.ref A_t, .int x1, .int x2] (wl_X6_add G A_t A_t_places A_t_lights z_t_count z_t_places z_t_lights) := fun sz => met_intro (by decide) (Nat.le_of_ble_eq_true rfl) (fun p e s m args below meth c ls hsz hC hr hlk hnm hl hw => wn_X6_add hC (fun pc H locs ls hd hw => g_vret hC hr hlk hw hd) hf hl hw)

theorem dX6_clear_0 : decode cX6_clear 0 = .ok (.aload_n 0, 1) := by decide +kernel
theorem dX6_clear_1 : decode cX6_clear 1 = .ok (.iconst 0, 1) := by decide +kernel
theorem dX6_clear_2 : decode cX6_clear 2 = .ok (.putfield 9, 3) := by decide +kernel
theorem dX6_clear_5 : decode cX6_clear 5 = .ok (.return_, 1) := by decide +kernel
abbrev wl_X6_clear (G : gw_) (A_t : Nat) (A_t_places : Nat) (A_t_lights : Nat) (c_t_count : Int32) : va_W := [ob_ A_t 6 [.int c_t_count, .ref A_t_places, .ref A_t_lights]]
def fn_X6_clear (c_t_count : Int32) : Option (Int32) :=
  some 0
set_option maxHeartbeats 4000000 in
set_option maxRecDepth 100000 in
theorem wn_X6_clear {p : Program} {l : Launch} {e : Env} {s : State} {m : MethodId} {args : Array Value} {below : List Frame} {meth : Method} {c : Code} {G : gw_} {A : Nat → Prop} {Q : State → Prop} {A_t : Nat} {A_t_places : Nat} {A_t_lights : Nat} {c_t_count : Int32} {z_t_count : Int32} (hC : cx_ p s m c G cX6_clear 1 RX6) (hret : ∀ (pc : Nat) (H : Heap) (locs : List Loc) (ls : Array Slot), decode cX6_clear pc = .ok (.return_, 1) → wd_ G A s.heap (wl_X6_clear G A_t A_t_places A_t_lights z_t_count) H locs → W p l e { frames := 0, cells := 0, slots := 0, locals := 0 } s m args below meth c H locs 0 0 Q (F0 m pc ls [])) (hf : fn_X6_clear c_t_count = some z_t_count) {H : Heap} {locs : List Loc} {ls : Array Slot} (hl : lv_has ls 1 [(0, .ref A_t)]) (hw : wd_ G A s.heap (wl_X6_clear G A_t A_t_places A_t_lights c_t_count) H locs) : W p l e { frames := 0, cells := 0, slots := 0, locals := 0 } s m args below meth c H locs 0 0 Q (F0 m 0 ls []) := by
  have hx := hC.1
  have hb := hC.2.1
  unfold fn_X6_clear at hf
  refine lv_aload_n hx hb dX6_clear_0 rfl (lv_at hl 0 rfl) ?_
  refine lv_iconst (v := 0) hx hb dX6_clear_1 (by decide) ?_
  refine g_put hC hw fpX6_9 0 rfl rfl rfl (Nat.le_of_ble_eq_true rfl) dX6_clear_2 (fun H locs hw => ?_)
  have hw : wd_ G A s.heap (wl_X6_clear G A_t A_t_places A_t_lights 0) H locs := hw
  have h1_ := t1_ hf
  subst h1_
  exact hret _ _ _ _ dX6_clear_5 hw
set_option maxHeartbeats 4000000 in
set_option maxRecDepth 100000 in
theorem cn_X6_clear (l : Launch) (G : gw_) (A_t : Nat) (A_t_places : Nat) (A_t_lights : Nat) (c_t_count : Int32) (z_t_count : Int32) (hf : fn_X6_clear c_t_count = some z_t_count) : cv_ l G yX6_clear cX6_clear 1 none 0 0 (wl_X6_clear G A_t A_t_places A_t_lights c_t_count) [.ref A_t] (wl_X6_clear G A_t A_t_places A_t_lights z_t_count) := fun sz => met_intro (by decide) (Nat.le_of_ble_eq_true rfl) (fun p e s m args below meth c ls hsz hC hr hlk hnm hl hw => wn_X6_clear hC (fun pc H locs ls hd hw => g_vret hC hr hlk hw hd) hf hl hw)

theorem dX6_fits_0 : decode cX6_fits 0 = .ok (.iconst 0, 1) := by decide +kernel
theorem dX6_fits_1 : decode cX6_fits 1 = .ok (.istore 4, 2) := by decide +kernel
theorem dX6_fits_3 : decode cX6_fits 3 = .ok (.iload 4, 2) := by decide +kernel
theorem dX6_fits_5 : decode cX6_fits 5 = .ok (.aload_n 0, 1) := by decide +kernel
theorem dX6_fits_6 : decode cX6_fits 6 = .ok (.getfield 9, 3) := by decide +kernel
theorem dX6_fits_9 : decode cX6_fits 9 = .ok (.if_icmp .ge 34, 3) := by decide +kernel
theorem dX6_fits_12 : decode cX6_fits 12 = .ok (.aload_n 1, 1) := by decide +kernel
theorem dX6_fits_13 : decode cX6_fits 13 = .ok (.aload_n 2, 1) := by decide +kernel
theorem dX6_fits_14 : decode cX6_fits 14 = .ok (.iload_n 3, 1) := by decide +kernel
theorem dX6_fits_15 : decode cX6_fits 15 = .ok (.aload_n 0, 1) := by decide +kernel
theorem dX6_fits_16 : decode cX6_fits 16 = .ok (.getfield 15, 3) := by decide +kernel
theorem dX6_fits_19 : decode cX6_fits 19 = .ok (.iload 4, 2) := by decide +kernel
theorem dX6_fits_21 : decode cX6_fits 21 = .ok (.iaload, 1) := by decide +kernel
theorem dX6_fits_22 : decode cX6_fits 22 = .ok (.invokevirtual 38, 3) := by decide +kernel
theorem dX6_fits_25 : decode cX6_fits 25 = .ok (.aload_n 0, 1) := by decide +kernel
theorem dX6_fits_26 : decode cX6_fits 26 = .ok (.getfield 19, 3) := by decide +kernel
theorem dX6_fits_29 : decode cX6_fits 29 = .ok (.iload 4, 2) := by decide +kernel
theorem dX6_fits_31 : decode cX6_fits 31 = .ok (.iaload, 1) := by decide +kernel
theorem dX6_fits_32 : decode cX6_fits 32 = .ok (.if_icmp .eq 5, 3) := by decide +kernel
theorem dX6_fits_35 : decode cX6_fits 35 = .ok (.iconst 0, 1) := by decide +kernel
theorem dX6_fits_36 : decode cX6_fits 36 = .ok (.ireturn, 1) := by decide +kernel
theorem dX6_fits_37 : decode cX6_fits 37 = .ok (.iinc 4 1, 3) := by decide +kernel
theorem dX6_fits_40 : decode cX6_fits 40 = .ok (.goto (-37), 3) := by decide +kernel
theorem dX6_fits_43 : decode cX6_fits 43 = .ok (.iconst 1, 1) := by decide +kernel
theorem dX6_fits_44 : decode cX6_fits 44 = .ok (.ireturn, 1) := by decide +kernel
abbrev wl_X6_fits (G : gw_) (A_t : Nat) (A_t_places : Nat) (A_t_lights : Nat) (A_q1 : Nat) (A_q1_at : Nat) (A_q1_home : Nat) (A_q1_light : Nat) (A_q1_carries : Nat) (A_q1_bearer : Nat) (A_q2 : Nat) (A_q2_planks : Nat) (A_q2_least : Nat) (A_q2_neighbours : Nat) (c_t_count : Int32) (c_t_places : Nat → Int32) (c_t_lights : Nat → Int32) (c_q1_there : Int32) (c_q1_foggy : Int32) (c_q1_at : Nat → Int32) (c_q1_light : Nat → Int32) (c_q2_least : Nat → Int32) : va_W := [ob_ A_t 6 [.int c_t_count, .ref A_t_places, .ref A_t_lights], ia_ G A_t_places 8 c_t_places, ia_ G A_t_lights 8 c_t_lights, ob_ A_q1 0 [.int c_q1_there, .int c_q1_foggy, .ref A_q1_at, .ref A_q1_home, .ref A_q1_light, .ref A_q1_carries, .ref A_q1_bearer], ia_ G A_q1_at 6 c_q1_at, ia_ G A_q1_light 6 c_q1_light, ob_ A_q2 8 [.ref A_q2_planks, .ref A_q2_least, .ref A_q2_neighbours], ia_ G A_q2_least 144 c_q2_least]
def fn_X6_fits_b3 (c_t_count : Int32) (c_t_places : Nat → Int32) (c_t_lights : Nat → Int32) (c_q1_at : Nat → Int32) (c_q1_light : Nat → Int32) (c_q2_least : Nat → Int32) (x3 : Int32) (rc : Int32 → Option (Int32)) (k : Option (Int32)) (x4 : Int32) : Option (Int32) :=
  if c_t_count ≤ x4 then
    k
  else
    ck_ x4 8 <|
    b1_ (fn_X0_lightAfter c_q1_at c_q1_light c_q2_least x3 (c_t_places (Int32.toNatClampNeg x4))) fun r1 =>
    ck_ x4 8 <|
    if r1 = (c_t_lights (Int32.toNatClampNeg x4)) then
      rc (x4 + 1)
    else
      some 0
def fn_X6_fits_l3 (c_t_count : Int32) (c_t_places : Nat → Int32) (c_t_lights : Nat → Int32) (c_q1_at : Nat → Int32) (c_q1_light : Nat → Int32) (c_q2_least : Nat → Int32) (x3 : Int32) (k : Option (Int32)) : Nat → Int32 → Option (Int32)
  | 0 => fun _ => none
  | n + 1 => fun x4 => fn_X6_fits_b3 c_t_count c_t_places c_t_lights c_q1_at c_q1_light c_q2_least x3 (fn_X6_fits_l3 c_t_count c_t_places c_t_lights c_q1_at c_q1_light c_q2_least x3 k n) k x4
def fn_X6_fits (c_t_count : Int32) (c_t_places : Nat → Int32) (c_t_lights : Nat → Int32) (c_q1_at : Nat → Int32) (c_q1_light : Nat → Int32) (c_q2_least : Nat → Int32) (x3 : Int32) : Option (Int32) :=
  fn_X6_fits_l3 c_t_count c_t_places c_t_lights c_q1_at c_q1_light c_q2_least x3 (some 1) fu_ 0
set_option maxHeartbeats 4000000 in
set_option maxRecDepth 100000 in
theorem wn_X6_fits_l3 {p : Program} {l : Launch} {e : Env} {s : State} {m : MethodId} {args : Array Value} {below : List Frame} {meth : Method} {c : Code} {G : gw_} {A : Nat → Prop} {Q : State → Prop} {A_t : Nat} {A_t_places : Nat} {A_t_lights : Nat} {A_q1 : Nat} {A_q1_at : Nat} {A_q1_home : Nat} {A_q1_light : Nat} {A_q1_carries : Nat} {A_q1_bearer : Nat} {A_q2 : Nat} {A_q2_planks : Nat} {A_q2_least : Nat} {A_q2_neighbours : Nat} {c_t_count : Int32} {c_t_places : Nat → Int32} {c_t_lights : Nat → Int32} {c_q1_there : Int32} {c_q1_foggy : Int32} {c_q1_at : Nat → Int32} {c_q1_light : Nat → Int32} {c_q2_least : Nat → Int32} {r : Int32} {x3 : Int32} {k : Option (Int32)} (hC : cx_ p s m c G cX6_fits 5 RX6) (hret : ∀ (pc : Nat) (H : Heap) (locs : List Loc) (ls : Array Slot), narrow .boolean (.int r) = .int r → decode cX6_fits pc = .ok (.ireturn, 1) → wd_ G A s.heap (wl_X6_fits G A_t A_t_places A_t_lights A_q1 A_q1_at A_q1_home A_q1_light A_q1_carries A_q1_bearer A_q2 A_q2_planks A_q2_least A_q2_neighbours c_t_count c_t_places c_t_lights c_q1_there c_q1_foggy c_q1_at c_q1_light c_q2_least) H locs → W p l e { frames := 2, cells := 0, slots := 0, locals := 46 } s m args below meth c H locs 0 0 Q (F0 m pc ls [.int r])) (hk : ∀  (H : Heap) (locs : List Loc) (ls : Array Slot), k = some r → lv_has ls 5 [] → wd_ G A s.heap (wl_X6_fits G A_t A_t_places A_t_lights A_q1 A_q1_at A_q1_home A_q1_light A_q1_carries A_q1_bearer A_q2 A_q2_planks A_q2_least A_q2_neighbours c_t_count c_t_places c_t_lights c_q1_there c_q1_foggy c_q1_at c_q1_light c_q2_least) H locs → W p l e { frames := 2, cells := 0, slots := 0, locals := 46 } s m args below meth c H locs 0 0 Q (F0 m 43 ls [])) : ∀ (n : Nat) (x4 : Int32) (H : Heap) (locs : List Loc) (ls : Array Slot), fn_X6_fits_l3 c_t_count c_t_places c_t_lights c_q1_at c_q1_light c_q2_least x3 k n x4 = some r → lv_has ls 5 [(0, .ref A_t), (1, .ref A_q1), (2, .ref A_q2), (3, .int x3), (4, .int x4)] → wd_ G A s.heap (wl_X6_fits G A_t A_t_places A_t_lights A_q1 A_q1_at A_q1_home A_q1_light A_q1_carries A_q1_bearer A_q2 A_q2_planks A_q2_least A_q2_neighbours c_t_count c_t_places c_t_lights c_q1_there c_q1_foggy c_q1_at c_q1_light c_q2_least) H locs → W p l e { frames := 2, cells := 0, slots := 0, locals := 46 } s m args below meth c H locs 0 0 Q (F0 m 3 ls []) := by
  have hx := hC.1
  have hb := hC.2.1
  intro n
  induction n with
  | zero =>
    intro x4 H locs ls hf
    cases (show (none : Option (Int32)) = some _ from hf)
  | succ n hrc =>
    intro x4 H locs ls hf hl hw
    replace hf : fn_X6_fits_b3 c_t_count c_t_places c_t_lights c_q1_at c_q1_light c_q2_least x3 (fn_X6_fits_l3 c_t_count c_t_places c_t_lights c_q1_at c_q1_light c_q2_least x3 k n) k x4 = some r := hf
    unfold fn_X6_fits_b3 at hf
    refine lv_iload hx hb dX6_fits_3 (lv_at hl 4 rfl) ?_
    refine lv_aload_n hx hb dX6_fits_5 rfl (lv_at hl 0 rfl) ?_
    refine g_get hC hw fkX6_9 0 rfl rfl dX6_fits_6 ?_
    refine lv_icmp_ge (tgt := 43) hx hb dX6_fits_9 (by decide) (fun hc => ?_) (fun hc => ?_)
    · replace hf := it_t hc hf
      exact hk _ _ _ hf (lv_sub hl [] rfl) hw
    · replace hf := it_f hc hf
      refine lv_aload_n hx hb dX6_fits_12 rfl (lv_at hl 1 rfl) ?_
      refine lv_aload_n hx hb dX6_fits_13 rfl (lv_at hl 2 rfl) ?_
      refine lv_iload_n hx hb dX6_fits_14 rfl (lv_at hl 3 rfl) ?_
      refine lv_aload_n hx hb dX6_fits_15 rfl (lv_at hl 0 rfl) ?_
      refine g_get hC hw fkX6_15 0 rfl rfl dX6_fits_16 ?_
      refine lv_iload hx hb dX6_fits_19 (lv_at hl 4 rfl) ?_
      obtain ⟨hi, hf⟩ := ck_s hf
      refine g_iald hC hw 1 rfl hi dX6_fits_21 ?_
      obtain ⟨r1, hq2, hf⟩ := b1_s hf
      refine h_cVi hC hw mvX6_38 (cn_X0_lightAfter l G A_q1 A_q1_at A_q1_home A_q1_light A_q1_carries A_q1_bearer A_q2 A_q2_planks A_q2_least A_q2_neighbours c_q1_there c_q1_foggy c_q1_at c_q1_light c_q2_least x3 (c_t_places (Int32.toNatClampNeg x4)) r1 hq2) [3, 4, 5, 6, 7] rfl (by decide) 3 rfl rfl rfl hl.1 rfl (Nat.le_of_ble_eq_true rfl) ⟨Nat.le_of_ble_eq_true rfl, Nat.le_of_ble_eq_true rfl⟩ ⟨Nat.le_refl _, Nat.le_refl _⟩ dX6_fits_22 (fun H locs hw => ?_)
      refine lv_aload_n hx hb dX6_fits_25 rfl (lv_at hl 0 rfl) ?_
      refine g_get hC hw fkX6_19 0 rfl rfl dX6_fits_26 ?_
      refine lv_iload hx hb dX6_fits_29 (lv_at hl 4 rfl) ?_
      obtain ⟨hi, hf⟩ := ck_s hf
      refine g_iald hC hw 2 rfl hi dX6_fits_31 ?_
      refine lv_icmp_eq (tgt := 37) hx hb dX6_fits_32 (by decide) (fun hc => ?_) (fun hc => ?_)
      · replace hf := it_t hc hf
        refine lv_iinc (v := x4 + 1) (lv' := [(4, .int (x4 + 1)), (0, .ref A_t), (1, .ref A_q1), (2, .ref A_q2), (3, .int x3)]) hx hb dX6_fits_37 hl (k := 4) rfl rfl (by decide) rfl (fun ls hl => ?_)
        refine lv_goto (tgt := 3) hx hb dX6_fits_40 (by decide) ?_
        exact hrc (x4 + 1) _ _ _ hf (lv_sub hl [1, 2, 3, 4, 0] rfl) hw
      · replace hf := it_f hc hf
        refine lv_iconst (v := 0) hx hb dX6_fits_35 (by decide) ?_
        have h1_ := t1_ hf
        subst h1_
        exact hret _ _ _ _ rfl dX6_fits_36 hw
set_option maxHeartbeats 4000000 in
set_option maxRecDepth 100000 in
theorem wn_X6_fits {p : Program} {l : Launch} {e : Env} {s : State} {m : MethodId} {args : Array Value} {below : List Frame} {meth : Method} {c : Code} {G : gw_} {A : Nat → Prop} {Q : State → Prop} {A_t : Nat} {A_t_places : Nat} {A_t_lights : Nat} {A_q1 : Nat} {A_q1_at : Nat} {A_q1_home : Nat} {A_q1_light : Nat} {A_q1_carries : Nat} {A_q1_bearer : Nat} {A_q2 : Nat} {A_q2_planks : Nat} {A_q2_least : Nat} {A_q2_neighbours : Nat} {c_t_count : Int32} {c_t_places : Nat → Int32} {c_t_lights : Nat → Int32} {c_q1_there : Int32} {c_q1_foggy : Int32} {c_q1_at : Nat → Int32} {c_q1_light : Nat → Int32} {c_q2_least : Nat → Int32} {r : Int32} {x3 : Int32} (hC : cx_ p s m c G cX6_fits 5 RX6) (hret : ∀ (pc : Nat) (H : Heap) (locs : List Loc) (ls : Array Slot), narrow .boolean (.int r) = .int r → decode cX6_fits pc = .ok (.ireturn, 1) → wd_ G A s.heap (wl_X6_fits G A_t A_t_places A_t_lights A_q1 A_q1_at A_q1_home A_q1_light A_q1_carries A_q1_bearer A_q2 A_q2_planks A_q2_least A_q2_neighbours c_t_count c_t_places c_t_lights c_q1_there c_q1_foggy c_q1_at c_q1_light c_q2_least) H locs → W p l e { frames := 2, cells := 0, slots := 0, locals := 46 } s m args below meth c H locs 0 0 Q (F0 m pc ls [.int r])) (hf : fn_X6_fits c_t_count c_t_places c_t_lights c_q1_at c_q1_light c_q2_least x3 = some r) {H : Heap} {locs : List Loc} {ls : Array Slot} (hl : lv_has ls 5 [(0, .ref A_t), (1, .ref A_q1), (2, .ref A_q2), (3, .int x3)]) (hw : wd_ G A s.heap (wl_X6_fits G A_t A_t_places A_t_lights A_q1 A_q1_at A_q1_home A_q1_light A_q1_carries A_q1_bearer A_q2 A_q2_planks A_q2_least A_q2_neighbours c_t_count c_t_places c_t_lights c_q1_there c_q1_foggy c_q1_at c_q1_light c_q2_least) H locs) : W p l e { frames := 2, cells := 0, slots := 0, locals := 46 } s m args below meth c H locs 0 0 Q (F0 m 0 ls []) := by
  have hx := hC.1
  have hb := hC.2.1
  unfold fn_X6_fits at hf
  refine lv_iconst (v := 0) hx hb dX6_fits_0 (by decide) ?_
  refine lv_istore (lv' := [(4, .int 0), (0, .ref A_t), (1, .ref A_q1), (2, .ref A_q2), (3, .int x3)]) hx hb dX6_fits_1 hl (by decide) rfl (fun ls hl => ?_)
  refine wn_X6_fits_l3 hC hret (fun H locs ls hf hl hw => ?_) fu_ 0 _ _ _ hf (lv_sub hl [1, 2, 3, 4, 0] rfl) hw
  refine lv_iconst (v := 1) hx hb dX6_fits_43 (by decide) ?_
  have h1_ := t1_ hf
  subst h1_
  exact hret _ _ _ _ rfl dX6_fits_44 hw
set_option maxHeartbeats 4000000 in
set_option maxRecDepth 100000 in
theorem cn_X6_fits (l : Launch) (G : gw_) (A_t : Nat) (A_t_places : Nat) (A_t_lights : Nat) (A_q1 : Nat) (A_q1_at : Nat) (A_q1_home : Nat) (A_q1_light : Nat) (A_q1_carries : Nat) (A_q1_bearer : Nat) (A_q2 : Nat) (A_q2_planks : Nat) (A_q2_least : Nat) (A_q2_neighbours : Nat) (c_t_count : Int32) (c_t_places : Nat → Int32) (c_t_lights : Nat → Int32) (c_q1_there : Int32) (c_q1_foggy : Int32) (c_q1_at : Nat → Int32) (c_q1_light : Nat → Int32) (c_q2_least : Nat → Int32) (x3 : Int32) (r : Int32) (hf : fn_X6_fits c_t_count c_t_places c_t_lights c_q1_at c_q1_light c_q2_least x3 = some r) : ci_ l G yX6_fits cX6_fits 5 (some .boolean) 2 46 (wl_X6_fits G A_t A_t_places A_t_lights A_q1 A_q1_at A_q1_home A_q1_light A_q1_carries A_q1_bearer A_q2 A_q2_planks A_q2_least A_q2_neighbours c_t_count c_t_places c_t_lights c_q1_there c_q1_foggy c_q1_at c_q1_light c_q2_least) [.ref A_t, .ref A_q1, .ref A_q2, .int x3] r (wl_X6_fits G A_t A_t_places A_t_lights A_q1 A_q1_at A_q1_home A_q1_light A_q1_carries A_q1_bearer A_q2 A_q2_planks A_q2_least A_q2_neighbours c_t_count c_t_places c_t_lights c_q1_there c_q1_foggy c_q1_at c_q1_light c_q2_least) := fun sz => met_intro (by decide) (Nat.le_of_ble_eq_true rfl) (fun p e s m args below meth c ls hsz hC hr hlk hnm hl hw => wn_X6_fits hC (fun pc H locs ls hn hd hw => g_iret hC hr hlk hw rfl hn hd) hf hl hw)

theorem dX6_fitting_0 : decode cX6_fitting 0 = .ok (.iconst 0, 1) := by decide +kernel
theorem dX6_fitting_1 : decode cX6_fitting 1 = .ok (.istore_n 3, 1) := by decide +kernel
theorem dX6_fitting_2 : decode cX6_fitting 2 = .ok (.iconst 0, 1) := by decide +kernel
theorem dX6_fitting_3 : decode cX6_fitting 3 = .ok (.istore 4, 2) := by decide +kernel
theorem dX6_fitting_5 : decode cX6_fitting 5 = .ok (.iload 4, 2) := by decide +kernel
theorem dX6_fitting_7 : decode cX6_fitting 7 = .ok (.bipush 6, 2) := by decide +kernel
theorem dX6_fitting_9 : decode cX6_fitting 9 = .ok (.if_icmp .ge 36, 3) := by decide +kernel
theorem dX6_fitting_12 : decode cX6_fitting 12 = .ok (.aload_n 1, 1) := by decide +kernel
theorem dX6_fitting_13 : decode cX6_fitting 13 = .ok (.iload 4, 2) := by decide +kernel
theorem dX6_fitting_15 : decode cX6_fitting 15 = .ok (.invokevirtual 28, 3) := by decide +kernel
theorem dX6_fitting_18 : decode cX6_fitting 18 = .ok (.ifCond .eq 21, 3) := by decide +kernel
theorem dX6_fitting_21 : decode cX6_fitting 21 = .ok (.aload_n 0, 1) := by decide +kernel
theorem dX6_fitting_22 : decode cX6_fitting 22 = .ok (.aload_n 1, 1) := by decide +kernel
theorem dX6_fitting_23 : decode cX6_fitting 23 = .ok (.aload_n 2, 1) := by decide +kernel
theorem dX6_fitting_24 : decode cX6_fitting 24 = .ok (.iload 4, 2) := by decide +kernel
theorem dX6_fitting_26 : decode cX6_fitting 26 = .ok (.invokevirtual 34, 3) := by decide +kernel
theorem dX6_fitting_29 : decode cX6_fitting 29 = .ok (.ifCond .eq 10, 3) := by decide +kernel
theorem dX6_fitting_32 : decode cX6_fitting 32 = .ok (.iload_n 3, 1) := by decide +kernel
theorem dX6_fitting_33 : decode cX6_fitting 33 = .ok (.iconst 1, 1) := by decide +kernel
theorem dX6_fitting_34 : decode cX6_fitting 34 = .ok (.iload 4, 2) := by decide +kernel
theorem dX6_fitting_36 : decode cX6_fitting 36 = .ok (.ishl, 1) := by decide +kernel
theorem dX6_fitting_37 : decode cX6_fitting 37 = .ok (.ior, 1) := by decide +kernel
theorem dX6_fitting_38 : decode cX6_fitting 38 = .ok (.istore_n 3, 1) := by decide +kernel
theorem dX6_fitting_39 : decode cX6_fitting 39 = .ok (.iinc 4 1, 3) := by decide +kernel
theorem dX6_fitting_42 : decode cX6_fitting 42 = .ok (.goto (-37), 3) := by decide +kernel
theorem dX6_fitting_45 : decode cX6_fitting 45 = .ok (.iload_n 3, 1) := by decide +kernel
theorem dX6_fitting_46 : decode cX6_fitting 46 = .ok (.ireturn, 1) := by decide +kernel
abbrev wl_X6_fitting (G : gw_) (A_t : Nat) (A_t_places : Nat) (A_t_lights : Nat) (A_q1 : Nat) (A_q1_at : Nat) (A_q1_home : Nat) (A_q1_light : Nat) (A_q1_carries : Nat) (A_q1_bearer : Nat) (A_q2 : Nat) (A_q2_planks : Nat) (A_q2_least : Nat) (A_q2_neighbours : Nat) (c_t_count : Int32) (c_t_places : Nat → Int32) (c_t_lights : Nat → Int32) (c_q1_there : Int32) (c_q1_foggy : Int32) (c_q1_at : Nat → Int32) (c_q1_light : Nat → Int32) (c_q2_least : Nat → Int32) : va_W := [ob_ A_t 6 [.int c_t_count, .ref A_t_places, .ref A_t_lights], ia_ G A_t_places 8 c_t_places, ia_ G A_t_lights 8 c_t_lights, ob_ A_q1 0 [.int c_q1_there, .int c_q1_foggy, .ref A_q1_at, .ref A_q1_home, .ref A_q1_light, .ref A_q1_carries, .ref A_q1_bearer], ia_ G A_q1_at 6 c_q1_at, ia_ G A_q1_light 6 c_q1_light, ob_ A_q2 8 [.ref A_q2_planks, .ref A_q2_least, .ref A_q2_neighbours], ia_ G A_q2_least 144 c_q2_least]
def fn_X6_fitting_b5 (c_t_count : Int32) (c_t_places : Nat → Int32) (c_t_lights : Nat → Int32) (c_q1_there : Int32) (c_q1_at : Nat → Int32) (c_q1_light : Nat → Int32) (c_q2_least : Nat → Int32) (rc : Int32 → Int32 → Option (Int32)) (k : Int32 → Option (Int32)) (x3 : Int32) (x4 : Int32) : Option (Int32) :=
  if 6 ≤ x4 then
    k x3
  else
    b1_ (fn_X0_has c_q1_there x4) fun r1 =>
    if r1 = 0 then
      rc x3 (x4 + 1)
    else
      b1_ (fn_X6_fits c_t_count c_t_places c_t_lights c_q1_at c_q1_light c_q2_least x4) fun r3 =>
      if r3 = 0 then
        rc x3 (x4 + 1)
      else
        lx_ (x3 ||| (1 <<< (x4 &&& 31))) fun y5 =>
        rc y5 (x4 + 1)
def fn_X6_fitting_l5 (c_t_count : Int32) (c_t_places : Nat → Int32) (c_t_lights : Nat → Int32) (c_q1_there : Int32) (c_q1_at : Nat → Int32) (c_q1_light : Nat → Int32) (c_q2_least : Nat → Int32) (k : Int32 → Option (Int32)) : Nat → Int32 → Int32 → Option (Int32)
  | 0 => fun _ _ => none
  | n + 1 => fun x3 x4 => fn_X6_fitting_b5 c_t_count c_t_places c_t_lights c_q1_there c_q1_at c_q1_light c_q2_least (fn_X6_fitting_l5 c_t_count c_t_places c_t_lights c_q1_there c_q1_at c_q1_light c_q2_least k n) k x3 x4
def fn_X6_fitting (c_t_count : Int32) (c_t_places : Nat → Int32) (c_t_lights : Nat → Int32) (c_q1_there : Int32) (c_q1_at : Nat → Int32) (c_q1_light : Nat → Int32) (c_q2_least : Nat → Int32) : Option (Int32) :=
  fn_X6_fitting_l5 c_t_count c_t_places c_t_lights c_q1_there c_q1_at c_q1_light c_q2_least (fun v6 =>
    some v6) fu_ 0 0
set_option maxHeartbeats 4000000 in
set_option maxRecDepth 100000 in
theorem wn_X6_fitting_l5 {p : Program} {l : Launch} {e : Env} {s : State} {m : MethodId} {args : Array Value} {below : List Frame} {meth : Method} {c : Code} {G : gw_} {A : Nat → Prop} {Q : State → Prop} {A_t : Nat} {A_t_places : Nat} {A_t_lights : Nat} {A_q1 : Nat} {A_q1_at : Nat} {A_q1_home : Nat} {A_q1_light : Nat} {A_q1_carries : Nat} {A_q1_bearer : Nat} {A_q2 : Nat} {A_q2_planks : Nat} {A_q2_least : Nat} {A_q2_neighbours : Nat} {c_t_count : Int32} {c_t_places : Nat → Int32} {c_t_lights : Nat → Int32} {c_q1_there : Int32} {c_q1_foggy : Int32} {c_q1_at : Nat → Int32} {c_q1_light : Nat → Int32} {c_q2_least : Nat → Int32} {r : Int32} {k : Int32 → Option (Int32)} (hC : cx_ p s m c G cX6_fitting 5 RX6) (hret : ∀ (pc : Nat) (H : Heap) (locs : List Loc) (ls : Array Slot), decode cX6_fitting pc = .ok (.ireturn, 1) → wd_ G A s.heap (wl_X6_fitting G A_t A_t_places A_t_lights A_q1 A_q1_at A_q1_home A_q1_light A_q1_carries A_q1_bearer A_q2 A_q2_planks A_q2_least A_q2_neighbours c_t_count c_t_places c_t_lights c_q1_there c_q1_foggy c_q1_at c_q1_light c_q2_least) H locs → W p l e { frames := 3, cells := 0, slots := 0, locals := 70 } s m args below meth c H locs 0 0 Q (F0 m pc ls [.int r])) (hk : ∀ (x3 : Int32) (H : Heap) (locs : List Loc) (ls : Array Slot), k x3 = some r → lv_has ls 5 [(3, .int x3)] → wd_ G A s.heap (wl_X6_fitting G A_t A_t_places A_t_lights A_q1 A_q1_at A_q1_home A_q1_light A_q1_carries A_q1_bearer A_q2 A_q2_planks A_q2_least A_q2_neighbours c_t_count c_t_places c_t_lights c_q1_there c_q1_foggy c_q1_at c_q1_light c_q2_least) H locs → W p l e { frames := 3, cells := 0, slots := 0, locals := 70 } s m args below meth c H locs 0 0 Q (F0 m 45 ls [])) : ∀ (n : Nat) (x3 : Int32) (x4 : Int32) (H : Heap) (locs : List Loc) (ls : Array Slot), fn_X6_fitting_l5 c_t_count c_t_places c_t_lights c_q1_there c_q1_at c_q1_light c_q2_least k n x3 x4 = some r → lv_has ls 5 [(0, .ref A_t), (1, .ref A_q1), (2, .ref A_q2), (3, .int x3), (4, .int x4)] → wd_ G A s.heap (wl_X6_fitting G A_t A_t_places A_t_lights A_q1 A_q1_at A_q1_home A_q1_light A_q1_carries A_q1_bearer A_q2 A_q2_planks A_q2_least A_q2_neighbours c_t_count c_t_places c_t_lights c_q1_there c_q1_foggy c_q1_at c_q1_light c_q2_least) H locs → W p l e { frames := 3, cells := 0, slots := 0, locals := 70 } s m args below meth c H locs 0 0 Q (F0 m 5 ls []) := by
  have hx := hC.1
  have hb := hC.2.1
  intro n
  induction n with
  | zero =>
    intro x3 x4 H locs ls hf
    cases (show (none : Option (Int32)) = some _ from hf)
  | succ n hrc =>
    intro x3 x4 H locs ls hf hl hw
    replace hf : fn_X6_fitting_b5 c_t_count c_t_places c_t_lights c_q1_there c_q1_at c_q1_light c_q2_least (fn_X6_fitting_l5 c_t_count c_t_places c_t_lights c_q1_there c_q1_at c_q1_light c_q2_least k n) k x3 x4 = some r := hf
    unfold fn_X6_fitting_b5 at hf
    refine lv_iload hx hb dX6_fitting_5 (lv_at hl 4 rfl) ?_
    refine lv_bipush (v := 6) hx hb dX6_fitting_7 (by decide) ?_
    refine lv_icmp_ge (tgt := 45) hx hb dX6_fitting_9 (by decide) (fun hc => ?_) (fun hc => ?_)
    · replace hf := it_t hc hf
      exact hk x3 _ _ _ hf (lv_sub hl [3] rfl) hw
    · replace hf := it_f hc hf
      refine lv_aload_n hx hb dX6_fitting_12 rfl (lv_at hl 1 rfl) ?_
      refine lv_iload hx hb dX6_fitting_13 (lv_at hl 4 rfl) ?_
      obtain ⟨r1, hq2, hf⟩ := b1_s hf
      refine h_cVi hC hw mvX6_28 (cn_X0_has l G A_q1 A_q1_at A_q1_home A_q1_light A_q1_carries A_q1_bearer c_q1_there c_q1_foggy x4 r1 hq2) [3] rfl (by decide) 3 rfl rfl rfl hl.1 rfl (Nat.le_of_ble_eq_true rfl) ⟨Nat.le_of_ble_eq_true rfl, Nat.le_of_ble_eq_true rfl⟩ ⟨Nat.le_refl _, Nat.le_refl _⟩ dX6_fitting_15 (fun H locs hw => ?_)
      refine lv_if_eq (tgt := 39) hx hb dX6_fitting_18 (by decide) (fun hc => ?_) (fun hc => ?_)
      · replace hf := it_t hc hf
        refine lv_iinc (v := x4 + 1) (lv' := [(4, .int (x4 + 1)), (0, .ref A_t), (1, .ref A_q1), (2, .ref A_q2), (3, .int x3)]) hx hb dX6_fitting_39 hl (k := 4) rfl rfl (by decide) rfl (fun ls hl => ?_)
        refine lv_goto (tgt := 5) hx hb dX6_fitting_42 (by decide) ?_
        exact hrc x3 (x4 + 1) _ _ _ hf (lv_sub hl [1, 2, 3, 4, 0] rfl) hw
      · replace hf := it_f hc hf
        refine lv_aload_n hx hb dX6_fitting_21 rfl (lv_at hl 0 rfl) ?_
        refine lv_aload_n hx hb dX6_fitting_22 rfl (lv_at hl 1 rfl) ?_
        refine lv_aload_n hx hb dX6_fitting_23 rfl (lv_at hl 2 rfl) ?_
        refine lv_iload hx hb dX6_fitting_24 (lv_at hl 4 rfl) ?_
        obtain ⟨r3, hq4, hf⟩ := b1_s hf
        refine h_cVi hC hw mvX6_34 (cn_X6_fits l G A_t A_t_places A_t_lights A_q1 A_q1_at A_q1_home A_q1_light A_q1_carries A_q1_bearer A_q2 A_q2_planks A_q2_least A_q2_neighbours c_t_count c_t_places c_t_lights c_q1_there c_q1_foggy c_q1_at c_q1_light c_q2_least x4 r3 hq4) [0, 1, 2, 3, 4, 5, 6, 7] rfl (by decide) 0 rfl rfl rfl hl.1 rfl (Nat.le_of_ble_eq_true rfl) ⟨Nat.le_of_ble_eq_true rfl, Nat.le_of_ble_eq_true rfl⟩ ⟨Nat.le_refl _, Nat.le_refl _⟩ dX6_fitting_26 (fun H locs hw => ?_)
        refine lv_if_eq (tgt := 39) hx hb dX6_fitting_29 (by decide) (fun hc => ?_) (fun hc => ?_)
        · replace hf := it_t hc hf
          refine lv_iinc (v := x4 + 1) (lv' := [(4, .int (x4 + 1)), (0, .ref A_t), (1, .ref A_q1), (2, .ref A_q2), (3, .int x3)]) hx hb dX6_fitting_39 hl (k := 4) rfl rfl (by decide) rfl (fun ls hl => ?_)
          refine lv_goto (tgt := 5) hx hb dX6_fitting_42 (by decide) ?_
          exact hrc x3 (x4 + 1) _ _ _ hf (lv_sub hl [1, 2, 3, 4, 0] rfl) hw
        · replace hf := it_f hc hf
          refine lv_iload_n hx hb dX6_fitting_32 rfl (lv_at hl 3 rfl) ?_
          refine lv_iconst (v := 1) hx hb dX6_fitting_33 (by decide) ?_
          refine lv_iload hx hb dX6_fitting_34 (lv_at hl 4 rfl) ?_
          refine lv_ishl hx hb dX6_fitting_36 ?_
          refine lv_ior hx hb dX6_fitting_37 ?_
          obtain ⟨y5, ey5, hf⟩ := lx_s hf
          rw [← ey5]
          refine lv_istore_n (lv' := [(3, .int y5), (0, .ref A_t), (1, .ref A_q1), (2, .ref A_q2), (4, .int x4)]) hx hb dX6_fitting_38 rfl hl (by decide) rfl (fun ls hl => ?_)
          refine lv_iinc (v := x4 + 1) (lv' := [(4, .int (x4 + 1)), (3, .int y5), (0, .ref A_t), (1, .ref A_q1), (2, .ref A_q2)]) hx hb dX6_fitting_39 hl (k := 4) rfl rfl (by decide) rfl (fun ls hl => ?_)
          refine lv_goto (tgt := 5) hx hb dX6_fitting_42 (by decide) ?_
          exact hrc y5 (x4 + 1) _ _ _ hf (lv_sub hl [2, 3, 4, 1, 0] rfl) hw
set_option maxHeartbeats 4000000 in
set_option maxRecDepth 100000 in
theorem wn_X6_fitting {p : Program} {l : Launch} {e : Env} {s : State} {m : MethodId} {args : Array Value} {below : List Frame} {meth : Method} {c : Code} {G : gw_} {A : Nat → Prop} {Q : State → Prop} {A_t : Nat} {A_t_places : Nat} {A_t_lights : Nat} {A_q1 : Nat} {A_q1_at : Nat} {A_q1_home : Nat} {A_q1_light : Nat} {A_q1_carries : Nat} {A_q1_bearer : Nat} {A_q2 : Nat} {A_q2_planks : Nat} {A_q2_least : Nat} {A_q2_neighbours : Nat} {c_t_count : Int32} {c_t_places : Nat → Int32} {c_t_lights : Nat → Int32} {c_q1_there : Int32} {c_q1_foggy : Int32} {c_q1_at : Nat → Int32} {c_q1_light : Nat → Int32} {c_q2_least : Nat → Int32} {r : Int32} (hC : cx_ p s m c G cX6_fitting 5 RX6) (hret : ∀ (pc : Nat) (H : Heap) (locs : List Loc) (ls : Array Slot), decode cX6_fitting pc = .ok (.ireturn, 1) → wd_ G A s.heap (wl_X6_fitting G A_t A_t_places A_t_lights A_q1 A_q1_at A_q1_home A_q1_light A_q1_carries A_q1_bearer A_q2 A_q2_planks A_q2_least A_q2_neighbours c_t_count c_t_places c_t_lights c_q1_there c_q1_foggy c_q1_at c_q1_light c_q2_least) H locs → W p l e { frames := 3, cells := 0, slots := 0, locals := 70 } s m args below meth c H locs 0 0 Q (F0 m pc ls [.int r])) (hf : fn_X6_fitting c_t_count c_t_places c_t_lights c_q1_there c_q1_at c_q1_light c_q2_least = some r) {H : Heap} {locs : List Loc} {ls : Array Slot} (hl : lv_has ls 5 [(0, .ref A_t), (1, .ref A_q1), (2, .ref A_q2)]) (hw : wd_ G A s.heap (wl_X6_fitting G A_t A_t_places A_t_lights A_q1 A_q1_at A_q1_home A_q1_light A_q1_carries A_q1_bearer A_q2 A_q2_planks A_q2_least A_q2_neighbours c_t_count c_t_places c_t_lights c_q1_there c_q1_foggy c_q1_at c_q1_light c_q2_least) H locs) : W p l e { frames := 3, cells := 0, slots := 0, locals := 70 } s m args below meth c H locs 0 0 Q (F0 m 0 ls []) := by
  have hx := hC.1
  have hb := hC.2.1
  unfold fn_X6_fitting at hf
  refine lv_iconst (v := 0) hx hb dX6_fitting_0 (by decide) ?_
  refine lv_istore_n (lv' := [(3, .int 0), (0, .ref A_t), (1, .ref A_q1), (2, .ref A_q2)]) hx hb dX6_fitting_1 rfl hl (by decide) rfl (fun ls hl => ?_)
  refine lv_iconst (v := 0) hx hb dX6_fitting_2 (by decide) ?_
  refine lv_istore (lv' := [(4, .int 0), (3, .int 0), (0, .ref A_t), (1, .ref A_q1), (2, .ref A_q2)]) hx hb dX6_fitting_3 hl (by decide) rfl (fun ls hl => ?_)
  refine wn_X6_fitting_l5 hC hret (fun v6 H locs ls hf hl hw => ?_) fu_ 0 0 _ _ _ hf (lv_sub hl [2, 3, 4, 1, 0] rfl) hw
  refine lv_iload_n hx hb dX6_fitting_45 rfl (lv_at hl 0 rfl) ?_
  have h1_ := t1_ hf
  subst h1_
  exact hret _ _ _ _ dX6_fitting_46 hw
set_option maxHeartbeats 4000000 in
set_option maxRecDepth 100000 in
theorem cn_X6_fitting (l : Launch) (G : gw_) (A_t : Nat) (A_t_places : Nat) (A_t_lights : Nat) (A_q1 : Nat) (A_q1_at : Nat) (A_q1_home : Nat) (A_q1_light : Nat) (A_q1_carries : Nat) (A_q1_bearer : Nat) (A_q2 : Nat) (A_q2_planks : Nat) (A_q2_least : Nat) (A_q2_neighbours : Nat) (c_t_count : Int32) (c_t_places : Nat → Int32) (c_t_lights : Nat → Int32) (c_q1_there : Int32) (c_q1_foggy : Int32) (c_q1_at : Nat → Int32) (c_q1_light : Nat → Int32) (c_q2_least : Nat → Int32) (r : Int32) (hf : fn_X6_fitting c_t_count c_t_places c_t_lights c_q1_there c_q1_at c_q1_light c_q2_least = some r) : ci_ l G yX6_fitting cX6_fitting 5 (some .int) 3 70 (wl_X6_fitting G A_t A_t_places A_t_lights A_q1 A_q1_at A_q1_home A_q1_light A_q1_carries A_q1_bearer A_q2 A_q2_planks A_q2_least A_q2_neighbours c_t_count c_t_places c_t_lights c_q1_there c_q1_foggy c_q1_at c_q1_light c_q2_least) [.ref A_t, .ref A_q1, .ref A_q2] r (wl_X6_fitting G A_t A_t_places A_t_lights A_q1 A_q1_at A_q1_home A_q1_light A_q1_carries A_q1_bearer A_q2 A_q2_planks A_q2_least A_q2_neighbours c_t_count c_t_places c_t_lights c_q1_there c_q1_foggy c_q1_at c_q1_light c_q2_least) := fun sz => met_intro (by decide) (Nat.le_of_ble_eq_true rfl) (fun p e s m args below meth c ls hsz hC hr hlk hnm hl hw => wn_X6_fitting hC (fun pc H locs ls hd hw => g_iret hC hr hlk hw rfl rfl hd) hf hl hw)

theorem dX6_countAlike_0 : decode cX6_countAlike 0 = .ok (.iconst 0, 1) := by decide +kernel
theorem dX6_countAlike_1 : decode cX6_countAlike 1 = .ok (.istore 5, 2) := by decide +kernel
theorem dX6_countAlike_3 : decode cX6_countAlike 3 = .ok (.iconst 0, 1) := by decide +kernel
theorem dX6_countAlike_4 : decode cX6_countAlike 4 = .ok (.istore 6, 2) := by decide +kernel
theorem dX6_countAlike_6 : decode cX6_countAlike 6 = .ok (.iload 6, 2) := by decide +kernel
theorem dX6_countAlike_8 : decode cX6_countAlike 8 = .ok (.bipush 6, 2) := by decide +kernel
theorem dX6_countAlike_10 : decode cX6_countAlike 10 = .ok (.if_icmp .ge 34, 3) := by decide +kernel
theorem dX6_countAlike_13 : decode cX6_countAlike 13 = .ok (.iload_n 2, 1) := by decide +kernel
theorem dX6_countAlike_14 : decode cX6_countAlike 14 = .ok (.iload 6, 2) := by decide +kernel
theorem dX6_countAlike_16 : decode cX6_countAlike 16 = .ok (.invokestatic 46, 3) := by decide +kernel
theorem dX6_countAlike_19 : decode cX6_countAlike 19 = .ok (.ifCond .eq 19, 3) := by decide +kernel
theorem dX6_countAlike_22 : decode cX6_countAlike 22 = .ok (.aload_n 0, 1) := by decide +kernel
theorem dX6_countAlike_23 : decode cX6_countAlike 23 = .ok (.aload_n 1, 1) := by decide +kernel
theorem dX6_countAlike_24 : decode cX6_countAlike 24 = .ok (.iload 6, 2) := by decide +kernel
theorem dX6_countAlike_26 : decode cX6_countAlike 26 = .ok (.iload_n 3, 1) := by decide +kernel
theorem dX6_countAlike_27 : decode cX6_countAlike 27 = .ok (.invokevirtual 38, 3) := by decide +kernel
theorem dX6_countAlike_30 : decode cX6_countAlike 30 = .ok (.iload 4, 2) := by decide +kernel
theorem dX6_countAlike_32 : decode cX6_countAlike 32 = .ok (.if_icmp .ne 6, 3) := by decide +kernel
theorem dX6_countAlike_35 : decode cX6_countAlike 35 = .ok (.iinc 5 1, 3) := by decide +kernel
theorem dX6_countAlike_38 : decode cX6_countAlike 38 = .ok (.iinc 6 1, 3) := by decide +kernel
theorem dX6_countAlike_41 : decode cX6_countAlike 41 = .ok (.goto (-35), 3) := by decide +kernel
theorem dX6_countAlike_44 : decode cX6_countAlike 44 = .ok (.iload 5, 2) := by decide +kernel
theorem dX6_countAlike_46 : decode cX6_countAlike 46 = .ok (.ireturn, 1) := by decide +kernel
abbrev wl_X6_countAlike (G : gw_) (A_q0 : Nat) (A_q0_at : Nat) (A_q0_home : Nat) (A_q0_light : Nat) (A_q0_carries : Nat) (A_q0_bearer : Nat) (A_q1 : Nat) (A_q1_planks : Nat) (A_q1_least : Nat) (A_q1_neighbours : Nat) (c_q0_there : Int32) (c_q0_foggy : Int32) (c_q0_at : Nat → Int32) (c_q0_light : Nat → Int32) (c_q1_least : Nat → Int32) : va_W := [ob_ A_q0 0 [.int c_q0_there, .int c_q0_foggy, .ref A_q0_at, .ref A_q0_home, .ref A_q0_light, .ref A_q0_carries, .ref A_q0_bearer], ia_ G A_q0_at 6 c_q0_at, ia_ G A_q0_light 6 c_q0_light, ob_ A_q1 8 [.ref A_q1_planks, .ref A_q1_least, .ref A_q1_neighbours], ia_ G A_q1_least 144 c_q1_least]
def fn_X6_countAlike_b6 (c_q0_at : Nat → Int32) (c_q0_light : Nat → Int32) (c_q1_least : Nat → Int32) (x2 : Int32) (x3 : Int32) (x4 : Int32) (rc : Int32 → Int32 → Option (Int32)) (k : Int32 → Option (Int32)) (x5 : Int32) (x6 : Int32) : Option (Int32) :=
  if 6 ≤ x6 then
    k x5
  else
    b1_ (fn_X9_isIn x2 x6) fun r1 =>
    if r1 = 0 then
      rc x5 (x6 + 1)
    else
      b1_ (fn_X0_lightAfter c_q0_at c_q0_light c_q1_least x6 x3) fun r3 =>
      if r3 = x4 then
        rc (x5 + 1) (x6 + 1)
      else
        rc x5 (x6 + 1)
def fn_X6_countAlike_l6 (c_q0_at : Nat → Int32) (c_q0_light : Nat → Int32) (c_q1_least : Nat → Int32) (x2 : Int32) (x3 : Int32) (x4 : Int32) (k : Int32 → Option (Int32)) : Nat → Int32 → Int32 → Option (Int32)
  | 0 => fun _ _ => none
  | n + 1 => fun x5 x6 => fn_X6_countAlike_b6 c_q0_at c_q0_light c_q1_least x2 x3 x4 (fn_X6_countAlike_l6 c_q0_at c_q0_light c_q1_least x2 x3 x4 k n) k x5 x6
def fn_X6_countAlike (c_q0_at : Nat → Int32) (c_q0_light : Nat → Int32) (c_q1_least : Nat → Int32) (x2 : Int32) (x3 : Int32) (x4 : Int32) : Option (Int32) :=
  fn_X6_countAlike_l6 c_q0_at c_q0_light c_q1_least x2 x3 x4 (fun v5 =>
    some v5) fu_ 0 0
set_option maxHeartbeats 4000000 in
set_option maxRecDepth 100000 in
theorem wn_X6_countAlike_l6 {p : Program} {l : Launch} {e : Env} {s : State} {m : MethodId} {args : Array Value} {below : List Frame} {meth : Method} {c : Code} {G : gw_} {A : Nat → Prop} {Q : State → Prop} {A_q0 : Nat} {A_q0_at : Nat} {A_q0_home : Nat} {A_q0_light : Nat} {A_q0_carries : Nat} {A_q0_bearer : Nat} {A_q1 : Nat} {A_q1_planks : Nat} {A_q1_least : Nat} {A_q1_neighbours : Nat} {c_q0_there : Int32} {c_q0_foggy : Int32} {c_q0_at : Nat → Int32} {c_q0_light : Nat → Int32} {c_q1_least : Nat → Int32} {r : Int32} {x2 : Int32} {x3 : Int32} {x4 : Int32} {k : Int32 → Option (Int32)} (hC : cx_ p s m c G cX6_countAlike 7 RX6) (hret : ∀ (pc : Nat) (H : Heap) (locs : List Loc) (ls : Array Slot), decode cX6_countAlike pc = .ok (.ireturn, 1) → wd_ G A s.heap (wl_X6_countAlike G A_q0 A_q0_at A_q0_home A_q0_light A_q0_carries A_q0_bearer A_q1 A_q1_planks A_q1_least A_q1_neighbours c_q0_there c_q0_foggy c_q0_at c_q0_light c_q1_least) H locs → W p l e { frames := 2, cells := 0, slots := 0, locals := 46 } s m args below meth c H locs 0 0 Q (F0 m pc ls [.int r])) (hk : ∀ (x5 : Int32) (H : Heap) (locs : List Loc) (ls : Array Slot), k x5 = some r → lv_has ls 7 [(5, .int x5)] → wd_ G A s.heap (wl_X6_countAlike G A_q0 A_q0_at A_q0_home A_q0_light A_q0_carries A_q0_bearer A_q1 A_q1_planks A_q1_least A_q1_neighbours c_q0_there c_q0_foggy c_q0_at c_q0_light c_q1_least) H locs → W p l e { frames := 2, cells := 0, slots := 0, locals := 46 } s m args below meth c H locs 0 0 Q (F0 m 44 ls [])) : ∀ (n : Nat) (x5 : Int32) (x6 : Int32) (H : Heap) (locs : List Loc) (ls : Array Slot), fn_X6_countAlike_l6 c_q0_at c_q0_light c_q1_least x2 x3 x4 k n x5 x6 = some r → lv_has ls 7 [(0, .ref A_q0), (1, .ref A_q1), (2, .int x2), (3, .int x3), (4, .int x4), (5, .int x5), (6, .int x6)] → wd_ G A s.heap (wl_X6_countAlike G A_q0 A_q0_at A_q0_home A_q0_light A_q0_carries A_q0_bearer A_q1 A_q1_planks A_q1_least A_q1_neighbours c_q0_there c_q0_foggy c_q0_at c_q0_light c_q1_least) H locs → W p l e { frames := 2, cells := 0, slots := 0, locals := 46 } s m args below meth c H locs 0 0 Q (F0 m 6 ls []) := by
  have hx := hC.1
  have hb := hC.2.1
  intro n
  induction n with
  | zero =>
    intro x5 x6 H locs ls hf
    cases (show (none : Option (Int32)) = some _ from hf)
  | succ n hrc =>
    intro x5 x6 H locs ls hf hl hw
    replace hf : fn_X6_countAlike_b6 c_q0_at c_q0_light c_q1_least x2 x3 x4 (fn_X6_countAlike_l6 c_q0_at c_q0_light c_q1_least x2 x3 x4 k n) k x5 x6 = some r := hf
    unfold fn_X6_countAlike_b6 at hf
    refine lv_iload hx hb dX6_countAlike_6 (lv_at hl 6 rfl) ?_
    refine lv_bipush (v := 6) hx hb dX6_countAlike_8 (by decide) ?_
    refine lv_icmp_ge (tgt := 44) hx hb dX6_countAlike_10 (by decide) (fun hc => ?_) (fun hc => ?_)
    · replace hf := it_t hc hf
      exact hk x5 _ _ _ hf (lv_sub hl [5] rfl) hw
    · replace hf := it_f hc hf
      refine lv_iload_n hx hb dX6_countAlike_13 rfl (lv_at hl 2 rfl) ?_
      refine lv_iload hx hb dX6_countAlike_14 (lv_at hl 6 rfl) ?_
      obtain ⟨r1, hq2, hf⟩ := b1_s hf
      refine h_cSi hC hw msX6_46 (cn_X9_isIn l G x2 x6 r1 hq2) [] rfl (by decide) rfl hl.1 rfl (Nat.le_of_ble_eq_true rfl) ⟨Nat.le_of_ble_eq_true rfl, Nat.le_of_ble_eq_true rfl⟩ ⟨Nat.le_refl _, Nat.le_refl _⟩ dX6_countAlike_16 (fun H locs hw => ?_)
      refine lv_if_eq (tgt := 38) hx hb dX6_countAlike_19 (by decide) (fun hc => ?_) (fun hc => ?_)
      · replace hf := it_t hc hf
        refine lv_iinc (v := x6 + 1) (lv' := [(6, .int (x6 + 1)), (0, .ref A_q0), (1, .ref A_q1), (2, .int x2), (3, .int x3), (4, .int x4), (5, .int x5)]) hx hb dX6_countAlike_38 hl (k := 6) rfl rfl (by decide) rfl (fun ls hl => ?_)
        refine lv_goto (tgt := 6) hx hb dX6_countAlike_41 (by decide) ?_
        exact hrc x5 (x6 + 1) _ _ _ hf (lv_sub hl [1, 2, 3, 4, 5, 6, 0] rfl) hw
      · replace hf := it_f hc hf
        refine lv_aload_n hx hb dX6_countAlike_22 rfl (lv_at hl 0 rfl) ?_
        refine lv_aload_n hx hb dX6_countAlike_23 rfl (lv_at hl 1 rfl) ?_
        refine lv_iload hx hb dX6_countAlike_24 (lv_at hl 6 rfl) ?_
        refine lv_iload_n hx hb dX6_countAlike_26 rfl (lv_at hl 3 rfl) ?_
        obtain ⟨r3, hq4, hf⟩ := b1_s hf
        refine h_cVi hC hw mvX6_38 (cn_X0_lightAfter l G A_q0 A_q0_at A_q0_home A_q0_light A_q0_carries A_q0_bearer A_q1 A_q1_planks A_q1_least A_q1_neighbours c_q0_there c_q0_foggy c_q0_at c_q0_light c_q1_least x6 x3 r3 hq4) [0, 1, 2, 3, 4] rfl (by decide) 0 rfl rfl rfl hl.1 rfl (Nat.le_of_ble_eq_true rfl) ⟨Nat.le_of_ble_eq_true rfl, Nat.le_of_ble_eq_true rfl⟩ ⟨Nat.le_refl _, Nat.le_refl _⟩ dX6_countAlike_27 (fun H locs hw => ?_)
        refine lv_iload hx hb dX6_countAlike_30 (lv_at hl 4 rfl) ?_
        refine lv_icmp_ne (tgt := 38) hx hb dX6_countAlike_32 (by decide) (fun hc => ?_) (fun hc => ?_)
        · replace hf := it_f hc hf
          refine lv_iinc (v := x6 + 1) (lv' := [(6, .int (x6 + 1)), (0, .ref A_q0), (1, .ref A_q1), (2, .int x2), (3, .int x3), (4, .int x4), (5, .int x5)]) hx hb dX6_countAlike_38 hl (k := 6) rfl rfl (by decide) rfl (fun ls hl => ?_)
          refine lv_goto (tgt := 6) hx hb dX6_countAlike_41 (by decide) ?_
          exact hrc x5 (x6 + 1) _ _ _ hf (lv_sub hl [1, 2, 3, 4, 5, 6, 0] rfl) hw
        · replace hf := it_t hc hf
          refine lv_iinc (v := x5 + 1) (lv' := [(5, .int (x5 + 1)), (0, .ref A_q0), (1, .ref A_q1), (2, .int x2), (3, .int x3), (4, .int x4), (6, .int x6)]) hx hb dX6_countAlike_35 hl (k := 5) rfl rfl (by decide) rfl (fun ls hl => ?_)
          refine lv_iinc (v := x6 + 1) (lv' := [(6, .int (x6 + 1)), (5, .int (x5 + 1)), (0, .ref A_q0), (1, .ref A_q1), (2, .int x2), (3, .int x3), (4, .int x4)]) hx hb dX6_countAlike_38 hl (k := 6) rfl rfl (by decide) rfl (fun ls hl => ?_)
          refine lv_goto (tgt := 6) hx hb dX6_countAlike_41 (by decide) ?_
          exact hrc (x5 + 1) (x6 + 1) _ _ _ hf (lv_sub hl [2, 3, 4, 5, 6, 1, 0] rfl) hw
set_option maxHeartbeats 4000000 in
set_option maxRecDepth 100000 in
theorem wn_X6_countAlike {p : Program} {l : Launch} {e : Env} {s : State} {m : MethodId} {args : Array Value} {below : List Frame} {meth : Method} {c : Code} {G : gw_} {A : Nat → Prop} {Q : State → Prop} {A_q0 : Nat} {A_q0_at : Nat} {A_q0_home : Nat} {A_q0_light : Nat} {A_q0_carries : Nat} {A_q0_bearer : Nat} {A_q1 : Nat} {A_q1_planks : Nat} {A_q1_least : Nat} {A_q1_neighbours : Nat} {c_q0_there : Int32} {c_q0_foggy : Int32} {c_q0_at : Nat → Int32} {c_q0_light : Nat → Int32} {c_q1_least : Nat → Int32} {r : Int32} {x2 : Int32} {x3 : Int32} {x4 : Int32} (hC : cx_ p s m c G cX6_countAlike 7 RX6) (hret : ∀ (pc : Nat) (H : Heap) (locs : List Loc) (ls : Array Slot), decode cX6_countAlike pc = .ok (.ireturn, 1) → wd_ G A s.heap (wl_X6_countAlike G A_q0 A_q0_at A_q0_home A_q0_light A_q0_carries A_q0_bearer A_q1 A_q1_planks A_q1_least A_q1_neighbours c_q0_there c_q0_foggy c_q0_at c_q0_light c_q1_least) H locs → W p l e { frames := 2, cells := 0, slots := 0, locals := 46 } s m args below meth c H locs 0 0 Q (F0 m pc ls [.int r])) (hf : fn_X6_countAlike c_q0_at c_q0_light c_q1_least x2 x3 x4 = some r) {H : Heap} {locs : List Loc} {ls : Array Slot} (hl : lv_has ls 7 [(0, .ref A_q0), (1, .ref A_q1), (2, .int x2), (3, .int x3), (4, .int x4)]) (hw : wd_ G A s.heap (wl_X6_countAlike G A_q0 A_q0_at A_q0_home A_q0_light A_q0_carries A_q0_bearer A_q1 A_q1_planks A_q1_least A_q1_neighbours c_q0_there c_q0_foggy c_q0_at c_q0_light c_q1_least) H locs) : W p l e { frames := 2, cells := 0, slots := 0, locals := 46 } s m args below meth c H locs 0 0 Q (F0 m 0 ls []) := by
  have hx := hC.1
  have hb := hC.2.1
  unfold fn_X6_countAlike at hf
  refine lv_iconst (v := 0) hx hb dX6_countAlike_0 (by decide) ?_
  refine lv_istore (lv' := [(5, .int 0), (0, .ref A_q0), (1, .ref A_q1), (2, .int x2), (3, .int x3), (4, .int x4)]) hx hb dX6_countAlike_1 hl (by decide) rfl (fun ls hl => ?_)
  refine lv_iconst (v := 0) hx hb dX6_countAlike_3 (by decide) ?_
  refine lv_istore (lv' := [(6, .int 0), (5, .int 0), (0, .ref A_q0), (1, .ref A_q1), (2, .int x2), (3, .int x3), (4, .int x4)]) hx hb dX6_countAlike_4 hl (by decide) rfl (fun ls hl => ?_)
  refine wn_X6_countAlike_l6 hC hret (fun v5 H locs ls hf hl hw => ?_) fu_ 0 0 _ _ _ hf (lv_sub hl [2, 3, 4, 5, 6, 1, 0] rfl) hw
  refine lv_iload hx hb dX6_countAlike_44 (lv_at hl 0 rfl) ?_
  have h1_ := t1_ hf
  subst h1_
  exact hret _ _ _ _ dX6_countAlike_46 hw
set_option maxHeartbeats 4000000 in
set_option maxRecDepth 100000 in
theorem cn_X6_countAlike (l : Launch) (G : gw_) (A_q0 : Nat) (A_q0_at : Nat) (A_q0_home : Nat) (A_q0_light : Nat) (A_q0_carries : Nat) (A_q0_bearer : Nat) (A_q1 : Nat) (A_q1_planks : Nat) (A_q1_least : Nat) (A_q1_neighbours : Nat) (c_q0_there : Int32) (c_q0_foggy : Int32) (c_q0_at : Nat → Int32) (c_q0_light : Nat → Int32) (c_q1_least : Nat → Int32) (x2 : Int32) (x3 : Int32) (x4 : Int32) (r : Int32) (hf : fn_X6_countAlike c_q0_at c_q0_light c_q1_least x2 x3 x4 = some r) : ci_ l G yX6_countAlike cX6_countAlike 7 (some .int) 2 46 (wl_X6_countAlike G A_q0 A_q0_at A_q0_home A_q0_light A_q0_carries A_q0_bearer A_q1 A_q1_planks A_q1_least A_q1_neighbours c_q0_there c_q0_foggy c_q0_at c_q0_light c_q1_least) [.ref A_q0, .ref A_q1, .int x2, .int x3, .int x4] r (wl_X6_countAlike G A_q0 A_q0_at A_q0_home A_q0_light A_q0_carries A_q0_bearer A_q1 A_q1_planks A_q1_least A_q1_neighbours c_q0_there c_q0_foggy c_q0_at c_q0_light c_q1_least) := fun sz => met_intro (by decide) (Nat.le_of_ble_eq_true rfl) (fun p e s m args below meth c ls hsz hC hr hlk hnm hl hw => wn_X6_countAlike hC (fun pc H locs ls hd hw => g_iret hC hr hlk hw rfl rfl hd) hf hl hw)

theorem dX6_mostAlike_0 : decode cX6_mostAlike 0 = .ok (.iconst 0, 1) := by decide +kernel
theorem dX6_mostAlike_1 : decode cX6_mostAlike 1 = .ok (.istore 4, 2) := by decide +kernel
theorem dX6_mostAlike_3 : decode cX6_mostAlike 3 = .ok (.iconst 0, 1) := by decide +kernel
theorem dX6_mostAlike_4 : decode cX6_mostAlike 4 = .ok (.istore 5, 2) := by decide +kernel
theorem dX6_mostAlike_6 : decode cX6_mostAlike 6 = .ok (.iload 5, 2) := by decide +kernel
theorem dX6_mostAlike_8 : decode cX6_mostAlike 8 = .ok (.bipush 6, 2) := by decide +kernel
theorem dX6_mostAlike_10 : decode cX6_mostAlike 10 = .ok (.if_icmp .ge 44, 3) := by decide +kernel
theorem dX6_mostAlike_13 : decode cX6_mostAlike 13 = .ok (.iload_n 2, 1) := by decide +kernel
theorem dX6_mostAlike_14 : decode cX6_mostAlike 14 = .ok (.iload 5, 2) := by decide +kernel
theorem dX6_mostAlike_16 : decode cX6_mostAlike 16 = .ok (.invokestatic 46, 3) := by decide +kernel
theorem dX6_mostAlike_19 : decode cX6_mostAlike 19 = .ok (.ifCond .eq 29, 3) := by decide +kernel
theorem dX6_mostAlike_22 : decode cX6_mostAlike 22 = .ok (.aload_n 0, 1) := by decide +kernel
theorem dX6_mostAlike_23 : decode cX6_mostAlike 23 = .ok (.aload_n 1, 1) := by decide +kernel
theorem dX6_mostAlike_24 : decode cX6_mostAlike 24 = .ok (.iload 5, 2) := by decide +kernel
theorem dX6_mostAlike_26 : decode cX6_mostAlike 26 = .ok (.iload_n 3, 1) := by decide +kernel
theorem dX6_mostAlike_27 : decode cX6_mostAlike 27 = .ok (.invokevirtual 38, 3) := by decide +kernel
theorem dX6_mostAlike_30 : decode cX6_mostAlike 30 = .ok (.istore 6, 2) := by decide +kernel
theorem dX6_mostAlike_32 : decode cX6_mostAlike 32 = .ok (.iload 4, 2) := by decide +kernel
theorem dX6_mostAlike_34 : decode cX6_mostAlike 34 = .ok (.aload_n 0, 1) := by decide +kernel
theorem dX6_mostAlike_35 : decode cX6_mostAlike 35 = .ok (.aload_n 1, 1) := by decide +kernel
theorem dX6_mostAlike_36 : decode cX6_mostAlike 36 = .ok (.iload_n 2, 1) := by decide +kernel
theorem dX6_mostAlike_37 : decode cX6_mostAlike 37 = .ok (.iload_n 3, 1) := by decide +kernel
theorem dX6_mostAlike_38 : decode cX6_mostAlike 38 = .ok (.iload 6, 2) := by decide +kernel
theorem dX6_mostAlike_40 : decode cX6_mostAlike 40 = .ok (.invokestatic 50, 3) := by decide +kernel
theorem dX6_mostAlike_43 : decode cX6_mostAlike 43 = .ok (.invokestatic 54, 3) := by decide +kernel
theorem dX6_mostAlike_46 : decode cX6_mostAlike 46 = .ok (.istore 4, 2) := by decide +kernel
theorem dX6_mostAlike_48 : decode cX6_mostAlike 48 = .ok (.iinc 5 1, 3) := by decide +kernel
theorem dX6_mostAlike_51 : decode cX6_mostAlike 51 = .ok (.goto (-45), 3) := by decide +kernel
theorem dX6_mostAlike_54 : decode cX6_mostAlike 54 = .ok (.iload 4, 2) := by decide +kernel
theorem dX6_mostAlike_56 : decode cX6_mostAlike 56 = .ok (.ireturn, 1) := by decide +kernel
abbrev wl_X6_mostAlike (G : gw_) (A_q0 : Nat) (A_q0_at : Nat) (A_q0_home : Nat) (A_q0_light : Nat) (A_q0_carries : Nat) (A_q0_bearer : Nat) (A_q1 : Nat) (A_q1_planks : Nat) (A_q1_least : Nat) (A_q1_neighbours : Nat) (c_q0_there : Int32) (c_q0_foggy : Int32) (c_q0_at : Nat → Int32) (c_q0_light : Nat → Int32) (c_q1_least : Nat → Int32) : va_W := [ob_ A_q0 0 [.int c_q0_there, .int c_q0_foggy, .ref A_q0_at, .ref A_q0_home, .ref A_q0_light, .ref A_q0_carries, .ref A_q0_bearer], ia_ G A_q0_at 6 c_q0_at, ia_ G A_q0_light 6 c_q0_light, ob_ A_q1 8 [.ref A_q1_planks, .ref A_q1_least, .ref A_q1_neighbours], ia_ G A_q1_least 144 c_q1_least]
def fn_X6_mostAlike_b6 (c_q0_at : Nat → Int32) (c_q0_light : Nat → Int32) (c_q1_least : Nat → Int32) (x2 : Int32) (x3 : Int32) (rc : Int32 → Int32 → Option (Int32)) (k : Int32 → Option (Int32)) (x4 : Int32) (x5 : Int32) : Option (Int32) :=
  if 6 ≤ x5 then
    k x4
  else
    b1_ (fn_X9_isIn x2 x5) fun r1 =>
    if r1 = 0 then
      rc x4 (x5 + 1)
    else
      b1_ (fn_X0_lightAfter c_q0_at c_q0_light c_q1_least x5 x3) fun r3 =>
      b1_ (fn_X6_countAlike c_q0_at c_q0_light c_q1_least x2 x3 r3) fun r5 =>
      lx_ (if x4 < r5 then r5 else x4) fun y7 =>
      rc y7 (x5 + 1)
def fn_X6_mostAlike_l6 (c_q0_at : Nat → Int32) (c_q0_light : Nat → Int32) (c_q1_least : Nat → Int32) (x2 : Int32) (x3 : Int32) (k : Int32 → Option (Int32)) : Nat → Int32 → Int32 → Option (Int32)
  | 0 => fun _ _ => none
  | n + 1 => fun x4 x5 => fn_X6_mostAlike_b6 c_q0_at c_q0_light c_q1_least x2 x3 (fn_X6_mostAlike_l6 c_q0_at c_q0_light c_q1_least x2 x3 k n) k x4 x5
def fn_X6_mostAlike (c_q0_at : Nat → Int32) (c_q0_light : Nat → Int32) (c_q1_least : Nat → Int32) (x2 : Int32) (x3 : Int32) : Option (Int32) :=
  fn_X6_mostAlike_l6 c_q0_at c_q0_light c_q1_least x2 x3 (fun v8 =>
    some v8) fu_ 0 0
set_option maxHeartbeats 4000000 in
set_option maxRecDepth 100000 in
theorem wn_X6_mostAlike_l6 {p : Program} {l : Launch} {e : Env} {s : State} {m : MethodId} {args : Array Value} {below : List Frame} {meth : Method} {c : Code} {G : gw_} {A : Nat → Prop} {Q : State → Prop} {A_q0 : Nat} {A_q0_at : Nat} {A_q0_home : Nat} {A_q0_light : Nat} {A_q0_carries : Nat} {A_q0_bearer : Nat} {A_q1 : Nat} {A_q1_planks : Nat} {A_q1_least : Nat} {A_q1_neighbours : Nat} {c_q0_there : Int32} {c_q0_foggy : Int32} {c_q0_at : Nat → Int32} {c_q0_light : Nat → Int32} {c_q1_least : Nat → Int32} {r : Int32} {x2 : Int32} {x3 : Int32} {k : Int32 → Option (Int32)} (hC : cx_ p s m c G cX6_mostAlike 7 RX6) (hret : ∀ (pc : Nat) (H : Heap) (locs : List Loc) (ls : Array Slot), decode cX6_mostAlike pc = .ok (.ireturn, 1) → wd_ G A s.heap (wl_X6_mostAlike G A_q0 A_q0_at A_q0_home A_q0_light A_q0_carries A_q0_bearer A_q1 A_q1_planks A_q1_least A_q1_neighbours c_q0_there c_q0_foggy c_q0_at c_q0_light c_q1_least) H locs → W p l e { frames := 3, cells := 0, slots := 0, locals := 72 } s m args below meth c H locs 0 0 Q (F0 m pc ls [.int r])) (hk : ∀ (x4 : Int32) (H : Heap) (locs : List Loc) (ls : Array Slot), k x4 = some r → lv_has ls 7 [(4, .int x4)] → wd_ G A s.heap (wl_X6_mostAlike G A_q0 A_q0_at A_q0_home A_q0_light A_q0_carries A_q0_bearer A_q1 A_q1_planks A_q1_least A_q1_neighbours c_q0_there c_q0_foggy c_q0_at c_q0_light c_q1_least) H locs → W p l e { frames := 3, cells := 0, slots := 0, locals := 72 } s m args below meth c H locs 0 0 Q (F0 m 54 ls [])) : ∀ (n : Nat) (x4 : Int32) (x5 : Int32) (H : Heap) (locs : List Loc) (ls : Array Slot), fn_X6_mostAlike_l6 c_q0_at c_q0_light c_q1_least x2 x3 k n x4 x5 = some r → lv_has ls 7 [(0, .ref A_q0), (1, .ref A_q1), (2, .int x2), (3, .int x3), (4, .int x4), (5, .int x5)] → wd_ G A s.heap (wl_X6_mostAlike G A_q0 A_q0_at A_q0_home A_q0_light A_q0_carries A_q0_bearer A_q1 A_q1_planks A_q1_least A_q1_neighbours c_q0_there c_q0_foggy c_q0_at c_q0_light c_q1_least) H locs → W p l e { frames := 3, cells := 0, slots := 0, locals := 72 } s m args below meth c H locs 0 0 Q (F0 m 6 ls []) := by
  have hx := hC.1
  have hb := hC.2.1
  intro n
  induction n with
  | zero =>
    intro x4 x5 H locs ls hf
    cases (show (none : Option (Int32)) = some _ from hf)
  | succ n hrc =>
    intro x4 x5 H locs ls hf hl hw
    replace hf : fn_X6_mostAlike_b6 c_q0_at c_q0_light c_q1_least x2 x3 (fn_X6_mostAlike_l6 c_q0_at c_q0_light c_q1_least x2 x3 k n) k x4 x5 = some r := hf
    unfold fn_X6_mostAlike_b6 at hf
    refine lv_iload hx hb dX6_mostAlike_6 (lv_at hl 5 rfl) ?_
    refine lv_bipush (v := 6) hx hb dX6_mostAlike_8 (by decide) ?_
    refine lv_icmp_ge (tgt := 54) hx hb dX6_mostAlike_10 (by decide) (fun hc => ?_) (fun hc => ?_)
    · replace hf := it_t hc hf
      exact hk x4 _ _ _ hf (lv_sub hl [4] rfl) hw
    · replace hf := it_f hc hf
      refine lv_iload_n hx hb dX6_mostAlike_13 rfl (lv_at hl 2 rfl) ?_
      refine lv_iload hx hb dX6_mostAlike_14 (lv_at hl 5 rfl) ?_
      obtain ⟨r1, hq2, hf⟩ := b1_s hf
      refine h_cSi hC hw msX6_46 (cn_X9_isIn l G x2 x5 r1 hq2) [] rfl (by decide) rfl hl.1 rfl (Nat.le_of_ble_eq_true rfl) ⟨Nat.le_of_ble_eq_true rfl, Nat.le_of_ble_eq_true rfl⟩ ⟨Nat.le_refl _, Nat.le_refl _⟩ dX6_mostAlike_16 (fun H locs hw => ?_)
      refine lv_if_eq (tgt := 48) hx hb dX6_mostAlike_19 (by decide) (fun hc => ?_) (fun hc => ?_)
      · replace hf := it_t hc hf
        refine lv_iinc (v := x5 + 1) (lv' := [(5, .int (x5 + 1)), (0, .ref A_q0), (1, .ref A_q1), (2, .int x2), (3, .int x3), (4, .int x4)]) hx hb dX6_mostAlike_48 hl (k := 5) rfl rfl (by decide) rfl (fun ls hl => ?_)
        refine lv_goto (tgt := 6) hx hb dX6_mostAlike_51 (by decide) ?_
        exact hrc x4 (x5 + 1) _ _ _ hf (lv_sub hl [1, 2, 3, 4, 5, 0] rfl) hw
      · replace hf := it_f hc hf
        refine lv_aload_n hx hb dX6_mostAlike_22 rfl (lv_at hl 0 rfl) ?_
        refine lv_aload_n hx hb dX6_mostAlike_23 rfl (lv_at hl 1 rfl) ?_
        refine lv_iload hx hb dX6_mostAlike_24 (lv_at hl 5 rfl) ?_
        refine lv_iload_n hx hb dX6_mostAlike_26 rfl (lv_at hl 3 rfl) ?_
        obtain ⟨r3, hq4, hf⟩ := b1_s hf
        refine h_cVi hC hw mvX6_38 (cn_X0_lightAfter l G A_q0 A_q0_at A_q0_home A_q0_light A_q0_carries A_q0_bearer A_q1 A_q1_planks A_q1_least A_q1_neighbours c_q0_there c_q0_foggy c_q0_at c_q0_light c_q1_least x5 x3 r3 hq4) [0, 1, 2, 3, 4] rfl (by decide) 0 rfl rfl rfl hl.1 rfl (Nat.le_of_ble_eq_true rfl) ⟨Nat.le_of_ble_eq_true rfl, Nat.le_of_ble_eq_true rfl⟩ ⟨Nat.le_refl _, Nat.le_refl _⟩ dX6_mostAlike_27 (fun H locs hw => ?_)
        refine lv_istore (lv' := [(6, .int r3), (0, .ref A_q0), (1, .ref A_q1), (2, .int x2), (3, .int x3), (4, .int x4), (5, .int x5)]) hx hb dX6_mostAlike_30 hl (by decide) rfl (fun ls hl => ?_)
        refine lv_iload hx hb dX6_mostAlike_32 (lv_at hl 5 rfl) ?_
        refine lv_aload_n hx hb dX6_mostAlike_34 rfl (lv_at hl 1 rfl) ?_
        refine lv_aload_n hx hb dX6_mostAlike_35 rfl (lv_at hl 2 rfl) ?_
        refine lv_iload_n hx hb dX6_mostAlike_36 rfl (lv_at hl 3 rfl) ?_
        refine lv_iload_n hx hb dX6_mostAlike_37 rfl (lv_at hl 4 rfl) ?_
        refine lv_iload hx hb dX6_mostAlike_38 (lv_at hl 0 rfl) ?_
        obtain ⟨r5, hq6, hf⟩ := b1_s hf
        refine h_cSi hC hw msX6_50 (cn_X6_countAlike l G A_q0 A_q0_at A_q0_home A_q0_light A_q0_carries A_q0_bearer A_q1 A_q1_planks A_q1_least A_q1_neighbours c_q0_there c_q0_foggy c_q0_at c_q0_light c_q1_least x2 x3 r3 r5 hq6) [0, 1, 2, 3, 4] rfl (by decide) rfl hl.1 rfl (Nat.le_of_ble_eq_true rfl) ⟨Nat.le_of_ble_eq_true rfl, Nat.le_of_ble_eq_true rfl⟩ ⟨Nat.le_refl _, Nat.le_refl _⟩ dX6_mostAlike_40 (fun H locs hw => ?_)
        refine va_mmax hx hb (hC.2.2.1.trans hl.1.symm) hC.2.2.2.1 (aw_at hC.2.2.2.2.1 args _ (tb3 155 rfl rfl)) (aw_at hC.2.2.2.2.1 args _ (tb3 48 rfl rfl)) (aw_at hC.2.2.2.2.1 args _ (tb1 15 rfl rfl)) (aw_at hC.2.2.2.2.1 args _ (tb3 49 rfl rfl)) (by decide) (Nat.le_of_ble_eq_true rfl) (Nat.le_refl _) (Nat.le_refl _) dX6_mostAlike_43 ?_
        obtain ⟨y7, ey7, hf⟩ := lx_s hf
        rw [← ey7]
        refine lv_istore (lv' := [(4, .int y7), (6, .int r3), (0, .ref A_q0), (1, .ref A_q1), (2, .int x2), (3, .int x3), (5, .int x5)]) hx hb dX6_mostAlike_46 hl (by decide) rfl (fun ls hl => ?_)
        refine lv_iinc (v := x5 + 1) (lv' := [(5, .int (x5 + 1)), (4, .int y7), (6, .int r3), (0, .ref A_q0), (1, .ref A_q1), (2, .int x2), (3, .int x3)]) hx hb dX6_mostAlike_48 hl (k := 6) rfl rfl (by decide) rfl (fun ls hl => ?_)
        refine lv_goto (tgt := 6) hx hb dX6_mostAlike_51 (by decide) ?_
        exact hrc y7 (x5 + 1) _ _ _ hf (lv_sub hl [3, 4, 5, 6, 1, 0] rfl) hw
set_option maxHeartbeats 4000000 in
set_option maxRecDepth 100000 in
theorem wn_X6_mostAlike {p : Program} {l : Launch} {e : Env} {s : State} {m : MethodId} {args : Array Value} {below : List Frame} {meth : Method} {c : Code} {G : gw_} {A : Nat → Prop} {Q : State → Prop} {A_q0 : Nat} {A_q0_at : Nat} {A_q0_home : Nat} {A_q0_light : Nat} {A_q0_carries : Nat} {A_q0_bearer : Nat} {A_q1 : Nat} {A_q1_planks : Nat} {A_q1_least : Nat} {A_q1_neighbours : Nat} {c_q0_there : Int32} {c_q0_foggy : Int32} {c_q0_at : Nat → Int32} {c_q0_light : Nat → Int32} {c_q1_least : Nat → Int32} {r : Int32} {x2 : Int32} {x3 : Int32} (hC : cx_ p s m c G cX6_mostAlike 7 RX6) (hret : ∀ (pc : Nat) (H : Heap) (locs : List Loc) (ls : Array Slot), decode cX6_mostAlike pc = .ok (.ireturn, 1) → wd_ G A s.heap (wl_X6_mostAlike G A_q0 A_q0_at A_q0_home A_q0_light A_q0_carries A_q0_bearer A_q1 A_q1_planks A_q1_least A_q1_neighbours c_q0_there c_q0_foggy c_q0_at c_q0_light c_q1_least) H locs → W p l e { frames := 3, cells := 0, slots := 0, locals := 72 } s m args below meth c H locs 0 0 Q (F0 m pc ls [.int r])) (hf : fn_X6_mostAlike c_q0_at c_q0_light c_q1_least x2 x3 = some r) {H : Heap} {locs : List Loc} {ls : Array Slot} (hl : lv_has ls 7 [(0, .ref A_q0), (1, .ref A_q1), (2, .int x2), (3, .int x3)]) (hw : wd_ G A s.heap (wl_X6_mostAlike G A_q0 A_q0_at A_q0_home A_q0_light A_q0_carries A_q0_bearer A_q1 A_q1_planks A_q1_least A_q1_neighbours c_q0_there c_q0_foggy c_q0_at c_q0_light c_q1_least) H locs) : W p l e { frames := 3, cells := 0, slots := 0, locals := 72 } s m args below meth c H locs 0 0 Q (F0 m 0 ls []) := by
  have hx := hC.1
  have hb := hC.2.1
  unfold fn_X6_mostAlike at hf
  refine lv_iconst (v := 0) hx hb dX6_mostAlike_0 (by decide) ?_
  refine lv_istore (lv' := [(4, .int 0), (0, .ref A_q0), (1, .ref A_q1), (2, .int x2), (3, .int x3)]) hx hb dX6_mostAlike_1 hl (by decide) rfl (fun ls hl => ?_)
  refine lv_iconst (v := 0) hx hb dX6_mostAlike_3 (by decide) ?_
  refine lv_istore (lv' := [(5, .int 0), (4, .int 0), (0, .ref A_q0), (1, .ref A_q1), (2, .int x2), (3, .int x3)]) hx hb dX6_mostAlike_4 hl (by decide) rfl (fun ls hl => ?_)
  refine wn_X6_mostAlike_l6 hC hret (fun v8 H locs ls hf hl hw => ?_) fu_ 0 0 _ _ _ hf (lv_sub hl [2, 3, 4, 5, 1, 0] rfl) hw
  refine lv_iload hx hb dX6_mostAlike_54 (lv_at hl 0 rfl) ?_
  have h1_ := t1_ hf
  subst h1_
  exact hret _ _ _ _ dX6_mostAlike_56 hw
set_option maxHeartbeats 4000000 in
set_option maxRecDepth 100000 in
theorem cn_X6_mostAlike (l : Launch) (G : gw_) (A_q0 : Nat) (A_q0_at : Nat) (A_q0_home : Nat) (A_q0_light : Nat) (A_q0_carries : Nat) (A_q0_bearer : Nat) (A_q1 : Nat) (A_q1_planks : Nat) (A_q1_least : Nat) (A_q1_neighbours : Nat) (c_q0_there : Int32) (c_q0_foggy : Int32) (c_q0_at : Nat → Int32) (c_q0_light : Nat → Int32) (c_q1_least : Nat → Int32) (x2 : Int32) (x3 : Int32) (r : Int32) (hf : fn_X6_mostAlike c_q0_at c_q0_light c_q1_least x2 x3 = some r) : ci_ l G yX6_mostAlike cX6_mostAlike 7 (some .int) 3 72 (wl_X6_mostAlike G A_q0 A_q0_at A_q0_home A_q0_light A_q0_carries A_q0_bearer A_q1 A_q1_planks A_q1_least A_q1_neighbours c_q0_there c_q0_foggy c_q0_at c_q0_light c_q1_least) [.ref A_q0, .ref A_q1, .int x2, .int x3] r (wl_X6_mostAlike G A_q0 A_q0_at A_q0_home A_q0_light A_q0_carries A_q0_bearer A_q1 A_q1_planks A_q1_least A_q1_neighbours c_q0_there c_q0_foggy c_q0_at c_q0_light c_q1_least) := fun sz => met_intro (by decide) (Nat.le_of_ble_eq_true rfl) (fun p e s m args below meth c ls hsz hC hr hlk hnm hl hw => wn_X6_mostAlike hC (fun pc H locs ls hd hw => g_iret hC hr hlk hw rfl rfl hd) hf hl hw)

theorem dX6_bestQuestion_0 : decode cX6_bestQuestion 0 = .ok (.bipush (-6), 2) := by decide +kernel
theorem dX6_bestQuestion_2 : decode cX6_bestQuestion 2 = .ok (.istore_n 3, 1) := by decide +kernel
theorem dX6_bestQuestion_3 : decode cX6_bestQuestion 3 = .ok (.bipush 7, 2) := by decide +kernel
theorem dX6_bestQuestion_5 : decode cX6_bestQuestion 5 = .ok (.istore 4, 2) := by decide +kernel
theorem dX6_bestQuestion_7 : decode cX6_bestQuestion 7 = .ok (.iconst 0, 1) := by decide +kernel
theorem dX6_bestQuestion_8 : decode cX6_bestQuestion 8 = .ok (.istore 5, 2) := by decide +kernel
theorem dX6_bestQuestion_10 : decode cX6_bestQuestion 10 = .ok (.iload 5, 2) := by decide +kernel
theorem dX6_bestQuestion_12 : decode cX6_bestQuestion 12 = .ok (.bipush 12, 2) := by decide +kernel
theorem dX6_bestQuestion_14 : decode cX6_bestQuestion 14 = .ok (.if_icmp .ge 33, 3) := by decide +kernel
theorem dX6_bestQuestion_17 : decode cX6_bestQuestion 17 = .ok (.aload_n 0, 1) := by decide +kernel
theorem dX6_bestQuestion_18 : decode cX6_bestQuestion 18 = .ok (.aload_n 1, 1) := by decide +kernel
theorem dX6_bestQuestion_19 : decode cX6_bestQuestion 19 = .ok (.iload_n 2, 1) := by decide +kernel
theorem dX6_bestQuestion_20 : decode cX6_bestQuestion 20 = .ok (.iload 5, 2) := by decide +kernel
theorem dX6_bestQuestion_22 : decode cX6_bestQuestion 22 = .ok (.invokestatic 42, 3) := by decide +kernel
theorem dX6_bestQuestion_25 : decode cX6_bestQuestion 25 = .ok (.istore 6, 2) := by decide +kernel
theorem dX6_bestQuestion_27 : decode cX6_bestQuestion 27 = .ok (.iload 6, 2) := by decide +kernel
theorem dX6_bestQuestion_29 : decode cX6_bestQuestion 29 = .ok (.iload 4, 2) := by decide +kernel
theorem dX6_bestQuestion_31 : decode cX6_bestQuestion 31 = .ok (.if_icmp .ge 10, 3) := by decide +kernel
theorem dX6_bestQuestion_34 : decode cX6_bestQuestion 34 = .ok (.iload 5, 2) := by decide +kernel
theorem dX6_bestQuestion_36 : decode cX6_bestQuestion 36 = .ok (.istore_n 3, 1) := by decide +kernel
theorem dX6_bestQuestion_37 : decode cX6_bestQuestion 37 = .ok (.iload 6, 2) := by decide +kernel
theorem dX6_bestQuestion_39 : decode cX6_bestQuestion 39 = .ok (.istore 4, 2) := by decide +kernel
theorem dX6_bestQuestion_41 : decode cX6_bestQuestion 41 = .ok (.iinc 5 1, 3) := by decide +kernel
theorem dX6_bestQuestion_44 : decode cX6_bestQuestion 44 = .ok (.goto (-34), 3) := by decide +kernel
theorem dX6_bestQuestion_47 : decode cX6_bestQuestion 47 = .ok (.iload_n 3, 1) := by decide +kernel
theorem dX6_bestQuestion_48 : decode cX6_bestQuestion 48 = .ok (.ireturn, 1) := by decide +kernel
abbrev wl_X6_bestQuestion (G : gw_) (A_q0 : Nat) (A_q0_at : Nat) (A_q0_home : Nat) (A_q0_light : Nat) (A_q0_carries : Nat) (A_q0_bearer : Nat) (A_q1 : Nat) (A_q1_planks : Nat) (A_q1_least : Nat) (A_q1_neighbours : Nat) (c_q0_there : Int32) (c_q0_foggy : Int32) (c_q0_at : Nat → Int32) (c_q0_light : Nat → Int32) (c_q1_least : Nat → Int32) : va_W := [ob_ A_q0 0 [.int c_q0_there, .int c_q0_foggy, .ref A_q0_at, .ref A_q0_home, .ref A_q0_light, .ref A_q0_carries, .ref A_q0_bearer], ia_ G A_q0_at 6 c_q0_at, ia_ G A_q0_light 6 c_q0_light, ob_ A_q1 8 [.ref A_q1_planks, .ref A_q1_least, .ref A_q1_neighbours], ia_ G A_q1_least 144 c_q1_least]
def fn_X6_bestQuestion_b10 (c_q0_at : Nat → Int32) (c_q0_light : Nat → Int32) (c_q1_least : Nat → Int32) (x2 : Int32) (rc : Int32 → Int32 → Int32 → Option (Int32)) (k : Int32 → Option (Int32)) (x3 : Int32) (x4 : Int32) (x5 : Int32) : Option (Int32) :=
  if 12 ≤ x5 then
    k x3
  else
    b1_ (fn_X6_mostAlike c_q0_at c_q0_light c_q1_least x2 x5) fun r1 =>
    if x4 ≤ r1 then
      rc x3 x4 (x5 + 1)
    else
      rc x5 r1 (x5 + 1)
def fn_X6_bestQuestion_l10 (c_q0_at : Nat → Int32) (c_q0_light : Nat → Int32) (c_q1_least : Nat → Int32) (x2 : Int32) (k : Int32 → Option (Int32)) : Nat → Int32 → Int32 → Int32 → Option (Int32)
  | 0 => fun _ _ _ => none
  | n + 1 => fun x3 x4 x5 => fn_X6_bestQuestion_b10 c_q0_at c_q0_light c_q1_least x2 (fn_X6_bestQuestion_l10 c_q0_at c_q0_light c_q1_least x2 k n) k x3 x4 x5
def fn_X6_bestQuestion (c_q0_at : Nat → Int32) (c_q0_light : Nat → Int32) (c_q1_least : Nat → Int32) (x2 : Int32) : Option (Int32) :=
  fn_X6_bestQuestion_l10 c_q0_at c_q0_light c_q1_least x2 (fun v3 =>
    some v3) fu_ (-6) 7 0
set_option maxHeartbeats 4000000 in
set_option maxRecDepth 100000 in
theorem wn_X6_bestQuestion_l10 {p : Program} {l : Launch} {e : Env} {s : State} {m : MethodId} {args : Array Value} {below : List Frame} {meth : Method} {c : Code} {G : gw_} {A : Nat → Prop} {Q : State → Prop} {A_q0 : Nat} {A_q0_at : Nat} {A_q0_home : Nat} {A_q0_light : Nat} {A_q0_carries : Nat} {A_q0_bearer : Nat} {A_q1 : Nat} {A_q1_planks : Nat} {A_q1_least : Nat} {A_q1_neighbours : Nat} {c_q0_there : Int32} {c_q0_foggy : Int32} {c_q0_at : Nat → Int32} {c_q0_light : Nat → Int32} {c_q1_least : Nat → Int32} {r : Int32} {x2 : Int32} {k : Int32 → Option (Int32)} (hC : cx_ p s m c G cX6_bestQuestion 7 RX6) (hret : ∀ (pc : Nat) (H : Heap) (locs : List Loc) (ls : Array Slot), decode cX6_bestQuestion pc = .ok (.ireturn, 1) → wd_ G A s.heap (wl_X6_bestQuestion G A_q0 A_q0_at A_q0_home A_q0_light A_q0_carries A_q0_bearer A_q1 A_q1_planks A_q1_least A_q1_neighbours c_q0_there c_q0_foggy c_q0_at c_q0_light c_q1_least) H locs → W p l e { frames := 4, cells := 0, slots := 0, locals := 98 } s m args below meth c H locs 0 0 Q (F0 m pc ls [.int r])) (hk : ∀ (x3 : Int32) (H : Heap) (locs : List Loc) (ls : Array Slot), k x3 = some r → lv_has ls 7 [(3, .int x3)] → wd_ G A s.heap (wl_X6_bestQuestion G A_q0 A_q0_at A_q0_home A_q0_light A_q0_carries A_q0_bearer A_q1 A_q1_planks A_q1_least A_q1_neighbours c_q0_there c_q0_foggy c_q0_at c_q0_light c_q1_least) H locs → W p l e { frames := 4, cells := 0, slots := 0, locals := 98 } s m args below meth c H locs 0 0 Q (F0 m 47 ls [])) : ∀ (n : Nat) (x3 : Int32) (x4 : Int32) (x5 : Int32) (H : Heap) (locs : List Loc) (ls : Array Slot), fn_X6_bestQuestion_l10 c_q0_at c_q0_light c_q1_least x2 k n x3 x4 x5 = some r → lv_has ls 7 [(0, .ref A_q0), (1, .ref A_q1), (2, .int x2), (3, .int x3), (4, .int x4), (5, .int x5)] → wd_ G A s.heap (wl_X6_bestQuestion G A_q0 A_q0_at A_q0_home A_q0_light A_q0_carries A_q0_bearer A_q1 A_q1_planks A_q1_least A_q1_neighbours c_q0_there c_q0_foggy c_q0_at c_q0_light c_q1_least) H locs → W p l e { frames := 4, cells := 0, slots := 0, locals := 98 } s m args below meth c H locs 0 0 Q (F0 m 10 ls []) := by
  have hx := hC.1
  have hb := hC.2.1
  intro n
  induction n with
  | zero =>
    intro x3 x4 x5 H locs ls hf
    cases (show (none : Option (Int32)) = some _ from hf)
  | succ n hrc =>
    intro x3 x4 x5 H locs ls hf hl hw
    replace hf : fn_X6_bestQuestion_b10 c_q0_at c_q0_light c_q1_least x2 (fn_X6_bestQuestion_l10 c_q0_at c_q0_light c_q1_least x2 k n) k x3 x4 x5 = some r := hf
    unfold fn_X6_bestQuestion_b10 at hf
    refine lv_iload hx hb dX6_bestQuestion_10 (lv_at hl 5 rfl) ?_
    refine lv_bipush (v := 12) hx hb dX6_bestQuestion_12 (by decide) ?_
    refine lv_icmp_ge (tgt := 47) hx hb dX6_bestQuestion_14 (by decide) (fun hc => ?_) (fun hc => ?_)
    · replace hf := it_t hc hf
      exact hk x3 _ _ _ hf (lv_sub hl [3] rfl) hw
    · replace hf := it_f hc hf
      refine lv_aload_n hx hb dX6_bestQuestion_17 rfl (lv_at hl 0 rfl) ?_
      refine lv_aload_n hx hb dX6_bestQuestion_18 rfl (lv_at hl 1 rfl) ?_
      refine lv_iload_n hx hb dX6_bestQuestion_19 rfl (lv_at hl 2 rfl) ?_
      refine lv_iload hx hb dX6_bestQuestion_20 (lv_at hl 5 rfl) ?_
      obtain ⟨r1, hq2, hf⟩ := b1_s hf
      refine h_cSi hC hw msX6_42 (cn_X6_mostAlike l G A_q0 A_q0_at A_q0_home A_q0_light A_q0_carries A_q0_bearer A_q1 A_q1_planks A_q1_least A_q1_neighbours c_q0_there c_q0_foggy c_q0_at c_q0_light c_q1_least x2 x5 r1 hq2) [0, 1, 2, 3, 4] rfl (by decide) rfl hl.1 rfl (Nat.le_of_ble_eq_true rfl) ⟨Nat.le_of_ble_eq_true rfl, Nat.le_of_ble_eq_true rfl⟩ ⟨Nat.le_refl _, Nat.le_refl _⟩ dX6_bestQuestion_22 (fun H locs hw => ?_)
      refine lv_istore (lv' := [(6, .int r1), (0, .ref A_q0), (1, .ref A_q1), (2, .int x2), (3, .int x3), (4, .int x4), (5, .int x5)]) hx hb dX6_bestQuestion_25 hl (by decide) rfl (fun ls hl => ?_)
      refine lv_iload hx hb dX6_bestQuestion_27 (lv_at hl 0 rfl) ?_
      refine lv_iload hx hb dX6_bestQuestion_29 (lv_at hl 5 rfl) ?_
      refine lv_icmp_ge (tgt := 41) hx hb dX6_bestQuestion_31 (by decide) (fun hc => ?_) (fun hc => ?_)
      · replace hf := it_t hc hf
        refine lv_iinc (v := x5 + 1) (lv' := [(5, .int (x5 + 1)), (6, .int r1), (0, .ref A_q0), (1, .ref A_q1), (2, .int x2), (3, .int x3), (4, .int x4)]) hx hb dX6_bestQuestion_41 hl (k := 6) rfl rfl (by decide) rfl (fun ls hl => ?_)
        refine lv_goto (tgt := 10) hx hb dX6_bestQuestion_44 (by decide) ?_
        exact hrc x3 x4 (x5 + 1) _ _ _ hf (lv_sub hl [2, 3, 4, 5, 6, 0] rfl) hw
      · replace hf := it_f hc hf
        refine lv_iload hx hb dX6_bestQuestion_34 (lv_at hl 6 rfl) ?_
        refine lv_istore_n (lv' := [(3, .int x5), (6, .int r1), (0, .ref A_q0), (1, .ref A_q1), (2, .int x2), (4, .int x4), (5, .int x5)]) hx hb dX6_bestQuestion_36 rfl hl (by decide) rfl (fun ls hl => ?_)
        refine lv_iload hx hb dX6_bestQuestion_37 (lv_at hl 1 rfl) ?_
        refine lv_istore (lv' := [(4, .int r1), (3, .int x5), (6, .int r1), (0, .ref A_q0), (1, .ref A_q1), (2, .int x2), (5, .int x5)]) hx hb dX6_bestQuestion_39 hl (by decide) rfl (fun ls hl => ?_)
        refine lv_iinc (v := x5 + 1) (lv' := [(5, .int (x5 + 1)), (4, .int r1), (3, .int x5), (6, .int r1), (0, .ref A_q0), (1, .ref A_q1), (2, .int x2)]) hx hb dX6_bestQuestion_41 hl (k := 6) rfl rfl (by decide) rfl (fun ls hl => ?_)
        refine lv_goto (tgt := 10) hx hb dX6_bestQuestion_44 (by decide) ?_
        exact hrc x5 r1 (x5 + 1) _ _ _ hf (lv_sub hl [4, 5, 6, 2, 1, 0] rfl) hw
set_option maxHeartbeats 4000000 in
set_option maxRecDepth 100000 in
theorem wn_X6_bestQuestion {p : Program} {l : Launch} {e : Env} {s : State} {m : MethodId} {args : Array Value} {below : List Frame} {meth : Method} {c : Code} {G : gw_} {A : Nat → Prop} {Q : State → Prop} {A_q0 : Nat} {A_q0_at : Nat} {A_q0_home : Nat} {A_q0_light : Nat} {A_q0_carries : Nat} {A_q0_bearer : Nat} {A_q1 : Nat} {A_q1_planks : Nat} {A_q1_least : Nat} {A_q1_neighbours : Nat} {c_q0_there : Int32} {c_q0_foggy : Int32} {c_q0_at : Nat → Int32} {c_q0_light : Nat → Int32} {c_q1_least : Nat → Int32} {r : Int32} {x2 : Int32} (hC : cx_ p s m c G cX6_bestQuestion 7 RX6) (hret : ∀ (pc : Nat) (H : Heap) (locs : List Loc) (ls : Array Slot), decode cX6_bestQuestion pc = .ok (.ireturn, 1) → wd_ G A s.heap (wl_X6_bestQuestion G A_q0 A_q0_at A_q0_home A_q0_light A_q0_carries A_q0_bearer A_q1 A_q1_planks A_q1_least A_q1_neighbours c_q0_there c_q0_foggy c_q0_at c_q0_light c_q1_least) H locs → W p l e { frames := 4, cells := 0, slots := 0, locals := 98 } s m args below meth c H locs 0 0 Q (F0 m pc ls [.int r])) (hf : fn_X6_bestQuestion c_q0_at c_q0_light c_q1_least x2 = some r) {H : Heap} {locs : List Loc} {ls : Array Slot} (hl : lv_has ls 7 [(0, .ref A_q0), (1, .ref A_q1), (2, .int x2)]) (hw : wd_ G A s.heap (wl_X6_bestQuestion G A_q0 A_q0_at A_q0_home A_q0_light A_q0_carries A_q0_bearer A_q1 A_q1_planks A_q1_least A_q1_neighbours c_q0_there c_q0_foggy c_q0_at c_q0_light c_q1_least) H locs) : W p l e { frames := 4, cells := 0, slots := 0, locals := 98 } s m args below meth c H locs 0 0 Q (F0 m 0 ls []) := by
  have hx := hC.1
  have hb := hC.2.1
  unfold fn_X6_bestQuestion at hf
  refine lv_bipush (v := (-6)) hx hb dX6_bestQuestion_0 (by decide) ?_
  refine lv_istore_n (lv' := [(3, .int (-6)), (0, .ref A_q0), (1, .ref A_q1), (2, .int x2)]) hx hb dX6_bestQuestion_2 rfl hl (by decide) rfl (fun ls hl => ?_)
  refine lv_bipush (v := 7) hx hb dX6_bestQuestion_3 (by decide) ?_
  refine lv_istore (lv' := [(4, .int 7), (3, .int (-6)), (0, .ref A_q0), (1, .ref A_q1), (2, .int x2)]) hx hb dX6_bestQuestion_5 hl (by decide) rfl (fun ls hl => ?_)
  refine lv_iconst (v := 0) hx hb dX6_bestQuestion_7 (by decide) ?_
  refine lv_istore (lv' := [(5, .int 0), (4, .int 7), (3, .int (-6)), (0, .ref A_q0), (1, .ref A_q1), (2, .int x2)]) hx hb dX6_bestQuestion_8 hl (by decide) rfl (fun ls hl => ?_)
  refine wn_X6_bestQuestion_l10 hC hret (fun v3 H locs ls hf hl hw => ?_) fu_ (-6) 7 0 _ _ _ hf (lv_sub hl [3, 4, 5, 2, 1, 0] rfl) hw
  refine lv_iload_n hx hb dX6_bestQuestion_47 rfl (lv_at hl 0 rfl) ?_
  have h1_ := t1_ hf
  subst h1_
  exact hret _ _ _ _ dX6_bestQuestion_48 hw
set_option maxHeartbeats 4000000 in
set_option maxRecDepth 100000 in
theorem cn_X6_bestQuestion (l : Launch) (G : gw_) (A_q0 : Nat) (A_q0_at : Nat) (A_q0_home : Nat) (A_q0_light : Nat) (A_q0_carries : Nat) (A_q0_bearer : Nat) (A_q1 : Nat) (A_q1_planks : Nat) (A_q1_least : Nat) (A_q1_neighbours : Nat) (c_q0_there : Int32) (c_q0_foggy : Int32) (c_q0_at : Nat → Int32) (c_q0_light : Nat → Int32) (c_q1_least : Nat → Int32) (x2 : Int32) (r : Int32) (hf : fn_X6_bestQuestion c_q0_at c_q0_light c_q1_least x2 = some r) : ci_ l G yX6_bestQuestion cX6_bestQuestion 7 (some .int) 4 98 (wl_X6_bestQuestion G A_q0 A_q0_at A_q0_home A_q0_light A_q0_carries A_q0_bearer A_q1 A_q1_planks A_q1_least A_q1_neighbours c_q0_there c_q0_foggy c_q0_at c_q0_light c_q1_least) [.ref A_q0, .ref A_q1, .int x2] r (wl_X6_bestQuestion G A_q0 A_q0_at A_q0_home A_q0_light A_q0_carries A_q0_bearer A_q1 A_q1_planks A_q1_least A_q1_neighbours c_q0_there c_q0_foggy c_q0_at c_q0_light c_q1_least) := fun sz => met_intro (by decide) (Nat.le_of_ble_eq_true rfl) (fun p e s m args below meth c ls hsz hC hr hlk hnm hl hw => wn_X6_bestQuestion hC (fun pc H locs ls hd hw => g_iret hC hr hlk hw rfl rfl hd) hf hl hw)

theorem dX7_listStops_0 : decode cX7_listStops 0 = .ok (.iconst 0, 1) := by decide +kernel
theorem dX7_listStops_1 : decode cX7_listStops 1 = .ok (.istore_n 2, 1) := by decide +kernel
theorem dX7_listStops_2 : decode cX7_listStops 2 = .ok (.iconst 0, 1) := by decide +kernel
theorem dX7_listStops_3 : decode cX7_listStops 3 = .ok (.istore_n 3, 1) := by decide +kernel
theorem dX7_listStops_4 : decode cX7_listStops 4 = .ok (.iload_n 3, 1) := by decide +kernel
theorem dX7_listStops_5 : decode cX7_listStops 5 = .ok (.bipush 12, 2) := by decide +kernel
theorem dX7_listStops_7 : decode cX7_listStops 7 = .ok (.if_icmp .ge 33, 3) := by decide +kernel
theorem dX7_listStops_10 : decode cX7_listStops 10 = .ok (.iload_n 1, 1) := by decide +kernel
theorem dX7_listStops_11 : decode cX7_listStops 11 = .ok (.iload_n 3, 1) := by decide +kernel
theorem dX7_listStops_12 : decode cX7_listStops 12 = .ok (.invokestatic 29, 3) := by decide +kernel
theorem dX7_listStops_15 : decode cX7_listStops 15 = .ok (.ifCond .eq 19, 3) := by decide +kernel
theorem dX7_listStops_18 : decode cX7_listStops 18 = .ok (.iload_n 2, 1) := by decide +kernel
theorem dX7_listStops_19 : decode cX7_listStops 19 = .ok (.bipush 6, 2) := by decide +kernel
theorem dX7_listStops_21 : decode cX7_listStops 21 = .ok (.if_icmp .ge 13, 3) := by decide +kernel
theorem dX7_listStops_24 : decode cX7_listStops 24 = .ok (.aload_n 0, 1) := by decide +kernel
theorem dX7_listStops_25 : decode cX7_listStops 25 = .ok (.getfield 18, 3) := by decide +kernel
theorem dX7_listStops_28 : decode cX7_listStops 28 = .ok (.iload_n 2, 1) := by decide +kernel
theorem dX7_listStops_29 : decode cX7_listStops 29 = .ok (.iload_n 3, 1) := by decide +kernel
theorem dX7_listStops_30 : decode cX7_listStops 30 = .ok (.iastore, 1) := by decide +kernel
theorem dX7_listStops_31 : decode cX7_listStops 31 = .ok (.iinc 2 1, 3) := by decide +kernel
theorem dX7_listStops_34 : decode cX7_listStops 34 = .ok (.iinc 3 1, 3) := by decide +kernel
theorem dX7_listStops_37 : decode cX7_listStops 37 = .ok (.goto (-33), 3) := by decide +kernel
theorem dX7_listStops_40 : decode cX7_listStops 40 = .ok (.iload_n 2, 1) := by decide +kernel
theorem dX7_listStops_41 : decode cX7_listStops 41 = .ok (.ireturn, 1) := by decide +kernel
abbrev wl_X7_listStops (G : gw_) (A_t : Nat) (A_t_stops : Nat) (A_t_rest : Nat) (c_t_costs : Int32) (c_t_firstStop : Int32) (c_t_stops : Nat → Int32) : va_W := [ob_ A_t 7 [.int c_t_costs, .int c_t_firstStop, .ref A_t_stops, .ref A_t_rest], ia_ G A_t_stops 6 c_t_stops]
def fn_X7_listStops_b4 (x1 : Int32) (rc : Int32 → Int32 → (Nat → Int32) → Option (Int32 × (Nat → Int32))) (k : Int32 → (Nat → Int32) → Option (Int32 × (Nat → Int32))) (x2 : Int32) (x3 : Int32) (c_t_stops : Nat → Int32) : Option (Int32 × (Nat → Int32)) :=
  if 12 ≤ x3 then
    k x2 c_t_stops
  else
    b1_ (fn_X9_isIn x1 x3) fun r1 =>
    if r1 = 0 then
      rc x2 (x3 + 1) c_t_stops
    else
      if 6 ≤ x2 then
        rc x2 (x3 + 1) c_t_stops
      else
        ck_ x2 6 <|
        lx_ (upd c_t_stops (Int32.toNatClampNeg x2) x3) fun f3 =>
        rc (x2 + 1) (x3 + 1) f3
def fn_X7_listStops_l4 (x1 : Int32) (k : Int32 → (Nat → Int32) → Option (Int32 × (Nat → Int32))) : Nat → Int32 → Int32 → (Nat → Int32) → Option (Int32 × (Nat → Int32))
  | 0 => fun _ _ _ => none
  | n + 1 => fun x2 x3 c_t_stops => fn_X7_listStops_b4 x1 (fn_X7_listStops_l4 x1 k n) k x2 x3 c_t_stops
def fn_X7_listStops (c_t_stops : Nat → Int32) (x1 : Int32) : Option (Int32 × (Nat → Int32)) :=
  fn_X7_listStops_l4 x1 (fun v4 v5 =>
    some (v4, v5)) fu_ 0 0 c_t_stops
set_option maxHeartbeats 4000000 in
set_option maxRecDepth 100000 in
theorem wn_X7_listStops_l4 {p : Program} {l : Launch} {e : Env} {s : State} {m : MethodId} {args : Array Value} {below : List Frame} {meth : Method} {c : Code} {G : gw_} {A : Nat → Prop} {Q : State → Prop} {A_t : Nat} {A_t_stops : Nat} {A_t_rest : Nat} {c_t_costs : Int32} {c_t_firstStop : Int32} {z_t_stops : Nat → Int32} {r : Int32} {x1 : Int32} {k : Int32 → (Nat → Int32) → Option (Int32 × (Nat → Int32))} (hC : cx_ p s m c G cX7_listStops 4 RX7) (hret : ∀ (pc : Nat) (H : Heap) (locs : List Loc) (ls : Array Slot), decode cX7_listStops pc = .ok (.ireturn, 1) → wd_ G A s.heap (wl_X7_listStops G A_t A_t_stops A_t_rest c_t_costs c_t_firstStop z_t_stops) H locs → W p l e { frames := 1, cells := 0, slots := 0, locals := 21 } s m args below meth c H locs 0 0 Q (F0 m pc ls [.int r])) (hk : ∀ (x2 : Int32) (c_t_stops : Nat → Int32) (H : Heap) (locs : List Loc) (ls : Array Slot), k x2 c_t_stops = some (r, z_t_stops) → lv_has ls 4 [(2, .int x2)] → wd_ G A s.heap (wl_X7_listStops G A_t A_t_stops A_t_rest c_t_costs c_t_firstStop c_t_stops) H locs → W p l e { frames := 1, cells := 0, slots := 0, locals := 21 } s m args below meth c H locs 0 0 Q (F0 m 40 ls [])) : ∀ (n : Nat) (x2 : Int32) (x3 : Int32) (c_t_stops : Nat → Int32) (H : Heap) (locs : List Loc) (ls : Array Slot), fn_X7_listStops_l4 x1 k n x2 x3 c_t_stops = some (r, z_t_stops) → lv_has ls 4 [(0, .ref A_t), (1, .int x1), (2, .int x2), (3, .int x3)] → wd_ G A s.heap (wl_X7_listStops G A_t A_t_stops A_t_rest c_t_costs c_t_firstStop c_t_stops) H locs → W p l e { frames := 1, cells := 0, slots := 0, locals := 21 } s m args below meth c H locs 0 0 Q (F0 m 4 ls []) := by
  have hx := hC.1
  have hb := hC.2.1
  intro n
  induction n with
  | zero =>
    intro x2 x3 c_t_stops H locs ls hf
    cases (show (none : Option (Int32 × (Nat → Int32))) = some _ from hf)
  | succ n hrc =>
    intro x2 x3 c_t_stops H locs ls hf hl hw
    replace hf : fn_X7_listStops_b4 x1 (fn_X7_listStops_l4 x1 k n) k x2 x3 c_t_stops = some (r, z_t_stops) := hf
    unfold fn_X7_listStops_b4 at hf
    refine lv_iload_n hx hb dX7_listStops_4 rfl (lv_at hl 3 rfl) ?_
    refine lv_bipush (v := 12) hx hb dX7_listStops_5 (by decide) ?_
    refine lv_icmp_ge (tgt := 40) hx hb dX7_listStops_7 (by decide) (fun hc => ?_) (fun hc => ?_)
    · replace hf := it_t hc hf
      exact hk x2 c_t_stops _ _ _ hf (lv_sub hl [2] rfl) hw
    · replace hf := it_f hc hf
      refine lv_iload_n hx hb dX7_listStops_10 rfl (lv_at hl 1 rfl) ?_
      refine lv_iload_n hx hb dX7_listStops_11 rfl (lv_at hl 3 rfl) ?_
      obtain ⟨r1, hq2, hf⟩ := b1_s hf
      refine h_cSi hC hw msX7_29 (cn_X9_isIn l G x1 x3 r1 hq2) [] rfl (by decide) rfl hl.1 rfl (Nat.le_of_ble_eq_true rfl) ⟨Nat.le_of_ble_eq_true rfl, Nat.le_of_ble_eq_true rfl⟩ ⟨Nat.le_refl _, Nat.le_refl _⟩ dX7_listStops_12 (fun H locs hw => ?_)
      refine lv_if_eq (tgt := 34) hx hb dX7_listStops_15 (by decide) (fun hc => ?_) (fun hc => ?_)
      · replace hf := it_t hc hf
        refine lv_iinc (v := x3 + 1) (lv' := [(3, .int (x3 + 1)), (0, .ref A_t), (1, .int x1), (2, .int x2)]) hx hb dX7_listStops_34 hl (k := 3) rfl rfl (by decide) rfl (fun ls hl => ?_)
        refine lv_goto (tgt := 4) hx hb dX7_listStops_37 (by decide) ?_
        exact hrc x2 (x3 + 1) c_t_stops _ _ _ hf (lv_sub hl [1, 2, 3, 0] rfl) hw
      · replace hf := it_f hc hf
        refine lv_iload_n hx hb dX7_listStops_18 rfl (lv_at hl 2 rfl) ?_
        refine lv_bipush (v := 6) hx hb dX7_listStops_19 (by decide) ?_
        refine lv_icmp_ge (tgt := 34) hx hb dX7_listStops_21 (by decide) (fun hc => ?_) (fun hc => ?_)
        · replace hf := it_t hc hf
          refine lv_iinc (v := x3 + 1) (lv' := [(3, .int (x3 + 1)), (0, .ref A_t), (1, .int x1), (2, .int x2)]) hx hb dX7_listStops_34 hl (k := 3) rfl rfl (by decide) rfl (fun ls hl => ?_)
          refine lv_goto (tgt := 4) hx hb dX7_listStops_37 (by decide) ?_
          exact hrc x2 (x3 + 1) c_t_stops _ _ _ hf (lv_sub hl [1, 2, 3, 0] rfl) hw
        · replace hf := it_f hc hf
          refine lv_aload_n hx hb dX7_listStops_24 rfl (lv_at hl 0 rfl) ?_
          refine g_get hC hw fkX7_18 0 rfl rfl dX7_listStops_25 ?_
          refine lv_iload_n hx hb dX7_listStops_28 rfl (lv_at hl 2 rfl) ?_
          refine lv_iload_n hx hb dX7_listStops_29 rfl (lv_at hl 3 rfl) ?_
          obtain ⟨hi, hf⟩ := ck_s hf
          obtain ⟨f3, ef3, hf⟩ := lx_s hf
          refine g_iast hC hw 1 rfl hi ef3 dX7_listStops_30 (fun H locs hw => ?_)
          have hw : wd_ G A s.heap (wl_X7_listStops G A_t A_t_stops A_t_rest c_t_costs c_t_firstStop f3) H locs := hw
          refine lv_iinc (v := x2 + 1) (lv' := [(2, .int (x2 + 1)), (0, .ref A_t), (1, .int x1), (3, .int x3)]) hx hb dX7_listStops_31 hl (k := 2) rfl rfl (by decide) rfl (fun ls hl => ?_)
          refine lv_iinc (v := x3 + 1) (lv' := [(3, .int (x3 + 1)), (2, .int (x2 + 1)), (0, .ref A_t), (1, .int x1)]) hx hb dX7_listStops_34 hl (k := 3) rfl rfl (by decide) rfl (fun ls hl => ?_)
          refine lv_goto (tgt := 4) hx hb dX7_listStops_37 (by decide) ?_
          exact hrc (x2 + 1) (x3 + 1) f3 _ _ _ hf (lv_sub hl [2, 3, 1, 0] rfl) hw
set_option maxHeartbeats 4000000 in
set_option maxRecDepth 100000 in
theorem wn_X7_listStops {p : Program} {l : Launch} {e : Env} {s : State} {m : MethodId} {args : Array Value} {below : List Frame} {meth : Method} {c : Code} {G : gw_} {A : Nat → Prop} {Q : State → Prop} {A_t : Nat} {A_t_stops : Nat} {A_t_rest : Nat} {c_t_costs : Int32} {c_t_firstStop : Int32} {c_t_stops : Nat → Int32} {z_t_stops : Nat → Int32} {r : Int32} {x1 : Int32} (hC : cx_ p s m c G cX7_listStops 4 RX7) (hret : ∀ (pc : Nat) (H : Heap) (locs : List Loc) (ls : Array Slot), decode cX7_listStops pc = .ok (.ireturn, 1) → wd_ G A s.heap (wl_X7_listStops G A_t A_t_stops A_t_rest c_t_costs c_t_firstStop z_t_stops) H locs → W p l e { frames := 1, cells := 0, slots := 0, locals := 21 } s m args below meth c H locs 0 0 Q (F0 m pc ls [.int r])) (hf : fn_X7_listStops c_t_stops x1 = some (r, z_t_stops)) {H : Heap} {locs : List Loc} {ls : Array Slot} (hl : lv_has ls 4 [(0, .ref A_t), (1, .int x1)]) (hw : wd_ G A s.heap (wl_X7_listStops G A_t A_t_stops A_t_rest c_t_costs c_t_firstStop c_t_stops) H locs) : W p l e { frames := 1, cells := 0, slots := 0, locals := 21 } s m args below meth c H locs 0 0 Q (F0 m 0 ls []) := by
  have hx := hC.1
  have hb := hC.2.1
  unfold fn_X7_listStops at hf
  refine lv_iconst (v := 0) hx hb dX7_listStops_0 (by decide) ?_
  refine lv_istore_n (lv' := [(2, .int 0), (0, .ref A_t), (1, .int x1)]) hx hb dX7_listStops_1 rfl hl (by decide) rfl (fun ls hl => ?_)
  refine lv_iconst (v := 0) hx hb dX7_listStops_2 (by decide) ?_
  refine lv_istore_n (lv' := [(3, .int 0), (2, .int 0), (0, .ref A_t), (1, .int x1)]) hx hb dX7_listStops_3 rfl hl (by decide) rfl (fun ls hl => ?_)
  refine wn_X7_listStops_l4 hC hret (fun v4 v5 H locs ls hf hl hw => ?_) fu_ 0 0 c_t_stops _ _ _ hf (lv_sub hl [2, 3, 1, 0] rfl) hw
  refine lv_iload_n hx hb dX7_listStops_40 rfl (lv_at hl 0 rfl) ?_
  obtain ⟨h1_, h2_⟩ := t2_ hf
  subst h1_
  subst h2_
  exact hret _ _ _ _ dX7_listStops_41 hw
set_option maxHeartbeats 4000000 in
set_option maxRecDepth 100000 in
theorem cn_X7_listStops (l : Launch) (G : gw_) (A_t : Nat) (A_t_stops : Nat) (A_t_rest : Nat) (c_t_costs : Int32) (c_t_firstStop : Int32) (c_t_stops : Nat → Int32) (x1 : Int32) (r : Int32) (z_t_stops : Nat → Int32) (hf : fn_X7_listStops c_t_stops x1 = some (r, z_t_stops)) : ci_ l G yX7_listStops cX7_listStops 4 (some .int) 1 21 (wl_X7_listStops G A_t A_t_stops A_t_rest c_t_costs c_t_firstStop c_t_stops) [.ref A_t, .int x1] r (wl_X7_listStops G A_t A_t_stops A_t_rest c_t_costs c_t_firstStop z_t_stops) := fun sz => met_intro (by decide) (Nat.le_of_ble_eq_true rfl) (fun p e s m args below meth c ls hsz hC hr hlk hnm hl hw => wn_X7_listStops hC (fun pc H locs ls hd hw => g_iret hC hr hlk hw rfl rfl hd) hf hl hw)
