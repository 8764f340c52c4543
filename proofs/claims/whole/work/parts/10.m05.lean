theorem dX7_restBy_0 : decode cX7_restBy 0 = .ok (.aload_n 1, 1) := by decide +kernel
theorem dX7_restBy_1 : decode cX7_restBy 1 = .ok (.iload_n 2, 1) := by decide +kernel
theorem dX7_restBy_2 : decode cX7_restBy 2 = .ok (.aload_n 0, 1) := by decide +kernel
theorem dX7_restBy_3 : decode cX7_restBy 3 = .ok (.getfield 18, 3) := by decide +kernel
theorem dX7_restBy_6 : decode cX7_restBy 6 = .ok (.iload 4, 2) := by decide +kernel
theorem dX7_restBy_8 : decode cX7_restBy 8 = .ok (.iaload, 1) := by decide +kernel
theorem dX7_restBy_9 : decode cX7_restBy 9 = .ok (.invokevirtual 42, 3) := by decide +kernel
theorem dX7_restBy_12 : decode cX7_restBy 12 = .ok (.aload_n 0, 1) := by decide +kernel
theorem dX7_restBy_13 : decode cX7_restBy 13 = .ok (.getfield 22, 3) := by decide +kernel
theorem dX7_restBy_16 : decode cX7_restBy 16 = .ok (.iload_n 3, 1) := by decide +kernel
theorem dX7_restBy_17 : decode cX7_restBy 17 = .ok (.iconst 1, 1) := by decide +kernel
theorem dX7_restBy_18 : decode cX7_restBy 18 = .ok (.iload 4, 2) := by decide +kernel
theorem dX7_restBy_20 : decode cX7_restBy 20 = .ok (.ishl, 1) := by decide +kernel
theorem dX7_restBy_21 : decode cX7_restBy 21 = .ok (.iconst (-1), 1) := by decide +kernel
theorem dX7_restBy_22 : decode cX7_restBy 22 = .ok (.ixor, 1) := by decide +kernel
theorem dX7_restBy_23 : decode cX7_restBy 23 = .ok (.iand, 1) := by decide +kernel
theorem dX7_restBy_24 : decode cX7_restBy 24 = .ok (.bipush 6, 2) := by decide +kernel
theorem dX7_restBy_26 : decode cX7_restBy 26 = .ok (.imul, 1) := by decide +kernel
theorem dX7_restBy_27 : decode cX7_restBy 27 = .ok (.iload 4, 2) := by decide +kernel
theorem dX7_restBy_29 : decode cX7_restBy 29 = .ok (.iadd, 1) := by decide +kernel
theorem dX7_restBy_30 : decode cX7_restBy 30 = .ok (.iaload, 1) := by decide +kernel
theorem dX7_restBy_31 : decode cX7_restBy 31 = .ok (.iadd, 1) := by decide +kernel
theorem dX7_restBy_32 : decode cX7_restBy 32 = .ok (.ireturn, 1) := by decide +kernel
abbrev wl_X7_restBy (G : gw_) (A_t : Nat) (A_t_stops : Nat) (A_t_rest : Nat) (A_q1 : Nat) (A_q1_planks : Nat) (A_q1_least : Nat) (A_q1_neighbours : Nat) (c_t_costs : Int32) (c_t_firstStop : Int32) (c_t_stops : Nat → Int32) (c_t_rest : Nat → Int32) (c_q1_least : Nat → Int32) : va_W := [ob_ A_t 7 [.int c_t_costs, .int c_t_firstStop, .ref A_t_stops, .ref A_t_rest], ia_ G A_t_stops 6 c_t_stops, ia_ G A_t_rest 384 c_t_rest, ob_ A_q1 8 [.ref A_q1_planks, .ref A_q1_least, .ref A_q1_neighbours], ia_ G A_q1_least 144 c_q1_least]
def fn_X7_restBy (c_t_stops : Nat → Int32) (c_t_rest : Nat → Int32) (c_q1_least : Nat → Int32) (x2 : Int32) (x3 : Int32) (x4 : Int32) : Option (Int32) :=
  ck_ x4 6 <|
  b1_ (fn_X8_between c_q1_least x2 (c_t_stops (Int32.toNatClampNeg x4))) fun r1 =>
  ck_ (((x3 &&& ((1 <<< (x4 &&& 31)) ^^^ (-1))) * 6) + x4) 384 <|
  some (r1 + (c_t_rest (Int32.toNatClampNeg (((x3 &&& ((1 <<< (x4 &&& 31)) ^^^ (-1))) * 6) + x4))))
set_option maxHeartbeats 4000000 in
set_option maxRecDepth 100000 in
theorem wn_X7_restBy {p : Program} {l : Launch} {e : Env} {s : State} {m : MethodId} {args : Array Value} {below : List Frame} {meth : Method} {c : Code} {G : gw_} {A : Nat → Prop} {Q : State → Prop} {A_t : Nat} {A_t_stops : Nat} {A_t_rest : Nat} {A_q1 : Nat} {A_q1_planks : Nat} {A_q1_least : Nat} {A_q1_neighbours : Nat} {c_t_costs : Int32} {c_t_firstStop : Int32} {c_t_stops : Nat → Int32} {c_t_rest : Nat → Int32} {c_q1_least : Nat → Int32} {r : Int32} {x2 : Int32} {x3 : Int32} {x4 : Int32} (hC : cx_ p s m c G cX7_restBy 5 RX7) (hret : ∀ (pc : Nat) (H : Heap) (locs : List Loc) (ls : Array Slot), decode cX7_restBy pc = .ok (.ireturn, 1) → wd_ G A s.heap (wl_X7_restBy G A_t A_t_stops A_t_rest A_q1 A_q1_planks A_q1_least A_q1_neighbours c_t_costs c_t_firstStop c_t_stops c_t_rest c_q1_least) H locs → W p l e { frames := 1, cells := 0, slots := 0, locals := 22 } s m args below meth c H locs 0 0 Q (F0 m pc ls [.int r])) (hf : fn_X7_restBy c_t_stops c_t_rest c_q1_least x2 x3 x4 = some r) {H : Heap} {locs : List Loc} {ls : Array Slot} (hl : lv_has ls 5 [(0, .ref A_t), (1, .ref A_q1), (2, .int x2), (3, .int x3), (4, .int x4)]) (hw : wd_ G A s.heap (wl_X7_restBy G A_t A_t_stops A_t_rest A_q1 A_q1_planks A_q1_least A_q1_neighbours c_t_costs c_t_firstStop c_t_stops c_t_rest c_q1_least) H locs) : W p l e { frames := 1, cells := 0, slots := 0, locals := 22 } s m args below meth c H locs 0 0 Q (F0 m 0 ls []) := by
  have hx := hC.1
  have hb := hC.2.1
  unfold fn_X7_restBy at hf
  refine lv_aload_n hx hb dX7_restBy_0 rfl (lv_at hl 1 rfl) ?_
  refine lv_iload_n hx hb dX7_restBy_1 rfl (lv_at hl 2 rfl) ?_
  refine lv_aload_n hx hb dX7_restBy_2 rfl (lv_at hl 0 rfl) ?_
  refine g_get hC hw fkX7_18 0 rfl rfl dX7_restBy_3 ?_
  refine lv_iload hx hb dX7_restBy_6 (lv_at hl 4 rfl) ?_
  obtain ⟨hi, hf⟩ := ck_s hf
  refine g_iald hC hw 1 rfl hi dX7_restBy_8 ?_
  obtain ⟨r1, hq2, hf⟩ := b1_s hf
  refine h_cVi hC hw mvX7_42 (cn_X8_between l G A_q1 A_q1_planks A_q1_least A_q1_neighbours c_q1_least x2 (c_t_stops (Int32.toNatClampNeg x4)) r1 hq2) [3, 4] rfl (by decide) 3 rfl rfl rfl hl.1 rfl (Nat.le_of_ble_eq_true rfl) ⟨Nat.le_of_ble_eq_true rfl, Nat.le_of_ble_eq_true rfl⟩ ⟨Nat.le_refl _, Nat.le_refl _⟩ dX7_restBy_9 (fun H locs hw => ?_)
  refine lv_aload_n hx hb dX7_restBy_12 rfl (lv_at hl 0 rfl) ?_
  refine g_get hC hw fkX7_22 0 rfl rfl dX7_restBy_13 ?_
  refine lv_iload_n hx hb dX7_restBy_16 rfl (lv_at hl 3 rfl) ?_
  refine lv_iconst (v := 1) hx hb dX7_restBy_17 (by decide) ?_
  refine lv_iload hx hb dX7_restBy_18 (lv_at hl 4 rfl) ?_
  refine lv_ishl hx hb dX7_restBy_20 ?_
  refine lv_iconst (v := (-1)) hx hb dX7_restBy_21 (by decide) ?_
  refine lv_ixor hx hb dX7_restBy_22 ?_
  refine lv_iand hx hb dX7_restBy_23 ?_
  refine lv_bipush (v := 6) hx hb dX7_restBy_24 (by decide) ?_
  refine lv_imul hx hb dX7_restBy_26 ?_
  refine lv_iload hx hb dX7_restBy_27 (lv_at hl 4 rfl) ?_
  refine lv_iadd hx hb dX7_restBy_29 ?_
  obtain ⟨hi, hf⟩ := ck_s hf
  refine g_iald hC hw 2 rfl hi dX7_restBy_30 ?_
  refine lv_iadd hx hb dX7_restBy_31 ?_
  have h1_ := t1_ hf
  subst h1_
  exact hret _ _ _ _ dX7_restBy_32 hw
set_option maxHeartbeats 4000000 in
set_option maxRecDepth 100000 in
theorem cn_X7_restBy (l : Launch) (G : gw_) (A_t : Nat) (A_t_stops : Nat) (A_t_rest : Nat) (A_q1 : Nat) (A_q1_planks : Nat) (A_q1_least : Nat) (A_q1_neighbours : Nat) (c_t_costs : Int32) (c_t_firstStop : Int32) (c_t_stops : Nat → Int32) (c_t_rest : Nat → Int32) (c_q1_least : Nat → Int32) (x2 : Int32) (x3 : Int32) (x4 : Int32) (r : Int32) (hf : fn_X7_restBy c_t_stops c_t_rest c_q1_least x2 x3 x4 = some r) : ci_ l G yX7_restBy cX7_restBy 5 (some .int) 1 22 (wl_X7_restBy G A_t A_t_stops A_t_rest A_q1 A_q1_planks A_q1_least A_q1_neighbours c_t_costs c_t_firstStop c_t_stops c_t_rest c_q1_least) [.ref A_t, .ref A_q1, .int x2, .int x3, .int x4] r (wl_X7_restBy G A_t A_t_stops A_t_rest A_q1 A_q1_planks A_q1_least A_q1_neighbours c_t_costs c_t_firstStop c_t_stops c_t_rest c_q1_least) := fun sz => met_intro (by decide) (Nat.le_of_ble_eq_true rfl) (fun p e s m args below meth c ls hsz hC hr hlk hnm hl hw => wn_X7_restBy hC (fun pc H locs ls hd hw => g_iret hC hr hlk hw rfl rfl hd) hf hl hw)

theorem dX7_restFrom_0 : decode cX7_restFrom 0 = .ok (.iload_n 3, 1) := by decide +kernel
theorem dX7_restFrom_1 : decode cX7_restFrom 1 = .ok (.ifCond .ne 11, 3) := by decide +kernel
theorem dX7_restFrom_4 : decode cX7_restFrom 4 = .ok (.aload_n 1, 1) := by decide +kernel
theorem dX7_restFrom_5 : decode cX7_restFrom 5 = .ok (.iload_n 2, 1) := by decide +kernel
theorem dX7_restFrom_6 : decode cX7_restFrom 6 = .ok (.iload 5, 2) := by decide +kernel
theorem dX7_restFrom_8 : decode cX7_restFrom 8 = .ok (.invokevirtual 42, 3) := by decide +kernel
theorem dX7_restFrom_11 : decode cX7_restFrom 11 = .ok (.ireturn, 1) := by decide +kernel
theorem dX7_restFrom_12 : decode cX7_restFrom 12 = .ok (.ldc 37, 2) := by decide +kernel
theorem dX7_restFrom_14 : decode cX7_restFrom 14 = .ok (.istore 6, 2) := by decide +kernel
theorem dX7_restFrom_16 : decode cX7_restFrom 16 = .ok (.iconst 0, 1) := by decide +kernel
theorem dX7_restFrom_17 : decode cX7_restFrom 17 = .ok (.istore 7, 2) := by decide +kernel
theorem dX7_restFrom_19 : decode cX7_restFrom 19 = .ok (.iload 7, 2) := by decide +kernel
theorem dX7_restFrom_21 : decode cX7_restFrom 21 = .ok (.iload 4, 2) := by decide +kernel
theorem dX7_restFrom_23 : decode cX7_restFrom 23 = .ok (.if_icmp .ge 34, 3) := by decide +kernel
theorem dX7_restFrom_26 : decode cX7_restFrom 26 = .ok (.iload_n 3, 1) := by decide +kernel
theorem dX7_restFrom_27 : decode cX7_restFrom 27 = .ok (.iload 7, 2) := by decide +kernel
theorem dX7_restFrom_29 : decode cX7_restFrom 29 = .ok (.invokestatic 29, 3) := by decide +kernel
theorem dX7_restFrom_32 : decode cX7_restFrom 32 = .ok (.ifCond .eq 19, 3) := by decide +kernel
theorem dX7_restFrom_35 : decode cX7_restFrom 35 = .ok (.iload 6, 2) := by decide +kernel
theorem dX7_restFrom_37 : decode cX7_restFrom 37 = .ok (.aload_n 0, 1) := by decide +kernel
theorem dX7_restFrom_38 : decode cX7_restFrom 38 = .ok (.aload_n 1, 1) := by decide +kernel
theorem dX7_restFrom_39 : decode cX7_restFrom 39 = .ok (.iload_n 2, 1) := by decide +kernel
theorem dX7_restFrom_40 : decode cX7_restFrom 40 = .ok (.iload_n 3, 1) := by decide +kernel
theorem dX7_restFrom_41 : decode cX7_restFrom 41 = .ok (.iload 7, 2) := by decide +kernel
theorem dX7_restFrom_43 : decode cX7_restFrom 43 = .ok (.invokevirtual 38, 3) := by decide +kernel
theorem dX7_restFrom_46 : decode cX7_restFrom 46 = .ok (.invokestatic 48, 3) := by decide +kernel
theorem dX7_restFrom_49 : decode cX7_restFrom 49 = .ok (.istore 6, 2) := by decide +kernel
theorem dX7_restFrom_51 : decode cX7_restFrom 51 = .ok (.iinc 7 1, 3) := by decide +kernel
theorem dX7_restFrom_54 : decode cX7_restFrom 54 = .ok (.goto (-35), 3) := by decide +kernel
theorem dX7_restFrom_57 : decode cX7_restFrom 57 = .ok (.iload 6, 2) := by decide +kernel
theorem dX7_restFrom_59 : decode cX7_restFrom 59 = .ok (.ireturn, 1) := by decide +kernel
abbrev wl_X7_restFrom (G : gw_) (A_t : Nat) (A_t_stops : Nat) (A_t_rest : Nat) (A_q1 : Nat) (A_q1_planks : Nat) (A_q1_least : Nat) (A_q1_neighbours : Nat) (c_t_costs : Int32) (c_t_firstStop : Int32) (c_t_stops : Nat → Int32) (c_t_rest : Nat → Int32) (c_q1_least : Nat → Int32) : va_W := [ob_ A_t 7 [.int c_t_costs, .int c_t_firstStop, .ref A_t_stops, .ref A_t_rest], ia_ G A_t_stops 6 c_t_stops, ia_ G A_t_rest 384 c_t_rest, ob_ A_q1 8 [.ref A_q1_planks, .ref A_q1_least, .ref A_q1_neighbours], ia_ G A_q1_least 144 c_q1_least]
def fn_X7_restFrom_b19 (c_t_stops : Nat → Int32) (c_t_rest : Nat → Int32) (c_q1_least : Nat → Int32) (x2 : Int32) (x3 : Int32) (x4 : Int32) (rc : Int32 → Int32 → Option (Int32)) (k : Int32 → Option (Int32)) (x6 : Int32) (x7 : Int32) : Option (Int32) :=
  if x4 ≤ x7 then
    k x6
  else
    b1_ (fn_X9_isIn x3 x7) fun r1 =>
    if r1 = 0 then
      rc x6 (x7 + 1)
    else
      b1_ (fn_X7_restBy c_t_stops c_t_rest c_q1_least x2 x3 x7) fun r3 =>
      lx_ (if r3 < x6 then r3 else x6) fun y5 =>
      rc y5 (x7 + 1)
def fn_X7_restFrom_l19 (c_t_stops : Nat → Int32) (c_t_rest : Nat → Int32) (c_q1_least : Nat → Int32) (x2 : Int32) (x3 : Int32) (x4 : Int32) (k : Int32 → Option (Int32)) : Nat → Int32 → Int32 → Option (Int32)
  | 0 => fun _ _ => none
  | n + 1 => fun x6 x7 => fn_X7_restFrom_b19 c_t_stops c_t_rest c_q1_least x2 x3 x4 (fn_X7_restFrom_l19 c_t_stops c_t_rest c_q1_least x2 x3 x4 k n) k x6 x7
def fn_X7_restFrom (c_t_stops : Nat → Int32) (c_t_rest : Nat → Int32) (c_q1_least : Nat → Int32) (x2 : Int32) (x3 : Int32) (x4 : Int32) (x5 : Int32) : Option (Int32) :=
  if x3 = 0 then
    b1_ (fn_X8_between c_q1_least x2 x5) fun r7 =>
    some r7
  else
    fn_X7_restFrom_l19 c_t_stops c_t_rest c_q1_least x2 x3 x4 (fun v6 =>
      some v6) fu_ 1000000 0
set_option maxHeartbeats 4000000 in
set_option maxRecDepth 100000 in
theorem wn_X7_restFrom_l19 {p : Program} {l : Launch} {e : Env} {s : State} {m : MethodId} {args : Array Value} {below : List Frame} {meth : Method} {c : Code} {G : gw_} {A : Nat → Prop} {Q : State → Prop} {A_t : Nat} {A_t_stops : Nat} {A_t_rest : Nat} {A_q1 : Nat} {A_q1_planks : Nat} {A_q1_least : Nat} {A_q1_neighbours : Nat} {c_t_costs : Int32} {c_t_firstStop : Int32} {c_t_stops : Nat → Int32} {c_t_rest : Nat → Int32} {c_q1_least : Nat → Int32} {r : Int32} {x2 : Int32} {x3 : Int32} {x4 : Int32} {k : Int32 → Option (Int32)} (hC : cx_ p s m c G cX7_restFrom 8 RX7) (hret : ∀ (pc : Nat) (H : Heap) (locs : List Loc) (ls : Array Slot), decode cX7_restFrom pc = .ok (.ireturn, 1) → wd_ G A s.heap (wl_X7_restFrom G A_t A_t_stops A_t_rest A_q1 A_q1_planks A_q1_least A_q1_neighbours c_t_costs c_t_firstStop c_t_stops c_t_rest c_q1_least) H locs → W p l e { frames := 2, cells := 0, slots := 0, locals := 46 } s m args below meth c H locs 0 0 Q (F0 m pc ls [.int r])) (hk : ∀ (x6 : Int32) (H : Heap) (locs : List Loc) (ls : Array Slot), k x6 = some r → lv_has ls 8 [(6, .int x6)] → wd_ G A s.heap (wl_X7_restFrom G A_t A_t_stops A_t_rest A_q1 A_q1_planks A_q1_least A_q1_neighbours c_t_costs c_t_firstStop c_t_stops c_t_rest c_q1_least) H locs → W p l e { frames := 2, cells := 0, slots := 0, locals := 46 } s m args below meth c H locs 0 0 Q (F0 m 57 ls [])) : ∀ (n : Nat) (x6 : Int32) (x7 : Int32) (H : Heap) (locs : List Loc) (ls : Array Slot), fn_X7_restFrom_l19 c_t_stops c_t_rest c_q1_least x2 x3 x4 k n x6 x7 = some r → lv_has ls 8 [(0, .ref A_t), (1, .ref A_q1), (2, .int x2), (3, .int x3), (4, .int x4), (6, .int x6), (7, .int x7)] → wd_ G A s.heap (wl_X7_restFrom G A_t A_t_stops A_t_rest A_q1 A_q1_planks A_q1_least A_q1_neighbours c_t_costs c_t_firstStop c_t_stops c_t_rest c_q1_least) H locs → W p l e { frames := 2, cells := 0, slots := 0, locals := 46 } s m args below meth c H locs 0 0 Q (F0 m 19 ls []) := by
  have hx := hC.1
  have hb := hC.2.1
  intro n
  induction n with
  | zero =>
    intro x6 x7 H locs ls hf
    cases (show (none : Option (Int32)) = some _ from hf)
  | succ n hrc =>
    intro x6 x7 H locs ls hf hl hw
    replace hf : fn_X7_restFrom_b19 c_t_stops c_t_rest c_q1_least x2 x3 x4 (fn_X7_restFrom_l19 c_t_stops c_t_rest c_q1_least x2 x3 x4 k n) k x6 x7 = some r := hf
    unfold fn_X7_restFrom_b19 at hf
    refine lv_iload hx hb dX7_restFrom_19 (lv_at hl 6 rfl) ?_
    refine lv_iload hx hb dX7_restFrom_21 (lv_at hl 4 rfl) ?_
    refine lv_icmp_ge (tgt := 57) hx hb dX7_restFrom_23 (by decide) (fun hc => ?_) (fun hc => ?_)
    · replace hf := it_t hc hf
      exact hk x6 _ _ _ hf (lv_sub hl [5] rfl) hw
    · replace hf := it_f hc hf
      refine lv_iload_n hx hb dX7_restFrom_26 rfl (lv_at hl 3 rfl) ?_
      refine lv_iload hx hb dX7_restFrom_27 (lv_at hl 6 rfl) ?_
      obtain ⟨r1, hq2, hf⟩ := b1_s hf
      refine h_cSi hC hw msX7_29 (cn_X9_isIn l G x3 x7 r1 hq2) [] rfl (by decide) rfl hl.1 rfl (Nat.le_of_ble_eq_true rfl) ⟨Nat.le_of_ble_eq_true rfl, Nat.le_of_ble_eq_true rfl⟩ ⟨Nat.le_refl _, Nat.le_refl _⟩ dX7_restFrom_29 (fun H locs hw => ?_)
      refine lv_if_eq (tgt := 51) hx hb dX7_restFrom_32 (by decide) (fun hc => ?_) (fun hc => ?_)
      · replace hf := it_t hc hf
        refine lv_iinc (v := x7 + 1) (lv' := [(7, .int (x7 + 1)), (0, .ref A_t), (1, .ref A_q1), (2, .int x2), (3, .int x3), (4, .int x4), (6, .int x6)]) hx hb dX7_restFrom_51 hl (k := 6) rfl rfl (by decide) rfl (fun ls hl => ?_)
        refine lv_goto (tgt := 19) hx hb dX7_restFrom_54 (by decide) ?_
        exact hrc x6 (x7 + 1) _ _ _ hf (lv_sub hl [1, 2, 3, 4, 5, 6, 0] rfl) hw
      · replace hf := it_f hc hf
        refine lv_iload hx hb dX7_restFrom_35 (lv_at hl 5 rfl) ?_
        refine lv_aload_n hx hb dX7_restFrom_37 rfl (lv_at hl 0 rfl) ?_
        refine lv_aload_n hx hb dX7_restFrom_38 rfl (lv_at hl 1 rfl) ?_
        refine lv_iload_n hx hb dX7_restFrom_39 rfl (lv_at hl 2 rfl) ?_
        refine lv_iload_n hx hb dX7_restFrom_40 rfl (lv_at hl 3 rfl) ?_
        refine lv_iload hx hb dX7_restFrom_41 (lv_at hl 6 rfl) ?_
        obtain ⟨r3, hq4, hf⟩ := b1_s hf
        refine h_cVi hC hw mvX7_38 (cn_X7_restBy l G A_t A_t_stops A_t_rest A_q1 A_q1_planks A_q1_least A_q1_neighbours c_t_costs c_t_firstStop c_t_stops c_t_rest c_q1_least x2 x3 x7 r3 hq4) [0, 1, 2, 3, 4] rfl (by decide) 0 rfl rfl rfl hl.1 rfl (Nat.le_of_ble_eq_true rfl) ⟨Nat.le_of_ble_eq_true rfl, Nat.le_of_ble_eq_true rfl⟩ ⟨Nat.le_refl _, Nat.le_refl _⟩ dX7_restFrom_43 (fun H locs hw => ?_)
        refine va_mmin hx hb (hC.2.2.1.trans hl.1.symm) hC.2.2.2.1 (aw_at hC.2.2.2.2.1 args _ (tb3 37 rfl rfl)) (aw_at hC.2.2.2.2.1 args _ (tb2 161 rfl rfl)) (aw_at hC.2.2.2.2.1 args _ (tb1 15 rfl rfl)) (aw_at hC.2.2.2.2.1 args _ (tb2 162 rfl rfl)) (by decide) (Nat.le_of_ble_eq_true rfl) (Nat.le_refl _) (Nat.le_refl _) dX7_restFrom_46 ?_
        obtain ⟨y5, ey5, hf⟩ := lx_s hf
        rw [← ey5]
        refine lv_istore (lv' := [(6, .int y5), (0, .ref A_t), (1, .ref A_q1), (2, .int x2), (3, .int x3), (4, .int x4), (7, .int x7)]) hx hb dX7_restFrom_49 hl (by decide) rfl (fun ls hl => ?_)
        refine lv_iinc (v := x7 + 1) (lv' := [(7, .int (x7 + 1)), (6, .int y5), (0, .ref A_t), (1, .ref A_q1), (2, .int x2), (3, .int x3), (4, .int x4)]) hx hb dX7_restFrom_51 hl (k := 6) rfl rfl (by decide) rfl (fun ls hl => ?_)
        refine lv_goto (tgt := 19) hx hb dX7_restFrom_54 (by decide) ?_
        exact hrc y5 (x7 + 1) _ _ _ hf (lv_sub hl [2, 3, 4, 5, 6, 1, 0] rfl) hw
set_option maxHeartbeats 4000000 in
set_option maxRecDepth 100000 in
theorem wn_X7_restFrom {p : Program} {l : Launch} {e : Env} {s : State} {m : MethodId} {args : Array Value} {below : List Frame} {meth : Method} {c : Code} {G : gw_} {A : Nat → Prop} {Q : State → Prop} {A_t : Nat} {A_t_stops : Nat} {A_t_rest : Nat} {A_q1 : Nat} {A_q1_planks : Nat} {A_q1_least : Nat} {A_q1_neighbours : Nat} {c_t_costs : Int32} {c_t_firstStop : Int32} {c_t_stops : Nat → Int32} {c_t_rest : Nat → Int32} {c_q1_least : Nat → Int32} {r : Int32} {x2 : Int32} {x3 : Int32} {x4 : Int32} {x5 : Int32} (hC : cx_ p s m c G cX7_restFrom 8 RX7) (hret : ∀ (pc : Nat) (H : Heap) (locs : List Loc) (ls : Array Slot), decode cX7_restFrom pc = .ok (.ireturn, 1) → wd_ G A s.heap (wl_X7_restFrom G A_t A_t_stops A_t_rest A_q1 A_q1_planks A_q1_least A_q1_neighbours c_t_costs c_t_firstStop c_t_stops c_t_rest c_q1_least) H locs → W p l e { frames := 2, cells := 0, slots := 0, locals := 46 } s m args below meth c H locs 0 0 Q (F0 m pc ls [.int r])) (hf : fn_X7_restFrom c_t_stops c_t_rest c_q1_least x2 x3 x4 x5 = some r) {H : Heap} {locs : List Loc} {ls : Array Slot} (hl : lv_has ls 8 [(0, .ref A_t), (1, .ref A_q1), (2, .int x2), (3, .int x3), (4, .int x4), (5, .int x5)]) (hw : wd_ G A s.heap (wl_X7_restFrom G A_t A_t_stops A_t_rest A_q1 A_q1_planks A_q1_least A_q1_neighbours c_t_costs c_t_firstStop c_t_stops c_t_rest c_q1_least) H locs) : W p l e { frames := 2, cells := 0, slots := 0, locals := 46 } s m args below meth c H locs 0 0 Q (F0 m 0 ls []) := by
  have hx := hC.1
  have hb := hC.2.1
  unfold fn_X7_restFrom at hf
  refine lv_iload_n hx hb dX7_restFrom_0 rfl (lv_at hl 3 rfl) ?_
  refine lv_if_ne (tgt := 12) hx hb dX7_restFrom_1 (by decide) (fun hc => ?_) (fun hc => ?_)
  · replace hf := it_f hc hf
    refine g_ldc (v := 1000000) hC (tb3 32 rfl rfl) dX7_restFrom_12 ?_
    refine lv_istore (lv' := [(6, .int 1000000), (0, .ref A_t), (1, .ref A_q1), (2, .int x2), (3, .int x3), (4, .int x4), (5, .int x5)]) hx hb dX7_restFrom_14 hl (by decide) rfl (fun ls hl => ?_)
    refine lv_iconst (v := 0) hx hb dX7_restFrom_16 (by decide) ?_
    refine lv_istore (lv' := [(7, .int 0), (6, .int 1000000), (0, .ref A_t), (1, .ref A_q1), (2, .int x2), (3, .int x3), (4, .int x4), (5, .int x5)]) hx hb dX7_restFrom_17 hl (by decide) rfl (fun ls hl => ?_)
    refine wn_X7_restFrom_l19 hC hret (fun v6 H locs ls hf hl hw => ?_) fu_ 1000000 0 _ _ _ hf (lv_sub hl [2, 3, 4, 5, 6, 1, 0] rfl) hw
    refine lv_iload hx hb dX7_restFrom_57 (lv_at hl 0 rfl) ?_
    have h1_ := t1_ hf
    subst h1_
    exact hret _ _ _ _ dX7_restFrom_59 hw
  · replace hf := it_t hc hf
    refine lv_aload_n hx hb dX7_restFrom_4 rfl (lv_at hl 1 rfl) ?_
    refine lv_iload_n hx hb dX7_restFrom_5 rfl (lv_at hl 2 rfl) ?_
    refine lv_iload hx hb dX7_restFrom_6 (lv_at hl 5 rfl) ?_
    obtain ⟨r7, hq8, hf⟩ := b1_s hf
    refine h_cVi hC hw mvX7_42 (cn_X8_between l G A_q1 A_q1_planks A_q1_least A_q1_neighbours c_q1_least x2 x5 r7 hq8) [3, 4] rfl (by decide) 3 rfl rfl rfl hl.1 rfl (Nat.le_of_ble_eq_true rfl) ⟨Nat.le_of_ble_eq_true rfl, Nat.le_of_ble_eq_true rfl⟩ ⟨Nat.le_refl _, Nat.le_refl _⟩ dX7_restFrom_8 (fun H locs hw => ?_)
    have h1_ := t1_ hf
    subst h1_
    exact hret _ _ _ _ dX7_restFrom_11 hw
set_option maxHeartbeats 4000000 in
set_option maxRecDepth 100000 in
theorem cn_X7_restFrom (l : Launch) (G : gw_) (A_t : Nat) (A_t_stops : Nat) (A_t_rest : Nat) (A_q1 : Nat) (A_q1_planks : Nat) (A_q1_least : Nat) (A_q1_neighbours : Nat) (c_t_costs : Int32) (c_t_firstStop : Int32) (c_t_stops : Nat → Int32) (c_t_rest : Nat → Int32) (c_q1_least : Nat → Int32) (x2 : Int32) (x3 : Int32) (x4 : Int32) (x5 : Int32) (r : Int32) (hf : fn_X7_restFrom c_t_stops c_t_rest c_q1_least x2 x3 x4 x5 = some r) : ci_ l G yX7_restFrom cX7_restFrom 8 (some .int) 2 46 (wl_X7_restFrom G A_t A_t_stops A_t_rest A_q1 A_q1_planks A_q1_least A_q1_neighbours c_t_costs c_t_firstStop c_t_stops c_t_rest c_q1_least) [.ref A_t, .ref A_q1, .int x2, .int x3, .int x4, .int x5] r (wl_X7_restFrom G A_t A_t_stops A_t_rest A_q1 A_q1_planks A_q1_least A_q1_neighbours c_t_costs c_t_firstStop c_t_stops c_t_rest c_q1_least) := fun sz => met_intro (by decide) (Nat.le_of_ble_eq_true rfl) (fun p e s m args below meth c ls hsz hC hr hlk hnm hl hw => wn_X7_restFrom hC (fun pc H locs ls hd hw => g_iret hC hr hlk hw rfl rfl hd) hf hl hw)

theorem dX7_plan_0 : decode cX7_plan 0 = .ok (.aload_n 0, 1) := by decide +kernel
theorem dX7_plan_1 : decode cX7_plan 1 = .ok (.iload_n 3, 1) := by decide +kernel
theorem dX7_plan_2 : decode cX7_plan 2 = .ok (.invokevirtual 25, 3) := by decide +kernel
theorem dX7_plan_5 : decode cX7_plan 5 = .ok (.istore 4, 2) := by decide +kernel
theorem dX7_plan_7 : decode cX7_plan 7 = .ok (.iconst 0, 1) := by decide +kernel
theorem dX7_plan_8 : decode cX7_plan 8 = .ok (.istore 5, 2) := by decide +kernel
theorem dX7_plan_10 : decode cX7_plan 10 = .ok (.iload 5, 2) := by decide +kernel
theorem dX7_plan_12 : decode cX7_plan 12 = .ok (.iconst 1, 1) := by decide +kernel
theorem dX7_plan_13 : decode cX7_plan 13 = .ok (.iload 4, 2) := by decide +kernel
theorem dX7_plan_15 : decode cX7_plan 15 = .ok (.ishl, 1) := by decide +kernel
theorem dX7_plan_16 : decode cX7_plan 16 = .ok (.if_icmp .ge 65, 3) := by decide +kernel
theorem dX7_plan_19 : decode cX7_plan 19 = .ok (.iconst 0, 1) := by decide +kernel
theorem dX7_plan_20 : decode cX7_plan 20 = .ok (.istore 6, 2) := by decide +kernel
theorem dX7_plan_22 : decode cX7_plan 22 = .ok (.iload 6, 2) := by decide +kernel
theorem dX7_plan_24 : decode cX7_plan 24 = .ok (.iload 4, 2) := by decide +kernel
theorem dX7_plan_26 : decode cX7_plan 26 = .ok (.if_icmp .ge 49, 3) := by decide +kernel
theorem dX7_plan_29 : decode cX7_plan 29 = .ok (.iload 5, 2) := by decide +kernel
theorem dX7_plan_31 : decode cX7_plan 31 = .ok (.iload 6, 2) := by decide +kernel
theorem dX7_plan_33 : decode cX7_plan 33 = .ok (.invokestatic 29, 3) := by decide +kernel
theorem dX7_plan_36 : decode cX7_plan 36 = .ok (.ifCond .ne 33, 3) := by decide +kernel
theorem dX7_plan_39 : decode cX7_plan 39 = .ok (.aload_n 0, 1) := by decide +kernel
theorem dX7_plan_40 : decode cX7_plan 40 = .ok (.getfield 22, 3) := by decide +kernel
theorem dX7_plan_43 : decode cX7_plan 43 = .ok (.iload 5, 2) := by decide +kernel
theorem dX7_plan_45 : decode cX7_plan 45 = .ok (.bipush 6, 2) := by decide +kernel
theorem dX7_plan_47 : decode cX7_plan 47 = .ok (.imul, 1) := by decide +kernel
theorem dX7_plan_48 : decode cX7_plan 48 = .ok (.iload 6, 2) := by decide +kernel
theorem dX7_plan_50 : decode cX7_plan 50 = .ok (.iadd, 1) := by decide +kernel
theorem dX7_plan_51 : decode cX7_plan 51 = .ok (.aload_n 0, 1) := by decide +kernel
theorem dX7_plan_52 : decode cX7_plan 52 = .ok (.aload_n 1, 1) := by decide +kernel
theorem dX7_plan_53 : decode cX7_plan 53 = .ok (.aload_n 0, 1) := by decide +kernel
theorem dX7_plan_54 : decode cX7_plan 54 = .ok (.getfield 18, 3) := by decide +kernel
theorem dX7_plan_57 : decode cX7_plan 57 = .ok (.iload 6, 2) := by decide +kernel
theorem dX7_plan_59 : decode cX7_plan 59 = .ok (.iaload, 1) := by decide +kernel
theorem dX7_plan_60 : decode cX7_plan 60 = .ok (.iload 5, 2) := by decide +kernel
theorem dX7_plan_62 : decode cX7_plan 62 = .ok (.iload 4, 2) := by decide +kernel
theorem dX7_plan_64 : decode cX7_plan 64 = .ok (.iload_n 2, 1) := by decide +kernel
theorem dX7_plan_65 : decode cX7_plan 65 = .ok (.invokevirtual 33, 3) := by decide +kernel
theorem dX7_plan_68 : decode cX7_plan 68 = .ok (.iastore, 1) := by decide +kernel
theorem dX7_plan_69 : decode cX7_plan 69 = .ok (.iinc 6 1, 3) := by decide +kernel
theorem dX7_plan_72 : decode cX7_plan 72 = .ok (.goto (-50), 3) := by decide +kernel
theorem dX7_plan_75 : decode cX7_plan 75 = .ok (.iinc 5 1, 3) := by decide +kernel
theorem dX7_plan_78 : decode cX7_plan 78 = .ok (.goto (-68), 3) := by decide +kernel
theorem dX7_plan_81 : decode cX7_plan 81 = .ok (.iconst 1, 1) := by decide +kernel
theorem dX7_plan_82 : decode cX7_plan 82 = .ok (.iload 4, 2) := by decide +kernel
theorem dX7_plan_84 : decode cX7_plan 84 = .ok (.ishl, 1) := by decide +kernel
theorem dX7_plan_85 : decode cX7_plan 85 = .ok (.iconst 1, 1) := by decide +kernel
theorem dX7_plan_86 : decode cX7_plan 86 = .ok (.isub, 1) := by decide +kernel
theorem dX7_plan_87 : decode cX7_plan 87 = .ok (.istore 5, 2) := by decide +kernel
theorem dX7_plan_89 : decode cX7_plan 89 = .ok (.aload_n 0, 1) := by decide +kernel
theorem dX7_plan_90 : decode cX7_plan 90 = .ok (.aload_n 0, 1) := by decide +kernel
theorem dX7_plan_91 : decode cX7_plan 91 = .ok (.aload_n 1, 1) := by decide +kernel
theorem dX7_plan_92 : decode cX7_plan 92 = .ok (.iload_n 2, 1) := by decide +kernel
theorem dX7_plan_93 : decode cX7_plan 93 = .ok (.iload 5, 2) := by decide +kernel
theorem dX7_plan_95 : decode cX7_plan 95 = .ok (.iload 4, 2) := by decide +kernel
theorem dX7_plan_97 : decode cX7_plan 97 = .ok (.iload_n 2, 1) := by decide +kernel
theorem dX7_plan_98 : decode cX7_plan 98 = .ok (.invokevirtual 33, 3) := by decide +kernel
theorem dX7_plan_101 : decode cX7_plan 101 = .ok (.putfield 9, 3) := by decide +kernel
theorem dX7_plan_104 : decode cX7_plan 104 = .ok (.aload_n 0, 1) := by decide +kernel
theorem dX7_plan_105 : decode cX7_plan 105 = .ok (.bipush (-6), 2) := by decide +kernel
theorem dX7_plan_107 : decode cX7_plan 107 = .ok (.putfield 15, 3) := by decide +kernel
theorem dX7_plan_110 : decode cX7_plan 110 = .ok (.iload 4, 2) := by decide +kernel
theorem dX7_plan_112 : decode cX7_plan 112 = .ok (.iconst 1, 1) := by decide +kernel
theorem dX7_plan_113 : decode cX7_plan 113 = .ok (.isub, 1) := by decide +kernel
theorem dX7_plan_114 : decode cX7_plan 114 = .ok (.istore 6, 2) := by decide +kernel
theorem dX7_plan_116 : decode cX7_plan 116 = .ok (.iload 6, 2) := by decide +kernel
theorem dX7_plan_118 : decode cX7_plan 118 = .ok (.ifCond .lt 46, 3) := by decide +kernel
theorem dX7_plan_121 : decode cX7_plan 121 = .ok (.aload_n 0, 1) := by decide +kernel
theorem dX7_plan_122 : decode cX7_plan 122 = .ok (.getfield 9, 3) := by decide +kernel
theorem dX7_plan_125 : decode cX7_plan 125 = .ok (.ldc 37, 2) := by decide +kernel
theorem dX7_plan_127 : decode cX7_plan 127 = .ok (.if_icmp .ge 31, 3) := by decide +kernel
theorem dX7_plan_130 : decode cX7_plan 130 = .ok (.aload_n 0, 1) := by decide +kernel
theorem dX7_plan_131 : decode cX7_plan 131 = .ok (.aload_n 1, 1) := by decide +kernel
theorem dX7_plan_132 : decode cX7_plan 132 = .ok (.iload_n 2, 1) := by decide +kernel
theorem dX7_plan_133 : decode cX7_plan 133 = .ok (.iload 5, 2) := by decide +kernel
theorem dX7_plan_135 : decode cX7_plan 135 = .ok (.iload 6, 2) := by decide +kernel
theorem dX7_plan_137 : decode cX7_plan 137 = .ok (.invokevirtual 38, 3) := by decide +kernel
theorem dX7_plan_140 : decode cX7_plan 140 = .ok (.aload_n 0, 1) := by decide +kernel
theorem dX7_plan_141 : decode cX7_plan 141 = .ok (.getfield 9, 3) := by decide +kernel
theorem dX7_plan_144 : decode cX7_plan 144 = .ok (.if_icmp .ne 14, 3) := by decide +kernel
theorem dX7_plan_147 : decode cX7_plan 147 = .ok (.aload_n 0, 1) := by decide +kernel
theorem dX7_plan_148 : decode cX7_plan 148 = .ok (.aload_n 0, 1) := by decide +kernel
theorem dX7_plan_149 : decode cX7_plan 149 = .ok (.getfield 18, 3) := by decide +kernel
theorem dX7_plan_152 : decode cX7_plan 152 = .ok (.iload 6, 2) := by decide +kernel
theorem dX7_plan_154 : decode cX7_plan 154 = .ok (.iaload, 1) := by decide +kernel
theorem dX7_plan_155 : decode cX7_plan 155 = .ok (.putfield 15, 3) := by decide +kernel
theorem dX7_plan_158 : decode cX7_plan 158 = .ok (.iinc 6 (-1), 3) := by decide +kernel
theorem dX7_plan_161 : decode cX7_plan 161 = .ok (.goto (-45), 3) := by decide +kernel
theorem dX7_plan_164 : decode cX7_plan 164 = .ok (.return_, 1) := by decide +kernel
abbrev wl_X7_plan (G : gw_) (A_t : Nat) (A_t_stops : Nat) (A_t_rest : Nat) (A_q1 : Nat) (A_q1_planks : Nat) (A_q1_least : Nat) (A_q1_neighbours : Nat) (c_t_costs : Int32) (c_t_firstStop : Int32) (c_t_stops : Nat → Int32) (c_t_rest : Nat → Int32) (c_q1_least : Nat → Int32) : va_W := [ob_ A_t 7 [.int c_t_costs, .int c_t_firstStop, .ref A_t_stops, .ref A_t_rest], ia_ G A_t_stops 6 c_t_stops, ia_ G A_t_rest 384 c_t_rest, ob_ A_q1 8 [.ref A_q1_planks, .ref A_q1_least, .ref A_q1_neighbours], ia_ G A_q1_least 144 c_q1_least]
def fn_X7_plan_b22 (c_t_stops : Nat → Int32) (c_q1_least : Nat → Int32) (x2 : Int32) (x4 : Int32) (x5 : Int32) (rc : Int32 → (Nat → Int32) → Option (Int32 × Int32 × (Nat → Int32) × (Nat → Int32))) (k : (Nat → Int32) → Option (Int32 × Int32 × (Nat → Int32) × (Nat → Int32))) (x6 : Int32) (c_t_rest : Nat → Int32) : Option (Int32 × Int32 × (Nat → Int32) × (Nat → Int32)) :=
  if x4 ≤ x6 then
    k c_t_rest
  else
    b1_ (fn_X9_isIn x5 x6) fun r4 =>
    if r4 = 0 then
      ck_ x6 6 <|
      b1_ (fn_X7_restFrom c_t_stops c_t_rest c_q1_least (c_t_stops (Int32.toNatClampNeg x6)) x5 x4 x2) fun r6 =>
      ck_ ((x5 * 6) + x6) 384 <|
      lx_ (upd c_t_rest (Int32.toNatClampNeg ((x5 * 6) + x6)) r6) fun f8 =>
      rc (x6 + 1) f8
    else
      rc (x6 + 1) c_t_rest
def fn_X7_plan_l22 (c_t_stops : Nat → Int32) (c_q1_least : Nat → Int32) (x2 : Int32) (x4 : Int32) (x5 : Int32) (k : (Nat → Int32) → Option (Int32 × Int32 × (Nat → Int32) × (Nat → Int32))) : Nat → Int32 → (Nat → Int32) → Option (Int32 × Int32 × (Nat → Int32) × (Nat → Int32))
  | 0 => fun _ _ => none
  | n + 1 => fun x6 c_t_rest => fn_X7_plan_b22 c_t_stops c_q1_least x2 x4 x5 (fn_X7_plan_l22 c_t_stops c_q1_least x2 x4 x5 k n) k x6 c_t_rest
def fn_X7_plan_b10 (c_t_stops : Nat → Int32) (c_q1_least : Nat → Int32) (x2 : Int32) (x4 : Int32) (rc : Int32 → (Nat → Int32) → Option (Int32 × Int32 × (Nat → Int32) × (Nat → Int32))) (k : (Nat → Int32) → Option (Int32 × Int32 × (Nat → Int32) × (Nat → Int32))) (x5 : Int32) (c_t_rest : Nat → Int32) : Option (Int32 × Int32 × (Nat → Int32) × (Nat → Int32)) :=
  if (1 <<< (x4 &&& 31)) ≤ x5 then
    k c_t_rest
  else
    fn_X7_plan_l22 c_t_stops c_q1_least x2 x4 x5 (fun v9 =>
      rc (x5 + 1) v9) fu_ 0 c_t_rest
def fn_X7_plan_l10 (c_t_stops : Nat → Int32) (c_q1_least : Nat → Int32) (x2 : Int32) (x4 : Int32) (k : (Nat → Int32) → Option (Int32 × Int32 × (Nat → Int32) × (Nat → Int32))) : Nat → Int32 → (Nat → Int32) → Option (Int32 × Int32 × (Nat → Int32) × (Nat → Int32))
  | 0 => fun _ _ => none
  | n + 1 => fun x5 c_t_rest => fn_X7_plan_b10 c_t_stops c_q1_least x2 x4 (fn_X7_plan_l10 c_t_stops c_q1_least x2 x4 k n) k x5 c_t_rest
def fn_X7_plan_b116 (c_t_costs : Int32) (c_t_stops : Nat → Int32) (c_t_rest : Nat → Int32) (c_q1_least : Nat → Int32) (x2 : Int32) (x5 : Int32) (rc : Int32 → Int32 → Option (Int32 × Int32 × (Nat → Int32) × (Nat → Int32))) (k : Int32 → Option (Int32 × Int32 × (Nat → Int32) × (Nat → Int32))) (x6 : Int32) (c_t_firstStop : Int32) : Option (Int32 × Int32 × (Nat → Int32) × (Nat → Int32)) :=
  if x6 < 0 then
    k c_t_firstStop
  else
    if 1000000 ≤ c_t_costs then
      rc (x6 + (-1)) c_t_firstStop
    else
      b1_ (fn_X7_restBy c_t_stops c_t_rest c_q1_least x2 x5 x6) fun r14 =>
      if r14 = c_t_costs then
        ck_ x6 6 <|
        lx_ (c_t_stops (Int32.toNatClampNeg x6)) fun y16 =>
        rc (x6 + (-1)) y16
      else
        rc (x6 + (-1)) c_t_firstStop
def fn_X7_plan_l116 (c_t_costs : Int32) (c_t_stops : Nat → Int32) (c_t_rest : Nat → Int32) (c_q1_least : Nat → Int32) (x2 : Int32) (x5 : Int32) (k : Int32 → Option (Int32 × Int32 × (Nat → Int32) × (Nat → Int32))) : Nat → Int32 → Int32 → Option (Int32 × Int32 × (Nat → Int32) × (Nat → Int32))
  | 0 => fun _ _ => none
  | n + 1 => fun x6 c_t_firstStop => fn_X7_plan_b116 c_t_costs c_t_stops c_t_rest c_q1_least x2 x5 (fn_X7_plan_l116 c_t_costs c_t_stops c_t_rest c_q1_least x2 x5 k n) k x6 c_t_firstStop
def fn_X7_plan (c_t_costs : Int32) (c_t_firstStop : Int32) (c_t_stops : Nat → Int32) (c_t_rest : Nat → Int32) (c_q1_least : Nat → Int32) (x2 : Int32) (x3 : Int32) : Option (Int32 × Int32 × (Nat → Int32) × (Nat → Int32)) :=
  b2_ (fn_X7_listStops c_t_stops x3) fun r1 w2 =>
  fn_X7_plan_l10 w2 c_q1_least x2 r1 (fun v10 =>
    lx_ ((1 <<< (r1 &&& 31)) - 1) fun y11 =>
    b1_ (fn_X7_restFrom w2 v10 c_q1_least x2 y11 r1 x2) fun r12 =>
    fn_X7_plan_l116 r12 w2 v10 c_q1_least x2 y11 (fun v17 =>
      some (r12, v17, w2, v10)) fu_ (r1 - 1) (-6)) fu_ 0 c_t_rest
set_option maxHeartbeats 4000000 in
set_option maxRecDepth 100000 in
theorem wn_X7_plan_l22 {p : Program} {l : Launch} {e : Env} {s : State} {m : MethodId} {args : Array Value} {below : List Frame} {meth : Method} {c : Code} {G : gw_} {A : Nat → Prop} {Q : State → Prop} {A_t : Nat} {A_t_stops : Nat} {A_t_rest : Nat} {A_q1 : Nat} {A_q1_planks : Nat} {A_q1_least : Nat} {A_q1_neighbours : Nat} {c_t_costs : Int32} {z_t_costs : Int32} {c_t_firstStop : Int32} {z_t_firstStop : Int32} {c_t_stops : Nat → Int32} {z_t_stops : Nat → Int32} {z_t_rest : Nat → Int32} {c_q1_least : Nat → Int32} {x2 : Int32} {x4 : Int32} {x5 : Int32} {k : (Nat → Int32) → Option (Int32 × Int32 × (Nat → Int32) × (Nat → Int32))} (hC : cx_ p s m c G cX7_plan 7 RX7) (hret : ∀ (pc : Nat) (H : Heap) (locs : List Loc) (ls : Array Slot), decode cX7_plan pc = .ok (.return_, 1) → wd_ G A s.heap (wl_X7_plan G A_t A_t_stops A_t_rest A_q1 A_q1_planks A_q1_least A_q1_neighbours z_t_costs z_t_firstStop z_t_stops z_t_rest c_q1_least) H locs → W p l e { frames := 3, cells := 0, slots := 0, locals := 73 } s m args below meth c H locs 0 0 Q (F0 m pc ls [])) (hk : ∀ (c_t_rest : Nat → Int32) (H : Heap) (locs : List Loc) (ls : Array Slot), k c_t_rest = some (z_t_costs, z_t_firstStop, z_t_stops, z_t_rest) → lv_has ls 7 [(0, .ref A_t), (1, .ref A_q1), (2, .int x2), (4, .int x4), (5, .int x5)] → wd_ G A s.heap (wl_X7_plan G A_t A_t_stops A_t_rest A_q1 A_q1_planks A_q1_least A_q1_neighbours c_t_costs c_t_firstStop c_t_stops c_t_rest c_q1_least) H locs → W p l e { frames := 3, cells := 0, slots := 0, locals := 73 } s m args below meth c H locs 0 0 Q (F0 m 75 ls [])) : ∀ (n : Nat) (x6 : Int32) (c_t_rest : Nat → Int32) (H : Heap) (locs : List Loc) (ls : Array Slot), fn_X7_plan_l22 c_t_stops c_q1_least x2 x4 x5 k n x6 c_t_rest = some (z_t_costs, z_t_firstStop, z_t_stops, z_t_rest) → lv_has ls 7 [(0, .ref A_t), (1, .ref A_q1), (2, .int x2), (4, .int x4), (5, .int x5), (6, .int x6)] → wd_ G A s.heap (wl_X7_plan G A_t A_t_stops A_t_rest A_q1 A_q1_planks A_q1_least A_q1_neighbours c_t_costs c_t_firstStop c_t_stops c_t_rest c_q1_least) H locs → W p l e { frames := 3, cells := 0, slots := 0, locals := 73 } s m args below meth c H locs 0 0 Q (F0 m 22 ls []) := by
  have hx := hC.1
  have hb := hC.2.1
  intro n
  induction n with
  | zero =>
    intro x6 c_t_rest H locs ls hf
    cases (show (none : Option (Int32 × Int32 × (Nat → Int32) × (Nat → Int32))) = some _ from hf)
  | succ n hrc =>
    intro x6 c_t_rest H locs ls hf hl hw
    replace hf : fn_X7_plan_b22 c_t_stops c_q1_least x2 x4 x5 (fn_X7_plan_l22 c_t_stops c_q1_least x2 x4 x5 k n) k x6 c_t_rest = some (z_t_costs, z_t_firstStop, z_t_stops, z_t_rest) := hf
    unfold fn_X7_plan_b22 at hf
    refine lv_iload hx hb dX7_plan_22 (lv_at hl 5 rfl) ?_
    refine lv_iload hx hb dX7_plan_24 (lv_at hl 3 rfl) ?_
    refine lv_icmp_ge (tgt := 75) hx hb dX7_plan_26 (by decide) (fun hc => ?_) (fun hc => ?_)
    · replace hf := it_t hc hf
      exact hk c_t_rest _ _ _ hf (lv_sub hl [0, 1, 2, 3, 4] rfl) hw
    · replace hf := it_f hc hf
      refine lv_iload hx hb dX7_plan_29 (lv_at hl 4 rfl) ?_
      refine lv_iload hx hb dX7_plan_31 (lv_at hl 5 rfl) ?_
      obtain ⟨r4, hq5, hf⟩ := b1_s hf
      refine h_cSi hC hw msX7_29 (cn_X9_isIn l G x5 x6 r4 hq5) [] rfl (by decide) rfl hl.1 rfl (Nat.le_of_ble_eq_true rfl) ⟨Nat.le_of_ble_eq_true rfl, Nat.le_of_ble_eq_true rfl⟩ ⟨Nat.le_refl _, Nat.le_refl _⟩ dX7_plan_33 (fun H locs hw => ?_)
      refine lv_if_ne (tgt := 69) hx hb dX7_plan_36 (by decide) (fun hc => ?_) (fun hc => ?_)
      · replace hf := it_f hc hf
        refine lv_iinc (v := x6 + 1) (lv' := [(6, .int (x6 + 1)), (0, .ref A_t), (1, .ref A_q1), (2, .int x2), (4, .int x4), (5, .int x5)]) hx hb dX7_plan_69 hl (k := 5) rfl rfl (by decide) rfl (fun ls hl => ?_)
        refine lv_goto (tgt := 22) hx hb dX7_plan_72 (by decide) ?_
        exact hrc (x6 + 1) c_t_rest _ _ _ hf (lv_sub hl [1, 2, 3, 4, 5, 0] rfl) hw
      · replace hf := it_t hc hf
        refine lv_aload_n hx hb dX7_plan_39 rfl (lv_at hl 0 rfl) ?_
        refine g_get hC hw fkX7_22 0 rfl rfl dX7_plan_40 ?_
        refine lv_iload hx hb dX7_plan_43 (lv_at hl 4 rfl) ?_
        refine lv_bipush (v := 6) hx hb dX7_plan_45 (by decide) ?_
        refine lv_imul hx hb dX7_plan_47 ?_
        refine lv_iload hx hb dX7_plan_48 (lv_at hl 5 rfl) ?_
        refine lv_iadd hx hb dX7_plan_50 ?_
        refine lv_aload_n hx hb dX7_plan_51 rfl (lv_at hl 0 rfl) ?_
        refine lv_aload_n hx hb dX7_plan_52 rfl (lv_at hl 1 rfl) ?_
        refine lv_aload_n hx hb dX7_plan_53 rfl (lv_at hl 0 rfl) ?_
        refine g_get hC hw fkX7_18 0 rfl rfl dX7_plan_54 ?_
        refine lv_iload hx hb dX7_plan_57 (lv_at hl 5 rfl) ?_
        obtain ⟨hi, hf⟩ := ck_s hf
        refine g_iald hC hw 1 rfl hi dX7_plan_59 ?_
        refine lv_iload hx hb dX7_plan_60 (lv_at hl 4 rfl) ?_
        refine lv_iload hx hb dX7_plan_62 (lv_at hl 3 rfl) ?_
        refine lv_iload_n hx hb dX7_plan_64 rfl (lv_at hl 2 rfl) ?_
        obtain ⟨r6, hq7, hf⟩ := b1_s hf
        refine h_cVi hC hw mvX7_33 (cn_X7_restFrom l G A_t A_t_stops A_t_rest A_q1 A_q1_planks A_q1_least A_q1_neighbours c_t_costs c_t_firstStop c_t_stops c_t_rest c_q1_least (c_t_stops (Int32.toNatClampNeg x6)) x5 x4 x2 r6 hq7) [0, 1, 2, 3, 4] rfl (by decide) 0 rfl rfl rfl hl.1 rfl (Nat.le_of_ble_eq_true rfl) ⟨Nat.le_of_ble_eq_true rfl, Nat.le_of_ble_eq_true rfl⟩ ⟨Nat.le_refl _, Nat.le_refl _⟩ dX7_plan_65 (fun H locs hw => ?_)
        obtain ⟨hi, hf⟩ := ck_s hf
        obtain ⟨f8, ef8, hf⟩ := lx_s hf
        refine g_iast hC hw 2 rfl hi ef8 dX7_plan_68 (fun H locs hw => ?_)
        have hw : wd_ G A s.heap (wl_X7_plan G A_t A_t_stops A_t_rest A_q1 A_q1_planks A_q1_least A_q1_neighbours c_t_costs c_t_firstStop c_t_stops f8 c_q1_least) H locs := hw
        refine lv_iinc (v := x6 + 1) (lv' := [(6, .int (x6 + 1)), (0, .ref A_t), (1, .ref A_q1), (2, .int x2), (4, .int x4), (5, .int x5)]) hx hb dX7_plan_69 hl (k := 5) rfl rfl (by decide) rfl (fun ls hl => ?_)
        refine lv_goto (tgt := 22) hx hb dX7_plan_72 (by decide) ?_
        exact hrc (x6 + 1) f8 _ _ _ hf (lv_sub hl [1, 2, 3, 4, 5, 0] rfl) hw
set_option maxHeartbeats 4000000 in
set_option maxRecDepth 100000 in
theorem wn_X7_plan_l10 {p : Program} {l : Launch} {e : Env} {s : State} {m : MethodId} {args : Array Value} {below : List Frame} {meth : Method} {c : Code} {G : gw_} {A : Nat → Prop} {Q : State → Prop} {A_t : Nat} {A_t_stops : Nat} {A_t_rest : Nat} {A_q1 : Nat} {A_q1_planks : Nat} {A_q1_least : Nat} {A_q1_neighbours : Nat} {c_t_costs : Int32} {z_t_costs : Int32} {c_t_firstStop : Int32} {z_t_firstStop : Int32} {c_t_stops : Nat → Int32} {z_t_stops : Nat → Int32} {z_t_rest : Nat → Int32} {c_q1_least : Nat → Int32} {x2 : Int32} {x4 : Int32} {k : (Nat → Int32) → Option (Int32 × Int32 × (Nat → Int32) × (Nat → Int32))} (hC : cx_ p s m c G cX7_plan 7 RX7) (hret : ∀ (pc : Nat) (H : Heap) (locs : List Loc) (ls : Array Slot), decode cX7_plan pc = .ok (.return_, 1) → wd_ G A s.heap (wl_X7_plan G A_t A_t_stops A_t_rest A_q1 A_q1_planks A_q1_least A_q1_neighbours z_t_costs z_t_firstStop z_t_stops z_t_rest c_q1_least) H locs → W p l e { frames := 3, cells := 0, slots := 0, locals := 73 } s m args below meth c H locs 0 0 Q (F0 m pc ls [])) (hk : ∀ (c_t_rest : Nat → Int32) (H : Heap) (locs : List Loc) (ls : Array Slot), k c_t_rest = some (z_t_costs, z_t_firstStop, z_t_stops, z_t_rest) → lv_has ls 7 [(0, .ref A_t), (1, .ref A_q1), (2, .int x2), (4, .int x4)] → wd_ G A s.heap (wl_X7_plan G A_t A_t_stops A_t_rest A_q1 A_q1_planks A_q1_least A_q1_neighbours c_t_costs c_t_firstStop c_t_stops c_t_rest c_q1_least) H locs → W p l e { frames := 3, cells := 0, slots := 0, locals := 73 } s m args below meth c H locs 0 0 Q (F0 m 81 ls [])) : ∀ (n : Nat) (x5 : Int32) (c_t_rest : Nat → Int32) (H : Heap) (locs : List Loc) (ls : Array Slot), fn_X7_plan_l10 c_t_stops c_q1_least x2 x4 k n x5 c_t_rest = some (z_t_costs, z_t_firstStop, z_t_stops, z_t_rest) → lv_has ls 7 [(0, .ref A_t), (1, .ref A_q1), (2, .int x2), (4, .int x4), (5, .int x5)] → wd_ G A s.heap (wl_X7_plan G A_t A_t_stops A_t_rest A_q1 A_q1_planks A_q1_least A_q1_neighbours c_t_costs c_t_firstStop c_t_stops c_t_rest c_q1_least) H locs → W p l e { frames := 3, cells := 0, slots := 0, locals := 73 } s m args below meth c H locs 0 0 Q (F0 m 10 ls []) := by
  have hx := hC.1
  have hb := hC.2.1
  intro n
  induction n with
  | zero =>
    intro x5 c_t_rest H locs ls hf
    cases (show (none : Option (Int32 × Int32 × (Nat → Int32) × (Nat → Int32))) = some _ from hf)
  | succ n hrc =>
    intro x5 c_t_rest H locs ls hf hl hw
    replace hf : fn_X7_plan_b10 c_t_stops c_q1_least x2 x4 (fn_X7_plan_l10 c_t_stops c_q1_least x2 x4 k n) k x5 c_t_rest = some (z_t_costs, z_t_firstStop, z_t_stops, z_t_rest) := hf
    unfold fn_X7_plan_b10 at hf
    refine lv_iload hx hb dX7_plan_10 (lv_at hl 4 rfl) ?_
    refine lv_iconst (v := 1) hx hb dX7_plan_12 (by decide) ?_
    refine lv_iload hx hb dX7_plan_13 (lv_at hl 3 rfl) ?_
    refine lv_ishl hx hb dX7_plan_15 ?_
    refine lv_icmp_ge (tgt := 81) hx hb dX7_plan_16 (by decide) (fun hc => ?_) (fun hc => ?_)
    · replace hf := it_t hc hf
      exact hk c_t_rest _ _ _ hf (lv_sub hl [0, 1, 2, 3] rfl) hw
    · replace hf := it_f hc hf
      refine lv_iconst (v := 0) hx hb dX7_plan_19 (by decide) ?_
      refine lv_istore (lv' := [(6, .int 0), (0, .ref A_t), (1, .ref A_q1), (2, .int x2), (4, .int x4), (5, .int x5)]) hx hb dX7_plan_20 hl (by decide) rfl (fun ls hl => ?_)
      refine wn_X7_plan_l22 hC hret (fun v9 H locs ls hf hl hw => ?_) fu_ 0 c_t_rest _ _ _ hf (lv_sub hl [1, 2, 3, 4, 5, 0] rfl) hw
      refine lv_iinc (v := x5 + 1) (lv' := [(5, .int (x5 + 1)), (0, .ref A_t), (1, .ref A_q1), (2, .int x2), (4, .int x4)]) hx hb dX7_plan_75 hl (k := 4) rfl rfl (by decide) rfl (fun ls hl => ?_)
      refine lv_goto (tgt := 10) hx hb dX7_plan_78 (by decide) ?_
      exact hrc (x5 + 1) v9 _ _ _ hf (lv_sub hl [1, 2, 3, 4, 0] rfl) hw
set_option maxHeartbeats 4000000 in
set_option maxRecDepth 100000 in
theorem wn_X7_plan_l116 {p : Program} {l : Launch} {e : Env} {s : State} {m : MethodId} {args : Array Value} {below : List Frame} {meth : Method} {c : Code} {G : gw_} {A : Nat → Prop} {Q : State → Prop} {A_t : Nat} {A_t_stops : Nat} {A_t_rest : Nat} {A_q1 : Nat} {A_q1_planks : Nat} {A_q1_least : Nat} {A_q1_neighbours : Nat} {c_t_costs : Int32} {z_t_costs : Int32} {z_t_firstStop : Int32} {c_t_stops : Nat → Int32} {z_t_stops : Nat → Int32} {c_t_rest : Nat → Int32} {z_t_rest : Nat → Int32} {c_q1_least : Nat → Int32} {x2 : Int32} {x5 : Int32} {k : Int32 → Option (Int32 × Int32 × (Nat → Int32) × (Nat → Int32))} (hC : cx_ p s m c G cX7_plan 7 RX7) (hret : ∀ (pc : Nat) (H : Heap) (locs : List Loc) (ls : Array Slot), decode cX7_plan pc = .ok (.return_, 1) → wd_ G A s.heap (wl_X7_plan G A_t A_t_stops A_t_rest A_q1 A_q1_planks A_q1_least A_q1_neighbours z_t_costs z_t_firstStop z_t_stops z_t_rest c_q1_least) H locs → W p l e { frames := 3, cells := 0, slots := 0, locals := 73 } s m args below meth c H locs 0 0 Q (F0 m pc ls [])) (hk : ∀ (c_t_firstStop : Int32) (H : Heap) (locs : List Loc) (ls : Array Slot), k c_t_firstStop = some (z_t_costs, z_t_firstStop, z_t_stops, z_t_rest) → lv_has ls 7 [] → wd_ G A s.heap (wl_X7_plan G A_t A_t_stops A_t_rest A_q1 A_q1_planks A_q1_least A_q1_neighbours c_t_costs c_t_firstStop c_t_stops c_t_rest c_q1_least) H locs → W p l e { frames := 3, cells := 0, slots := 0, locals := 73 } s m args below meth c H locs 0 0 Q (F0 m 164 ls [])) : ∀ (n : Nat) (x6 : Int32) (c_t_firstStop : Int32) (H : Heap) (locs : List Loc) (ls : Array Slot), fn_X7_plan_l116 c_t_costs c_t_stops c_t_rest c_q1_least x2 x5 k n x6 c_t_firstStop = some (z_t_costs, z_t_firstStop, z_t_stops, z_t_rest) → lv_has ls 7 [(0, .ref A_t), (1, .ref A_q1), (2, .int x2), (5, .int x5), (6, .int x6)] → wd_ G A s.heap (wl_X7_plan G A_t A_t_stops A_t_rest A_q1 A_q1_planks A_q1_least A_q1_neighbours c_t_costs c_t_firstStop c_t_stops c_t_rest c_q1_least) H locs → W p l e { frames := 3, cells := 0, slots := 0, locals := 73 } s m args below meth c H locs 0 0 Q (F0 m 116 ls []) := by
  have hx := hC.1
  have hb := hC.2.1
  intro n
  induction n with
  | zero =>
    intro x6 c_t_firstStop H locs ls hf
    cases (show (none : Option (Int32 × Int32 × (Nat → Int32) × (Nat → Int32))) = some _ from hf)
  | succ n hrc =>
    intro x6 c_t_firstStop H locs ls hf hl hw
    replace hf : fn_X7_plan_b116 c_t_costs c_t_stops c_t_rest c_q1_least x2 x5 (fn_X7_plan_l116 c_t_costs c_t_stops c_t_rest c_q1_least x2 x5 k n) k x6 c_t_firstStop = some (z_t_costs, z_t_firstStop, z_t_stops, z_t_rest) := hf
    unfold fn_X7_plan_b116 at hf
    refine lv_iload hx hb dX7_plan_116 (lv_at hl 4 rfl) ?_
    refine lv_if_lt (tgt := 164) hx hb dX7_plan_118 (by decide) (fun hc => ?_) (fun hc => ?_)
    · replace hf := it_t hc hf
      exact hk c_t_firstStop _ _ _ hf (lv_sub hl [] rfl) hw
    · replace hf := it_f hc hf
      refine lv_aload_n hx hb dX7_plan_121 rfl (lv_at hl 0 rfl) ?_
      refine g_get hC hw fkX7_9 0 rfl rfl dX7_plan_122 ?_
      refine g_ldc (v := 1000000) hC (tb3 32 rfl rfl) dX7_plan_125 ?_
      refine lv_icmp_ge (tgt := 158) hx hb dX7_plan_127 (by decide) (fun hc => ?_) (fun hc => ?_)
      · replace hf := it_t hc hf
        refine lv_iinc (v := x6 + (-1)) (lv' := [(6, .int (x6 + (-1))), (0, .ref A_t), (1, .ref A_q1), (2, .int x2), (5, .int x5)]) hx hb dX7_plan_158 hl (k := 4) rfl rfl (by decide) rfl (fun ls hl => ?_)
        refine lv_goto (tgt := 116) hx hb dX7_plan_161 (by decide) ?_
        exact hrc (x6 + (-1)) c_t_firstStop _ _ _ hf (lv_sub hl [1, 2, 3, 4, 0] rfl) hw
      · replace hf := it_f hc hf
        refine lv_aload_n hx hb dX7_plan_130 rfl (lv_at hl 0 rfl) ?_
        refine lv_aload_n hx hb dX7_plan_131 rfl (lv_at hl 1 rfl) ?_
        refine lv_iload_n hx hb dX7_plan_132 rfl (lv_at hl 2 rfl) ?_
        refine lv_iload hx hb dX7_plan_133 (lv_at hl 3 rfl) ?_
        refine lv_iload hx hb dX7_plan_135 (lv_at hl 4 rfl) ?_
        obtain ⟨r14, hq15, hf⟩ := b1_s hf
        refine h_cVi hC hw mvX7_38 (cn_X7_restBy l G A_t A_t_stops A_t_rest A_q1 A_q1_planks A_q1_least A_q1_neighbours c_t_costs c_t_firstStop c_t_stops c_t_rest c_q1_least x2 x5 x6 r14 hq15) [0, 1, 2, 3, 4] rfl (by decide) 0 rfl rfl rfl hl.1 rfl (Nat.le_of_ble_eq_true rfl) ⟨Nat.le_of_ble_eq_true rfl, Nat.le_of_ble_eq_true rfl⟩ ⟨Nat.le_refl _, Nat.le_refl _⟩ dX7_plan_137 (fun H locs hw => ?_)
        refine lv_aload_n hx hb dX7_plan_140 rfl (lv_at hl 0 rfl) ?_
        refine g_get hC hw fkX7_9 0 rfl rfl dX7_plan_141 ?_
        refine lv_icmp_ne (tgt := 158) hx hb dX7_plan_144 (by decide) (fun hc => ?_) (fun hc => ?_)
        · replace hf := it_f hc hf
          refine lv_iinc (v := x6 + (-1)) (lv' := [(6, .int (x6 + (-1))), (0, .ref A_t), (1, .ref A_q1), (2, .int x2), (5, .int x5)]) hx hb dX7_plan_158 hl (k := 4) rfl rfl (by decide) rfl (fun ls hl => ?_)
          refine lv_goto (tgt := 116) hx hb dX7_plan_161 (by decide) ?_
          exact hrc (x6 + (-1)) c_t_firstStop _ _ _ hf (lv_sub hl [1, 2, 3, 4, 0] rfl) hw
        · replace hf := it_t hc hf
          refine lv_aload_n hx hb dX7_plan_147 rfl (lv_at hl 0 rfl) ?_
          refine lv_aload_n hx hb dX7_plan_148 rfl (lv_at hl 0 rfl) ?_
          refine g_get hC hw fkX7_18 0 rfl rfl dX7_plan_149 ?_
          refine lv_iload hx hb dX7_plan_152 (lv_at hl 4 rfl) ?_
          obtain ⟨hi, hf⟩ := ck_s hf
          refine g_iald hC hw 1 rfl hi dX7_plan_154 ?_
          obtain ⟨y16, ey16, hf⟩ := lx_s hf
          rw [← ey16]
          refine g_put hC hw fpX7_15 0 rfl rfl rfl (Nat.le_of_ble_eq_true rfl) dX7_plan_155 (fun H locs hw => ?_)
          have hw : wd_ G A s.heap (wl_X7_plan G A_t A_t_stops A_t_rest A_q1 A_q1_planks A_q1_least A_q1_neighbours c_t_costs y16 c_t_stops c_t_rest c_q1_least) H locs := hw
          refine lv_iinc (v := x6 + (-1)) (lv' := [(6, .int (x6 + (-1))), (0, .ref A_t), (1, .ref A_q1), (2, .int x2), (5, .int x5)]) hx hb dX7_plan_158 hl (k := 4) rfl rfl (by decide) rfl (fun ls hl => ?_)
          refine lv_goto (tgt := 116) hx hb dX7_plan_161 (by decide) ?_
          exact hrc (x6 + (-1)) y16 _ _ _ hf (lv_sub hl [1, 2, 3, 4, 0] rfl) hw
set_option maxHeartbeats 4000000 in
set_option maxRecDepth 100000 in
theorem wn_X7_plan {p : Program} {l : Launch} {e : Env} {s : State} {m : MethodId} {args : Array Value} {below : List Frame} {meth : Method} {c : Code} {G : gw_} {A : Nat → Prop} {Q : State → Prop} {A_t : Nat} {A_t_stops : Nat} {A_t_rest : Nat} {A_q1 : Nat} {A_q1_planks : Nat} {A_q1_least : Nat} {A_q1_neighbours : Nat} {c_t_costs : Int32} {z_t_costs : Int32} {c_t_firstStop : Int32} {z_t_firstStop : Int32} {c_t_stops : Nat → Int32} {z_t_stops : Nat → Int32} {c_t_rest : Nat → Int32} {z_t_rest : Nat → Int32} {c_q1_least : Nat → Int32} {x2 : Int32} {x3 : Int32} (hC : cx_ p s m c G cX7_plan 7 RX7) (hret : ∀ (pc : Nat) (H : Heap) (locs : List Loc) (ls : Array Slot), decode cX7_plan pc = .ok (.return_, 1) → wd_ G A s.heap (wl_X7_plan G A_t A_t_stops A_t_rest A_q1 A_q1_planks A_q1_least A_q1_neighbours z_t_costs z_t_firstStop z_t_stops z_t_rest c_q1_least) H locs → W p l e { frames := 3, cells := 0, slots := 0, locals := 73 } s m args below meth c H locs 0 0 Q (F0 m pc ls [])) (hf : fn_X7_plan c_t_costs c_t_firstStop c_t_stops c_t_rest c_q1_least x2 x3 = some (z_t_costs, z_t_firstStop, z_t_stops, z_t_rest)) {H : Heap} {locs : List Loc} {ls : Array Slot} (hl : lv_has ls 7 [(0, .ref A_t), (1, .ref A_q1), (2, .int x2), (3, .int x3)]) (hw : wd_ G A s.heap (wl_X7_plan G A_t A_t_stops A_t_rest A_q1 A_q1_planks A_q1_least A_q1_neighbours c_t_costs c_t_firstStop c_t_stops c_t_rest c_q1_least) H locs) : W p l e { frames := 3, cells := 0, slots := 0, locals := 73 } s m args below meth c H locs 0 0 Q (F0 m 0 ls []) := by
  have hx := hC.1
  have hb := hC.2.1
  unfold fn_X7_plan at hf
  refine lv_aload_n hx hb dX7_plan_0 rfl (lv_at hl 0 rfl) ?_
  refine lv_iload_n hx hb dX7_plan_1 rfl (lv_at hl 3 rfl) ?_
  obtain ⟨r1, w2, hq3, hf⟩ := b2_s hf
  refine g_cVi hC hw mvX7_25 (cn_X7_listStops l G A_t A_t_stops A_t_rest c_t_costs c_t_firstStop c_t_stops x3 r1 w2 hq3) [0, 1] rfl (by decide) rfl 0 rfl rfl rfl hl.1 rfl (Nat.le_of_ble_eq_true rfl) ⟨Nat.le_of_ble_eq_true rfl, Nat.le_of_ble_eq_true rfl⟩ ⟨Nat.le_refl _, Nat.le_refl _⟩ dX7_plan_2 (fun H locs hw => ?_)
  have hw : wd_ G A s.heap (wl_X7_plan G A_t A_t_stops A_t_rest A_q1 A_q1_planks A_q1_least A_q1_neighbours c_t_costs c_t_firstStop w2 c_t_rest c_q1_least) H locs := hw
  refine lv_istore (lv' := [(4, .int r1), (0, .ref A_t), (1, .ref A_q1), (2, .int x2), (3, .int x3)]) hx hb dX7_plan_5 hl (by decide) rfl (fun ls hl => ?_)
  refine lv_iconst (v := 0) hx hb dX7_plan_7 (by decide) ?_
  refine lv_istore (lv' := [(5, .int 0), (4, .int r1), (0, .ref A_t), (1, .ref A_q1), (2, .int x2), (3, .int x3)]) hx hb dX7_plan_8 hl (by decide) rfl (fun ls hl => ?_)
  refine wn_X7_plan_l10 hC hret (fun v10 H locs ls hf hl hw => ?_) fu_ 0 c_t_rest _ _ _ hf (lv_sub hl [2, 3, 4, 1, 0] rfl) hw
  refine lv_iconst (v := 1) hx hb dX7_plan_81 (by decide) ?_
  refine lv_iload hx hb dX7_plan_82 (lv_at hl 3 rfl) ?_
  refine lv_ishl hx hb dX7_plan_84 ?_
  refine lv_iconst (v := 1) hx hb dX7_plan_85 (by decide) ?_
  refine lv_isub hx hb dX7_plan_86 ?_
  obtain ⟨y11, ey11, hf⟩ := lx_s hf
  rw [← ey11]
  refine lv_istore (lv' := [(5, .int y11), (0, .ref A_t), (1, .ref A_q1), (2, .int x2), (4, .int r1)]) hx hb dX7_plan_87 hl (by decide) rfl (fun ls hl => ?_)
  refine lv_aload_n hx hb dX7_plan_89 rfl (lv_at hl 1 rfl) ?_
  refine lv_aload_n hx hb dX7_plan_90 rfl (lv_at hl 1 rfl) ?_
  refine lv_aload_n hx hb dX7_plan_91 rfl (lv_at hl 2 rfl) ?_
  refine lv_iload_n hx hb dX7_plan_92 rfl (lv_at hl 3 rfl) ?_
  refine lv_iload hx hb dX7_plan_93 (lv_at hl 0 rfl) ?_
  refine lv_iload hx hb dX7_plan_95 (lv_at hl 4 rfl) ?_
  refine lv_iload_n hx hb dX7_plan_97 rfl (lv_at hl 3 rfl) ?_
  obtain ⟨r12, hq13, hf⟩ := b1_s hf
  refine h_cVi hC hw mvX7_33 (cn_X7_restFrom l G A_t A_t_stops A_t_rest A_q1 A_q1_planks A_q1_least A_q1_neighbours c_t_costs c_t_firstStop w2 v10 c_q1_least x2 y11 r1 x2 r12 hq13) [0, 1, 2, 3, 4] rfl (by decide) 0 rfl rfl rfl hl.1 rfl (Nat.le_of_ble_eq_true rfl) ⟨Nat.le_of_ble_eq_true rfl, Nat.le_of_ble_eq_true rfl⟩ ⟨Nat.le_refl _, Nat.le_refl _⟩ dX7_plan_98 (fun H locs hw => ?_)
  refine g_put hC hw fpX7_9 0 rfl rfl rfl (Nat.le_of_ble_eq_true rfl) dX7_plan_101 (fun H locs hw => ?_)
  have hw : wd_ G A s.heap (wl_X7_plan G A_t A_t_stops A_t_rest A_q1 A_q1_planks A_q1_least A_q1_neighbours r12 c_t_firstStop w2 v10 c_q1_least) H locs := hw
  refine lv_aload_n hx hb dX7_plan_104 rfl (lv_at hl 1 rfl) ?_
  refine lv_bipush (v := (-6)) hx hb dX7_plan_105 (by decide) ?_
  refine g_put hC hw fpX7_15 0 rfl rfl rfl (Nat.le_of_ble_eq_true rfl) dX7_plan_107 (fun H locs hw => ?_)
  have hw : wd_ G A s.heap (wl_X7_plan G A_t A_t_stops A_t_rest A_q1 A_q1_planks A_q1_least A_q1_neighbours r12 (-6) w2 v10 c_q1_least) H locs := hw
  refine lv_iload hx hb dX7_plan_110 (lv_at hl 4 rfl) ?_
  refine lv_iconst (v := 1) hx hb dX7_plan_112 (by decide) ?_
  refine lv_isub hx hb dX7_plan_113 ?_
  refine lv_istore (lv' := [(6, .int (r1 - 1)), (5, .int y11), (0, .ref A_t), (1, .ref A_q1), (2, .int x2), (4, .int r1)]) hx hb dX7_plan_114 hl (by decide) rfl (fun ls hl => ?_)
  refine wn_X7_plan_l116 hC hret (fun v17 H locs ls hf hl hw => ?_) fu_ (r1 - 1) (-6) _ _ _ hf (lv_sub hl [2, 3, 4, 1, 0] rfl) hw
  obtain ⟨h1_, h2_, h3_, h4_⟩ := t4_ hf
  subst h1_
  subst h2_
  subst h3_
  subst h4_
  exact hret _ _ _ _ dX7_plan_164 hw
set_option maxHeartbeats 4000000 in
set_option maxRecDepth 100000 in
theorem cn_X7_plan (l : Launch) (G : gw_) (A_t : Nat) (A_t_stops : Nat) (A_t_rest : Nat) (A_q1 : Nat) (A_q1_planks : Nat) (A_q1_least : Nat) (A_q1_neighbours : Nat) (c_t_costs : Int32) (c_t_firstStop : Int32) (c_t_stops : Nat → Int32) (c_t_rest : Nat → Int32) (c_q1_least : Nat → Int32) (x2 : Int32) (x3 : Int32) (z_t_costs : Int32) (z_t_firstStop : Int32) (z_t_stops : Nat → Int32) (z_t_rest : Nat → Int32) (hf : fn_X7_plan c_t_costs c_t_firstStop c_t_stops c_t_rest c_q1_least x2 x3 = some (z_t_costs, z_t_firstStop, z_t_stops, z_t_rest)) : cv_ l G yX7_plan cX7_plan 7 none 3 73 (wl_X7_plan G A_t A_t_stops A_t_rest A_q1 A_q1_planks A_q1_least A_q1_neighbours c_t_costs c_t_firstStop c_t_stops c_t_rest c_q1_least) [.ref A_t, .ref A_q1, .int x2, .int x3] (wl_X7_plan G A_t A_t_stops A_t_rest A_q1 A_q1_planks A_q1_least A_q1_neighbours z_t_costs z_t_firstStop z_t_stops z_t_rest c_q1_least) := fun sz => met_intro (by decide) (Nat.le_of_ble_eq_true rfl) (fun p e s m args below meth c ls hsz hC hr hlk hnm hl hw => wn_X7_plan hC (fun pc H locs ls hd hw => g_vret hC hr hlk hw hd) hf hl hw)

theorem dX8_shortenBy_0 : decode cX8_shortenBy 0 = .ok (.iconst 0, 1) := by decide +kernel
theorem dX8_shortenBy_1 : decode cX8_shortenBy 1 = .ok (.istore_n 2, 1) := by decide +kernel
theorem dX8_shortenBy_2 : decode cX8_shortenBy 2 = .ok (.iload_n 2, 1) := by decide +kernel
theorem dX8_shortenBy_3 : decode cX8_shortenBy 3 = .ok (.bipush 12, 2) := by decide +kernel
theorem dX8_shortenBy_5 : decode cX8_shortenBy 5 = .ok (.if_icmp .ge 75, 3) := by decide +kernel
theorem dX8_shortenBy_8 : decode cX8_shortenBy 8 = .ok (.aload_n 0, 1) := by decide +kernel
theorem dX8_shortenBy_9 : decode cX8_shortenBy 9 = .ok (.iload_n 2, 1) := by decide +kernel
theorem dX8_shortenBy_10 : decode cX8_shortenBy 10 = .ok (.iload_n 1, 1) := by decide +kernel
theorem dX8_shortenBy_11 : decode cX8_shortenBy 11 = .ok (.invokevirtual 32, 3) := by decide +kernel
theorem dX8_shortenBy_14 : decode cX8_shortenBy 14 = .ok (.istore_n 3, 1) := by decide +kernel
theorem dX8_shortenBy_15 : decode cX8_shortenBy 15 = .ok (.iload_n 3, 1) := by decide +kernel
theorem dX8_shortenBy_16 : decode cX8_shortenBy 16 = .ok (.ldc 27, 2) := by decide +kernel
theorem dX8_shortenBy_18 : decode cX8_shortenBy 18 = .ok (.if_icmp .ge 56, 3) := by decide +kernel
theorem dX8_shortenBy_21 : decode cX8_shortenBy 21 = .ok (.iconst 0, 1) := by decide +kernel
theorem dX8_shortenBy_22 : decode cX8_shortenBy 22 = .ok (.istore 4, 2) := by decide +kernel
theorem dX8_shortenBy_24 : decode cX8_shortenBy 24 = .ok (.iload 4, 2) := by decide +kernel
theorem dX8_shortenBy_26 : decode cX8_shortenBy 26 = .ok (.bipush 12, 2) := by decide +kernel
theorem dX8_shortenBy_28 : decode cX8_shortenBy 28 = .ok (.if_icmp .ge 46, 3) := by decide +kernel
theorem dX8_shortenBy_31 : decode cX8_shortenBy 31 = .ok (.iload_n 3, 1) := by decide +kernel
theorem dX8_shortenBy_32 : decode cX8_shortenBy 32 = .ok (.aload_n 0, 1) := by decide +kernel
theorem dX8_shortenBy_33 : decode cX8_shortenBy 33 = .ok (.iload_n 1, 1) := by decide +kernel
theorem dX8_shortenBy_34 : decode cX8_shortenBy 34 = .ok (.iload 4, 2) := by decide +kernel
theorem dX8_shortenBy_36 : decode cX8_shortenBy 36 = .ok (.invokevirtual 32, 3) := by decide +kernel
theorem dX8_shortenBy_39 : decode cX8_shortenBy 39 = .ok (.iadd, 1) := by decide +kernel
theorem dX8_shortenBy_40 : decode cX8_shortenBy 40 = .ok (.istore 5, 2) := by decide +kernel
theorem dX8_shortenBy_42 : decode cX8_shortenBy 42 = .ok (.iload 5, 2) := by decide +kernel
theorem dX8_shortenBy_44 : decode cX8_shortenBy 44 = .ok (.aload_n 0, 1) := by decide +kernel
theorem dX8_shortenBy_45 : decode cX8_shortenBy 45 = .ok (.iload_n 2, 1) := by decide +kernel
theorem dX8_shortenBy_46 : decode cX8_shortenBy 46 = .ok (.iload 4, 2) := by decide +kernel
theorem dX8_shortenBy_48 : decode cX8_shortenBy 48 = .ok (.invokevirtual 32, 3) := by decide +kernel
theorem dX8_shortenBy_51 : decode cX8_shortenBy 51 = .ok (.if_icmp .ge 17, 3) := by decide +kernel
theorem dX8_shortenBy_54 : decode cX8_shortenBy 54 = .ok (.aload_n 0, 1) := by decide +kernel
theorem dX8_shortenBy_55 : decode cX8_shortenBy 55 = .ok (.getfield 15, 3) := by decide +kernel
theorem dX8_shortenBy_58 : decode cX8_shortenBy 58 = .ok (.iload_n 2, 1) := by decide +kernel
theorem dX8_shortenBy_59 : decode cX8_shortenBy 59 = .ok (.bipush 12, 2) := by decide +kernel
theorem dX8_shortenBy_61 : decode cX8_shortenBy 61 = .ok (.imul, 1) := by decide +kernel
theorem dX8_shortenBy_62 : decode cX8_shortenBy 62 = .ok (.iload 4, 2) := by decide +kernel
theorem dX8_shortenBy_64 : decode cX8_shortenBy 64 = .ok (.iadd, 1) := by decide +kernel
theorem dX8_shortenBy_65 : decode cX8_shortenBy 65 = .ok (.iload 5, 2) := by decide +kernel
theorem dX8_shortenBy_67 : decode cX8_shortenBy 67 = .ok (.iastore, 1) := by decide +kernel
theorem dX8_shortenBy_68 : decode cX8_shortenBy 68 = .ok (.iinc 4 1, 3) := by decide +kernel
theorem dX8_shortenBy_71 : decode cX8_shortenBy 71 = .ok (.goto (-47), 3) := by decide +kernel
theorem dX8_shortenBy_74 : decode cX8_shortenBy 74 = .ok (.iinc 2 1, 3) := by decide +kernel
theorem dX8_shortenBy_77 : decode cX8_shortenBy 77 = .ok (.goto (-75), 3) := by decide +kernel
theorem dX8_shortenBy_80 : decode cX8_shortenBy 80 = .ok (.return_, 1) := by decide +kernel
abbrev wl_X8_shortenBy (G : gw_) (A_t : Nat) (A_t_planks : Nat) (A_t_least : Nat) (A_t_neighbours : Nat) (c_t_least : Nat → Int32) : va_W := [ob_ A_t 8 [.ref A_t_planks, .ref A_t_least, .ref A_t_neighbours], ia_ G A_t_least 144 c_t_least]
def fn_X8_shortenBy_b24 (x1 : Int32) (x2 : Int32) (x3 : Int32) (rc : Int32 → (Nat → Int32) → Option ((Nat → Int32))) (k : (Nat → Int32) → Option ((Nat → Int32))) (x4 : Int32) (c_t_least : Nat → Int32) : Option ((Nat → Int32)) :=
  if 12 ≤ x4 then
    k c_t_least
  else
    b1_ (fn_X8_between c_t_least x1 x4) fun r3 =>
    b1_ (fn_X8_between c_t_least x2 x4) fun r5 =>
    if r5 ≤ (x3 + r3) then
      rc (x4 + 1) c_t_least
    else
      ck_ ((x2 * 12) + x4) 144 <|
      lx_ (upd c_t_least (Int32.toNatClampNeg ((x2 * 12) + x4)) (x3 + r3)) fun f7 =>
      rc (x4 + 1) f7
def fn_X8_shortenBy_l24 (x1 : Int32) (x2 : Int32) (x3 : Int32) (k : (Nat → Int32) → Option ((Nat → Int32))) : Nat → Int32 → (Nat → Int32) → Option ((Nat → Int32))
  | 0 => fun _ _ => none
  | n + 1 => fun x4 c_t_least => fn_X8_shortenBy_b24 x1 x2 x3 (fn_X8_shortenBy_l24 x1 x2 x3 k n) k x4 c_t_least
def fn_X8_shortenBy_b2 (x1 : Int32) (rc : Int32 → (Nat → Int32) → Option ((Nat → Int32))) (k : (Nat → Int32) → Option ((Nat → Int32))) (x2 : Int32) (c_t_least : Nat → Int32) : Option ((Nat → Int32)) :=
  if 12 ≤ x2 then
    k c_t_least
  else
    b1_ (fn_X8_between c_t_least x2 x1) fun r1 =>
    if 1000000 ≤ r1 then
      rc (x2 + 1) c_t_least
    else
      fn_X8_shortenBy_l24 x1 x2 r1 (fun v8 =>
        rc (x2 + 1) v8) fu_ 0 c_t_least
def fn_X8_shortenBy_l2 (x1 : Int32) (k : (Nat → Int32) → Option ((Nat → Int32))) : Nat → Int32 → (Nat → Int32) → Option ((Nat → Int32))
  | 0 => fun _ _ => none
  | n + 1 => fun x2 c_t_least => fn_X8_shortenBy_b2 x1 (fn_X8_shortenBy_l2 x1 k n) k x2 c_t_least
def fn_X8_shortenBy (c_t_least : Nat → Int32) (x1 : Int32) : Option ((Nat → Int32)) :=
  fn_X8_shortenBy_l2 x1 (fun v9 =>
    some v9) fu_ 0 c_t_least
set_option maxHeartbeats 4000000 in
set_option maxRecDepth 100000 in
theorem wn_X8_shortenBy_l24 {p : Program} {l : Launch} {e : Env} {s : State} {m : MethodId} {args : Array Value} {below : List Frame} {meth : Method} {c : Code} {G : gw_} {A : Nat → Prop} {Q : State → Prop} {A_t : Nat} {A_t_planks : Nat} {A_t_least : Nat} {A_t_neighbours : Nat} {z_t_least : Nat → Int32} {x1 : Int32} {x2 : Int32} {x3 : Int32} {k : (Nat → Int32) → Option ((Nat → Int32))} (hC : cx_ p s m c G cX8_shortenBy 6 RX8) (hret : ∀ (pc : Nat) (H : Heap) (locs : List Loc) (ls : Array Slot), decode cX8_shortenBy pc = .ok (.return_, 1) → wd_ G A s.heap (wl_X8_shortenBy G A_t A_t_planks A_t_least A_t_neighbours z_t_least) H locs → W p l e { frames := 1, cells := 0, slots := 0, locals := 22 } s m args below meth c H locs 0 0 Q (F0 m pc ls [])) (hk : ∀ (c_t_least : Nat → Int32) (H : Heap) (locs : List Loc) (ls : Array Slot), k c_t_least = some z_t_least → lv_has ls 6 [(0, .ref A_t), (1, .int x1), (2, .int x2)] → wd_ G A s.heap (wl_X8_shortenBy G A_t A_t_planks A_t_least A_t_neighbours c_t_least) H locs → W p l e { frames := 1, cells := 0, slots := 0, locals := 22 } s m args below meth c H locs 0 0 Q (F0 m 74 ls [])) : ∀ (n : Nat) (x4 : Int32) (c_t_least : Nat → Int32) (H : Heap) (locs : List Loc) (ls : Array Slot), fn_X8_shortenBy_l24 x1 x2 x3 k n x4 c_t_least = some z_t_least → lv_has ls 6 [(0, .ref A_t), (1, .int x1), (2, .int x2), (3, .int x3), (4, .int x4)] → wd_ G A s.heap (wl_X8_shortenBy G A_t A_t_planks A_t_least A_t_neighbours c_t_least) H locs → W p l e { frames := 1, cells := 0, slots := 0, locals := 22 } s m args below meth c H locs 0 0 Q (F0 m 24 ls []) := by
  have hx := hC.1
  have hb := hC.2.1
  intro n
  induction n with
  | zero =>
    intro x4 c_t_least H locs ls hf
    cases (show (none : Option ((Nat → Int32))) = some _ from hf)
  | succ n hrc =>
    intro x4 c_t_least H locs ls hf hl hw
    replace hf : fn_X8_shortenBy_b24 x1 x2 x3 (fn_X8_shortenBy_l24 x1 x2 x3 k n) k x4 c_t_least = some z_t_least := hf
    unfold fn_X8_shortenBy_b24 at hf
    refine lv_iload hx hb dX8_shortenBy_24 (lv_at hl 4 rfl) ?_
    refine lv_bipush (v := 12) hx hb dX8_shortenBy_26 (by decide) ?_
    refine lv_icmp_ge (tgt := 74) hx hb dX8_shortenBy_28 (by decide) (fun hc => ?_) (fun hc => ?_)
    · replace hf := it_t hc hf
      exact hk c_t_least _ _ _ hf (lv_sub hl [0, 1, 2] rfl) hw
    · replace hf := it_f hc hf
      refine lv_iload_n hx hb dX8_shortenBy_31 rfl (lv_at hl 3 rfl) ?_
      refine lv_aload_n hx hb dX8_shortenBy_32 rfl (lv_at hl 0 rfl) ?_
      refine lv_iload_n hx hb dX8_shortenBy_33 rfl (lv_at hl 1 rfl) ?_
      refine lv_iload hx hb dX8_shortenBy_34 (lv_at hl 4 rfl) ?_
      obtain ⟨r3, hq4, hf⟩ := b1_s hf
      refine h_cVi hC hw mvX8_32 (cn_X8_between l G A_t A_t_planks A_t_least A_t_neighbours c_t_least x1 x4 r3 hq4) [0, 1] rfl (by decide) 0 rfl rfl rfl hl.1 rfl (Nat.le_of_ble_eq_true rfl) ⟨Nat.le_of_ble_eq_true rfl, Nat.le_of_ble_eq_true rfl⟩ ⟨Nat.le_refl _, Nat.le_refl _⟩ dX8_shortenBy_36 (fun H locs hw => ?_)
      refine lv_iadd hx hb dX8_shortenBy_39 ?_
      refine lv_istore (lv' := [(5, .int (x3 + r3)), (0, .ref A_t), (1, .int x1), (2, .int x2), (3, .int x3), (4, .int x4)]) hx hb dX8_shortenBy_40 hl (by decide) rfl (fun ls hl => ?_)
      refine lv_iload hx hb dX8_shortenBy_42 (lv_at hl 0 rfl) ?_
      refine lv_aload_n hx hb dX8_shortenBy_44 rfl (lv_at hl 1 rfl) ?_
      refine lv_iload_n hx hb dX8_shortenBy_45 rfl (lv_at hl 3 rfl) ?_
      refine lv_iload hx hb dX8_shortenBy_46 (lv_at hl 5 rfl) ?_
      obtain ⟨r5, hq6, hf⟩ := b1_s hf
      refine h_cVi hC hw mvX8_32 (cn_X8_between l G A_t A_t_planks A_t_least A_t_neighbours c_t_least x2 x4 r5 hq6) [0, 1] rfl (by decide) 0 rfl rfl rfl hl.1 rfl (Nat.le_of_ble_eq_true rfl) ⟨Nat.le_of_ble_eq_true rfl, Nat.le_of_ble_eq_true rfl⟩ ⟨Nat.le_refl _, Nat.le_refl _⟩ dX8_shortenBy_48 (fun H locs hw => ?_)
      refine lv_icmp_ge (tgt := 68) hx hb dX8_shortenBy_51 (by decide) (fun hc => ?_) (fun hc => ?_)
      · replace hf := it_t hc hf
        refine lv_iinc (v := x4 + 1) (lv' := [(4, .int (x4 + 1)), (5, .int (x3 + r3)), (0, .ref A_t), (1, .int x1), (2, .int x2), (3, .int x3)]) hx hb dX8_shortenBy_68 hl (k := 5) rfl rfl (by decide) rfl (fun ls hl => ?_)
        refine lv_goto (tgt := 24) hx hb dX8_shortenBy_71 (by decide) ?_
        exact hrc (x4 + 1) c_t_least _ _ _ hf (lv_sub hl [2, 3, 4, 5, 0] rfl) hw
      · replace hf := it_f hc hf
        refine lv_aload_n hx hb dX8_shortenBy_54 rfl (lv_at hl 1 rfl) ?_
        refine g_get hC hw fkX8_15 0 rfl rfl dX8_shortenBy_55 ?_
        refine lv_iload_n hx hb dX8_shortenBy_58 rfl (lv_at hl 3 rfl) ?_
        refine lv_bipush (v := 12) hx hb dX8_shortenBy_59 (by decide) ?_
        refine lv_imul hx hb dX8_shortenBy_61 ?_
        refine lv_iload hx hb dX8_shortenBy_62 (lv_at hl 5 rfl) ?_
        refine lv_iadd hx hb dX8_shortenBy_64 ?_
        refine lv_iload hx hb dX8_shortenBy_65 (lv_at hl 0 rfl) ?_
        obtain ⟨hi, hf⟩ := ck_s hf
        obtain ⟨f7, ef7, hf⟩ := lx_s hf
        refine g_iast hC hw 1 rfl hi ef7 dX8_shortenBy_67 (fun H locs hw => ?_)
        have hw : wd_ G A s.heap (wl_X8_shortenBy G A_t A_t_planks A_t_least A_t_neighbours f7) H locs := hw
        refine lv_iinc (v := x4 + 1) (lv' := [(4, .int (x4 + 1)), (5, .int (x3 + r3)), (0, .ref A_t), (1, .int x1), (2, .int x2), (3, .int x3)]) hx hb dX8_shortenBy_68 hl (k := 5) rfl rfl (by decide) rfl (fun ls hl => ?_)
        refine lv_goto (tgt := 24) hx hb dX8_shortenBy_71 (by decide) ?_
        exact hrc (x4 + 1) f7 _ _ _ hf (lv_sub hl [2, 3, 4, 5, 0] rfl) hw
set_option maxHeartbeats 4000000 in
set_option maxRecDepth 100000 in
theorem wn_X8_shortenBy_l2 {p : Program} {l : Launch} {e : Env} {s : State} {m : MethodId} {args : Array Value} {below : List Frame} {meth : Method} {c : Code} {G : gw_} {A : Nat → Prop} {Q : State → Prop} {A_t : Nat} {A_t_planks : Nat} {A_t_least : Nat} {A_t_neighbours : Nat} {z_t_least : Nat → Int32} {x1 : Int32} {k : (Nat → Int32) → Option ((Nat → Int32))} (hC : cx_ p s m c G cX8_shortenBy 6 RX8) (hret : ∀ (pc : Nat) (H : Heap) (locs : List Loc) (ls : Array Slot), decode cX8_shortenBy pc = .ok (.return_, 1) → wd_ G A s.heap (wl_X8_shortenBy G A_t A_t_planks A_t_least A_t_neighbours z_t_least) H locs → W p l e { frames := 1, cells := 0, slots := 0, locals := 22 } s m args below meth c H locs 0 0 Q (F0 m pc ls [])) (hk : ∀ (c_t_least : Nat → Int32) (H : Heap) (locs : List Loc) (ls : Array Slot), k c_t_least = some z_t_least → lv_has ls 6 [] → wd_ G A s.heap (wl_X8_shortenBy G A_t A_t_planks A_t_least A_t_neighbours c_t_least) H locs → W p l e { frames := 1, cells := 0, slots := 0, locals := 22 } s m args below meth c H locs 0 0 Q (F0 m 80 ls [])) : ∀ (n : Nat) (x2 : Int32) (c_t_least : Nat → Int32) (H : Heap) (locs : List Loc) (ls : Array Slot), fn_X8_shortenBy_l2 x1 k n x2 c_t_least = some z_t_least → lv_has ls 6 [(0, .ref A_t), (1, .int x1), (2, .int x2)] → wd_ G A s.heap (wl_X8_shortenBy G A_t A_t_planks A_t_least A_t_neighbours c_t_least) H locs → W p l e { frames := 1, cells := 0, slots := 0, locals := 22 } s m args below meth c H locs 0 0 Q (F0 m 2 ls []) := by
  have hx := hC.1
  have hb := hC.2.1
  intro n
  induction n with
  | zero =>
    intro x2 c_t_least H locs ls hf
    cases (show (none : Option ((Nat → Int32))) = some _ from hf)
  | succ n hrc =>
    intro x2 c_t_least H locs ls hf hl hw
    replace hf : fn_X8_shortenBy_b2 x1 (fn_X8_shortenBy_l2 x1 k n) k x2 c_t_least = some z_t_least := hf
    unfold fn_X8_shortenBy_b2 at hf
    refine lv_iload_n hx hb dX8_shortenBy_2 rfl (lv_at hl 2 rfl) ?_
    refine lv_bipush (v := 12) hx hb dX8_shortenBy_3 (by decide) ?_
    refine lv_icmp_ge (tgt := 80) hx hb dX8_shortenBy_5 (by decide) (fun hc => ?_) (fun hc => ?_)
    · replace hf := it_t hc hf
      exact hk c_t_least _ _ _ hf (lv_sub hl [] rfl) hw
    · replace hf := it_f hc hf
      refine lv_aload_n hx hb dX8_shortenBy_8 rfl (lv_at hl 0 rfl) ?_
      refine lv_iload_n hx hb dX8_shortenBy_9 rfl (lv_at hl 2 rfl) ?_
      refine lv_iload_n hx hb dX8_shortenBy_10 rfl (lv_at hl 1 rfl) ?_
      obtain ⟨r1, hq2, hf⟩ := b1_s hf
      refine h_cVi hC hw mvX8_32 (cn_X8_between l G A_t A_t_planks A_t_least A_t_neighbours c_t_least x2 x1 r1 hq2) [0, 1] rfl (by decide) 0 rfl rfl rfl hl.1 rfl (Nat.le_of_ble_eq_true rfl) ⟨Nat.le_of_ble_eq_true rfl, Nat.le_of_ble_eq_true rfl⟩ ⟨Nat.le_refl _, Nat.le_refl _⟩ dX8_shortenBy_11 (fun H locs hw => ?_)
      refine lv_istore_n (lv' := [(3, .int r1), (0, .ref A_t), (1, .int x1), (2, .int x2)]) hx hb dX8_shortenBy_14 rfl hl (by decide) rfl (fun ls hl => ?_)
      refine lv_iload_n hx hb dX8_shortenBy_15 rfl (lv_at hl 0 rfl) ?_
      refine g_ldc (v := 1000000) hC (tb2 198 rfl rfl) dX8_shortenBy_16 ?_
      refine lv_icmp_ge (tgt := 74) hx hb dX8_shortenBy_18 (by decide) (fun hc => ?_) (fun hc => ?_)
      · replace hf := it_t hc hf
        refine lv_iinc (v := x2 + 1) (lv' := [(2, .int (x2 + 1)), (3, .int r1), (0, .ref A_t), (1, .int x1)]) hx hb dX8_shortenBy_74 hl (k := 3) rfl rfl (by decide) rfl (fun ls hl => ?_)
        refine lv_goto (tgt := 2) hx hb dX8_shortenBy_77 (by decide) ?_
        exact hrc (x2 + 1) c_t_least _ _ _ hf (lv_sub hl [2, 3, 0] rfl) hw
      · replace hf := it_f hc hf
        refine lv_iconst (v := 0) hx hb dX8_shortenBy_21 (by decide) ?_
        refine lv_istore (lv' := [(4, .int 0), (3, .int r1), (0, .ref A_t), (1, .int x1), (2, .int x2)]) hx hb dX8_shortenBy_22 hl (by decide) rfl (fun ls hl => ?_)
        refine wn_X8_shortenBy_l24 hC hret (fun v8 H locs ls hf hl hw => ?_) fu_ 0 c_t_least _ _ _ hf (lv_sub hl [2, 3, 4, 1, 0] rfl) hw
        refine lv_iinc (v := x2 + 1) (lv' := [(2, .int (x2 + 1)), (0, .ref A_t), (1, .int x1)]) hx hb dX8_shortenBy_74 hl (k := 2) rfl rfl (by decide) rfl (fun ls hl => ?_)
        refine lv_goto (tgt := 2) hx hb dX8_shortenBy_77 (by decide) ?_
        exact hrc (x2 + 1) v8 _ _ _ hf (lv_sub hl [1, 2, 0] rfl) hw
set_option maxHeartbeats 4000000 in
set_option maxRecDepth 100000 in
theorem wn_X8_shortenBy {p : Program} {l : Launch} {e : Env} {s : State} {m : MethodId} {args : Array Value} {below : List Frame} {meth : Method} {c : Code} {G : gw_} {A : Nat → Prop} {Q : State → Prop} {A_t : Nat} {A_t_planks : Nat} {A_t_least : Nat} {A_t_neighbours : Nat} {c_t_least : Nat → Int32} {z_t_least : Nat → Int32} {x1 : Int32} (hC : cx_ p s m c G cX8_shortenBy 6 RX8) (hret : ∀ (pc : Nat) (H : Heap) (locs : List Loc) (ls : Array Slot), decode cX8_shortenBy pc = .ok (.return_, 1) → wd_ G A s.heap (wl_X8_shortenBy G A_t A_t_planks A_t_least A_t_neighbours z_t_least) H locs → W p l e { frames := 1, cells := 0, slots := 0, locals := 22 } s m args below meth c H locs 0 0 Q (F0 m pc ls [])) (hf : fn_X8_shortenBy c_t_least x1 = some z_t_least) {H : Heap} {locs : List Loc} {ls : Array Slot} (hl : lv_has ls 6 [(0, .ref A_t), (1, .int x1)]) (hw : wd_ G A s.heap (wl_X8_shortenBy G A_t A_t_planks A_t_least A_t_neighbours c_t_least) H locs) : W p l e { frames := 1, cells := 0, slots := 0, locals := 22 } s m args below meth c H locs 0 0 Q (F0 m 0 ls []) := by
  have hx := hC.1
  have hb := hC.2.1
  unfold fn_X8_shortenBy at hf
  refine lv_iconst (v := 0) hx hb dX8_shortenBy_0 (by decide) ?_
  refine lv_istore_n (lv' := [(2, .int 0), (0, .ref A_t), (1, .int x1)]) hx hb dX8_shortenBy_1 rfl hl (by decide) rfl (fun ls hl => ?_)
  refine wn_X8_shortenBy_l2 hC hret (fun v9 H locs ls hf hl hw => ?_) fu_ 0 c_t_least _ _ _ hf (lv_sub hl [1, 2, 0] rfl) hw
  have h1_ := t1_ hf
  subst h1_
  exact hret _ _ _ _ dX8_shortenBy_80 hw
set_option maxHeartbeats 4000000 in
set_option maxRecDepth 100000 in
theorem cn_X8_shortenBy (l : Launch) (G : gw_) (A_t : Nat) (A_t_planks : Nat) (A_t_least : Nat) (A_t_neighbours : Nat) (c_t_least : Nat → Int32) (x1 : Int32) (z_t_least : Nat → Int32) (hf : fn_X8_shortenBy c_t_least x1 = some z_t_least) : cv_ l G yX8_shortenBy cX8_shortenBy 6 none 1 22 (wl_X8_shortenBy G A_t A_t_planks A_t_least A_t_neighbours c_t_least) [.ref A_t, .int x1] (wl_X8_shortenBy G A_t A_t_planks A_t_least A_t_neighbours z_t_least) := fun sz => met_intro (by decide) (Nat.le_of_ble_eq_true rfl) (fun p e s m args below meth c ls hsz hC hr hlk hnm hl hw => wn_X8_shortenBy hC (fun pc H locs ls hd hw => g_vret hC hr hlk hw hd) hf hl hw)

theorem dX8_measure_0 : decode cX8_measure 0 = .ok (.iconst 0, 1) := by decide +kernel
theorem dX8_measure_1 : decode cX8_measure 1 = .ok (.istore_n 3, 1) := by decide +kernel
theorem dX8_measure_2 : decode cX8_measure 2 = .ok (.iload_n 3, 1) := by decide +kernel
theorem dX8_measure_3 : decode cX8_measure 3 = .ok (.bipush 12, 2) := by decide +kernel
theorem dX8_measure_5 : decode cX8_measure 5 = .ok (.if_icmp .ge 118, 3) := by decide +kernel
theorem dX8_measure_8 : decode cX8_measure 8 = .ok (.aload_n 0, 1) := by decide +kernel
theorem dX8_measure_9 : decode cX8_measure 9 = .ok (.getfield 18, 3) := by decide +kernel
theorem dX8_measure_12 : decode cX8_measure 12 = .ok (.iload_n 3, 1) := by decide +kernel
theorem dX8_measure_13 : decode cX8_measure 13 = .ok (.iconst 0, 1) := by decide +kernel
theorem dX8_measure_14 : decode cX8_measure 14 = .ok (.iastore, 1) := by decide +kernel
theorem dX8_measure_15 : decode cX8_measure 15 = .ok (.iconst 0, 1) := by decide +kernel
theorem dX8_measure_16 : decode cX8_measure 16 = .ok (.istore 4, 2) := by decide +kernel
theorem dX8_measure_18 : decode cX8_measure 18 = .ok (.iload 4, 2) := by decide +kernel
theorem dX8_measure_20 : decode cX8_measure 20 = .ok (.bipush 12, 2) := by decide +kernel
theorem dX8_measure_22 : decode cX8_measure 22 = .ok (.if_icmp .ge 95, 3) := by decide +kernel
theorem dX8_measure_25 : decode cX8_measure 25 = .ok (.aload_n 1, 1) := by decide +kernel
theorem dX8_measure_26 : decode cX8_measure 26 = .ok (.iload_n 3, 1) := by decide +kernel
theorem dX8_measure_27 : decode cX8_measure 27 = .ok (.iload 4, 2) := by decide +kernel
theorem dX8_measure_29 : decode cX8_measure 29 = .ok (.iload_n 2, 1) := by decide +kernel
theorem dX8_measure_30 : decode cX8_measure 30 = .ok (.invokevirtual 21, 3) := by decide +kernel
theorem dX8_measure_33 : decode cX8_measure 33 = .ok (.istore 5, 2) := by decide +kernel
theorem dX8_measure_35 : decode cX8_measure 35 = .ok (.iload 5, 2) := by decide +kernel
theorem dX8_measure_37 : decode cX8_measure 37 = .ok (.ifCond .eq 16, 3) := by decide +kernel
theorem dX8_measure_40 : decode cX8_measure 40 = .ok (.aload_n 0, 1) := by decide +kernel
theorem dX8_measure_41 : decode cX8_measure 41 = .ok (.getfield 18, 3) := by decide +kernel
theorem dX8_measure_44 : decode cX8_measure 44 = .ok (.iload_n 3, 1) := by decide +kernel
theorem dX8_measure_45 : decode cX8_measure 45 = .ok (.dup2, 1) := by decide +kernel
theorem dX8_measure_46 : decode cX8_measure 46 = .ok (.iaload, 1) := by decide +kernel
theorem dX8_measure_47 : decode cX8_measure 47 = .ok (.iconst 1, 1) := by decide +kernel
theorem dX8_measure_48 : decode cX8_measure 48 = .ok (.iload 4, 2) := by decide +kernel
theorem dX8_measure_50 : decode cX8_measure 50 = .ok (.ishl, 1) := by decide +kernel
theorem dX8_measure_51 : decode cX8_measure 51 = .ok (.ior, 1) := by decide +kernel
theorem dX8_measure_52 : decode cX8_measure 52 = .ok (.iastore, 1) := by decide +kernel
theorem dX8_measure_53 : decode cX8_measure 53 = .ok (.aload_n 0, 1) := by decide +kernel
theorem dX8_measure_54 : decode cX8_measure 54 = .ok (.getfield 9, 3) := by decide +kernel
theorem dX8_measure_57 : decode cX8_measure 57 = .ok (.iload_n 3, 1) := by decide +kernel
theorem dX8_measure_58 : decode cX8_measure 58 = .ok (.bipush 12, 2) := by decide +kernel
theorem dX8_measure_60 : decode cX8_measure 60 = .ok (.imul, 1) := by decide +kernel
theorem dX8_measure_61 : decode cX8_measure 61 = .ok (.iload 4, 2) := by decide +kernel
theorem dX8_measure_63 : decode cX8_measure 63 = .ok (.iadd, 1) := by decide +kernel
theorem dX8_measure_64 : decode cX8_measure 64 = .ok (.iload 5, 2) := by decide +kernel
theorem dX8_measure_66 : decode cX8_measure 66 = .ok (.ifCond .ne 8, 3) := by decide +kernel
theorem dX8_measure_69 : decode cX8_measure 69 = .ok (.ldc 27, 2) := by decide +kernel
theorem dX8_measure_71 : decode cX8_measure 71 = .ok (.goto 5, 3) := by decide +kernel
theorem dX8_measure_74 : decode cX8_measure 74 = .ok (.iload 5, 2) := by decide +kernel
theorem dX8_measure_76 : decode cX8_measure 76 = .ok (.iastore, 1) := by decide +kernel
theorem dX8_measure_77 : decode cX8_measure 77 = .ok (.aload_n 0, 1) := by decide +kernel
theorem dX8_measure_78 : decode cX8_measure 78 = .ok (.getfield 15, 3) := by decide +kernel
theorem dX8_measure_81 : decode cX8_measure 81 = .ok (.iload_n 3, 1) := by decide +kernel
theorem dX8_measure_82 : decode cX8_measure 82 = .ok (.bipush 12, 2) := by decide +kernel
theorem dX8_measure_84 : decode cX8_measure 84 = .ok (.imul, 1) := by decide +kernel
theorem dX8_measure_85 : decode cX8_measure 85 = .ok (.iload 4, 2) := by decide +kernel
theorem dX8_measure_87 : decode cX8_measure 87 = .ok (.iadd, 1) := by decide +kernel
theorem dX8_measure_88 : decode cX8_measure 88 = .ok (.iload_n 3, 1) := by decide +kernel
theorem dX8_measure_89 : decode cX8_measure 89 = .ok (.iload 4, 2) := by decide +kernel
theorem dX8_measure_91 : decode cX8_measure 91 = .ok (.if_icmp .ne 7, 3) := by decide +kernel
theorem dX8_measure_94 : decode cX8_measure 94 = .ok (.iconst 0, 1) := by decide +kernel
theorem dX8_measure_95 : decode cX8_measure 95 = .ok (.goto 15, 3) := by decide +kernel
theorem dX8_measure_98 : decode cX8_measure 98 = .ok (.aload_n 0, 1) := by decide +kernel
theorem dX8_measure_99 : decode cX8_measure 99 = .ok (.getfield 9, 3) := by decide +kernel
theorem dX8_measure_102 : decode cX8_measure 102 = .ok (.iload_n 3, 1) := by decide +kernel
theorem dX8_measure_103 : decode cX8_measure 103 = .ok (.bipush 12, 2) := by decide +kernel
theorem dX8_measure_105 : decode cX8_measure 105 = .ok (.imul, 1) := by decide +kernel
theorem dX8_measure_106 : decode cX8_measure 106 = .ok (.iload 4, 2) := by decide +kernel
theorem dX8_measure_108 : decode cX8_measure 108 = .ok (.iadd, 1) := by decide +kernel
theorem dX8_measure_109 : decode cX8_measure 109 = .ok (.iaload, 1) := by decide +kernel
theorem dX8_measure_110 : decode cX8_measure 110 = .ok (.iastore, 1) := by decide +kernel
theorem dX8_measure_111 : decode cX8_measure 111 = .ok (.iinc 4 1, 3) := by decide +kernel
theorem dX8_measure_114 : decode cX8_measure 114 = .ok (.goto (-96), 3) := by decide +kernel
theorem dX8_measure_117 : decode cX8_measure 117 = .ok (.iinc 3 1, 3) := by decide +kernel
theorem dX8_measure_120 : decode cX8_measure 120 = .ok (.goto (-118), 3) := by decide +kernel
theorem dX8_measure_123 : decode cX8_measure 123 = .ok (.iconst 0, 1) := by decide +kernel
theorem dX8_measure_124 : decode cX8_measure 124 = .ok (.istore_n 3, 1) := by decide +kernel
theorem dX8_measure_125 : decode cX8_measure 125 = .ok (.iload_n 3, 1) := by decide +kernel
theorem dX8_measure_126 : decode cX8_measure 126 = .ok (.bipush 12, 2) := by decide +kernel
theorem dX8_measure_128 : decode cX8_measure 128 = .ok (.if_icmp .ge 14, 3) := by decide +kernel
theorem dX8_measure_131 : decode cX8_measure 131 = .ok (.aload_n 0, 1) := by decide +kernel
theorem dX8_measure_132 : decode cX8_measure 132 = .ok (.iload_n 3, 1) := by decide +kernel
theorem dX8_measure_133 : decode cX8_measure 133 = .ok (.invokevirtual 28, 3) := by decide +kernel
theorem dX8_measure_136 : decode cX8_measure 136 = .ok (.iinc 3 1, 3) := by decide +kernel
theorem dX8_measure_139 : decode cX8_measure 139 = .ok (.goto (-14), 3) := by decide +kernel
theorem dX8_measure_142 : decode cX8_measure 142 = .ok (.return_, 1) := by decide +kernel
abbrev wl_X8_measure (G : gw_) (A_t : Nat) (A_t_planks : Nat) (A_t_least : Nat) (A_t_neighbours : Nat) (A_q1 : Nat) (A_q1_codes : Nat) (c_t_planks : Nat → Int32) (c_t_least : Nat → Int32) (c_t_neighbours : Nat → Int32) (c_q1_codes : Nat → Int32) : va_W := [ob_ A_t 8 [.ref A_t_planks, .ref A_t_least, .ref A_t_neighbours], ia_ G A_t_planks 144 c_t_planks, ia_ G A_t_least 144 c_t_least, ia_ G A_t_neighbours 12 c_t_neighbours, ob_ A_q1 2 [.ref A_q1_codes], ia_ G A_q1_codes 144 c_q1_codes]
def fn_X8_measure_j76 (c_t_planks : Nat → Int32) (c_t_least : Nat → Int32) (c_t_neighbours : Nat → Int32) (x3 : Int32) (x4 : Int32) (s1 : Int32) (s2 : Int32) (rc : Int32 → (Nat → Int32) → (Nat → Int32) → (Nat → Int32) → Option ((Nat → Int32) × (Nat → Int32) × (Nat → Int32))) (k : (Nat → Int32) → (Nat → Int32) → (Nat → Int32) → Option ((Nat → Int32) × (Nat → Int32) × (Nat → Int32))) : Option ((Nat → Int32) × (Nat → Int32) × (Nat → Int32)) :=
  ck_ s1 144 <|
  lx_ (upd c_t_planks (Int32.toNatClampNeg s1) s2) fun f4 =>
  if x3 = x4 then
    ck_ ((x3 * 12) + x4) 144 <|
    lx_ (upd c_t_least (Int32.toNatClampNeg ((x3 * 12) + x4)) 0) fun f6 =>
    rc (x4 + 1) f4 f6 c_t_neighbours
  else
    ck_ ((x3 * 12) + x4) 144 <|
    ck_ ((x3 * 12) + x4) 144 <|
    lx_ (upd c_t_least (Int32.toNatClampNeg ((x3 * 12) + x4)) (f4 (Int32.toNatClampNeg ((x3 * 12) + x4)))) fun f5 =>
    rc (x4 + 1) f4 f5 c_t_neighbours
def fn_X8_measure_j53 (c_t_planks : Nat → Int32) (c_t_least : Nat → Int32) (c_t_neighbours : Nat → Int32) (x3 : Int32) (x4 : Int32) (x5 : Int32) (rc : Int32 → (Nat → Int32) → (Nat → Int32) → (Nat → Int32) → Option ((Nat → Int32) × (Nat → Int32) × (Nat → Int32))) (k : (Nat → Int32) → (Nat → Int32) → (Nat → Int32) → Option ((Nat → Int32) × (Nat → Int32) × (Nat → Int32))) : Option ((Nat → Int32) × (Nat → Int32) × (Nat → Int32)) :=
  if x5 = 0 then
    fn_X8_measure_j76 c_t_planks c_t_least c_t_neighbours x3 x4 ((x3 * 12) + x4) 1000000 rc k
  else
    fn_X8_measure_j76 c_t_planks c_t_least c_t_neighbours x3 x4 ((x3 * 12) + x4) x5 rc k
def fn_X8_measure_b18 (c_q1_codes : Nat → Int32) (x2 : Int32) (x3 : Int32) (rc : Int32 → (Nat → Int32) → (Nat → Int32) → (Nat → Int32) → Option ((Nat → Int32) × (Nat → Int32) × (Nat → Int32))) (k : (Nat → Int32) → (Nat → Int32) → (Nat → Int32) → Option ((Nat → Int32) × (Nat → Int32) × (Nat → Int32))) (x4 : Int32) (c_t_planks : Nat → Int32) (c_t_least : Nat → Int32) (c_t_neighbours : Nat → Int32) : Option ((Nat → Int32) × (Nat → Int32) × (Nat → Int32)) :=
  if 12 ≤ x4 then
    k c_t_planks c_t_least c_t_neighbours
  else
    b1_ (fn_X2_costs c_q1_codes x3 x4 x2) fun r2 =>
    if r2 = 0 then
      fn_X8_measure_j53 c_t_planks c_t_least c_t_neighbours x3 x4 r2 rc k
    else
      ck_ x3 12 <|
      ck_ x3 12 <|
      lx_ (upd c_t_neighbours (Int32.toNatClampNeg x3) ((c_t_neighbours (Int32.toNatClampNeg x3)) ||| (1 <<< (x4 &&& 31)))) fun f7 =>
      fn_X8_measure_j53 c_t_planks c_t_least f7 x3 x4 r2 rc k
def fn_X8_measure_l18 (c_q1_codes : Nat → Int32) (x2 : Int32) (x3 : Int32) (k : (Nat → Int32) → (Nat → Int32) → (Nat → Int32) → Option ((Nat → Int32) × (Nat → Int32) × (Nat → Int32))) : Nat → Int32 → (Nat → Int32) → (Nat → Int32) → (Nat → Int32) → Option ((Nat → Int32) × (Nat → Int32) × (Nat → Int32))
  | 0 => fun _ _ _ _ => none
  | n + 1 => fun x4 c_t_planks c_t_least c_t_neighbours => fn_X8_measure_b18 c_q1_codes x2 x3 (fn_X8_measure_l18 c_q1_codes x2 x3 k n) k x4 c_t_planks c_t_least c_t_neighbours
def fn_X8_measure_b2 (c_q1_codes : Nat → Int32) (x2 : Int32) (rc : Int32 → (Nat → Int32) → (Nat → Int32) → (Nat → Int32) → Option ((Nat → Int32) × (Nat → Int32) × (Nat → Int32))) (k : (Nat → Int32) → (Nat → Int32) → (Nat → Int32) → Option ((Nat → Int32) × (Nat → Int32) × (Nat → Int32))) (x3 : Int32) (c_t_planks : Nat → Int32) (c_t_least : Nat → Int32) (c_t_neighbours : Nat → Int32) : Option ((Nat → Int32) × (Nat → Int32) × (Nat → Int32)) :=
  if 12 ≤ x3 then
    k c_t_planks c_t_least c_t_neighbours
  else
    ck_ x3 12 <|
    lx_ (upd c_t_neighbours (Int32.toNatClampNeg x3) 0) fun f1 =>
    fn_X8_measure_l18 c_q1_codes x2 x3 (fun v8 v9 v10 =>
      rc (x3 + 1) v8 v9 v10) fu_ 0 c_t_planks c_t_least f1
def fn_X8_measure_l2 (c_q1_codes : Nat → Int32) (x2 : Int32) (k : (Nat → Int32) → (Nat → Int32) → (Nat → Int32) → Option ((Nat → Int32) × (Nat → Int32) × (Nat → Int32))) : Nat → Int32 → (Nat → Int32) → (Nat → Int32) → (Nat → Int32) → Option ((Nat → Int32) × (Nat → Int32) × (Nat → Int32))
  | 0 => fun _ _ _ _ => none
  | n + 1 => fun x3 c_t_planks c_t_least c_t_neighbours => fn_X8_measure_b2 c_q1_codes x2 (fn_X8_measure_l2 c_q1_codes x2 k n) k x3 c_t_planks c_t_least c_t_neighbours
def fn_X8_measure_b125 (rc : Int32 → (Nat → Int32) → Option ((Nat → Int32) × (Nat → Int32) × (Nat → Int32))) (k : (Nat → Int32) → Option ((Nat → Int32) × (Nat → Int32) × (Nat → Int32))) (x3 : Int32) (c_t_least : Nat → Int32) : Option ((Nat → Int32) × (Nat → Int32) × (Nat → Int32)) :=
  if 12 ≤ x3 then
    k c_t_least
  else
    b1_ (fn_X8_shortenBy c_t_least x3) fun w14 =>
    rc (x3 + 1) w14
def fn_X8_measure_l125 (k : (Nat → Int32) → Option ((Nat → Int32) × (Nat → Int32) × (Nat → Int32))) : Nat → Int32 → (Nat → Int32) → Option ((Nat → Int32) × (Nat → Int32) × (Nat → Int32))
  | 0 => fun _ _ => none
  | n + 1 => fun x3 c_t_least => fn_X8_measure_b125 (fn_X8_measure_l125 k n) k x3 c_t_least
def fn_X8_measure (c_t_planks : Nat → Int32) (c_t_least : Nat → Int32) (c_t_neighbours : Nat → Int32) (c_q1_codes : Nat → Int32) (x2 : Int32) : Option ((Nat → Int32) × (Nat → Int32) × (Nat → Int32)) :=
  fn_X8_measure_l2 c_q1_codes x2 (fun v11 v12 v13 =>
    fn_X8_measure_l125 (fun v16 =>
      some (v11, v16, v13)) fu_ 0 v12) fu_ 0 c_t_planks c_t_least c_t_neighbours
set_option maxHeartbeats 4000000 in
set_option maxRecDepth 100000 in
theorem wn_X8_measure_j76 {p : Program} {l : Launch} {e : Env} {s : State} {m : MethodId} {args : Array Value} {below : List Frame} {meth : Method} {c : Code} {G : gw_} {A : Nat → Prop} {Q : State → Prop} {A_t : Nat} {A_t_planks : Nat} {A_t_least : Nat} {A_t_neighbours : Nat} {A_q1 : Nat} {A_q1_codes : Nat} {c_t_planks : Nat → Int32} {z_t_planks : Nat → Int32} {c_t_least : Nat → Int32} {z_t_least : Nat → Int32} {c_t_neighbours : Nat → Int32} {z_t_neighbours : Nat → Int32} {c_q1_codes : Nat → Int32} {x2 : Int32} {x3 : Int32} {x4 : Int32} {s1 : Int32} {s2 : Int32} {rc : Int32 → (Nat → Int32) → (Nat → Int32) → (Nat → Int32) → Option ((Nat → Int32) × (Nat → Int32) × (Nat → Int32))} {k : (Nat → Int32) → (Nat → Int32) → (Nat → Int32) → Option ((Nat → Int32) × (Nat → Int32) × (Nat → Int32))} (hC : cx_ p s m c G cX8_measure 6 RX8) (hret : ∀ (pc : Nat) (H : Heap) (locs : List Loc) (ls : Array Slot), decode cX8_measure pc = .ok (.return_, 1) → wd_ G A s.heap (wl_X8_measure G A_t A_t_planks A_t_least A_t_neighbours A_q1 A_q1_codes z_t_planks z_t_least z_t_neighbours c_q1_codes) H locs → W p l e { frames := 2, cells := 0, slots := 0, locals := 47 } s m args below meth c H locs 0 0 Q (F0 m pc ls [])) (hrc : ∀ (x4 : Int32) (c_t_planks : Nat → Int32) (c_t_least : Nat → Int32) (c_t_neighbours : Nat → Int32) (H : Heap) (locs : List Loc) (ls : Array Slot), rc x4 c_t_planks c_t_least c_t_neighbours = some (z_t_planks, z_t_least, z_t_neighbours) → lv_has ls 6 [(0, .ref A_t), (1, .ref A_q1), (2, .int x2), (3, .int x3), (4, .int x4)] → wd_ G A s.heap (wl_X8_measure G A_t A_t_planks A_t_least A_t_neighbours A_q1 A_q1_codes c_t_planks c_t_least c_t_neighbours c_q1_codes) H locs → W p l e { frames := 2, cells := 0, slots := 0, locals := 47 } s m args below meth c H locs 0 0 Q (F0 m 18 ls [])) (hk : ∀ (c_t_planks : Nat → Int32) (c_t_least : Nat → Int32) (c_t_neighbours : Nat → Int32) (H : Heap) (locs : List Loc) (ls : Array Slot), k c_t_planks c_t_least c_t_neighbours = some (z_t_planks, z_t_least, z_t_neighbours) → lv_has ls 6 [(0, .ref A_t), (1, .ref A_q1), (2, .int x2), (3, .int x3)] → wd_ G A s.heap (wl_X8_measure G A_t A_t_planks A_t_least A_t_neighbours A_q1 A_q1_codes c_t_planks c_t_least c_t_neighbours c_q1_codes) H locs → W p l e { frames := 2, cells := 0, slots := 0, locals := 47 } s m args below meth c H locs 0 0 Q (F0 m 117 ls [])) (hf : fn_X8_measure_j76 c_t_planks c_t_least c_t_neighbours x3 x4 s1 s2 rc k = some (z_t_planks, z_t_least, z_t_neighbours)) {H : Heap} {locs : List Loc} {ls : Array Slot} (hl : lv_has ls 6 [(0, .ref A_t), (1, .ref A_q1), (2, .int x2), (3, .int x3), (4, .int x4)]) (hw : wd_ G A s.heap (wl_X8_measure G A_t A_t_planks A_t_least A_t_neighbours A_q1 A_q1_codes c_t_planks c_t_least c_t_neighbours c_q1_codes) H locs) : W p l e { frames := 2, cells := 0, slots := 0, locals := 47 } s m args below meth c H locs 0 0 Q (F0 m 76 ls [.int s2, .int s1, .ref A_t_planks]) := by
  have hx := hC.1
  have hb := hC.2.1
  unfold fn_X8_measure_j76 at hf
  obtain ⟨hi, hf⟩ := ck_s hf
  obtain ⟨f4, ef4, hf⟩ := lx_s hf
  refine g_iast hC hw 1 rfl hi ef4 dX8_measure_76 (fun H locs hw => ?_)
  have hw : wd_ G A s.heap (wl_X8_measure G A_t A_t_planks A_t_least A_t_neighbours A_q1 A_q1_codes f4 c_t_least c_t_neighbours c_q1_codes) H locs := hw
  refine lv_aload_n hx hb dX8_measure_77 rfl (lv_at hl 0 rfl) ?_
  refine g_get hC hw fkX8_15 0 rfl rfl dX8_measure_78 ?_
  refine lv_iload_n hx hb dX8_measure_81 rfl (lv_at hl 3 rfl) ?_
  refine lv_bipush (v := 12) hx hb dX8_measure_82 (by decide) ?_
  refine lv_imul hx hb dX8_measure_84 ?_
  refine lv_iload hx hb dX8_measure_85 (lv_at hl 4 rfl) ?_
  refine lv_iadd hx hb dX8_measure_87 ?_
  refine lv_iload_n hx hb dX8_measure_88 rfl (lv_at hl 3 rfl) ?_
  refine lv_iload hx hb dX8_measure_89 (lv_at hl 4 rfl) ?_
  refine lv_icmp_ne (tgt := 98) hx hb dX8_measure_91 (by decide) (fun hc => ?_) (fun hc => ?_)
  · replace hf := it_f hc hf
    refine lv_aload_n hx hb dX8_measure_98 rfl (lv_at hl 0 rfl) ?_
    refine g_get hC hw fkX8_9 0 rfl rfl dX8_measure_99 ?_
    refine lv_iload_n hx hb dX8_measure_102 rfl (lv_at hl 3 rfl) ?_
    refine lv_bipush (v := 12) hx hb dX8_measure_103 (by decide) ?_
    refine lv_imul hx hb dX8_measure_105 ?_
    refine lv_iload hx hb dX8_measure_106 (lv_at hl 4 rfl) ?_
    refine lv_iadd hx hb dX8_measure_108 ?_
    obtain ⟨hi, hf⟩ := ck_s hf
    refine g_iald hC hw 1 rfl hi dX8_measure_109 ?_
    obtain ⟨hi, hf⟩ := ck_s hf
    obtain ⟨f5, ef5, hf⟩ := lx_s hf
    refine g_iast hC hw 2 rfl hi ef5 dX8_measure_110 (fun H locs hw => ?_)
    have hw : wd_ G A s.heap (wl_X8_measure G A_t A_t_planks A_t_least A_t_neighbours A_q1 A_q1_codes f4 f5 c_t_neighbours c_q1_codes) H locs := hw
    refine lv_iinc (v := x4 + 1) (lv' := [(4, .int (x4 + 1)), (0, .ref A_t), (1, .ref A_q1), (2, .int x2), (3, .int x3)]) hx hb dX8_measure_111 hl (k := 4) rfl rfl (by decide) rfl (fun ls hl => ?_)
    refine lv_goto (tgt := 18) hx hb dX8_measure_114 (by decide) ?_
    exact hrc (x4 + 1) f4 f5 c_t_neighbours _ _ _ hf (lv_sub hl [1, 2, 3, 4, 0] rfl) hw
  · replace hf := it_t hc hf
    refine lv_iconst (v := 0) hx hb dX8_measure_94 (by decide) ?_
    refine lv_goto (tgt := 110) hx hb dX8_measure_95 (by decide) ?_
    obtain ⟨hi, hf⟩ := ck_s hf
    obtain ⟨f6, ef6, hf⟩ := lx_s hf
    refine g_iast hC hw 2 rfl hi ef6 dX8_measure_110 (fun H locs hw => ?_)
    have hw : wd_ G A s.heap (wl_X8_measure G A_t A_t_planks A_t_least A_t_neighbours A_q1 A_q1_codes f4 f6 c_t_neighbours c_q1_codes) H locs := hw
    refine lv_iinc (v := x4 + 1) (lv' := [(4, .int (x4 + 1)), (0, .ref A_t), (1, .ref A_q1), (2, .int x2), (3, .int x3)]) hx hb dX8_measure_111 hl (k := 4) rfl rfl (by decide) rfl (fun ls hl => ?_)
    refine lv_goto (tgt := 18) hx hb dX8_measure_114 (by decide) ?_
    exact hrc (x4 + 1) f4 f6 c_t_neighbours _ _ _ hf (lv_sub hl [1, 2, 3, 4, 0] rfl) hw
set_option maxHeartbeats 4000000 in
set_option maxRecDepth 100000 in
theorem wn_X8_measure_j53 {p : Program} {l : Launch} {e : Env} {s : State} {m : MethodId} {args : Array Value} {below : List Frame} {meth : Method} {c : Code} {G : gw_} {A : Nat → Prop} {Q : State → Prop} {A_t : Nat} {A_t_planks : Nat} {A_t_least : Nat} {A_t_neighbours : Nat} {A_q1 : Nat} {A_q1_codes : Nat} {c_t_planks : Nat → Int32} {z_t_planks : Nat → Int32} {c_t_least : Nat → Int32} {z_t_least : Nat → Int32} {c_t_neighbours : Nat → Int32} {z_t_neighbours : Nat → Int32} {c_q1_codes : Nat → Int32} {x2 : Int32} {x3 : Int32} {x4 : Int32} {x5 : Int32} {rc : Int32 → (Nat → Int32) → (Nat → Int32) → (Nat → Int32) → Option ((Nat → Int32) × (Nat → Int32) × (Nat → Int32))} {k : (Nat → Int32) → (Nat → Int32) → (Nat → Int32) → Option ((Nat → Int32) × (Nat → Int32) × (Nat → Int32))} (hC : cx_ p s m c G cX8_measure 6 RX8) (hret : ∀ (pc : Nat) (H : Heap) (locs : List Loc) (ls : Array Slot), decode cX8_measure pc = .ok (.return_, 1) → wd_ G A s.heap (wl_X8_measure G A_t A_t_planks A_t_least A_t_neighbours A_q1 A_q1_codes z_t_planks z_t_least z_t_neighbours c_q1_codes) H locs → W p l e { frames := 2, cells := 0, slots := 0, locals := 47 } s m args below meth c H locs 0 0 Q (F0 m pc ls [])) (hrc : ∀ (x4 : Int32) (c_t_planks : Nat → Int32) (c_t_least : Nat → Int32) (c_t_neighbours : Nat → Int32) (H : Heap) (locs : List Loc) (ls : Array Slot), rc x4 c_t_planks c_t_least c_t_neighbours = some (z_t_planks, z_t_least, z_t_neighbours) → lv_has ls 6 [(0, .ref A_t), (1, .ref A_q1), (2, .int x2), (3, .int x3), (4, .int x4)] → wd_ G A s.heap (wl_X8_measure G A_t A_t_planks A_t_least A_t_neighbours A_q1 A_q1_codes c_t_planks c_t_least c_t_neighbours c_q1_codes) H locs → W p l e { frames := 2, cells := 0, slots := 0, locals := 47 } s m args below meth c H locs 0 0 Q (F0 m 18 ls [])) (hk : ∀ (c_t_planks : Nat → Int32) (c_t_least : Nat → Int32) (c_t_neighbours : Nat → Int32) (H : Heap) (locs : List Loc) (ls : Array Slot), k c_t_planks c_t_least c_t_neighbours = some (z_t_planks, z_t_least, z_t_neighbours) → lv_has ls 6 [(0, .ref A_t), (1, .ref A_q1), (2, .int x2), (3, .int x3)] → wd_ G A s.heap (wl_X8_measure G A_t A_t_planks A_t_least A_t_neighbours A_q1 A_q1_codes c_t_planks c_t_least c_t_neighbours c_q1_codes) H locs → W p l e { frames := 2, cells := 0, slots := 0, locals := 47 } s m args below meth c H locs 0 0 Q (F0 m 117 ls [])) (hf : fn_X8_measure_j53 c_t_planks c_t_least c_t_neighbours x3 x4 x5 rc k = some (z_t_planks, z_t_least, z_t_neighbours)) {H : Heap} {locs : List Loc} {ls : Array Slot} (hl : lv_has ls 6 [(0, .ref A_t), (1, .ref A_q1), (2, .int x2), (3, .int x3), (4, .int x4), (5, .int x5)]) (hw : wd_ G A s.heap (wl_X8_measure G A_t A_t_planks A_t_least A_t_neighbours A_q1 A_q1_codes c_t_planks c_t_least c_t_neighbours c_q1_codes) H locs) : W p l e { frames := 2, cells := 0, slots := 0, locals := 47 } s m args below meth c H locs 0 0 Q (F0 m 53 ls []) := by
  have hx := hC.1
  have hb := hC.2.1
  unfold fn_X8_measure_j53 at hf
  refine lv_aload_n hx hb dX8_measure_53 rfl (lv_at hl 0 rfl) ?_
  refine g_get hC hw fkX8_9 0 rfl rfl dX8_measure_54 ?_
  refine lv_iload_n hx hb dX8_measure_57 rfl (lv_at hl 3 rfl) ?_
  refine lv_bipush (v := 12) hx hb dX8_measure_58 (by decide) ?_
  refine lv_imul hx hb dX8_measure_60 ?_
  refine lv_iload hx hb dX8_measure_61 (lv_at hl 4 rfl) ?_
  refine lv_iadd hx hb dX8_measure_63 ?_
  refine lv_iload hx hb dX8_measure_64 (lv_at hl 5 rfl) ?_
  refine lv_if_ne (tgt := 74) hx hb dX8_measure_66 (by decide) (fun hc => ?_) (fun hc => ?_)
  · replace hf := it_f hc hf
    refine lv_iload hx hb dX8_measure_74 (lv_at hl 5 rfl) ?_
    exact wn_X8_measure_j76 hC hret hrc hk hf (lv_sub hl [0, 1, 2, 3, 4] rfl) hw
  · replace hf := it_t hc hf
    refine g_ldc (v := 1000000) hC (tb2 198 rfl rfl) dX8_measure_69 ?_
    refine lv_goto (tgt := 76) hx hb dX8_measure_71 (by decide) ?_
    exact wn_X8_measure_j76 hC hret hrc hk hf (lv_sub hl [0, 1, 2, 3, 4] rfl) hw
set_option maxHeartbeats 4000000 in
set_option maxRecDepth 100000 in
theorem wn_X8_measure_l18 {p : Program} {l : Launch} {e : Env} {s : State} {m : MethodId} {args : Array Value} {below : List Frame} {meth : Method} {c : Code} {G : gw_} {A : Nat → Prop} {Q : State → Prop} {A_t : Nat} {A_t_planks : Nat} {A_t_least : Nat} {A_t_neighbours : Nat} {A_q1 : Nat} {A_q1_codes : Nat} {z_t_planks : Nat → Int32} {z_t_least : Nat → Int32} {z_t_neighbours : Nat → Int32} {c_q1_codes : Nat → Int32} {x2 : Int32} {x3 : Int32} {k : (Nat → Int32) → (Nat → Int32) → (Nat → Int32) → Option ((Nat → Int32) × (Nat → Int32) × (Nat → Int32))} (hC : cx_ p s m c G cX8_measure 6 RX8) (hret : ∀ (pc : Nat) (H : Heap) (locs : List Loc) (ls : Array Slot), decode cX8_measure pc = .ok (.return_, 1) → wd_ G A s.heap (wl_X8_measure G A_t A_t_planks A_t_least A_t_neighbours A_q1 A_q1_codes z_t_planks z_t_least z_t_neighbours c_q1_codes) H locs → W p l e { frames := 2, cells := 0, slots := 0, locals := 47 } s m args below meth c H locs 0 0 Q (F0 m pc ls [])) (hk : ∀ (c_t_planks : Nat → Int32) (c_t_least : Nat → Int32) (c_t_neighbours : Nat → Int32) (H : Heap) (locs : List Loc) (ls : Array Slot), k c_t_planks c_t_least c_t_neighbours = some (z_t_planks, z_t_least, z_t_neighbours) → lv_has ls 6 [(0, .ref A_t), (1, .ref A_q1), (2, .int x2), (3, .int x3)] → wd_ G A s.heap (wl_X8_measure G A_t A_t_planks A_t_least A_t_neighbours A_q1 A_q1_codes c_t_planks c_t_least c_t_neighbours c_q1_codes) H locs → W p l e { frames := 2, cells := 0, slots := 0, locals := 47 } s m args below meth c H locs 0 0 Q (F0 m 117 ls [])) : ∀ (n : Nat) (x4 : Int32) (c_t_planks : Nat → Int32) (c_t_least : Nat → Int32) (c_t_neighbours : Nat → Int32) (H : Heap) (locs : List Loc) (ls : Array Slot), fn_X8_measure_l18 c_q1_codes x2 x3 k n x4 c_t_planks c_t_least c_t_neighbours = some (z_t_planks, z_t_least, z_t_neighbours) → lv_has ls 6 [(0, .ref A_t), (1, .ref A_q1), (2, .int x2), (3, .int x3), (4, .int x4)] → wd_ G A s.heap (wl_X8_measure G A_t A_t_planks A_t_least A_t_neighbours A_q1 A_q1_codes c_t_planks c_t_least c_t_neighbours c_q1_codes) H locs → W p l e { frames := 2, cells := 0, slots := 0, locals := 47 } s m args below meth c H locs 0 0 Q (F0 m 18 ls []) := by
  have hx := hC.1
  have hb := hC.2.1
  intro n
  induction n with
  | zero =>
    intro x4 c_t_planks c_t_least c_t_neighbours H locs ls hf
    cases (show (none : Option ((Nat → Int32) × (Nat → Int32) × (Nat → Int32))) = some _ from hf)
  | succ n hrc =>
    intro x4 c_t_planks c_t_least c_t_neighbours H locs ls hf hl hw
    replace hf : fn_X8_measure_b18 c_q1_codes x2 x3 (fn_X8_measure_l18 c_q1_codes x2 x3 k n) k x4 c_t_planks c_t_least c_t_neighbours = some (z_t_planks, z_t_least, z_t_neighbours) := hf
    unfold fn_X8_measure_b18 at hf
    refine lv_iload hx hb dX8_measure_18 (lv_at hl 4 rfl) ?_
    refine lv_bipush (v := 12) hx hb dX8_measure_20 (by decide) ?_
    refine lv_icmp_ge (tgt := 117) hx hb dX8_measure_22 (by decide) (fun hc => ?_) (fun hc => ?_)
    · replace hf := it_t hc hf
      exact hk c_t_planks c_t_least c_t_neighbours _ _ _ hf (lv_sub hl [0, 1, 2, 3] rfl) hw
    · replace hf := it_f hc hf
      refine lv_aload_n hx hb dX8_measure_25 rfl (lv_at hl 1 rfl) ?_
      refine lv_iload_n hx hb dX8_measure_26 rfl (lv_at hl 3 rfl) ?_
      refine lv_iload hx hb dX8_measure_27 (lv_at hl 4 rfl) ?_
      refine lv_iload_n hx hb dX8_measure_29 rfl (lv_at hl 2 rfl) ?_
      obtain ⟨r2, hq3, hf⟩ := b1_s hf
      refine h_cVi hC hw mvX8_21 (cn_X2_costs l G A_q1 A_q1_codes c_q1_codes x3 x4 x2 r2 hq3) [4, 5] rfl (by decide) 4 rfl rfl rfl hl.1 rfl (Nat.le_of_ble_eq_true rfl) ⟨Nat.le_of_ble_eq_true rfl, Nat.le_of_ble_eq_true rfl⟩ ⟨Nat.le_refl _, Nat.le_refl _⟩ dX8_measure_30 (fun H locs hw => ?_)
      refine lv_istore (lv' := [(5, .int r2), (0, .ref A_t), (1, .ref A_q1), (2, .int x2), (3, .int x3), (4, .int x4)]) hx hb dX8_measure_33 hl (by decide) rfl (fun ls hl => ?_)
      refine lv_iload hx hb dX8_measure_35 (lv_at hl 0 rfl) ?_
      refine lv_if_eq (tgt := 53) hx hb dX8_measure_37 (by decide) (fun hc => ?_) (fun hc => ?_)
      · replace hf := it_t hc hf
        exact wn_X8_measure_j53 hC hret hrc hk hf (lv_sub hl [1, 2, 3, 4, 5, 0] rfl) hw
      · replace hf := it_f hc hf
        refine lv_aload_n hx hb dX8_measure_40 rfl (lv_at hl 1 rfl) ?_
        refine g_get hC hw fkX8_18 0 rfl rfl dX8_measure_41 ?_
        refine lv_iload_n hx hb dX8_measure_44 rfl (lv_at hl 4 rfl) ?_
        refine lv_dup2_11 hx hb dX8_measure_45 rfl rfl ?_
        obtain ⟨hi, hf⟩ := ck_s hf
        refine g_iald hC hw 3 rfl hi dX8_measure_46 ?_
        refine lv_iconst (v := 1) hx hb dX8_measure_47 (by decide) ?_
        refine lv_iload hx hb dX8_measure_48 (lv_at hl 5 rfl) ?_
        refine lv_ishl hx hb dX8_measure_50 ?_
        refine lv_ior hx hb dX8_measure_51 ?_
        obtain ⟨hi, hf⟩ := ck_s hf
        obtain ⟨f7, ef7, hf⟩ := lx_s hf
        refine g_iast hC hw 3 rfl hi ef7 dX8_measure_52 (fun H locs hw => ?_)
        have hw : wd_ G A s.heap (wl_X8_measure G A_t A_t_planks A_t_least A_t_neighbours A_q1 A_q1_codes c_t_planks c_t_least f7 c_q1_codes) H locs := hw
        exact wn_X8_measure_j53 hC hret hrc hk hf (lv_sub hl [1, 2, 3, 4, 5, 0] rfl) hw
set_option maxHeartbeats 4000000 in
set_option maxRecDepth 100000 in
theorem wn_X8_measure_l2 {p : Program} {l : Launch} {e : Env} {s : State} {m : MethodId} {args : Array Value} {below : List Frame} {meth : Method} {c : Code} {G : gw_} {A : Nat → Prop} {Q : State → Prop} {A_t : Nat} {A_t_planks : Nat} {A_t_least : Nat} {A_t_neighbours : Nat} {A_q1 : Nat} {A_q1_codes : Nat} {z_t_planks : Nat → Int32} {z_t_least : Nat → Int32} {z_t_neighbours : Nat → Int32} {c_q1_codes : Nat → Int32} {x2 : Int32} {k : (Nat → Int32) → (Nat → Int32) → (Nat → Int32) → Option ((Nat → Int32) × (Nat → Int32) × (Nat → Int32))} (hC : cx_ p s m c G cX8_measure 6 RX8) (hret : ∀ (pc : Nat) (H : Heap) (locs : List Loc) (ls : Array Slot), decode cX8_measure pc = .ok (.return_, 1) → wd_ G A s.heap (wl_X8_measure G A_t A_t_planks A_t_least A_t_neighbours A_q1 A_q1_codes z_t_planks z_t_least z_t_neighbours c_q1_codes) H locs → W p l e { frames := 2, cells := 0, slots := 0, locals := 47 } s m args below meth c H locs 0 0 Q (F0 m pc ls [])) (hk : ∀ (c_t_planks : Nat → Int32) (c_t_least : Nat → Int32) (c_t_neighbours : Nat → Int32) (H : Heap) (locs : List Loc) (ls : Array Slot), k c_t_planks c_t_least c_t_neighbours = some (z_t_planks, z_t_least, z_t_neighbours) → lv_has ls 6 [(0, .ref A_t)] → wd_ G A s.heap (wl_X8_measure G A_t A_t_planks A_t_least A_t_neighbours A_q1 A_q1_codes c_t_planks c_t_least c_t_neighbours c_q1_codes) H locs → W p l e { frames := 2, cells := 0, slots := 0, locals := 47 } s m args below meth c H locs 0 0 Q (F0 m 123 ls [])) : ∀ (n : Nat) (x3 : Int32) (c_t_planks : Nat → Int32) (c_t_least : Nat → Int32) (c_t_neighbours : Nat → Int32) (H : Heap) (locs : List Loc) (ls : Array Slot), fn_X8_measure_l2 c_q1_codes x2 k n x3 c_t_planks c_t_least c_t_neighbours = some (z_t_planks, z_t_least, z_t_neighbours) → lv_has ls 6 [(0, .ref A_t), (1, .ref A_q1), (2, .int x2), (3, .int x3)] → wd_ G A s.heap (wl_X8_measure G A_t A_t_planks A_t_least A_t_neighbours A_q1 A_q1_codes c_t_planks c_t_least c_t_neighbours c_q1_codes) H locs → W p l e { frames := 2, cells := 0, slots := 0, locals := 47 } s m args below meth c H locs 0 0 Q (F0 m 2 ls []) := by
  have hx := hC.1
  have hb := hC.2.1
  intro n
  induction n with
  | zero =>
    intro x3 c_t_planks c_t_least c_t_neighbours H locs ls hf
    cases (show (none : Option ((Nat → Int32) × (Nat → Int32) × (Nat → Int32))) = some _ from hf)
  | succ n hrc =>
    intro x3 c_t_planks c_t_least c_t_neighbours H locs ls hf hl hw
    replace hf : fn_X8_measure_b2 c_q1_codes x2 (fn_X8_measure_l2 c_q1_codes x2 k n) k x3 c_t_planks c_t_least c_t_neighbours = some (z_t_planks, z_t_least, z_t_neighbours) := hf
    unfold fn_X8_measure_b2 at hf
    refine lv_iload_n hx hb dX8_measure_2 rfl (lv_at hl 3 rfl) ?_
    refine lv_bipush (v := 12) hx hb dX8_measure_3 (by decide) ?_
    refine lv_icmp_ge (tgt := 123) hx hb dX8_measure_5 (by decide) (fun hc => ?_) (fun hc => ?_)
    · replace hf := it_t hc hf
      exact hk c_t_planks c_t_least c_t_neighbours _ _ _ hf (lv_sub hl [0] rfl) hw
    · replace hf := it_f hc hf
      refine lv_aload_n hx hb dX8_measure_8 rfl (lv_at hl 0 rfl) ?_
      refine g_get hC hw fkX8_18 0 rfl rfl dX8_measure_9 ?_
      refine lv_iload_n hx hb dX8_measure_12 rfl (lv_at hl 3 rfl) ?_
      refine lv_iconst (v := 0) hx hb dX8_measure_13 (by decide) ?_
      obtain ⟨hi, hf⟩ := ck_s hf
      obtain ⟨f1, ef1, hf⟩ := lx_s hf
      refine g_iast hC hw 3 rfl hi ef1 dX8_measure_14 (fun H locs hw => ?_)
      have hw : wd_ G A s.heap (wl_X8_measure G A_t A_t_planks A_t_least A_t_neighbours A_q1 A_q1_codes c_t_planks c_t_least f1 c_q1_codes) H locs := hw
      refine lv_iconst (v := 0) hx hb dX8_measure_15 (by decide) ?_
      refine lv_istore (lv' := [(4, .int 0), (0, .ref A_t), (1, .ref A_q1), (2, .int x2), (3, .int x3)]) hx hb dX8_measure_16 hl (by decide) rfl (fun ls hl => ?_)
      refine wn_X8_measure_l18 hC hret (fun v8 v9 v10 H locs ls hf hl hw => ?_) fu_ 0 c_t_planks c_t_least f1 _ _ _ hf (lv_sub hl [1, 2, 3, 4, 0] rfl) hw
      refine lv_iinc (v := x3 + 1) (lv' := [(3, .int (x3 + 1)), (0, .ref A_t), (1, .ref A_q1), (2, .int x2)]) hx hb dX8_measure_117 hl (k := 3) rfl rfl (by decide) rfl (fun ls hl => ?_)
      refine lv_goto (tgt := 2) hx hb dX8_measure_120 (by decide) ?_
      exact hrc (x3 + 1) v8 v9 v10 _ _ _ hf (lv_sub hl [1, 2, 3, 0] rfl) hw
set_option maxHeartbeats 4000000 in
set_option maxRecDepth 100000 in
theorem wn_X8_measure_l125 {p : Program} {l : Launch} {e : Env} {s : State} {m : MethodId} {args : Array Value} {below : List Frame} {meth : Method} {c : Code} {G : gw_} {A : Nat → Prop} {Q : State → Prop} {A_t : Nat} {A_t_planks : Nat} {A_t_least : Nat} {A_t_neighbours : Nat} {A_q1 : Nat} {A_q1_codes : Nat} {c_t_planks : Nat → Int32} {z_t_planks : Nat → Int32} {z_t_least : Nat → Int32} {c_t_neighbours : Nat → Int32} {z_t_neighbours : Nat → Int32} {c_q1_codes : Nat → Int32} {k : (Nat → Int32) → Option ((Nat → Int32) × (Nat → Int32) × (Nat → Int32))} (hC : cx_ p s m c G cX8_measure 6 RX8) (hret : ∀ (pc : Nat) (H : Heap) (locs : List Loc) (ls : Array Slot), decode cX8_measure pc = .ok (.return_, 1) → wd_ G A s.heap (wl_X8_measure G A_t A_t_planks A_t_least A_t_neighbours A_q1 A_q1_codes z_t_planks z_t_least z_t_neighbours c_q1_codes) H locs → W p l e { frames := 2, cells := 0, slots := 0, locals := 47 } s m args below meth c H locs 0 0 Q (F0 m pc ls [])) (hk : ∀ (c_t_least : Nat → Int32) (H : Heap) (locs : List Loc) (ls : Array Slot), k c_t_least = some (z_t_planks, z_t_least, z_t_neighbours) → lv_has ls 6 [] → wd_ G A s.heap (wl_X8_measure G A_t A_t_planks A_t_least A_t_neighbours A_q1 A_q1_codes c_t_planks c_t_least c_t_neighbours c_q1_codes) H locs → W p l e { frames := 2, cells := 0, slots := 0, locals := 47 } s m args below meth c H locs 0 0 Q (F0 m 142 ls [])) : ∀ (n : Nat) (x3 : Int32) (c_t_least : Nat → Int32) (H : Heap) (locs : List Loc) (ls : Array Slot), fn_X8_measure_l125 k n x3 c_t_least = some (z_t_planks, z_t_least, z_t_neighbours) → lv_has ls 6 [(0, .ref A_t), (3, .int x3)] → wd_ G A s.heap (wl_X8_measure G A_t A_t_planks A_t_least A_t_neighbours A_q1 A_q1_codes c_t_planks c_t_least c_t_neighbours c_q1_codes) H locs → W p l e { frames := 2, cells := 0, slots := 0, locals := 47 } s m args below meth c H locs 0 0 Q (F0 m 125 ls []) := by
  have hx := hC.1
  have hb := hC.2.1
  intro n
  induction n with
  | zero =>
    intro x3 c_t_least H locs ls hf
    cases (show (none : Option ((Nat → Int32) × (Nat → Int32) × (Nat → Int32))) = some _ from hf)
  | succ n hrc =>
    intro x3 c_t_least H locs ls hf hl hw
    replace hf : fn_X8_measure_b125 (fn_X8_measure_l125 k n) k x3 c_t_least = some (z_t_planks, z_t_least, z_t_neighbours) := hf
    unfold fn_X8_measure_b125 at hf
    refine lv_iload_n hx hb dX8_measure_125 rfl (lv_at hl 1 rfl) ?_
    refine lv_bipush (v := 12) hx hb dX8_measure_126 (by decide) ?_
    refine lv_icmp_ge (tgt := 142) hx hb dX8_measure_128 (by decide) (fun hc => ?_) (fun hc => ?_)
    · replace hf := it_t hc hf
      exact hk c_t_least _ _ _ hf (lv_sub hl [] rfl) hw
    · replace hf := it_f hc hf
      refine lv_aload_n hx hb dX8_measure_131 rfl (lv_at hl 0 rfl) ?_
      refine lv_iload_n hx hb dX8_measure_132 rfl (lv_at hl 1 rfl) ?_
      obtain ⟨w14, hq15, hf⟩ := b1_s hf
      refine g_cVv hC hw mvX8_28 (cn_X8_shortenBy l G A_t A_t_planks A_t_least A_t_neighbours c_t_least x3 w14 hq15) [0, 2] rfl (by decide) rfl 0 rfl rfl rfl hl.1 rfl (Nat.le_of_ble_eq_true rfl) ⟨Nat.le_of_ble_eq_true rfl, Nat.le_of_ble_eq_true rfl⟩ ⟨Nat.le_refl _, Nat.le_refl _⟩ dX8_measure_133 (fun H locs hw => ?_)
      have hw : wd_ G A s.heap (wl_X8_measure G A_t A_t_planks A_t_least A_t_neighbours A_q1 A_q1_codes c_t_planks w14 c_t_neighbours c_q1_codes) H locs := hw
      refine lv_iinc (v := x3 + 1) (lv' := [(3, .int (x3 + 1)), (0, .ref A_t)]) hx hb dX8_measure_136 hl (k := 1) rfl rfl (by decide) rfl (fun ls hl => ?_)
      refine lv_goto (tgt := 125) hx hb dX8_measure_139 (by decide) ?_
      exact hrc (x3 + 1) w14 _ _ _ hf (lv_sub hl [1, 0] rfl) hw
set_option maxHeartbeats 4000000 in
set_option maxRecDepth 100000 in
theorem wn_X8_measure {p : Program} {l : Launch} {e : Env} {s : State} {m : MethodId} {args : Array Value} {below : List Frame} {meth : Method} {c : Code} {G : gw_} {A : Nat → Prop} {Q : State → Prop} {A_t : Nat} {A_t_planks : Nat} {A_t_least : Nat} {A_t_neighbours : Nat} {A_q1 : Nat} {A_q1_codes : Nat} {c_t_planks : Nat → Int32} {z_t_planks : Nat → Int32} {c_t_least : Nat → Int32} {z_t_least : Nat → Int32} {c_t_neighbours : Nat → Int32} {z_t_neighbours : Nat → Int32} {c_q1_codes : Nat → Int32} {x2 : Int32} (hC : cx_ p s m c G cX8_measure 6 RX8) (hret : ∀ (pc : Nat) (H : Heap) (locs : List Loc) (ls : Array Slot), decode cX8_measure pc = .ok (.return_, 1) → wd_ G A s.heap (wl_X8_measure G A_t A_t_planks A_t_least A_t_neighbours A_q1 A_q1_codes z_t_planks z_t_least z_t_neighbours c_q1_codes) H locs → W p l e { frames := 2, cells := 0, slots := 0, locals := 47 } s m args below meth c H locs 0 0 Q (F0 m pc ls [])) (hf : fn_X8_measure c_t_planks c_t_least c_t_neighbours c_q1_codes x2 = some (z_t_planks, z_t_least, z_t_neighbours)) {H : Heap} {locs : List Loc} {ls : Array Slot} (hl : lv_has ls 6 [(0, .ref A_t), (1, .ref A_q1), (2, .int x2)]) (hw : wd_ G A s.heap (wl_X8_measure G A_t A_t_planks A_t_least A_t_neighbours A_q1 A_q1_codes c_t_planks c_t_least c_t_neighbours c_q1_codes) H locs) : W p l e { frames := 2, cells := 0, slots := 0, locals := 47 } s m args below meth c H locs 0 0 Q (F0 m 0 ls []) := by
  have hx := hC.1
  have hb := hC.2.1
  unfold fn_X8_measure at hf
  refine lv_iconst (v := 0) hx hb dX8_measure_0 (by decide) ?_
  refine lv_istore_n (lv' := [(3, .int 0), (0, .ref A_t), (1, .ref A_q1), (2, .int x2)]) hx hb dX8_measure_1 rfl hl (by decide) rfl (fun ls hl => ?_)
  refine wn_X8_measure_l2 hC hret (fun v11 v12 v13 H locs ls hf hl hw => ?_) fu_ 0 c_t_planks c_t_least c_t_neighbours _ _ _ hf (lv_sub hl [1, 2, 3, 0] rfl) hw
  refine lv_iconst (v := 0) hx hb dX8_measure_123 (by decide) ?_
  refine lv_istore_n (lv' := [(3, .int 0), (0, .ref A_t)]) hx hb dX8_measure_124 rfl hl (by decide) rfl (fun ls hl => ?_)
  refine wn_X8_measure_l125 hC hret (fun v16 H locs ls hf hl hw => ?_) fu_ 0 v12 _ _ _ hf (lv_sub hl [1, 0] rfl) hw
  obtain ⟨h1_, h2_, h3_⟩ := t3_ hf
  subst h1_
  subst h2_
  subst h3_
  exact hret _ _ _ _ dX8_measure_142 hw
set_option maxHeartbeats 4000000 in
set_option maxRecDepth 100000 in
theorem cn_X8_measure (l : Launch) (G : gw_) (A_t : Nat) (A_t_planks : Nat) (A_t_least : Nat) (A_t_neighbours : Nat) (A_q1 : Nat) (A_q1_codes : Nat) (c_t_planks : Nat → Int32) (c_t_least : Nat → Int32) (c_t_neighbours : Nat → Int32) (c_q1_codes : Nat → Int32) (x2 : Int32) (z_t_planks : Nat → Int32) (z_t_least : Nat → Int32) (z_t_neighbours : Nat → Int32) (hf : fn_X8_measure c_t_planks c_t_least c_t_neighbours c_q1_codes x2 = some (z_t_planks, z_t_least, z_t_neighbours)) : cv_ l G yX8_measure cX8_measure 6 none 2 47 (wl_X8_measure G A_t A_t_planks A_t_least A_t_neighbours A_q1 A_q1_codes c_t_planks c_t_least c_t_neighbours c_q1_codes) [.ref A_t, .ref A_q1, .int x2] (wl_X8_measure G A_t A_t_planks A_t_least A_t_neighbours A_q1 A_q1_codes z_t_planks z_t_least z_t_neighbours c_q1_codes) := fun sz => met_intro (by decide) (Nat.le_of_ble_eq_true rfl) (fun p e s m args below meth c ls hsz hC hr hlk hnm hl hw => wn_X8_measure hC (fun pc H locs ls hd hw => g_vret hC hr hlk hw hd) hf hl hw)

theorem dX8_passes_0 : decode cX8_passes 0 = .ok (.aload_n 0, 1) := by decide +kernel
theorem dX8_passes_1 : decode cX8_passes 1 = .ok (.iload_n 1, 1) := by decide +kernel
theorem dX8_passes_2 : decode cX8_passes 2 = .ok (.iload_n 2, 1) := by decide +kernel
theorem dX8_passes_3 : decode cX8_passes 3 = .ok (.invokevirtual 32, 3) := by decide +kernel
theorem dX8_passes_6 : decode cX8_passes 6 = .ok (.ldc 27, 2) := by decide +kernel
theorem dX8_passes_8 : decode cX8_passes 8 = .ok (.if_icmp .ge 29, 3) := by decide +kernel
theorem dX8_passes_11 : decode cX8_passes 11 = .ok (.aload_n 0, 1) := by decide +kernel
theorem dX8_passes_12 : decode cX8_passes 12 = .ok (.iload_n 1, 1) := by decide +kernel
theorem dX8_passes_13 : decode cX8_passes 13 = .ok (.iload_n 3, 1) := by decide +kernel
theorem dX8_passes_14 : decode cX8_passes 14 = .ok (.invokevirtual 32, 3) := by decide +kernel
theorem dX8_passes_17 : decode cX8_passes 17 = .ok (.aload_n 0, 1) := by decide +kernel
theorem dX8_passes_18 : decode cX8_passes 18 = .ok (.iload_n 3, 1) := by decide +kernel
theorem dX8_passes_19 : decode cX8_passes 19 = .ok (.iload_n 2, 1) := by decide +kernel
theorem dX8_passes_20 : decode cX8_passes 20 = .ok (.invokevirtual 32, 3) := by decide +kernel
theorem dX8_passes_23 : decode cX8_passes 23 = .ok (.iadd, 1) := by decide +kernel
theorem dX8_passes_24 : decode cX8_passes 24 = .ok (.aload_n 0, 1) := by decide +kernel
theorem dX8_passes_25 : decode cX8_passes 25 = .ok (.iload_n 1, 1) := by decide +kernel
theorem dX8_passes_26 : decode cX8_passes 26 = .ok (.iload_n 2, 1) := by decide +kernel
theorem dX8_passes_27 : decode cX8_passes 27 = .ok (.invokevirtual 32, 3) := by decide +kernel
theorem dX8_passes_30 : decode cX8_passes 30 = .ok (.if_icmp .ne 7, 3) := by decide +kernel
theorem dX8_passes_33 : decode cX8_passes 33 = .ok (.iconst 1, 1) := by decide +kernel
theorem dX8_passes_34 : decode cX8_passes 34 = .ok (.goto 4, 3) := by decide +kernel
theorem dX8_passes_37 : decode cX8_passes 37 = .ok (.iconst 0, 1) := by decide +kernel
theorem dX8_passes_38 : decode cX8_passes 38 = .ok (.ireturn, 1) := by decide +kernel
abbrev wl_X8_passes (G : gw_) (A_t : Nat) (A_t_planks : Nat) (A_t_least : Nat) (A_t_neighbours : Nat) (c_t_least : Nat → Int32) : va_W := [ob_ A_t 8 [.ref A_t_planks, .ref A_t_least, .ref A_t_neighbours], ia_ G A_t_least 144 c_t_least]
def fn_X8_passes (c_t_least : Nat → Int32) (x1 : Int32) (x2 : Int32) (x3 : Int32) : Option (Int32) :=
  b1_ (fn_X8_between c_t_least x1 x2) fun r1 =>
  if 1000000 ≤ r1 then
    some 0
  else
    b1_ (fn_X8_between c_t_least x1 x3) fun r3 =>
    b1_ (fn_X8_between c_t_least x3 x2) fun r5 =>
    b1_ (fn_X8_between c_t_least x1 x2) fun r7 =>
    if (r3 + r5) = r7 then
      some 1
    else
      some 0
set_option maxHeartbeats 4000000 in
set_option maxRecDepth 100000 in
theorem wn_X8_passes {p : Program} {l : Launch} {e : Env} {s : State} {m : MethodId} {args : Array Value} {below : List Frame} {meth : Method} {c : Code} {G : gw_} {A : Nat → Prop} {Q : State → Prop} {A_t : Nat} {A_t_planks : Nat} {A_t_least : Nat} {A_t_neighbours : Nat} {c_t_least : Nat → Int32} {r : Int32} {x1 : Int32} {x2 : Int32} {x3 : Int32} (hC : cx_ p s m c G cX8_passes 4 RX8) (hret : ∀ (pc : Nat) (H : Heap) (locs : List Loc) (ls : Array Slot), narrow .boolean (.int r) = .int r → decode cX8_passes pc = .ok (.ireturn, 1) → wd_ G A s.heap (wl_X8_passes G A_t A_t_planks A_t_least A_t_neighbours c_t_least) H locs → W p l e { frames := 1, cells := 0, slots := 0, locals := 22 } s m args below meth c H locs 0 0 Q (F0 m pc ls [.int r])) (hf : fn_X8_passes c_t_least x1 x2 x3 = some r) {H : Heap} {locs : List Loc} {ls : Array Slot} (hl : lv_has ls 4 [(0, .ref A_t), (1, .int x1), (2, .int x2), (3, .int x3)]) (hw : wd_ G A s.heap (wl_X8_passes G A_t A_t_planks A_t_least A_t_neighbours c_t_least) H locs) : W p l e { frames := 1, cells := 0, slots := 0, locals := 22 } s m args below meth c H locs 0 0 Q (F0 m 0 ls []) := by
  have hx := hC.1
  have hb := hC.2.1
  unfold fn_X8_passes at hf
  refine lv_aload_n hx hb dX8_passes_0 rfl (lv_at hl 0 rfl) ?_
  refine lv_iload_n hx hb dX8_passes_1 rfl (lv_at hl 1 rfl) ?_
  refine lv_iload_n hx hb dX8_passes_2 rfl (lv_at hl 2 rfl) ?_
  obtain ⟨r1, hq2, hf⟩ := b1_s hf
  refine h_cVi hC hw mvX8_32 (cn_X8_between l G A_t A_t_planks A_t_least A_t_neighbours c_t_least x1 x2 r1 hq2) [0, 1] rfl (by decide) 0 rfl rfl rfl hl.1 rfl (Nat.le_of_ble_eq_true rfl) ⟨Nat.le_of_ble_eq_true rfl, Nat.le_of_ble_eq_true rfl⟩ ⟨Nat.le_refl _, Nat.le_refl _⟩ dX8_passes_3 (fun H locs hw => ?_)
  refine g_ldc (v := 1000000) hC (tb2 198 rfl rfl) dX8_passes_6 ?_
  refine lv_icmp_ge (tgt := 37) hx hb dX8_passes_8 (by decide) (fun hc => ?_) (fun hc => ?_)
  · replace hf := it_t hc hf
    refine lv_iconst (v := 0) hx hb dX8_passes_37 (by decide) ?_
    have h1_ := t1_ hf
    subst h1_
    exact hret _ _ _ _ rfl dX8_passes_38 hw
  · replace hf := it_f hc hf
    refine lv_aload_n hx hb dX8_passes_11 rfl (lv_at hl 0 rfl) ?_
    refine lv_iload_n hx hb dX8_passes_12 rfl (lv_at hl 1 rfl) ?_
    refine lv_iload_n hx hb dX8_passes_13 rfl (lv_at hl 3 rfl) ?_
    obtain ⟨r3, hq4, hf⟩ := b1_s hf
    refine h_cVi hC hw mvX8_32 (cn_X8_between l G A_t A_t_planks A_t_least A_t_neighbours c_t_least x1 x3 r3 hq4) [0, 1] rfl (by decide) 0 rfl rfl rfl hl.1 rfl (Nat.le_of_ble_eq_true rfl) ⟨Nat.le_of_ble_eq_true rfl, Nat.le_of_ble_eq_true rfl⟩ ⟨Nat.le_refl _, Nat.le_refl _⟩ dX8_passes_14 (fun H locs hw => ?_)
    refine lv_aload_n hx hb dX8_passes_17 rfl (lv_at hl 0 rfl) ?_
    refine lv_iload_n hx hb dX8_passes_18 rfl (lv_at hl 3 rfl) ?_
    refine lv_iload_n hx hb dX8_passes_19 rfl (lv_at hl 2 rfl) ?_
    obtain ⟨r5, hq6, hf⟩ := b1_s hf
    refine h_cVi hC hw mvX8_32 (cn_X8_between l G A_t A_t_planks A_t_least A_t_neighbours c_t_least x3 x2 r5 hq6) [0, 1] rfl (by decide) 0 rfl rfl rfl hl.1 rfl (Nat.le_of_ble_eq_true rfl) ⟨Nat.le_of_ble_eq_true rfl, Nat.le_of_ble_eq_true rfl⟩ ⟨Nat.le_refl _, Nat.le_refl _⟩ dX8_passes_20 (fun H locs hw => ?_)
    refine lv_iadd hx hb dX8_passes_23 ?_
    refine lv_aload_n hx hb dX8_passes_24 rfl (lv_at hl 0 rfl) ?_
    refine lv_iload_n hx hb dX8_passes_25 rfl (lv_at hl 1 rfl) ?_
    refine lv_iload_n hx hb dX8_passes_26 rfl (lv_at hl 2 rfl) ?_
    obtain ⟨r7, hq8, hf⟩ := b1_s hf
    refine h_cVi hC hw mvX8_32 (cn_X8_between l G A_t A_t_planks A_t_least A_t_neighbours c_t_least x1 x2 r7 hq8) [0, 1] rfl (by decide) 0 rfl rfl rfl hl.1 rfl (Nat.le_of_ble_eq_true rfl) ⟨Nat.le_of_ble_eq_true rfl, Nat.le_of_ble_eq_true rfl⟩ ⟨Nat.le_refl _, Nat.le_refl _⟩ dX8_passes_27 (fun H locs hw => ?_)
    refine lv_icmp_ne (tgt := 37) hx hb dX8_passes_30 (by decide) (fun hc => ?_) (fun hc => ?_)
    · replace hf := it_f hc hf
      refine lv_iconst (v := 0) hx hb dX8_passes_37 (by decide) ?_
      have h1_ := t1_ hf
      subst h1_
      exact hret _ _ _ _ rfl dX8_passes_38 hw
    · replace hf := it_t hc hf
      refine lv_iconst (v := 1) hx hb dX8_passes_33 (by decide) ?_
      refine lv_goto (tgt := 38) hx hb dX8_passes_34 (by decide) ?_
      have h1_ := t1_ hf
      subst h1_
      exact hret _ _ _ _ rfl dX8_passes_38 hw
set_option maxHeartbeats 4000000 in
set_option maxRecDepth 100000 in
theorem cn_X8_passes (l : Launch) (G : gw_) (A_t : Nat) (A_t_planks : Nat) (A_t_least : Nat) (A_t_neighbours : Nat) (c_t_least : Nat → Int32) (x1 : Int32) (x2 : Int32) (x3 : Int32) (r : Int32) (hf : fn_X8_passes c_t_least x1 x2 x3 = some r) : ci_ l G yX8_passes cX8_passes 4 (some .boolean) 1 22 (wl_X8_passes G A_t A_t_planks A_t_least A_t_neighbours c_t_least) [.ref A_t, .int x1, .int x2, .int x3] r (wl_X8_passes G A_t A_t_planks A_t_least A_t_neighbours c_t_least) := fun sz => met_intro (by decide) (Nat.le_of_ble_eq_true rfl) (fun p e s m args below meth c ls hsz hC hr hlk hnm hl hw => wn_X8_passes hC (fun pc H locs ls hn hd hw => g_iret hC hr hlk hw rfl hn hd) hf hl hw)
