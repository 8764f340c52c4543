theorem dX10_wax_0 : decode cX10_wax 0 = .ok (.iload_n 1, 1) := by decide +kernel
theorem dX10_wax_1 : decode cX10_wax 1 = .ok (.i2l, 1) := by decide +kernel
theorem dX10_wax_2 : decode cX10_wax 2 = .ok (.lconst 0, 1) := by decide +kernel
theorem dX10_wax_3 : decode cX10_wax 3 = .ok (.lconst 1, 1) := by decide +kernel
theorem dX10_wax_4 : decode cX10_wax 4 = .ok (.invokestatic 79, 3) := by decide +kernel
theorem dX10_wax_7 : decode cX10_wax 7 = .ok (.ifCond .ne 6, 3) := by decide +kernel
theorem dX10_wax_10 : decode cX10_wax 10 = .ok (.bipush (-2), 2) := by decide +kernel
theorem dX10_wax_12 : decode cX10_wax 12 = .ok (.ireturn, 1) := by decide +kernel
theorem dX10_wax_13 : decode cX10_wax 13 = .ok (.aload_n 0, 1) := by decide +kernel
theorem dX10_wax_14 : decode cX10_wax 14 = .ok (.invokevirtual 239, 3) := by decide +kernel
theorem dX10_wax_17 : decode cX10_wax 17 = .ok (.iconst 0, 1) := by decide +kernel
theorem dX10_wax_18 : decode cX10_wax 18 = .ok (.istore_n 2, 1) := by decide +kernel
theorem dX10_wax_19 : decode cX10_wax 19 = .ok (.iconst 0, 1) := by decide +kernel
theorem dX10_wax_20 : decode cX10_wax 20 = .ok (.istore_n 3, 1) := by decide +kernel
theorem dX10_wax_21 : decode cX10_wax 21 = .ok (.aload_n 0, 1) := by decide +kernel
theorem dX10_wax_22 : decode cX10_wax 22 = .ok (.invokevirtual 248, 3) := by decide +kernel
theorem dX10_wax_25 : decode cX10_wax 25 = .ok (.istore 4, 2) := by decide +kernel
theorem dX10_wax_27 : decode cX10_wax 27 = .ok (.iload 4, 2) := by decide +kernel
theorem dX10_wax_29 : decode cX10_wax 29 = .ok (.ifCond .lt 47, 3) := by decide +kernel
theorem dX10_wax_32 : decode cX10_wax 32 = .ok (.iload_n 2, 1) := by decide +kernel
theorem dX10_wax_33 : decode cX10_wax 33 = .ok (.aload_n 0, 1) := by decide +kernel
theorem dX10_wax_34 : decode cX10_wax 34 = .ok (.iload 4, 2) := by decide +kernel
theorem dX10_wax_36 : decode cX10_wax 36 = .ok (.bipush 12, 2) := by decide +kernel
theorem dX10_wax_38 : decode cX10_wax 38 = .ok (.idiv, 1) := by decide +kernel
theorem dX10_wax_39 : decode cX10_wax 39 = .ok (.iload 4, 2) := by decide +kernel
theorem dX10_wax_41 : decode cX10_wax 41 = .ok (.bipush 12, 2) := by decide +kernel
theorem dX10_wax_43 : decode cX10_wax 43 = .ok (.irem, 1) := by decide +kernel
theorem dX10_wax_44 : decode cX10_wax 44 = .ok (.invokevirtual 163, 3) := by decide +kernel
theorem dX10_wax_47 : decode cX10_wax 47 = .ok (.iadd, 1) := by decide +kernel
theorem dX10_wax_48 : decode cX10_wax 48 = .ok (.istore_n 2, 1) := by decide +kernel
theorem dX10_wax_49 : decode cX10_wax 49 = .ok (.iinc 3 1, 3) := by decide +kernel
theorem dX10_wax_52 : decode cX10_wax 52 = .ok (.aload_n 0, 1) := by decide +kernel
theorem dX10_wax_53 : decode cX10_wax 53 = .ok (.iload 4, 2) := by decide +kernel
theorem dX10_wax_55 : decode cX10_wax 55 = .ok (.bipush 12, 2) := by decide +kernel
theorem dX10_wax_57 : decode cX10_wax 57 = .ok (.idiv, 1) := by decide +kernel
theorem dX10_wax_58 : decode cX10_wax 58 = .ok (.iload 4, 2) := by decide +kernel
theorem dX10_wax_60 : decode cX10_wax 60 = .ok (.bipush 12, 2) := by decide +kernel
theorem dX10_wax_62 : decode cX10_wax 62 = .ok (.irem, 1) := by decide +kernel
theorem dX10_wax_63 : decode cX10_wax 63 = .ok (.invokevirtual 242, 3) := by decide +kernel
theorem dX10_wax_66 : decode cX10_wax 66 = .ok (.pop, 1) := by decide +kernel
theorem dX10_wax_67 : decode cX10_wax 67 = .ok (.aload_n 0, 1) := by decide +kernel
theorem dX10_wax_68 : decode cX10_wax 68 = .ok (.invokevirtual 248, 3) := by decide +kernel
theorem dX10_wax_71 : decode cX10_wax 71 = .ok (.istore 4, 2) := by decide +kernel
theorem dX10_wax_73 : decode cX10_wax 73 = .ok (.goto (-46), 3) := by decide +kernel
theorem dX10_wax_76 : decode cX10_wax 76 = .ok (.iload_n 1, 1) := by decide +kernel
theorem dX10_wax_77 : decode cX10_wax 77 = .ok (.ifCond .ne 7, 3) := by decide +kernel
theorem dX10_wax_80 : decode cX10_wax 80 = .ok (.iload_n 2, 1) := by decide +kernel
theorem dX10_wax_81 : decode cX10_wax 81 = .ok (.goto 4, 3) := by decide +kernel
theorem dX10_wax_84 : decode cX10_wax 84 = .ok (.iload_n 3, 1) := by decide +kernel
theorem dX10_wax_85 : decode cX10_wax 85 = .ok (.ireturn, 1) := by decide +kernel
abbrev wl_X10_wax (G : gw_) (A_t : Nat) (A_t_steps : Nat) (A_t_wet : Nat) (A_t_where : Nat) (A_t_home : Nat) (A_t_light : Nat) (A_t_carries : Nat) (A_t_sightPlace : Nat) (A_t_sightLight : Nat) (A_t_pad : Nat) (A_t_act : Nat) (A_t_whose : Nat) (A_t_whom : Nat) (A_t_tens : Nat) (A_t_had : Nat) (A_t_leaves : Nat) (A_t_apart : Nat) (A_t_stop : Nat) (A_t_restOf : Nat) (A_t_group : Nat) (A_t_along : Nat) (A_t_kept : Nat) (A_t_isKept : Nat) (c_t_foggy : Int32) (c_t_walkers : Int32) (c_t_sights : Int32) (c_t_padMany : Int32) (c_t_acts : Int32) (c_t_spent : Int32) (c_t_walks : Int32) (c_t_badAct : Int32) (c_t_badWhy : Int32) (c_t_keptAt : Int32) (c_t_isWriting : Int32) (c_t_steps : Nat → Int32) (c_t_wet : Nat → Int32) (c_t_group : Nat → Int32) : va_W := [ob_ A_t 10 [.ref A_t_steps, .ref A_t_wet, .int c_t_foggy, .int c_t_walkers, .ref A_t_where, .ref A_t_home, .ref A_t_light, .ref A_t_carries, .ref A_t_sightPlace, .ref A_t_sightLight, .int c_t_sights, .ref A_t_pad, .int c_t_padMany, .ref A_t_act, .ref A_t_whose, .ref A_t_whom, .ref A_t_tens, .int c_t_acts, .int c_t_spent, .int c_t_walks, .ref A_t_had, .ref A_t_leaves, .int c_t_badAct, .int c_t_badWhy, .ref A_t_apart, .ref A_t_stop, .ref A_t_restOf, .ref A_t_group, .ref A_t_along, .ref A_t_kept, .ref A_t_isKept, .int c_t_keptAt, .int c_t_isWriting], ia_ G A_t_steps 144 c_t_steps, ia_ G A_t_wet 144 c_t_wet, ia_ G A_t_group 12 c_t_group]
def fn_X10_wax_b27 (c_t_foggy : Int32) (c_t_steps : Nat → Int32) (c_t_wet : Nat → Int32) (rc : Int32 → Int32 → Int32 → (Nat → Int32) → Option (Int32 × (Nat → Int32))) (k : Int32 → Int32 → (Nat → Int32) → Option (Int32 × (Nat → Int32))) (x2 : Int32) (x3 : Int32) (x4 : Int32) (c_t_group : Nat → Int32) : Option (Int32 × (Nat → Int32)) :=
  if x4 < 0 then
    k x2 x3 c_t_group
  else
    b1_ (fn_X10_cost c_t_foggy c_t_steps c_t_wet (x4 / 12) (x4 - x4 / 12 * 12)) fun r7 =>
    b2_ (fn_X10_join c_t_group (x4 / 12) (x4 - x4 / 12 * 12)) fun r9 w10 =>
    b1_ (fn_X10_cheapestBetween c_t_foggy c_t_steps c_t_wet w10) fun r12 =>
    rc (x2 + r7) (x3 + 1) r12 w10
def fn_X10_wax_l27 (c_t_foggy : Int32) (c_t_steps : Nat → Int32) (c_t_wet : Nat → Int32) (k : Int32 → Int32 → (Nat → Int32) → Option (Int32 × (Nat → Int32))) : Nat → Int32 → Int32 → Int32 → (Nat → Int32) → Option (Int32 × (Nat → Int32))
  | 0 => fun _ _ _ _ => none
  | n + 1 => fun x2 x3 x4 c_t_group => fn_X10_wax_b27 c_t_foggy c_t_steps c_t_wet (fn_X10_wax_l27 c_t_foggy c_t_steps c_t_wet k n) k x2 x3 x4 c_t_group
def fn_X10_wax (c_t_foggy : Int32) (c_t_steps : Nat → Int32) (c_t_wet : Nat → Int32) (c_t_group : Nat → Int32) (x1 : Int32) : Option (Int32 × (Nat → Int32)) :=
  b1_ (fn_X10_in (Int32.toInt64 x1) 0 1) fun r1 =>
  if r1 = 0 then
    some ((-2), c_t_group)
  else
    b1_ (fn_X10_beginGroups c_t_group) fun w3 =>
    b1_ (fn_X10_cheapestBetween c_t_foggy c_t_steps c_t_wet w3) fun r5 =>
    fn_X10_wax_l27 c_t_foggy c_t_steps c_t_wet (fun v14 v15 v16 =>
      if x1 = 0 then
        some (v14, v16)
      else
        some (v15, v16)) fu_ 0 0 r5 w3
set_option maxHeartbeats 4000000 in
set_option maxRecDepth 100000 in
theorem wn_X10_wax_l27 {p : Program} {l : Launch} {e : Env} {s : State} {m : MethodId} {args : Array Value} {below : List Frame} {meth : Method} {c : Code} {G : gw_} {A : Nat → Prop} {Q : State → Prop} {A_t : Nat} {A_t_steps : Nat} {A_t_wet : Nat} {A_t_where : Nat} {A_t_home : Nat} {A_t_light : Nat} {A_t_carries : Nat} {A_t_sightPlace : Nat} {A_t_sightLight : Nat} {A_t_pad : Nat} {A_t_act : Nat} {A_t_whose : Nat} {A_t_whom : Nat} {A_t_tens : Nat} {A_t_had : Nat} {A_t_leaves : Nat} {A_t_apart : Nat} {A_t_stop : Nat} {A_t_restOf : Nat} {A_t_group : Nat} {A_t_along : Nat} {A_t_kept : Nat} {A_t_isKept : Nat} {c_t_foggy : Int32} {c_t_walkers : Int32} {c_t_sights : Int32} {c_t_padMany : Int32} {c_t_acts : Int32} {c_t_spent : Int32} {c_t_walks : Int32} {c_t_badAct : Int32} {c_t_badWhy : Int32} {c_t_keptAt : Int32} {c_t_isWriting : Int32} {c_t_steps : Nat → Int32} {c_t_wet : Nat → Int32} {z_t_group : Nat → Int32} {r : Int32} {x1 : Int32} {k : Int32 → Int32 → (Nat → Int32) → Option (Int32 × (Nat → Int32))} (hC : cx_ p s m c G cX10_wax 5 RX10) (hret : ∀ (pc : Nat) (H : Heap) (locs : List Loc) (ls : Array Slot), decode cX10_wax pc = .ok (.ireturn, 1) → wd_ G A s.heap (wl_X10_wax G A_t A_t_steps A_t_wet A_t_where A_t_home A_t_light A_t_carries A_t_sightPlace A_t_sightLight A_t_pad A_t_act A_t_whose A_t_whom A_t_tens A_t_had A_t_leaves A_t_apart A_t_stop A_t_restOf A_t_group A_t_along A_t_kept A_t_isKept c_t_foggy c_t_walkers c_t_sights c_t_padMany c_t_acts c_t_spent c_t_walks c_t_badAct c_t_badWhy c_t_keptAt c_t_isWriting c_t_steps c_t_wet z_t_group) H locs → W p l e { frames := 4, cells := 0, slots := 0, locals := 92 } s m args below meth c H locs 0 0 Q (F0 m pc ls [.int r])) (hk : ∀ (x2 : Int32) (x3 : Int32) (c_t_group : Nat → Int32) (H : Heap) (locs : List Loc) (ls : Array Slot), k x2 x3 c_t_group = some (r, z_t_group) → lv_has ls 5 [(1, .int x1), (2, .int x2), (3, .int x3)] → wd_ G A s.heap (wl_X10_wax G A_t A_t_steps A_t_wet A_t_where A_t_home A_t_light A_t_carries A_t_sightPlace A_t_sightLight A_t_pad A_t_act A_t_whose A_t_whom A_t_tens A_t_had A_t_leaves A_t_apart A_t_stop A_t_restOf A_t_group A_t_along A_t_kept A_t_isKept c_t_foggy c_t_walkers c_t_sights c_t_padMany c_t_acts c_t_spent c_t_walks c_t_badAct c_t_badWhy c_t_keptAt c_t_isWriting c_t_steps c_t_wet c_t_group) H locs → W p l e { frames := 4, cells := 0, slots := 0, locals := 92 } s m args below meth c H locs 0 0 Q (F0 m 76 ls [])) : ∀ (n : Nat) (x2 : Int32) (x3 : Int32) (x4 : Int32) (c_t_group : Nat → Int32) (H : Heap) (locs : List Loc) (ls : Array Slot), fn_X10_wax_l27 c_t_foggy c_t_steps c_t_wet k n x2 x3 x4 c_t_group = some (r, z_t_group) → lv_has ls 5 [(0, .ref A_t), (1, .int x1), (2, .int x2), (3, .int x3), (4, .int x4)] → wd_ G A s.heap (wl_X10_wax G A_t A_t_steps A_t_wet A_t_where A_t_home A_t_light A_t_carries A_t_sightPlace A_t_sightLight A_t_pad A_t_act A_t_whose A_t_whom A_t_tens A_t_had A_t_leaves A_t_apart A_t_stop A_t_restOf A_t_group A_t_along A_t_kept A_t_isKept c_t_foggy c_t_walkers c_t_sights c_t_padMany c_t_acts c_t_spent c_t_walks c_t_badAct c_t_badWhy c_t_keptAt c_t_isWriting c_t_steps c_t_wet c_t_group) H locs → W p l e { frames := 4, cells := 0, slots := 0, locals := 92 } s m args below meth c H locs 0 0 Q (F0 m 27 ls []) := by
  have hx := hC.1
  have hb := hC.2.1
  intro n
  induction n with
  | zero =>
    intro x2 x3 x4 c_t_group H locs ls hf
    cases (show (none : Option (Int32 × (Nat → Int32))) = some _ from hf)
  | succ n hrc =>
    intro x2 x3 x4 c_t_group H locs ls hf hl hw
    replace hf : fn_X10_wax_b27 c_t_foggy c_t_steps c_t_wet (fn_X10_wax_l27 c_t_foggy c_t_steps c_t_wet k n) k x2 x3 x4 c_t_group = some (r, z_t_group) := hf
    unfold fn_X10_wax_b27 at hf
    refine lv_iload hx hb dX10_wax_27 (lv_at hl 4 rfl) ?_
    refine lv_if_lt (tgt := 76) hx hb dX10_wax_29 (by decide) (fun hc => ?_) (fun hc => ?_)
    · replace hf := it_t hc hf
      exact hk x2 x3 c_t_group _ _ _ hf (lv_sub hl [1, 2, 3] rfl) hw
    · replace hf := it_f hc hf
      refine lv_iload_n hx hb dX10_wax_32 rfl (lv_at hl 2 rfl) ?_
      refine lv_aload_n hx hb dX10_wax_33 rfl (lv_at hl 0 rfl) ?_
      refine lv_iload hx hb dX10_wax_34 (lv_at hl 4 rfl) ?_
      refine lv_bipush (v := 12) hx hb dX10_wax_36 (by decide) ?_
      refine lv_idiv hx hb dX10_wax_38 (by decide) ?_
      refine lv_iload hx hb dX10_wax_39 (lv_at hl 4 rfl) ?_
      refine lv_bipush (v := 12) hx hb dX10_wax_41 (by decide) ?_
      refine lv_irem hx hb dX10_wax_43 (by decide) ?_
      obtain ⟨r7, hq8, hf⟩ := b1_s hf
      refine h_cVi hC hw mvX10_163 (cn_X10_cost l G A_t A_t_steps A_t_wet A_t_where A_t_home A_t_light A_t_carries A_t_sightPlace A_t_sightLight A_t_pad A_t_act A_t_whose A_t_whom A_t_tens A_t_had A_t_leaves A_t_apart A_t_stop A_t_restOf A_t_group A_t_along A_t_kept A_t_isKept c_t_foggy c_t_walkers c_t_sights c_t_padMany c_t_acts c_t_spent c_t_walks c_t_badAct c_t_badWhy c_t_keptAt c_t_isWriting c_t_steps c_t_wet (x4 / 12) (x4 - x4 / 12 * 12) r7 hq8) [0, 1, 2] rfl (by decide) 0 rfl rfl rfl hl.1 rfl (Nat.le_of_ble_eq_true rfl) ⟨Nat.le_of_ble_eq_true rfl, Nat.le_of_ble_eq_true rfl⟩ ⟨Nat.le_refl _, Nat.le_refl _⟩ dX10_wax_44 (fun H locs hw => ?_)
      refine lv_iadd hx hb dX10_wax_47 ?_
      refine lv_istore_n (lv' := [(2, .int (x2 + r7)), (0, .ref A_t), (1, .int x1), (3, .int x3), (4, .int x4)]) hx hb dX10_wax_48 rfl hl (by decide) rfl (fun ls hl => ?_)
      refine lv_iinc (v := x3 + 1) (lv' := [(3, .int (x3 + 1)), (2, .int (x2 + r7)), (0, .ref A_t), (1, .int x1), (4, .int x4)]) hx hb dX10_wax_49 hl (k := 3) rfl rfl (by decide) rfl (fun ls hl => ?_)
      refine lv_aload_n hx hb dX10_wax_52 rfl (lv_at hl 2 rfl) ?_
      refine lv_iload hx hb dX10_wax_53 (lv_at hl 4 rfl) ?_
      refine lv_bipush (v := 12) hx hb dX10_wax_55 (by decide) ?_
      refine lv_idiv hx hb dX10_wax_57 (by decide) ?_
      refine lv_iload hx hb dX10_wax_58 (lv_at hl 4 rfl) ?_
      refine lv_bipush (v := 12) hx hb dX10_wax_60 (by decide) ?_
      refine lv_irem hx hb dX10_wax_62 (by decide) ?_
      obtain ⟨r9, w10, hq11, hf⟩ := b2_s hf
      refine g_cVi hC hw mvX10_242 (cn_X10_join l G A_t A_t_steps A_t_wet A_t_where A_t_home A_t_light A_t_carries A_t_sightPlace A_t_sightLight A_t_pad A_t_act A_t_whose A_t_whom A_t_tens A_t_had A_t_leaves A_t_apart A_t_stop A_t_restOf A_t_group A_t_along A_t_kept A_t_isKept c_t_foggy c_t_walkers c_t_sights c_t_padMany c_t_acts c_t_spent c_t_walks c_t_badAct c_t_badWhy c_t_keptAt c_t_isWriting c_t_group (x4 / 12) (x4 - x4 / 12 * 12) r9 w10 hq11) [0, 3] rfl (by decide) rfl 0 rfl rfl rfl hl.1 rfl (Nat.le_of_ble_eq_true rfl) ⟨Nat.le_of_ble_eq_true rfl, Nat.le_of_ble_eq_true rfl⟩ ⟨Nat.le_refl _, Nat.le_refl _⟩ dX10_wax_63 (fun H locs hw => ?_)
      have hw : wd_ G A s.heap (wl_X10_wax G A_t A_t_steps A_t_wet A_t_where A_t_home A_t_light A_t_carries A_t_sightPlace A_t_sightLight A_t_pad A_t_act A_t_whose A_t_whom A_t_tens A_t_had A_t_leaves A_t_apart A_t_stop A_t_restOf A_t_group A_t_along A_t_kept A_t_isKept c_t_foggy c_t_walkers c_t_sights c_t_padMany c_t_acts c_t_spent c_t_walks c_t_badAct c_t_badWhy c_t_keptAt c_t_isWriting c_t_steps c_t_wet w10) H locs := hw
      refine lv_pop hx hb dX10_wax_66 rfl ?_
      refine lv_aload_n hx hb dX10_wax_67 rfl (lv_at hl 2 rfl) ?_
      obtain ⟨r12, hq13, hf⟩ := b1_s hf
      refine h_cVi hC hw mvX10_248 (cn_X10_cheapestBetween l G A_t A_t_steps A_t_wet A_t_where A_t_home A_t_light A_t_carries A_t_sightPlace A_t_sightLight A_t_pad A_t_act A_t_whose A_t_whom A_t_tens A_t_had A_t_leaves A_t_apart A_t_stop A_t_restOf A_t_group A_t_along A_t_kept A_t_isKept c_t_foggy c_t_walkers c_t_sights c_t_padMany c_t_acts c_t_spent c_t_walks c_t_badAct c_t_badWhy c_t_keptAt c_t_isWriting c_t_steps c_t_wet w10 r12 hq13) [0, 1, 2, 3] rfl (by decide) 0 rfl rfl rfl hl.1 rfl (Nat.le_of_ble_eq_true rfl) ⟨Nat.le_of_ble_eq_true rfl, Nat.le_of_ble_eq_true rfl⟩ ⟨Nat.le_refl _, Nat.le_refl _⟩ dX10_wax_68 (fun H locs hw => ?_)
      refine lv_istore (lv' := [(4, .int r12), (3, .int (x3 + 1)), (2, .int (x2 + r7)), (0, .ref A_t), (1, .int x1)]) hx hb dX10_wax_71 hl (by decide) rfl (fun ls hl => ?_)
      refine lv_goto (tgt := 27) hx hb dX10_wax_73 (by decide) ?_
      exact hrc (x2 + r7) (x3 + 1) r12 w10 _ _ _ hf (lv_sub hl [3, 4, 2, 1, 0] rfl) hw
set_option maxHeartbeats 4000000 in
set_option maxRecDepth 100000 in
theorem wn_X10_wax {p : Program} {l : Launch} {e : Env} {s : State} {m : MethodId} {args : Array Value} {below : List Frame} {meth : Method} {c : Code} {G : gw_} {A : Nat → Prop} {Q : State → Prop} {A_t : Nat} {A_t_steps : Nat} {A_t_wet : Nat} {A_t_where : Nat} {A_t_home : Nat} {A_t_light : Nat} {A_t_carries : Nat} {A_t_sightPlace : Nat} {A_t_sightLight : Nat} {A_t_pad : Nat} {A_t_act : Nat} {A_t_whose : Nat} {A_t_whom : Nat} {A_t_tens : Nat} {A_t_had : Nat} {A_t_leaves : Nat} {A_t_apart : Nat} {A_t_stop : Nat} {A_t_restOf : Nat} {A_t_group : Nat} {A_t_along : Nat} {A_t_kept : Nat} {A_t_isKept : Nat} {c_t_foggy : Int32} {c_t_walkers : Int32} {c_t_sights : Int32} {c_t_padMany : Int32} {c_t_acts : Int32} {c_t_spent : Int32} {c_t_walks : Int32} {c_t_badAct : Int32} {c_t_badWhy : Int32} {c_t_keptAt : Int32} {c_t_isWriting : Int32} {c_t_steps : Nat → Int32} {c_t_wet : Nat → Int32} {c_t_group : Nat → Int32} {z_t_group : Nat → Int32} {r : Int32} {x1 : Int32} (hC : cx_ p s m c G cX10_wax 5 RX10) (hret : ∀ (pc : Nat) (H : Heap) (locs : List Loc) (ls : Array Slot), decode cX10_wax pc = .ok (.ireturn, 1) → wd_ G A s.heap (wl_X10_wax G A_t A_t_steps A_t_wet A_t_where A_t_home A_t_light A_t_carries A_t_sightPlace A_t_sightLight A_t_pad A_t_act A_t_whose A_t_whom A_t_tens A_t_had A_t_leaves A_t_apart A_t_stop A_t_restOf A_t_group A_t_along A_t_kept A_t_isKept c_t_foggy c_t_walkers c_t_sights c_t_padMany c_t_acts c_t_spent c_t_walks c_t_badAct c_t_badWhy c_t_keptAt c_t_isWriting c_t_steps c_t_wet z_t_group) H locs → W p l e { frames := 4, cells := 0, slots := 0, locals := 92 } s m args below meth c H locs 0 0 Q (F0 m pc ls [.int r])) (hf : fn_X10_wax c_t_foggy c_t_steps c_t_wet c_t_group x1 = some (r, z_t_group)) {H : Heap} {locs : List Loc} {ls : Array Slot} (hl : lv_has ls 5 [(0, .ref A_t), (1, .int x1)]) (hw : wd_ G A s.heap (wl_X10_wax G A_t A_t_steps A_t_wet A_t_where A_t_home A_t_light A_t_carries A_t_sightPlace A_t_sightLight A_t_pad A_t_act A_t_whose A_t_whom A_t_tens A_t_had A_t_leaves A_t_apart A_t_stop A_t_restOf A_t_group A_t_along A_t_kept A_t_isKept c_t_foggy c_t_walkers c_t_sights c_t_padMany c_t_acts c_t_spent c_t_walks c_t_badAct c_t_badWhy c_t_keptAt c_t_isWriting c_t_steps c_t_wet c_t_group) H locs) : W p l e { frames := 4, cells := 0, slots := 0, locals := 92 } s m args below meth c H locs 0 0 Q (F0 m 0 ls []) := by
  have hx := hC.1
  have hb := hC.2.1
  unfold fn_X10_wax at hf
  refine lv_iload_n hx hb dX10_wax_0 rfl (lv_at hl 1 rfl) ?_
  refine lv_i2l hx hb dX10_wax_1 rfl ?_
  refine lv_lconst (v := 0) hx hb dX10_wax_2 (by decide) ?_
  refine lv_lconst (v := 1) hx hb dX10_wax_3 (by decide) ?_
  obtain ⟨r1, hq2, hf⟩ := b1_s hf
  refine h_cSi hC hw msX10_79 (cn_X10_in l G (Int32.toInt64 x1) 0 1 r1 hq2) [] rfl (by decide) rfl hl.1 rfl (Nat.le_of_ble_eq_true rfl) ⟨Nat.le_of_ble_eq_true rfl, Nat.le_of_ble_eq_true rfl⟩ ⟨Nat.le_refl _, Nat.le_refl _⟩ dX10_wax_4 (fun H locs hw => ?_)
  refine lv_if_ne (tgt := 13) hx hb dX10_wax_7 (by decide) (fun hc => ?_) (fun hc => ?_)
  · replace hf := it_f hc hf
    refine lv_aload_n hx hb dX10_wax_13 rfl (lv_at hl 0 rfl) ?_
    obtain ⟨w3, hq4, hf⟩ := b1_s hf
    refine g_cVv hC hw mvX10_239 (cn_X10_beginGroups l G A_t A_t_steps A_t_wet A_t_where A_t_home A_t_light A_t_carries A_t_sightPlace A_t_sightLight A_t_pad A_t_act A_t_whose A_t_whom A_t_tens A_t_had A_t_leaves A_t_apart A_t_stop A_t_restOf A_t_group A_t_along A_t_kept A_t_isKept c_t_foggy c_t_walkers c_t_sights c_t_padMany c_t_acts c_t_spent c_t_walks c_t_badAct c_t_badWhy c_t_keptAt c_t_isWriting c_t_group w3 hq4) [0, 3] rfl (by decide) rfl 0 rfl rfl rfl hl.1 rfl (Nat.le_of_ble_eq_true rfl) ⟨Nat.le_of_ble_eq_true rfl, Nat.le_of_ble_eq_true rfl⟩ ⟨Nat.le_refl _, Nat.le_refl _⟩ dX10_wax_14 (fun H locs hw => ?_)
    have hw : wd_ G A s.heap (wl_X10_wax G A_t A_t_steps A_t_wet A_t_where A_t_home A_t_light A_t_carries A_t_sightPlace A_t_sightLight A_t_pad A_t_act A_t_whose A_t_whom A_t_tens A_t_had A_t_leaves A_t_apart A_t_stop A_t_restOf A_t_group A_t_along A_t_kept A_t_isKept c_t_foggy c_t_walkers c_t_sights c_t_padMany c_t_acts c_t_spent c_t_walks c_t_badAct c_t_badWhy c_t_keptAt c_t_isWriting c_t_steps c_t_wet w3) H locs := hw
    refine lv_iconst (v := 0) hx hb dX10_wax_17 (by decide) ?_
    refine lv_istore_n (lv' := [(2, .int 0), (0, .ref A_t), (1, .int x1)]) hx hb dX10_wax_18 rfl hl (by decide) rfl (fun ls hl => ?_)
    refine lv_iconst (v := 0) hx hb dX10_wax_19 (by decide) ?_
    refine lv_istore_n (lv' := [(3, .int 0), (2, .int 0), (0, .ref A_t), (1, .int x1)]) hx hb dX10_wax_20 rfl hl (by decide) rfl (fun ls hl => ?_)
    refine lv_aload_n hx hb dX10_wax_21 rfl (lv_at hl 2 rfl) ?_
    obtain ⟨r5, hq6, hf⟩ := b1_s hf
    refine h_cVi hC hw mvX10_248 (cn_X10_cheapestBetween l G A_t A_t_steps A_t_wet A_t_where A_t_home A_t_light A_t_carries A_t_sightPlace A_t_sightLight A_t_pad A_t_act A_t_whose A_t_whom A_t_tens A_t_had A_t_leaves A_t_apart A_t_stop A_t_restOf A_t_group A_t_along A_t_kept A_t_isKept c_t_foggy c_t_walkers c_t_sights c_t_padMany c_t_acts c_t_spent c_t_walks c_t_badAct c_t_badWhy c_t_keptAt c_t_isWriting c_t_steps c_t_wet w3 r5 hq6) [0, 1, 2, 3] rfl (by decide) 0 rfl rfl rfl hl.1 rfl (Nat.le_of_ble_eq_true rfl) ⟨Nat.le_of_ble_eq_true rfl, Nat.le_of_ble_eq_true rfl⟩ ⟨Nat.le_refl _, Nat.le_refl _⟩ dX10_wax_22 (fun H locs hw => ?_)
    refine lv_istore (lv' := [(4, .int r5), (3, .int 0), (2, .int 0), (0, .ref A_t), (1, .int x1)]) hx hb dX10_wax_25 hl (by decide) rfl (fun ls hl => ?_)
    refine wn_X10_wax_l27 hC hret (fun v14 v15 v16 H locs ls hf hl hw => ?_) fu_ 0 0 r5 w3 _ _ _ hf (lv_sub hl [3, 4, 2, 1, 0] rfl) hw
    refine lv_iload_n hx hb dX10_wax_76 rfl (lv_at hl 0 rfl) ?_
    refine lv_if_ne (tgt := 84) hx hb dX10_wax_77 (by decide) (fun hc => ?_) (fun hc => ?_)
    · replace hf := it_f hc hf
      refine lv_iload_n hx hb dX10_wax_84 rfl (lv_at hl 2 rfl) ?_
      obtain ⟨h1_, h2_⟩ := t2_ hf
      subst h1_
      subst h2_
      exact hret _ _ _ _ dX10_wax_85 hw
    · replace hf := it_t hc hf
      refine lv_iload_n hx hb dX10_wax_80 rfl (lv_at hl 1 rfl) ?_
      refine lv_goto (tgt := 85) hx hb dX10_wax_81 (by decide) ?_
      obtain ⟨h1_, h2_⟩ := t2_ hf
      subst h1_
      subst h2_
      exact hret _ _ _ _ dX10_wax_85 hw
  · replace hf := it_t hc hf
    refine lv_bipush (v := (-2)) hx hb dX10_wax_10 (by decide) ?_
    obtain ⟨h1_, h2_⟩ := t2_ hf
    subst h1_
    subst h2_
    exact hret _ _ _ _ dX10_wax_12 hw
set_option maxHeartbeats 4000000 in
set_option maxRecDepth 100000 in
theorem cn_X10_wax (l : Launch) (G : gw_) (A_t : Nat) (A_t_steps : Nat) (A_t_wet : Nat) (A_t_where : Nat) (A_t_home : Nat) (A_t_light : Nat) (A_t_carries : Nat) (A_t_sightPlace : Nat) (A_t_sightLight : Nat) (A_t_pad : Nat) (A_t_act : Nat) (A_t_whose : Nat) (A_t_whom : Nat) (A_t_tens : Nat) (A_t_had : Nat) (A_t_leaves : Nat) (A_t_apart : Nat) (A_t_stop : Nat) (A_t_restOf : Nat) (A_t_group : Nat) (A_t_along : Nat) (A_t_kept : Nat) (A_t_isKept : Nat) (c_t_foggy : Int32) (c_t_walkers : Int32) (c_t_sights : Int32) (c_t_padMany : Int32) (c_t_acts : Int32) (c_t_spent : Int32) (c_t_walks : Int32) (c_t_badAct : Int32) (c_t_badWhy : Int32) (c_t_keptAt : Int32) (c_t_isWriting : Int32) (c_t_steps : Nat → Int32) (c_t_wet : Nat → Int32) (c_t_group : Nat → Int32) (x1 : Int32) (r : Int32) (z_t_group : Nat → Int32) (hf : fn_X10_wax c_t_foggy c_t_steps c_t_wet c_t_group x1 = some (r, z_t_group)) : ci_ l G yX10_wax cX10_wax 5 (some .int) 4 92 (wl_X10_wax G A_t A_t_steps A_t_wet A_t_where A_t_home A_t_light A_t_carries A_t_sightPlace A_t_sightLight A_t_pad A_t_act A_t_whose A_t_whom A_t_tens A_t_had A_t_leaves A_t_apart A_t_stop A_t_restOf A_t_group A_t_along A_t_kept A_t_isKept c_t_foggy c_t_walkers c_t_sights c_t_padMany c_t_acts c_t_spent c_t_walks c_t_badAct c_t_badWhy c_t_keptAt c_t_isWriting c_t_steps c_t_wet c_t_group) [.ref A_t, .int x1] r (wl_X10_wax G A_t A_t_steps A_t_wet A_t_where A_t_home A_t_light A_t_carries A_t_sightPlace A_t_sightLight A_t_pad A_t_act A_t_whose A_t_whom A_t_tens A_t_had A_t_leaves A_t_apart A_t_stop A_t_restOf A_t_group A_t_along A_t_kept A_t_isKept c_t_foggy c_t_walkers c_t_sights c_t_padMany c_t_acts c_t_spent c_t_walks c_t_badAct c_t_badWhy c_t_keptAt c_t_isWriting c_t_steps c_t_wet z_t_group) := fun sz => met_intro (by decide) (Nat.le_of_ble_eq_true rfl) (fun p e s m args below meth c ls hsz hC hr hlk hnm hl hw => wn_X10_wax hC (fun pc H locs ls hd hw => g_iret hC hr hlk hw rfl rfl hd) hf hl hw)

theorem dX10_postOf_0 : decode cX10_postOf 0 = .ok (.iconst 0, 1) := by decide +kernel
theorem dX10_postOf_1 : decode cX10_postOf 1 = .ok (.istore_n 3, 1) := by decide +kernel
theorem dX10_postOf_2 : decode cX10_postOf 2 = .ok (.iconst 0, 1) := by decide +kernel
theorem dX10_postOf_3 : decode cX10_postOf 3 = .ok (.istore 4, 2) := by decide +kernel
theorem dX10_postOf_5 : decode cX10_postOf 5 = .ok (.iconst 0, 1) := by decide +kernel
theorem dX10_postOf_6 : decode cX10_postOf 6 = .ok (.istore 5, 2) := by decide +kernel
theorem dX10_postOf_8 : decode cX10_postOf 8 = .ok (.iload 5, 2) := by decide +kernel
theorem dX10_postOf_10 : decode cX10_postOf 10 = .ok (.bipush 6, 2) := by decide +kernel
theorem dX10_postOf_12 : decode cX10_postOf 12 = .ok (.if_icmp .ge 77, 3) := by decide +kernel
theorem dX10_postOf_15 : decode cX10_postOf 15 = .ok (.aload_n 0, 1) := by decide +kernel
theorem dX10_postOf_16 : decode cX10_postOf 16 = .ok (.iload 5, 2) := by decide +kernel
theorem dX10_postOf_18 : decode cX10_postOf 18 = .ok (.invokevirtual 106, 3) := by decide +kernel
theorem dX10_postOf_21 : decode cX10_postOf 21 = .ok (.ifCond .eq 22, 3) := by decide +kernel
theorem dX10_postOf_24 : decode cX10_postOf 24 = .ok (.aload_n 0, 1) := by decide +kernel
theorem dX10_postOf_25 : decode cX10_postOf 25 = .ok (.getfield 55, 3) := by decide +kernel
theorem dX10_postOf_28 : decode cX10_postOf 28 = .ok (.iload_n 1, 1) := by decide +kernel
theorem dX10_postOf_29 : decode cX10_postOf 29 = .ok (.aload_n 0, 1) := by decide +kernel
theorem dX10_postOf_30 : decode cX10_postOf 30 = .ok (.getfield 19, 3) := by decide +kernel
theorem dX10_postOf_33 : decode cX10_postOf 33 = .ok (.iload 5, 2) := by decide +kernel
theorem dX10_postOf_35 : decode cX10_postOf 35 = .ok (.iaload, 1) := by decide +kernel
theorem dX10_postOf_36 : decode cX10_postOf 36 = .ok (.invokestatic 89, 3) := by decide +kernel
theorem dX10_postOf_39 : decode cX10_postOf 39 = .ok (.iaload, 1) := by decide +kernel
theorem dX10_postOf_40 : decode cX10_postOf 40 = .ok (.goto 4, 3) := by decide +kernel
theorem dX10_postOf_43 : decode cX10_postOf 43 = .ok (.iconst 0, 1) := by decide +kernel
theorem dX10_postOf_44 : decode cX10_postOf 44 = .ok (.istore 6, 2) := by decide +kernel
theorem dX10_postOf_46 : decode cX10_postOf 46 = .ok (.iload 6, 2) := by decide +kernel
theorem dX10_postOf_48 : decode cX10_postOf 48 = .ok (.ldc 214, 2) := by decide +kernel
theorem dX10_postOf_50 : decode cX10_postOf 50 = .ok (.if_icmp .ge 8, 3) := by decide +kernel
theorem dX10_postOf_53 : decode cX10_postOf 53 = .ok (.iload 6, 2) := by decide +kernel
theorem dX10_postOf_55 : decode cX10_postOf 55 = .ok (.goto 5, 3) := by decide +kernel
theorem dX10_postOf_58 : decode cX10_postOf 58 = .ok (.ldc 214, 2) := by decide +kernel
theorem dX10_postOf_60 : decode cX10_postOf 60 = .ok (.istore 6, 2) := by decide +kernel
theorem dX10_postOf_62 : decode cX10_postOf 62 = .ok (.iload_n 3, 1) := by decide +kernel
theorem dX10_postOf_63 : decode cX10_postOf 63 = .ok (.iload 6, 2) := by decide +kernel
theorem dX10_postOf_65 : decode cX10_postOf 65 = .ok (.iadd, 1) := by decide +kernel
theorem dX10_postOf_66 : decode cX10_postOf 66 = .ok (.istore_n 3, 1) := by decide +kernel
theorem dX10_postOf_67 : decode cX10_postOf 67 = .ok (.iload 6, 2) := by decide +kernel
theorem dX10_postOf_69 : decode cX10_postOf 69 = .ok (.iload 4, 2) := by decide +kernel
theorem dX10_postOf_71 : decode cX10_postOf 71 = .ok (.if_icmp .le 8, 3) := by decide +kernel
theorem dX10_postOf_74 : decode cX10_postOf 74 = .ok (.iload 6, 2) := by decide +kernel
theorem dX10_postOf_76 : decode cX10_postOf 76 = .ok (.goto 5, 3) := by decide +kernel
theorem dX10_postOf_79 : decode cX10_postOf 79 = .ok (.iload 4, 2) := by decide +kernel
theorem dX10_postOf_81 : decode cX10_postOf 81 = .ok (.istore 4, 2) := by decide +kernel
theorem dX10_postOf_83 : decode cX10_postOf 83 = .ok (.iinc 5 1, 3) := by decide +kernel
theorem dX10_postOf_86 : decode cX10_postOf 86 = .ok (.goto (-78), 3) := by decide +kernel
theorem dX10_postOf_89 : decode cX10_postOf 89 = .ok (.iload_n 2, 1) := by decide +kernel
theorem dX10_postOf_90 : decode cX10_postOf 90 = .ok (.ifCond .ne 7, 3) := by decide +kernel
theorem dX10_postOf_93 : decode cX10_postOf 93 = .ok (.iload_n 3, 1) := by decide +kernel
theorem dX10_postOf_94 : decode cX10_postOf 94 = .ok (.goto 5, 3) := by decide +kernel
theorem dX10_postOf_97 : decode cX10_postOf 97 = .ok (.iload 4, 2) := by decide +kernel
theorem dX10_postOf_99 : decode cX10_postOf 99 = .ok (.ireturn, 1) := by decide +kernel
abbrev wl_X10_postOf (G : gw_) (A_t : Nat) (A_t_steps : Nat) (A_t_wet : Nat) (A_t_where : Nat) (A_t_home : Nat) (A_t_light : Nat) (A_t_carries : Nat) (A_t_sightPlace : Nat) (A_t_sightLight : Nat) (A_t_pad : Nat) (A_t_act : Nat) (A_t_whose : Nat) (A_t_whom : Nat) (A_t_tens : Nat) (A_t_had : Nat) (A_t_leaves : Nat) (A_t_apart : Nat) (A_t_stop : Nat) (A_t_restOf : Nat) (A_t_group : Nat) (A_t_along : Nat) (A_t_kept : Nat) (A_t_isKept : Nat) (c_t_foggy : Int32) (c_t_walkers : Int32) (c_t_sights : Int32) (c_t_padMany : Int32) (c_t_acts : Int32) (c_t_spent : Int32) (c_t_walks : Int32) (c_t_badAct : Int32) (c_t_badWhy : Int32) (c_t_keptAt : Int32) (c_t_isWriting : Int32) (c_t_home : Nat → Int32) (c_t_apart : Nat → Int32) : va_W := [ob_ A_t 10 [.ref A_t_steps, .ref A_t_wet, .int c_t_foggy, .int c_t_walkers, .ref A_t_where, .ref A_t_home, .ref A_t_light, .ref A_t_carries, .ref A_t_sightPlace, .ref A_t_sightLight, .int c_t_sights, .ref A_t_pad, .int c_t_padMany, .ref A_t_act, .ref A_t_whose, .ref A_t_whom, .ref A_t_tens, .int c_t_acts, .int c_t_spent, .int c_t_walks, .ref A_t_had, .ref A_t_leaves, .int c_t_badAct, .int c_t_badWhy, .ref A_t_apart, .ref A_t_stop, .ref A_t_restOf, .ref A_t_group, .ref A_t_along, .ref A_t_kept, .ref A_t_isKept, .int c_t_keptAt, .int c_t_isWriting], ia_ G A_t_home 6 c_t_home, ia_ G A_t_apart 144 c_t_apart]
def fn_X10_postOf_j60 (x3 : Int32) (x4 : Int32) (x5 : Int32) (s0 : Int32) (rc : Int32 → Int32 → Int32 → Option (Int32)) (k : Int32 → Int32 → Option (Int32)) : Option (Int32) :=
  if s0 ≤ x4 then
    rc (x3 + s0) x4 (x5 + 1)
  else
    rc (x3 + s0) s0 (x5 + 1)
def fn_X10_postOf_j44 (x3 : Int32) (x4 : Int32) (x5 : Int32) (s0 : Int32) (rc : Int32 → Int32 → Int32 → Option (Int32)) (k : Int32 → Int32 → Option (Int32)) : Option (Int32) :=
  if 1000000 ≤ s0 then
    fn_X10_postOf_j60 x3 x4 x5 1000000 rc k
  else
    fn_X10_postOf_j60 x3 x4 x5 s0 rc k
def fn_X10_postOf_b8 (c_t_walkers : Int32) (c_t_home : Nat → Int32) (c_t_apart : Nat → Int32) (x1 : Int32) (rc : Int32 → Int32 → Int32 → Option (Int32)) (k : Int32 → Int32 → Option (Int32)) (x3 : Int32) (x4 : Int32) (x5 : Int32) : Option (Int32) :=
  if 6 ≤ x5 then
    k x3 x4
  else
    b1_ (fn_X10_isWalker c_t_walkers x5) fun r1 =>
    if r1 = 0 then
      fn_X10_postOf_j44 x3 x4 x5 0 rc k
    else
      ck_ x5 6 <|
      b1_ (fn_X10_at x1 (c_t_home (Int32.toNatClampNeg x5))) fun r3 =>
      ck_ r3 144 <|
      fn_X10_postOf_j44 x3 x4 x5 (c_t_apart (Int32.toNatClampNeg r3)) rc k
def fn_X10_postOf_l8 (c_t_walkers : Int32) (c_t_home : Nat → Int32) (c_t_apart : Nat → Int32) (x1 : Int32) (k : Int32 → Int32 → Option (Int32)) : Nat → Int32 → Int32 → Int32 → Option (Int32)
  | 0 => fun _ _ _ => none
  | n + 1 => fun x3 x4 x5 => fn_X10_postOf_b8 c_t_walkers c_t_home c_t_apart x1 (fn_X10_postOf_l8 c_t_walkers c_t_home c_t_apart x1 k n) k x3 x4 x5
def fn_X10_postOf (c_t_walkers : Int32) (c_t_home : Nat → Int32) (c_t_apart : Nat → Int32) (x1 : Int32) (x2 : Int32) : Option (Int32) :=
  fn_X10_postOf_l8 c_t_walkers c_t_home c_t_apart x1 (fun v5 v6 =>
    if x2 = 0 then
      some v5
    else
      some v6) fu_ 0 0 0
set_option maxHeartbeats 4000000 in
set_option maxRecDepth 100000 in
theorem wn_X10_postOf_j60 {p : Program} {l : Launch} {e : Env} {s : State} {m : MethodId} {args : Array Value} {below : List Frame} {meth : Method} {c : Code} {G : gw_} {A : Nat → Prop} {Q : State → Prop} {A_t : Nat} {A_t_steps : Nat} {A_t_wet : Nat} {A_t_where : Nat} {A_t_home : Nat} {A_t_light : Nat} {A_t_carries : Nat} {A_t_sightPlace : Nat} {A_t_sightLight : Nat} {A_t_pad : Nat} {A_t_act : Nat} {A_t_whose : Nat} {A_t_whom : Nat} {A_t_tens : Nat} {A_t_had : Nat} {A_t_leaves : Nat} {A_t_apart : Nat} {A_t_stop : Nat} {A_t_restOf : Nat} {A_t_group : Nat} {A_t_along : Nat} {A_t_kept : Nat} {A_t_isKept : Nat} {c_t_foggy : Int32} {c_t_walkers : Int32} {c_t_sights : Int32} {c_t_padMany : Int32} {c_t_acts : Int32} {c_t_spent : Int32} {c_t_walks : Int32} {c_t_badAct : Int32} {c_t_badWhy : Int32} {c_t_keptAt : Int32} {c_t_isWriting : Int32} {c_t_home : Nat → Int32} {c_t_apart : Nat → Int32} {r : Int32} {x1 : Int32} {x2 : Int32} {x3 : Int32} {x4 : Int32} {x5 : Int32} {s0 : Int32} {rc : Int32 → Int32 → Int32 → Option (Int32)} {k : Int32 → Int32 → Option (Int32)} (hC : cx_ p s m c G cX10_postOf 7 RX10) (hret : ∀ (pc : Nat) (H : Heap) (locs : List Loc) (ls : Array Slot), decode cX10_postOf pc = .ok (.ireturn, 1) → wd_ G A s.heap (wl_X10_postOf G A_t A_t_steps A_t_wet A_t_where A_t_home A_t_light A_t_carries A_t_sightPlace A_t_sightLight A_t_pad A_t_act A_t_whose A_t_whom A_t_tens A_t_had A_t_leaves A_t_apart A_t_stop A_t_restOf A_t_group A_t_along A_t_kept A_t_isKept c_t_foggy c_t_walkers c_t_sights c_t_padMany c_t_acts c_t_spent c_t_walks c_t_badAct c_t_badWhy c_t_keptAt c_t_isWriting c_t_home c_t_apart) H locs → W p l e { frames := 2, cells := 0, slots := 0, locals := 46 } s m args below meth c H locs 0 0 Q (F0 m pc ls [.int r])) (hrc : ∀ (x3 : Int32) (x4 : Int32) (x5 : Int32) (H : Heap) (locs : List Loc) (ls : Array Slot), rc x3 x4 x5 = some r → lv_has ls 7 [(0, .ref A_t), (1, .int x1), (2, .int x2), (3, .int x3), (4, .int x4), (5, .int x5)] → wd_ G A s.heap (wl_X10_postOf G A_t A_t_steps A_t_wet A_t_where A_t_home A_t_light A_t_carries A_t_sightPlace A_t_sightLight A_t_pad A_t_act A_t_whose A_t_whom A_t_tens A_t_had A_t_leaves A_t_apart A_t_stop A_t_restOf A_t_group A_t_along A_t_kept A_t_isKept c_t_foggy c_t_walkers c_t_sights c_t_padMany c_t_acts c_t_spent c_t_walks c_t_badAct c_t_badWhy c_t_keptAt c_t_isWriting c_t_home c_t_apart) H locs → W p l e { frames := 2, cells := 0, slots := 0, locals := 46 } s m args below meth c H locs 0 0 Q (F0 m 8 ls [])) (hk : ∀ (x3 : Int32) (x4 : Int32) (H : Heap) (locs : List Loc) (ls : Array Slot), k x3 x4 = some r → lv_has ls 7 [(2, .int x2), (3, .int x3), (4, .int x4)] → wd_ G A s.heap (wl_X10_postOf G A_t A_t_steps A_t_wet A_t_where A_t_home A_t_light A_t_carries A_t_sightPlace A_t_sightLight A_t_pad A_t_act A_t_whose A_t_whom A_t_tens A_t_had A_t_leaves A_t_apart A_t_stop A_t_restOf A_t_group A_t_along A_t_kept A_t_isKept c_t_foggy c_t_walkers c_t_sights c_t_padMany c_t_acts c_t_spent c_t_walks c_t_badAct c_t_badWhy c_t_keptAt c_t_isWriting c_t_home c_t_apart) H locs → W p l e { frames := 2, cells := 0, slots := 0, locals := 46 } s m args below meth c H locs 0 0 Q (F0 m 89 ls [])) (hf : fn_X10_postOf_j60 x3 x4 x5 s0 rc k = some r) {H : Heap} {locs : List Loc} {ls : Array Slot} (hl : lv_has ls 7 [(0, .ref A_t), (1, .int x1), (2, .int x2), (3, .int x3), (4, .int x4), (5, .int x5)]) (hw : wd_ G A s.heap (wl_X10_postOf G A_t A_t_steps A_t_wet A_t_where A_t_home A_t_light A_t_carries A_t_sightPlace A_t_sightLight A_t_pad A_t_act A_t_whose A_t_whom A_t_tens A_t_had A_t_leaves A_t_apart A_t_stop A_t_restOf A_t_group A_t_along A_t_kept A_t_isKept c_t_foggy c_t_walkers c_t_sights c_t_padMany c_t_acts c_t_spent c_t_walks c_t_badAct c_t_badWhy c_t_keptAt c_t_isWriting c_t_home c_t_apart) H locs) : W p l e { frames := 2, cells := 0, slots := 0, locals := 46 } s m args below meth c H locs 0 0 Q (F0 m 60 ls [.int s0]) := by
  have hx := hC.1
  have hb := hC.2.1
  unfold fn_X10_postOf_j60 at hf
  refine lv_istore (lv' := [(6, .int s0), (0, .ref A_t), (1, .int x1), (2, .int x2), (3, .int x3), (4, .int x4), (5, .int x5)]) hx hb dX10_postOf_60 hl (by decide) rfl (fun ls hl => ?_)
  refine lv_iload_n hx hb dX10_postOf_62 rfl (lv_at hl 4 rfl) ?_
  refine lv_iload hx hb dX10_postOf_63 (lv_at hl 0 rfl) ?_
  refine lv_iadd hx hb dX10_postOf_65 ?_
  refine lv_istore_n (lv' := [(3, .int (x3 + s0)), (6, .int s0), (0, .ref A_t), (1, .int x1), (2, .int x2), (4, .int x4), (5, .int x5)]) hx hb dX10_postOf_66 rfl hl (by decide) rfl (fun ls hl => ?_)
  refine lv_iload hx hb dX10_postOf_67 (lv_at hl 1 rfl) ?_
  refine lv_iload hx hb dX10_postOf_69 (lv_at hl 5 rfl) ?_
  refine lv_icmp_le (tgt := 79) hx hb dX10_postOf_71 (by decide) (fun hc => ?_) (fun hc => ?_)
  · replace hf := it_t hc hf
    refine lv_iload hx hb dX10_postOf_79 (lv_at hl 5 rfl) ?_
    refine lv_istore (lv' := [(4, .int x4), (3, .int (x3 + s0)), (6, .int s0), (0, .ref A_t), (1, .int x1), (2, .int x2), (5, .int x5)]) hx hb dX10_postOf_81 hl (by decide) rfl (fun ls hl => ?_)
    refine lv_iinc (v := x5 + 1) (lv' := [(5, .int (x5 + 1)), (4, .int x4), (3, .int (x3 + s0)), (6, .int s0), (0, .ref A_t), (1, .int x1), (2, .int x2)]) hx hb dX10_postOf_83 hl (k := 6) rfl rfl (by decide) rfl (fun ls hl => ?_)
    refine lv_goto (tgt := 8) hx hb dX10_postOf_86 (by decide) ?_
    exact hrc (x3 + s0) x4 (x5 + 1) _ _ _ hf (lv_sub hl [4, 5, 6, 2, 1, 0] rfl) hw
  · replace hf := it_f hc hf
    refine lv_iload hx hb dX10_postOf_74 (lv_at hl 1 rfl) ?_
    refine lv_goto (tgt := 81) hx hb dX10_postOf_76 (by decide) ?_
    refine lv_istore (lv' := [(4, .int s0), (3, .int (x3 + s0)), (6, .int s0), (0, .ref A_t), (1, .int x1), (2, .int x2), (5, .int x5)]) hx hb dX10_postOf_81 hl (by decide) rfl (fun ls hl => ?_)
    refine lv_iinc (v := x5 + 1) (lv' := [(5, .int (x5 + 1)), (4, .int s0), (3, .int (x3 + s0)), (6, .int s0), (0, .ref A_t), (1, .int x1), (2, .int x2)]) hx hb dX10_postOf_83 hl (k := 6) rfl rfl (by decide) rfl (fun ls hl => ?_)
    refine lv_goto (tgt := 8) hx hb dX10_postOf_86 (by decide) ?_
    exact hrc (x3 + s0) s0 (x5 + 1) _ _ _ hf (lv_sub hl [4, 5, 6, 2, 1, 0] rfl) hw
set_option maxHeartbeats 4000000 in
set_option maxRecDepth 100000 in
theorem wn_X10_postOf_j44 {p : Program} {l : Launch} {e : Env} {s : State} {m : MethodId} {args : Array Value} {below : List Frame} {meth : Method} {c : Code} {G : gw_} {A : Nat → Prop} {Q : State → Prop} {A_t : Nat} {A_t_steps : Nat} {A_t_wet : Nat} {A_t_where : Nat} {A_t_home : Nat} {A_t_light : Nat} {A_t_carries : Nat} {A_t_sightPlace : Nat} {A_t_sightLight : Nat} {A_t_pad : Nat} {A_t_act : Nat} {A_t_whose : Nat} {A_t_whom : Nat} {A_t_tens : Nat} {A_t_had : Nat} {A_t_leaves : Nat} {A_t_apart : Nat} {A_t_stop : Nat} {A_t_restOf : Nat} {A_t_group : Nat} {A_t_along : Nat} {A_t_kept : Nat} {A_t_isKept : Nat} {c_t_foggy : Int32} {c_t_walkers : Int32} {c_t_sights : Int32} {c_t_padMany : Int32} {c_t_acts : Int32} {c_t_spent : Int32} {c_t_walks : Int32} {c_t_badAct : Int32} {c_t_badWhy : Int32} {c_t_keptAt : Int32} {c_t_isWriting : Int32} {c_t_home : Nat → Int32} {c_t_apart : Nat → Int32} {r : Int32} {x1 : Int32} {x2 : Int32} {x3 : Int32} {x4 : Int32} {x5 : Int32} {s0 : Int32} {rc : Int32 → Int32 → Int32 → Option (Int32)} {k : Int32 → Int32 → Option (Int32)} (hC : cx_ p s m c G cX10_postOf 7 RX10) (hret : ∀ (pc : Nat) (H : Heap) (locs : List Loc) (ls : Array Slot), decode cX10_postOf pc = .ok (.ireturn, 1) → wd_ G A s.heap (wl_X10_postOf G A_t A_t_steps A_t_wet A_t_where A_t_home A_t_light A_t_carries A_t_sightPlace A_t_sightLight A_t_pad A_t_act A_t_whose A_t_whom A_t_tens A_t_had A_t_leaves A_t_apart A_t_stop A_t_restOf A_t_group A_t_along A_t_kept A_t_isKept c_t_foggy c_t_walkers c_t_sights c_t_padMany c_t_acts c_t_spent c_t_walks c_t_badAct c_t_badWhy c_t_keptAt c_t_isWriting c_t_home c_t_apart) H locs → W p l e { frames := 2, cells := 0, slots := 0, locals := 46 } s m args below meth c H locs 0 0 Q (F0 m pc ls [.int r])) (hrc : ∀ (x3 : Int32) (x4 : Int32) (x5 : Int32) (H : Heap) (locs : List Loc) (ls : Array Slot), rc x3 x4 x5 = some r → lv_has ls 7 [(0, .ref A_t), (1, .int x1), (2, .int x2), (3, .int x3), (4, .int x4), (5, .int x5)] → wd_ G A s.heap (wl_X10_postOf G A_t A_t_steps A_t_wet A_t_where A_t_home A_t_light A_t_carries A_t_sightPlace A_t_sightLight A_t_pad A_t_act A_t_whose A_t_whom A_t_tens A_t_had A_t_leaves A_t_apart A_t_stop A_t_restOf A_t_group A_t_along A_t_kept A_t_isKept c_t_foggy c_t_walkers c_t_sights c_t_padMany c_t_acts c_t_spent c_t_walks c_t_badAct c_t_badWhy c_t_keptAt c_t_isWriting c_t_home c_t_apart) H locs → W p l e { frames := 2, cells := 0, slots := 0, locals := 46 } s m args below meth c H locs 0 0 Q (F0 m 8 ls [])) (hk : ∀ (x3 : Int32) (x4 : Int32) (H : Heap) (locs : List Loc) (ls : Array Slot), k x3 x4 = some r → lv_has ls 7 [(2, .int x2), (3, .int x3), (4, .int x4)] → wd_ G A s.heap (wl_X10_postOf G A_t A_t_steps A_t_wet A_t_where A_t_home A_t_light A_t_carries A_t_sightPlace A_t_sightLight A_t_pad A_t_act A_t_whose A_t_whom A_t_tens A_t_had A_t_leaves A_t_apart A_t_stop A_t_restOf A_t_group A_t_along A_t_kept A_t_isKept c_t_foggy c_t_walkers c_t_sights c_t_padMany c_t_acts c_t_spent c_t_walks c_t_badAct c_t_badWhy c_t_keptAt c_t_isWriting c_t_home c_t_apart) H locs → W p l e { frames := 2, cells := 0, slots := 0, locals := 46 } s m args below meth c H locs 0 0 Q (F0 m 89 ls [])) (hf : fn_X10_postOf_j44 x3 x4 x5 s0 rc k = some r) {H : Heap} {locs : List Loc} {ls : Array Slot} (hl : lv_has ls 7 [(0, .ref A_t), (1, .int x1), (2, .int x2), (3, .int x3), (4, .int x4), (5, .int x5)]) (hw : wd_ G A s.heap (wl_X10_postOf G A_t A_t_steps A_t_wet A_t_where A_t_home A_t_light A_t_carries A_t_sightPlace A_t_sightLight A_t_pad A_t_act A_t_whose A_t_whom A_t_tens A_t_had A_t_leaves A_t_apart A_t_stop A_t_restOf A_t_group A_t_along A_t_kept A_t_isKept c_t_foggy c_t_walkers c_t_sights c_t_padMany c_t_acts c_t_spent c_t_walks c_t_badAct c_t_badWhy c_t_keptAt c_t_isWriting c_t_home c_t_apart) H locs) : W p l e { frames := 2, cells := 0, slots := 0, locals := 46 } s m args below meth c H locs 0 0 Q (F0 m 44 ls [.int s0]) := by
  have hx := hC.1
  have hb := hC.2.1
  unfold fn_X10_postOf_j44 at hf
  refine lv_istore (lv' := [(6, .int s0), (0, .ref A_t), (1, .int x1), (2, .int x2), (3, .int x3), (4, .int x4), (5, .int x5)]) hx hb dX10_postOf_44 hl (by decide) rfl (fun ls hl => ?_)
  refine lv_iload hx hb dX10_postOf_46 (lv_at hl 0 rfl) ?_
  refine g_ldc (v := 1000000) hC (tb5 17 rfl rfl) dX10_postOf_48 ?_
  refine lv_icmp_ge (tgt := 58) hx hb dX10_postOf_50 (by decide) (fun hc => ?_) (fun hc => ?_)
  · replace hf := it_t hc hf
    refine g_ldc (v := 1000000) hC (tb5 17 rfl rfl) dX10_postOf_58 ?_
    exact wn_X10_postOf_j60 hC hret hrc hk hf (lv_sub hl [1, 2, 3, 4, 5, 6] rfl) hw
  · replace hf := it_f hc hf
    refine lv_iload hx hb dX10_postOf_53 (lv_at hl 0 rfl) ?_
    refine lv_goto (tgt := 60) hx hb dX10_postOf_55 (by decide) ?_
    exact wn_X10_postOf_j60 hC hret hrc hk hf (lv_sub hl [1, 2, 3, 4, 5, 6] rfl) hw
set_option maxHeartbeats 4000000 in
set_option maxRecDepth 100000 in
theorem wn_X10_postOf_l8 {p : Program} {l : Launch} {e : Env} {s : State} {m : MethodId} {args : Array Value} {below : List Frame} {meth : Method} {c : Code} {G : gw_} {A : Nat → Prop} {Q : State → Prop} {A_t : Nat} {A_t_steps : Nat} {A_t_wet : Nat} {A_t_where : Nat} {A_t_home : Nat} {A_t_light : Nat} {A_t_carries : Nat} {A_t_sightPlace : Nat} {A_t_sightLight : Nat} {A_t_pad : Nat} {A_t_act : Nat} {A_t_whose : Nat} {A_t_whom : Nat} {A_t_tens : Nat} {A_t_had : Nat} {A_t_leaves : Nat} {A_t_apart : Nat} {A_t_stop : Nat} {A_t_restOf : Nat} {A_t_group : Nat} {A_t_along : Nat} {A_t_kept : Nat} {A_t_isKept : Nat} {c_t_foggy : Int32} {c_t_walkers : Int32} {c_t_sights : Int32} {c_t_padMany : Int32} {c_t_acts : Int32} {c_t_spent : Int32} {c_t_walks : Int32} {c_t_badAct : Int32} {c_t_badWhy : Int32} {c_t_keptAt : Int32} {c_t_isWriting : Int32} {c_t_home : Nat → Int32} {c_t_apart : Nat → Int32} {r : Int32} {x1 : Int32} {x2 : Int32} {k : Int32 → Int32 → Option (Int32)} (hC : cx_ p s m c G cX10_postOf 7 RX10) (hret : ∀ (pc : Nat) (H : Heap) (locs : List Loc) (ls : Array Slot), decode cX10_postOf pc = .ok (.ireturn, 1) → wd_ G A s.heap (wl_X10_postOf G A_t A_t_steps A_t_wet A_t_where A_t_home A_t_light A_t_carries A_t_sightPlace A_t_sightLight A_t_pad A_t_act A_t_whose A_t_whom A_t_tens A_t_had A_t_leaves A_t_apart A_t_stop A_t_restOf A_t_group A_t_along A_t_kept A_t_isKept c_t_foggy c_t_walkers c_t_sights c_t_padMany c_t_acts c_t_spent c_t_walks c_t_badAct c_t_badWhy c_t_keptAt c_t_isWriting c_t_home c_t_apart) H locs → W p l e { frames := 2, cells := 0, slots := 0, locals := 46 } s m args below meth c H locs 0 0 Q (F0 m pc ls [.int r])) (hk : ∀ (x3 : Int32) (x4 : Int32) (H : Heap) (locs : List Loc) (ls : Array Slot), k x3 x4 = some r → lv_has ls 7 [(2, .int x2), (3, .int x3), (4, .int x4)] → wd_ G A s.heap (wl_X10_postOf G A_t A_t_steps A_t_wet A_t_where A_t_home A_t_light A_t_carries A_t_sightPlace A_t_sightLight A_t_pad A_t_act A_t_whose A_t_whom A_t_tens A_t_had A_t_leaves A_t_apart A_t_stop A_t_restOf A_t_group A_t_along A_t_kept A_t_isKept c_t_foggy c_t_walkers c_t_sights c_t_padMany c_t_acts c_t_spent c_t_walks c_t_badAct c_t_badWhy c_t_keptAt c_t_isWriting c_t_home c_t_apart) H locs → W p l e { frames := 2, cells := 0, slots := 0, locals := 46 } s m args below meth c H locs 0 0 Q (F0 m 89 ls [])) : ∀ (n : Nat) (x3 : Int32) (x4 : Int32) (x5 : Int32) (H : Heap) (locs : List Loc) (ls : Array Slot), fn_X10_postOf_l8 c_t_walkers c_t_home c_t_apart x1 k n x3 x4 x5 = some r → lv_has ls 7 [(0, .ref A_t), (1, .int x1), (2, .int x2), (3, .int x3), (4, .int x4), (5, .int x5)] → wd_ G A s.heap (wl_X10_postOf G A_t A_t_steps A_t_wet A_t_where A_t_home A_t_light A_t_carries A_t_sightPlace A_t_sightLight A_t_pad A_t_act A_t_whose A_t_whom A_t_tens A_t_had A_t_leaves A_t_apart A_t_stop A_t_restOf A_t_group A_t_along A_t_kept A_t_isKept c_t_foggy c_t_walkers c_t_sights c_t_padMany c_t_acts c_t_spent c_t_walks c_t_badAct c_t_badWhy c_t_keptAt c_t_isWriting c_t_home c_t_apart) H locs → W p l e { frames := 2, cells := 0, slots := 0, locals := 46 } s m args below meth c H locs 0 0 Q (F0 m 8 ls []) := by
  have hx := hC.1
  have hb := hC.2.1
  intro n
  induction n with
  | zero =>
    intro x3 x4 x5 H locs ls hf
    cases (show (none : Option (Int32)) = some _ from hf)
  | succ n hrc =>
    intro x3 x4 x5 H locs ls hf hl hw
    replace hf : fn_X10_postOf_b8 c_t_walkers c_t_home c_t_apart x1 (fn_X10_postOf_l8 c_t_walkers c_t_home c_t_apart x1 k n) k x3 x4 x5 = some r := hf
    unfold fn_X10_postOf_b8 at hf
    refine lv_iload hx hb dX10_postOf_8 (lv_at hl 5 rfl) ?_
    refine lv_bipush (v := 6) hx hb dX10_postOf_10 (by decide) ?_
    refine lv_icmp_ge (tgt := 89) hx hb dX10_postOf_12 (by decide) (fun hc => ?_) (fun hc => ?_)
    · replace hf := it_t hc hf
      exact hk x3 x4 _ _ _ hf (lv_sub hl [2, 3, 4] rfl) hw
    · replace hf := it_f hc hf
      refine lv_aload_n hx hb dX10_postOf_15 rfl (lv_at hl 0 rfl) ?_
      refine lv_iload hx hb dX10_postOf_16 (lv_at hl 5 rfl) ?_
      obtain ⟨r1, hq2, hf⟩ := b1_s hf
      refine h_cVi hC hw mvX10_106 (cn_X10_isWalker l G A_t A_t_steps A_t_wet A_t_where A_t_home A_t_light A_t_carries A_t_sightPlace A_t_sightLight A_t_pad A_t_act A_t_whose A_t_whom A_t_tens A_t_had A_t_leaves A_t_apart A_t_stop A_t_restOf A_t_group A_t_along A_t_kept A_t_isKept c_t_foggy c_t_walkers c_t_sights c_t_padMany c_t_acts c_t_spent c_t_walks c_t_badAct c_t_badWhy c_t_keptAt c_t_isWriting x5 r1 hq2) [0] rfl (by decide) 0 rfl rfl rfl hl.1 rfl (Nat.le_of_ble_eq_true rfl) ⟨Nat.le_of_ble_eq_true rfl, Nat.le_of_ble_eq_true rfl⟩ ⟨Nat.le_refl _, Nat.le_refl _⟩ dX10_postOf_18 (fun H locs hw => ?_)
      refine lv_if_eq (tgt := 43) hx hb dX10_postOf_21 (by decide) (fun hc => ?_) (fun hc => ?_)
      · replace hf := it_t hc hf
        refine lv_iconst (v := 0) hx hb dX10_postOf_43 (by decide) ?_
        exact wn_X10_postOf_j44 hC hret hrc hk hf (lv_sub hl [0, 1, 2, 3, 4, 5] rfl) hw
      · replace hf := it_f hc hf
        refine lv_aload_n hx hb dX10_postOf_24 rfl (lv_at hl 0 rfl) ?_
        refine g_get hC hw fkX10_55 0 rfl rfl dX10_postOf_25 ?_
        refine lv_iload_n hx hb dX10_postOf_28 rfl (lv_at hl 1 rfl) ?_
        refine lv_aload_n hx hb dX10_postOf_29 rfl (lv_at hl 0 rfl) ?_
        refine g_get hC hw fkX10_19 0 rfl rfl dX10_postOf_30 ?_
        refine lv_iload hx hb dX10_postOf_33 (lv_at hl 5 rfl) ?_
        obtain ⟨hi, hf⟩ := ck_s hf
        refine g_iald hC hw 1 rfl hi dX10_postOf_35 ?_
        obtain ⟨r3, hq4, hf⟩ := b1_s hf
        refine h_cSi hC hw msX10_89 (cn_X10_at l G x1 (c_t_home (Int32.toNatClampNeg x5)) r3 hq4) [] rfl (by decide) rfl hl.1 rfl (Nat.le_of_ble_eq_true rfl) ⟨Nat.le_of_ble_eq_true rfl, Nat.le_of_ble_eq_true rfl⟩ ⟨Nat.le_refl _, Nat.le_refl _⟩ dX10_postOf_36 (fun H locs hw => ?_)
        obtain ⟨hi, hf⟩ := ck_s hf
        refine g_iald hC hw 2 rfl hi dX10_postOf_39 ?_
        refine lv_goto (tgt := 44) hx hb dX10_postOf_40 (by decide) ?_
        exact wn_X10_postOf_j44 hC hret hrc hk hf (lv_sub hl [0, 1, 2, 3, 4, 5] rfl) hw
set_option maxHeartbeats 4000000 in
set_option maxRecDepth 100000 in
theorem wn_X10_postOf {p : Program} {l : Launch} {e : Env} {s : State} {m : MethodId} {args : Array Value} {below : List Frame} {meth : Method} {c : Code} {G : gw_} {A : Nat → Prop} {Q : State → Prop} {A_t : Nat} {A_t_steps : Nat} {A_t_wet : Nat} {A_t_where : Nat} {A_t_home : Nat} {A_t_light : Nat} {A_t_carries : Nat} {A_t_sightPlace : Nat} {A_t_sightLight : Nat} {A_t_pad : Nat} {A_t_act : Nat} {A_t_whose : Nat} {A_t_whom : Nat} {A_t_tens : Nat} {A_t_had : Nat} {A_t_leaves : Nat} {A_t_apart : Nat} {A_t_stop : Nat} {A_t_restOf : Nat} {A_t_group : Nat} {A_t_along : Nat} {A_t_kept : Nat} {A_t_isKept : Nat} {c_t_foggy : Int32} {c_t_walkers : Int32} {c_t_sights : Int32} {c_t_padMany : Int32} {c_t_acts : Int32} {c_t_spent : Int32} {c_t_walks : Int32} {c_t_badAct : Int32} {c_t_badWhy : Int32} {c_t_keptAt : Int32} {c_t_isWriting : Int32} {c_t_home : Nat → Int32} {c_t_apart : Nat → Int32} {r : Int32} {x1 : Int32} {x2 : Int32} (hC : cx_ p s m c G cX10_postOf 7 RX10) (hret : ∀ (pc : Nat) (H : Heap) (locs : List Loc) (ls : Array Slot), decode cX10_postOf pc = .ok (.ireturn, 1) → wd_ G A s.heap (wl_X10_postOf G A_t A_t_steps A_t_wet A_t_where A_t_home A_t_light A_t_carries A_t_sightPlace A_t_sightLight A_t_pad A_t_act A_t_whose A_t_whom A_t_tens A_t_had A_t_leaves A_t_apart A_t_stop A_t_restOf A_t_group A_t_along A_t_kept A_t_isKept c_t_foggy c_t_walkers c_t_sights c_t_padMany c_t_acts c_t_spent c_t_walks c_t_badAct c_t_badWhy c_t_keptAt c_t_isWriting c_t_home c_t_apart) H locs → W p l e { frames := 2, cells := 0, slots := 0, locals := 46 } s m args below meth c H locs 0 0 Q (F0 m pc ls [.int r])) (hf : fn_X10_postOf c_t_walkers c_t_home c_t_apart x1 x2 = some r) {H : Heap} {locs : List Loc} {ls : Array Slot} (hl : lv_has ls 7 [(0, .ref A_t), (1, .int x1), (2, .int x2)]) (hw : wd_ G A s.heap (wl_X10_postOf G A_t A_t_steps A_t_wet A_t_where A_t_home A_t_light A_t_carries A_t_sightPlace A_t_sightLight A_t_pad A_t_act A_t_whose A_t_whom A_t_tens A_t_had A_t_leaves A_t_apart A_t_stop A_t_restOf A_t_group A_t_along A_t_kept A_t_isKept c_t_foggy c_t_walkers c_t_sights c_t_padMany c_t_acts c_t_spent c_t_walks c_t_badAct c_t_badWhy c_t_keptAt c_t_isWriting c_t_home c_t_apart) H locs) : W p l e { frames := 2, cells := 0, slots := 0, locals := 46 } s m args below meth c H locs 0 0 Q (F0 m 0 ls []) := by
  have hx := hC.1
  have hb := hC.2.1
  unfold fn_X10_postOf at hf
  refine lv_iconst (v := 0) hx hb dX10_postOf_0 (by decide) ?_
  refine lv_istore_n (lv' := [(3, .int 0), (0, .ref A_t), (1, .int x1), (2, .int x2)]) hx hb dX10_postOf_1 rfl hl (by decide) rfl (fun ls hl => ?_)
  refine lv_iconst (v := 0) hx hb dX10_postOf_2 (by decide) ?_
  refine lv_istore (lv' := [(4, .int 0), (3, .int 0), (0, .ref A_t), (1, .int x1), (2, .int x2)]) hx hb dX10_postOf_3 hl (by decide) rfl (fun ls hl => ?_)
  refine lv_iconst (v := 0) hx hb dX10_postOf_5 (by decide) ?_
  refine lv_istore (lv' := [(5, .int 0), (4, .int 0), (3, .int 0), (0, .ref A_t), (1, .int x1), (2, .int x2)]) hx hb dX10_postOf_6 hl (by decide) rfl (fun ls hl => ?_)
  refine wn_X10_postOf_l8 hC hret (fun v5 v6 H locs ls hf hl hw => ?_) fu_ 0 0 0 _ _ _ hf (lv_sub hl [3, 4, 5, 2, 1, 0] rfl) hw
  refine lv_iload_n hx hb dX10_postOf_89 rfl (lv_at hl 0 rfl) ?_
  refine lv_if_ne (tgt := 97) hx hb dX10_postOf_90 (by decide) (fun hc => ?_) (fun hc => ?_)
  · replace hf := it_f hc hf
    refine lv_iload hx hb dX10_postOf_97 (lv_at hl 2 rfl) ?_
    have h1_ := t1_ hf
    subst h1_
    exact hret _ _ _ _ dX10_postOf_99 hw
  · replace hf := it_t hc hf
    refine lv_iload_n hx hb dX10_postOf_93 rfl (lv_at hl 1 rfl) ?_
    refine lv_goto (tgt := 99) hx hb dX10_postOf_94 (by decide) ?_
    have h1_ := t1_ hf
    subst h1_
    exact hret _ _ _ _ dX10_postOf_99 hw
set_option maxHeartbeats 4000000 in
set_option maxRecDepth 100000 in
theorem cn_X10_postOf (l : Launch) (G : gw_) (A_t : Nat) (A_t_steps : Nat) (A_t_wet : Nat) (A_t_where : Nat) (A_t_home : Nat) (A_t_light : Nat) (A_t_carries : Nat) (A_t_sightPlace : Nat) (A_t_sightLight : Nat) (A_t_pad : Nat) (A_t_act : Nat) (A_t_whose : Nat) (A_t_whom : Nat) (A_t_tens : Nat) (A_t_had : Nat) (A_t_leaves : Nat) (A_t_apart : Nat) (A_t_stop : Nat) (A_t_restOf : Nat) (A_t_group : Nat) (A_t_along : Nat) (A_t_kept : Nat) (A_t_isKept : Nat) (c_t_foggy : Int32) (c_t_walkers : Int32) (c_t_sights : Int32) (c_t_padMany : Int32) (c_t_acts : Int32) (c_t_spent : Int32) (c_t_walks : Int32) (c_t_badAct : Int32) (c_t_badWhy : Int32) (c_t_keptAt : Int32) (c_t_isWriting : Int32) (c_t_home : Nat → Int32) (c_t_apart : Nat → Int32) (x1 : Int32) (x2 : Int32) (r : Int32) (hf : fn_X10_postOf c_t_walkers c_t_home c_t_apart x1 x2 = some r) : ci_ l G yX10_postOf cX10_postOf 7 (some .int) 2 46 (wl_X10_postOf G A_t A_t_steps A_t_wet A_t_where A_t_home A_t_light A_t_carries A_t_sightPlace A_t_sightLight A_t_pad A_t_act A_t_whose A_t_whom A_t_tens A_t_had A_t_leaves A_t_apart A_t_stop A_t_restOf A_t_group A_t_along A_t_kept A_t_isKept c_t_foggy c_t_walkers c_t_sights c_t_padMany c_t_acts c_t_spent c_t_walks c_t_badAct c_t_badWhy c_t_keptAt c_t_isWriting c_t_home c_t_apart) [.ref A_t, .int x1, .int x2] r (wl_X10_postOf G A_t A_t_steps A_t_wet A_t_where A_t_home A_t_light A_t_carries A_t_sightPlace A_t_sightLight A_t_pad A_t_act A_t_whose A_t_whom A_t_tens A_t_had A_t_leaves A_t_apart A_t_stop A_t_restOf A_t_group A_t_along A_t_kept A_t_isKept c_t_foggy c_t_walkers c_t_sights c_t_padMany c_t_acts c_t_spent c_t_walks c_t_badAct c_t_badWhy c_t_keptAt c_t_isWriting c_t_home c_t_apart) := fun sz => met_intro (by decide) (Nat.le_of_ble_eq_true rfl) (fun p e s m args below meth c ls hsz hC hr hlk hnm hl hw => wn_X10_postOf hC (fun pc H locs ls hd hw => g_iret hC hr hlk hw rfl rfl hd) hf hl hw)

theorem dX10_post_0 : decode cX10_post 0 = .ok (.iload_n 1, 1) := by decide +kernel
theorem dX10_post_1 : decode cX10_post 1 = .ok (.i2l, 1) := by decide +kernel
theorem dX10_post_2 : decode cX10_post 2 = .ok (.lconst 0, 1) := by decide +kernel
theorem dX10_post_3 : decode cX10_post 3 = .ok (.lconst 1, 1) := by decide +kernel
theorem dX10_post_4 : decode cX10_post 4 = .ok (.invokestatic 79, 3) := by decide +kernel
theorem dX10_post_7 : decode cX10_post 7 = .ok (.ifCond .eq 13, 3) := by decide +kernel
theorem dX10_post_10 : decode cX10_post 10 = .ok (.iload_n 2, 1) := by decide +kernel
theorem dX10_post_11 : decode cX10_post 11 = .ok (.i2l, 1) := by decide +kernel
theorem dX10_post_12 : decode cX10_post 12 = .ok (.lconst 0, 1) := by decide +kernel
theorem dX10_post_13 : decode cX10_post 13 = .ok (.lconst 1, 1) := by decide +kernel
theorem dX10_post_14 : decode cX10_post 14 = .ok (.invokestatic 79, 3) := by decide +kernel
theorem dX10_post_17 : decode cX10_post 17 = .ok (.ifCond .ne 6, 3) := by decide +kernel
theorem dX10_post_20 : decode cX10_post 20 = .ok (.bipush (-2), 2) := by decide +kernel
theorem dX10_post_22 : decode cX10_post 22 = .ok (.ireturn, 1) := by decide +kernel
theorem dX10_post_23 : decode cX10_post 23 = .ok (.aload_n 0, 1) := by decide +kernel
theorem dX10_post_24 : decode cX10_post 24 = .ok (.invokevirtual 219, 3) := by decide +kernel
theorem dX10_post_27 : decode cX10_post 27 = .ok (.iconst 0, 1) := by decide +kernel
theorem dX10_post_28 : decode cX10_post 28 = .ok (.istore_n 3, 1) := by decide +kernel
theorem dX10_post_29 : decode cX10_post 29 = .ok (.iconst 1, 1) := by decide +kernel
theorem dX10_post_30 : decode cX10_post 30 = .ok (.istore 4, 2) := by decide +kernel
theorem dX10_post_32 : decode cX10_post 32 = .ok (.iload 4, 2) := by decide +kernel
theorem dX10_post_34 : decode cX10_post 34 = .ok (.bipush 12, 2) := by decide +kernel
theorem dX10_post_36 : decode cX10_post 36 = .ok (.if_icmp .ge 32, 3) := by decide +kernel
theorem dX10_post_39 : decode cX10_post 39 = .ok (.aload_n 0, 1) := by decide +kernel
theorem dX10_post_40 : decode cX10_post 40 = .ok (.iload 4, 2) := by decide +kernel
theorem dX10_post_42 : decode cX10_post 42 = .ok (.iload_n 1, 1) := by decide +kernel
theorem dX10_post_43 : decode cX10_post 43 = .ok (.invokevirtual 251, 3) := by decide +kernel
theorem dX10_post_46 : decode cX10_post 46 = .ok (.aload_n 0, 1) := by decide +kernel
theorem dX10_post_47 : decode cX10_post 47 = .ok (.iload_n 3, 1) := by decide +kernel
theorem dX10_post_48 : decode cX10_post 48 = .ok (.iload_n 1, 1) := by decide +kernel
theorem dX10_post_49 : decode cX10_post 49 = .ok (.invokevirtual 251, 3) := by decide +kernel
theorem dX10_post_52 : decode cX10_post 52 = .ok (.if_icmp .ge 8, 3) := by decide +kernel
theorem dX10_post_55 : decode cX10_post 55 = .ok (.iload 4, 2) := by decide +kernel
theorem dX10_post_57 : decode cX10_post 57 = .ok (.goto 4, 3) := by decide +kernel
theorem dX10_post_60 : decode cX10_post 60 = .ok (.iload_n 3, 1) := by decide +kernel
theorem dX10_post_61 : decode cX10_post 61 = .ok (.istore_n 3, 1) := by decide +kernel
theorem dX10_post_62 : decode cX10_post 62 = .ok (.iinc 4 1, 3) := by decide +kernel
theorem dX10_post_65 : decode cX10_post 65 = .ok (.goto (-33), 3) := by decide +kernel
theorem dX10_post_68 : decode cX10_post 68 = .ok (.aload_n 0, 1) := by decide +kernel
theorem dX10_post_69 : decode cX10_post 69 = .ok (.iload_n 3, 1) := by decide +kernel
theorem dX10_post_70 : decode cX10_post 70 = .ok (.iload_n 1, 1) := by decide +kernel
theorem dX10_post_71 : decode cX10_post 71 = .ok (.invokevirtual 251, 3) := by decide +kernel
theorem dX10_post_74 : decode cX10_post 74 = .ok (.istore 4, 2) := by decide +kernel
theorem dX10_post_76 : decode cX10_post 76 = .ok (.aload_n 0, 1) := by decide +kernel
theorem dX10_post_77 : decode cX10_post 77 = .ok (.getfield 85, 3) := by decide +kernel
theorem dX10_post_80 : decode cX10_post 80 = .ok (.ifCond .eq 10, 3) := by decide +kernel
theorem dX10_post_83 : decode cX10_post 83 = .ok (.iload 4, 2) := by decide +kernel
theorem dX10_post_85 : decode cX10_post 85 = .ok (.ldc 214, 2) := by decide +kernel
theorem dX10_post_87 : decode cX10_post 87 = .ok (.if_icmp .lt 8, 3) := by decide +kernel
theorem dX10_post_90 : decode cX10_post 90 = .ok (.bipush (-6), 2) := by decide +kernel
theorem dX10_post_92 : decode cX10_post 92 = .ok (.goto 13, 3) := by decide +kernel
theorem dX10_post_95 : decode cX10_post 95 = .ok (.iload_n 2, 1) := by decide +kernel
theorem dX10_post_96 : decode cX10_post 96 = .ok (.ifCond .ne 7, 3) := by decide +kernel
theorem dX10_post_99 : decode cX10_post 99 = .ok (.iload_n 3, 1) := by decide +kernel
theorem dX10_post_100 : decode cX10_post 100 = .ok (.goto 5, 3) := by decide +kernel
theorem dX10_post_103 : decode cX10_post 103 = .ok (.iload 4, 2) := by decide +kernel
theorem dX10_post_105 : decode cX10_post 105 = .ok (.ireturn, 1) := by decide +kernel
abbrev wl_X10_post (G : gw_) (A_t : Nat) (A_t_steps : Nat) (A_t_wet : Nat) (A_t_where : Nat) (A_t_home : Nat) (A_t_light : Nat) (A_t_carries : Nat) (A_t_sightPlace : Nat) (A_t_sightLight : Nat) (A_t_pad : Nat) (A_t_act : Nat) (A_t_whose : Nat) (A_t_whom : Nat) (A_t_tens : Nat) (A_t_had : Nat) (A_t_leaves : Nat) (A_t_apart : Nat) (A_t_stop : Nat) (A_t_restOf : Nat) (A_t_group : Nat) (A_t_along : Nat) (A_t_kept : Nat) (A_t_isKept : Nat) (c_t_foggy : Int32) (c_t_walkers : Int32) (c_t_sights : Int32) (c_t_padMany : Int32) (c_t_acts : Int32) (c_t_spent : Int32) (c_t_walks : Int32) (c_t_badAct : Int32) (c_t_badWhy : Int32) (c_t_keptAt : Int32) (c_t_isWriting : Int32) (c_t_steps : Nat → Int32) (c_t_wet : Nat → Int32) (c_t_home : Nat → Int32) (c_t_apart : Nat → Int32) : va_W := [ob_ A_t 10 [.ref A_t_steps, .ref A_t_wet, .int c_t_foggy, .int c_t_walkers, .ref A_t_where, .ref A_t_home, .ref A_t_light, .ref A_t_carries, .ref A_t_sightPlace, .ref A_t_sightLight, .int c_t_sights, .ref A_t_pad, .int c_t_padMany, .ref A_t_act, .ref A_t_whose, .ref A_t_whom, .ref A_t_tens, .int c_t_acts, .int c_t_spent, .int c_t_walks, .ref A_t_had, .ref A_t_leaves, .int c_t_badAct, .int c_t_badWhy, .ref A_t_apart, .ref A_t_stop, .ref A_t_restOf, .ref A_t_group, .ref A_t_along, .ref A_t_kept, .ref A_t_isKept, .int c_t_keptAt, .int c_t_isWriting], ia_ G A_t_steps 144 c_t_steps, ia_ G A_t_wet 144 c_t_wet, ia_ G A_t_home 6 c_t_home, ia_ G A_t_apart 144 c_t_apart]
def fn_X10_post_b32 (c_t_walkers : Int32) (c_t_home : Nat → Int32) (c_t_apart : Nat → Int32) (x1 : Int32) (rc : Int32 → Int32 → Option (Int32 × (Nat → Int32))) (k : Int32 → Option (Int32 × (Nat → Int32))) (x3 : Int32) (x4 : Int32) : Option (Int32 × (Nat → Int32)) :=
  if 12 ≤ x4 then
    k x3
  else
    b1_ (fn_X10_postOf c_t_walkers c_t_home c_t_apart x4 x1) fun r7 =>
    b1_ (fn_X10_postOf c_t_walkers c_t_home c_t_apart x3 x1) fun r9 =>
    if r9 ≤ r7 then
      rc x3 (x4 + 1)
    else
      rc x4 (x4 + 1)
def fn_X10_post_l32 (c_t_walkers : Int32) (c_t_home : Nat → Int32) (c_t_apart : Nat → Int32) (x1 : Int32) (k : Int32 → Option (Int32 × (Nat → Int32))) : Nat → Int32 → Int32 → Option (Int32 × (Nat → Int32))
  | 0 => fun _ _ => none
  | n + 1 => fun x3 x4 => fn_X10_post_b32 c_t_walkers c_t_home c_t_apart x1 (fn_X10_post_l32 c_t_walkers c_t_home c_t_apart x1 k n) k x3 x4
def fn_X10_post (c_t_foggy : Int32) (c_t_walkers : Int32) (c_t_steps : Nat → Int32) (c_t_wet : Nat → Int32) (c_t_home : Nat → Int32) (c_t_apart : Nat → Int32) (x1 : Int32) (x2 : Int32) : Option (Int32 × (Nat → Int32)) :=
  b1_ (fn_X10_in (Int32.toInt64 x1) 0 1) fun r1 =>
  if r1 = 0 then
    some ((-2), c_t_apart)
  else
    b1_ (fn_X10_in (Int32.toInt64 x2) 0 1) fun r3 =>
    if r3 = 0 then
      some ((-2), c_t_apart)
    else
      b1_ (fn_X10_findWays c_t_foggy c_t_steps c_t_wet c_t_apart) fun w5 =>
      fn_X10_post_l32 c_t_walkers c_t_home w5 x1 (fun v11 =>
        b1_ (fn_X10_postOf c_t_walkers c_t_home w5 v11 x1) fun r12 =>
        if c_t_walkers = 0 then
          some ((-6), w5)
        else
          if r12 < 1000000 then
            if x2 = 0 then
              some (v11, w5)
            else
              some (r12, w5)
          else
            some ((-6), w5)) fu_ 0 1
set_option maxHeartbeats 4000000 in
set_option maxRecDepth 100000 in
theorem wn_X10_post_l32 {p : Program} {l : Launch} {e : Env} {s : State} {m : MethodId} {args : Array Value} {below : List Frame} {meth : Method} {c : Code} {G : gw_} {A : Nat → Prop} {Q : State → Prop} {A_t : Nat} {A_t_steps : Nat} {A_t_wet : Nat} {A_t_where : Nat} {A_t_home : Nat} {A_t_light : Nat} {A_t_carries : Nat} {A_t_sightPlace : Nat} {A_t_sightLight : Nat} {A_t_pad : Nat} {A_t_act : Nat} {A_t_whose : Nat} {A_t_whom : Nat} {A_t_tens : Nat} {A_t_had : Nat} {A_t_leaves : Nat} {A_t_apart : Nat} {A_t_stop : Nat} {A_t_restOf : Nat} {A_t_group : Nat} {A_t_along : Nat} {A_t_kept : Nat} {A_t_isKept : Nat} {c_t_foggy : Int32} {c_t_walkers : Int32} {c_t_sights : Int32} {c_t_padMany : Int32} {c_t_acts : Int32} {c_t_spent : Int32} {c_t_walks : Int32} {c_t_badAct : Int32} {c_t_badWhy : Int32} {c_t_keptAt : Int32} {c_t_isWriting : Int32} {c_t_steps : Nat → Int32} {c_t_wet : Nat → Int32} {c_t_home : Nat → Int32} {c_t_apart : Nat → Int32} {z_t_apart : Nat → Int32} {r : Int32} {x1 : Int32} {x2 : Int32} {k : Int32 → Option (Int32 × (Nat → Int32))} (hC : cx_ p s m c G cX10_post 5 RX10) (hret : ∀ (pc : Nat) (H : Heap) (locs : List Loc) (ls : Array Slot), decode cX10_post pc = .ok (.ireturn, 1) → wd_ G A s.heap (wl_X10_post G A_t A_t_steps A_t_wet A_t_where A_t_home A_t_light A_t_carries A_t_sightPlace A_t_sightLight A_t_pad A_t_act A_t_whose A_t_whom A_t_tens A_t_had A_t_leaves A_t_apart A_t_stop A_t_restOf A_t_group A_t_along A_t_kept A_t_isKept c_t_foggy c_t_walkers c_t_sights c_t_padMany c_t_acts c_t_spent c_t_walks c_t_badAct c_t_badWhy c_t_keptAt c_t_isWriting c_t_steps c_t_wet c_t_home z_t_apart) H locs → W p l e { frames := 4, cells := 0, slots := 0, locals := 91 } s m args below meth c H locs 0 0 Q (F0 m pc ls [.int r])) (hk : ∀ (x3 : Int32) (H : Heap) (locs : List Loc) (ls : Array Slot), k x3 = some (r, z_t_apart) → lv_has ls 5 [(0, .ref A_t), (1, .int x1), (2, .int x2), (3, .int x3)] → wd_ G A s.heap (wl_X10_post G A_t A_t_steps A_t_wet A_t_where A_t_home A_t_light A_t_carries A_t_sightPlace A_t_sightLight A_t_pad A_t_act A_t_whose A_t_whom A_t_tens A_t_had A_t_leaves A_t_apart A_t_stop A_t_restOf A_t_group A_t_along A_t_kept A_t_isKept c_t_foggy c_t_walkers c_t_sights c_t_padMany c_t_acts c_t_spent c_t_walks c_t_badAct c_t_badWhy c_t_keptAt c_t_isWriting c_t_steps c_t_wet c_t_home c_t_apart) H locs → W p l e { frames := 4, cells := 0, slots := 0, locals := 91 } s m args below meth c H locs 0 0 Q (F0 m 68 ls [])) : ∀ (n : Nat) (x3 : Int32) (x4 : Int32) (H : Heap) (locs : List Loc) (ls : Array Slot), fn_X10_post_l32 c_t_walkers c_t_home c_t_apart x1 k n x3 x4 = some (r, z_t_apart) → lv_has ls 5 [(0, .ref A_t), (1, .int x1), (2, .int x2), (3, .int x3), (4, .int x4)] → wd_ G A s.heap (wl_X10_post G A_t A_t_steps A_t_wet A_t_where A_t_home A_t_light A_t_carries A_t_sightPlace A_t_sightLight A_t_pad A_t_act A_t_whose A_t_whom A_t_tens A_t_had A_t_leaves A_t_apart A_t_stop A_t_restOf A_t_group A_t_along A_t_kept A_t_isKept c_t_foggy c_t_walkers c_t_sights c_t_padMany c_t_acts c_t_spent c_t_walks c_t_badAct c_t_badWhy c_t_keptAt c_t_isWriting c_t_steps c_t_wet c_t_home c_t_apart) H locs → W p l e { frames := 4, cells := 0, slots := 0, locals := 91 } s m args below meth c H locs 0 0 Q (F0 m 32 ls []) := by
  have hx := hC.1
  have hb := hC.2.1
  intro n
  induction n with
  | zero =>
    intro x3 x4 H locs ls hf
    cases (show (none : Option (Int32 × (Nat → Int32))) = some _ from hf)
  | succ n hrc =>
    intro x3 x4 H locs ls hf hl hw
    replace hf : fn_X10_post_b32 c_t_walkers c_t_home c_t_apart x1 (fn_X10_post_l32 c_t_walkers c_t_home c_t_apart x1 k n) k x3 x4 = some (r, z_t_apart) := hf
    unfold fn_X10_post_b32 at hf
    refine lv_iload hx hb dX10_post_32 (lv_at hl 4 rfl) ?_
    refine lv_bipush (v := 12) hx hb dX10_post_34 (by decide) ?_
    refine lv_icmp_ge (tgt := 68) hx hb dX10_post_36 (by decide) (fun hc => ?_) (fun hc => ?_)
    · replace hf := it_t hc hf
      exact hk x3 _ _ _ hf (lv_sub hl [0, 1, 2, 3] rfl) hw
    · replace hf := it_f hc hf
      refine lv_aload_n hx hb dX10_post_39 rfl (lv_at hl 0 rfl) ?_
      refine lv_iload hx hb dX10_post_40 (lv_at hl 4 rfl) ?_
      refine lv_iload_n hx hb dX10_post_42 rfl (lv_at hl 1 rfl) ?_
      obtain ⟨r7, hq8, hf⟩ := b1_s hf
      refine h_cVi hC hw mvX10_251 (cn_X10_postOf l G A_t A_t_steps A_t_wet A_t_where A_t_home A_t_light A_t_carries A_t_sightPlace A_t_sightLight A_t_pad A_t_act A_t_whose A_t_whom A_t_tens A_t_had A_t_leaves A_t_apart A_t_stop A_t_restOf A_t_group A_t_along A_t_kept A_t_isKept c_t_foggy c_t_walkers c_t_sights c_t_padMany c_t_acts c_t_spent c_t_walks c_t_badAct c_t_badWhy c_t_keptAt c_t_isWriting c_t_home c_t_apart x4 x1 r7 hq8) [0, 3, 4] rfl (by decide) 0 rfl rfl rfl hl.1 rfl (Nat.le_of_ble_eq_true rfl) ⟨Nat.le_of_ble_eq_true rfl, Nat.le_of_ble_eq_true rfl⟩ ⟨Nat.le_refl _, Nat.le_refl _⟩ dX10_post_43 (fun H locs hw => ?_)
      refine lv_aload_n hx hb dX10_post_46 rfl (lv_at hl 0 rfl) ?_
      refine lv_iload_n hx hb dX10_post_47 rfl (lv_at hl 3 rfl) ?_
      refine lv_iload_n hx hb dX10_post_48 rfl (lv_at hl 1 rfl) ?_
      obtain ⟨r9, hq10, hf⟩ := b1_s hf
      refine h_cVi hC hw mvX10_251 (cn_X10_postOf l G A_t A_t_steps A_t_wet A_t_where A_t_home A_t_light A_t_carries A_t_sightPlace A_t_sightLight A_t_pad A_t_act A_t_whose A_t_whom A_t_tens A_t_had A_t_leaves A_t_apart A_t_stop A_t_restOf A_t_group A_t_along A_t_kept A_t_isKept c_t_foggy c_t_walkers c_t_sights c_t_padMany c_t_acts c_t_spent c_t_walks c_t_badAct c_t_badWhy c_t_keptAt c_t_isWriting c_t_home c_t_apart x3 x1 r9 hq10) [0, 3, 4] rfl (by decide) 0 rfl rfl rfl hl.1 rfl (Nat.le_of_ble_eq_true rfl) ⟨Nat.le_of_ble_eq_true rfl, Nat.le_of_ble_eq_true rfl⟩ ⟨Nat.le_refl _, Nat.le_refl _⟩ dX10_post_49 (fun H locs hw => ?_)
      refine lv_icmp_ge (tgt := 60) hx hb dX10_post_52 (by decide) (fun hc => ?_) (fun hc => ?_)
      · replace hf := it_t hc hf
        refine lv_iload_n hx hb dX10_post_60 rfl (lv_at hl 3 rfl) ?_
        refine lv_istore_n (lv' := [(3, .int x3), (0, .ref A_t), (1, .int x1), (2, .int x2), (4, .int x4)]) hx hb dX10_post_61 rfl hl (by decide) rfl (fun ls hl => ?_)
        refine lv_iinc (v := x4 + 1) (lv' := [(4, .int (x4 + 1)), (3, .int x3), (0, .ref A_t), (1, .int x1), (2, .int x2)]) hx hb dX10_post_62 hl (k := 4) rfl rfl (by decide) rfl (fun ls hl => ?_)
        refine lv_goto (tgt := 32) hx hb dX10_post_65 (by decide) ?_
        exact hrc x3 (x4 + 1) _ _ _ hf (lv_sub hl [2, 3, 4, 1, 0] rfl) hw
      · replace hf := it_f hc hf
        refine lv_iload hx hb dX10_post_55 (lv_at hl 4 rfl) ?_
        refine lv_goto (tgt := 61) hx hb dX10_post_57 (by decide) ?_
        refine lv_istore_n (lv' := [(3, .int x4), (0, .ref A_t), (1, .int x1), (2, .int x2), (4, .int x4)]) hx hb dX10_post_61 rfl hl (by decide) rfl (fun ls hl => ?_)
        refine lv_iinc (v := x4 + 1) (lv' := [(4, .int (x4 + 1)), (3, .int x4), (0, .ref A_t), (1, .int x1), (2, .int x2)]) hx hb dX10_post_62 hl (k := 4) rfl rfl (by decide) rfl (fun ls hl => ?_)
        refine lv_goto (tgt := 32) hx hb dX10_post_65 (by decide) ?_
        exact hrc x4 (x4 + 1) _ _ _ hf (lv_sub hl [2, 3, 4, 1, 0] rfl) hw
set_option maxHeartbeats 4000000 in
set_option maxRecDepth 100000 in
theorem wn_X10_post {p : Program} {l : Launch} {e : Env} {s : State} {m : MethodId} {args : Array Value} {below : List Frame} {meth : Method} {c : Code} {G : gw_} {A : Nat → Prop} {Q : State → Prop} {A_t : Nat} {A_t_steps : Nat} {A_t_wet : Nat} {A_t_where : Nat} {A_t_home : Nat} {A_t_light : Nat} {A_t_carries : Nat} {A_t_sightPlace : Nat} {A_t_sightLight : Nat} {A_t_pad : Nat} {A_t_act : Nat} {A_t_whose : Nat} {A_t_whom : Nat} {A_t_tens : Nat} {A_t_had : Nat} {A_t_leaves : Nat} {A_t_apart : Nat} {A_t_stop : Nat} {A_t_restOf : Nat} {A_t_group : Nat} {A_t_along : Nat} {A_t_kept : Nat} {A_t_isKept : Nat} {c_t_foggy : Int32} {c_t_walkers : Int32} {c_t_sights : Int32} {c_t_padMany : Int32} {c_t_acts : Int32} {c_t_spent : Int32} {c_t_walks : Int32} {c_t_badAct : Int32} {c_t_badWhy : Int32} {c_t_keptAt : Int32} {c_t_isWriting : Int32} {c_t_steps : Nat → Int32} {c_t_wet : Nat → Int32} {c_t_home : Nat → Int32} {c_t_apart : Nat → Int32} {z_t_apart : Nat → Int32} {r : Int32} {x1 : Int32} {x2 : Int32} (hC : cx_ p s m c G cX10_post 5 RX10) (hret : ∀ (pc : Nat) (H : Heap) (locs : List Loc) (ls : Array Slot), decode cX10_post pc = .ok (.ireturn, 1) → wd_ G A s.heap (wl_X10_post G A_t A_t_steps A_t_wet A_t_where A_t_home A_t_light A_t_carries A_t_sightPlace A_t_sightLight A_t_pad A_t_act A_t_whose A_t_whom A_t_tens A_t_had A_t_leaves A_t_apart A_t_stop A_t_restOf A_t_group A_t_along A_t_kept A_t_isKept c_t_foggy c_t_walkers c_t_sights c_t_padMany c_t_acts c_t_spent c_t_walks c_t_badAct c_t_badWhy c_t_keptAt c_t_isWriting c_t_steps c_t_wet c_t_home z_t_apart) H locs → W p l e { frames := 4, cells := 0, slots := 0, locals := 91 } s m args below meth c H locs 0 0 Q (F0 m pc ls [.int r])) (hf : fn_X10_post c_t_foggy c_t_walkers c_t_steps c_t_wet c_t_home c_t_apart x1 x2 = some (r, z_t_apart)) {H : Heap} {locs : List Loc} {ls : Array Slot} (hl : lv_has ls 5 [(0, .ref A_t), (1, .int x1), (2, .int x2)]) (hw : wd_ G A s.heap (wl_X10_post G A_t A_t_steps A_t_wet A_t_where A_t_home A_t_light A_t_carries A_t_sightPlace A_t_sightLight A_t_pad A_t_act A_t_whose A_t_whom A_t_tens A_t_had A_t_leaves A_t_apart A_t_stop A_t_restOf A_t_group A_t_along A_t_kept A_t_isKept c_t_foggy c_t_walkers c_t_sights c_t_padMany c_t_acts c_t_spent c_t_walks c_t_badAct c_t_badWhy c_t_keptAt c_t_isWriting c_t_steps c_t_wet c_t_home c_t_apart) H locs) : W p l e { frames := 4, cells := 0, slots := 0, locals := 91 } s m args below meth c H locs 0 0 Q (F0 m 0 ls []) := by
  have hx := hC.1
  have hb := hC.2.1
  unfold fn_X10_post at hf
  refine lv_iload_n hx hb dX10_post_0 rfl (lv_at hl 1 rfl) ?_
  refine lv_i2l hx hb dX10_post_1 rfl ?_
  refine lv_lconst (v := 0) hx hb dX10_post_2 (by decide) ?_
  refine lv_lconst (v := 1) hx hb dX10_post_3 (by decide) ?_
  obtain ⟨r1, hq2, hf⟩ := b1_s hf
  refine h_cSi hC hw msX10_79 (cn_X10_in l G (Int32.toInt64 x1) 0 1 r1 hq2) [] rfl (by decide) rfl hl.1 rfl (Nat.le_of_ble_eq_true rfl) ⟨Nat.le_of_ble_eq_true rfl, Nat.le_of_ble_eq_true rfl⟩ ⟨Nat.le_refl _, Nat.le_refl _⟩ dX10_post_4 (fun H locs hw => ?_)
  refine lv_if_eq (tgt := 20) hx hb dX10_post_7 (by decide) (fun hc => ?_) (fun hc => ?_)
  · replace hf := it_t hc hf
    refine lv_bipush (v := (-2)) hx hb dX10_post_20 (by decide) ?_
    obtain ⟨h1_, h2_⟩ := t2_ hf
    subst h1_
    subst h2_
    exact hret _ _ _ _ dX10_post_22 hw
  · replace hf := it_f hc hf
    refine lv_iload_n hx hb dX10_post_10 rfl (lv_at hl 2 rfl) ?_
    refine lv_i2l hx hb dX10_post_11 rfl ?_
    refine lv_lconst (v := 0) hx hb dX10_post_12 (by decide) ?_
    refine lv_lconst (v := 1) hx hb dX10_post_13 (by decide) ?_
    obtain ⟨r3, hq4, hf⟩ := b1_s hf
    refine h_cSi hC hw msX10_79 (cn_X10_in l G (Int32.toInt64 x2) 0 1 r3 hq4) [] rfl (by decide) rfl hl.1 rfl (Nat.le_of_ble_eq_true rfl) ⟨Nat.le_of_ble_eq_true rfl, Nat.le_of_ble_eq_true rfl⟩ ⟨Nat.le_refl _, Nat.le_refl _⟩ dX10_post_14 (fun H locs hw => ?_)
    refine lv_if_ne (tgt := 23) hx hb dX10_post_17 (by decide) (fun hc => ?_) (fun hc => ?_)
    · replace hf := it_f hc hf
      refine lv_aload_n hx hb dX10_post_23 rfl (lv_at hl 0 rfl) ?_
      obtain ⟨w5, hq6, hf⟩ := b1_s hf
      refine g_cVv hC hw mvX10_219 (cn_X10_findWays l G A_t A_t_steps A_t_wet A_t_where A_t_home A_t_light A_t_carries A_t_sightPlace A_t_sightLight A_t_pad A_t_act A_t_whose A_t_whom A_t_tens A_t_had A_t_leaves A_t_apart A_t_stop A_t_restOf A_t_group A_t_along A_t_kept A_t_isKept c_t_foggy c_t_walkers c_t_sights c_t_padMany c_t_acts c_t_spent c_t_walks c_t_badAct c_t_badWhy c_t_keptAt c_t_isWriting c_t_steps c_t_wet c_t_apart w5 hq6) [0, 1, 2, 4] rfl (by decide) rfl 0 rfl rfl rfl hl.1 rfl (Nat.le_of_ble_eq_true rfl) ⟨Nat.le_of_ble_eq_true rfl, Nat.le_of_ble_eq_true rfl⟩ ⟨Nat.le_refl _, Nat.le_refl _⟩ dX10_post_24 (fun H locs hw => ?_)
      have hw : wd_ G A s.heap (wl_X10_post G A_t A_t_steps A_t_wet A_t_where A_t_home A_t_light A_t_carries A_t_sightPlace A_t_sightLight A_t_pad A_t_act A_t_whose A_t_whom A_t_tens A_t_had A_t_leaves A_t_apart A_t_stop A_t_restOf A_t_group A_t_along A_t_kept A_t_isKept c_t_foggy c_t_walkers c_t_sights c_t_padMany c_t_acts c_t_spent c_t_walks c_t_badAct c_t_badWhy c_t_keptAt c_t_isWriting c_t_steps c_t_wet c_t_home w5) H locs := hw
      refine lv_iconst (v := 0) hx hb dX10_post_27 (by decide) ?_
      refine lv_istore_n (lv' := [(3, .int 0), (0, .ref A_t), (1, .int x1), (2, .int x2)]) hx hb dX10_post_28 rfl hl (by decide) rfl (fun ls hl => ?_)
      refine lv_iconst (v := 1) hx hb dX10_post_29 (by decide) ?_
      refine lv_istore (lv' := [(4, .int 1), (3, .int 0), (0, .ref A_t), (1, .int x1), (2, .int x2)]) hx hb dX10_post_30 hl (by decide) rfl (fun ls hl => ?_)
      refine wn_X10_post_l32 hC hret (fun v11 H locs ls hf hl hw => ?_) fu_ 0 1 _ _ _ hf (lv_sub hl [2, 3, 4, 1, 0] rfl) hw
      refine lv_aload_n hx hb dX10_post_68 rfl (lv_at hl 0 rfl) ?_
      refine lv_iload_n hx hb dX10_post_69 rfl (lv_at hl 3 rfl) ?_
      refine lv_iload_n hx hb dX10_post_70 rfl (lv_at hl 1 rfl) ?_
      obtain ⟨r12, hq13, hf⟩ := b1_s hf
      refine h_cVi hC hw mvX10_251 (cn_X10_postOf l G A_t A_t_steps A_t_wet A_t_where A_t_home A_t_light A_t_carries A_t_sightPlace A_t_sightLight A_t_pad A_t_act A_t_whose A_t_whom A_t_tens A_t_had A_t_leaves A_t_apart A_t_stop A_t_restOf A_t_group A_t_along A_t_kept A_t_isKept c_t_foggy c_t_walkers c_t_sights c_t_padMany c_t_acts c_t_spent c_t_walks c_t_badAct c_t_badWhy c_t_keptAt c_t_isWriting c_t_home w5 v11 x1 r12 hq13) [0, 3, 4] rfl (by decide) 0 rfl rfl rfl hl.1 rfl (Nat.le_of_ble_eq_true rfl) ⟨Nat.le_of_ble_eq_true rfl, Nat.le_of_ble_eq_true rfl⟩ ⟨Nat.le_refl _, Nat.le_refl _⟩ dX10_post_71 (fun H locs hw => ?_)
      refine lv_istore (lv' := [(4, .int r12), (0, .ref A_t), (1, .int x1), (2, .int x2), (3, .int v11)]) hx hb dX10_post_74 hl (by decide) rfl (fun ls hl => ?_)
      refine lv_aload_n hx hb dX10_post_76 rfl (lv_at hl 1 rfl) ?_
      refine g_get hC hw fkX10_85 0 rfl rfl dX10_post_77 ?_
      refine lv_if_eq (tgt := 90) hx hb dX10_post_80 (by decide) (fun hc => ?_) (fun hc => ?_)
      · replace hf := it_t hc hf
        refine lv_bipush (v := (-6)) hx hb dX10_post_90 (by decide) ?_
        refine lv_goto (tgt := 105) hx hb dX10_post_92 (by decide) ?_
        obtain ⟨h1_, h2_⟩ := t2_ hf
        subst h1_
        subst h2_
        exact hret _ _ _ _ dX10_post_105 hw
      · replace hf := it_f hc hf
        refine lv_iload hx hb dX10_post_83 (lv_at hl 0 rfl) ?_
        refine g_ldc (v := 1000000) hC (tb5 17 rfl rfl) dX10_post_85 ?_
        refine lv_icmp_lt (tgt := 95) hx hb dX10_post_87 (by decide) (fun hc => ?_) (fun hc => ?_)
        · replace hf := it_t hc hf
          refine lv_iload_n hx hb dX10_post_95 rfl (lv_at hl 3 rfl) ?_
          refine lv_if_ne (tgt := 103) hx hb dX10_post_96 (by decide) (fun hc => ?_) (fun hc => ?_)
          · replace hf := it_f hc hf
            refine lv_iload hx hb dX10_post_103 (lv_at hl 0 rfl) ?_
            obtain ⟨h1_, h2_⟩ := t2_ hf
            subst h1_
            subst h2_
            exact hret _ _ _ _ dX10_post_105 hw
          · replace hf := it_t hc hf
            refine lv_iload_n hx hb dX10_post_99 rfl (lv_at hl 4 rfl) ?_
            refine lv_goto (tgt := 105) hx hb dX10_post_100 (by decide) ?_
            obtain ⟨h1_, h2_⟩ := t2_ hf
            subst h1_
            subst h2_
            exact hret _ _ _ _ dX10_post_105 hw
        · replace hf := it_f hc hf
          refine lv_bipush (v := (-6)) hx hb dX10_post_90 (by decide) ?_
          refine lv_goto (tgt := 105) hx hb dX10_post_92 (by decide) ?_
          obtain ⟨h1_, h2_⟩ := t2_ hf
          subst h1_
          subst h2_
          exact hret _ _ _ _ dX10_post_105 hw
    · replace hf := it_t hc hf
      refine lv_bipush (v := (-2)) hx hb dX10_post_20 (by decide) ?_
      obtain ⟨h1_, h2_⟩ := t2_ hf
      subst h1_
      subst h2_
      exact hret _ _ _ _ dX10_post_22 hw
set_option maxHeartbeats 4000000 in
set_option maxRecDepth 100000 in
theorem cn_X10_post (l : Launch) (G : gw_) (A_t : Nat) (A_t_steps : Nat) (A_t_wet : Nat) (A_t_where : Nat) (A_t_home : Nat) (A_t_light : Nat) (A_t_carries : Nat) (A_t_sightPlace : Nat) (A_t_sightLight : Nat) (A_t_pad : Nat) (A_t_act : Nat) (A_t_whose : Nat) (A_t_whom : Nat) (A_t_tens : Nat) (A_t_had : Nat) (A_t_leaves : Nat) (A_t_apart : Nat) (A_t_stop : Nat) (A_t_restOf : Nat) (A_t_group : Nat) (A_t_along : Nat) (A_t_kept : Nat) (A_t_isKept : Nat) (c_t_foggy : Int32) (c_t_walkers : Int32) (c_t_sights : Int32) (c_t_padMany : Int32) (c_t_acts : Int32) (c_t_spent : Int32) (c_t_walks : Int32) (c_t_badAct : Int32) (c_t_badWhy : Int32) (c_t_keptAt : Int32) (c_t_isWriting : Int32) (c_t_steps : Nat → Int32) (c_t_wet : Nat → Int32) (c_t_home : Nat → Int32) (c_t_apart : Nat → Int32) (x1 : Int32) (x2 : Int32) (r : Int32) (z_t_apart : Nat → Int32) (hf : fn_X10_post c_t_foggy c_t_walkers c_t_steps c_t_wet c_t_home c_t_apart x1 x2 = some (r, z_t_apart)) : ci_ l G yX10_post cX10_post 5 (some .int) 4 91 (wl_X10_post G A_t A_t_steps A_t_wet A_t_where A_t_home A_t_light A_t_carries A_t_sightPlace A_t_sightLight A_t_pad A_t_act A_t_whose A_t_whom A_t_tens A_t_had A_t_leaves A_t_apart A_t_stop A_t_restOf A_t_group A_t_along A_t_kept A_t_isKept c_t_foggy c_t_walkers c_t_sights c_t_padMany c_t_acts c_t_spent c_t_walks c_t_badAct c_t_badWhy c_t_keptAt c_t_isWriting c_t_steps c_t_wet c_t_home c_t_apart) [.ref A_t, .int x1, .int x2] r (wl_X10_post G A_t A_t_steps A_t_wet A_t_where A_t_home A_t_light A_t_carries A_t_sightPlace A_t_sightLight A_t_pad A_t_act A_t_whose A_t_whom A_t_tens A_t_had A_t_leaves A_t_apart A_t_stop A_t_restOf A_t_group A_t_along A_t_kept A_t_isKept c_t_foggy c_t_walkers c_t_sights c_t_padMany c_t_acts c_t_spent c_t_walks c_t_badAct c_t_badWhy c_t_keptAt c_t_isWriting c_t_steps c_t_wet c_t_home z_t_apart) := fun sz => met_intro (by decide) (Nat.le_of_ble_eq_true rfl) (fun p e s m args below meth c ls hsz hC hr hlk hnm hl hw => wn_X10_post hC (fun pc H locs ls hd hw => g_iret hC hr hlk hw rfl rfl hd) hf hl hw)

theorem dX10_by_0 : decode cX10_by 0 = .ok (.iload_n 1, 1) := by decide +kernel
theorem dX10_by_1 : decode cX10_by 1 = .ok (.invokestatic 100, 3) := by decide +kernel
theorem dX10_by_4 : decode cX10_by 4 = .ok (.ifCond .ne 5, 3) := by decide +kernel
theorem dX10_by_7 : decode cX10_by 7 = .ok (.iconst (-1), 1) := by decide +kernel
theorem dX10_by_8 : decode cX10_by 8 = .ok (.ireturn, 1) := by decide +kernel
theorem dX10_by_9 : decode cX10_by 9 = .ok (.aload_n 0, 1) := by decide +kernel
theorem dX10_by_10 : decode cX10_by 10 = .ok (.invokevirtual 219, 3) := by decide +kernel
theorem dX10_by_13 : decode cX10_by 13 = .ok (.iconst 0, 1) := by decide +kernel
theorem dX10_by_14 : decode cX10_by 14 = .ok (.istore_n 2, 1) := by decide +kernel
theorem dX10_by_15 : decode cX10_by 15 = .ok (.iconst 0, 1) := by decide +kernel
theorem dX10_by_16 : decode cX10_by 16 = .ok (.istore_n 3, 1) := by decide +kernel
theorem dX10_by_17 : decode cX10_by 17 = .ok (.iload_n 3, 1) := by decide +kernel
theorem dX10_by_18 : decode cX10_by 18 = .ok (.sipush 144, 3) := by decide +kernel
theorem dX10_by_21 : decode cX10_by 21 = .ok (.if_icmp .ge 103, 3) := by decide +kernel
theorem dX10_by_24 : decode cX10_by 24 = .ok (.iload_n 3, 1) := by decide +kernel
theorem dX10_by_25 : decode cX10_by 25 = .ok (.bipush 12, 2) := by decide +kernel
theorem dX10_by_27 : decode cX10_by 27 = .ok (.idiv, 1) := by decide +kernel
theorem dX10_by_28 : decode cX10_by 28 = .ok (.istore 4, 2) := by decide +kernel
theorem dX10_by_30 : decode cX10_by 30 = .ok (.iload_n 3, 1) := by decide +kernel
theorem dX10_by_31 : decode cX10_by 31 = .ok (.bipush 12, 2) := by decide +kernel
theorem dX10_by_33 : decode cX10_by 33 = .ok (.irem, 1) := by decide +kernel
theorem dX10_by_34 : decode cX10_by 34 = .ok (.istore 5, 2) := by decide +kernel
theorem dX10_by_36 : decode cX10_by 36 = .ok (.iload 4, 2) := by decide +kernel
theorem dX10_by_38 : decode cX10_by 38 = .ok (.iload 5, 2) := by decide +kernel
theorem dX10_by_40 : decode cX10_by 40 = .ok (.if_icmp .eq 30, 3) := by decide +kernel
theorem dX10_by_43 : decode cX10_by 43 = .ok (.iload 4, 2) := by decide +kernel
theorem dX10_by_45 : decode cX10_by 45 = .ok (.iload_n 1, 1) := by decide +kernel
theorem dX10_by_46 : decode cX10_by 46 = .ok (.if_icmp .eq 24, 3) := by decide +kernel
theorem dX10_by_49 : decode cX10_by 49 = .ok (.iload 5, 2) := by decide +kernel
theorem dX10_by_51 : decode cX10_by 51 = .ok (.iload_n 1, 1) := by decide +kernel
theorem dX10_by_52 : decode cX10_by 52 = .ok (.if_icmp .eq 18, 3) := by decide +kernel
theorem dX10_by_55 : decode cX10_by 55 = .ok (.aload_n 0, 1) := by decide +kernel
theorem dX10_by_56 : decode cX10_by 56 = .ok (.iload 4, 2) := by decide +kernel
theorem dX10_by_58 : decode cX10_by 58 = .ok (.iload 5, 2) := by decide +kernel
theorem dX10_by_60 : decode cX10_by 60 = .ok (.invokevirtual 215, 3) := by decide +kernel
theorem dX10_by_63 : decode cX10_by 63 = .ok (.ifCond .eq 7, 3) := by decide +kernel
theorem dX10_by_66 : decode cX10_by 66 = .ok (.iconst 1, 1) := by decide +kernel
theorem dX10_by_67 : decode cX10_by 67 = .ok (.goto 4, 3) := by decide +kernel
theorem dX10_by_70 : decode cX10_by 70 = .ok (.iconst 0, 1) := by decide +kernel
theorem dX10_by_71 : decode cX10_by 71 = .ok (.istore 6, 2) := by decide +kernel
theorem dX10_by_73 : decode cX10_by 73 = .ok (.iload_n 2, 1) := by decide +kernel
theorem dX10_by_74 : decode cX10_by 74 = .ok (.iload 6, 2) := by decide +kernel
theorem dX10_by_76 : decode cX10_by 76 = .ok (.ifCond .eq 39, 3) := by decide +kernel
theorem dX10_by_79 : decode cX10_by 79 = .ok (.aload_n 0, 1) := by decide +kernel
theorem dX10_by_80 : decode cX10_by 80 = .ok (.getfield 55, 3) := by decide +kernel
theorem dX10_by_83 : decode cX10_by 83 = .ok (.iload 4, 2) := by decide +kernel
theorem dX10_by_85 : decode cX10_by 85 = .ok (.iload_n 1, 1) := by decide +kernel
theorem dX10_by_86 : decode cX10_by 86 = .ok (.invokestatic 89, 3) := by decide +kernel
theorem dX10_by_89 : decode cX10_by 89 = .ok (.iaload, 1) := by decide +kernel
theorem dX10_by_90 : decode cX10_by 90 = .ok (.aload_n 0, 1) := by decide +kernel
theorem dX10_by_91 : decode cX10_by 91 = .ok (.getfield 55, 3) := by decide +kernel
theorem dX10_by_94 : decode cX10_by 94 = .ok (.iload_n 1, 1) := by decide +kernel
theorem dX10_by_95 : decode cX10_by 95 = .ok (.iload 5, 2) := by decide +kernel
theorem dX10_by_97 : decode cX10_by 97 = .ok (.invokestatic 89, 3) := by decide +kernel
theorem dX10_by_100 : decode cX10_by 100 = .ok (.iaload, 1) := by decide +kernel
theorem dX10_by_101 : decode cX10_by 101 = .ok (.iadd, 1) := by decide +kernel
theorem dX10_by_102 : decode cX10_by 102 = .ok (.aload_n 0, 1) := by decide +kernel
theorem dX10_by_103 : decode cX10_by 103 = .ok (.getfield 55, 3) := by decide +kernel
theorem dX10_by_106 : decode cX10_by 106 = .ok (.iload_n 3, 1) := by decide +kernel
theorem dX10_by_107 : decode cX10_by 107 = .ok (.iaload, 1) := by decide +kernel
theorem dX10_by_108 : decode cX10_by 108 = .ok (.if_icmp .ne 7, 3) := by decide +kernel
theorem dX10_by_111 : decode cX10_by 111 = .ok (.iconst 1, 1) := by decide +kernel
theorem dX10_by_112 : decode cX10_by 112 = .ok (.goto 4, 3) := by decide +kernel
theorem dX10_by_115 : decode cX10_by 115 = .ok (.iconst 0, 1) := by decide +kernel
theorem dX10_by_116 : decode cX10_by 116 = .ok (.iadd, 1) := by decide +kernel
theorem dX10_by_117 : decode cX10_by 117 = .ok (.istore_n 2, 1) := by decide +kernel
theorem dX10_by_118 : decode cX10_by 118 = .ok (.iinc 3 1, 3) := by decide +kernel
theorem dX10_by_121 : decode cX10_by 121 = .ok (.goto (-104), 3) := by decide +kernel
theorem dX10_by_124 : decode cX10_by 124 = .ok (.iload_n 2, 1) := by decide +kernel
theorem dX10_by_125 : decode cX10_by 125 = .ok (.ireturn, 1) := by decide +kernel
abbrev wl_X10_by (G : gw_) (A_t : Nat) (A_t_steps : Nat) (A_t_wet : Nat) (A_t_where : Nat) (A_t_home : Nat) (A_t_light : Nat) (A_t_carries : Nat) (A_t_sightPlace : Nat) (A_t_sightLight : Nat) (A_t_pad : Nat) (A_t_act : Nat) (A_t_whose : Nat) (A_t_whom : Nat) (A_t_tens : Nat) (A_t_had : Nat) (A_t_leaves : Nat) (A_t_apart : Nat) (A_t_stop : Nat) (A_t_restOf : Nat) (A_t_group : Nat) (A_t_along : Nat) (A_t_kept : Nat) (A_t_isKept : Nat) (c_t_foggy : Int32) (c_t_walkers : Int32) (c_t_sights : Int32) (c_t_padMany : Int32) (c_t_acts : Int32) (c_t_spent : Int32) (c_t_walks : Int32) (c_t_badAct : Int32) (c_t_badWhy : Int32) (c_t_keptAt : Int32) (c_t_isWriting : Int32) (c_t_steps : Nat → Int32) (c_t_wet : Nat → Int32) (c_t_apart : Nat → Int32) : va_W := [ob_ A_t 10 [.ref A_t_steps, .ref A_t_wet, .int c_t_foggy, .int c_t_walkers, .ref A_t_where, .ref A_t_home, .ref A_t_light, .ref A_t_carries, .ref A_t_sightPlace, .ref A_t_sightLight, .int c_t_sights, .ref A_t_pad, .int c_t_padMany, .ref A_t_act, .ref A_t_whose, .ref A_t_whom, .ref A_t_tens, .int c_t_acts, .int c_t_spent, .int c_t_walks, .ref A_t_had, .ref A_t_leaves, .int c_t_badAct, .int c_t_badWhy, .ref A_t_apart, .ref A_t_stop, .ref A_t_restOf, .ref A_t_group, .ref A_t_along, .ref A_t_kept, .ref A_t_isKept, .int c_t_keptAt, .int c_t_isWriting], ia_ G A_t_steps 144 c_t_steps, ia_ G A_t_wet 144 c_t_wet, ia_ G A_t_apart 144 c_t_apart]
def fn_X10_by_j115 (x3 : Int32) (s0 : Int32) (rc : Int32 → Int32 → Option (Int32 × (Nat → Int32))) (k : Int32 → Option (Int32 × (Nat → Int32))) : Option (Int32 × (Nat → Int32)) :=
  rc (s0 + 0) (x3 + 1)
def fn_X10_by_j71 (c_t_apart : Nat → Int32) (x1 : Int32) (x2 : Int32) (x3 : Int32) (x4 : Int32) (x5 : Int32) (s0 : Int32) (rc : Int32 → Int32 → Option (Int32 × (Nat → Int32))) (k : Int32 → Option (Int32 × (Nat → Int32))) : Option (Int32 × (Nat → Int32)) :=
  if s0 = 0 then
    fn_X10_by_j115 x3 x2 rc k
  else
    b1_ (fn_X10_at x4 x1) fun r5 =>
    ck_ r5 144 <|
    b1_ (fn_X10_at x1 x5) fun r7 =>
    ck_ r7 144 <|
    ck_ x3 144 <|
    if ((c_t_apart (Int32.toNatClampNeg r5)) + (c_t_apart (Int32.toNatClampNeg r7))) = (c_t_apart (Int32.toNatClampNeg x3)) then
      rc (x2 + 1) (x3 + 1)
    else
      fn_X10_by_j115 x3 x2 rc k
def fn_X10_by_j70 (c_t_apart : Nat → Int32) (x1 : Int32) (x2 : Int32) (x3 : Int32) (x4 : Int32) (x5 : Int32) (rc : Int32 → Int32 → Option (Int32 × (Nat → Int32))) (k : Int32 → Option (Int32 × (Nat → Int32))) : Option (Int32 × (Nat → Int32)) :=
  fn_X10_by_j71 c_t_apart x1 x2 x3 x4 x5 0 rc k
def fn_X10_by_b17 (c_t_apart : Nat → Int32) (x1 : Int32) (rc : Int32 → Int32 → Option (Int32 × (Nat → Int32))) (k : Int32 → Option (Int32 × (Nat → Int32))) (x2 : Int32) (x3 : Int32) : Option (Int32 × (Nat → Int32)) :=
  if 144 ≤ x3 then
    k x2
  else
    if (x3 / 12) = (x3 - x3 / 12 * 12) then
      fn_X10_by_j70 c_t_apart x1 x2 x3 (x3 / 12) (x3 - x3 / 12 * 12) rc k
    else
      if (x3 / 12) = x1 then
        fn_X10_by_j70 c_t_apart x1 x2 x3 (x3 / 12) (x3 - x3 / 12 * 12) rc k
      else
        if (x3 - x3 / 12 * 12) = x1 then
          fn_X10_by_j70 c_t_apart x1 x2 x3 (x3 / 12) (x3 - x3 / 12 * 12) rc k
        else
          b1_ (fn_X10_hasWay c_t_apart (x3 / 12) (x3 - x3 / 12 * 12)) fun r9 =>
          if r9 = 0 then
            fn_X10_by_j70 c_t_apart x1 x2 x3 (x3 / 12) (x3 - x3 / 12 * 12) rc k
          else
            fn_X10_by_j71 c_t_apart x1 x2 x3 (x3 / 12) (x3 - x3 / 12 * 12) 1 rc k
def fn_X10_by_l17 (c_t_apart : Nat → Int32) (x1 : Int32) (k : Int32 → Option (Int32 × (Nat → Int32))) : Nat → Int32 → Int32 → Option (Int32 × (Nat → Int32))
  | 0 => fun _ _ => none
  | n + 1 => fun x2 x3 => fn_X10_by_b17 c_t_apart x1 (fn_X10_by_l17 c_t_apart x1 k n) k x2 x3
def fn_X10_by (c_t_foggy : Int32) (c_t_steps : Nat → Int32) (c_t_wet : Nat → Int32) (c_t_apart : Nat → Int32) (x1 : Int32) : Option (Int32 × (Nat → Int32)) :=
  b1_ (fn_X10_isPlace x1) fun r1 =>
  if r1 = 0 then
    some ((-1), c_t_apart)
  else
    b1_ (fn_X10_findWays c_t_foggy c_t_steps c_t_wet c_t_apart) fun w3 =>
    fn_X10_by_l17 w3 x1 (fun v11 =>
      some (v11, w3)) fu_ 0 0
set_option maxHeartbeats 4000000 in
set_option maxRecDepth 100000 in
theorem wn_X10_by_j115 {p : Program} {l : Launch} {e : Env} {s : State} {m : MethodId} {args : Array Value} {below : List Frame} {meth : Method} {c : Code} {G : gw_} {A : Nat → Prop} {Q : State → Prop} {A_t : Nat} {A_t_steps : Nat} {A_t_wet : Nat} {A_t_where : Nat} {A_t_home : Nat} {A_t_light : Nat} {A_t_carries : Nat} {A_t_sightPlace : Nat} {A_t_sightLight : Nat} {A_t_pad : Nat} {A_t_act : Nat} {A_t_whose : Nat} {A_t_whom : Nat} {A_t_tens : Nat} {A_t_had : Nat} {A_t_leaves : Nat} {A_t_apart : Nat} {A_t_stop : Nat} {A_t_restOf : Nat} {A_t_group : Nat} {A_t_along : Nat} {A_t_kept : Nat} {A_t_isKept : Nat} {c_t_foggy : Int32} {c_t_walkers : Int32} {c_t_sights : Int32} {c_t_padMany : Int32} {c_t_acts : Int32} {c_t_spent : Int32} {c_t_walks : Int32} {c_t_badAct : Int32} {c_t_badWhy : Int32} {c_t_keptAt : Int32} {c_t_isWriting : Int32} {c_t_steps : Nat → Int32} {c_t_wet : Nat → Int32} {c_t_apart : Nat → Int32} {z_t_apart : Nat → Int32} {r : Int32} {x1 : Int32} {x3 : Int32} {s0 : Int32} {rc : Int32 → Int32 → Option (Int32 × (Nat → Int32))} {k : Int32 → Option (Int32 × (Nat → Int32))} (hC : cx_ p s m c G cX10_by 7 RX10) (hret : ∀ (pc : Nat) (H : Heap) (locs : List Loc) (ls : Array Slot), decode cX10_by pc = .ok (.ireturn, 1) → wd_ G A s.heap (wl_X10_by G A_t A_t_steps A_t_wet A_t_where A_t_home A_t_light A_t_carries A_t_sightPlace A_t_sightLight A_t_pad A_t_act A_t_whose A_t_whom A_t_tens A_t_had A_t_leaves A_t_apart A_t_stop A_t_restOf A_t_group A_t_along A_t_kept A_t_isKept c_t_foggy c_t_walkers c_t_sights c_t_padMany c_t_acts c_t_spent c_t_walks c_t_badAct c_t_badWhy c_t_keptAt c_t_isWriting c_t_steps c_t_wet z_t_apart) H locs → W p l e { frames := 4, cells := 0, slots := 0, locals := 91 } s m args below meth c H locs 0 0 Q (F0 m pc ls [.int r])) (hrc : ∀ (x2 : Int32) (x3 : Int32) (H : Heap) (locs : List Loc) (ls : Array Slot), rc x2 x3 = some (r, z_t_apart) → lv_has ls 7 [(0, .ref A_t), (1, .int x1), (2, .int x2), (3, .int x3)] → wd_ G A s.heap (wl_X10_by G A_t A_t_steps A_t_wet A_t_where A_t_home A_t_light A_t_carries A_t_sightPlace A_t_sightLight A_t_pad A_t_act A_t_whose A_t_whom A_t_tens A_t_had A_t_leaves A_t_apart A_t_stop A_t_restOf A_t_group A_t_along A_t_kept A_t_isKept c_t_foggy c_t_walkers c_t_sights c_t_padMany c_t_acts c_t_spent c_t_walks c_t_badAct c_t_badWhy c_t_keptAt c_t_isWriting c_t_steps c_t_wet c_t_apart) H locs → W p l e { frames := 4, cells := 0, slots := 0, locals := 91 } s m args below meth c H locs 0 0 Q (F0 m 17 ls [])) (hk : ∀ (x2 : Int32) (H : Heap) (locs : List Loc) (ls : Array Slot), k x2 = some (r, z_t_apart) → lv_has ls 7 [(2, .int x2)] → wd_ G A s.heap (wl_X10_by G A_t A_t_steps A_t_wet A_t_where A_t_home A_t_light A_t_carries A_t_sightPlace A_t_sightLight A_t_pad A_t_act A_t_whose A_t_whom A_t_tens A_t_had A_t_leaves A_t_apart A_t_stop A_t_restOf A_t_group A_t_along A_t_kept A_t_isKept c_t_foggy c_t_walkers c_t_sights c_t_padMany c_t_acts c_t_spent c_t_walks c_t_badAct c_t_badWhy c_t_keptAt c_t_isWriting c_t_steps c_t_wet c_t_apart) H locs → W p l e { frames := 4, cells := 0, slots := 0, locals := 91 } s m args below meth c H locs 0 0 Q (F0 m 124 ls [])) (hf : fn_X10_by_j115 x3 s0 rc k = some (r, z_t_apart)) {H : Heap} {locs : List Loc} {ls : Array Slot} (hl : lv_has ls 7 [(0, .ref A_t), (1, .int x1), (3, .int x3)]) (hw : wd_ G A s.heap (wl_X10_by G A_t A_t_steps A_t_wet A_t_where A_t_home A_t_light A_t_carries A_t_sightPlace A_t_sightLight A_t_pad A_t_act A_t_whose A_t_whom A_t_tens A_t_had A_t_leaves A_t_apart A_t_stop A_t_restOf A_t_group A_t_along A_t_kept A_t_isKept c_t_foggy c_t_walkers c_t_sights c_t_padMany c_t_acts c_t_spent c_t_walks c_t_badAct c_t_badWhy c_t_keptAt c_t_isWriting c_t_steps c_t_wet c_t_apart) H locs) : W p l e { frames := 4, cells := 0, slots := 0, locals := 91 } s m args below meth c H locs 0 0 Q (F0 m 115 ls [.int s0]) := by
  have hx := hC.1
  have hb := hC.2.1
  unfold fn_X10_by_j115 at hf
  refine lv_iconst (v := 0) hx hb dX10_by_115 (by decide) ?_
  refine lv_iadd hx hb dX10_by_116 ?_
  refine lv_istore_n (lv' := [(2, .int (s0 + 0)), (0, .ref A_t), (1, .int x1), (3, .int x3)]) hx hb dX10_by_117 rfl hl (by decide) rfl (fun ls hl => ?_)
  refine lv_iinc (v := x3 + 1) (lv' := [(3, .int (x3 + 1)), (2, .int (s0 + 0)), (0, .ref A_t), (1, .int x1)]) hx hb dX10_by_118 hl (k := 3) rfl rfl (by decide) rfl (fun ls hl => ?_)
  refine lv_goto (tgt := 17) hx hb dX10_by_121 (by decide) ?_
  exact hrc (s0 + 0) (x3 + 1) _ _ _ hf (lv_sub hl [2, 3, 1, 0] rfl) hw
set_option maxHeartbeats 4000000 in
set_option maxRecDepth 100000 in
theorem wn_X10_by_j71 {p : Program} {l : Launch} {e : Env} {s : State} {m : MethodId} {args : Array Value} {below : List Frame} {meth : Method} {c : Code} {G : gw_} {A : Nat → Prop} {Q : State → Prop} {A_t : Nat} {A_t_steps : Nat} {A_t_wet : Nat} {A_t_where : Nat} {A_t_home : Nat} {A_t_light : Nat} {A_t_carries : Nat} {A_t_sightPlace : Nat} {A_t_sightLight : Nat} {A_t_pad : Nat} {A_t_act : Nat} {A_t_whose : Nat} {A_t_whom : Nat} {A_t_tens : Nat} {A_t_had : Nat} {A_t_leaves : Nat} {A_t_apart : Nat} {A_t_stop : Nat} {A_t_restOf : Nat} {A_t_group : Nat} {A_t_along : Nat} {A_t_kept : Nat} {A_t_isKept : Nat} {c_t_foggy : Int32} {c_t_walkers : Int32} {c_t_sights : Int32} {c_t_padMany : Int32} {c_t_acts : Int32} {c_t_spent : Int32} {c_t_walks : Int32} {c_t_badAct : Int32} {c_t_badWhy : Int32} {c_t_keptAt : Int32} {c_t_isWriting : Int32} {c_t_steps : Nat → Int32} {c_t_wet : Nat → Int32} {c_t_apart : Nat → Int32} {z_t_apart : Nat → Int32} {r : Int32} {x1 : Int32} {x2 : Int32} {x3 : Int32} {x4 : Int32} {x5 : Int32} {s0 : Int32} {rc : Int32 → Int32 → Option (Int32 × (Nat → Int32))} {k : Int32 → Option (Int32 × (Nat → Int32))} (hC : cx_ p s m c G cX10_by 7 RX10) (hret : ∀ (pc : Nat) (H : Heap) (locs : List Loc) (ls : Array Slot), decode cX10_by pc = .ok (.ireturn, 1) → wd_ G A s.heap (wl_X10_by G A_t A_t_steps A_t_wet A_t_where A_t_home A_t_light A_t_carries A_t_sightPlace A_t_sightLight A_t_pad A_t_act A_t_whose A_t_whom A_t_tens A_t_had A_t_leaves A_t_apart A_t_stop A_t_restOf A_t_group A_t_along A_t_kept A_t_isKept c_t_foggy c_t_walkers c_t_sights c_t_padMany c_t_acts c_t_spent c_t_walks c_t_badAct c_t_badWhy c_t_keptAt c_t_isWriting c_t_steps c_t_wet z_t_apart) H locs → W p l e { frames := 4, cells := 0, slots := 0, locals := 91 } s m args below meth c H locs 0 0 Q (F0 m pc ls [.int r])) (hrc : ∀ (x2 : Int32) (x3 : Int32) (H : Heap) (locs : List Loc) (ls : Array Slot), rc x2 x3 = some (r, z_t_apart) → lv_has ls 7 [(0, .ref A_t), (1, .int x1), (2, .int x2), (3, .int x3)] → wd_ G A s.heap (wl_X10_by G A_t A_t_steps A_t_wet A_t_where A_t_home A_t_light A_t_carries A_t_sightPlace A_t_sightLight A_t_pad A_t_act A_t_whose A_t_whom A_t_tens A_t_had A_t_leaves A_t_apart A_t_stop A_t_restOf A_t_group A_t_along A_t_kept A_t_isKept c_t_foggy c_t_walkers c_t_sights c_t_padMany c_t_acts c_t_spent c_t_walks c_t_badAct c_t_badWhy c_t_keptAt c_t_isWriting c_t_steps c_t_wet c_t_apart) H locs → W p l e { frames := 4, cells := 0, slots := 0, locals := 91 } s m args below meth c H locs 0 0 Q (F0 m 17 ls [])) (hk : ∀ (x2 : Int32) (H : Heap) (locs : List Loc) (ls : Array Slot), k x2 = some (r, z_t_apart) → lv_has ls 7 [(2, .int x2)] → wd_ G A s.heap (wl_X10_by G A_t A_t_steps A_t_wet A_t_where A_t_home A_t_light A_t_carries A_t_sightPlace A_t_sightLight A_t_pad A_t_act A_t_whose A_t_whom A_t_tens A_t_had A_t_leaves A_t_apart A_t_stop A_t_restOf A_t_group A_t_along A_t_kept A_t_isKept c_t_foggy c_t_walkers c_t_sights c_t_padMany c_t_acts c_t_spent c_t_walks c_t_badAct c_t_badWhy c_t_keptAt c_t_isWriting c_t_steps c_t_wet c_t_apart) H locs → W p l e { frames := 4, cells := 0, slots := 0, locals := 91 } s m args below meth c H locs 0 0 Q (F0 m 124 ls [])) (hf : fn_X10_by_j71 c_t_apart x1 x2 x3 x4 x5 s0 rc k = some (r, z_t_apart)) {H : Heap} {locs : List Loc} {ls : Array Slot} (hl : lv_has ls 7 [(0, .ref A_t), (1, .int x1), (2, .int x2), (3, .int x3), (4, .int x4), (5, .int x5)]) (hw : wd_ G A s.heap (wl_X10_by G A_t A_t_steps A_t_wet A_t_where A_t_home A_t_light A_t_carries A_t_sightPlace A_t_sightLight A_t_pad A_t_act A_t_whose A_t_whom A_t_tens A_t_had A_t_leaves A_t_apart A_t_stop A_t_restOf A_t_group A_t_along A_t_kept A_t_isKept c_t_foggy c_t_walkers c_t_sights c_t_padMany c_t_acts c_t_spent c_t_walks c_t_badAct c_t_badWhy c_t_keptAt c_t_isWriting c_t_steps c_t_wet c_t_apart) H locs) : W p l e { frames := 4, cells := 0, slots := 0, locals := 91 } s m args below meth c H locs 0 0 Q (F0 m 71 ls [.int s0]) := by
  have hx := hC.1
  have hb := hC.2.1
  unfold fn_X10_by_j71 at hf
  refine lv_istore (lv' := [(6, .int s0), (0, .ref A_t), (1, .int x1), (2, .int x2), (3, .int x3), (4, .int x4), (5, .int x5)]) hx hb dX10_by_71 hl (by decide) rfl (fun ls hl => ?_)
  refine lv_iload_n hx hb dX10_by_73 rfl (lv_at hl 3 rfl) ?_
  refine lv_iload hx hb dX10_by_74 (lv_at hl 0 rfl) ?_
  refine lv_if_eq (tgt := 115) hx hb dX10_by_76 (by decide) (fun hc => ?_) (fun hc => ?_)
  · replace hf := it_t hc hf
    exact wn_X10_by_j115 hC hret hrc hk hf (lv_sub hl [1, 2, 4] rfl) hw
  · replace hf := it_f hc hf
    refine lv_aload_n hx hb dX10_by_79 rfl (lv_at hl 1 rfl) ?_
    refine g_get hC hw fkX10_55 0 rfl rfl dX10_by_80 ?_
    refine lv_iload hx hb dX10_by_83 (lv_at hl 5 rfl) ?_
    refine lv_iload_n hx hb dX10_by_85 rfl (lv_at hl 2 rfl) ?_
    obtain ⟨r5, hq6, hf⟩ := b1_s hf
    refine h_cSi hC hw msX10_89 (cn_X10_at l G x4 x1 r5 hq6) [] rfl (by decide) rfl hl.1 rfl (Nat.le_of_ble_eq_true rfl) ⟨Nat.le_of_ble_eq_true rfl, Nat.le_of_ble_eq_true rfl⟩ ⟨Nat.le_refl _, Nat.le_refl _⟩ dX10_by_86 (fun H locs hw => ?_)
    obtain ⟨hi, hf⟩ := ck_s hf
    refine g_iald hC hw 3 rfl hi dX10_by_89 ?_
    refine lv_aload_n hx hb dX10_by_90 rfl (lv_at hl 1 rfl) ?_
    refine g_get hC hw fkX10_55 0 rfl rfl dX10_by_91 ?_
    refine lv_iload_n hx hb dX10_by_94 rfl (lv_at hl 2 rfl) ?_
    refine lv_iload hx hb dX10_by_95 (lv_at hl 6 rfl) ?_
    obtain ⟨r7, hq8, hf⟩ := b1_s hf
    refine h_cSi hC hw msX10_89 (cn_X10_at l G x1 x5 r7 hq8) [] rfl (by decide) rfl hl.1 rfl (Nat.le_of_ble_eq_true rfl) ⟨Nat.le_of_ble_eq_true rfl, Nat.le_of_ble_eq_true rfl⟩ ⟨Nat.le_refl _, Nat.le_refl _⟩ dX10_by_97 (fun H locs hw => ?_)
    obtain ⟨hi, hf⟩ := ck_s hf
    refine g_iald hC hw 3 rfl hi dX10_by_100 ?_
    refine lv_iadd hx hb dX10_by_101 ?_
    refine lv_aload_n hx hb dX10_by_102 rfl (lv_at hl 1 rfl) ?_
    refine g_get hC hw fkX10_55 0 rfl rfl dX10_by_103 ?_
    refine lv_iload_n hx hb dX10_by_106 rfl (lv_at hl 4 rfl) ?_
    obtain ⟨hi, hf⟩ := ck_s hf
    refine g_iald hC hw 3 rfl hi dX10_by_107 ?_
    refine lv_icmp_ne (tgt := 115) hx hb dX10_by_108 (by decide) (fun hc => ?_) (fun hc => ?_)
    · replace hf := it_f hc hf
      exact wn_X10_by_j115 hC hret hrc hk hf (lv_sub hl [1, 2, 4] rfl) hw
    · replace hf := it_t hc hf
      refine lv_iconst (v := 1) hx hb dX10_by_111 (by decide) ?_
      refine lv_goto (tgt := 116) hx hb dX10_by_112 (by decide) ?_
      refine lv_iadd hx hb dX10_by_116 ?_
      refine lv_istore_n (lv' := [(2, .int (x2 + 1)), (6, .int s0), (0, .ref A_t), (1, .int x1), (3, .int x3), (4, .int x4), (5, .int x5)]) hx hb dX10_by_117 rfl hl (by decide) rfl (fun ls hl => ?_)
      refine lv_iinc (v := x3 + 1) (lv' := [(3, .int (x3 + 1)), (2, .int (x2 + 1)), (6, .int s0), (0, .ref A_t), (1, .int x1), (4, .int x4), (5, .int x5)]) hx hb dX10_by_118 hl (k := 4) rfl rfl (by decide) rfl (fun ls hl => ?_)
      refine lv_goto (tgt := 17) hx hb dX10_by_121 (by decide) ?_
      exact hrc (x2 + 1) (x3 + 1) _ _ _ hf (lv_sub hl [3, 4, 1, 0] rfl) hw
set_option maxHeartbeats 4000000 in
set_option maxRecDepth 100000 in
theorem wn_X10_by_j70 {p : Program} {l : Launch} {e : Env} {s : State} {m : MethodId} {args : Array Value} {below : List Frame} {meth : Method} {c : Code} {G : gw_} {A : Nat → Prop} {Q : State → Prop} {A_t : Nat} {A_t_steps : Nat} {A_t_wet : Nat} {A_t_where : Nat} {A_t_home : Nat} {A_t_light : Nat} {A_t_carries : Nat} {A_t_sightPlace : Nat} {A_t_sightLight : Nat} {A_t_pad : Nat} {A_t_act : Nat} {A_t_whose : Nat} {A_t_whom : Nat} {A_t_tens : Nat} {A_t_had : Nat} {A_t_leaves : Nat} {A_t_apart : Nat} {A_t_stop : Nat} {A_t_restOf : Nat} {A_t_group : Nat} {A_t_along : Nat} {A_t_kept : Nat} {A_t_isKept : Nat} {c_t_foggy : Int32} {c_t_walkers : Int32} {c_t_sights : Int32} {c_t_padMany : Int32} {c_t_acts : Int32} {c_t_spent : Int32} {c_t_walks : Int32} {c_t_badAct : Int32} {c_t_badWhy : Int32} {c_t_keptAt : Int32} {c_t_isWriting : Int32} {c_t_steps : Nat → Int32} {c_t_wet : Nat → Int32} {c_t_apart : Nat → Int32} {z_t_apart : Nat → Int32} {r : Int32} {x1 : Int32} {x2 : Int32} {x3 : Int32} {x4 : Int32} {x5 : Int32} {rc : Int32 → Int32 → Option (Int32 × (Nat → Int32))} {k : Int32 → Option (Int32 × (Nat → Int32))} (hC : cx_ p s m c G cX10_by 7 RX10) (hret : ∀ (pc : Nat) (H : Heap) (locs : List Loc) (ls : Array Slot), decode cX10_by pc = .ok (.ireturn, 1) → wd_ G A s.heap (wl_X10_by G A_t A_t_steps A_t_wet A_t_where A_t_home A_t_light A_t_carries A_t_sightPlace A_t_sightLight A_t_pad A_t_act A_t_whose A_t_whom A_t_tens A_t_had A_t_leaves A_t_apart A_t_stop A_t_restOf A_t_group A_t_along A_t_kept A_t_isKept c_t_foggy c_t_walkers c_t_sights c_t_padMany c_t_acts c_t_spent c_t_walks c_t_badAct c_t_badWhy c_t_keptAt c_t_isWriting c_t_steps c_t_wet z_t_apart) H locs → W p l e { frames := 4, cells := 0, slots := 0, locals := 91 } s m args below meth c H locs 0 0 Q (F0 m pc ls [.int r])) (hrc : ∀ (x2 : Int32) (x3 : Int32) (H : Heap) (locs : List Loc) (ls : Array Slot), rc x2 x3 = some (r, z_t_apart) → lv_has ls 7 [(0, .ref A_t), (1, .int x1), (2, .int x2), (3, .int x3)] → wd_ G A s.heap (wl_X10_by G A_t A_t_steps A_t_wet A_t_where A_t_home A_t_light A_t_carries A_t_sightPlace A_t_sightLight A_t_pad A_t_act A_t_whose A_t_whom A_t_tens A_t_had A_t_leaves A_t_apart A_t_stop A_t_restOf A_t_group A_t_along A_t_kept A_t_isKept c_t_foggy c_t_walkers c_t_sights c_t_padMany c_t_acts c_t_spent c_t_walks c_t_badAct c_t_badWhy c_t_keptAt c_t_isWriting c_t_steps c_t_wet c_t_apart) H locs → W p l e { frames := 4, cells := 0, slots := 0, locals := 91 } s m args below meth c H locs 0 0 Q (F0 m 17 ls [])) (hk : ∀ (x2 : Int32) (H : Heap) (locs : List Loc) (ls : Array Slot), k x2 = some (r, z_t_apart) → lv_has ls 7 [(2, .int x2)] → wd_ G A s.heap (wl_X10_by G A_t A_t_steps A_t_wet A_t_where A_t_home A_t_light A_t_carries A_t_sightPlace A_t_sightLight A_t_pad A_t_act A_t_whose A_t_whom A_t_tens A_t_had A_t_leaves A_t_apart A_t_stop A_t_restOf A_t_group A_t_along A_t_kept A_t_isKept c_t_foggy c_t_walkers c_t_sights c_t_padMany c_t_acts c_t_spent c_t_walks c_t_badAct c_t_badWhy c_t_keptAt c_t_isWriting c_t_steps c_t_wet c_t_apart) H locs → W p l e { frames := 4, cells := 0, slots := 0, locals := 91 } s m args below meth c H locs 0 0 Q (F0 m 124 ls [])) (hf : fn_X10_by_j70 c_t_apart x1 x2 x3 x4 x5 rc k = some (r, z_t_apart)) {H : Heap} {locs : List Loc} {ls : Array Slot} (hl : lv_has ls 7 [(0, .ref A_t), (1, .int x1), (2, .int x2), (3, .int x3), (4, .int x4), (5, .int x5)]) (hw : wd_ G A s.heap (wl_X10_by G A_t A_t_steps A_t_wet A_t_where A_t_home A_t_light A_t_carries A_t_sightPlace A_t_sightLight A_t_pad A_t_act A_t_whose A_t_whom A_t_tens A_t_had A_t_leaves A_t_apart A_t_stop A_t_restOf A_t_group A_t_along A_t_kept A_t_isKept c_t_foggy c_t_walkers c_t_sights c_t_padMany c_t_acts c_t_spent c_t_walks c_t_badAct c_t_badWhy c_t_keptAt c_t_isWriting c_t_steps c_t_wet c_t_apart) H locs) : W p l e { frames := 4, cells := 0, slots := 0, locals := 91 } s m args below meth c H locs 0 0 Q (F0 m 70 ls []) := by
  have hx := hC.1
  have hb := hC.2.1
  unfold fn_X10_by_j70 at hf
  refine lv_iconst (v := 0) hx hb dX10_by_70 (by decide) ?_
  exact wn_X10_by_j71 hC hret hrc hk hf (lv_sub hl [0, 1, 2, 3, 4, 5] rfl) hw
set_option maxHeartbeats 4000000 in
set_option maxRecDepth 100000 in
theorem wn_X10_by_l17 {p : Program} {l : Launch} {e : Env} {s : State} {m : MethodId} {args : Array Value} {below : List Frame} {meth : Method} {c : Code} {G : gw_} {A : Nat → Prop} {Q : State → Prop} {A_t : Nat} {A_t_steps : Nat} {A_t_wet : Nat} {A_t_where : Nat} {A_t_home : Nat} {A_t_light : Nat} {A_t_carries : Nat} {A_t_sightPlace : Nat} {A_t_sightLight : Nat} {A_t_pad : Nat} {A_t_act : Nat} {A_t_whose : Nat} {A_t_whom : Nat} {A_t_tens : Nat} {A_t_had : Nat} {A_t_leaves : Nat} {A_t_apart : Nat} {A_t_stop : Nat} {A_t_restOf : Nat} {A_t_group : Nat} {A_t_along : Nat} {A_t_kept : Nat} {A_t_isKept : Nat} {c_t_foggy : Int32} {c_t_walkers : Int32} {c_t_sights : Int32} {c_t_padMany : Int32} {c_t_acts : Int32} {c_t_spent : Int32} {c_t_walks : Int32} {c_t_badAct : Int32} {c_t_badWhy : Int32} {c_t_keptAt : Int32} {c_t_isWriting : Int32} {c_t_steps : Nat → Int32} {c_t_wet : Nat → Int32} {c_t_apart : Nat → Int32} {z_t_apart : Nat → Int32} {r : Int32} {x1 : Int32} {k : Int32 → Option (Int32 × (Nat → Int32))} (hC : cx_ p s m c G cX10_by 7 RX10) (hret : ∀ (pc : Nat) (H : Heap) (locs : List Loc) (ls : Array Slot), decode cX10_by pc = .ok (.ireturn, 1) → wd_ G A s.heap (wl_X10_by G A_t A_t_steps A_t_wet A_t_where A_t_home A_t_light A_t_carries A_t_sightPlace A_t_sightLight A_t_pad A_t_act A_t_whose A_t_whom A_t_tens A_t_had A_t_leaves A_t_apart A_t_stop A_t_restOf A_t_group A_t_along A_t_kept A_t_isKept c_t_foggy c_t_walkers c_t_sights c_t_padMany c_t_acts c_t_spent c_t_walks c_t_badAct c_t_badWhy c_t_keptAt c_t_isWriting c_t_steps c_t_wet z_t_apart) H locs → W p l e { frames := 4, cells := 0, slots := 0, locals := 91 } s m args below meth c H locs 0 0 Q (F0 m pc ls [.int r])) (hk : ∀ (x2 : Int32) (H : Heap) (locs : List Loc) (ls : Array Slot), k x2 = some (r, z_t_apart) → lv_has ls 7 [(2, .int x2)] → wd_ G A s.heap (wl_X10_by G A_t A_t_steps A_t_wet A_t_where A_t_home A_t_light A_t_carries A_t_sightPlace A_t_sightLight A_t_pad A_t_act A_t_whose A_t_whom A_t_tens A_t_had A_t_leaves A_t_apart A_t_stop A_t_restOf A_t_group A_t_along A_t_kept A_t_isKept c_t_foggy c_t_walkers c_t_sights c_t_padMany c_t_acts c_t_spent c_t_walks c_t_badAct c_t_badWhy c_t_keptAt c_t_isWriting c_t_steps c_t_wet c_t_apart) H locs → W p l e { frames := 4, cells := 0, slots := 0, locals := 91 } s m args below meth c H locs 0 0 Q (F0 m 124 ls [])) : ∀ (n : Nat) (x2 : Int32) (x3 : Int32) (H : Heap) (locs : List Loc) (ls : Array Slot), fn_X10_by_l17 c_t_apart x1 k n x2 x3 = some (r, z_t_apart) → lv_has ls 7 [(0, .ref A_t), (1, .int x1), (2, .int x2), (3, .int x3)] → wd_ G A s.heap (wl_X10_by G A_t A_t_steps A_t_wet A_t_where A_t_home A_t_light A_t_carries A_t_sightPlace A_t_sightLight A_t_pad A_t_act A_t_whose A_t_whom A_t_tens A_t_had A_t_leaves A_t_apart A_t_stop A_t_restOf A_t_group A_t_along A_t_kept A_t_isKept c_t_foggy c_t_walkers c_t_sights c_t_padMany c_t_acts c_t_spent c_t_walks c_t_badAct c_t_badWhy c_t_keptAt c_t_isWriting c_t_steps c_t_wet c_t_apart) H locs → W p l e { frames := 4, cells := 0, slots := 0, locals := 91 } s m args below meth c H locs 0 0 Q (F0 m 17 ls []) := by
  have hx := hC.1
  have hb := hC.2.1
  intro n
  induction n with
  | zero =>
    intro x2 x3 H locs ls hf
    cases (show (none : Option (Int32 × (Nat → Int32))) = some _ from hf)
  | succ n hrc =>
    intro x2 x3 H locs ls hf hl hw
    replace hf : fn_X10_by_b17 c_t_apart x1 (fn_X10_by_l17 c_t_apart x1 k n) k x2 x3 = some (r, z_t_apart) := hf
    unfold fn_X10_by_b17 at hf
    refine lv_iload_n hx hb dX10_by_17 rfl (lv_at hl 3 rfl) ?_
    refine lv_sipush (v := 144) hx hb dX10_by_18 (by decide) ?_
    refine lv_icmp_ge (tgt := 124) hx hb dX10_by_21 (by decide) (fun hc => ?_) (fun hc => ?_)
    · replace hf := it_t hc hf
      exact hk x2 _ _ _ hf (lv_sub hl [2] rfl) hw
    · replace hf := it_f hc hf
      refine lv_iload_n hx hb dX10_by_24 rfl (lv_at hl 3 rfl) ?_
      refine lv_bipush (v := 12) hx hb dX10_by_25 (by decide) ?_
      refine lv_idiv hx hb dX10_by_27 (by decide) ?_
      refine lv_istore (lv' := [(4, .int (x3 / 12)), (0, .ref A_t), (1, .int x1), (2, .int x2), (3, .int x3)]) hx hb dX10_by_28 hl (by decide) rfl (fun ls hl => ?_)
      refine lv_iload_n hx hb dX10_by_30 rfl (lv_at hl 4 rfl) ?_
      refine lv_bipush (v := 12) hx hb dX10_by_31 (by decide) ?_
      refine lv_irem hx hb dX10_by_33 (by decide) ?_
      refine lv_istore (lv' := [(5, .int (x3 - x3 / 12 * 12)), (4, .int (x3 / 12)), (0, .ref A_t), (1, .int x1), (2, .int x2), (3, .int x3)]) hx hb dX10_by_34 hl (by decide) rfl (fun ls hl => ?_)
      refine lv_iload hx hb dX10_by_36 (lv_at hl 1 rfl) ?_
      refine lv_iload hx hb dX10_by_38 (lv_at hl 0 rfl) ?_
      refine lv_icmp_eq (tgt := 70) hx hb dX10_by_40 (by decide) (fun hc => ?_) (fun hc => ?_)
      · replace hf := it_t hc hf
        exact wn_X10_by_j70 hC hret hrc hk hf (lv_sub hl [2, 3, 4, 5, 1, 0] rfl) hw
      · replace hf := it_f hc hf
        refine lv_iload hx hb dX10_by_43 (lv_at hl 1 rfl) ?_
        refine lv_iload_n hx hb dX10_by_45 rfl (lv_at hl 3 rfl) ?_
        refine lv_icmp_eq (tgt := 70) hx hb dX10_by_46 (by decide) (fun hc => ?_) (fun hc => ?_)
        · replace hf := it_t hc hf
          exact wn_X10_by_j70 hC hret hrc hk hf (lv_sub hl [2, 3, 4, 5, 1, 0] rfl) hw
        · replace hf := it_f hc hf
          refine lv_iload hx hb dX10_by_49 (lv_at hl 0 rfl) ?_
          refine lv_iload_n hx hb dX10_by_51 rfl (lv_at hl 3 rfl) ?_
          refine lv_icmp_eq (tgt := 70) hx hb dX10_by_52 (by decide) (fun hc => ?_) (fun hc => ?_)
          · replace hf := it_t hc hf
            exact wn_X10_by_j70 hC hret hrc hk hf (lv_sub hl [2, 3, 4, 5, 1, 0] rfl) hw
          · replace hf := it_f hc hf
            refine lv_aload_n hx hb dX10_by_55 rfl (lv_at hl 2 rfl) ?_
            refine lv_iload hx hb dX10_by_56 (lv_at hl 1 rfl) ?_
            refine lv_iload hx hb dX10_by_58 (lv_at hl 0 rfl) ?_
            obtain ⟨r9, hq10, hf⟩ := b1_s hf
            refine h_cVi hC hw mvX10_215 (cn_X10_hasWay l G A_t A_t_steps A_t_wet A_t_where A_t_home A_t_light A_t_carries A_t_sightPlace A_t_sightLight A_t_pad A_t_act A_t_whose A_t_whom A_t_tens A_t_had A_t_leaves A_t_apart A_t_stop A_t_restOf A_t_group A_t_along A_t_kept A_t_isKept c_t_foggy c_t_walkers c_t_sights c_t_padMany c_t_acts c_t_spent c_t_walks c_t_badAct c_t_badWhy c_t_keptAt c_t_isWriting c_t_apart (x3 / 12) (x3 - x3 / 12 * 12) r9 hq10) [0, 3] rfl (by decide) 0 rfl rfl rfl hl.1 rfl (Nat.le_of_ble_eq_true rfl) ⟨Nat.le_of_ble_eq_true rfl, Nat.le_of_ble_eq_true rfl⟩ ⟨Nat.le_refl _, Nat.le_refl _⟩ dX10_by_60 (fun H locs hw => ?_)
            refine lv_if_eq (tgt := 70) hx hb dX10_by_63 (by decide) (fun hc => ?_) (fun hc => ?_)
            · replace hf := it_t hc hf
              exact wn_X10_by_j70 hC hret hrc hk hf (lv_sub hl [2, 3, 4, 5, 1, 0] rfl) hw
            · replace hf := it_f hc hf
              refine lv_iconst (v := 1) hx hb dX10_by_66 (by decide) ?_
              refine lv_goto (tgt := 71) hx hb dX10_by_67 (by decide) ?_
              exact wn_X10_by_j71 hC hret hrc hk hf (lv_sub hl [2, 3, 4, 5, 1, 0] rfl) hw
set_option maxHeartbeats 4000000 in
set_option maxRecDepth 100000 in
theorem wn_X10_by {p : Program} {l : Launch} {e : Env} {s : State} {m : MethodId} {args : Array Value} {below : List Frame} {meth : Method} {c : Code} {G : gw_} {A : Nat → Prop} {Q : State → Prop} {A_t : Nat} {A_t_steps : Nat} {A_t_wet : Nat} {A_t_where : Nat} {A_t_home : Nat} {A_t_light : Nat} {A_t_carries : Nat} {A_t_sightPlace : Nat} {A_t_sightLight : Nat} {A_t_pad : Nat} {A_t_act : Nat} {A_t_whose : Nat} {A_t_whom : Nat} {A_t_tens : Nat} {A_t_had : Nat} {A_t_leaves : Nat} {A_t_apart : Nat} {A_t_stop : Nat} {A_t_restOf : Nat} {A_t_group : Nat} {A_t_along : Nat} {A_t_kept : Nat} {A_t_isKept : Nat} {c_t_foggy : Int32} {c_t_walkers : Int32} {c_t_sights : Int32} {c_t_padMany : Int32} {c_t_acts : Int32} {c_t_spent : Int32} {c_t_walks : Int32} {c_t_badAct : Int32} {c_t_badWhy : Int32} {c_t_keptAt : Int32} {c_t_isWriting : Int32} {c_t_steps : Nat → Int32} {c_t_wet : Nat → Int32} {c_t_apart : Nat → Int32} {z_t_apart : Nat → Int32} {r : Int32} {x1 : Int32} (hC : cx_ p s m c G cX10_by 7 RX10) (hret : ∀ (pc : Nat) (H : Heap) (locs : List Loc) (ls : Array Slot), decode cX10_by pc = .ok (.ireturn, 1) → wd_ G A s.heap (wl_X10_by G A_t A_t_steps A_t_wet A_t_where A_t_home A_t_light A_t_carries A_t_sightPlace A_t_sightLight A_t_pad A_t_act A_t_whose A_t_whom A_t_tens A_t_had A_t_leaves A_t_apart A_t_stop A_t_restOf A_t_group A_t_along A_t_kept A_t_isKept c_t_foggy c_t_walkers c_t_sights c_t_padMany c_t_acts c_t_spent c_t_walks c_t_badAct c_t_badWhy c_t_keptAt c_t_isWriting c_t_steps c_t_wet z_t_apart) H locs → W p l e { frames := 4, cells := 0, slots := 0, locals := 91 } s m args below meth c H locs 0 0 Q (F0 m pc ls [.int r])) (hf : fn_X10_by c_t_foggy c_t_steps c_t_wet c_t_apart x1 = some (r, z_t_apart)) {H : Heap} {locs : List Loc} {ls : Array Slot} (hl : lv_has ls 7 [(0, .ref A_t), (1, .int x1)]) (hw : wd_ G A s.heap (wl_X10_by G A_t A_t_steps A_t_wet A_t_where A_t_home A_t_light A_t_carries A_t_sightPlace A_t_sightLight A_t_pad A_t_act A_t_whose A_t_whom A_t_tens A_t_had A_t_leaves A_t_apart A_t_stop A_t_restOf A_t_group A_t_along A_t_kept A_t_isKept c_t_foggy c_t_walkers c_t_sights c_t_padMany c_t_acts c_t_spent c_t_walks c_t_badAct c_t_badWhy c_t_keptAt c_t_isWriting c_t_steps c_t_wet c_t_apart) H locs) : W p l e { frames := 4, cells := 0, slots := 0, locals := 91 } s m args below meth c H locs 0 0 Q (F0 m 0 ls []) := by
  have hx := hC.1
  have hb := hC.2.1
  unfold fn_X10_by at hf
  refine lv_iload_n hx hb dX10_by_0 rfl (lv_at hl 1 rfl) ?_
  obtain ⟨r1, hq2, hf⟩ := b1_s hf
  refine h_cSi hC hw msX10_100 (cn_X10_isPlace l G x1 r1 hq2) [] rfl (by decide) rfl hl.1 rfl (Nat.le_of_ble_eq_true rfl) ⟨Nat.le_of_ble_eq_true rfl, Nat.le_of_ble_eq_true rfl⟩ ⟨Nat.le_refl _, Nat.le_refl _⟩ dX10_by_1 (fun H locs hw => ?_)
  refine lv_if_ne (tgt := 9) hx hb dX10_by_4 (by decide) (fun hc => ?_) (fun hc => ?_)
  · replace hf := it_f hc hf
    refine lv_aload_n hx hb dX10_by_9 rfl (lv_at hl 0 rfl) ?_
    obtain ⟨w3, hq4, hf⟩ := b1_s hf
    refine g_cVv hC hw mvX10_219 (cn_X10_findWays l G A_t A_t_steps A_t_wet A_t_where A_t_home A_t_light A_t_carries A_t_sightPlace A_t_sightLight A_t_pad A_t_act A_t_whose A_t_whom A_t_tens A_t_had A_t_leaves A_t_apart A_t_stop A_t_restOf A_t_group A_t_along A_t_kept A_t_isKept c_t_foggy c_t_walkers c_t_sights c_t_padMany c_t_acts c_t_spent c_t_walks c_t_badAct c_t_badWhy c_t_keptAt c_t_isWriting c_t_steps c_t_wet c_t_apart w3 hq4) [0, 1, 2, 3] rfl (by decide) rfl 0 rfl rfl rfl hl.1 rfl (Nat.le_of_ble_eq_true rfl) ⟨Nat.le_of_ble_eq_true rfl, Nat.le_of_ble_eq_true rfl⟩ ⟨Nat.le_refl _, Nat.le_refl _⟩ dX10_by_10 (fun H locs hw => ?_)
    have hw : wd_ G A s.heap (wl_X10_by G A_t A_t_steps A_t_wet A_t_where A_t_home A_t_light A_t_carries A_t_sightPlace A_t_sightLight A_t_pad A_t_act A_t_whose A_t_whom A_t_tens A_t_had A_t_leaves A_t_apart A_t_stop A_t_restOf A_t_group A_t_along A_t_kept A_t_isKept c_t_foggy c_t_walkers c_t_sights c_t_padMany c_t_acts c_t_spent c_t_walks c_t_badAct c_t_badWhy c_t_keptAt c_t_isWriting c_t_steps c_t_wet w3) H locs := hw
    refine lv_iconst (v := 0) hx hb dX10_by_13 (by decide) ?_
    refine lv_istore_n (lv' := [(2, .int 0), (0, .ref A_t), (1, .int x1)]) hx hb dX10_by_14 rfl hl (by decide) rfl (fun ls hl => ?_)
    refine lv_iconst (v := 0) hx hb dX10_by_15 (by decide) ?_
    refine lv_istore_n (lv' := [(3, .int 0), (2, .int 0), (0, .ref A_t), (1, .int x1)]) hx hb dX10_by_16 rfl hl (by decide) rfl (fun ls hl => ?_)
    refine wn_X10_by_l17 hC hret (fun v11 H locs ls hf hl hw => ?_) fu_ 0 0 _ _ _ hf (lv_sub hl [2, 3, 1, 0] rfl) hw
    refine lv_iload_n hx hb dX10_by_124 rfl (lv_at hl 0 rfl) ?_
    obtain ⟨h1_, h2_⟩ := t2_ hf
    subst h1_
    subst h2_
    exact hret _ _ _ _ dX10_by_125 hw
  · replace hf := it_t hc hf
    refine lv_iconst (v := (-1)) hx hb dX10_by_7 (by decide) ?_
    obtain ⟨h1_, h2_⟩ := t2_ hf
    subst h1_
    subst h2_
    exact hret _ _ _ _ dX10_by_8 hw
set_option maxHeartbeats 4000000 in
set_option maxRecDepth 100000 in
theorem cn_X10_by (l : Launch) (G : gw_) (A_t : Nat) (A_t_steps : Nat) (A_t_wet : Nat) (A_t_where : Nat) (A_t_home : Nat) (A_t_light : Nat) (A_t_carries : Nat) (A_t_sightPlace : Nat) (A_t_sightLight : Nat) (A_t_pad : Nat) (A_t_act : Nat) (A_t_whose : Nat) (A_t_whom : Nat) (A_t_tens : Nat) (A_t_had : Nat) (A_t_leaves : Nat) (A_t_apart : Nat) (A_t_stop : Nat) (A_t_restOf : Nat) (A_t_group : Nat) (A_t_along : Nat) (A_t_kept : Nat) (A_t_isKept : Nat) (c_t_foggy : Int32) (c_t_walkers : Int32) (c_t_sights : Int32) (c_t_padMany : Int32) (c_t_acts : Int32) (c_t_spent : Int32) (c_t_walks : Int32) (c_t_badAct : Int32) (c_t_badWhy : Int32) (c_t_keptAt : Int32) (c_t_isWriting : Int32) (c_t_steps : Nat → Int32) (c_t_wet : Nat → Int32) (c_t_apart : Nat → Int32) (x1 : Int32) (r : Int32) (z_t_apart : Nat → Int32) (hf : fn_X10_by c_t_foggy c_t_steps c_t_wet c_t_apart x1 = some (r, z_t_apart)) : ci_ l G yX10_by cX10_by 7 (some .int) 4 91 (wl_X10_by G A_t A_t_steps A_t_wet A_t_where A_t_home A_t_light A_t_carries A_t_sightPlace A_t_sightLight A_t_pad A_t_act A_t_whose A_t_whom A_t_tens A_t_had A_t_leaves A_t_apart A_t_stop A_t_restOf A_t_group A_t_along A_t_kept A_t_isKept c_t_foggy c_t_walkers c_t_sights c_t_padMany c_t_acts c_t_spent c_t_walks c_t_badAct c_t_badWhy c_t_keptAt c_t_isWriting c_t_steps c_t_wet c_t_apart) [.ref A_t, .int x1] r (wl_X10_by G A_t A_t_steps A_t_wet A_t_where A_t_home A_t_light A_t_carries A_t_sightPlace A_t_sightLight A_t_pad A_t_act A_t_whose A_t_whom A_t_tens A_t_had A_t_leaves A_t_apart A_t_stop A_t_restOf A_t_group A_t_along A_t_kept A_t_isKept c_t_foggy c_t_walkers c_t_sights c_t_padMany c_t_acts c_t_spent c_t_walks c_t_badAct c_t_badWhy c_t_keptAt c_t_isWriting c_t_steps c_t_wet z_t_apart) := fun sz => met_intro (by decide) (Nat.le_of_ble_eq_true rfl) (fun p e s m args below meth c ls hsz hC hr hlk hnm hl hw => wn_X10_by hC (fun pc H locs ls hd hw => g_iret hC hr hlk hw rfl rfl hd) hf hl hw)
