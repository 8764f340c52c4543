theorem dX10_carrierOf_0 : decode cX10_carrierOf 0 = .ok (.bipush (-6), 2) := by decide +kernel
theorem dX10_carrierOf_2 : decode cX10_carrierOf 2 = .ok (.istore_n 2, 1) := by decide +kernel
theorem dX10_carrierOf_3 : decode cX10_carrierOf 3 = .ok (.iconst 0, 1) := by decide +kernel
theorem dX10_carrierOf_4 : decode cX10_carrierOf 4 = .ok (.istore_n 3, 1) := by decide +kernel
theorem dX10_carrierOf_5 : decode cX10_carrierOf 5 = .ok (.iload_n 3, 1) := by decide +kernel
theorem dX10_carrierOf_6 : decode cX10_carrierOf 6 = .ok (.bipush 6, 2) := by decide +kernel
theorem dX10_carrierOf_8 : decode cX10_carrierOf 8 = .ok (.if_icmp .ge 33, 3) := by decide +kernel
theorem dX10_carrierOf_11 : decode cX10_carrierOf 11 = .ok (.aload_n 0, 1) := by decide +kernel
theorem dX10_carrierOf_12 : decode cX10_carrierOf 12 = .ok (.iload_n 3, 1) := by decide +kernel
theorem dX10_carrierOf_13 : decode cX10_carrierOf 13 = .ok (.invokevirtual 106, 3) := by decide +kernel
theorem dX10_carrierOf_16 : decode cX10_carrierOf 16 = .ok (.ifCond .eq 17, 3) := by decide +kernel
theorem dX10_carrierOf_19 : decode cX10_carrierOf 19 = .ok (.aload_n 0, 1) := by decide +kernel
theorem dX10_carrierOf_20 : decode cX10_carrierOf 20 = .ok (.getfield 25, 3) := by decide +kernel
theorem dX10_carrierOf_23 : decode cX10_carrierOf 23 = .ok (.iload_n 3, 1) := by decide +kernel
theorem dX10_carrierOf_24 : decode cX10_carrierOf 24 = .ok (.iaload, 1) := by decide +kernel
theorem dX10_carrierOf_25 : decode cX10_carrierOf 25 = .ok (.iload_n 1, 1) := by decide +kernel
theorem dX10_carrierOf_26 : decode cX10_carrierOf 26 = .ok (.if_icmp .ne 7, 3) := by decide +kernel
theorem dX10_carrierOf_29 : decode cX10_carrierOf 29 = .ok (.iload_n 3, 1) := by decide +kernel
theorem dX10_carrierOf_30 : decode cX10_carrierOf 30 = .ok (.goto 4, 3) := by decide +kernel
theorem dX10_carrierOf_33 : decode cX10_carrierOf 33 = .ok (.iload_n 2, 1) := by decide +kernel
theorem dX10_carrierOf_34 : decode cX10_carrierOf 34 = .ok (.istore_n 2, 1) := by decide +kernel
theorem dX10_carrierOf_35 : decode cX10_carrierOf 35 = .ok (.iinc 3 1, 3) := by decide +kernel
theorem dX10_carrierOf_38 : decode cX10_carrierOf 38 = .ok (.goto (-33), 3) := by decide +kernel
theorem dX10_carrierOf_41 : decode cX10_carrierOf 41 = .ok (.iload_n 2, 1) := by decide +kernel
theorem dX10_carrierOf_42 : decode cX10_carrierOf 42 = .ok (.ireturn, 1) := by decide +kernel
abbrev wl_X10_carrierOf (G : gw_) (A_t : Nat) (A_t_steps : Nat) (A_t_wet : Nat) (A_t_where : Nat) (A_t_home : Nat) (A_t_light : Nat) (A_t_carries : Nat) (A_t_sightPlace : Nat) (A_t_sightLight : Nat) (A_t_pad : Nat) (A_t_act : Nat) (A_t_whose : Nat) (A_t_whom : Nat) (A_t_tens : Nat) (A_t_had : Nat) (A_t_leaves : Nat) (A_t_apart : Nat) (A_t_stop : Nat) (A_t_restOf : Nat) (A_t_group : Nat) (A_t_along : Nat) (A_t_kept : Nat) (A_t_isKept : Nat) (c_t_foggy : Int32) (c_t_walkers : Int32) (c_t_sights : Int32) (c_t_padMany : Int32) (c_t_acts : Int32) (c_t_spent : Int32) (c_t_walks : Int32) (c_t_badAct : Int32) (c_t_badWhy : Int32) (c_t_keptAt : Int32) (c_t_isWriting : Int32) (c_t_carries : Nat → Int32) : va_W := [ob_ A_t 10 [.ref A_t_steps, .ref A_t_wet, .int c_t_foggy, .int c_t_walkers, .ref A_t_where, .ref A_t_home, .ref A_t_light, .ref A_t_carries, .ref A_t_sightPlace, .ref A_t_sightLight, .int c_t_sights, .ref A_t_pad, .int c_t_padMany, .ref A_t_act, .ref A_t_whose, .ref A_t_whom, .ref A_t_tens, .int c_t_acts, .int c_t_spent, .int c_t_walks, .ref A_t_had, .ref A_t_leaves, .int c_t_badAct, .int c_t_badWhy, .ref A_t_apart, .ref A_t_stop, .ref A_t_restOf, .ref A_t_group, .ref A_t_along, .ref A_t_kept, .ref A_t_isKept, .int c_t_keptAt, .int c_t_isWriting], ia_ G A_t_carries 6 c_t_carries]
def fn_X10_carrierOf_b5 (c_t_walkers : Int32) (c_t_carries : Nat → Int32) (x1 : Int32) (rc : Int32 → Int32 → Option (Int32)) (k : Int32 → Option (Int32)) (x2 : Int32) (x3 : Int32) : Option (Int32) :=
  if 6 ≤ x3 then
    k x2
  else
    b1_ (fn_X10_isWalker c_t_walkers x3) fun r1 =>
    if r1 = 0 then
      rc x2 (x3 + 1)
    else
      ck_ x3 6 <|
      if (c_t_carries (Int32.toNatClampNeg x3)) = x1 then
        rc x3 (x3 + 1)
      else
        rc x2 (x3 + 1)
def fn_X10_carrierOf_l5 (c_t_walkers : Int32) (c_t_carries : Nat → Int32) (x1 : Int32) (k : Int32 → Option (Int32)) : Nat → Int32 → Int32 → Option (Int32)
  | 0 => fun _ _ => none
  | n + 1 => fun x2 x3 => fn_X10_carrierOf_b5 c_t_walkers c_t_carries x1 (fn_X10_carrierOf_l5 c_t_walkers c_t_carries x1 k n) k x2 x3
def fn_X10_carrierOf (c_t_walkers : Int32) (c_t_carries : Nat → Int32) (x1 : Int32) : Option (Int32) :=
  fn_X10_carrierOf_l5 c_t_walkers c_t_carries x1 (fun v3 =>
    some v3) fu_ (-6) 0
set_option maxHeartbeats 4000000 in
set_option maxRecDepth 100000 in
theorem wn_X10_carrierOf_l5 {p : Program} {l : Launch} {e : Env} {s : State} {m : MethodId} {args : Array Value} {below : List Frame} {meth : Method} {c : Code} {G : gw_} {A : Nat → Prop} {Q : State → Prop} {A_t : Nat} {A_t_steps : Nat} {A_t_wet : Nat} {A_t_where : Nat} {A_t_home : Nat} {A_t_light : Nat} {A_t_carries : Nat} {A_t_sightPlace : Nat} {A_t_sightLight : Nat} {A_t_pad : Nat} {A_t_act : Nat} {A_t_whose : Nat} {A_t_whom : Nat} {A_t_tens : Nat} {A_t_had : Nat} {A_t_leaves : Nat} {A_t_apart : Nat} {A_t_stop : Nat} {A_t_restOf : Nat} {A_t_group : Nat} {A_t_along : Nat} {A_t_kept : Nat} {A_t_isKept : Nat} {c_t_foggy : Int32} {c_t_walkers : Int32} {c_t_sights : Int32} {c_t_padMany : Int32} {c_t_acts : Int32} {c_t_spent : Int32} {c_t_walks : Int32} {c_t_badAct : Int32} {c_t_badWhy : Int32} {c_t_keptAt : Int32} {c_t_isWriting : Int32} {c_t_carries : Nat → Int32} {r : Int32} {x1 : Int32} {k : Int32 → Option (Int32)} (hC : cx_ p s m c G cX10_carrierOf 4 RX10) (hret : ∀ (pc : Nat) (H : Heap) (locs : List Loc) (ls : Array Slot), decode cX10_carrierOf pc = .ok (.ireturn, 1) → wd_ G A s.heap (wl_X10_carrierOf G A_t A_t_steps A_t_wet A_t_where A_t_home A_t_light A_t_carries A_t_sightPlace A_t_sightLight A_t_pad A_t_act A_t_whose A_t_whom A_t_tens A_t_had A_t_leaves A_t_apart A_t_stop A_t_restOf A_t_group A_t_along A_t_kept A_t_isKept c_t_foggy c_t_walkers c_t_sights c_t_padMany c_t_acts c_t_spent c_t_walks c_t_badAct c_t_badWhy c_t_keptAt c_t_isWriting c_t_carries) H locs → W p l e { frames := 2, cells := 0, slots := 0, locals := 46 } s m args below meth c H locs 0 0 Q (F0 m pc ls [.int r])) (hk : ∀ (x2 : Int32) (H : Heap) (locs : List Loc) (ls : Array Slot), k x2 = some r → lv_has ls 4 [(2, .int x2)] → wd_ G A s.heap (wl_X10_carrierOf G A_t A_t_steps A_t_wet A_t_where A_t_home A_t_light A_t_carries A_t_sightPlace A_t_sightLight A_t_pad A_t_act A_t_whose A_t_whom A_t_tens A_t_had A_t_leaves A_t_apart A_t_stop A_t_restOf A_t_group A_t_along A_t_kept A_t_isKept c_t_foggy c_t_walkers c_t_sights c_t_padMany c_t_acts c_t_spent c_t_walks c_t_badAct c_t_badWhy c_t_keptAt c_t_isWriting c_t_carries) H locs → W p l e { frames := 2, cells := 0, slots := 0, locals := 46 } s m args below meth c H locs 0 0 Q (F0 m 41 ls [])) : ∀ (n : Nat) (x2 : Int32) (x3 : Int32) (H : Heap) (locs : List Loc) (ls : Array Slot), fn_X10_carrierOf_l5 c_t_walkers c_t_carries x1 k n x2 x3 = some r → lv_has ls 4 [(0, .ref A_t), (1, .int x1), (2, .int x2), (3, .int x3)] → wd_ G A s.heap (wl_X10_carrierOf G A_t A_t_steps A_t_wet A_t_where A_t_home A_t_light A_t_carries A_t_sightPlace A_t_sightLight A_t_pad A_t_act A_t_whose A_t_whom A_t_tens A_t_had A_t_leaves A_t_apart A_t_stop A_t_restOf A_t_group A_t_along A_t_kept A_t_isKept c_t_foggy c_t_walkers c_t_sights c_t_padMany c_t_acts c_t_spent c_t_walks c_t_badAct c_t_badWhy c_t_keptAt c_t_isWriting c_t_carries) H locs → W p l e { frames := 2, cells := 0, slots := 0, locals := 46 } s m args below meth c H locs 0 0 Q (F0 m 5 ls []) := by
  have hx := hC.1
  have hb := hC.2.1
  intro n
  induction n with
  | zero =>
    intro x2 x3 H locs ls hf
    cases (show (none : Option (Int32)) = some _ from hf)
  | succ n hrc =>
    intro x2 x3 H locs ls hf hl hw
    replace hf : fn_X10_carrierOf_b5 c_t_walkers c_t_carries x1 (fn_X10_carrierOf_l5 c_t_walkers c_t_carries x1 k n) k x2 x3 = some r := hf
    unfold fn_X10_carrierOf_b5 at hf
    refine lv_iload_n hx hb dX10_carrierOf_5 rfl (lv_at hl 3 rfl) ?_
    refine lv_bipush (v := 6) hx hb dX10_carrierOf_6 (by decide) ?_
    refine lv_icmp_ge (tgt := 41) hx hb dX10_carrierOf_8 (by decide) (fun hc => ?_) (fun hc => ?_)
    · replace hf := it_t hc hf
      exact hk x2 _ _ _ hf (lv_sub hl [2] rfl) hw
    · replace hf := it_f hc hf
      refine lv_aload_n hx hb dX10_carrierOf_11 rfl (lv_at hl 0 rfl) ?_
      refine lv_iload_n hx hb dX10_carrierOf_12 rfl (lv_at hl 3 rfl) ?_
      obtain ⟨r1, hq2, hf⟩ := b1_s hf
      refine h_cVi hC hw mvX10_106 (cn_X10_isWalker l G A_t A_t_steps A_t_wet A_t_where A_t_home A_t_light A_t_carries A_t_sightPlace A_t_sightLight A_t_pad A_t_act A_t_whose A_t_whom A_t_tens A_t_had A_t_leaves A_t_apart A_t_stop A_t_restOf A_t_group A_t_along A_t_kept A_t_isKept c_t_foggy c_t_walkers c_t_sights c_t_padMany c_t_acts c_t_spent c_t_walks c_t_badAct c_t_badWhy c_t_keptAt c_t_isWriting x3 r1 hq2) [0] rfl (by decide) 0 rfl rfl rfl hl.1 rfl (Nat.le_of_ble_eq_true rfl) ⟨Nat.le_of_ble_eq_true rfl, Nat.le_of_ble_eq_true rfl⟩ ⟨Nat.le_refl _, Nat.le_refl _⟩ dX10_carrierOf_13 (fun H locs hw => ?_)
      refine lv_if_eq (tgt := 33) hx hb dX10_carrierOf_16 (by decide) (fun hc => ?_) (fun hc => ?_)
      · replace hf := it_t hc hf
        refine lv_iload_n hx hb dX10_carrierOf_33 rfl (lv_at hl 2 rfl) ?_
        refine lv_istore_n (lv' := [(2, .int x2), (0, .ref A_t), (1, .int x1), (3, .int x3)]) hx hb dX10_carrierOf_34 rfl hl (by decide) rfl (fun ls hl => ?_)
        refine lv_iinc (v := x3 + 1) (lv' := [(3, .int (x3 + 1)), (2, .int x2), (0, .ref A_t), (1, .int x1)]) hx hb dX10_carrierOf_35 hl (k := 3) rfl rfl (by decide) rfl (fun ls hl => ?_)
        refine lv_goto (tgt := 5) hx hb dX10_carrierOf_38 (by decide) ?_
        exact hrc x2 (x3 + 1) _ _ _ hf (lv_sub hl [2, 3, 1, 0] rfl) hw
      · replace hf := it_f hc hf
        refine lv_aload_n hx hb dX10_carrierOf_19 rfl (lv_at hl 0 rfl) ?_
        refine g_get hC hw fkX10_25 0 rfl rfl dX10_carrierOf_20 ?_
        refine lv_iload_n hx hb dX10_carrierOf_23 rfl (lv_at hl 3 rfl) ?_
        obtain ⟨hi, hf⟩ := ck_s hf
        refine g_iald hC hw 1 rfl hi dX10_carrierOf_24 ?_
        refine lv_iload_n hx hb dX10_carrierOf_25 rfl (lv_at hl 1 rfl) ?_
        refine lv_icmp_ne (tgt := 33) hx hb dX10_carrierOf_26 (by decide) (fun hc => ?_) (fun hc => ?_)
        · replace hf := it_f hc hf
          refine lv_iload_n hx hb dX10_carrierOf_33 rfl (lv_at hl 2 rfl) ?_
          refine lv_istore_n (lv' := [(2, .int x2), (0, .ref A_t), (1, .int x1), (3, .int x3)]) hx hb dX10_carrierOf_34 rfl hl (by decide) rfl (fun ls hl => ?_)
          refine lv_iinc (v := x3 + 1) (lv' := [(3, .int (x3 + 1)), (2, .int x2), (0, .ref A_t), (1, .int x1)]) hx hb dX10_carrierOf_35 hl (k := 3) rfl rfl (by decide) rfl (fun ls hl => ?_)
          refine lv_goto (tgt := 5) hx hb dX10_carrierOf_38 (by decide) ?_
          exact hrc x2 (x3 + 1) _ _ _ hf (lv_sub hl [2, 3, 1, 0] rfl) hw
        · replace hf := it_t hc hf
          refine lv_iload_n hx hb dX10_carrierOf_29 rfl (lv_at hl 3 rfl) ?_
          refine lv_goto (tgt := 34) hx hb dX10_carrierOf_30 (by decide) ?_
          refine lv_istore_n (lv' := [(2, .int x3), (0, .ref A_t), (1, .int x1), (3, .int x3)]) hx hb dX10_carrierOf_34 rfl hl (by decide) rfl (fun ls hl => ?_)
          refine lv_iinc (v := x3 + 1) (lv' := [(3, .int (x3 + 1)), (2, .int x3), (0, .ref A_t), (1, .int x1)]) hx hb dX10_carrierOf_35 hl (k := 3) rfl rfl (by decide) rfl (fun ls hl => ?_)
          refine lv_goto (tgt := 5) hx hb dX10_carrierOf_38 (by decide) ?_
          exact hrc x3 (x3 + 1) _ _ _ hf (lv_sub hl [2, 3, 1, 0] rfl) hw
set_option maxHeartbeats 4000000 in
set_option maxRecDepth 100000 in
theorem wn_X10_carrierOf {p : Program} {l : Launch} {e : Env} {s : State} {m : MethodId} {args : Array Value} {below : List Frame} {meth : Method} {c : Code} {G : gw_} {A : Nat → Prop} {Q : State → Prop} {A_t : Nat} {A_t_steps : Nat} {A_t_wet : Nat} {A_t_where : Nat} {A_t_home : Nat} {A_t_light : Nat} {A_t_carries : Nat} {A_t_sightPlace : Nat} {A_t_sightLight : Nat} {A_t_pad : Nat} {A_t_act : Nat} {A_t_whose : Nat} {A_t_whom : Nat} {A_t_tens : Nat} {A_t_had : Nat} {A_t_leaves : Nat} {A_t_apart : Nat} {A_t_stop : Nat} {A_t_restOf : Nat} {A_t_group : Nat} {A_t_along : Nat} {A_t_kept : Nat} {A_t_isKept : Nat} {c_t_foggy : Int32} {c_t_walkers : Int32} {c_t_sights : Int32} {c_t_padMany : Int32} {c_t_acts : Int32} {c_t_spent : Int32} {c_t_walks : Int32} {c_t_badAct : Int32} {c_t_badWhy : Int32} {c_t_keptAt : Int32} {c_t_isWriting : Int32} {c_t_carries : Nat → Int32} {r : Int32} {x1 : Int32} (hC : cx_ p s m c G cX10_carrierOf 4 RX10) (hret : ∀ (pc : Nat) (H : Heap) (locs : List Loc) (ls : Array Slot), decode cX10_carrierOf pc = .ok (.ireturn, 1) → wd_ G A s.heap (wl_X10_carrierOf G A_t A_t_steps A_t_wet A_t_where A_t_home A_t_light A_t_carries A_t_sightPlace A_t_sightLight A_t_pad A_t_act A_t_whose A_t_whom A_t_tens A_t_had A_t_leaves A_t_apart A_t_stop A_t_restOf A_t_group A_t_along A_t_kept A_t_isKept c_t_foggy c_t_walkers c_t_sights c_t_padMany c_t_acts c_t_spent c_t_walks c_t_badAct c_t_badWhy c_t_keptAt c_t_isWriting c_t_carries) H locs → W p l e { frames := 2, cells := 0, slots := 0, locals := 46 } s m args below meth c H locs 0 0 Q (F0 m pc ls [.int r])) (hf : fn_X10_carrierOf c_t_walkers c_t_carries x1 = some r) {H : Heap} {locs : List Loc} {ls : Array Slot} (hl : lv_has ls 4 [(0, .ref A_t), (1, .int x1)]) (hw : wd_ G A s.heap (wl_X10_carrierOf G A_t A_t_steps A_t_wet A_t_where A_t_home A_t_light A_t_carries A_t_sightPlace A_t_sightLight A_t_pad A_t_act A_t_whose A_t_whom A_t_tens A_t_had A_t_leaves A_t_apart A_t_stop A_t_restOf A_t_group A_t_along A_t_kept A_t_isKept c_t_foggy c_t_walkers c_t_sights c_t_padMany c_t_acts c_t_spent c_t_walks c_t_badAct c_t_badWhy c_t_keptAt c_t_isWriting c_t_carries) H locs) : W p l e { frames := 2, cells := 0, slots := 0, locals := 46 } s m args below meth c H locs 0 0 Q (F0 m 0 ls []) := by
  have hx := hC.1
  have hb := hC.2.1
  unfold fn_X10_carrierOf at hf
  refine lv_bipush (v := (-6)) hx hb dX10_carrierOf_0 (by decide) ?_
  refine lv_istore_n (lv' := [(2, .int (-6)), (0, .ref A_t), (1, .int x1)]) hx hb dX10_carrierOf_2 rfl hl (by decide) rfl (fun ls hl => ?_)
  refine lv_iconst (v := 0) hx hb dX10_carrierOf_3 (by decide) ?_
  refine lv_istore_n (lv' := [(3, .int 0), (2, .int (-6)), (0, .ref A_t), (1, .int x1)]) hx hb dX10_carrierOf_4 rfl hl (by decide) rfl (fun ls hl => ?_)
  refine wn_X10_carrierOf_l5 hC hret (fun v3 H locs ls hf hl hw => ?_) fu_ (-6) 0 _ _ _ hf (lv_sub hl [2, 3, 1, 0] rfl) hw
  refine lv_iload_n hx hb dX10_carrierOf_41 rfl (lv_at hl 0 rfl) ?_
  have h1_ := t1_ hf
  subst h1_
  exact hret _ _ _ _ dX10_carrierOf_42 hw
set_option maxHeartbeats 4000000 in
set_option maxRecDepth 100000 in
theorem cn_X10_carrierOf (l : Launch) (G : gw_) (A_t : Nat) (A_t_steps : Nat) (A_t_wet : Nat) (A_t_where : Nat) (A_t_home : Nat) (A_t_light : Nat) (A_t_carries : Nat) (A_t_sightPlace : Nat) (A_t_sightLight : Nat) (A_t_pad : Nat) (A_t_act : Nat) (A_t_whose : Nat) (A_t_whom : Nat) (A_t_tens : Nat) (A_t_had : Nat) (A_t_leaves : Nat) (A_t_apart : Nat) (A_t_stop : Nat) (A_t_restOf : Nat) (A_t_group : Nat) (A_t_along : Nat) (A_t_kept : Nat) (A_t_isKept : Nat) (c_t_foggy : Int32) (c_t_walkers : Int32) (c_t_sights : Int32) (c_t_padMany : Int32) (c_t_acts : Int32) (c_t_spent : Int32) (c_t_walks : Int32) (c_t_badAct : Int32) (c_t_badWhy : Int32) (c_t_keptAt : Int32) (c_t_isWriting : Int32) (c_t_carries : Nat → Int32) (x1 : Int32) (r : Int32) (hf : fn_X10_carrierOf c_t_walkers c_t_carries x1 = some r) : ci_ l G yX10_carrierOf cX10_carrierOf 4 (some .int) 2 46 (wl_X10_carrierOf G A_t A_t_steps A_t_wet A_t_where A_t_home A_t_light A_t_carries A_t_sightPlace A_t_sightLight A_t_pad A_t_act A_t_whose A_t_whom A_t_tens A_t_had A_t_leaves A_t_apart A_t_stop A_t_restOf A_t_group A_t_along A_t_kept A_t_isKept c_t_foggy c_t_walkers c_t_sights c_t_padMany c_t_acts c_t_spent c_t_walks c_t_badAct c_t_badWhy c_t_keptAt c_t_isWriting c_t_carries) [.ref A_t, .int x1] r (wl_X10_carrierOf G A_t A_t_steps A_t_wet A_t_where A_t_home A_t_light A_t_carries A_t_sightPlace A_t_sightLight A_t_pad A_t_act A_t_whose A_t_whom A_t_tens A_t_had A_t_leaves A_t_apart A_t_stop A_t_restOf A_t_group A_t_along A_t_kept A_t_isKept c_t_foggy c_t_walkers c_t_sights c_t_padMany c_t_acts c_t_spent c_t_walks c_t_badAct c_t_badWhy c_t_keptAt c_t_isWriting c_t_carries) := fun sz => met_intro (by decide) (Nat.le_of_ble_eq_true rfl) (fun p e s m args below meth c ls hsz hC hr hlk hnm hl hw => wn_X10_carrierOf hC (fun pc H locs ls hd hw => g_iret hC hr hlk hw rfl rfl hd) hf hl hw)

theorem dX10_letGo_0 : decode cX10_letGo 0 = .ok (.iconst 0, 1) := by decide +kernel
theorem dX10_letGo_1 : decode cX10_letGo 1 = .ok (.istore_n 2, 1) := by decide +kernel
theorem dX10_letGo_2 : decode cX10_letGo 2 = .ok (.iload_n 2, 1) := by decide +kernel
theorem dX10_letGo_3 : decode cX10_letGo 3 = .ok (.bipush 6, 2) := by decide +kernel
theorem dX10_letGo_5 : decode cX10_letGo 5 = .ok (.if_icmp .ge 36, 3) := by decide +kernel
theorem dX10_letGo_8 : decode cX10_letGo 8 = .ok (.aload_n 0, 1) := by decide +kernel
theorem dX10_letGo_9 : decode cX10_letGo 9 = .ok (.getfield 25, 3) := by decide +kernel
theorem dX10_letGo_12 : decode cX10_letGo 12 = .ok (.iload_n 2, 1) := by decide +kernel
theorem dX10_letGo_13 : decode cX10_letGo 13 = .ok (.aload_n 0, 1) := by decide +kernel
theorem dX10_letGo_14 : decode cX10_letGo 14 = .ok (.getfield 25, 3) := by decide +kernel
theorem dX10_letGo_17 : decode cX10_letGo 17 = .ok (.iload_n 2, 1) := by decide +kernel
theorem dX10_letGo_18 : decode cX10_letGo 18 = .ok (.iaload, 1) := by decide +kernel
theorem dX10_letGo_19 : decode cX10_letGo 19 = .ok (.iload_n 1, 1) := by decide +kernel
theorem dX10_letGo_20 : decode cX10_letGo 20 = .ok (.if_icmp .ne 8, 3) := by decide +kernel
theorem dX10_letGo_23 : decode cX10_letGo 23 = .ok (.bipush (-6), 2) := by decide +kernel
theorem dX10_letGo_25 : decode cX10_letGo 25 = .ok (.goto 9, 3) := by decide +kernel
theorem dX10_letGo_28 : decode cX10_letGo 28 = .ok (.aload_n 0, 1) := by decide +kernel
theorem dX10_letGo_29 : decode cX10_letGo 29 = .ok (.getfield 25, 3) := by decide +kernel
theorem dX10_letGo_32 : decode cX10_letGo 32 = .ok (.iload_n 2, 1) := by decide +kernel
theorem dX10_letGo_33 : decode cX10_letGo 33 = .ok (.iaload, 1) := by decide +kernel
theorem dX10_letGo_34 : decode cX10_letGo 34 = .ok (.iastore, 1) := by decide +kernel
theorem dX10_letGo_35 : decode cX10_letGo 35 = .ok (.iinc 2 1, 3) := by decide +kernel
theorem dX10_letGo_38 : decode cX10_letGo 38 = .ok (.goto (-36), 3) := by decide +kernel
theorem dX10_letGo_41 : decode cX10_letGo 41 = .ok (.aload_n 0, 1) := by decide +kernel
theorem dX10_letGo_42 : decode cX10_letGo 42 = .ok (.getfield 25, 3) := by decide +kernel
theorem dX10_letGo_45 : decode cX10_letGo 45 = .ok (.iload_n 1, 1) := by decide +kernel
theorem dX10_letGo_46 : decode cX10_letGo 46 = .ok (.bipush (-6), 2) := by decide +kernel
theorem dX10_letGo_48 : decode cX10_letGo 48 = .ok (.iastore, 1) := by decide +kernel
theorem dX10_letGo_49 : decode cX10_letGo 49 = .ok (.return_, 1) := by decide +kernel
abbrev wl_X10_letGo (G : gw_) (A_t : Nat) (A_t_steps : Nat) (A_t_wet : Nat) (A_t_where : Nat) (A_t_home : Nat) (A_t_light : Nat) (A_t_carries : Nat) (A_t_sightPlace : Nat) (A_t_sightLight : Nat) (A_t_pad : Nat) (A_t_act : Nat) (A_t_whose : Nat) (A_t_whom : Nat) (A_t_tens : Nat) (A_t_had : Nat) (A_t_leaves : Nat) (A_t_apart : Nat) (A_t_stop : Nat) (A_t_restOf : Nat) (A_t_group : Nat) (A_t_along : Nat) (A_t_kept : Nat) (A_t_isKept : Nat) (c_t_foggy : Int32) (c_t_walkers : Int32) (c_t_sights : Int32) (c_t_padMany : Int32) (c_t_acts : Int32) (c_t_spent : Int32) (c_t_walks : Int32) (c_t_badAct : Int32) (c_t_badWhy : Int32) (c_t_keptAt : Int32) (c_t_isWriting : Int32) (c_t_carries : Nat → Int32) : va_W := [ob_ A_t 10 [.ref A_t_steps, .ref A_t_wet, .int c_t_foggy, .int c_t_walkers, .ref A_t_where, .ref A_t_home, .ref A_t_light, .ref A_t_carries, .ref A_t_sightPlace, .ref A_t_sightLight, .int c_t_sights, .ref A_t_pad, .int c_t_padMany, .ref A_t_act, .ref A_t_whose, .ref A_t_whom, .ref A_t_tens, .int c_t_acts, .int c_t_spent, .int c_t_walks, .ref A_t_had, .ref A_t_leaves, .int c_t_badAct, .int c_t_badWhy, .ref A_t_apart, .ref A_t_stop, .ref A_t_restOf, .ref A_t_group, .ref A_t_along, .ref A_t_kept, .ref A_t_isKept, .int c_t_keptAt, .int c_t_isWriting], ia_ G A_t_carries 6 c_t_carries]
def fn_X10_letGo_b2 (x1 : Int32) (rc : Int32 → (Nat → Int32) → Option ((Nat → Int32))) (k : (Nat → Int32) → Option ((Nat → Int32))) (x2 : Int32) (c_t_carries : Nat → Int32) : Option ((Nat → Int32)) :=
  if 6 ≤ x2 then
    k c_t_carries
  else
    ck_ x2 6 <|
    if (c_t_carries (Int32.toNatClampNeg x2)) = x1 then
      ck_ x2 6 <|
      lx_ (upd c_t_carries (Int32.toNatClampNeg x2) (-6)) fun f2 =>
      rc (x2 + 1) f2
    else
      ck_ x2 6 <|
      ck_ x2 6 <|
      lx_ (upd c_t_carries (Int32.toNatClampNeg x2) (c_t_carries (Int32.toNatClampNeg x2))) fun f1 =>
      rc (x2 + 1) f1
def fn_X10_letGo_l2 (x1 : Int32) (k : (Nat → Int32) → Option ((Nat → Int32))) : Nat → Int32 → (Nat → Int32) → Option ((Nat → Int32))
  | 0 => fun _ _ => none
  | n + 1 => fun x2 c_t_carries => fn_X10_letGo_b2 x1 (fn_X10_letGo_l2 x1 k n) k x2 c_t_carries
def fn_X10_letGo (c_t_carries : Nat → Int32) (x1 : Int32) : Option ((Nat → Int32)) :=
  fn_X10_letGo_l2 x1 (fun v3 =>
    ck_ x1 6 <|
    lx_ (upd v3 (Int32.toNatClampNeg x1) (-6)) fun f4 =>
    some f4) fu_ 0 c_t_carries
set_option maxHeartbeats 4000000 in
set_option maxRecDepth 100000 in
theorem wn_X10_letGo_l2 {p : Program} {l : Launch} {e : Env} {s : State} {m : MethodId} {args : Array Value} {below : List Frame} {meth : Method} {c : Code} {G : gw_} {A : Nat → Prop} {Q : State → Prop} {A_t : Nat} {A_t_steps : Nat} {A_t_wet : Nat} {A_t_where : Nat} {A_t_home : Nat} {A_t_light : Nat} {A_t_carries : Nat} {A_t_sightPlace : Nat} {A_t_sightLight : Nat} {A_t_pad : Nat} {A_t_act : Nat} {A_t_whose : Nat} {A_t_whom : Nat} {A_t_tens : Nat} {A_t_had : Nat} {A_t_leaves : Nat} {A_t_apart : Nat} {A_t_stop : Nat} {A_t_restOf : Nat} {A_t_group : Nat} {A_t_along : Nat} {A_t_kept : Nat} {A_t_isKept : Nat} {c_t_foggy : Int32} {c_t_walkers : Int32} {c_t_sights : Int32} {c_t_padMany : Int32} {c_t_acts : Int32} {c_t_spent : Int32} {c_t_walks : Int32} {c_t_badAct : Int32} {c_t_badWhy : Int32} {c_t_keptAt : Int32} {c_t_isWriting : Int32} {z_t_carries : Nat → Int32} {x1 : Int32} {k : (Nat → Int32) → Option ((Nat → Int32))} (hC : cx_ p s m c G cX10_letGo 3 RX10) (hret : ∀ (pc : Nat) (H : Heap) (locs : List Loc) (ls : Array Slot), decode cX10_letGo pc = .ok (.return_, 1) → wd_ G A s.heap (wl_X10_letGo G A_t A_t_steps A_t_wet A_t_where A_t_home A_t_light A_t_carries A_t_sightPlace A_t_sightLight A_t_pad A_t_act A_t_whose A_t_whom A_t_tens A_t_had A_t_leaves A_t_apart A_t_stop A_t_restOf A_t_group A_t_along A_t_kept A_t_isKept c_t_foggy c_t_walkers c_t_sights c_t_padMany c_t_acts c_t_spent c_t_walks c_t_badAct c_t_badWhy c_t_keptAt c_t_isWriting z_t_carries) H locs → W p l e { frames := 0, cells := 0, slots := 0, locals := 0 } s m args below meth c H locs 0 0 Q (F0 m pc ls [])) (hk : ∀ (c_t_carries : Nat → Int32) (H : Heap) (locs : List Loc) (ls : Array Slot), k c_t_carries = some z_t_carries → lv_has ls 3 [(0, .ref A_t), (1, .int x1)] → wd_ G A s.heap (wl_X10_letGo G A_t A_t_steps A_t_wet A_t_where A_t_home A_t_light A_t_carries A_t_sightPlace A_t_sightLight A_t_pad A_t_act A_t_whose A_t_whom A_t_tens A_t_had A_t_leaves A_t_apart A_t_stop A_t_restOf A_t_group A_t_along A_t_kept A_t_isKept c_t_foggy c_t_walkers c_t_sights c_t_padMany c_t_acts c_t_spent c_t_walks c_t_badAct c_t_badWhy c_t_keptAt c_t_isWriting c_t_carries) H locs → W p l e { frames := 0, cells := 0, slots := 0, locals := 0 } s m args below meth c H locs 0 0 Q (F0 m 41 ls [])) : ∀ (n : Nat) (x2 : Int32) (c_t_carries : Nat → Int32) (H : Heap) (locs : List Loc) (ls : Array Slot), fn_X10_letGo_l2 x1 k n x2 c_t_carries = some z_t_carries → lv_has ls 3 [(0, .ref A_t), (1, .int x1), (2, .int x2)] → wd_ G A s.heap (wl_X10_letGo G A_t A_t_steps A_t_wet A_t_where A_t_home A_t_light A_t_carries A_t_sightPlace A_t_sightLight A_t_pad A_t_act A_t_whose A_t_whom A_t_tens A_t_had A_t_leaves A_t_apart A_t_stop A_t_restOf A_t_group A_t_along A_t_kept A_t_isKept c_t_foggy c_t_walkers c_t_sights c_t_padMany c_t_acts c_t_spent c_t_walks c_t_badAct c_t_badWhy c_t_keptAt c_t_isWriting c_t_carries) H locs → W p l e { frames := 0, cells := 0, slots := 0, locals := 0 } s m args below meth c H locs 0 0 Q (F0 m 2 ls []) := by
  have hx := hC.1
  have hb := hC.2.1
  intro n
  induction n with
  | zero =>
    intro x2 c_t_carries H locs ls hf
    cases (show (none : Option ((Nat → Int32))) = some _ from hf)
  | succ n hrc =>
    intro x2 c_t_carries H locs ls hf hl hw
    replace hf : fn_X10_letGo_b2 x1 (fn_X10_letGo_l2 x1 k n) k x2 c_t_carries = some z_t_carries := hf
    unfold fn_X10_letGo_b2 at hf
    refine lv_iload_n hx hb dX10_letGo_2 rfl (lv_at hl 2 rfl) ?_
    refine lv_bipush (v := 6) hx hb dX10_letGo_3 (by decide) ?_
    refine lv_icmp_ge (tgt := 41) hx hb dX10_letGo_5 (by decide) (fun hc => ?_) (fun hc => ?_)
    · replace hf := it_t hc hf
      exact hk c_t_carries _ _ _ hf (lv_sub hl [0, 1] rfl) hw
    · replace hf := it_f hc hf
      refine lv_aload_n hx hb dX10_letGo_8 rfl (lv_at hl 0 rfl) ?_
      refine g_get hC hw fkX10_25 0 rfl rfl dX10_letGo_9 ?_
      refine lv_iload_n hx hb dX10_letGo_12 rfl (lv_at hl 2 rfl) ?_
      refine lv_aload_n hx hb dX10_letGo_13 rfl (lv_at hl 0 rfl) ?_
      refine g_get hC hw fkX10_25 0 rfl rfl dX10_letGo_14 ?_
      refine lv_iload_n hx hb dX10_letGo_17 rfl (lv_at hl 2 rfl) ?_
      obtain ⟨hi, hf⟩ := ck_s hf
      refine g_iald hC hw 1 rfl hi dX10_letGo_18 ?_
      refine lv_iload_n hx hb dX10_letGo_19 rfl (lv_at hl 1 rfl) ?_
      refine lv_icmp_ne (tgt := 28) hx hb dX10_letGo_20 (by decide) (fun hc => ?_) (fun hc => ?_)
      · replace hf := it_f hc hf
        refine lv_aload_n hx hb dX10_letGo_28 rfl (lv_at hl 0 rfl) ?_
        refine g_get hC hw fkX10_25 0 rfl rfl dX10_letGo_29 ?_
        refine lv_iload_n hx hb dX10_letGo_32 rfl (lv_at hl 2 rfl) ?_
        obtain ⟨hi, hf⟩ := ck_s hf
        refine g_iald hC hw 1 rfl hi dX10_letGo_33 ?_
        obtain ⟨hi, hf⟩ := ck_s hf
        obtain ⟨f1, ef1, hf⟩ := lx_s hf
        refine g_iast hC hw 1 rfl hi ef1 dX10_letGo_34 (fun H locs hw => ?_)
        have hw : wd_ G A s.heap (wl_X10_letGo G A_t A_t_steps A_t_wet A_t_where A_t_home A_t_light A_t_carries A_t_sightPlace A_t_sightLight A_t_pad A_t_act A_t_whose A_t_whom A_t_tens A_t_had A_t_leaves A_t_apart A_t_stop A_t_restOf A_t_group A_t_along A_t_kept A_t_isKept c_t_foggy c_t_walkers c_t_sights c_t_padMany c_t_acts c_t_spent c_t_walks c_t_badAct c_t_badWhy c_t_keptAt c_t_isWriting f1) H locs := hw
        refine lv_iinc (v := x2 + 1) (lv' := [(2, .int (x2 + 1)), (0, .ref A_t), (1, .int x1)]) hx hb dX10_letGo_35 hl (k := 2) rfl rfl (by decide) rfl (fun ls hl => ?_)
        refine lv_goto (tgt := 2) hx hb dX10_letGo_38 (by decide) ?_
        exact hrc (x2 + 1) f1 _ _ _ hf (lv_sub hl [1, 2, 0] rfl) hw
      · replace hf := it_t hc hf
        refine lv_bipush (v := (-6)) hx hb dX10_letGo_23 (by decide) ?_
        refine lv_goto (tgt := 34) hx hb dX10_letGo_25 (by decide) ?_
        obtain ⟨hi, hf⟩ := ck_s hf
        obtain ⟨f2, ef2, hf⟩ := lx_s hf
        refine g_iast hC hw 1 rfl hi ef2 dX10_letGo_34 (fun H locs hw => ?_)
        have hw : wd_ G A s.heap (wl_X10_letGo G A_t A_t_steps A_t_wet A_t_where A_t_home A_t_light A_t_carries A_t_sightPlace A_t_sightLight A_t_pad A_t_act A_t_whose A_t_whom A_t_tens A_t_had A_t_leaves A_t_apart A_t_stop A_t_restOf A_t_group A_t_along A_t_kept A_t_isKept c_t_foggy c_t_walkers c_t_sights c_t_padMany c_t_acts c_t_spent c_t_walks c_t_badAct c_t_badWhy c_t_keptAt c_t_isWriting f2) H locs := hw
        refine lv_iinc (v := x2 + 1) (lv' := [(2, .int (x2 + 1)), (0, .ref A_t), (1, .int x1)]) hx hb dX10_letGo_35 hl (k := 2) rfl rfl (by decide) rfl (fun ls hl => ?_)
        refine lv_goto (tgt := 2) hx hb dX10_letGo_38 (by decide) ?_
        exact hrc (x2 + 1) f2 _ _ _ hf (lv_sub hl [1, 2, 0] rfl) hw
set_option maxHeartbeats 4000000 in
set_option maxRecDepth 100000 in
theorem wn_X10_letGo {p : Program} {l : Launch} {e : Env} {s : State} {m : MethodId} {args : Array Value} {below : List Frame} {meth : Method} {c : Code} {G : gw_} {A : Nat → Prop} {Q : State → Prop} {A_t : Nat} {A_t_steps : Nat} {A_t_wet : Nat} {A_t_where : Nat} {A_t_home : Nat} {A_t_light : Nat} {A_t_carries : Nat} {A_t_sightPlace : Nat} {A_t_sightLight : Nat} {A_t_pad : Nat} {A_t_act : Nat} {A_t_whose : Nat} {A_t_whom : Nat} {A_t_tens : Nat} {A_t_had : Nat} {A_t_leaves : Nat} {A_t_apart : Nat} {A_t_stop : Nat} {A_t_restOf : Nat} {A_t_group : Nat} {A_t_along : Nat} {A_t_kept : Nat} {A_t_isKept : Nat} {c_t_foggy : Int32} {c_t_walkers : Int32} {c_t_sights : Int32} {c_t_padMany : Int32} {c_t_acts : Int32} {c_t_spent : Int32} {c_t_walks : Int32} {c_t_badAct : Int32} {c_t_badWhy : Int32} {c_t_keptAt : Int32} {c_t_isWriting : Int32} {c_t_carries : Nat → Int32} {z_t_carries : Nat → Int32} {x1 : Int32} (hC : cx_ p s m c G cX10_letGo 3 RX10) (hret : ∀ (pc : Nat) (H : Heap) (locs : List Loc) (ls : Array Slot), decode cX10_letGo pc = .ok (.return_, 1) → wd_ G A s.heap (wl_X10_letGo G A_t A_t_steps A_t_wet A_t_where A_t_home A_t_light A_t_carries A_t_sightPlace A_t_sightLight A_t_pad A_t_act A_t_whose A_t_whom A_t_tens A_t_had A_t_leaves A_t_apart A_t_stop A_t_restOf A_t_group A_t_along A_t_kept A_t_isKept c_t_foggy c_t_walkers c_t_sights c_t_padMany c_t_acts c_t_spent c_t_walks c_t_badAct c_t_badWhy c_t_keptAt c_t_isWriting z_t_carries) H locs → W p l e { frames := 0, cells := 0, slots := 0, locals := 0 } s m args below meth c H locs 0 0 Q (F0 m pc ls [])) (hf : fn_X10_letGo c_t_carries x1 = some z_t_carries) {H : Heap} {locs : List Loc} {ls : Array Slot} (hl : lv_has ls 3 [(0, .ref A_t), (1, .int x1)]) (hw : wd_ G A s.heap (wl_X10_letGo G A_t A_t_steps A_t_wet A_t_where A_t_home A_t_light A_t_carries A_t_sightPlace A_t_sightLight A_t_pad A_t_act A_t_whose A_t_whom A_t_tens A_t_had A_t_leaves A_t_apart A_t_stop A_t_restOf A_t_group A_t_along A_t_kept A_t_isKept c_t_foggy c_t_walkers c_t_sights c_t_padMany c_t_acts c_t_spent c_t_walks c_t_badAct c_t_badWhy c_t_keptAt c_t_isWriting c_t_carries) H locs) : W p l e { frames := 0, cells := 0, slots := 0, locals := 0 } s m args below meth c H locs 0 0 Q (F0 m 0 ls []) := by
  have hx := hC.1
  have hb := hC.2.1
  unfold fn_X10_letGo at hf
  refine lv_iconst (v := 0) hx hb dX10_letGo_0 (by decide) ?_
  refine lv_istore_n (lv' := [(2, .int 0), (0, .ref A_t), (1, .int x1)]) hx hb dX10_letGo_1 rfl hl (by decide) rfl (fun ls hl => ?_)
  refine wn_X10_letGo_l2 hC hret (fun v3 H locs ls hf hl hw => ?_) fu_ 0 c_t_carries _ _ _ hf (lv_sub hl [1, 2, 0] rfl) hw
  refine lv_aload_n hx hb dX10_letGo_41 rfl (lv_at hl 0 rfl) ?_
  refine g_get hC hw fkX10_25 0 rfl rfl dX10_letGo_42 ?_
  refine lv_iload_n hx hb dX10_letGo_45 rfl (lv_at hl 1 rfl) ?_
  refine lv_bipush (v := (-6)) hx hb dX10_letGo_46 (by decide) ?_
  obtain ⟨hi, hf⟩ := ck_s hf
  obtain ⟨f4, ef4, hf⟩ := lx_s hf
  refine g_iast hC hw 1 rfl hi ef4 dX10_letGo_48 (fun H locs hw => ?_)
  have hw : wd_ G A s.heap (wl_X10_letGo G A_t A_t_steps A_t_wet A_t_where A_t_home A_t_light A_t_carries A_t_sightPlace A_t_sightLight A_t_pad A_t_act A_t_whose A_t_whom A_t_tens A_t_had A_t_leaves A_t_apart A_t_stop A_t_restOf A_t_group A_t_along A_t_kept A_t_isKept c_t_foggy c_t_walkers c_t_sights c_t_padMany c_t_acts c_t_spent c_t_walks c_t_badAct c_t_badWhy c_t_keptAt c_t_isWriting f4) H locs := hw
  have h1_ := t1_ hf
  subst h1_
  exact hret _ _ _ _ dX10_letGo_49 hw
set_option maxHeartbeats 4000000 in
set_option maxRecDepth 100000 in
theorem cn_X10_letGo (l : Launch) (G : gw_) (A_t : Nat) (A_t_steps : Nat) (A_t_wet : Nat) (A_t_where : Nat) (A_t_home : Nat) (A_t_light : Nat) (A_t_carries : Nat) (A_t_sightPlace : Nat) (A_t_sightLight : Nat) (A_t_pad : Nat) (A_t_act : Nat) (A_t_whose : Nat) (A_t_whom : Nat) (A_t_tens : Nat) (A_t_had : Nat) (A_t_leaves : Nat) (A_t_apart : Nat) (A_t_stop : Nat) (A_t_restOf : Nat) (A_t_group : Nat) (A_t_along : Nat) (A_t_kept : Nat) (A_t_isKept : Nat) (c_t_foggy : Int32) (c_t_walkers : Int32) (c_t_sights : Int32) (c_t_padMany : Int32) (c_t_acts : Int32) (c_t_spent : Int32) (c_t_walks : Int32) (c_t_badAct : Int32) (c_t_badWhy : Int32) (c_t_keptAt : Int32) (c_t_isWriting : Int32) (c_t_carries : Nat → Int32) (x1 : Int32) (z_t_carries : Nat → Int32) (hf : fn_X10_letGo c_t_carries x1 = some z_t_carries) : cv_ l G yX10_letGo cX10_letGo 3 none 0 0 (wl_X10_letGo G A_t A_t_steps A_t_wet A_t_where A_t_home A_t_light A_t_carries A_t_sightPlace A_t_sightLight A_t_pad A_t_act A_t_whose A_t_whom A_t_tens A_t_had A_t_leaves A_t_apart A_t_stop A_t_restOf A_t_group A_t_along A_t_kept A_t_isKept c_t_foggy c_t_walkers c_t_sights c_t_padMany c_t_acts c_t_spent c_t_walks c_t_badAct c_t_badWhy c_t_keptAt c_t_isWriting c_t_carries) [.ref A_t, .int x1] (wl_X10_letGo G A_t A_t_steps A_t_wet A_t_where A_t_home A_t_light A_t_carries A_t_sightPlace A_t_sightLight A_t_pad A_t_act A_t_whose A_t_whom A_t_tens A_t_had A_t_leaves A_t_apart A_t_stop A_t_restOf A_t_group A_t_along A_t_kept A_t_isKept c_t_foggy c_t_walkers c_t_sights c_t_padMany c_t_acts c_t_spent c_t_walks c_t_badAct c_t_badWhy c_t_keptAt c_t_isWriting z_t_carries) := fun sz => met_intro (by decide) (Nat.le_of_ble_eq_true rfl) (fun p e s m args below meth c ls hsz hC hr hlk hnm hl hw => wn_X10_letGo hC (fun pc H locs ls hd hw => g_vret hC hr hlk hw hd) hf hl hw)

theorem dX10_walker_0 : decode cX10_walker 0 = .ok (.iload_n 1, 1) := by decide +kernel
theorem dX10_walker_1 : decode cX10_walker 1 = .ok (.i2l, 1) := by decide +kernel
theorem dX10_walker_2 : decode cX10_walker 2 = .ok (.lconst 0, 1) := by decide +kernel
theorem dX10_walker_3 : decode cX10_walker 3 = .ok (.ldc2_w 83, 3) := by decide +kernel
theorem dX10_walker_6 : decode cX10_walker 6 = .ok (.invokestatic 79, 3) := by decide +kernel
theorem dX10_walker_9 : decode cX10_walker 9 = .ok (.ifCond .eq 17, 3) := by decide +kernel
theorem dX10_walker_12 : decode cX10_walker 12 = .ok (.iload_n 2, 1) := by decide +kernel
theorem dX10_walker_13 : decode cX10_walker 13 = .ok (.invokestatic 100, 3) := by decide +kernel
theorem dX10_walker_16 : decode cX10_walker 16 = .ok (.ifCond .eq 10, 3) := by decide +kernel
theorem dX10_walker_19 : decode cX10_walker 19 = .ok (.iload_n 3, 1) := by decide +kernel
theorem dX10_walker_20 : decode cX10_walker 20 = .ok (.invokestatic 100, 3) := by decide +kernel
theorem dX10_walker_23 : decode cX10_walker 23 = .ok (.ifCond .ne 5, 3) := by decide +kernel
theorem dX10_walker_26 : decode cX10_walker 26 = .ok (.iconst (-1), 1) := by decide +kernel
theorem dX10_walker_27 : decode cX10_walker 27 = .ok (.ireturn, 1) := by decide +kernel
theorem dX10_walker_28 : decode cX10_walker 28 = .ok (.iload 4, 2) := by decide +kernel
theorem dX10_walker_30 : decode cX10_walker 30 = .ok (.i2l, 1) := by decide +kernel
theorem dX10_walker_31 : decode cX10_walker 31 = .ok (.lconst 0, 1) := by decide +kernel
theorem dX10_walker_32 : decode cX10_walker 32 = .ok (.ldc2_w 109, 3) := by decide +kernel
theorem dX10_walker_35 : decode cX10_walker 35 = .ok (.invokestatic 79, 3) := by decide +kernel
theorem dX10_walker_38 : decode cX10_walker 38 = .ok (.ifCond .ne 6, 3) := by decide +kernel
theorem dX10_walker_41 : decode cX10_walker 41 = .ok (.bipush (-2), 2) := by decide +kernel
theorem dX10_walker_43 : decode cX10_walker 43 = .ok (.ireturn, 1) := by decide +kernel
theorem dX10_walker_44 : decode cX10_walker 44 = .ok (.aload_n 0, 1) := by decide +kernel
theorem dX10_walker_45 : decode cX10_walker 45 = .ok (.iload_n 1, 1) := by decide +kernel
theorem dX10_walker_46 : decode cX10_walker 46 = .ok (.invokevirtual 111, 3) := by decide +kernel
theorem dX10_walker_49 : decode cX10_walker 49 = .ok (.aload_n 0, 1) := by decide +kernel
theorem dX10_walker_50 : decode cX10_walker 50 = .ok (.getfield 16, 3) := by decide +kernel
theorem dX10_walker_53 : decode cX10_walker 53 = .ok (.iload_n 1, 1) := by decide +kernel
theorem dX10_walker_54 : decode cX10_walker 54 = .ok (.iload_n 2, 1) := by decide +kernel
theorem dX10_walker_55 : decode cX10_walker 55 = .ok (.iastore, 1) := by decide +kernel
theorem dX10_walker_56 : decode cX10_walker 56 = .ok (.aload_n 0, 1) := by decide +kernel
theorem dX10_walker_57 : decode cX10_walker 57 = .ok (.getfield 19, 3) := by decide +kernel
theorem dX10_walker_60 : decode cX10_walker 60 = .ok (.iload_n 1, 1) := by decide +kernel
theorem dX10_walker_61 : decode cX10_walker 61 = .ok (.iload_n 3, 1) := by decide +kernel
theorem dX10_walker_62 : decode cX10_walker 62 = .ok (.iastore, 1) := by decide +kernel
theorem dX10_walker_63 : decode cX10_walker 63 = .ok (.aload_n 0, 1) := by decide +kernel
theorem dX10_walker_64 : decode cX10_walker 64 = .ok (.getfield 22, 3) := by decide +kernel
theorem dX10_walker_67 : decode cX10_walker 67 = .ok (.iload_n 1, 1) := by decide +kernel
theorem dX10_walker_68 : decode cX10_walker 68 = .ok (.iload 4, 2) := by decide +kernel
theorem dX10_walker_70 : decode cX10_walker 70 = .ok (.iastore, 1) := by decide +kernel
theorem dX10_walker_71 : decode cX10_walker 71 = .ok (.aload_n 0, 1) := by decide +kernel
theorem dX10_walker_72 : decode cX10_walker 72 = .ok (.dup, 1) := by decide +kernel
theorem dX10_walker_73 : decode cX10_walker 73 = .ok (.getfield 85, 3) := by decide +kernel
theorem dX10_walker_76 : decode cX10_walker 76 = .ok (.iconst 1, 1) := by decide +kernel
theorem dX10_walker_77 : decode cX10_walker 77 = .ok (.iload_n 1, 1) := by decide +kernel
theorem dX10_walker_78 : decode cX10_walker 78 = .ok (.ishl, 1) := by decide +kernel
theorem dX10_walker_79 : decode cX10_walker 79 = .ok (.ior, 1) := by decide +kernel
theorem dX10_walker_80 : decode cX10_walker 80 = .ok (.putfield 85, 3) := by decide +kernel
theorem dX10_walker_83 : decode cX10_walker 83 = .ok (.aload_n 0, 1) := by decide +kernel
theorem dX10_walker_84 : decode cX10_walker 84 = .ok (.getfield 85, 3) := by decide +kernel
theorem dX10_walker_87 : decode cX10_walker 87 = .ok (.invokestatic 115, 3) := by decide +kernel
theorem dX10_walker_90 : decode cX10_walker 90 = .ok (.ireturn, 1) := by decide +kernel
abbrev wl_X10_walker (G : gw_) (A_t : Nat) (A_t_steps : Nat) (A_t_wet : Nat) (A_t_where : Nat) (A_t_home : Nat) (A_t_light : Nat) (A_t_carries : Nat) (A_t_sightPlace : Nat) (A_t_sightLight : Nat) (A_t_pad : Nat) (A_t_act : Nat) (A_t_whose : Nat) (A_t_whom : Nat) (A_t_tens : Nat) (A_t_had : Nat) (A_t_leaves : Nat) (A_t_apart : Nat) (A_t_stop : Nat) (A_t_restOf : Nat) (A_t_group : Nat) (A_t_along : Nat) (A_t_kept : Nat) (A_t_isKept : Nat) (c_t_foggy : Int32) (c_t_walkers : Int32) (c_t_sights : Int32) (c_t_padMany : Int32) (c_t_acts : Int32) (c_t_spent : Int32) (c_t_walks : Int32) (c_t_badAct : Int32) (c_t_badWhy : Int32) (c_t_keptAt : Int32) (c_t_isWriting : Int32) (c_t_where : Nat → Int32) (c_t_home : Nat → Int32) (c_t_light : Nat → Int32) (c_t_carries : Nat → Int32) : va_W := [ob_ A_t 10 [.ref A_t_steps, .ref A_t_wet, .int c_t_foggy, .int c_t_walkers, .ref A_t_where, .ref A_t_home, .ref A_t_light, .ref A_t_carries, .ref A_t_sightPlace, .ref A_t_sightLight, .int c_t_sights, .ref A_t_pad, .int c_t_padMany, .ref A_t_act, .ref A_t_whose, .ref A_t_whom, .ref A_t_tens, .int c_t_acts, .int c_t_spent, .int c_t_walks, .ref A_t_had, .ref A_t_leaves, .int c_t_badAct, .int c_t_badWhy, .ref A_t_apart, .ref A_t_stop, .ref A_t_restOf, .ref A_t_group, .ref A_t_along, .ref A_t_kept, .ref A_t_isKept, .int c_t_keptAt, .int c_t_isWriting], ia_ G A_t_where 6 c_t_where, ia_ G A_t_home 6 c_t_home, ia_ G A_t_light 6 c_t_light, ia_ G A_t_carries 6 c_t_carries]
def fn_X10_walker (c_t_walkers : Int32) (c_t_where : Nat → Int32) (c_t_home : Nat → Int32) (c_t_light : Nat → Int32) (c_t_carries : Nat → Int32) (x1 : Int32) (x2 : Int32) (x3 : Int32) (x4 : Int32) : Option (Int32 × Int32 × (Nat → Int32) × (Nat → Int32) × (Nat → Int32) × (Nat → Int32)) :=
  b1_ (fn_X10_in (Int32.toInt64 x1) 0 5) fun r1 =>
  if r1 = 0 then
    some ((-1), c_t_walkers, c_t_where, c_t_home, c_t_light, c_t_carries)
  else
    b1_ (fn_X10_isPlace x2) fun r3 =>
    if r3 = 0 then
      some ((-1), c_t_walkers, c_t_where, c_t_home, c_t_light, c_t_carries)
    else
      b1_ (fn_X10_isPlace x3) fun r5 =>
      if r5 = 0 then
        some ((-1), c_t_walkers, c_t_where, c_t_home, c_t_light, c_t_carries)
      else
        b1_ (fn_X10_in (Int32.toInt64 x4) 0 999) fun r7 =>
        if r7 = 0 then
          some ((-2), c_t_walkers, c_t_where, c_t_home, c_t_light, c_t_carries)
        else
          b1_ (fn_X10_letGo c_t_carries x1) fun w9 =>
          ck_ x1 6 <|
          lx_ (upd c_t_where (Int32.toNatClampNeg x1) x2) fun f11 =>
          ck_ x1 6 <|
          lx_ (upd c_t_home (Int32.toNatClampNeg x1) x3) fun f12 =>
          ck_ x1 6 <|
          lx_ (upd c_t_light (Int32.toNatClampNeg x1) x4) fun f13 =>
          lx_ (c_t_walkers ||| (1 <<< (x1 &&& 31))) fun y14 =>
          b1_ (fn_X10_ones y14) fun r15 =>
          some (r15, y14, f11, f12, f13, w9)
set_option maxHeartbeats 4000000 in
set_option maxRecDepth 100000 in
theorem wn_X10_walker {p : Program} {l : Launch} {e : Env} {s : State} {m : MethodId} {args : Array Value} {below : List Frame} {meth : Method} {c : Code} {G : gw_} {A : Nat → Prop} {Q : State → Prop} {A_t : Nat} {A_t_steps : Nat} {A_t_wet : Nat} {A_t_where : Nat} {A_t_home : Nat} {A_t_light : Nat} {A_t_carries : Nat} {A_t_sightPlace : Nat} {A_t_sightLight : Nat} {A_t_pad : Nat} {A_t_act : Nat} {A_t_whose : Nat} {A_t_whom : Nat} {A_t_tens : Nat} {A_t_had : Nat} {A_t_leaves : Nat} {A_t_apart : Nat} {A_t_stop : Nat} {A_t_restOf : Nat} {A_t_group : Nat} {A_t_along : Nat} {A_t_kept : Nat} {A_t_isKept : Nat} {c_t_foggy : Int32} {c_t_walkers : Int32} {z_t_walkers : Int32} {c_t_sights : Int32} {c_t_padMany : Int32} {c_t_acts : Int32} {c_t_spent : Int32} {c_t_walks : Int32} {c_t_badAct : Int32} {c_t_badWhy : Int32} {c_t_keptAt : Int32} {c_t_isWriting : Int32} {c_t_where : Nat → Int32} {z_t_where : Nat → Int32} {c_t_home : Nat → Int32} {z_t_home : Nat → Int32} {c_t_light : Nat → Int32} {z_t_light : Nat → Int32} {c_t_carries : Nat → Int32} {z_t_carries : Nat → Int32} {r : Int32} {x1 : Int32} {x2 : Int32} {x3 : Int32} {x4 : Int32} (hC : cx_ p s m c G cX10_walker 5 RX10) (hret : ∀ (pc : Nat) (H : Heap) (locs : List Loc) (ls : Array Slot), decode cX10_walker pc = .ok (.ireturn, 1) → wd_ G A s.heap (wl_X10_walker G A_t A_t_steps A_t_wet A_t_where A_t_home A_t_light A_t_carries A_t_sightPlace A_t_sightLight A_t_pad A_t_act A_t_whose A_t_whom A_t_tens A_t_had A_t_leaves A_t_apart A_t_stop A_t_restOf A_t_group A_t_along A_t_kept A_t_isKept c_t_foggy z_t_walkers c_t_sights c_t_padMany c_t_acts c_t_spent c_t_walks c_t_badAct c_t_badWhy c_t_keptAt c_t_isWriting z_t_where z_t_home z_t_light z_t_carries) H locs → W p l e { frames := 2, cells := 0, slots := 0, locals := 45 } s m args below meth c H locs 0 0 Q (F0 m pc ls [.int r])) (hf : fn_X10_walker c_t_walkers c_t_where c_t_home c_t_light c_t_carries x1 x2 x3 x4 = some (r, z_t_walkers, z_t_where, z_t_home, z_t_light, z_t_carries)) {H : Heap} {locs : List Loc} {ls : Array Slot} (hl : lv_has ls 5 [(0, .ref A_t), (1, .int x1), (2, .int x2), (3, .int x3), (4, .int x4)]) (hw : wd_ G A s.heap (wl_X10_walker G A_t A_t_steps A_t_wet A_t_where A_t_home A_t_light A_t_carries A_t_sightPlace A_t_sightLight A_t_pad A_t_act A_t_whose A_t_whom A_t_tens A_t_had A_t_leaves A_t_apart A_t_stop A_t_restOf A_t_group A_t_along A_t_kept A_t_isKept c_t_foggy c_t_walkers c_t_sights c_t_padMany c_t_acts c_t_spent c_t_walks c_t_badAct c_t_badWhy c_t_keptAt c_t_isWriting c_t_where c_t_home c_t_light c_t_carries) H locs) : W p l e { frames := 2, cells := 0, slots := 0, locals := 45 } s m args below meth c H locs 0 0 Q (F0 m 0 ls []) := by
  have hx := hC.1
  have hb := hC.2.1
  unfold fn_X10_walker at hf
  refine lv_iload_n hx hb dX10_walker_0 rfl (lv_at hl 1 rfl) ?_
  refine lv_i2l hx hb dX10_walker_1 rfl ?_
  refine lv_lconst (v := 0) hx hb dX10_walker_2 (by decide) ?_
  refine g_ldc2 (v := 5) hC (tb4 122 rfl rfl) dX10_walker_3 ?_
  obtain ⟨r1, hq2, hf⟩ := b1_s hf
  refine h_cSi hC hw msX10_79 (cn_X10_in l G (Int32.toInt64 x1) 0 5 r1 hq2) [] rfl (by decide) rfl hl.1 rfl (Nat.le_of_ble_eq_true rfl) ⟨Nat.le_of_ble_eq_true rfl, Nat.le_of_ble_eq_true rfl⟩ ⟨Nat.le_refl _, Nat.le_refl _⟩ dX10_walker_6 (fun H locs hw => ?_)
  refine lv_if_eq (tgt := 26) hx hb dX10_walker_9 (by decide) (fun hc => ?_) (fun hc => ?_)
  · replace hf := it_t hc hf
    refine lv_iconst (v := (-1)) hx hb dX10_walker_26 (by decide) ?_
    obtain ⟨h1_, h2_, h3_, h4_, h5_, h6_⟩ := t6_ hf
    subst h1_
    subst h2_
    subst h3_
    subst h4_
    subst h5_
    subst h6_
    exact hret _ _ _ _ dX10_walker_27 hw
  · replace hf := it_f hc hf
    refine lv_iload_n hx hb dX10_walker_12 rfl (lv_at hl 2 rfl) ?_
    obtain ⟨r3, hq4, hf⟩ := b1_s hf
    refine h_cSi hC hw msX10_100 (cn_X10_isPlace l G x2 r3 hq4) [] rfl (by decide) rfl hl.1 rfl (Nat.le_of_ble_eq_true rfl) ⟨Nat.le_of_ble_eq_true rfl, Nat.le_of_ble_eq_true rfl⟩ ⟨Nat.le_refl _, Nat.le_refl _⟩ dX10_walker_13 (fun H locs hw => ?_)
    refine lv_if_eq (tgt := 26) hx hb dX10_walker_16 (by decide) (fun hc => ?_) (fun hc => ?_)
    · replace hf := it_t hc hf
      refine lv_iconst (v := (-1)) hx hb dX10_walker_26 (by decide) ?_
      obtain ⟨h1_, h2_, h3_, h4_, h5_, h6_⟩ := t6_ hf
      subst h1_
      subst h2_
      subst h3_
      subst h4_
      subst h5_
      subst h6_
      exact hret _ _ _ _ dX10_walker_27 hw
    · replace hf := it_f hc hf
      refine lv_iload_n hx hb dX10_walker_19 rfl (lv_at hl 3 rfl) ?_
      obtain ⟨r5, hq6, hf⟩ := b1_s hf
      refine h_cSi hC hw msX10_100 (cn_X10_isPlace l G x3 r5 hq6) [] rfl (by decide) rfl hl.1 rfl (Nat.le_of_ble_eq_true rfl) ⟨Nat.le_of_ble_eq_true rfl, Nat.le_of_ble_eq_true rfl⟩ ⟨Nat.le_refl _, Nat.le_refl _⟩ dX10_walker_20 (fun H locs hw => ?_)
      refine lv_if_ne (tgt := 28) hx hb dX10_walker_23 (by decide) (fun hc => ?_) (fun hc => ?_)
      · replace hf := it_f hc hf
        refine lv_iload hx hb dX10_walker_28 (lv_at hl 4 rfl) ?_
        refine lv_i2l hx hb dX10_walker_30 rfl ?_
        refine lv_lconst (v := 0) hx hb dX10_walker_31 (by decide) ?_
        refine g_ldc2 (v := 999) hC (tb4 123 rfl rfl) dX10_walker_32 ?_
        obtain ⟨r7, hq8, hf⟩ := b1_s hf
        refine h_cSi hC hw msX10_79 (cn_X10_in l G (Int32.toInt64 x4) 0 999 r7 hq8) [] rfl (by decide) rfl hl.1 rfl (Nat.le_of_ble_eq_true rfl) ⟨Nat.le_of_ble_eq_true rfl, Nat.le_of_ble_eq_true rfl⟩ ⟨Nat.le_refl _, Nat.le_refl _⟩ dX10_walker_35 (fun H locs hw => ?_)
        refine lv_if_ne (tgt := 44) hx hb dX10_walker_38 (by decide) (fun hc => ?_) (fun hc => ?_)
        · replace hf := it_f hc hf
          refine lv_aload_n hx hb dX10_walker_44 rfl (lv_at hl 0 rfl) ?_
          refine lv_iload_n hx hb dX10_walker_45 rfl (lv_at hl 1 rfl) ?_
          obtain ⟨w9, hq10, hf⟩ := b1_s hf
          refine g_cVv hC hw mvX10_111 (cn_X10_letGo l G A_t A_t_steps A_t_wet A_t_where A_t_home A_t_light A_t_carries A_t_sightPlace A_t_sightLight A_t_pad A_t_act A_t_whose A_t_whom A_t_tens A_t_had A_t_leaves A_t_apart A_t_stop A_t_restOf A_t_group A_t_along A_t_kept A_t_isKept c_t_foggy c_t_walkers c_t_sights c_t_padMany c_t_acts c_t_spent c_t_walks c_t_badAct c_t_badWhy c_t_keptAt c_t_isWriting c_t_carries x1 w9 hq10) [0, 4] rfl (by decide) rfl 0 rfl rfl rfl hl.1 rfl (Nat.le_of_ble_eq_true rfl) ⟨Nat.le_of_ble_eq_true rfl, Nat.le_of_ble_eq_true rfl⟩ ⟨Nat.le_refl _, Nat.le_refl _⟩ dX10_walker_46 (fun H locs hw => ?_)
          have hw : wd_ G A s.heap (wl_X10_walker G A_t A_t_steps A_t_wet A_t_where A_t_home A_t_light A_t_carries A_t_sightPlace A_t_sightLight A_t_pad A_t_act A_t_whose A_t_whom A_t_tens A_t_had A_t_leaves A_t_apart A_t_stop A_t_restOf A_t_group A_t_along A_t_kept A_t_isKept c_t_foggy c_t_walkers c_t_sights c_t_padMany c_t_acts c_t_spent c_t_walks c_t_badAct c_t_badWhy c_t_keptAt c_t_isWriting c_t_where c_t_home c_t_light w9) H locs := hw
          refine lv_aload_n hx hb dX10_walker_49 rfl (lv_at hl 0 rfl) ?_
          refine g_get hC hw fkX10_16 0 rfl rfl dX10_walker_50 ?_
          refine lv_iload_n hx hb dX10_walker_53 rfl (lv_at hl 1 rfl) ?_
          refine lv_iload_n hx hb dX10_walker_54 rfl (lv_at hl 2 rfl) ?_
          obtain ⟨hi, hf⟩ := ck_s hf
          obtain ⟨f11, ef11, hf⟩ := lx_s hf
          refine g_iast hC hw 1 rfl hi ef11 dX10_walker_55 (fun H locs hw => ?_)
          have hw : wd_ G A s.heap (wl_X10_walker G A_t A_t_steps A_t_wet A_t_where A_t_home A_t_light A_t_carries A_t_sightPlace A_t_sightLight A_t_pad A_t_act A_t_whose A_t_whom A_t_tens A_t_had A_t_leaves A_t_apart A_t_stop A_t_restOf A_t_group A_t_along A_t_kept A_t_isKept c_t_foggy c_t_walkers c_t_sights c_t_padMany c_t_acts c_t_spent c_t_walks c_t_badAct c_t_badWhy c_t_keptAt c_t_isWriting f11 c_t_home c_t_light w9) H locs := hw
          refine lv_aload_n hx hb dX10_walker_56 rfl (lv_at hl 0 rfl) ?_
          refine g_get hC hw fkX10_19 0 rfl rfl dX10_walker_57 ?_
          refine lv_iload_n hx hb dX10_walker_60 rfl (lv_at hl 1 rfl) ?_
          refine lv_iload_n hx hb dX10_walker_61 rfl (lv_at hl 3 rfl) ?_
          obtain ⟨hi, hf⟩ := ck_s hf
          obtain ⟨f12, ef12, hf⟩ := lx_s hf
          refine g_iast hC hw 2 rfl hi ef12 dX10_walker_62 (fun H locs hw => ?_)
          have hw : wd_ G A s.heap (wl_X10_walker G A_t A_t_steps A_t_wet A_t_where A_t_home A_t_light A_t_carries A_t_sightPlace A_t_sightLight A_t_pad A_t_act A_t_whose A_t_whom A_t_tens A_t_had A_t_leaves A_t_apart A_t_stop A_t_restOf A_t_group A_t_along A_t_kept A_t_isKept c_t_foggy c_t_walkers c_t_sights c_t_padMany c_t_acts c_t_spent c_t_walks c_t_badAct c_t_badWhy c_t_keptAt c_t_isWriting f11 f12 c_t_light w9) H locs := hw
          refine lv_aload_n hx hb dX10_walker_63 rfl (lv_at hl 0 rfl) ?_
          refine g_get hC hw fkX10_22 0 rfl rfl dX10_walker_64 ?_
          refine lv_iload_n hx hb dX10_walker_67 rfl (lv_at hl 1 rfl) ?_
          refine lv_iload hx hb dX10_walker_68 (lv_at hl 4 rfl) ?_
          obtain ⟨hi, hf⟩ := ck_s hf
          obtain ⟨f13, ef13, hf⟩ := lx_s hf
          refine g_iast hC hw 3 rfl hi ef13 dX10_walker_70 (fun H locs hw => ?_)
          have hw : wd_ G A s.heap (wl_X10_walker G A_t A_t_steps A_t_wet A_t_where A_t_home A_t_light A_t_carries A_t_sightPlace A_t_sightLight A_t_pad A_t_act A_t_whose A_t_whom A_t_tens A_t_had A_t_leaves A_t_apart A_t_stop A_t_restOf A_t_group A_t_along A_t_kept A_t_isKept c_t_foggy c_t_walkers c_t_sights c_t_padMany c_t_acts c_t_spent c_t_walks c_t_badAct c_t_badWhy c_t_keptAt c_t_isWriting f11 f12 f13 w9) H locs := hw
          refine lv_aload_n hx hb dX10_walker_71 rfl (lv_at hl 0 rfl) ?_
          refine lv_dup hx hb dX10_walker_72 rfl ?_
          refine g_get hC hw fkX10_85 0 rfl rfl dX10_walker_73 ?_
          refine lv_iconst (v := 1) hx hb dX10_walker_76 (by decide) ?_
          refine lv_iload_n hx hb dX10_walker_77 rfl (lv_at hl 1 rfl) ?_
          refine lv_ishl hx hb dX10_walker_78 ?_
          refine lv_ior hx hb dX10_walker_79 ?_
          obtain ⟨y14, ey14, hf⟩ := lx_s hf
          rw [← ey14]
          refine g_put hC hw fpX10_85 0 rfl rfl rfl (Nat.le_of_ble_eq_true rfl) dX10_walker_80 (fun H locs hw => ?_)
          have hw : wd_ G A s.heap (wl_X10_walker G A_t A_t_steps A_t_wet A_t_where A_t_home A_t_light A_t_carries A_t_sightPlace A_t_sightLight A_t_pad A_t_act A_t_whose A_t_whom A_t_tens A_t_had A_t_leaves A_t_apart A_t_stop A_t_restOf A_t_group A_t_along A_t_kept A_t_isKept c_t_foggy y14 c_t_sights c_t_padMany c_t_acts c_t_spent c_t_walks c_t_badAct c_t_badWhy c_t_keptAt c_t_isWriting f11 f12 f13 w9) H locs := hw
          refine lv_aload_n hx hb dX10_walker_83 rfl (lv_at hl 0 rfl) ?_
          refine g_get hC hw fkX10_85 0 rfl rfl dX10_walker_84 ?_
          obtain ⟨r15, hq16, hf⟩ := b1_s hf
          refine h_cSi hC hw msX10_115 (cn_X10_ones l G y14 r15 hq16) [] rfl (by decide) rfl hl.1 rfl (Nat.le_of_ble_eq_true rfl) ⟨Nat.le_of_ble_eq_true rfl, Nat.le_of_ble_eq_true rfl⟩ ⟨Nat.le_refl _, Nat.le_refl _⟩ dX10_walker_87 (fun H locs hw => ?_)
          obtain ⟨h1_, h2_, h3_, h4_, h5_, h6_⟩ := t6_ hf
          subst h1_
          subst h2_
          subst h3_
          subst h4_
          subst h5_
          subst h6_
          exact hret _ _ _ _ dX10_walker_90 hw
        · replace hf := it_t hc hf
          refine lv_bipush (v := (-2)) hx hb dX10_walker_41 (by decide) ?_
          obtain ⟨h1_, h2_, h3_, h4_, h5_, h6_⟩ := t6_ hf
          subst h1_
          subst h2_
          subst h3_
          subst h4_
          subst h5_
          subst h6_
          exact hret _ _ _ _ dX10_walker_43 hw
      · replace hf := it_t hc hf
        refine lv_iconst (v := (-1)) hx hb dX10_walker_26 (by decide) ?_
        obtain ⟨h1_, h2_, h3_, h4_, h5_, h6_⟩ := t6_ hf
        subst h1_
        subst h2_
        subst h3_
        subst h4_
        subst h5_
        subst h6_
        exact hret _ _ _ _ dX10_walker_27 hw
set_option maxHeartbeats 4000000 in
set_option maxRecDepth 100000 in
theorem cn_X10_walker (l : Launch) (G : gw_) (A_t : Nat) (A_t_steps : Nat) (A_t_wet : Nat) (A_t_where : Nat) (A_t_home : Nat) (A_t_light : Nat) (A_t_carries : Nat) (A_t_sightPlace : Nat) (A_t_sightLight : Nat) (A_t_pad : Nat) (A_t_act : Nat) (A_t_whose : Nat) (A_t_whom : Nat) (A_t_tens : Nat) (A_t_had : Nat) (A_t_leaves : Nat) (A_t_apart : Nat) (A_t_stop : Nat) (A_t_restOf : Nat) (A_t_group : Nat) (A_t_along : Nat) (A_t_kept : Nat) (A_t_isKept : Nat) (c_t_foggy : Int32) (c_t_walkers : Int32) (c_t_sights : Int32) (c_t_padMany : Int32) (c_t_acts : Int32) (c_t_spent : Int32) (c_t_walks : Int32) (c_t_badAct : Int32) (c_t_badWhy : Int32) (c_t_keptAt : Int32) (c_t_isWriting : Int32) (c_t_where : Nat → Int32) (c_t_home : Nat → Int32) (c_t_light : Nat → Int32) (c_t_carries : Nat → Int32) (x1 : Int32) (x2 : Int32) (x3 : Int32) (x4 : Int32) (r : Int32) (z_t_walkers : Int32) (z_t_where : Nat → Int32) (z_t_home : Nat → Int32) (z_t_light : Nat → Int32) (z_t_carries : Nat → Int32) (hf : fn_X10_walker c_t_walkers c_t_where c_t_home c_t_light c_t_carries x1 x2 x3 x4 = some (r, z_t_walkers, z_t_where, z_t_home, z_t_light, z_t_carries)) : ci_ l G yX10_walker cX10_walker 5 (some .int) 2 45 (wl_X10_walker G A_t A_t_steps A_t_wet A_t_where A_t_home A_t_light A_t_carries A_t_sightPlace A_t_sightLight A_t_pad A_t_act A_t_whose A_t_whom A_t_tens A_t_had A_t_leaves A_t_apart A_t_stop A_t_restOf A_t_group A_t_along A_t_kept A_t_isKept c_t_foggy c_t_walkers c_t_sights c_t_padMany c_t_acts c_t_spent c_t_walks c_t_badAct c_t_badWhy c_t_keptAt c_t_isWriting c_t_where c_t_home c_t_light c_t_carries) [.ref A_t, .int x1, .int x2, .int x3, .int x4] r (wl_X10_walker G A_t A_t_steps A_t_wet A_t_where A_t_home A_t_light A_t_carries A_t_sightPlace A_t_sightLight A_t_pad A_t_act A_t_whose A_t_whom A_t_tens A_t_had A_t_leaves A_t_apart A_t_stop A_t_restOf A_t_group A_t_along A_t_kept A_t_isKept c_t_foggy z_t_walkers c_t_sights c_t_padMany c_t_acts c_t_spent c_t_walks c_t_badAct c_t_badWhy c_t_keptAt c_t_isWriting z_t_where z_t_home z_t_light z_t_carries) := fun sz => met_intro (by decide) (Nat.le_of_ble_eq_true rfl) (fun p e s m args below meth c ls hsz hC hr hlk hnm hl hw => wn_X10_walker hC (fun pc H locs ls hd hw => g_iret hC hr hlk hw rfl rfl hd) hf hl hw)

theorem dX10_leave_0 : decode cX10_leave 0 = .ok (.aload_n 0, 1) := by decide +kernel
theorem dX10_leave_1 : decode cX10_leave 1 = .ok (.iload_n 1, 1) := by decide +kernel
theorem dX10_leave_2 : decode cX10_leave 2 = .ok (.invokevirtual 106, 3) := by decide +kernel
theorem dX10_leave_5 : decode cX10_leave 5 = .ok (.ifCond .ne 5, 3) := by decide +kernel
theorem dX10_leave_8 : decode cX10_leave 8 = .ok (.iconst (-1), 1) := by decide +kernel
theorem dX10_leave_9 : decode cX10_leave 9 = .ok (.ireturn, 1) := by decide +kernel
theorem dX10_leave_10 : decode cX10_leave 10 = .ok (.aload_n 0, 1) := by decide +kernel
theorem dX10_leave_11 : decode cX10_leave 11 = .ok (.iload_n 1, 1) := by decide +kernel
theorem dX10_leave_12 : decode cX10_leave 12 = .ok (.invokevirtual 111, 3) := by decide +kernel
theorem dX10_leave_15 : decode cX10_leave 15 = .ok (.aload_n 0, 1) := by decide +kernel
theorem dX10_leave_16 : decode cX10_leave 16 = .ok (.dup, 1) := by decide +kernel
theorem dX10_leave_17 : decode cX10_leave 17 = .ok (.getfield 85, 3) := by decide +kernel
theorem dX10_leave_20 : decode cX10_leave 20 = .ok (.iconst 1, 1) := by decide +kernel
theorem dX10_leave_21 : decode cX10_leave 21 = .ok (.iload_n 1, 1) := by decide +kernel
theorem dX10_leave_22 : decode cX10_leave 22 = .ok (.ishl, 1) := by decide +kernel
theorem dX10_leave_23 : decode cX10_leave 23 = .ok (.iconst (-1), 1) := by decide +kernel
theorem dX10_leave_24 : decode cX10_leave 24 = .ok (.ixor, 1) := by decide +kernel
theorem dX10_leave_25 : decode cX10_leave 25 = .ok (.iand, 1) := by decide +kernel
theorem dX10_leave_26 : decode cX10_leave 26 = .ok (.putfield 85, 3) := by decide +kernel
theorem dX10_leave_29 : decode cX10_leave 29 = .ok (.aload_n 0, 1) := by decide +kernel
theorem dX10_leave_30 : decode cX10_leave 30 = .ok (.getfield 85, 3) := by decide +kernel
theorem dX10_leave_33 : decode cX10_leave 33 = .ok (.invokestatic 115, 3) := by decide +kernel
theorem dX10_leave_36 : decode cX10_leave 36 = .ok (.ireturn, 1) := by decide +kernel
abbrev wl_X10_leave (G : gw_) (A_t : Nat) (A_t_steps : Nat) (A_t_wet : Nat) (A_t_where : Nat) (A_t_home : Nat) (A_t_light : Nat) (A_t_carries : Nat) (A_t_sightPlace : Nat) (A_t_sightLight : Nat) (A_t_pad : Nat) (A_t_act : Nat) (A_t_whose : Nat) (A_t_whom : Nat) (A_t_tens : Nat) (A_t_had : Nat) (A_t_leaves : Nat) (A_t_apart : Nat) (A_t_stop : Nat) (A_t_restOf : Nat) (A_t_group : Nat) (A_t_along : Nat) (A_t_kept : Nat) (A_t_isKept : Nat) (c_t_foggy : Int32) (c_t_walkers : Int32) (c_t_sights : Int32) (c_t_padMany : Int32) (c_t_acts : Int32) (c_t_spent : Int32) (c_t_walks : Int32) (c_t_badAct : Int32) (c_t_badWhy : Int32) (c_t_keptAt : Int32) (c_t_isWriting : Int32) (c_t_carries : Nat → Int32) : va_W := [ob_ A_t 10 [.ref A_t_steps, .ref A_t_wet, .int c_t_foggy, .int c_t_walkers, .ref A_t_where, .ref A_t_home, .ref A_t_light, .ref A_t_carries, .ref A_t_sightPlace, .ref A_t_sightLight, .int c_t_sights, .ref A_t_pad, .int c_t_padMany, .ref A_t_act, .ref A_t_whose, .ref A_t_whom, .ref A_t_tens, .int c_t_acts, .int c_t_spent, .int c_t_walks, .ref A_t_had, .ref A_t_leaves, .int c_t_badAct, .int c_t_badWhy, .ref A_t_apart, .ref A_t_stop, .ref A_t_restOf, .ref A_t_group, .ref A_t_along, .ref A_t_kept, .ref A_t_isKept, .int c_t_keptAt, .int c_t_isWriting], ia_ G A_t_carries 6 c_t_carries]
def fn_X10_leave (c_t_walkers : Int32) (c_t_carries : Nat → Int32) (x1 : Int32) : Option (Int32 × Int32 × (Nat → Int32)) :=
  b1_ (fn_X10_isWalker c_t_walkers x1) fun r1 =>
  if r1 = 0 then
    some ((-1), c_t_walkers, c_t_carries)
  else
    b1_ (fn_X10_letGo c_t_carries x1) fun w3 =>
    lx_ (c_t_walkers &&& ((1 <<< (x1 &&& 31)) ^^^ (-1))) fun y5 =>
    b1_ (fn_X10_ones y5) fun r6 =>
    some (r6, y5, w3)
set_option maxHeartbeats 4000000 in
set_option maxRecDepth 100000 in
theorem wn_X10_leave {p : Program} {l : Launch} {e : Env} {s : State} {m : MethodId} {args : Array Value} {below : List Frame} {meth : Method} {c : Code} {G : gw_} {A : Nat → Prop} {Q : State → Prop} {A_t : Nat} {A_t_steps : Nat} {A_t_wet : Nat} {A_t_where : Nat} {A_t_home : Nat} {A_t_light : Nat} {A_t_carries : Nat} {A_t_sightPlace : Nat} {A_t_sightLight : Nat} {A_t_pad : Nat} {A_t_act : Nat} {A_t_whose : Nat} {A_t_whom : Nat} {A_t_tens : Nat} {A_t_had : Nat} {A_t_leaves : Nat} {A_t_apart : Nat} {A_t_stop : Nat} {A_t_restOf : Nat} {A_t_group : Nat} {A_t_along : Nat} {A_t_kept : Nat} {A_t_isKept : Nat} {c_t_foggy : Int32} {c_t_walkers : Int32} {z_t_walkers : Int32} {c_t_sights : Int32} {c_t_padMany : Int32} {c_t_acts : Int32} {c_t_spent : Int32} {c_t_walks : Int32} {c_t_badAct : Int32} {c_t_badWhy : Int32} {c_t_keptAt : Int32} {c_t_isWriting : Int32} {c_t_carries : Nat → Int32} {z_t_carries : Nat → Int32} {r : Int32} {x1 : Int32} (hC : cx_ p s m c G cX10_leave 2 RX10) (hret : ∀ (pc : Nat) (H : Heap) (locs : List Loc) (ls : Array Slot), decode cX10_leave pc = .ok (.ireturn, 1) → wd_ G A s.heap (wl_X10_leave G A_t A_t_steps A_t_wet A_t_where A_t_home A_t_light A_t_carries A_t_sightPlace A_t_sightLight A_t_pad A_t_act A_t_whose A_t_whom A_t_tens A_t_had A_t_leaves A_t_apart A_t_stop A_t_restOf A_t_group A_t_along A_t_kept A_t_isKept c_t_foggy z_t_walkers c_t_sights c_t_padMany c_t_acts c_t_spent c_t_walks c_t_badAct c_t_badWhy c_t_keptAt c_t_isWriting z_t_carries) H locs → W p l e { frames := 2, cells := 0, slots := 0, locals := 46 } s m args below meth c H locs 0 0 Q (F0 m pc ls [.int r])) (hf : fn_X10_leave c_t_walkers c_t_carries x1 = some (r, z_t_walkers, z_t_carries)) {H : Heap} {locs : List Loc} {ls : Array Slot} (hl : lv_has ls 2 [(0, .ref A_t), (1, .int x1)]) (hw : wd_ G A s.heap (wl_X10_leave G A_t A_t_steps A_t_wet A_t_where A_t_home A_t_light A_t_carries A_t_sightPlace A_t_sightLight A_t_pad A_t_act A_t_whose A_t_whom A_t_tens A_t_had A_t_leaves A_t_apart A_t_stop A_t_restOf A_t_group A_t_along A_t_kept A_t_isKept c_t_foggy c_t_walkers c_t_sights c_t_padMany c_t_acts c_t_spent c_t_walks c_t_badAct c_t_badWhy c_t_keptAt c_t_isWriting c_t_carries) H locs) : W p l e { frames := 2, cells := 0, slots := 0, locals := 46 } s m args below meth c H locs 0 0 Q (F0 m 0 ls []) := by
  have hx := hC.1
  have hb := hC.2.1
  unfold fn_X10_leave at hf
  refine lv_aload_n hx hb dX10_leave_0 rfl (lv_at hl 0 rfl) ?_
  refine lv_iload_n hx hb dX10_leave_1 rfl (lv_at hl 1 rfl) ?_
  obtain ⟨r1, hq2, hf⟩ := b1_s hf
  refine h_cVi hC hw mvX10_106 (cn_X10_isWalker l G A_t A_t_steps A_t_wet A_t_where A_t_home A_t_light A_t_carries A_t_sightPlace A_t_sightLight A_t_pad A_t_act A_t_whose A_t_whom A_t_tens A_t_had A_t_leaves A_t_apart A_t_stop A_t_restOf A_t_group A_t_along A_t_kept A_t_isKept c_t_foggy c_t_walkers c_t_sights c_t_padMany c_t_acts c_t_spent c_t_walks c_t_badAct c_t_badWhy c_t_keptAt c_t_isWriting x1 r1 hq2) [0] rfl (by decide) 0 rfl rfl rfl hl.1 rfl (Nat.le_of_ble_eq_true rfl) ⟨Nat.le_of_ble_eq_true rfl, Nat.le_of_ble_eq_true rfl⟩ ⟨Nat.le_refl _, Nat.le_refl _⟩ dX10_leave_2 (fun H locs hw => ?_)
  refine lv_if_ne (tgt := 10) hx hb dX10_leave_5 (by decide) (fun hc => ?_) (fun hc => ?_)
  · replace hf := it_f hc hf
    refine lv_aload_n hx hb dX10_leave_10 rfl (lv_at hl 0 rfl) ?_
    refine lv_iload_n hx hb dX10_leave_11 rfl (lv_at hl 1 rfl) ?_
    obtain ⟨w3, hq4, hf⟩ := b1_s hf
    refine g_cVv hC hw mvX10_111 (cn_X10_letGo l G A_t A_t_steps A_t_wet A_t_where A_t_home A_t_light A_t_carries A_t_sightPlace A_t_sightLight A_t_pad A_t_act A_t_whose A_t_whom A_t_tens A_t_had A_t_leaves A_t_apart A_t_stop A_t_restOf A_t_group A_t_along A_t_kept A_t_isKept c_t_foggy c_t_walkers c_t_sights c_t_padMany c_t_acts c_t_spent c_t_walks c_t_badAct c_t_badWhy c_t_keptAt c_t_isWriting c_t_carries x1 w3 hq4) [0, 1] rfl (by decide) rfl 0 rfl rfl rfl hl.1 rfl (Nat.le_of_ble_eq_true rfl) ⟨Nat.le_of_ble_eq_true rfl, Nat.le_of_ble_eq_true rfl⟩ ⟨Nat.le_refl _, Nat.le_refl _⟩ dX10_leave_12 (fun H locs hw => ?_)
    have hw : wd_ G A s.heap (wl_X10_leave G A_t A_t_steps A_t_wet A_t_where A_t_home A_t_light A_t_carries A_t_sightPlace A_t_sightLight A_t_pad A_t_act A_t_whose A_t_whom A_t_tens A_t_had A_t_leaves A_t_apart A_t_stop A_t_restOf A_t_group A_t_along A_t_kept A_t_isKept c_t_foggy c_t_walkers c_t_sights c_t_padMany c_t_acts c_t_spent c_t_walks c_t_badAct c_t_badWhy c_t_keptAt c_t_isWriting w3) H locs := hw
    refine lv_aload_n hx hb dX10_leave_15 rfl (lv_at hl 0 rfl) ?_
    refine lv_dup hx hb dX10_leave_16 rfl ?_
    refine g_get hC hw fkX10_85 0 rfl rfl dX10_leave_17 ?_
    refine lv_iconst (v := 1) hx hb dX10_leave_20 (by decide) ?_
    refine lv_iload_n hx hb dX10_leave_21 rfl (lv_at hl 1 rfl) ?_
    refine lv_ishl hx hb dX10_leave_22 ?_
    refine lv_iconst (v := (-1)) hx hb dX10_leave_23 (by decide) ?_
    refine lv_ixor hx hb dX10_leave_24 ?_
    refine lv_iand hx hb dX10_leave_25 ?_
    obtain ⟨y5, ey5, hf⟩ := lx_s hf
    rw [← ey5]
    refine g_put hC hw fpX10_85 0 rfl rfl rfl (Nat.le_of_ble_eq_true rfl) dX10_leave_26 (fun H locs hw => ?_)
    have hw : wd_ G A s.heap (wl_X10_leave G A_t A_t_steps A_t_wet A_t_where A_t_home A_t_light A_t_carries A_t_sightPlace A_t_sightLight A_t_pad A_t_act A_t_whose A_t_whom A_t_tens A_t_had A_t_leaves A_t_apart A_t_stop A_t_restOf A_t_group A_t_along A_t_kept A_t_isKept c_t_foggy y5 c_t_sights c_t_padMany c_t_acts c_t_spent c_t_walks c_t_badAct c_t_badWhy c_t_keptAt c_t_isWriting w3) H locs := hw
    refine lv_aload_n hx hb dX10_leave_29 rfl (lv_at hl 0 rfl) ?_
    refine g_get hC hw fkX10_85 0 rfl rfl dX10_leave_30 ?_
    obtain ⟨r6, hq7, hf⟩ := b1_s hf
    refine h_cSi hC hw msX10_115 (cn_X10_ones l G y5 r6 hq7) [] rfl (by decide) rfl hl.1 rfl (Nat.le_of_ble_eq_true rfl) ⟨Nat.le_of_ble_eq_true rfl, Nat.le_of_ble_eq_true rfl⟩ ⟨Nat.le_refl _, Nat.le_refl _⟩ dX10_leave_33 (fun H locs hw => ?_)
    obtain ⟨h1_, h2_, h3_⟩ := t3_ hf
    subst h1_
    subst h2_
    subst h3_
    exact hret _ _ _ _ dX10_leave_36 hw
  · replace hf := it_t hc hf
    refine lv_iconst (v := (-1)) hx hb dX10_leave_8 (by decide) ?_
    obtain ⟨h1_, h2_, h3_⟩ := t3_ hf
    subst h1_
    subst h2_
    subst h3_
    exact hret _ _ _ _ dX10_leave_9 hw
set_option maxHeartbeats 4000000 in
set_option maxRecDepth 100000 in
theorem cn_X10_leave (l : Launch) (G : gw_) (A_t : Nat) (A_t_steps : Nat) (A_t_wet : Nat) (A_t_where : Nat) (A_t_home : Nat) (A_t_light : Nat) (A_t_carries : Nat) (A_t_sightPlace : Nat) (A_t_sightLight : Nat) (A_t_pad : Nat) (A_t_act : Nat) (A_t_whose : Nat) (A_t_whom : Nat) (A_t_tens : Nat) (A_t_had : Nat) (A_t_leaves : Nat) (A_t_apart : Nat) (A_t_stop : Nat) (A_t_restOf : Nat) (A_t_group : Nat) (A_t_along : Nat) (A_t_kept : Nat) (A_t_isKept : Nat) (c_t_foggy : Int32) (c_t_walkers : Int32) (c_t_sights : Int32) (c_t_padMany : Int32) (c_t_acts : Int32) (c_t_spent : Int32) (c_t_walks : Int32) (c_t_badAct : Int32) (c_t_badWhy : Int32) (c_t_keptAt : Int32) (c_t_isWriting : Int32) (c_t_carries : Nat → Int32) (x1 : Int32) (r : Int32) (z_t_walkers : Int32) (z_t_carries : Nat → Int32) (hf : fn_X10_leave c_t_walkers c_t_carries x1 = some (r, z_t_walkers, z_t_carries)) : ci_ l G yX10_leave cX10_leave 2 (some .int) 2 46 (wl_X10_leave G A_t A_t_steps A_t_wet A_t_where A_t_home A_t_light A_t_carries A_t_sightPlace A_t_sightLight A_t_pad A_t_act A_t_whose A_t_whom A_t_tens A_t_had A_t_leaves A_t_apart A_t_stop A_t_restOf A_t_group A_t_along A_t_kept A_t_isKept c_t_foggy c_t_walkers c_t_sights c_t_padMany c_t_acts c_t_spent c_t_walks c_t_badAct c_t_badWhy c_t_keptAt c_t_isWriting c_t_carries) [.ref A_t, .int x1] r (wl_X10_leave G A_t A_t_steps A_t_wet A_t_where A_t_home A_t_light A_t_carries A_t_sightPlace A_t_sightLight A_t_pad A_t_act A_t_whose A_t_whom A_t_tens A_t_had A_t_leaves A_t_apart A_t_stop A_t_restOf A_t_group A_t_along A_t_kept A_t_isKept c_t_foggy z_t_walkers c_t_sights c_t_padMany c_t_acts c_t_spent c_t_walks c_t_badAct c_t_badWhy c_t_keptAt c_t_isWriting z_t_carries) := fun sz => met_intro (by decide) (Nat.le_of_ble_eq_true rfl) (fun p e s m args below meth c ls hsz hC hr hlk hnm hl hw => wn_X10_leave hC (fun pc H locs ls hd hw => g_iret hC hr hlk hw rfl rfl hd) hf hl hw)

theorem dX10_fog_0 : decode cX10_fog 0 = .ok (.aload_n 0, 1) := by decide +kernel
theorem dX10_fog_1 : decode cX10_fog 1 = .ok (.getfield 93, 3) := by decide +kernel
theorem dX10_fog_4 : decode cX10_fog 4 = .ok (.istore_n 2, 1) := by decide +kernel
theorem dX10_fog_5 : decode cX10_fog 5 = .ok (.aload_n 0, 1) := by decide +kernel
theorem dX10_fog_6 : decode cX10_fog 6 = .ok (.iload_n 1, 1) := by decide +kernel
theorem dX10_fog_7 : decode cX10_fog 7 = .ok (.ifCond .eq 7, 3) := by decide +kernel
theorem dX10_fog_10 : decode cX10_fog 10 = .ok (.iconst 1, 1) := by decide +kernel
theorem dX10_fog_11 : decode cX10_fog 11 = .ok (.goto 4, 3) := by decide +kernel
theorem dX10_fog_14 : decode cX10_fog 14 = .ok (.iconst 0, 1) := by decide +kernel
theorem dX10_fog_15 : decode cX10_fog 15 = .ok (.putfield 93, 3) := by decide +kernel
theorem dX10_fog_18 : decode cX10_fog 18 = .ok (.iload_n 2, 1) := by decide +kernel
theorem dX10_fog_19 : decode cX10_fog 19 = .ok (.ireturn, 1) := by decide +kernel
abbrev wl_X10_fog (G : gw_) (A_t : Nat) (A_t_steps : Nat) (A_t_wet : Nat) (A_t_where : Nat) (A_t_home : Nat) (A_t_light : Nat) (A_t_carries : Nat) (A_t_sightPlace : Nat) (A_t_sightLight : Nat) (A_t_pad : Nat) (A_t_act : Nat) (A_t_whose : Nat) (A_t_whom : Nat) (A_t_tens : Nat) (A_t_had : Nat) (A_t_leaves : Nat) (A_t_apart : Nat) (A_t_stop : Nat) (A_t_restOf : Nat) (A_t_group : Nat) (A_t_along : Nat) (A_t_kept : Nat) (A_t_isKept : Nat) (c_t_foggy : Int32) (c_t_walkers : Int32) (c_t_sights : Int32) (c_t_padMany : Int32) (c_t_acts : Int32) (c_t_spent : Int32) (c_t_walks : Int32) (c_t_badAct : Int32) (c_t_badWhy : Int32) (c_t_keptAt : Int32) (c_t_isWriting : Int32) : va_W := [ob_ A_t 10 [.ref A_t_steps, .ref A_t_wet, .int c_t_foggy, .int c_t_walkers, .ref A_t_where, .ref A_t_home, .ref A_t_light, .ref A_t_carries, .ref A_t_sightPlace, .ref A_t_sightLight, .int c_t_sights, .ref A_t_pad, .int c_t_padMany, .ref A_t_act, .ref A_t_whose, .ref A_t_whom, .ref A_t_tens, .int c_t_acts, .int c_t_spent, .int c_t_walks, .ref A_t_had, .ref A_t_leaves, .int c_t_badAct, .int c_t_badWhy, .ref A_t_apart, .ref A_t_stop, .ref A_t_restOf, .ref A_t_group, .ref A_t_along, .ref A_t_kept, .ref A_t_isKept, .int c_t_keptAt, .int c_t_isWriting]]
def fn_X10_fog (c_t_foggy : Int32) (x1 : Int32) : Option (Int32 × Int32) :=
  if x1 = 0 then
    some (c_t_foggy, 0)
  else
    some (c_t_foggy, 1)
set_option maxHeartbeats 4000000 in
set_option maxRecDepth 100000 in
theorem wn_X10_fog {p : Program} {l : Launch} {e : Env} {s : State} {m : MethodId} {args : Array Value} {below : List Frame} {meth : Method} {c : Code} {G : gw_} {A : Nat → Prop} {Q : State → Prop} {A_t : Nat} {A_t_steps : Nat} {A_t_wet : Nat} {A_t_where : Nat} {A_t_home : Nat} {A_t_light : Nat} {A_t_carries : Nat} {A_t_sightPlace : Nat} {A_t_sightLight : Nat} {A_t_pad : Nat} {A_t_act : Nat} {A_t_whose : Nat} {A_t_whom : Nat} {A_t_tens : Nat} {A_t_had : Nat} {A_t_leaves : Nat} {A_t_apart : Nat} {A_t_stop : Nat} {A_t_restOf : Nat} {A_t_group : Nat} {A_t_along : Nat} {A_t_kept : Nat} {A_t_isKept : Nat} {c_t_foggy : Int32} {z_t_foggy : Int32} {c_t_walkers : Int32} {c_t_sights : Int32} {c_t_padMany : Int32} {c_t_acts : Int32} {c_t_spent : Int32} {c_t_walks : Int32} {c_t_badAct : Int32} {c_t_badWhy : Int32} {c_t_keptAt : Int32} {c_t_isWriting : Int32} {r : Int32} {x1 : Int32} (hC : cx_ p s m c G cX10_fog 3 RX10) (hret : ∀ (pc : Nat) (H : Heap) (locs : List Loc) (ls : Array Slot), decode cX10_fog pc = .ok (.ireturn, 1) → wd_ G A s.heap (wl_X10_fog G A_t A_t_steps A_t_wet A_t_where A_t_home A_t_light A_t_carries A_t_sightPlace A_t_sightLight A_t_pad A_t_act A_t_whose A_t_whom A_t_tens A_t_had A_t_leaves A_t_apart A_t_stop A_t_restOf A_t_group A_t_along A_t_kept A_t_isKept z_t_foggy c_t_walkers c_t_sights c_t_padMany c_t_acts c_t_spent c_t_walks c_t_badAct c_t_badWhy c_t_keptAt c_t_isWriting) H locs → W p l e { frames := 0, cells := 0, slots := 0, locals := 0 } s m args below meth c H locs 0 0 Q (F0 m pc ls [.int r])) (hf : fn_X10_fog c_t_foggy x1 = some (r, z_t_foggy)) {H : Heap} {locs : List Loc} {ls : Array Slot} (hl : lv_has ls 3 [(0, .ref A_t), (1, .int x1)]) (hw : wd_ G A s.heap (wl_X10_fog G A_t A_t_steps A_t_wet A_t_where A_t_home A_t_light A_t_carries A_t_sightPlace A_t_sightLight A_t_pad A_t_act A_t_whose A_t_whom A_t_tens A_t_had A_t_leaves A_t_apart A_t_stop A_t_restOf A_t_group A_t_along A_t_kept A_t_isKept c_t_foggy c_t_walkers c_t_sights c_t_padMany c_t_acts c_t_spent c_t_walks c_t_badAct c_t_badWhy c_t_keptAt c_t_isWriting) H locs) : W p l e { frames := 0, cells := 0, slots := 0, locals := 0 } s m args below meth c H locs 0 0 Q (F0 m 0 ls []) := by
  have hx := hC.1
  have hb := hC.2.1
  unfold fn_X10_fog at hf
  refine lv_aload_n hx hb dX10_fog_0 rfl (lv_at hl 0 rfl) ?_
  refine g_get hC hw fkX10_93 0 rfl rfl dX10_fog_1 ?_
  refine lv_istore_n (lv' := [(2, .int c_t_foggy), (0, .ref A_t), (1, .int x1)]) hx hb dX10_fog_4 rfl hl (by decide) rfl (fun ls hl => ?_)
  refine lv_aload_n hx hb dX10_fog_5 rfl (lv_at hl 1 rfl) ?_
  refine lv_iload_n hx hb dX10_fog_6 rfl (lv_at hl 2 rfl) ?_
  refine lv_if_eq (tgt := 14) hx hb dX10_fog_7 (by decide) (fun hc => ?_) (fun hc => ?_)
  · replace hf := it_t hc hf
    refine lv_iconst (v := 0) hx hb dX10_fog_14 (by decide) ?_
    refine g_put hC hw fpX10_93 0 rfl rfl rfl (Nat.le_of_ble_eq_true rfl) dX10_fog_15 (fun H locs hw => ?_)
    have hw : wd_ G A s.heap (wl_X10_fog G A_t A_t_steps A_t_wet A_t_where A_t_home A_t_light A_t_carries A_t_sightPlace A_t_sightLight A_t_pad A_t_act A_t_whose A_t_whom A_t_tens A_t_had A_t_leaves A_t_apart A_t_stop A_t_restOf A_t_group A_t_along A_t_kept A_t_isKept 0 c_t_walkers c_t_sights c_t_padMany c_t_acts c_t_spent c_t_walks c_t_badAct c_t_badWhy c_t_keptAt c_t_isWriting) H locs := hw
    refine lv_iload_n hx hb dX10_fog_18 rfl (lv_at hl 0 rfl) ?_
    obtain ⟨h1_, h2_⟩ := t2_ hf
    subst h1_
    subst h2_
    exact hret _ _ _ _ dX10_fog_19 hw
  · replace hf := it_f hc hf
    refine lv_iconst (v := 1) hx hb dX10_fog_10 (by decide) ?_
    refine lv_goto (tgt := 15) hx hb dX10_fog_11 (by decide) ?_
    refine g_put hC hw fpX10_93 0 rfl rfl rfl (Nat.le_of_ble_eq_true rfl) dX10_fog_15 (fun H locs hw => ?_)
    have hw : wd_ G A s.heap (wl_X10_fog G A_t A_t_steps A_t_wet A_t_where A_t_home A_t_light A_t_carries A_t_sightPlace A_t_sightLight A_t_pad A_t_act A_t_whose A_t_whom A_t_tens A_t_had A_t_leaves A_t_apart A_t_stop A_t_restOf A_t_group A_t_along A_t_kept A_t_isKept 1 c_t_walkers c_t_sights c_t_padMany c_t_acts c_t_spent c_t_walks c_t_badAct c_t_badWhy c_t_keptAt c_t_isWriting) H locs := hw
    refine lv_iload_n hx hb dX10_fog_18 rfl (lv_at hl 0 rfl) ?_
    obtain ⟨h1_, h2_⟩ := t2_ hf
    subst h1_
    subst h2_
    exact hret _ _ _ _ dX10_fog_19 hw
set_option maxHeartbeats 4000000 in
set_option maxRecDepth 100000 in
theorem cn_X10_fog (l : Launch) (G : gw_) (A_t : Nat) (A_t_steps : Nat) (A_t_wet : Nat) (A_t_where : Nat) (A_t_home : Nat) (A_t_light : Nat) (A_t_carries : Nat) (A_t_sightPlace : Nat) (A_t_sightLight : Nat) (A_t_pad : Nat) (A_t_act : Nat) (A_t_whose : Nat) (A_t_whom : Nat) (A_t_tens : Nat) (A_t_had : Nat) (A_t_leaves : Nat) (A_t_apart : Nat) (A_t_stop : Nat) (A_t_restOf : Nat) (A_t_group : Nat) (A_t_along : Nat) (A_t_kept : Nat) (A_t_isKept : Nat) (c_t_foggy : Int32) (c_t_walkers : Int32) (c_t_sights : Int32) (c_t_padMany : Int32) (c_t_acts : Int32) (c_t_spent : Int32) (c_t_walks : Int32) (c_t_badAct : Int32) (c_t_badWhy : Int32) (c_t_keptAt : Int32) (c_t_isWriting : Int32) (x1 : Int32) (r : Int32) (z_t_foggy : Int32) (hf : fn_X10_fog c_t_foggy x1 = some (r, z_t_foggy)) : ci_ l G yX10_fog cX10_fog 3 (some .int) 0 0 (wl_X10_fog G A_t A_t_steps A_t_wet A_t_where A_t_home A_t_light A_t_carries A_t_sightPlace A_t_sightLight A_t_pad A_t_act A_t_whose A_t_whom A_t_tens A_t_had A_t_leaves A_t_apart A_t_stop A_t_restOf A_t_group A_t_along A_t_kept A_t_isKept c_t_foggy c_t_walkers c_t_sights c_t_padMany c_t_acts c_t_spent c_t_walks c_t_badAct c_t_badWhy c_t_keptAt c_t_isWriting) [.ref A_t, .int x1] r (wl_X10_fog G A_t A_t_steps A_t_wet A_t_where A_t_home A_t_light A_t_carries A_t_sightPlace A_t_sightLight A_t_pad A_t_act A_t_whose A_t_whom A_t_tens A_t_had A_t_leaves A_t_apart A_t_stop A_t_restOf A_t_group A_t_along A_t_kept A_t_isKept z_t_foggy c_t_walkers c_t_sights c_t_padMany c_t_acts c_t_spent c_t_walks c_t_badAct c_t_badWhy c_t_keptAt c_t_isWriting) := fun sz => met_intro (by decide) (Nat.le_of_ble_eq_true rfl) (fun p e s m args below meth c ls hsz hC hr hlk hnm hl hw => wn_X10_fog hC (fun pc H locs ls hd hw => g_iret hC hr hlk hw rfl rfl hd) hf hl hw)

theorem dX10_say_0 : decode cX10_say 0 = .ok (.iload_n 1, 1) := by decide +kernel
theorem dX10_say_1 : decode cX10_say 1 = .ok (.i2l, 1) := by decide +kernel
theorem dX10_say_2 : decode cX10_say 2 = .ok (.ldc2_w 119, 3) := by decide +kernel
theorem dX10_say_5 : decode cX10_say 5 = .ok (.ldc2_w 121, 3) := by decide +kernel
theorem dX10_say_8 : decode cX10_say 8 = .ok (.invokestatic 79, 3) := by decide +kernel
theorem dX10_say_11 : decode cX10_say 11 = .ok (.ifCond .ne 6, 3) := by decide +kernel
theorem dX10_say_14 : decode cX10_say 14 = .ok (.bipush (-2), 2) := by decide +kernel
theorem dX10_say_16 : decode cX10_say 16 = .ok (.ireturn, 1) := by decide +kernel
theorem dX10_say_17 : decode cX10_say 17 = .ok (.aload_n 0, 1) := by decide +kernel
theorem dX10_say_18 : decode cX10_say 18 = .ok (.getfield 123, 3) := by decide +kernel
theorem dX10_say_21 : decode cX10_say 21 = .ok (.bipush 60, 2) := by decide +kernel
theorem dX10_say_23 : decode cX10_say 23 = .ok (.if_icmp .ne 6, 3) := by decide +kernel
theorem dX10_say_26 : decode cX10_say 26 = .ok (.bipush (-4), 2) := by decide +kernel
theorem dX10_say_28 : decode cX10_say 28 = .ok (.ireturn, 1) := by decide +kernel
theorem dX10_say_29 : decode cX10_say 29 = .ok (.aload_n 0, 1) := by decide +kernel
theorem dX10_say_30 : decode cX10_say 30 = .ok (.getfield 34, 3) := by decide +kernel
theorem dX10_say_33 : decode cX10_say 33 = .ok (.aload_n 0, 1) := by decide +kernel
theorem dX10_say_34 : decode cX10_say 34 = .ok (.getfield 123, 3) := by decide +kernel
theorem dX10_say_37 : decode cX10_say 37 = .ok (.iload_n 1, 1) := by decide +kernel
theorem dX10_say_38 : decode cX10_say 38 = .ok (.iastore, 1) := by decide +kernel
theorem dX10_say_39 : decode cX10_say 39 = .ok (.aload_n 0, 1) := by decide +kernel
theorem dX10_say_40 : decode cX10_say 40 = .ok (.dup, 1) := by decide +kernel
theorem dX10_say_41 : decode cX10_say 41 = .ok (.getfield 123, 3) := by decide +kernel
theorem dX10_say_44 : decode cX10_say 44 = .ok (.iconst 1, 1) := by decide +kernel
theorem dX10_say_45 : decode cX10_say 45 = .ok (.iadd, 1) := by decide +kernel
theorem dX10_say_46 : decode cX10_say 46 = .ok (.putfield 123, 3) := by decide +kernel
theorem dX10_say_49 : decode cX10_say 49 = .ok (.aload_n 0, 1) := by decide +kernel
theorem dX10_say_50 : decode cX10_say 50 = .ok (.getfield 123, 3) := by decide +kernel
theorem dX10_say_53 : decode cX10_say 53 = .ok (.ireturn, 1) := by decide +kernel
abbrev wl_X10_say (G : gw_) (A_t : Nat) (A_t_steps : Nat) (A_t_wet : Nat) (A_t_where : Nat) (A_t_home : Nat) (A_t_light : Nat) (A_t_carries : Nat) (A_t_sightPlace : Nat) (A_t_sightLight : Nat) (A_t_pad : Nat) (A_t_act : Nat) (A_t_whose : Nat) (A_t_whom : Nat) (A_t_tens : Nat) (A_t_had : Nat) (A_t_leaves : Nat) (A_t_apart : Nat) (A_t_stop : Nat) (A_t_restOf : Nat) (A_t_group : Nat) (A_t_along : Nat) (A_t_kept : Nat) (A_t_isKept : Nat) (c_t_foggy : Int32) (c_t_walkers : Int32) (c_t_sights : Int32) (c_t_padMany : Int32) (c_t_acts : Int32) (c_t_spent : Int32) (c_t_walks : Int32) (c_t_badAct : Int32) (c_t_badWhy : Int32) (c_t_keptAt : Int32) (c_t_isWriting : Int32) (c_t_pad : Nat → Int32) : va_W := [ob_ A_t 10 [.ref A_t_steps, .ref A_t_wet, .int c_t_foggy, .int c_t_walkers, .ref A_t_where, .ref A_t_home, .ref A_t_light, .ref A_t_carries, .ref A_t_sightPlace, .ref A_t_sightLight, .int c_t_sights, .ref A_t_pad, .int c_t_padMany, .ref A_t_act, .ref A_t_whose, .ref A_t_whom, .ref A_t_tens, .int c_t_acts, .int c_t_spent, .int c_t_walks, .ref A_t_had, .ref A_t_leaves, .int c_t_badAct, .int c_t_badWhy, .ref A_t_apart, .ref A_t_stop, .ref A_t_restOf, .ref A_t_group, .ref A_t_along, .ref A_t_kept, .ref A_t_isKept, .int c_t_keptAt, .int c_t_isWriting], ia_ G A_t_pad 60 c_t_pad]
def fn_X10_say (c_t_padMany : Int32) (c_t_pad : Nat → Int32) (x1 : Int32) : Option (Int32 × Int32 × (Nat → Int32)) :=
  b1_ (fn_X10_in (Int32.toInt64 x1) 33 126) fun r1 =>
  if r1 = 0 then
    some ((-2), c_t_padMany, c_t_pad)
  else
    if c_t_padMany = 60 then
      some ((-4), c_t_padMany, c_t_pad)
    else
      ck_ c_t_padMany 60 <|
      lx_ (upd c_t_pad (Int32.toNatClampNeg c_t_padMany) x1) fun f3 =>
      some (c_t_padMany + 1, c_t_padMany + 1, f3)
set_option maxHeartbeats 4000000 in
set_option maxRecDepth 100000 in
theorem wn_X10_say {p : Program} {l : Launch} {e : Env} {s : State} {m : MethodId} {args : Array Value} {below : List Frame} {meth : Method} {c : Code} {G : gw_} {A : Nat → Prop} {Q : State → Prop} {A_t : Nat} {A_t_steps : Nat} {A_t_wet : Nat} {A_t_where : Nat} {A_t_home : Nat} {A_t_light : Nat} {A_t_carries : Nat} {A_t_sightPlace : Nat} {A_t_sightLight : Nat} {A_t_pad : Nat} {A_t_act : Nat} {A_t_whose : Nat} {A_t_whom : Nat} {A_t_tens : Nat} {A_t_had : Nat} {A_t_leaves : Nat} {A_t_apart : Nat} {A_t_stop : Nat} {A_t_restOf : Nat} {A_t_group : Nat} {A_t_along : Nat} {A_t_kept : Nat} {A_t_isKept : Nat} {c_t_foggy : Int32} {c_t_walkers : Int32} {c_t_sights : Int32} {c_t_padMany : Int32} {z_t_padMany : Int32} {c_t_acts : Int32} {c_t_spent : Int32} {c_t_walks : Int32} {c_t_badAct : Int32} {c_t_badWhy : Int32} {c_t_keptAt : Int32} {c_t_isWriting : Int32} {c_t_pad : Nat → Int32} {z_t_pad : Nat → Int32} {r : Int32} {x1 : Int32} (hC : cx_ p s m c G cX10_say 2 RX10) (hret : ∀ (pc : Nat) (H : Heap) (locs : List Loc) (ls : Array Slot), decode cX10_say pc = .ok (.ireturn, 1) → wd_ G A s.heap (wl_X10_say G A_t A_t_steps A_t_wet A_t_where A_t_home A_t_light A_t_carries A_t_sightPlace A_t_sightLight A_t_pad A_t_act A_t_whose A_t_whom A_t_tens A_t_had A_t_leaves A_t_apart A_t_stop A_t_restOf A_t_group A_t_along A_t_kept A_t_isKept c_t_foggy c_t_walkers c_t_sights z_t_padMany c_t_acts c_t_spent c_t_walks c_t_badAct c_t_badWhy c_t_keptAt c_t_isWriting z_t_pad) H locs → W p l e { frames := 1, cells := 0, slots := 0, locals := 25 } s m args below meth c H locs 0 0 Q (F0 m pc ls [.int r])) (hf : fn_X10_say c_t_padMany c_t_pad x1 = some (r, z_t_padMany, z_t_pad)) {H : Heap} {locs : List Loc} {ls : Array Slot} (hl : lv_has ls 2 [(0, .ref A_t), (1, .int x1)]) (hw : wd_ G A s.heap (wl_X10_say G A_t A_t_steps A_t_wet A_t_where A_t_home A_t_light A_t_carries A_t_sightPlace A_t_sightLight A_t_pad A_t_act A_t_whose A_t_whom A_t_tens A_t_had A_t_leaves A_t_apart A_t_stop A_t_restOf A_t_group A_t_along A_t_kept A_t_isKept c_t_foggy c_t_walkers c_t_sights c_t_padMany c_t_acts c_t_spent c_t_walks c_t_badAct c_t_badWhy c_t_keptAt c_t_isWriting c_t_pad) H locs) : W p l e { frames := 1, cells := 0, slots := 0, locals := 25 } s m args below meth c H locs 0 0 Q (F0 m 0 ls []) := by
  have hx := hC.1
  have hb := hC.2.1
  unfold fn_X10_say at hf
  refine lv_iload_n hx hb dX10_say_0 rfl (lv_at hl 1 rfl) ?_
  refine lv_i2l hx hb dX10_say_1 rfl ?_
  refine g_ldc2 (v := 33) hC (tb4 147 rfl rfl) dX10_say_2 ?_
  refine g_ldc2 (v := 126) hC (tb4 148 rfl rfl) dX10_say_5 ?_
  obtain ⟨r1, hq2, hf⟩ := b1_s hf
  refine h_cSi hC hw msX10_79 (cn_X10_in l G (Int32.toInt64 x1) 33 126 r1 hq2) [] rfl (by decide) rfl hl.1 rfl (Nat.le_of_ble_eq_true rfl) ⟨Nat.le_of_ble_eq_true rfl, Nat.le_of_ble_eq_true rfl⟩ ⟨Nat.le_refl _, Nat.le_refl _⟩ dX10_say_8 (fun H locs hw => ?_)
  refine lv_if_ne (tgt := 17) hx hb dX10_say_11 (by decide) (fun hc => ?_) (fun hc => ?_)
  · replace hf := it_f hc hf
    refine lv_aload_n hx hb dX10_say_17 rfl (lv_at hl 0 rfl) ?_
    refine g_get hC hw fkX10_123 0 rfl rfl dX10_say_18 ?_
    refine lv_bipush (v := 60) hx hb dX10_say_21 (by decide) ?_
    refine lv_icmp_ne (tgt := 29) hx hb dX10_say_23 (by decide) (fun hc => ?_) (fun hc => ?_)
    · replace hf := it_f hc hf
      refine lv_aload_n hx hb dX10_say_29 rfl (lv_at hl 0 rfl) ?_
      refine g_get hC hw fkX10_34 0 rfl rfl dX10_say_30 ?_
      refine lv_aload_n hx hb dX10_say_33 rfl (lv_at hl 0 rfl) ?_
      refine g_get hC hw fkX10_123 0 rfl rfl dX10_say_34 ?_
      refine lv_iload_n hx hb dX10_say_37 rfl (lv_at hl 1 rfl) ?_
      obtain ⟨hi, hf⟩ := ck_s hf
      obtain ⟨f3, ef3, hf⟩ := lx_s hf
      refine g_iast hC hw 1 rfl hi ef3 dX10_say_38 (fun H locs hw => ?_)
      have hw : wd_ G A s.heap (wl_X10_say G A_t A_t_steps A_t_wet A_t_where A_t_home A_t_light A_t_carries A_t_sightPlace A_t_sightLight A_t_pad A_t_act A_t_whose A_t_whom A_t_tens A_t_had A_t_leaves A_t_apart A_t_stop A_t_restOf A_t_group A_t_along A_t_kept A_t_isKept c_t_foggy c_t_walkers c_t_sights c_t_padMany c_t_acts c_t_spent c_t_walks c_t_badAct c_t_badWhy c_t_keptAt c_t_isWriting f3) H locs := hw
      refine lv_aload_n hx hb dX10_say_39 rfl (lv_at hl 0 rfl) ?_
      refine lv_dup hx hb dX10_say_40 rfl ?_
      refine g_get hC hw fkX10_123 0 rfl rfl dX10_say_41 ?_
      refine lv_iconst (v := 1) hx hb dX10_say_44 (by decide) ?_
      refine lv_iadd hx hb dX10_say_45 ?_
      refine g_put hC hw fpX10_123 0 rfl rfl rfl (Nat.le_of_ble_eq_true rfl) dX10_say_46 (fun H locs hw => ?_)
      have hw : wd_ G A s.heap (wl_X10_say G A_t A_t_steps A_t_wet A_t_where A_t_home A_t_light A_t_carries A_t_sightPlace A_t_sightLight A_t_pad A_t_act A_t_whose A_t_whom A_t_tens A_t_had A_t_leaves A_t_apart A_t_stop A_t_restOf A_t_group A_t_along A_t_kept A_t_isKept c_t_foggy c_t_walkers c_t_sights (c_t_padMany + 1) c_t_acts c_t_spent c_t_walks c_t_badAct c_t_badWhy c_t_keptAt c_t_isWriting f3) H locs := hw
      refine lv_aload_n hx hb dX10_say_49 rfl (lv_at hl 0 rfl) ?_
      refine g_get hC hw fkX10_123 0 rfl rfl dX10_say_50 ?_
      obtain ⟨h1_, h2_, h3_⟩ := t3_ hf
      subst h1_
      subst h2_
      subst h3_
      exact hret _ _ _ _ dX10_say_53 hw
    · replace hf := it_t hc hf
      refine lv_bipush (v := (-4)) hx hb dX10_say_26 (by decide) ?_
      obtain ⟨h1_, h2_, h3_⟩ := t3_ hf
      subst h1_
      subst h2_
      subst h3_
      exact hret _ _ _ _ dX10_say_28 hw
  · replace hf := it_t hc hf
    refine lv_bipush (v := (-2)) hx hb dX10_say_14 (by decide) ?_
    obtain ⟨h1_, h2_, h3_⟩ := t3_ hf
    subst h1_
    subst h2_
    subst h3_
    exact hret _ _ _ _ dX10_say_16 hw
set_option maxHeartbeats 4000000 in
set_option maxRecDepth 100000 in
theorem cn_X10_say (l : Launch) (G : gw_) (A_t : Nat) (A_t_steps : Nat) (A_t_wet : Nat) (A_t_where : Nat) (A_t_home : Nat) (A_t_light : Nat) (A_t_carries : Nat) (A_t_sightPlace : Nat) (A_t_sightLight : Nat) (A_t_pad : Nat) (A_t_act : Nat) (A_t_whose : Nat) (A_t_whom : Nat) (A_t_tens : Nat) (A_t_had : Nat) (A_t_leaves : Nat) (A_t_apart : Nat) (A_t_stop : Nat) (A_t_restOf : Nat) (A_t_group : Nat) (A_t_along : Nat) (A_t_kept : Nat) (A_t_isKept : Nat) (c_t_foggy : Int32) (c_t_walkers : Int32) (c_t_sights : Int32) (c_t_padMany : Int32) (c_t_acts : Int32) (c_t_spent : Int32) (c_t_walks : Int32) (c_t_badAct : Int32) (c_t_badWhy : Int32) (c_t_keptAt : Int32) (c_t_isWriting : Int32) (c_t_pad : Nat → Int32) (x1 : Int32) (r : Int32) (z_t_padMany : Int32) (z_t_pad : Nat → Int32) (hf : fn_X10_say c_t_padMany c_t_pad x1 = some (r, z_t_padMany, z_t_pad)) : ci_ l G yX10_say cX10_say 2 (some .int) 1 25 (wl_X10_say G A_t A_t_steps A_t_wet A_t_where A_t_home A_t_light A_t_carries A_t_sightPlace A_t_sightLight A_t_pad A_t_act A_t_whose A_t_whom A_t_tens A_t_had A_t_leaves A_t_apart A_t_stop A_t_restOf A_t_group A_t_along A_t_kept A_t_isKept c_t_foggy c_t_walkers c_t_sights c_t_padMany c_t_acts c_t_spent c_t_walks c_t_badAct c_t_badWhy c_t_keptAt c_t_isWriting c_t_pad) [.ref A_t, .int x1] r (wl_X10_say G A_t A_t_steps A_t_wet A_t_where A_t_home A_t_light A_t_carries A_t_sightPlace A_t_sightLight A_t_pad A_t_act A_t_whose A_t_whom A_t_tens A_t_had A_t_leaves A_t_apart A_t_stop A_t_restOf A_t_group A_t_along A_t_kept A_t_isKept c_t_foggy c_t_walkers c_t_sights z_t_padMany c_t_acts c_t_spent c_t_walks c_t_badAct c_t_badWhy c_t_keptAt c_t_isWriting z_t_pad) := fun sz => met_intro (by decide) (Nat.le_of_ble_eq_true rfl) (fun p e s m args below meth c ls hsz hC hr hlk hnm hl hw => wn_X10_say hC (fun pc H locs ls hd hw => g_iret hC hr hlk hw rfl rfl hd) hf hl hw)

theorem dX10_wipe_0 : decode cX10_wipe 0 = .ok (.aload_n 0, 1) := by decide +kernel
theorem dX10_wipe_1 : decode cX10_wipe 1 = .ok (.getfield 123, 3) := by decide +kernel
theorem dX10_wipe_4 : decode cX10_wipe 4 = .ok (.istore_n 1, 1) := by decide +kernel
theorem dX10_wipe_5 : decode cX10_wipe 5 = .ok (.aload_n 0, 1) := by decide +kernel
theorem dX10_wipe_6 : decode cX10_wipe 6 = .ok (.iconst 0, 1) := by decide +kernel
theorem dX10_wipe_7 : decode cX10_wipe 7 = .ok (.putfield 123, 3) := by decide +kernel
theorem dX10_wipe_10 : decode cX10_wipe 10 = .ok (.iload_n 1, 1) := by decide +kernel
theorem dX10_wipe_11 : decode cX10_wipe 11 = .ok (.ireturn, 1) := by decide +kernel
abbrev wl_X10_wipe (G : gw_) (A_t : Nat) (A_t_steps : Nat) (A_t_wet : Nat) (A_t_where : Nat) (A_t_home : Nat) (A_t_light : Nat) (A_t_carries : Nat) (A_t_sightPlace : Nat) (A_t_sightLight : Nat) (A_t_pad : Nat) (A_t_act : Nat) (A_t_whose : Nat) (A_t_whom : Nat) (A_t_tens : Nat) (A_t_had : Nat) (A_t_leaves : Nat) (A_t_apart : Nat) (A_t_stop : Nat) (A_t_restOf : Nat) (A_t_group : Nat) (A_t_along : Nat) (A_t_kept : Nat) (A_t_isKept : Nat) (c_t_foggy : Int32) (c_t_walkers : Int32) (c_t_sights : Int32) (c_t_padMany : Int32) (c_t_acts : Int32) (c_t_spent : Int32) (c_t_walks : Int32) (c_t_badAct : Int32) (c_t_badWhy : Int32) (c_t_keptAt : Int32) (c_t_isWriting : Int32) : va_W := [ob_ A_t 10 [.ref A_t_steps, .ref A_t_wet, .int c_t_foggy, .int c_t_walkers, .ref A_t_where, .ref A_t_home, .ref A_t_light, .ref A_t_carries, .ref A_t_sightPlace, .ref A_t_sightLight, .int c_t_sights, .ref A_t_pad, .int c_t_padMany, .ref A_t_act, .ref A_t_whose, .ref A_t_whom, .ref A_t_tens, .int c_t_acts, .int c_t_spent, .int c_t_walks, .ref A_t_had, .ref A_t_leaves, .int c_t_badAct, .int c_t_badWhy, .ref A_t_apart, .ref A_t_stop, .ref A_t_restOf, .ref A_t_group, .ref A_t_along, .ref A_t_kept, .ref A_t_isKept, .int c_t_keptAt, .int c_t_isWriting]]
def fn_X10_wipe (c_t_padMany : Int32) : Option (Int32 × Int32) :=
  some (c_t_padMany, 0)
set_option maxHeartbeats 4000000 in
set_option maxRecDepth 100000 in
theorem wn_X10_wipe {p : Program} {l : Launch} {e : Env} {s : State} {m : MethodId} {args : Array Value} {below : List Frame} {meth : Method} {c : Code} {G : gw_} {A : Nat → Prop} {Q : State → Prop} {A_t : Nat} {A_t_steps : Nat} {A_t_wet : Nat} {A_t_where : Nat} {A_t_home : Nat} {A_t_light : Nat} {A_t_carries : Nat} {A_t_sightPlace : Nat} {A_t_sightLight : Nat} {A_t_pad : Nat} {A_t_act : Nat} {A_t_whose : Nat} {A_t_whom : Nat} {A_t_tens : Nat} {A_t_had : Nat} {A_t_leaves : Nat} {A_t_apart : Nat} {A_t_stop : Nat} {A_t_restOf : Nat} {A_t_group : Nat} {A_t_along : Nat} {A_t_kept : Nat} {A_t_isKept : Nat} {c_t_foggy : Int32} {c_t_walkers : Int32} {c_t_sights : Int32} {c_t_padMany : Int32} {z_t_padMany : Int32} {c_t_acts : Int32} {c_t_spent : Int32} {c_t_walks : Int32} {c_t_badAct : Int32} {c_t_badWhy : Int32} {c_t_keptAt : Int32} {c_t_isWriting : Int32} {r : Int32} (hC : cx_ p s m c G cX10_wipe 2 RX10) (hret : ∀ (pc : Nat) (H : Heap) (locs : List Loc) (ls : Array Slot), decode cX10_wipe pc = .ok (.ireturn, 1) → wd_ G A s.heap (wl_X10_wipe G A_t A_t_steps A_t_wet A_t_where A_t_home A_t_light A_t_carries A_t_sightPlace A_t_sightLight A_t_pad A_t_act A_t_whose A_t_whom A_t_tens A_t_had A_t_leaves A_t_apart A_t_stop A_t_restOf A_t_group A_t_along A_t_kept A_t_isKept c_t_foggy c_t_walkers c_t_sights z_t_padMany c_t_acts c_t_spent c_t_walks c_t_badAct c_t_badWhy c_t_keptAt c_t_isWriting) H locs → W p l e { frames := 0, cells := 0, slots := 0, locals := 0 } s m args below meth c H locs 0 0 Q (F0 m pc ls [.int r])) (hf : fn_X10_wipe c_t_padMany = some (r, z_t_padMany)) {H : Heap} {locs : List Loc} {ls : Array Slot} (hl : lv_has ls 2 [(0, .ref A_t)]) (hw : wd_ G A s.heap (wl_X10_wipe G A_t A_t_steps A_t_wet A_t_where A_t_home A_t_light A_t_carries A_t_sightPlace A_t_sightLight A_t_pad A_t_act A_t_whose A_t_whom A_t_tens A_t_had A_t_leaves A_t_apart A_t_stop A_t_restOf A_t_group A_t_along A_t_kept A_t_isKept c_t_foggy c_t_walkers c_t_sights c_t_padMany c_t_acts c_t_spent c_t_walks c_t_badAct c_t_badWhy c_t_keptAt c_t_isWriting) H locs) : W p l e { frames := 0, cells := 0, slots := 0, locals := 0 } s m args below meth c H locs 0 0 Q (F0 m 0 ls []) := by
  have hx := hC.1
  have hb := hC.2.1
  unfold fn_X10_wipe at hf
  refine lv_aload_n hx hb dX10_wipe_0 rfl (lv_at hl 0 rfl) ?_
  refine g_get hC hw fkX10_123 0 rfl rfl dX10_wipe_1 ?_
  refine lv_istore_n (lv' := [(1, .int c_t_padMany), (0, .ref A_t)]) hx hb dX10_wipe_4 rfl hl (by decide) rfl (fun ls hl => ?_)
  refine lv_aload_n hx hb dX10_wipe_5 rfl (lv_at hl 1 rfl) ?_
  refine lv_iconst (v := 0) hx hb dX10_wipe_6 (by decide) ?_
  refine g_put hC hw fpX10_123 0 rfl rfl rfl (Nat.le_of_ble_eq_true rfl) dX10_wipe_7 (fun H locs hw => ?_)
  have hw : wd_ G A s.heap (wl_X10_wipe G A_t A_t_steps A_t_wet A_t_where A_t_home A_t_light A_t_carries A_t_sightPlace A_t_sightLight A_t_pad A_t_act A_t_whose A_t_whom A_t_tens A_t_had A_t_leaves A_t_apart A_t_stop A_t_restOf A_t_group A_t_along A_t_kept A_t_isKept c_t_foggy c_t_walkers c_t_sights 0 c_t_acts c_t_spent c_t_walks c_t_badAct c_t_badWhy c_t_keptAt c_t_isWriting) H locs := hw
  refine lv_iload_n hx hb dX10_wipe_10 rfl (lv_at hl 0 rfl) ?_
  obtain ⟨h1_, h2_⟩ := t2_ hf
  subst h1_
  subst h2_
  exact hret _ _ _ _ dX10_wipe_11 hw
set_option maxHeartbeats 4000000 in
set_option maxRecDepth 100000 in
theorem cn_X10_wipe (l : Launch) (G : gw_) (A_t : Nat) (A_t_steps : Nat) (A_t_wet : Nat) (A_t_where : Nat) (A_t_home : Nat) (A_t_light : Nat) (A_t_carries : Nat) (A_t_sightPlace : Nat) (A_t_sightLight : Nat) (A_t_pad : Nat) (A_t_act : Nat) (A_t_whose : Nat) (A_t_whom : Nat) (A_t_tens : Nat) (A_t_had : Nat) (A_t_leaves : Nat) (A_t_apart : Nat) (A_t_stop : Nat) (A_t_restOf : Nat) (A_t_group : Nat) (A_t_along : Nat) (A_t_kept : Nat) (A_t_isKept : Nat) (c_t_foggy : Int32) (c_t_walkers : Int32) (c_t_sights : Int32) (c_t_padMany : Int32) (c_t_acts : Int32) (c_t_spent : Int32) (c_t_walks : Int32) (c_t_badAct : Int32) (c_t_badWhy : Int32) (c_t_keptAt : Int32) (c_t_isWriting : Int32) (r : Int32) (z_t_padMany : Int32) (hf : fn_X10_wipe c_t_padMany = some (r, z_t_padMany)) : ci_ l G yX10_wipe cX10_wipe 2 (some .int) 0 0 (wl_X10_wipe G A_t A_t_steps A_t_wet A_t_where A_t_home A_t_light A_t_carries A_t_sightPlace A_t_sightLight A_t_pad A_t_act A_t_whose A_t_whom A_t_tens A_t_had A_t_leaves A_t_apart A_t_stop A_t_restOf A_t_group A_t_along A_t_kept A_t_isKept c_t_foggy c_t_walkers c_t_sights c_t_padMany c_t_acts c_t_spent c_t_walks c_t_badAct c_t_badWhy c_t_keptAt c_t_isWriting) [.ref A_t] r (wl_X10_wipe G A_t A_t_steps A_t_wet A_t_where A_t_home A_t_light A_t_carries A_t_sightPlace A_t_sightLight A_t_pad A_t_act A_t_whose A_t_whom A_t_tens A_t_had A_t_leaves A_t_apart A_t_stop A_t_restOf A_t_group A_t_along A_t_kept A_t_isKept c_t_foggy c_t_walkers c_t_sights z_t_padMany c_t_acts c_t_spent c_t_walks c_t_badAct c_t_badWhy c_t_keptAt c_t_isWriting) := fun sz => met_intro (by decide) (Nat.le_of_ble_eq_true rfl) (fun p e s m args below meth c ls hsz hC hr hlk hnm hl hw => wn_X10_wipe hC (fun pc H locs ls hd hw => g_iret hC hr hlk hw rfl rfl hd) hf hl hw)

theorem dX10_isLetter_0 : decode cX10_isLetter 0 = .ok (.iload_n 0, 1) := by decide +kernel
theorem dX10_isLetter_1 : decode cX10_isLetter 1 = .ok (.i2l, 1) := by decide +kernel
theorem dX10_isLetter_2 : decode cX10_isLetter 2 = .ok (.ldc2_w 126, 3) := by decide +kernel
theorem dX10_isLetter_5 : decode cX10_isLetter 5 = .ok (.ldc2_w 128, 3) := by decide +kernel
theorem dX10_isLetter_8 : decode cX10_isLetter 8 = .ok (.invokestatic 79, 3) := by decide +kernel
theorem dX10_isLetter_11 : decode cX10_isLetter 11 = .ok (.ireturn, 1) := by decide +kernel
def fn_X10_isLetter (x0 : Int32) : Option (Int32) :=
  b1_ (fn_X10_in (Int32.toInt64 x0) 65 70) fun r1 =>
  bz_ r1 <|
  some r1
set_option maxHeartbeats 4000000 in
set_option maxRecDepth 100000 in
theorem wn_X10_isLetter {p : Program} {l : Launch} {e : Env} {s : State} {m : MethodId} {args : Array Value} {below : List Frame} {meth : Method} {c : Code} {G : gw_} {A : Nat → Prop} {Q : State → Prop} {r : Int32} {x0 : Int32} (hC : cx_ p s m c G cX10_isLetter 1 RX10) (hret : ∀ (pc : Nat) (H : Heap) (locs : List Loc) (ls : Array Slot), narrow .boolean (.int r) = .int r → decode cX10_isLetter pc = .ok (.ireturn, 1) → wd_ G A s.heap [] H locs → W p l e { frames := 1, cells := 0, slots := 0, locals := 25 } s m args below meth c H locs 0 0 Q (F0 m pc ls [.int r])) (hf : fn_X10_isLetter x0 = some r) {H : Heap} {locs : List Loc} {ls : Array Slot} (hl : lv_has ls 1 [(0, .int x0)]) (hw : wd_ G A s.heap [] H locs) : W p l e { frames := 1, cells := 0, slots := 0, locals := 25 } s m args below meth c H locs 0 0 Q (F0 m 0 ls []) := by
  have hx := hC.1
  have hb := hC.2.1
  unfold fn_X10_isLetter at hf
  refine lv_iload_n hx hb dX10_isLetter_0 rfl (lv_at hl 0 rfl) ?_
  refine lv_i2l hx hb dX10_isLetter_1 rfl ?_
  refine g_ldc2 (v := 65) hC (tb4 168 rfl rfl) dX10_isLetter_2 ?_
  refine g_ldc2 (v := 70) hC (tb4 169 rfl rfl) dX10_isLetter_5 ?_
  obtain ⟨r1, hq2, hf⟩ := b1_s hf
  refine h_cSi hC hw msX10_79 (cn_X10_in l G (Int32.toInt64 x0) 65 70 r1 hq2) [] rfl (by decide) rfl hl.1 rfl (Nat.le_of_ble_eq_true rfl) ⟨Nat.le_of_ble_eq_true rfl, Nat.le_of_ble_eq_true rfl⟩ ⟨Nat.le_refl _, Nat.le_refl _⟩ dX10_isLetter_8 (fun H locs hw => ?_)
  obtain ⟨hz0, hf⟩ := bz_s hf
  have h1_ := t1_ hf
  subst h1_
  exact hret _ _ _ _ hz0.1 dX10_isLetter_11 hw
set_option maxHeartbeats 4000000 in
set_option maxRecDepth 100000 in
theorem cn_X10_isLetter (l : Launch) (G : gw_) (x0 : Int32) (r : Int32) (hf : fn_X10_isLetter x0 = some r) : ci_ l G yX10_isLetter cX10_isLetter 1 (some .boolean) 1 25 [] [.int x0] r [] := fun sz => met_intro (by decide) (Nat.le_of_ble_eq_true rfl) (fun p e s m args below meth c ls hsz hC hr hlk hnm hl hw => wn_X10_isLetter hC (fun pc H locs ls hn hd hw => g_iret hC hr hlk hw rfl hn hd) hf hl hw)

theorem dX10_close_0 : decode cX10_close 0 = .ok (.aload_n 0, 1) := by decide +kernel
theorem dX10_close_1 : decode cX10_close 1 = .ok (.getfield 37, 3) := by decide +kernel
theorem dX10_close_4 : decode cX10_close 4 = .ok (.aload_n 0, 1) := by decide +kernel
theorem dX10_close_5 : decode cX10_close 5 = .ok (.getfield 130, 3) := by decide +kernel
theorem dX10_close_8 : decode cX10_close 8 = .ok (.iload_n 1, 1) := by decide +kernel
theorem dX10_close_9 : decode cX10_close 9 = .ok (.iastore, 1) := by decide +kernel
theorem dX10_close_10 : decode cX10_close 10 = .ok (.aload_n 0, 1) := by decide +kernel
theorem dX10_close_11 : decode cX10_close 11 = .ok (.getfield 43, 3) := by decide +kernel
theorem dX10_close_14 : decode cX10_close 14 = .ok (.aload_n 0, 1) := by decide +kernel
theorem dX10_close_15 : decode cX10_close 15 = .ok (.getfield 130, 3) := by decide +kernel
theorem dX10_close_18 : decode cX10_close 18 = .ok (.iload_n 2, 1) := by decide +kernel
theorem dX10_close_19 : decode cX10_close 19 = .ok (.iastore, 1) := by decide +kernel
theorem dX10_close_20 : decode cX10_close 20 = .ok (.aload_n 0, 1) := by decide +kernel
theorem dX10_close_21 : decode cX10_close 21 = .ok (.dup, 1) := by decide +kernel
theorem dX10_close_22 : decode cX10_close 22 = .ok (.getfield 130, 3) := by decide +kernel
theorem dX10_close_25 : decode cX10_close 25 = .ok (.iconst 1, 1) := by decide +kernel
theorem dX10_close_26 : decode cX10_close 26 = .ok (.iadd, 1) := by decide +kernel
theorem dX10_close_27 : decode cX10_close 27 = .ok (.putfield 130, 3) := by decide +kernel
theorem dX10_close_30 : decode cX10_close 30 = .ok (.iconst 0, 1) := by decide +kernel
theorem dX10_close_31 : decode cX10_close 31 = .ok (.ireturn, 1) := by decide +kernel
abbrev wl_X10_close (G : gw_) (A_t : Nat) (A_t_steps : Nat) (A_t_wet : Nat) (A_t_where : Nat) (A_t_home : Nat) (A_t_light : Nat) (A_t_carries : Nat) (A_t_sightPlace : Nat) (A_t_sightLight : Nat) (A_t_pad : Nat) (A_t_act : Nat) (A_t_whose : Nat) (A_t_whom : Nat) (A_t_tens : Nat) (A_t_had : Nat) (A_t_leaves : Nat) (A_t_apart : Nat) (A_t_stop : Nat) (A_t_restOf : Nat) (A_t_group : Nat) (A_t_along : Nat) (A_t_kept : Nat) (A_t_isKept : Nat) (c_t_foggy : Int32) (c_t_walkers : Int32) (c_t_sights : Int32) (c_t_padMany : Int32) (c_t_acts : Int32) (c_t_spent : Int32) (c_t_walks : Int32) (c_t_badAct : Int32) (c_t_badWhy : Int32) (c_t_keptAt : Int32) (c_t_isWriting : Int32) (c_t_act : Nat → Int32) (c_t_whom : Nat → Int32) : va_W := [ob_ A_t 10 [.ref A_t_steps, .ref A_t_wet, .int c_t_foggy, .int c_t_walkers, .ref A_t_where, .ref A_t_home, .ref A_t_light, .ref A_t_carries, .ref A_t_sightPlace, .ref A_t_sightLight, .int c_t_sights, .ref A_t_pad, .int c_t_padMany, .ref A_t_act, .ref A_t_whose, .ref A_t_whom, .ref A_t_tens, .int c_t_acts, .int c_t_spent, .int c_t_walks, .ref A_t_had, .ref A_t_leaves, .int c_t_badAct, .int c_t_badWhy, .ref A_t_apart, .ref A_t_stop, .ref A_t_restOf, .ref A_t_group, .ref A_t_along, .ref A_t_kept, .ref A_t_isKept, .int c_t_keptAt, .int c_t_isWriting], ia_ G A_t_act 60 c_t_act, ia_ G A_t_whom 60 c_t_whom]
def fn_X10_close (c_t_acts : Int32) (c_t_act : Nat → Int32) (c_t_whom : Nat → Int32) (x1 : Int32) (x2 : Int32) : Option (Int32 × Int32 × (Nat → Int32) × (Nat → Int32)) :=
  ck_ c_t_acts 60 <|
  lx_ (upd c_t_act (Int32.toNatClampNeg c_t_acts) x1) fun f1 =>
  ck_ c_t_acts 60 <|
  lx_ (upd c_t_whom (Int32.toNatClampNeg c_t_acts) x2) fun f2 =>
  some (0, c_t_acts + 1, f1, f2)
set_option maxHeartbeats 4000000 in
set_option maxRecDepth 100000 in
theorem wn_X10_close {p : Program} {l : Launch} {e : Env} {s : State} {m : MethodId} {args : Array Value} {below : List Frame} {meth : Method} {c : Code} {G : gw_} {A : Nat → Prop} {Q : State → Prop} {A_t : Nat} {A_t_steps : Nat} {A_t_wet : Nat} {A_t_where : Nat} {A_t_home : Nat} {A_t_light : Nat} {A_t_carries : Nat} {A_t_sightPlace : Nat} {A_t_sightLight : Nat} {A_t_pad : Nat} {A_t_act : Nat} {A_t_whose : Nat} {A_t_whom : Nat} {A_t_tens : Nat} {A_t_had : Nat} {A_t_leaves : Nat} {A_t_apart : Nat} {A_t_stop : Nat} {A_t_restOf : Nat} {A_t_group : Nat} {A_t_along : Nat} {A_t_kept : Nat} {A_t_isKept : Nat} {c_t_foggy : Int32} {c_t_walkers : Int32} {c_t_sights : Int32} {c_t_padMany : Int32} {c_t_acts : Int32} {z_t_acts : Int32} {c_t_spent : Int32} {c_t_walks : Int32} {c_t_badAct : Int32} {c_t_badWhy : Int32} {c_t_keptAt : Int32} {c_t_isWriting : Int32} {c_t_act : Nat → Int32} {z_t_act : Nat → Int32} {c_t_whom : Nat → Int32} {z_t_whom : Nat → Int32} {r : Int32} {x1 : Int32} {x2 : Int32} (hC : cx_ p s m c G cX10_close 3 RX10) (hret : ∀ (pc : Nat) (H : Heap) (locs : List Loc) (ls : Array Slot), decode cX10_close pc = .ok (.ireturn, 1) → wd_ G A s.heap (wl_X10_close G A_t A_t_steps A_t_wet A_t_where A_t_home A_t_light A_t_carries A_t_sightPlace A_t_sightLight A_t_pad A_t_act A_t_whose A_t_whom A_t_tens A_t_had A_t_leaves A_t_apart A_t_stop A_t_restOf A_t_group A_t_along A_t_kept A_t_isKept c_t_foggy c_t_walkers c_t_sights c_t_padMany z_t_acts c_t_spent c_t_walks c_t_badAct c_t_badWhy c_t_keptAt c_t_isWriting z_t_act z_t_whom) H locs → W p l e { frames := 0, cells := 0, slots := 0, locals := 0 } s m args below meth c H locs 0 0 Q (F0 m pc ls [.int r])) (hf : fn_X10_close c_t_acts c_t_act c_t_whom x1 x2 = some (r, z_t_acts, z_t_act, z_t_whom)) {H : Heap} {locs : List Loc} {ls : Array Slot} (hl : lv_has ls 3 [(0, .ref A_t), (1, .int x1), (2, .int x2)]) (hw : wd_ G A s.heap (wl_X10_close G A_t A_t_steps A_t_wet A_t_where A_t_home A_t_light A_t_carries A_t_sightPlace A_t_sightLight A_t_pad A_t_act A_t_whose A_t_whom A_t_tens A_t_had A_t_leaves A_t_apart A_t_stop A_t_restOf A_t_group A_t_along A_t_kept A_t_isKept c_t_foggy c_t_walkers c_t_sights c_t_padMany c_t_acts c_t_spent c_t_walks c_t_badAct c_t_badWhy c_t_keptAt c_t_isWriting c_t_act c_t_whom) H locs) : W p l e { frames := 0, cells := 0, slots := 0, locals := 0 } s m args below meth c H locs 0 0 Q (F0 m 0 ls []) := by
  have hx := hC.1
  have hb := hC.2.1
  unfold fn_X10_close at hf
  refine lv_aload_n hx hb dX10_close_0 rfl (lv_at hl 0 rfl) ?_
  refine g_get hC hw fkX10_37 0 rfl rfl dX10_close_1 ?_
  refine lv_aload_n hx hb dX10_close_4 rfl (lv_at hl 0 rfl) ?_
  refine g_get hC hw fkX10_130 0 rfl rfl dX10_close_5 ?_
  refine lv_iload_n hx hb dX10_close_8 rfl (lv_at hl 1 rfl) ?_
  obtain ⟨hi, hf⟩ := ck_s hf
  obtain ⟨f1, ef1, hf⟩ := lx_s hf
  refine g_iast hC hw 1 rfl hi ef1 dX10_close_9 (fun H locs hw => ?_)
  have hw : wd_ G A s.heap (wl_X10_close G A_t A_t_steps A_t_wet A_t_where A_t_home A_t_light A_t_carries A_t_sightPlace A_t_sightLight A_t_pad A_t_act A_t_whose A_t_whom A_t_tens A_t_had A_t_leaves A_t_apart A_t_stop A_t_restOf A_t_group A_t_along A_t_kept A_t_isKept c_t_foggy c_t_walkers c_t_sights c_t_padMany c_t_acts c_t_spent c_t_walks c_t_badAct c_t_badWhy c_t_keptAt c_t_isWriting f1 c_t_whom) H locs := hw
  refine lv_aload_n hx hb dX10_close_10 rfl (lv_at hl 0 rfl) ?_
  refine g_get hC hw fkX10_43 0 rfl rfl dX10_close_11 ?_
  refine lv_aload_n hx hb dX10_close_14 rfl (lv_at hl 0 rfl) ?_
  refine g_get hC hw fkX10_130 0 rfl rfl dX10_close_15 ?_
  refine lv_iload_n hx hb dX10_close_18 rfl (lv_at hl 2 rfl) ?_
  obtain ⟨hi, hf⟩ := ck_s hf
  obtain ⟨f2, ef2, hf⟩ := lx_s hf
  refine g_iast hC hw 2 rfl hi ef2 dX10_close_19 (fun H locs hw => ?_)
  have hw : wd_ G A s.heap (wl_X10_close G A_t A_t_steps A_t_wet A_t_where A_t_home A_t_light A_t_carries A_t_sightPlace A_t_sightLight A_t_pad A_t_act A_t_whose A_t_whom A_t_tens A_t_had A_t_leaves A_t_apart A_t_stop A_t_restOf A_t_group A_t_along A_t_kept A_t_isKept c_t_foggy c_t_walkers c_t_sights c_t_padMany c_t_acts c_t_spent c_t_walks c_t_badAct c_t_badWhy c_t_keptAt c_t_isWriting f1 f2) H locs := hw
  refine lv_aload_n hx hb dX10_close_20 rfl (lv_at hl 0 rfl) ?_
  refine lv_dup hx hb dX10_close_21 rfl ?_
  refine g_get hC hw fkX10_130 0 rfl rfl dX10_close_22 ?_
  refine lv_iconst (v := 1) hx hb dX10_close_25 (by decide) ?_
  refine lv_iadd hx hb dX10_close_26 ?_
  refine g_put hC hw fpX10_130 0 rfl rfl rfl (Nat.le_of_ble_eq_true rfl) dX10_close_27 (fun H locs hw => ?_)
  have hw : wd_ G A s.heap (wl_X10_close G A_t A_t_steps A_t_wet A_t_where A_t_home A_t_light A_t_carries A_t_sightPlace A_t_sightLight A_t_pad A_t_act A_t_whose A_t_whom A_t_tens A_t_had A_t_leaves A_t_apart A_t_stop A_t_restOf A_t_group A_t_along A_t_kept A_t_isKept c_t_foggy c_t_walkers c_t_sights c_t_padMany (c_t_acts + 1) c_t_spent c_t_walks c_t_badAct c_t_badWhy c_t_keptAt c_t_isWriting f1 f2) H locs := hw
  refine lv_iconst (v := 0) hx hb dX10_close_30 (by decide) ?_
  obtain ⟨h1_, h2_, h3_, h4_⟩ := t4_ hf
  subst h1_
  subst h2_
  subst h3_
  subst h4_
  exact hret _ _ _ _ dX10_close_31 hw
set_option maxHeartbeats 4000000 in
set_option maxRecDepth 100000 in
theorem cn_X10_close (l : Launch) (G : gw_) (A_t : Nat) (A_t_steps : Nat) (A_t_wet : Nat) (A_t_where : Nat) (A_t_home : Nat) (A_t_light : Nat) (A_t_carries : Nat) (A_t_sightPlace : Nat) (A_t_sightLight : Nat) (A_t_pad : Nat) (A_t_act : Nat) (A_t_whose : Nat) (A_t_whom : Nat) (A_t_tens : Nat) (A_t_had : Nat) (A_t_leaves : Nat) (A_t_apart : Nat) (A_t_stop : Nat) (A_t_restOf : Nat) (A_t_group : Nat) (A_t_along : Nat) (A_t_kept : Nat) (A_t_isKept : Nat) (c_t_foggy : Int32) (c_t_walkers : Int32) (c_t_sights : Int32) (c_t_padMany : Int32) (c_t_acts : Int32) (c_t_spent : Int32) (c_t_walks : Int32) (c_t_badAct : Int32) (c_t_badWhy : Int32) (c_t_keptAt : Int32) (c_t_isWriting : Int32) (c_t_act : Nat → Int32) (c_t_whom : Nat → Int32) (x1 : Int32) (x2 : Int32) (r : Int32) (z_t_acts : Int32) (z_t_act : Nat → Int32) (z_t_whom : Nat → Int32) (hf : fn_X10_close c_t_acts c_t_act c_t_whom x1 x2 = some (r, z_t_acts, z_t_act, z_t_whom)) : ci_ l G yX10_close cX10_close 3 (some .int) 0 0 (wl_X10_close G A_t A_t_steps A_t_wet A_t_where A_t_home A_t_light A_t_carries A_t_sightPlace A_t_sightLight A_t_pad A_t_act A_t_whose A_t_whom A_t_tens A_t_had A_t_leaves A_t_apart A_t_stop A_t_restOf A_t_group A_t_along A_t_kept A_t_isKept c_t_foggy c_t_walkers c_t_sights c_t_padMany c_t_acts c_t_spent c_t_walks c_t_badAct c_t_badWhy c_t_keptAt c_t_isWriting c_t_act c_t_whom) [.ref A_t, .int x1, .int x2] r (wl_X10_close G A_t A_t_steps A_t_wet A_t_where A_t_home A_t_light A_t_carries A_t_sightPlace A_t_sightLight A_t_pad A_t_act A_t_whose A_t_whom A_t_tens A_t_had A_t_leaves A_t_apart A_t_stop A_t_restOf A_t_group A_t_along A_t_kept A_t_isKept c_t_foggy c_t_walkers c_t_sights c_t_padMany z_t_acts c_t_spent c_t_walks c_t_badAct c_t_badWhy c_t_keptAt c_t_isWriting z_t_act z_t_whom) := fun sz => met_intro (by decide) (Nat.le_of_ble_eq_true rfl) (fun p e s m args below meth c ls hsz hC hr hlk hnm hl hw => wn_X10_close hC (fun pc H locs ls hd hw => g_iret hC hr hlk hw rfl rfl hd) hf hl hw)

theorem dX10_begin_0 : decode cX10_begin 0 = .ok (.aload_n 0, 1) := by decide +kernel
theorem dX10_begin_1 : decode cX10_begin 1 = .ok (.getfield 40, 3) := by decide +kernel
theorem dX10_begin_4 : decode cX10_begin 4 = .ok (.aload_n 0, 1) := by decide +kernel
theorem dX10_begin_5 : decode cX10_begin 5 = .ok (.getfield 130, 3) := by decide +kernel
theorem dX10_begin_8 : decode cX10_begin 8 = .ok (.iload_n 1, 1) := by decide +kernel
theorem dX10_begin_9 : decode cX10_begin 9 = .ok (.invokestatic 133, 3) := by decide +kernel
theorem dX10_begin_12 : decode cX10_begin 12 = .ok (.ifCond .eq 10, 3) := by decide +kernel
theorem dX10_begin_15 : decode cX10_begin 15 = .ok (.iload_n 1, 1) := by decide +kernel
theorem dX10_begin_16 : decode cX10_begin 16 = .ok (.bipush 65, 2) := by decide +kernel
theorem dX10_begin_18 : decode cX10_begin 18 = .ok (.isub, 1) := by decide +kernel
theorem dX10_begin_19 : decode cX10_begin 19 = .ok (.goto 4, 3) := by decide +kernel
theorem dX10_begin_22 : decode cX10_begin 22 = .ok (.iconst 0, 1) := by decide +kernel
theorem dX10_begin_23 : decode cX10_begin 23 = .ok (.iastore, 1) := by decide +kernel
theorem dX10_begin_24 : decode cX10_begin 24 = .ok (.aload_n 0, 1) := by decide +kernel
theorem dX10_begin_25 : decode cX10_begin 25 = .ok (.getfield 46, 3) := by decide +kernel
theorem dX10_begin_28 : decode cX10_begin 28 = .ok (.aload_n 0, 1) := by decide +kernel
theorem dX10_begin_29 : decode cX10_begin 29 = .ok (.getfield 130, 3) := by decide +kernel
theorem dX10_begin_32 : decode cX10_begin 32 = .ok (.iconst 0, 1) := by decide +kernel
theorem dX10_begin_33 : decode cX10_begin 33 = .ok (.iastore, 1) := by decide +kernel
theorem dX10_begin_34 : decode cX10_begin 34 = .ok (.iload_n 1, 1) := by decide +kernel
theorem dX10_begin_35 : decode cX10_begin 35 = .ok (.invokestatic 133, 3) := by decide +kernel
theorem dX10_begin_38 : decode cX10_begin 38 = .ok (.ifCond .eq 7, 3) := by decide +kernel
theorem dX10_begin_41 : decode cX10_begin 41 = .ok (.iconst 1, 1) := by decide +kernel
theorem dX10_begin_42 : decode cX10_begin 42 = .ok (.goto 20, 3) := by decide +kernel
theorem dX10_begin_45 : decode cX10_begin 45 = .ok (.iload_n 1, 1) := by decide +kernel
theorem dX10_begin_46 : decode cX10_begin 46 = .ok (.bipush 126, 2) := by decide +kernel
theorem dX10_begin_48 : decode cX10_begin 48 = .ok (.if_icmp .ne 12, 3) := by decide +kernel
theorem dX10_begin_51 : decode cX10_begin 51 = .ok (.aload_n 0, 1) := by decide +kernel
theorem dX10_begin_52 : decode cX10_begin 52 = .ok (.iconst 4, 1) := by decide +kernel
theorem dX10_begin_53 : decode cX10_begin 53 = .ok (.iconst 0, 1) := by decide +kernel
theorem dX10_begin_54 : decode cX10_begin 54 = .ok (.invokevirtual 136, 3) := by decide +kernel
theorem dX10_begin_57 : decode cX10_begin 57 = .ok (.goto 5, 3) := by decide +kernel
theorem dX10_begin_60 : decode cX10_begin 60 = .ok (.bipush (-6), 2) := by decide +kernel
theorem dX10_begin_62 : decode cX10_begin 62 = .ok (.ireturn, 1) := by decide +kernel
abbrev wl_X10_begin (G : gw_) (A_t : Nat) (A_t_steps : Nat) (A_t_wet : Nat) (A_t_where : Nat) (A_t_home : Nat) (A_t_light : Nat) (A_t_carries : Nat) (A_t_sightPlace : Nat) (A_t_sightLight : Nat) (A_t_pad : Nat) (A_t_act : Nat) (A_t_whose : Nat) (A_t_whom : Nat) (A_t_tens : Nat) (A_t_had : Nat) (A_t_leaves : Nat) (A_t_apart : Nat) (A_t_stop : Nat) (A_t_restOf : Nat) (A_t_group : Nat) (A_t_along : Nat) (A_t_kept : Nat) (A_t_isKept : Nat) (c_t_foggy : Int32) (c_t_walkers : Int32) (c_t_sights : Int32) (c_t_padMany : Int32) (c_t_acts : Int32) (c_t_spent : Int32) (c_t_walks : Int32) (c_t_badAct : Int32) (c_t_badWhy : Int32) (c_t_keptAt : Int32) (c_t_isWriting : Int32) (c_t_act : Nat → Int32) (c_t_whose : Nat → Int32) (c_t_whom : Nat → Int32) (c_t_tens : Nat → Int32) : va_W := [ob_ A_t 10 [.ref A_t_steps, .ref A_t_wet, .int c_t_foggy, .int c_t_walkers, .ref A_t_where, .ref A_t_home, .ref A_t_light, .ref A_t_carries, .ref A_t_sightPlace, .ref A_t_sightLight, .int c_t_sights, .ref A_t_pad, .int c_t_padMany, .ref A_t_act, .ref A_t_whose, .ref A_t_whom, .ref A_t_tens, .int c_t_acts, .int c_t_spent, .int c_t_walks, .ref A_t_had, .ref A_t_leaves, .int c_t_badAct, .int c_t_badWhy, .ref A_t_apart, .ref A_t_stop, .ref A_t_restOf, .ref A_t_group, .ref A_t_along, .ref A_t_kept, .ref A_t_isKept, .int c_t_keptAt, .int c_t_isWriting], ia_ G A_t_act 60 c_t_act, ia_ G A_t_whose 60 c_t_whose, ia_ G A_t_whom 60 c_t_whom, ia_ G A_t_tens 60 c_t_tens]
def fn_X10_begin_j23 (c_t_acts : Int32) (c_t_act : Nat → Int32) (c_t_whose : Nat → Int32) (c_t_whom : Nat → Int32) (c_t_tens : Nat → Int32) (x1 : Int32) (s1 : Int32) (s2 : Int32)  : Option (Int32 × Int32 × (Nat → Int32) × (Nat → Int32) × (Nat → Int32) × (Nat → Int32)) :=
  ck_ s1 60 <|
  lx_ (upd c_t_whose (Int32.toNatClampNeg s1) s2) fun f3 =>
  ck_ c_t_acts 60 <|
  lx_ (upd c_t_tens (Int32.toNatClampNeg c_t_acts) 0) fun f4 =>
  b1_ (fn_X10_isLetter x1) fun r5 =>
  if r5 = 0 then
    if x1 = 126 then
      b4_ (fn_X10_close c_t_acts c_t_act c_t_whom 4 0) fun r7 w8 w9 w10 =>
      some (r7, w8, w9, f3, w10, f4)
    else
      some ((-6), c_t_acts, c_t_act, f3, c_t_whom, f4)
  else
    some (1, c_t_acts, c_t_act, f3, c_t_whom, f4)
def fn_X10_begin (c_t_acts : Int32) (c_t_act : Nat → Int32) (c_t_whose : Nat → Int32) (c_t_whom : Nat → Int32) (c_t_tens : Nat → Int32) (x1 : Int32) : Option (Int32 × Int32 × (Nat → Int32) × (Nat → Int32) × (Nat → Int32) × (Nat → Int32)) :=
  b1_ (fn_X10_isLetter x1) fun r1 =>
  if r1 = 0 then
    fn_X10_begin_j23 c_t_acts c_t_act c_t_whose c_t_whom c_t_tens x1 c_t_acts 0
  else
    fn_X10_begin_j23 c_t_acts c_t_act c_t_whose c_t_whom c_t_tens x1 c_t_acts (x1 - 65)
set_option maxHeartbeats 4000000 in
set_option maxRecDepth 100000 in
theorem wn_X10_begin_j23 {p : Program} {l : Launch} {e : Env} {s : State} {m : MethodId} {args : Array Value} {below : List Frame} {meth : Method} {c : Code} {G : gw_} {A : Nat → Prop} {Q : State → Prop} {A_t : Nat} {A_t_steps : Nat} {A_t_wet : Nat} {A_t_where : Nat} {A_t_home : Nat} {A_t_light : Nat} {A_t_carries : Nat} {A_t_sightPlace : Nat} {A_t_sightLight : Nat} {A_t_pad : Nat} {A_t_act : Nat} {A_t_whose : Nat} {A_t_whom : Nat} {A_t_tens : Nat} {A_t_had : Nat} {A_t_leaves : Nat} {A_t_apart : Nat} {A_t_stop : Nat} {A_t_restOf : Nat} {A_t_group : Nat} {A_t_along : Nat} {A_t_kept : Nat} {A_t_isKept : Nat} {c_t_foggy : Int32} {c_t_walkers : Int32} {c_t_sights : Int32} {c_t_padMany : Int32} {c_t_acts : Int32} {z_t_acts : Int32} {c_t_spent : Int32} {c_t_walks : Int32} {c_t_badAct : Int32} {c_t_badWhy : Int32} {c_t_keptAt : Int32} {c_t_isWriting : Int32} {c_t_act : Nat → Int32} {z_t_act : Nat → Int32} {c_t_whose : Nat → Int32} {z_t_whose : Nat → Int32} {c_t_whom : Nat → Int32} {z_t_whom : Nat → Int32} {c_t_tens : Nat → Int32} {z_t_tens : Nat → Int32} {r : Int32} {x1 : Int32} {s1 : Int32} {s2 : Int32} (hC : cx_ p s m c G cX10_begin 2 RX10) (hret : ∀ (pc : Nat) (H : Heap) (locs : List Loc) (ls : Array Slot), decode cX10_begin pc = .ok (.ireturn, 1) → wd_ G A s.heap (wl_X10_begin G A_t A_t_steps A_t_wet A_t_where A_t_home A_t_light A_t_carries A_t_sightPlace A_t_sightLight A_t_pad A_t_act A_t_whose A_t_whom A_t_tens A_t_had A_t_leaves A_t_apart A_t_stop A_t_restOf A_t_group A_t_along A_t_kept A_t_isKept c_t_foggy c_t_walkers c_t_sights c_t_padMany z_t_acts c_t_spent c_t_walks c_t_badAct c_t_badWhy c_t_keptAt c_t_isWriting z_t_act z_t_whose z_t_whom z_t_tens) H locs → W p l e { frames := 2, cells := 0, slots := 0, locals := 45 } s m args below meth c H locs 0 0 Q (F0 m pc ls [.int r]))  (hf : fn_X10_begin_j23 c_t_acts c_t_act c_t_whose c_t_whom c_t_tens x1 s1 s2 = some (r, z_t_acts, z_t_act, z_t_whose, z_t_whom, z_t_tens)) {H : Heap} {locs : List Loc} {ls : Array Slot} (hl : lv_has ls 2 [(0, .ref A_t), (1, .int x1)]) (hw : wd_ G A s.heap (wl_X10_begin G A_t A_t_steps A_t_wet A_t_where A_t_home A_t_light A_t_carries A_t_sightPlace A_t_sightLight A_t_pad A_t_act A_t_whose A_t_whom A_t_tens A_t_had A_t_leaves A_t_apart A_t_stop A_t_restOf A_t_group A_t_along A_t_kept A_t_isKept c_t_foggy c_t_walkers c_t_sights c_t_padMany c_t_acts c_t_spent c_t_walks c_t_badAct c_t_badWhy c_t_keptAt c_t_isWriting c_t_act c_t_whose c_t_whom c_t_tens) H locs) : W p l e { frames := 2, cells := 0, slots := 0, locals := 45 } s m args below meth c H locs 0 0 Q (F0 m 23 ls [.int s2, .int s1, .ref A_t_whose]) := by
  have hx := hC.1
  have hb := hC.2.1
  unfold fn_X10_begin_j23 at hf
  obtain ⟨hi, hf⟩ := ck_s hf
  obtain ⟨f3, ef3, hf⟩ := lx_s hf
  refine g_iast hC hw 2 rfl hi ef3 dX10_begin_23 (fun H locs hw => ?_)
  have hw : wd_ G A s.heap (wl_X10_begin G A_t A_t_steps A_t_wet A_t_where A_t_home A_t_light A_t_carries A_t_sightPlace A_t_sightLight A_t_pad A_t_act A_t_whose A_t_whom A_t_tens A_t_had A_t_leaves A_t_apart A_t_stop A_t_restOf A_t_group A_t_along A_t_kept A_t_isKept c_t_foggy c_t_walkers c_t_sights c_t_padMany c_t_acts c_t_spent c_t_walks c_t_badAct c_t_badWhy c_t_keptAt c_t_isWriting c_t_act f3 c_t_whom c_t_tens) H locs := hw
  refine lv_aload_n hx hb dX10_begin_24 rfl (lv_at hl 0 rfl) ?_
  refine g_get hC hw fkX10_46 0 rfl rfl dX10_begin_25 ?_
  refine lv_aload_n hx hb dX10_begin_28 rfl (lv_at hl 0 rfl) ?_
  refine g_get hC hw fkX10_130 0 rfl rfl dX10_begin_29 ?_
  refine lv_iconst (v := 0) hx hb dX10_begin_32 (by decide) ?_
  obtain ⟨hi, hf⟩ := ck_s hf
  obtain ⟨f4, ef4, hf⟩ := lx_s hf
  refine g_iast hC hw 4 rfl hi ef4 dX10_begin_33 (fun H locs hw => ?_)
  have hw : wd_ G A s.heap (wl_X10_begin G A_t A_t_steps A_t_wet A_t_where A_t_home A_t_light A_t_carries A_t_sightPlace A_t_sightLight A_t_pad A_t_act A_t_whose A_t_whom A_t_tens A_t_had A_t_leaves A_t_apart A_t_stop A_t_restOf A_t_group A_t_along A_t_kept A_t_isKept c_t_foggy c_t_walkers c_t_sights c_t_padMany c_t_acts c_t_spent c_t_walks c_t_badAct c_t_badWhy c_t_keptAt c_t_isWriting c_t_act f3 c_t_whom f4) H locs := hw
  refine lv_iload_n hx hb dX10_begin_34 rfl (lv_at hl 1 rfl) ?_
  obtain ⟨r5, hq6, hf⟩ := b1_s hf
  refine h_cSi hC hw msX10_133 (cn_X10_isLetter l G x1 r5 hq6) [] rfl (by decide) rfl hl.1 rfl (Nat.le_of_ble_eq_true rfl) ⟨Nat.le_of_ble_eq_true rfl, Nat.le_of_ble_eq_true rfl⟩ ⟨Nat.le_refl _, Nat.le_refl _⟩ dX10_begin_35 (fun H locs hw => ?_)
  refine lv_if_eq (tgt := 45) hx hb dX10_begin_38 (by decide) (fun hc => ?_) (fun hc => ?_)
  · replace hf := it_t hc hf
    refine lv_iload_n hx hb dX10_begin_45 rfl (lv_at hl 1 rfl) ?_
    refine lv_bipush (v := 126) hx hb dX10_begin_46 (by decide) ?_
    refine lv_icmp_ne (tgt := 60) hx hb dX10_begin_48 (by decide) (fun hc => ?_) (fun hc => ?_)
    · replace hf := it_f hc hf
      refine lv_bipush (v := (-6)) hx hb dX10_begin_60 (by decide) ?_
      obtain ⟨h1_, h2_, h3_, h4_, h5_, h6_⟩ := t6_ hf
      subst h1_
      subst h2_
      subst h3_
      subst h4_
      subst h5_
      subst h6_
      exact hret _ _ _ _ dX10_begin_62 hw
    · replace hf := it_t hc hf
      refine lv_aload_n hx hb dX10_begin_51 rfl (lv_at hl 0 rfl) ?_
      refine lv_iconst (v := 4) hx hb dX10_begin_52 (by decide) ?_
      refine lv_iconst (v := 0) hx hb dX10_begin_53 (by decide) ?_
      obtain ⟨r7, w8, w9, w10, hq11, hf⟩ := b4_s hf
      refine g_cVi hC hw mvX10_136 (cn_X10_close l G A_t A_t_steps A_t_wet A_t_where A_t_home A_t_light A_t_carries A_t_sightPlace A_t_sightLight A_t_pad A_t_act A_t_whose A_t_whom A_t_tens A_t_had A_t_leaves A_t_apart A_t_stop A_t_restOf A_t_group A_t_along A_t_kept A_t_isKept c_t_foggy c_t_walkers c_t_sights c_t_padMany c_t_acts c_t_spent c_t_walks c_t_badAct c_t_badWhy c_t_keptAt c_t_isWriting c_t_act c_t_whom 4 0 r7 w8 w9 w10 hq11) [0, 1, 3] rfl (by decide) rfl 0 rfl rfl rfl hl.1 rfl (Nat.le_of_ble_eq_true rfl) ⟨Nat.le_of_ble_eq_true rfl, Nat.le_of_ble_eq_true rfl⟩ ⟨Nat.le_refl _, Nat.le_refl _⟩ dX10_begin_54 (fun H locs hw => ?_)
      have hw : wd_ G A s.heap (wl_X10_begin G A_t A_t_steps A_t_wet A_t_where A_t_home A_t_light A_t_carries A_t_sightPlace A_t_sightLight A_t_pad A_t_act A_t_whose A_t_whom A_t_tens A_t_had A_t_leaves A_t_apart A_t_stop A_t_restOf A_t_group A_t_along A_t_kept A_t_isKept c_t_foggy c_t_walkers c_t_sights c_t_padMany w8 c_t_spent c_t_walks c_t_badAct c_t_badWhy c_t_keptAt c_t_isWriting w9 f3 w10 f4) H locs := hw
      refine lv_goto (tgt := 62) hx hb dX10_begin_57 (by decide) ?_
      obtain ⟨h1_, h2_, h3_, h4_, h5_, h6_⟩ := t6_ hf
      subst h1_
      subst h2_
      subst h3_
      subst h4_
      subst h5_
      subst h6_
      exact hret _ _ _ _ dX10_begin_62 hw
  · replace hf := it_f hc hf
    refine lv_iconst (v := 1) hx hb dX10_begin_41 (by decide) ?_
    refine lv_goto (tgt := 62) hx hb dX10_begin_42 (by decide) ?_
    obtain ⟨h1_, h2_, h3_, h4_, h5_, h6_⟩ := t6_ hf
    subst h1_
    subst h2_
    subst h3_
    subst h4_
    subst h5_
    subst h6_
    exact hret _ _ _ _ dX10_begin_62 hw
set_option maxHeartbeats 4000000 in
set_option maxRecDepth 100000 in
theorem wn_X10_begin {p : Program} {l : Launch} {e : Env} {s : State} {m : MethodId} {args : Array Value} {below : List Frame} {meth : Method} {c : Code} {G : gw_} {A : Nat → Prop} {Q : State → Prop} {A_t : Nat} {A_t_steps : Nat} {A_t_wet : Nat} {A_t_where : Nat} {A_t_home : Nat} {A_t_light : Nat} {A_t_carries : Nat} {A_t_sightPlace : Nat} {A_t_sightLight : Nat} {A_t_pad : Nat} {A_t_act : Nat} {A_t_whose : Nat} {A_t_whom : Nat} {A_t_tens : Nat} {A_t_had : Nat} {A_t_leaves : Nat} {A_t_apart : Nat} {A_t_stop : Nat} {A_t_restOf : Nat} {A_t_group : Nat} {A_t_along : Nat} {A_t_kept : Nat} {A_t_isKept : Nat} {c_t_foggy : Int32} {c_t_walkers : Int32} {c_t_sights : Int32} {c_t_padMany : Int32} {c_t_acts : Int32} {z_t_acts : Int32} {c_t_spent : Int32} {c_t_walks : Int32} {c_t_badAct : Int32} {c_t_badWhy : Int32} {c_t_keptAt : Int32} {c_t_isWriting : Int32} {c_t_act : Nat → Int32} {z_t_act : Nat → Int32} {c_t_whose : Nat → Int32} {z_t_whose : Nat → Int32} {c_t_whom : Nat → Int32} {z_t_whom : Nat → Int32} {c_t_tens : Nat → Int32} {z_t_tens : Nat → Int32} {r : Int32} {x1 : Int32} (hC : cx_ p s m c G cX10_begin 2 RX10) (hret : ∀ (pc : Nat) (H : Heap) (locs : List Loc) (ls : Array Slot), decode cX10_begin pc = .ok (.ireturn, 1) → wd_ G A s.heap (wl_X10_begin G A_t A_t_steps A_t_wet A_t_where A_t_home A_t_light A_t_carries A_t_sightPlace A_t_sightLight A_t_pad A_t_act A_t_whose A_t_whom A_t_tens A_t_had A_t_leaves A_t_apart A_t_stop A_t_restOf A_t_group A_t_along A_t_kept A_t_isKept c_t_foggy c_t_walkers c_t_sights c_t_padMany z_t_acts c_t_spent c_t_walks c_t_badAct c_t_badWhy c_t_keptAt c_t_isWriting z_t_act z_t_whose z_t_whom z_t_tens) H locs → W p l e { frames := 2, cells := 0, slots := 0, locals := 45 } s m args below meth c H locs 0 0 Q (F0 m pc ls [.int r])) (hf : fn_X10_begin c_t_acts c_t_act c_t_whose c_t_whom c_t_tens x1 = some (r, z_t_acts, z_t_act, z_t_whose, z_t_whom, z_t_tens)) {H : Heap} {locs : List Loc} {ls : Array Slot} (hl : lv_has ls 2 [(0, .ref A_t), (1, .int x1)]) (hw : wd_ G A s.heap (wl_X10_begin G A_t A_t_steps A_t_wet A_t_where A_t_home A_t_light A_t_carries A_t_sightPlace A_t_sightLight A_t_pad A_t_act A_t_whose A_t_whom A_t_tens A_t_had A_t_leaves A_t_apart A_t_stop A_t_restOf A_t_group A_t_along A_t_kept A_t_isKept c_t_foggy c_t_walkers c_t_sights c_t_padMany c_t_acts c_t_spent c_t_walks c_t_badAct c_t_badWhy c_t_keptAt c_t_isWriting c_t_act c_t_whose c_t_whom c_t_tens) H locs) : W p l e { frames := 2, cells := 0, slots := 0, locals := 45 } s m args below meth c H locs 0 0 Q (F0 m 0 ls []) := by
  have hx := hC.1
  have hb := hC.2.1
  unfold fn_X10_begin at hf
  refine lv_aload_n hx hb dX10_begin_0 rfl (lv_at hl 0 rfl) ?_
  refine g_get hC hw fkX10_40 0 rfl rfl dX10_begin_1 ?_
  refine lv_aload_n hx hb dX10_begin_4 rfl (lv_at hl 0 rfl) ?_
  refine g_get hC hw fkX10_130 0 rfl rfl dX10_begin_5 ?_
  refine lv_iload_n hx hb dX10_begin_8 rfl (lv_at hl 1 rfl) ?_
  obtain ⟨r1, hq2, hf⟩ := b1_s hf
  refine h_cSi hC hw msX10_133 (cn_X10_isLetter l G x1 r1 hq2) [] rfl (by decide) rfl hl.1 rfl (Nat.le_of_ble_eq_true rfl) ⟨Nat.le_of_ble_eq_true rfl, Nat.le_of_ble_eq_true rfl⟩ ⟨Nat.le_refl _, Nat.le_refl _⟩ dX10_begin_9 (fun H locs hw => ?_)
  refine lv_if_eq (tgt := 22) hx hb dX10_begin_12 (by decide) (fun hc => ?_) (fun hc => ?_)
  · replace hf := it_t hc hf
    refine lv_iconst (v := 0) hx hb dX10_begin_22 (by decide) ?_
    exact wn_X10_begin_j23 hC hret hf (lv_sub hl [0, 1] rfl) hw
  · replace hf := it_f hc hf
    refine lv_iload_n hx hb dX10_begin_15 rfl (lv_at hl 1 rfl) ?_
    refine lv_bipush (v := 65) hx hb dX10_begin_16 (by decide) ?_
    refine lv_isub hx hb dX10_begin_18 ?_
    refine lv_goto (tgt := 23) hx hb dX10_begin_19 (by decide) ?_
    exact wn_X10_begin_j23 hC hret hf (lv_sub hl [0, 1] rfl) hw
set_option maxHeartbeats 4000000 in
set_option maxRecDepth 100000 in
theorem cn_X10_begin (l : Launch) (G : gw_) (A_t : Nat) (A_t_steps : Nat) (A_t_wet : Nat) (A_t_where : Nat) (A_t_home : Nat) (A_t_light : Nat) (A_t_carries : Nat) (A_t_sightPlace : Nat) (A_t_sightLight : Nat) (A_t_pad : Nat) (A_t_act : Nat) (A_t_whose : Nat) (A_t_whom : Nat) (A_t_tens : Nat) (A_t_had : Nat) (A_t_leaves : Nat) (A_t_apart : Nat) (A_t_stop : Nat) (A_t_restOf : Nat) (A_t_group : Nat) (A_t_along : Nat) (A_t_kept : Nat) (A_t_isKept : Nat) (c_t_foggy : Int32) (c_t_walkers : Int32) (c_t_sights : Int32) (c_t_padMany : Int32) (c_t_acts : Int32) (c_t_spent : Int32) (c_t_walks : Int32) (c_t_badAct : Int32) (c_t_badWhy : Int32) (c_t_keptAt : Int32) (c_t_isWriting : Int32) (c_t_act : Nat → Int32) (c_t_whose : Nat → Int32) (c_t_whom : Nat → Int32) (c_t_tens : Nat → Int32) (x1 : Int32) (r : Int32) (z_t_acts : Int32) (z_t_act : Nat → Int32) (z_t_whose : Nat → Int32) (z_t_whom : Nat → Int32) (z_t_tens : Nat → Int32) (hf : fn_X10_begin c_t_acts c_t_act c_t_whose c_t_whom c_t_tens x1 = some (r, z_t_acts, z_t_act, z_t_whose, z_t_whom, z_t_tens)) : ci_ l G yX10_begin cX10_begin 2 (some .int) 2 45 (wl_X10_begin G A_t A_t_steps A_t_wet A_t_where A_t_home A_t_light A_t_carries A_t_sightPlace A_t_sightLight A_t_pad A_t_act A_t_whose A_t_whom A_t_tens A_t_had A_t_leaves A_t_apart A_t_stop A_t_restOf A_t_group A_t_along A_t_kept A_t_isKept c_t_foggy c_t_walkers c_t_sights c_t_padMany c_t_acts c_t_spent c_t_walks c_t_badAct c_t_badWhy c_t_keptAt c_t_isWriting c_t_act c_t_whose c_t_whom c_t_tens) [.ref A_t, .int x1] r (wl_X10_begin G A_t A_t_steps A_t_wet A_t_where A_t_home A_t_light A_t_carries A_t_sightPlace A_t_sightLight A_t_pad A_t_act A_t_whose A_t_whom A_t_tens A_t_had A_t_leaves A_t_apart A_t_stop A_t_restOf A_t_group A_t_along A_t_kept A_t_isKept c_t_foggy c_t_walkers c_t_sights c_t_padMany z_t_acts c_t_spent c_t_walks c_t_badAct c_t_badWhy c_t_keptAt c_t_isWriting z_t_act z_t_whose z_t_whom z_t_tens) := fun sz => met_intro (by decide) (Nat.le_of_ble_eq_true rfl) (fun p e s m args below meth c ls hsz hC hr hlk hnm hl hw => wn_X10_begin hC (fun pc H locs ls hd hw => g_iret hC hr hlk hw rfl rfl hd) hf hl hw)
