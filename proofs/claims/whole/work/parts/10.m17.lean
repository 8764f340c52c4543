theorem dX10_firstPlace_0 : decode cX10_firstPlace 0 = .ok (.iconst 0, 1) := by decide +kernel
theorem dX10_firstPlace_1 : decode cX10_firstPlace 1 = .ok (.istore_n 3, 1) := by decide +kernel
theorem dX10_firstPlace_2 : decode cX10_firstPlace 2 = .ok (.iload_n 3, 1) := by decide +kernel
theorem dX10_firstPlace_3 : decode cX10_firstPlace 3 = .ok (.bipush 12, 2) := by decide +kernel
theorem dX10_firstPlace_5 : decode cX10_firstPlace 5 = .ok (.if_icmp .ge 64, 3) := by decide +kernel
theorem dX10_firstPlace_8 : decode cX10_firstPlace 8 = .ok (.aload_n 0, 1) := by decide +kernel
theorem dX10_firstPlace_9 : decode cX10_firstPlace 9 = .ok (.iload_n 1, 1) := by decide +kernel
theorem dX10_firstPlace_10 : decode cX10_firstPlace 10 = .ok (.iload_n 3, 1) := by decide +kernel
theorem dX10_firstPlace_11 : decode cX10_firstPlace 11 = .ok (.invokevirtual 163, 3) := by decide +kernel
theorem dX10_firstPlace_14 : decode cX10_firstPlace 14 = .ok (.istore 4, 2) := by decide +kernel
theorem dX10_firstPlace_16 : decode cX10_firstPlace 16 = .ok (.iload_n 1, 1) := by decide +kernel
theorem dX10_firstPlace_17 : decode cX10_firstPlace 17 = .ok (.iload_n 2, 1) := by decide +kernel
theorem dX10_firstPlace_18 : decode cX10_firstPlace 18 = .ok (.if_icmp .eq 45, 3) := by decide +kernel
theorem dX10_firstPlace_21 : decode cX10_firstPlace 21 = .ok (.iload 4, 2) := by decide +kernel
theorem dX10_firstPlace_23 : decode cX10_firstPlace 23 = .ok (.ifCond .lt 40, 3) := by decide +kernel
theorem dX10_firstPlace_26 : decode cX10_firstPlace 26 = .ok (.aload_n 0, 1) := by decide +kernel
theorem dX10_firstPlace_27 : decode cX10_firstPlace 27 = .ok (.iload_n 3, 1) := by decide +kernel
theorem dX10_firstPlace_28 : decode cX10_firstPlace 28 = .ok (.iload_n 2, 1) := by decide +kernel
theorem dX10_firstPlace_29 : decode cX10_firstPlace 29 = .ok (.invokevirtual 215, 3) := by decide +kernel
theorem dX10_firstPlace_32 : decode cX10_firstPlace 32 = .ok (.ifCond .eq 31, 3) := by decide +kernel
theorem dX10_firstPlace_35 : decode cX10_firstPlace 35 = .ok (.iload 4, 2) := by decide +kernel
theorem dX10_firstPlace_37 : decode cX10_firstPlace 37 = .ok (.aload_n 0, 1) := by decide +kernel
theorem dX10_firstPlace_38 : decode cX10_firstPlace 38 = .ok (.getfield 55, 3) := by decide +kernel
theorem dX10_firstPlace_41 : decode cX10_firstPlace 41 = .ok (.iload_n 3, 1) := by decide +kernel
theorem dX10_firstPlace_42 : decode cX10_firstPlace 42 = .ok (.iload_n 2, 1) := by decide +kernel
theorem dX10_firstPlace_43 : decode cX10_firstPlace 43 = .ok (.invokestatic 89, 3) := by decide +kernel
theorem dX10_firstPlace_46 : decode cX10_firstPlace 46 = .ok (.iaload, 1) := by decide +kernel
theorem dX10_firstPlace_47 : decode cX10_firstPlace 47 = .ok (.iadd, 1) := by decide +kernel
theorem dX10_firstPlace_48 : decode cX10_firstPlace 48 = .ok (.aload_n 0, 1) := by decide +kernel
theorem dX10_firstPlace_49 : decode cX10_firstPlace 49 = .ok (.getfield 55, 3) := by decide +kernel
theorem dX10_firstPlace_52 : decode cX10_firstPlace 52 = .ok (.iload_n 1, 1) := by decide +kernel
theorem dX10_firstPlace_53 : decode cX10_firstPlace 53 = .ok (.iload_n 2, 1) := by decide +kernel
theorem dX10_firstPlace_54 : decode cX10_firstPlace 54 = .ok (.invokestatic 89, 3) := by decide +kernel
theorem dX10_firstPlace_57 : decode cX10_firstPlace 57 = .ok (.iaload, 1) := by decide +kernel
theorem dX10_firstPlace_58 : decode cX10_firstPlace 58 = .ok (.if_icmp .ne 5, 3) := by decide +kernel
theorem dX10_firstPlace_61 : decode cX10_firstPlace 61 = .ok (.iload_n 3, 1) := by decide +kernel
theorem dX10_firstPlace_62 : decode cX10_firstPlace 62 = .ok (.ireturn, 1) := by decide +kernel
theorem dX10_firstPlace_63 : decode cX10_firstPlace 63 = .ok (.iinc 3 1, 3) := by decide +kernel
theorem dX10_firstPlace_66 : decode cX10_firstPlace 66 = .ok (.goto (-64), 3) := by decide +kernel
theorem dX10_firstPlace_69 : decode cX10_firstPlace 69 = .ok (.bipush (-6), 2) := by decide +kernel
theorem dX10_firstPlace_71 : decode cX10_firstPlace 71 = .ok (.ireturn, 1) := by decide +kernel
abbrev wl_X10_firstPlace (G : gw_) (A_t : Nat) (A_t_steps : Nat) (A_t_wet : Nat) (A_t_where : Nat) (A_t_home : Nat) (A_t_light : Nat) (A_t_carries : Nat) (A_t_sightPlace : Nat) (A_t_sightLight : Nat) (A_t_pad : Nat) (A_t_act : Nat) (A_t_whose : Nat) (A_t_whom : Nat) (A_t_tens : Nat) (A_t_had : Nat) (A_t_leaves : Nat) (A_t_apart : Nat) (A_t_stop : Nat) (A_t_restOf : Nat) (A_t_group : Nat) (A_t_along : Nat) (A_t_kept : Nat) (A_t_isKept : Nat) (c_t_foggy : Int32) (c_t_walkers : Int32) (c_t_sights : Int32) (c_t_padMany : Int32) (c_t_acts : Int32) (c_t_spent : Int32) (c_t_walks : Int32) (c_t_badAct : Int32) (c_t_badWhy : Int32) (c_t_keptAt : Int32) (c_t_isWriting : Int32) (c_t_steps : Nat → Int32) (c_t_wet : Nat → Int32) (c_t_apart : Nat → Int32) : va_W := [ob_ A_t 10 [.ref A_t_steps, .ref A_t_wet, .int c_t_foggy, .int c_t_walkers, .ref A_t_where, .ref A_t_home, .ref A_t_light, .ref A_t_carries, .ref A_t_sightPlace, .ref A_t_sightLight, .int c_t_sights, .ref A_t_pad, .int c_t_padMany, .ref A_t_act, .ref A_t_whose, .ref A_t_whom, .ref A_t_tens, .int c_t_acts, .int c_t_spent, .int c_t_walks, .ref A_t_had, .ref A_t_leaves, .int c_t_badAct, .int c_t_badWhy, .ref A_t_apart, .ref A_t_stop, .ref A_t_restOf, .ref A_t_group, .ref A_t_along, .ref A_t_kept, .ref A_t_isKept, .int c_t_keptAt, .int c_t_isWriting], ia_ G A_t_steps 144 c_t_steps, ia_ G A_t_wet 144 c_t_wet, ia_ G A_t_apart 144 c_t_apart]
def fn_X10_firstPlace_b2 (c_t_foggy : Int32) (c_t_steps : Nat → Int32) (c_t_wet : Nat → Int32) (c_t_apart : Nat → Int32) (x1 : Int32) (x2 : Int32) (rc : Int32 → Option (Int32)) (k : Option (Int32)) (x3 : Int32) : Option (Int32) :=
  if 12 ≤ x3 then
    k
  else
    b1_ (fn_X10_cost c_t_foggy c_t_steps c_t_wet x1 x3) fun r1 =>
    if x1 = x2 then
      rc (x3 + 1)
    else
      if r1 < 0 then
        rc (x3 + 1)
      else
        b1_ (fn_X10_hasWay c_t_apart x3 x2) fun r3 =>
        if r3 = 0 then
          rc (x3 + 1)
        else
          b1_ (fn_X10_at x3 x2) fun r5 =>
          ck_ r5 144 <|
          b1_ (fn_X10_at x1 x2) fun r7 =>
          ck_ r7 144 <|
          if (r1 + (c_t_apart (Int32.toNatClampNeg r5))) = (c_t_apart (Int32.toNatClampNeg r7)) then
            some x3
          else
            rc (x3 + 1)
def fn_X10_firstPlace_l2 (c_t_foggy : Int32) (c_t_steps : Nat → Int32) (c_t_wet : Nat → Int32) (c_t_apart : Nat → Int32) (x1 : Int32) (x2 : Int32) (k : Option (Int32)) : Nat → Int32 → Option (Int32)
  | 0 => fun _ => none
  | n + 1 => fun x3 => fn_X10_firstPlace_b2 c_t_foggy c_t_steps c_t_wet c_t_apart x1 x2 (fn_X10_firstPlace_l2 c_t_foggy c_t_steps c_t_wet c_t_apart x1 x2 k n) k x3
def fn_X10_firstPlace (c_t_foggy : Int32) (c_t_steps : Nat → Int32) (c_t_wet : Nat → Int32) (c_t_apart : Nat → Int32) (x1 : Int32) (x2 : Int32) : Option (Int32) :=
  fn_X10_firstPlace_l2 c_t_foggy c_t_steps c_t_wet c_t_apart x1 x2 (some (-6)) fu_ 0
set_option maxHeartbeats 4000000 in
set_option maxRecDepth 100000 in
theorem wn_X10_firstPlace_l2 {p : Program} {l : Launch} {e : Env} {s : State} {m : MethodId} {args : Array Value} {below : List Frame} {meth : Method} {c : Code} {G : gw_} {A : Nat → Prop} {Q : State → Prop} {A_t : Nat} {A_t_steps : Nat} {A_t_wet : Nat} {A_t_where : Nat} {A_t_home : Nat} {A_t_light : Nat} {A_t_carries : Nat} {A_t_sightPlace : Nat} {A_t_sightLight : Nat} {A_t_pad : Nat} {A_t_act : Nat} {A_t_whose : Nat} {A_t_whom : Nat} {A_t_tens : Nat} {A_t_had : Nat} {A_t_leaves : Nat} {A_t_apart : Nat} {A_t_stop : Nat} {A_t_restOf : Nat} {A_t_group : Nat} {A_t_along : Nat} {A_t_kept : Nat} {A_t_isKept : Nat} {c_t_foggy : Int32} {c_t_walkers : Int32} {c_t_sights : Int32} {c_t_padMany : Int32} {c_t_acts : Int32} {c_t_spent : Int32} {c_t_walks : Int32} {c_t_badAct : Int32} {c_t_badWhy : Int32} {c_t_keptAt : Int32} {c_t_isWriting : Int32} {c_t_steps : Nat → Int32} {c_t_wet : Nat → Int32} {c_t_apart : Nat → Int32} {r : Int32} {x1 : Int32} {x2 : Int32} {k : Option (Int32)} (hC : cx_ p s m c G cX10_firstPlace 5 RX10) (hret : ∀ (pc : Nat) (H : Heap) (locs : List Loc) (ls : Array Slot), decode cX10_firstPlace pc = .ok (.ireturn, 1) → wd_ G A s.heap (wl_X10_firstPlace G A_t A_t_steps A_t_wet A_t_where A_t_home A_t_light A_t_carries A_t_sightPlace A_t_sightLight A_t_pad A_t_act A_t_whose A_t_whom A_t_tens A_t_had A_t_leaves A_t_apart A_t_stop A_t_restOf A_t_group A_t_along A_t_kept A_t_isKept c_t_foggy c_t_walkers c_t_sights c_t_padMany c_t_acts c_t_spent c_t_walks c_t_badAct c_t_badWhy c_t_keptAt c_t_isWriting c_t_steps c_t_wet c_t_apart) H locs → W p l e { frames := 3, cells := 0, slots := 0, locals := 67 } s m args below meth c H locs 0 0 Q (F0 m pc ls [.int r])) (hk : ∀  (H : Heap) (locs : List Loc) (ls : Array Slot), k = some r → lv_has ls 5 [] → wd_ G A s.heap (wl_X10_firstPlace G A_t A_t_steps A_t_wet A_t_where A_t_home A_t_light A_t_carries A_t_sightPlace A_t_sightLight A_t_pad A_t_act A_t_whose A_t_whom A_t_tens A_t_had A_t_leaves A_t_apart A_t_stop A_t_restOf A_t_group A_t_along A_t_kept A_t_isKept c_t_foggy c_t_walkers c_t_sights c_t_padMany c_t_acts c_t_spent c_t_walks c_t_badAct c_t_badWhy c_t_keptAt c_t_isWriting c_t_steps c_t_wet c_t_apart) H locs → W p l e { frames := 3, cells := 0, slots := 0, locals := 67 } s m args below meth c H locs 0 0 Q (F0 m 69 ls [])) : ∀ (n : Nat) (x3 : Int32) (H : Heap) (locs : List Loc) (ls : Array Slot), fn_X10_firstPlace_l2 c_t_foggy c_t_steps c_t_wet c_t_apart x1 x2 k n x3 = some r → lv_has ls 5 [(0, .ref A_t), (1, .int x1), (2, .int x2), (3, .int x3)] → wd_ G A s.heap (wl_X10_firstPlace G A_t A_t_steps A_t_wet A_t_where A_t_home A_t_light A_t_carries A_t_sightPlace A_t_sightLight A_t_pad A_t_act A_t_whose A_t_whom A_t_tens A_t_had A_t_leaves A_t_apart A_t_stop A_t_restOf A_t_group A_t_along A_t_kept A_t_isKept c_t_foggy c_t_walkers c_t_sights c_t_padMany c_t_acts c_t_spent c_t_walks c_t_badAct c_t_badWhy c_t_keptAt c_t_isWriting c_t_steps c_t_wet c_t_apart) H locs → W p l e { frames := 3, cells := 0, slots := 0, locals := 67 } s m args below meth c H locs 0 0 Q (F0 m 2 ls []) := by
  have hx := hC.1
  have hb := hC.2.1
  intro n
  induction n with
  | zero =>
    intro x3 H locs ls hf
    cases (show (none : Option (Int32)) = some _ from hf)
  | succ n hrc =>
    intro x3 H locs ls hf hl hw
    replace hf : fn_X10_firstPlace_b2 c_t_foggy c_t_steps c_t_wet c_t_apart x1 x2 (fn_X10_firstPlace_l2 c_t_foggy c_t_steps c_t_wet c_t_apart x1 x2 k n) k x3 = some r := hf
    unfold fn_X10_firstPlace_b2 at hf
    refine lv_iload_n hx hb dX10_firstPlace_2 rfl (lv_at hl 3 rfl) ?_
    refine lv_bipush (v := 12) hx hb dX10_firstPlace_3 (by decide) ?_
    refine lv_icmp_ge (tgt := 69) hx hb dX10_firstPlace_5 (by decide) (fun hc => ?_) (fun hc => ?_)
    · replace hf := it_t hc hf
      exact hk _ _ _ hf (lv_sub hl [] rfl) hw
    · replace hf := it_f hc hf
      refine lv_aload_n hx hb dX10_firstPlace_8 rfl (lv_at hl 0 rfl) ?_
      refine lv_iload_n hx hb dX10_firstPlace_9 rfl (lv_at hl 1 rfl) ?_
      refine lv_iload_n hx hb dX10_firstPlace_10 rfl (lv_at hl 3 rfl) ?_
      obtain ⟨r1, hq2, hf⟩ := b1_s hf
      refine h_cVi hC hw mvX10_163 (cn_X10_cost l G A_t A_t_steps A_t_wet A_t_where A_t_home A_t_light A_t_carries A_t_sightPlace A_t_sightLight A_t_pad A_t_act A_t_whose A_t_whom A_t_tens A_t_had A_t_leaves A_t_apart A_t_stop A_t_restOf A_t_group A_t_along A_t_kept A_t_isKept c_t_foggy c_t_walkers c_t_sights c_t_padMany c_t_acts c_t_spent c_t_walks c_t_badAct c_t_badWhy c_t_keptAt c_t_isWriting c_t_steps c_t_wet x1 x3 r1 hq2) [0, 1, 2] rfl (by decide) 0 rfl rfl rfl hl.1 rfl (Nat.le_of_ble_eq_true rfl) ⟨Nat.le_of_ble_eq_true rfl, Nat.le_of_ble_eq_true rfl⟩ ⟨Nat.le_refl _, Nat.le_refl _⟩ dX10_firstPlace_11 (fun H locs hw => ?_)
      refine lv_istore (lv' := [(4, .int r1), (0, .ref A_t), (1, .int x1), (2, .int x2), (3, .int x3)]) hx hb dX10_firstPlace_14 hl (by decide) rfl (fun ls hl => ?_)
      refine lv_iload_n hx hb dX10_firstPlace_16 rfl (lv_at hl 2 rfl) ?_
      refine lv_iload_n hx hb dX10_firstPlace_17 rfl (lv_at hl 3 rfl) ?_
      refine lv_icmp_eq (tgt := 63) hx hb dX10_firstPlace_18 (by decide) (fun hc => ?_) (fun hc => ?_)
      · replace hf := it_t hc hf
        refine lv_iinc (v := x3 + 1) (lv' := [(3, .int (x3 + 1)), (4, .int r1), (0, .ref A_t), (1, .int x1), (2, .int x2)]) hx hb dX10_firstPlace_63 hl (k := 4) rfl rfl (by decide) rfl (fun ls hl => ?_)
        refine lv_goto (tgt := 2) hx hb dX10_firstPlace_66 (by decide) ?_
        exact hrc (x3 + 1) _ _ _ hf (lv_sub hl [2, 3, 4, 0] rfl) hw
      · replace hf := it_f hc hf
        refine lv_iload hx hb dX10_firstPlace_21 (lv_at hl 0 rfl) ?_
        refine lv_if_lt (tgt := 63) hx hb dX10_firstPlace_23 (by decide) (fun hc => ?_) (fun hc => ?_)
        · replace hf := it_t hc hf
          refine lv_iinc (v := x3 + 1) (lv' := [(3, .int (x3 + 1)), (4, .int r1), (0, .ref A_t), (1, .int x1), (2, .int x2)]) hx hb dX10_firstPlace_63 hl (k := 4) rfl rfl (by decide) rfl (fun ls hl => ?_)
          refine lv_goto (tgt := 2) hx hb dX10_firstPlace_66 (by decide) ?_
          exact hrc (x3 + 1) _ _ _ hf (lv_sub hl [2, 3, 4, 0] rfl) hw
        · replace hf := it_f hc hf
          refine lv_aload_n hx hb dX10_firstPlace_26 rfl (lv_at hl 1 rfl) ?_
          refine lv_iload_n hx hb dX10_firstPlace_27 rfl (lv_at hl 4 rfl) ?_
          refine lv_iload_n hx hb dX10_firstPlace_28 rfl (lv_at hl 3 rfl) ?_
          obtain ⟨r3, hq4, hf⟩ := b1_s hf
          refine h_cVi hC hw mvX10_215 (cn_X10_hasWay l G A_t A_t_steps A_t_wet A_t_where A_t_home A_t_light A_t_carries A_t_sightPlace A_t_sightLight A_t_pad A_t_act A_t_whose A_t_whom A_t_tens A_t_had A_t_leaves A_t_apart A_t_stop A_t_restOf A_t_group A_t_along A_t_kept A_t_isKept c_t_foggy c_t_walkers c_t_sights c_t_padMany c_t_acts c_t_spent c_t_walks c_t_badAct c_t_badWhy c_t_keptAt c_t_isWriting c_t_apart x3 x2 r3 hq4) [0, 3] rfl (by decide) 0 rfl rfl rfl hl.1 rfl (Nat.le_of_ble_eq_true rfl) ⟨Nat.le_of_ble_eq_true rfl, Nat.le_of_ble_eq_true rfl⟩ ⟨Nat.le_refl _, Nat.le_refl _⟩ dX10_firstPlace_29 (fun H locs hw => ?_)
          refine lv_if_eq (tgt := 63) hx hb dX10_firstPlace_32 (by decide) (fun hc => ?_) (fun hc => ?_)
          · replace hf := it_t hc hf
            refine lv_iinc (v := x3 + 1) (lv' := [(3, .int (x3 + 1)), (4, .int r1), (0, .ref A_t), (1, .int x1), (2, .int x2)]) hx hb dX10_firstPlace_63 hl (k := 4) rfl rfl (by decide) rfl (fun ls hl => ?_)
            refine lv_goto (tgt := 2) hx hb dX10_firstPlace_66 (by decide) ?_
            exact hrc (x3 + 1) _ _ _ hf (lv_sub hl [2, 3, 4, 0] rfl) hw
          · replace hf := it_f hc hf
            refine lv_iload hx hb dX10_firstPlace_35 (lv_at hl 0 rfl) ?_
            refine lv_aload_n hx hb dX10_firstPlace_37 rfl (lv_at hl 1 rfl) ?_
            refine g_get hC hw fkX10_55 0 rfl rfl dX10_firstPlace_38 ?_
            refine lv_iload_n hx hb dX10_firstPlace_41 rfl (lv_at hl 4 rfl) ?_
            refine lv_iload_n hx hb dX10_firstPlace_42 rfl (lv_at hl 3 rfl) ?_
            obtain ⟨r5, hq6, hf⟩ := b1_s hf
            refine h_cSi hC hw msX10_89 (cn_X10_at l G x3 x2 r5 hq6) [] rfl (by decide) rfl hl.1 rfl (Nat.le_of_ble_eq_true rfl) ⟨Nat.le_of_ble_eq_true rfl, Nat.le_of_ble_eq_true rfl⟩ ⟨Nat.le_refl _, Nat.le_refl _⟩ dX10_firstPlace_43 (fun H locs hw => ?_)
            obtain ⟨hi, hf⟩ := ck_s hf
            refine g_iald hC hw 3 rfl hi dX10_firstPlace_46 ?_
            refine lv_iadd hx hb dX10_firstPlace_47 ?_
            refine lv_aload_n hx hb dX10_firstPlace_48 rfl (lv_at hl 1 rfl) ?_
            refine g_get hC hw fkX10_55 0 rfl rfl dX10_firstPlace_49 ?_
            refine lv_iload_n hx hb dX10_firstPlace_52 rfl (lv_at hl 2 rfl) ?_
            refine lv_iload_n hx hb dX10_firstPlace_53 rfl (lv_at hl 3 rfl) ?_
            obtain ⟨r7, hq8, hf⟩ := b1_s hf
            refine h_cSi hC hw msX10_89 (cn_X10_at l G x1 x2 r7 hq8) [] rfl (by decide) rfl hl.1 rfl (Nat.le_of_ble_eq_true rfl) ⟨Nat.le_of_ble_eq_true rfl, Nat.le_of_ble_eq_true rfl⟩ ⟨Nat.le_refl _, Nat.le_refl _⟩ dX10_firstPlace_54 (fun H locs hw => ?_)
            obtain ⟨hi, hf⟩ := ck_s hf
            refine g_iald hC hw 3 rfl hi dX10_firstPlace_57 ?_
            refine lv_icmp_ne (tgt := 63) hx hb dX10_firstPlace_58 (by decide) (fun hc => ?_) (fun hc => ?_)
            · replace hf := it_f hc hf
              refine lv_iinc (v := x3 + 1) (lv' := [(3, .int (x3 + 1)), (4, .int r1), (0, .ref A_t), (1, .int x1), (2, .int x2)]) hx hb dX10_firstPlace_63 hl (k := 4) rfl rfl (by decide) rfl (fun ls hl => ?_)
              refine lv_goto (tgt := 2) hx hb dX10_firstPlace_66 (by decide) ?_
              exact hrc (x3 + 1) _ _ _ hf (lv_sub hl [2, 3, 4, 0] rfl) hw
            · replace hf := it_t hc hf
              refine lv_iload_n hx hb dX10_firstPlace_61 rfl (lv_at hl 4 rfl) ?_
              have h1_ := t1_ hf
              subst h1_
              exact hret _ _ _ _ dX10_firstPlace_62 hw
set_option maxHeartbeats 4000000 in
set_option maxRecDepth 100000 in
theorem wn_X10_firstPlace {p : Program} {l : Launch} {e : Env} {s : State} {m : MethodId} {args : Array Value} {below : List Frame} {meth : Method} {c : Code} {G : gw_} {A : Nat → Prop} {Q : State → Prop} {A_t : Nat} {A_t_steps : Nat} {A_t_wet : Nat} {A_t_where : Nat} {A_t_home : Nat} {A_t_light : Nat} {A_t_carries : Nat} {A_t_sightPlace : Nat} {A_t_sightLight : Nat} {A_t_pad : Nat} {A_t_act : Nat} {A_t_whose : Nat} {A_t_whom : Nat} {A_t_tens : Nat} {A_t_had : Nat} {A_t_leaves : Nat} {A_t_apart : Nat} {A_t_stop : Nat} {A_t_restOf : Nat} {A_t_group : Nat} {A_t_along : Nat} {A_t_kept : Nat} {A_t_isKept : Nat} {c_t_foggy : Int32} {c_t_walkers : Int32} {c_t_sights : Int32} {c_t_padMany : Int32} {c_t_acts : Int32} {c_t_spent : Int32} {c_t_walks : Int32} {c_t_badAct : Int32} {c_t_badWhy : Int32} {c_t_keptAt : Int32} {c_t_isWriting : Int32} {c_t_steps : Nat → Int32} {c_t_wet : Nat → Int32} {c_t_apart : Nat → Int32} {r : Int32} {x1 : Int32} {x2 : Int32} (hC : cx_ p s m c G cX10_firstPlace 5 RX10) (hret : ∀ (pc : Nat) (H : Heap) (locs : List Loc) (ls : Array Slot), decode cX10_firstPlace pc = .ok (.ireturn, 1) → wd_ G A s.heap (wl_X10_firstPlace G A_t A_t_steps A_t_wet A_t_where A_t_home A_t_light A_t_carries A_t_sightPlace A_t_sightLight A_t_pad A_t_act A_t_whose A_t_whom A_t_tens A_t_had A_t_leaves A_t_apart A_t_stop A_t_restOf A_t_group A_t_along A_t_kept A_t_isKept c_t_foggy c_t_walkers c_t_sights c_t_padMany c_t_acts c_t_spent c_t_walks c_t_badAct c_t_badWhy c_t_keptAt c_t_isWriting c_t_steps c_t_wet c_t_apart) H locs → W p l e { frames := 3, cells := 0, slots := 0, locals := 67 } s m args below meth c H locs 0 0 Q (F0 m pc ls [.int r])) (hf : fn_X10_firstPlace c_t_foggy c_t_steps c_t_wet c_t_apart x1 x2 = some r) {H : Heap} {locs : List Loc} {ls : Array Slot} (hl : lv_has ls 5 [(0, .ref A_t), (1, .int x1), (2, .int x2)]) (hw : wd_ G A s.heap (wl_X10_firstPlace G A_t A_t_steps A_t_wet A_t_where A_t_home A_t_light A_t_carries A_t_sightPlace A_t_sightLight A_t_pad A_t_act A_t_whose A_t_whom A_t_tens A_t_had A_t_leaves A_t_apart A_t_stop A_t_restOf A_t_group A_t_along A_t_kept A_t_isKept c_t_foggy c_t_walkers c_t_sights c_t_padMany c_t_acts c_t_spent c_t_walks c_t_badAct c_t_badWhy c_t_keptAt c_t_isWriting c_t_steps c_t_wet c_t_apart) H locs) : W p l e { frames := 3, cells := 0, slots := 0, locals := 67 } s m args below meth c H locs 0 0 Q (F0 m 0 ls []) := by
  have hx := hC.1
  have hb := hC.2.1
  unfold fn_X10_firstPlace at hf
  refine lv_iconst (v := 0) hx hb dX10_firstPlace_0 (by decide) ?_
  refine lv_istore_n (lv' := [(3, .int 0), (0, .ref A_t), (1, .int x1), (2, .int x2)]) hx hb dX10_firstPlace_1 rfl hl (by decide) rfl (fun ls hl => ?_)
  refine wn_X10_firstPlace_l2 hC hret (fun H locs ls hf hl hw => ?_) fu_ 0 _ _ _ hf (lv_sub hl [1, 2, 3, 0] rfl) hw
  refine lv_bipush (v := (-6)) hx hb dX10_firstPlace_69 (by decide) ?_
  have h1_ := t1_ hf
  subst h1_
  exact hret _ _ _ _ dX10_firstPlace_71 hw
set_option maxHeartbeats 4000000 in
set_option maxRecDepth 100000 in
theorem cn_X10_firstPlace (l : Launch) (G : gw_) (A_t : Nat) (A_t_steps : Nat) (A_t_wet : Nat) (A_t_where : Nat) (A_t_home : Nat) (A_t_light : Nat) (A_t_carries : Nat) (A_t_sightPlace : Nat) (A_t_sightLight : Nat) (A_t_pad : Nat) (A_t_act : Nat) (A_t_whose : Nat) (A_t_whom : Nat) (A_t_tens : Nat) (A_t_had : Nat) (A_t_leaves : Nat) (A_t_apart : Nat) (A_t_stop : Nat) (A_t_restOf : Nat) (A_t_group : Nat) (A_t_along : Nat) (A_t_kept : Nat) (A_t_isKept : Nat) (c_t_foggy : Int32) (c_t_walkers : Int32) (c_t_sights : Int32) (c_t_padMany : Int32) (c_t_acts : Int32) (c_t_spent : Int32) (c_t_walks : Int32) (c_t_badAct : Int32) (c_t_badWhy : Int32) (c_t_keptAt : Int32) (c_t_isWriting : Int32) (c_t_steps : Nat → Int32) (c_t_wet : Nat → Int32) (c_t_apart : Nat → Int32) (x1 : Int32) (x2 : Int32) (r : Int32) (hf : fn_X10_firstPlace c_t_foggy c_t_steps c_t_wet c_t_apart x1 x2 = some r) : ci_ l G yX10_firstPlace cX10_firstPlace 5 (some .int) 3 67 (wl_X10_firstPlace G A_t A_t_steps A_t_wet A_t_where A_t_home A_t_light A_t_carries A_t_sightPlace A_t_sightLight A_t_pad A_t_act A_t_whose A_t_whom A_t_tens A_t_had A_t_leaves A_t_apart A_t_stop A_t_restOf A_t_group A_t_along A_t_kept A_t_isKept c_t_foggy c_t_walkers c_t_sights c_t_padMany c_t_acts c_t_spent c_t_walks c_t_badAct c_t_badWhy c_t_keptAt c_t_isWriting c_t_steps c_t_wet c_t_apart) [.ref A_t, .int x1, .int x2] r (wl_X10_firstPlace G A_t A_t_steps A_t_wet A_t_where A_t_home A_t_light A_t_carries A_t_sightPlace A_t_sightLight A_t_pad A_t_act A_t_whose A_t_whom A_t_tens A_t_had A_t_leaves A_t_apart A_t_stop A_t_restOf A_t_group A_t_along A_t_kept A_t_isKept c_t_foggy c_t_walkers c_t_sights c_t_padMany c_t_acts c_t_spent c_t_walks c_t_badAct c_t_badWhy c_t_keptAt c_t_isWriting c_t_steps c_t_wet c_t_apart) := fun sz => met_intro (by decide) (Nat.le_of_ble_eq_true rfl) (fun p e s m args below meth c ls hsz hC hr hlk hnm hl hw => wn_X10_firstPlace hC (fun pc H locs ls hd hw => g_iret hC hr hlk hw rfl rfl hd) hf hl hw)

theorem dX10_way_0 : decode cX10_way 0 = .ok (.iload_n 1, 1) := by decide +kernel
theorem dX10_way_1 : decode cX10_way 1 = .ok (.invokestatic 100, 3) := by decide +kernel
theorem dX10_way_4 : decode cX10_way 4 = .ok (.ifCond .eq 10, 3) := by decide +kernel
theorem dX10_way_7 : decode cX10_way 7 = .ok (.iload_n 2, 1) := by decide +kernel
theorem dX10_way_8 : decode cX10_way 8 = .ok (.invokestatic 100, 3) := by decide +kernel
theorem dX10_way_11 : decode cX10_way 11 = .ok (.ifCond .ne 5, 3) := by decide +kernel
theorem dX10_way_14 : decode cX10_way 14 = .ok (.iconst (-1), 1) := by decide +kernel
theorem dX10_way_15 : decode cX10_way 15 = .ok (.ireturn, 1) := by decide +kernel
theorem dX10_way_16 : decode cX10_way 16 = .ok (.iload_n 3, 1) := by decide +kernel
theorem dX10_way_17 : decode cX10_way 17 = .ok (.i2l, 1) := by decide +kernel
theorem dX10_way_18 : decode cX10_way 18 = .ok (.lconst 0, 1) := by decide +kernel
theorem dX10_way_19 : decode cX10_way 19 = .ok (.lconst 1, 1) := by decide +kernel
theorem dX10_way_20 : decode cX10_way 20 = .ok (.invokestatic 79, 3) := by decide +kernel
theorem dX10_way_23 : decode cX10_way 23 = .ok (.ifCond .ne 6, 3) := by decide +kernel
theorem dX10_way_26 : decode cX10_way 26 = .ok (.bipush (-2), 2) := by decide +kernel
theorem dX10_way_28 : decode cX10_way 28 = .ok (.ireturn, 1) := by decide +kernel
theorem dX10_way_29 : decode cX10_way 29 = .ok (.aload_n 0, 1) := by decide +kernel
theorem dX10_way_30 : decode cX10_way 30 = .ok (.invokevirtual 219, 3) := by decide +kernel
theorem dX10_way_33 : decode cX10_way 33 = .ok (.aload_n 0, 1) := by decide +kernel
theorem dX10_way_34 : decode cX10_way 34 = .ok (.iload_n 1, 1) := by decide +kernel
theorem dX10_way_35 : decode cX10_way 35 = .ok (.iload_n 2, 1) := by decide +kernel
theorem dX10_way_36 : decode cX10_way 36 = .ok (.invokevirtual 215, 3) := by decide +kernel
theorem dX10_way_39 : decode cX10_way 39 = .ok (.ifCond .ne 8, 3) := by decide +kernel
theorem dX10_way_42 : decode cX10_way 42 = .ok (.bipush (-6), 2) := by decide +kernel
theorem dX10_way_44 : decode cX10_way 44 = .ok (.goto 26, 3) := by decide +kernel
theorem dX10_way_47 : decode cX10_way 47 = .ok (.iload_n 3, 1) := by decide +kernel
theorem dX10_way_48 : decode cX10_way 48 = .ok (.ifCond .ne 16, 3) := by decide +kernel
theorem dX10_way_51 : decode cX10_way 51 = .ok (.aload_n 0, 1) := by decide +kernel
theorem dX10_way_52 : decode cX10_way 52 = .ok (.getfield 55, 3) := by decide +kernel
theorem dX10_way_55 : decode cX10_way 55 = .ok (.iload_n 1, 1) := by decide +kernel
theorem dX10_way_56 : decode cX10_way 56 = .ok (.iload_n 2, 1) := by decide +kernel
theorem dX10_way_57 : decode cX10_way 57 = .ok (.invokestatic 89, 3) := by decide +kernel
theorem dX10_way_60 : decode cX10_way 60 = .ok (.iaload, 1) := by decide +kernel
theorem dX10_way_61 : decode cX10_way 61 = .ok (.goto 9, 3) := by decide +kernel
theorem dX10_way_64 : decode cX10_way 64 = .ok (.aload_n 0, 1) := by decide +kernel
theorem dX10_way_65 : decode cX10_way 65 = .ok (.iload_n 1, 1) := by decide +kernel
theorem dX10_way_66 : decode cX10_way 66 = .ok (.iload_n 2, 1) := by decide +kernel
theorem dX10_way_67 : decode cX10_way 67 = .ok (.invokevirtual 222, 3) := by decide +kernel
theorem dX10_way_70 : decode cX10_way 70 = .ok (.ireturn, 1) := by decide +kernel
abbrev wl_X10_way (G : gw_) (A_t : Nat) (A_t_steps : Nat) (A_t_wet : Nat) (A_t_where : Nat) (A_t_home : Nat) (A_t_light : Nat) (A_t_carries : Nat) (A_t_sightPlace : Nat) (A_t_sightLight : Nat) (A_t_pad : Nat) (A_t_act : Nat) (A_t_whose : Nat) (A_t_whom : Nat) (A_t_tens : Nat) (A_t_had : Nat) (A_t_leaves : Nat) (A_t_apart : Nat) (A_t_stop : Nat) (A_t_restOf : Nat) (A_t_group : Nat) (A_t_along : Nat) (A_t_kept : Nat) (A_t_isKept : Nat) (c_t_foggy : Int32) (c_t_walkers : Int32) (c_t_sights : Int32) (c_t_padMany : Int32) (c_t_acts : Int32) (c_t_spent : Int32) (c_t_walks : Int32) (c_t_badAct : Int32) (c_t_badWhy : Int32) (c_t_keptAt : Int32) (c_t_isWriting : Int32) (c_t_steps : Nat → Int32) (c_t_wet : Nat → Int32) (c_t_apart : Nat → Int32) : va_W := [ob_ A_t 10 [.ref A_t_steps, .ref A_t_wet, .int c_t_foggy, .int c_t_walkers, .ref A_t_where, .ref A_t_home, .ref A_t_light, .ref A_t_carries, .ref A_t_sightPlace, .ref A_t_sightLight, .int c_t_sights, .ref A_t_pad, .int c_t_padMany, .ref A_t_act, .ref A_t_whose, .ref A_t_whom, .ref A_t_tens, .int c_t_acts, .int c_t_spent, .int c_t_walks, .ref A_t_had, .ref A_t_leaves, .int c_t_badAct, .int c_t_badWhy, .ref A_t_apart, .ref A_t_stop, .ref A_t_restOf, .ref A_t_group, .ref A_t_along, .ref A_t_kept, .ref A_t_isKept, .int c_t_keptAt, .int c_t_isWriting], ia_ G A_t_steps 144 c_t_steps, ia_ G A_t_wet 144 c_t_wet, ia_ G A_t_apart 144 c_t_apart]
def fn_X10_way (c_t_foggy : Int32) (c_t_steps : Nat → Int32) (c_t_wet : Nat → Int32) (c_t_apart : Nat → Int32) (x1 : Int32) (x2 : Int32) (x3 : Int32) : Option (Int32 × (Nat → Int32)) :=
  b1_ (fn_X10_isPlace x1) fun r1 =>
  if r1 = 0 then
    some ((-1), c_t_apart)
  else
    b1_ (fn_X10_isPlace x2) fun r3 =>
    if r3 = 0 then
      some ((-1), c_t_apart)
    else
      b1_ (fn_X10_in (Int32.toInt64 x3) 0 1) fun r5 =>
      if r5 = 0 then
        some ((-2), c_t_apart)
      else
        b1_ (fn_X10_findWays c_t_foggy c_t_steps c_t_wet c_t_apart) fun w7 =>
        b1_ (fn_X10_hasWay w7 x1 x2) fun r9 =>
        if r9 = 0 then
          some ((-6), w7)
        else
          if x3 = 0 then
            b1_ (fn_X10_at x1 x2) fun r13 =>
            ck_ r13 144 <|
            some (w7 (Int32.toNatClampNeg r13), w7)
          else
            b1_ (fn_X10_firstPlace c_t_foggy c_t_steps c_t_wet w7 x1 x2) fun r11 =>
            some (r11, w7)
set_option maxHeartbeats 4000000 in
set_option maxRecDepth 100000 in
theorem wn_X10_way {p : Program} {l : Launch} {e : Env} {s : State} {m : MethodId} {args : Array Value} {below : List Frame} {meth : Method} {c : Code} {G : gw_} {A : Nat → Prop} {Q : State → Prop} {A_t : Nat} {A_t_steps : Nat} {A_t_wet : Nat} {A_t_where : Nat} {A_t_home : Nat} {A_t_light : Nat} {A_t_carries : Nat} {A_t_sightPlace : Nat} {A_t_sightLight : Nat} {A_t_pad : Nat} {A_t_act : Nat} {A_t_whose : Nat} {A_t_whom : Nat} {A_t_tens : Nat} {A_t_had : Nat} {A_t_leaves : Nat} {A_t_apart : Nat} {A_t_stop : Nat} {A_t_restOf : Nat} {A_t_group : Nat} {A_t_along : Nat} {A_t_kept : Nat} {A_t_isKept : Nat} {c_t_foggy : Int32} {c_t_walkers : Int32} {c_t_sights : Int32} {c_t_padMany : Int32} {c_t_acts : Int32} {c_t_spent : Int32} {c_t_walks : Int32} {c_t_badAct : Int32} {c_t_badWhy : Int32} {c_t_keptAt : Int32} {c_t_isWriting : Int32} {c_t_steps : Nat → Int32} {c_t_wet : Nat → Int32} {c_t_apart : Nat → Int32} {z_t_apart : Nat → Int32} {r : Int32} {x1 : Int32} {x2 : Int32} {x3 : Int32} (hC : cx_ p s m c G cX10_way 4 RX10) (hret : ∀ (pc : Nat) (H : Heap) (locs : List Loc) (ls : Array Slot), decode cX10_way pc = .ok (.ireturn, 1) → wd_ G A s.heap (wl_X10_way G A_t A_t_steps A_t_wet A_t_where A_t_home A_t_light A_t_carries A_t_sightPlace A_t_sightLight A_t_pad A_t_act A_t_whose A_t_whom A_t_tens A_t_had A_t_leaves A_t_apart A_t_stop A_t_restOf A_t_group A_t_along A_t_kept A_t_isKept c_t_foggy c_t_walkers c_t_sights c_t_padMany c_t_acts c_t_spent c_t_walks c_t_badAct c_t_badWhy c_t_keptAt c_t_isWriting c_t_steps c_t_wet z_t_apart) H locs → W p l e { frames := 4, cells := 0, slots := 0, locals := 91 } s m args below meth c H locs 0 0 Q (F0 m pc ls [.int r])) (hf : fn_X10_way c_t_foggy c_t_steps c_t_wet c_t_apart x1 x2 x3 = some (r, z_t_apart)) {H : Heap} {locs : List Loc} {ls : Array Slot} (hl : lv_has ls 4 [(0, .ref A_t), (1, .int x1), (2, .int x2), (3, .int x3)]) (hw : wd_ G A s.heap (wl_X10_way G A_t A_t_steps A_t_wet A_t_where A_t_home A_t_light A_t_carries A_t_sightPlace A_t_sightLight A_t_pad A_t_act A_t_whose A_t_whom A_t_tens A_t_had A_t_leaves A_t_apart A_t_stop A_t_restOf A_t_group A_t_along A_t_kept A_t_isKept c_t_foggy c_t_walkers c_t_sights c_t_padMany c_t_acts c_t_spent c_t_walks c_t_badAct c_t_badWhy c_t_keptAt c_t_isWriting c_t_steps c_t_wet c_t_apart) H locs) : W p l e { frames := 4, cells := 0, slots := 0, locals := 91 } s m args below meth c H locs 0 0 Q (F0 m 0 ls []) := by
  have hx := hC.1
  have hb := hC.2.1
  unfold fn_X10_way at hf
  refine lv_iload_n hx hb dX10_way_0 rfl (lv_at hl 1 rfl) ?_
  obtain ⟨r1, hq2, hf⟩ := b1_s hf
  refine h_cSi hC hw msX10_100 (cn_X10_isPlace l G x1 r1 hq2) [] rfl (by decide) rfl hl.1 rfl (Nat.le_of_ble_eq_true rfl) ⟨Nat.le_of_ble_eq_true rfl, Nat.le_of_ble_eq_true rfl⟩ ⟨Nat.le_refl _, Nat.le_refl _⟩ dX10_way_1 (fun H locs hw => ?_)
  refine lv_if_eq (tgt := 14) hx hb dX10_way_4 (by decide) (fun hc => ?_) (fun hc => ?_)
  · replace hf := it_t hc hf
    refine lv_iconst (v := (-1)) hx hb dX10_way_14 (by decide) ?_
    obtain ⟨h1_, h2_⟩ := t2_ hf
    subst h1_
    subst h2_
    exact hret _ _ _ _ dX10_way_15 hw
  · replace hf := it_f hc hf
    refine lv_iload_n hx hb dX10_way_7 rfl (lv_at hl 2 rfl) ?_
    obtain ⟨r3, hq4, hf⟩ := b1_s hf
    refine h_cSi hC hw msX10_100 (cn_X10_isPlace l G x2 r3 hq4) [] rfl (by decide) rfl hl.1 rfl (Nat.le_of_ble_eq_true rfl) ⟨Nat.le_of_ble_eq_true rfl, Nat.le_of_ble_eq_true rfl⟩ ⟨Nat.le_refl _, Nat.le_refl _⟩ dX10_way_8 (fun H locs hw => ?_)
    refine lv_if_ne (tgt := 16) hx hb dX10_way_11 (by decide) (fun hc => ?_) (fun hc => ?_)
    · replace hf := it_f hc hf
      refine lv_iload_n hx hb dX10_way_16 rfl (lv_at hl 3 rfl) ?_
      refine lv_i2l hx hb dX10_way_17 rfl ?_
      refine lv_lconst (v := 0) hx hb dX10_way_18 (by decide) ?_
      refine lv_lconst (v := 1) hx hb dX10_way_19 (by decide) ?_
      obtain ⟨r5, hq6, hf⟩ := b1_s hf
      refine h_cSi hC hw msX10_79 (cn_X10_in l G (Int32.toInt64 x3) 0 1 r5 hq6) [] rfl (by decide) rfl hl.1 rfl (Nat.le_of_ble_eq_true rfl) ⟨Nat.le_of_ble_eq_true rfl, Nat.le_of_ble_eq_true rfl⟩ ⟨Nat.le_refl _, Nat.le_refl _⟩ dX10_way_20 (fun H locs hw => ?_)
      refine lv_if_ne (tgt := 29) hx hb dX10_way_23 (by decide) (fun hc => ?_) (fun hc => ?_)
      · replace hf := it_f hc hf
        refine lv_aload_n hx hb dX10_way_29 rfl (lv_at hl 0 rfl) ?_
        obtain ⟨w7, hq8, hf⟩ := b1_s hf
        refine g_cVv hC hw mvX10_219 (cn_X10_findWays l G A_t A_t_steps A_t_wet A_t_where A_t_home A_t_light A_t_carries A_t_sightPlace A_t_sightLight A_t_pad A_t_act A_t_whose A_t_whom A_t_tens A_t_had A_t_leaves A_t_apart A_t_stop A_t_restOf A_t_group A_t_along A_t_kept A_t_isKept c_t_foggy c_t_walkers c_t_sights c_t_padMany c_t_acts c_t_spent c_t_walks c_t_badAct c_t_badWhy c_t_keptAt c_t_isWriting c_t_steps c_t_wet c_t_apart w7 hq8) [0, 1, 2, 3] rfl (by decide) rfl 0 rfl rfl rfl hl.1 rfl (Nat.le_of_ble_eq_true rfl) ⟨Nat.le_of_ble_eq_true rfl, Nat.le_of_ble_eq_true rfl⟩ ⟨Nat.le_refl _, Nat.le_refl _⟩ dX10_way_30 (fun H locs hw => ?_)
        have hw : wd_ G A s.heap (wl_X10_way G A_t A_t_steps A_t_wet A_t_where A_t_home A_t_light A_t_carries A_t_sightPlace A_t_sightLight A_t_pad A_t_act A_t_whose A_t_whom A_t_tens A_t_had A_t_leaves A_t_apart A_t_stop A_t_restOf A_t_group A_t_along A_t_kept A_t_isKept c_t_foggy c_t_walkers c_t_sights c_t_padMany c_t_acts c_t_spent c_t_walks c_t_badAct c_t_badWhy c_t_keptAt c_t_isWriting c_t_steps c_t_wet w7) H locs := hw
        refine lv_aload_n hx hb dX10_way_33 rfl (lv_at hl 0 rfl) ?_
        refine lv_iload_n hx hb dX10_way_34 rfl (lv_at hl 1 rfl) ?_
        refine lv_iload_n hx hb dX10_way_35 rfl (lv_at hl 2 rfl) ?_
        obtain ⟨r9, hq10, hf⟩ := b1_s hf
        refine h_cVi hC hw mvX10_215 (cn_X10_hasWay l G A_t A_t_steps A_t_wet A_t_where A_t_home A_t_light A_t_carries A_t_sightPlace A_t_sightLight A_t_pad A_t_act A_t_whose A_t_whom A_t_tens A_t_had A_t_leaves A_t_apart A_t_stop A_t_restOf A_t_group A_t_along A_t_kept A_t_isKept c_t_foggy c_t_walkers c_t_sights c_t_padMany c_t_acts c_t_spent c_t_walks c_t_badAct c_t_badWhy c_t_keptAt c_t_isWriting w7 x1 x2 r9 hq10) [0, 3] rfl (by decide) 0 rfl rfl rfl hl.1 rfl (Nat.le_of_ble_eq_true rfl) ⟨Nat.le_of_ble_eq_true rfl, Nat.le_of_ble_eq_true rfl⟩ ⟨Nat.le_refl _, Nat.le_refl _⟩ dX10_way_36 (fun H locs hw => ?_)
        refine lv_if_ne (tgt := 47) hx hb dX10_way_39 (by decide) (fun hc => ?_) (fun hc => ?_)
        · replace hf := it_f hc hf
          refine lv_iload_n hx hb dX10_way_47 rfl (lv_at hl 3 rfl) ?_
          refine lv_if_ne (tgt := 64) hx hb dX10_way_48 (by decide) (fun hc => ?_) (fun hc => ?_)
          · replace hf := it_f hc hf
            refine lv_aload_n hx hb dX10_way_64 rfl (lv_at hl 0 rfl) ?_
            refine lv_iload_n hx hb dX10_way_65 rfl (lv_at hl 1 rfl) ?_
            refine lv_iload_n hx hb dX10_way_66 rfl (lv_at hl 2 rfl) ?_
            obtain ⟨r11, hq12, hf⟩ := b1_s hf
            refine h_cVi hC hw mvX10_222 (cn_X10_firstPlace l G A_t A_t_steps A_t_wet A_t_where A_t_home A_t_light A_t_carries A_t_sightPlace A_t_sightLight A_t_pad A_t_act A_t_whose A_t_whom A_t_tens A_t_had A_t_leaves A_t_apart A_t_stop A_t_restOf A_t_group A_t_along A_t_kept A_t_isKept c_t_foggy c_t_walkers c_t_sights c_t_padMany c_t_acts c_t_spent c_t_walks c_t_badAct c_t_badWhy c_t_keptAt c_t_isWriting c_t_steps c_t_wet w7 x1 x2 r11 hq12) [0, 1, 2, 3] rfl (by decide) 0 rfl rfl rfl hl.1 rfl (Nat.le_of_ble_eq_true rfl) ⟨Nat.le_of_ble_eq_true rfl, Nat.le_of_ble_eq_true rfl⟩ ⟨Nat.le_refl _, Nat.le_refl _⟩ dX10_way_67 (fun H locs hw => ?_)
            obtain ⟨h1_, h2_⟩ := t2_ hf
            subst h1_
            subst h2_
            exact hret _ _ _ _ dX10_way_70 hw
          · replace hf := it_t hc hf
            refine lv_aload_n hx hb dX10_way_51 rfl (lv_at hl 0 rfl) ?_
            refine g_get hC hw fkX10_55 0 rfl rfl dX10_way_52 ?_
            refine lv_iload_n hx hb dX10_way_55 rfl (lv_at hl 1 rfl) ?_
            refine lv_iload_n hx hb dX10_way_56 rfl (lv_at hl 2 rfl) ?_
            obtain ⟨r13, hq14, hf⟩ := b1_s hf
            refine h_cSi hC hw msX10_89 (cn_X10_at l G x1 x2 r13 hq14) [] rfl (by decide) rfl hl.1 rfl (Nat.le_of_ble_eq_true rfl) ⟨Nat.le_of_ble_eq_true rfl, Nat.le_of_ble_eq_true rfl⟩ ⟨Nat.le_refl _, Nat.le_refl _⟩ dX10_way_57 (fun H locs hw => ?_)
            obtain ⟨hi, hf⟩ := ck_s hf
            refine g_iald hC hw 3 rfl hi dX10_way_60 ?_
            refine lv_goto (tgt := 70) hx hb dX10_way_61 (by decide) ?_
            obtain ⟨h1_, h2_⟩ := t2_ hf
            subst h1_
            subst h2_
            exact hret _ _ _ _ dX10_way_70 hw
        · replace hf := it_t hc hf
          refine lv_bipush (v := (-6)) hx hb dX10_way_42 (by decide) ?_
          refine lv_goto (tgt := 70) hx hb dX10_way_44 (by decide) ?_
          obtain ⟨h1_, h2_⟩ := t2_ hf
          subst h1_
          subst h2_
          exact hret _ _ _ _ dX10_way_70 hw
      · replace hf := it_t hc hf
        refine lv_bipush (v := (-2)) hx hb dX10_way_26 (by decide) ?_
        obtain ⟨h1_, h2_⟩ := t2_ hf
        subst h1_
        subst h2_
        exact hret _ _ _ _ dX10_way_28 hw
    · replace hf := it_t hc hf
      refine lv_iconst (v := (-1)) hx hb dX10_way_14 (by decide) ?_
      obtain ⟨h1_, h2_⟩ := t2_ hf
      subst h1_
      subst h2_
      exact hret _ _ _ _ dX10_way_15 hw
set_option maxHeartbeats 4000000 in
set_option maxRecDepth 100000 in
theorem cn_X10_way (l : Launch) (G : gw_) (A_t : Nat) (A_t_steps : Nat) (A_t_wet : Nat) (A_t_where : Nat) (A_t_home : Nat) (A_t_light : Nat) (A_t_carries : Nat) (A_t_sightPlace : Nat) (A_t_sightLight : Nat) (A_t_pad : Nat) (A_t_act : Nat) (A_t_whose : Nat) (A_t_whom : Nat) (A_t_tens : Nat) (A_t_had : Nat) (A_t_leaves : Nat) (A_t_apart : Nat) (A_t_stop : Nat) (A_t_restOf : Nat) (A_t_group : Nat) (A_t_along : Nat) (A_t_kept : Nat) (A_t_isKept : Nat) (c_t_foggy : Int32) (c_t_walkers : Int32) (c_t_sights : Int32) (c_t_padMany : Int32) (c_t_acts : Int32) (c_t_spent : Int32) (c_t_walks : Int32) (c_t_badAct : Int32) (c_t_badWhy : Int32) (c_t_keptAt : Int32) (c_t_isWriting : Int32) (c_t_steps : Nat → Int32) (c_t_wet : Nat → Int32) (c_t_apart : Nat → Int32) (x1 : Int32) (x2 : Int32) (x3 : Int32) (r : Int32) (z_t_apart : Nat → Int32) (hf : fn_X10_way c_t_foggy c_t_steps c_t_wet c_t_apart x1 x2 x3 = some (r, z_t_apart)) : ci_ l G yX10_way cX10_way 4 (some .int) 4 91 (wl_X10_way G A_t A_t_steps A_t_wet A_t_where A_t_home A_t_light A_t_carries A_t_sightPlace A_t_sightLight A_t_pad A_t_act A_t_whose A_t_whom A_t_tens A_t_had A_t_leaves A_t_apart A_t_stop A_t_restOf A_t_group A_t_along A_t_kept A_t_isKept c_t_foggy c_t_walkers c_t_sights c_t_padMany c_t_acts c_t_spent c_t_walks c_t_badAct c_t_badWhy c_t_keptAt c_t_isWriting c_t_steps c_t_wet c_t_apart) [.ref A_t, .int x1, .int x2, .int x3] r (wl_X10_way G A_t A_t_steps A_t_wet A_t_where A_t_home A_t_light A_t_carries A_t_sightPlace A_t_sightLight A_t_pad A_t_act A_t_whose A_t_whom A_t_tens A_t_had A_t_leaves A_t_apart A_t_stop A_t_restOf A_t_group A_t_along A_t_kept A_t_isKept c_t_foggy c_t_walkers c_t_sights c_t_padMany c_t_acts c_t_spent c_t_walks c_t_badAct c_t_badWhy c_t_keptAt c_t_isWriting c_t_steps c_t_wet z_t_apart) := fun sz => met_intro (by decide) (Nat.le_of_ble_eq_true rfl) (fun p e s m args below meth c ls hsz hC hr hlk hnm hl hw => wn_X10_way hC (fun pc H locs ls hd hw => g_iret hC hr hlk hw rfl rfl hd) hf hl hw)

theorem dX10_far_0 : decode cX10_far 0 = .ok (.aload_n 0, 1) := by decide +kernel
theorem dX10_far_1 : decode cX10_far 1 = .ok (.iload_n 1, 1) := by decide +kernel
theorem dX10_far_2 : decode cX10_far 2 = .ok (.invokevirtual 106, 3) := by decide +kernel
theorem dX10_far_5 : decode cX10_far 5 = .ok (.ifCond .ne 5, 3) := by decide +kernel
theorem dX10_far_8 : decode cX10_far 8 = .ok (.iconst (-1), 1) := by decide +kernel
theorem dX10_far_9 : decode cX10_far 9 = .ok (.ireturn, 1) := by decide +kernel
theorem dX10_far_10 : decode cX10_far 10 = .ok (.aload_n 0, 1) := by decide +kernel
theorem dX10_far_11 : decode cX10_far 11 = .ok (.invokevirtual 219, 3) := by decide +kernel
theorem dX10_far_14 : decode cX10_far 14 = .ok (.iconst 0, 1) := by decide +kernel
theorem dX10_far_15 : decode cX10_far 15 = .ok (.istore_n 2, 1) := by decide +kernel
theorem dX10_far_16 : decode cX10_far 16 = .ok (.iconst 0, 1) := by decide +kernel
theorem dX10_far_17 : decode cX10_far 17 = .ok (.istore_n 3, 1) := by decide +kernel
theorem dX10_far_18 : decode cX10_far 18 = .ok (.iload_n 3, 1) := by decide +kernel
theorem dX10_far_19 : decode cX10_far 19 = .ok (.bipush 12, 2) := by decide +kernel
theorem dX10_far_21 : decode cX10_far 21 = .ok (.if_icmp .ge 43, 3) := by decide +kernel
theorem dX10_far_24 : decode cX10_far 24 = .ok (.iload_n 2, 1) := by decide +kernel
theorem dX10_far_25 : decode cX10_far 25 = .ok (.aload_n 0, 1) := by decide +kernel
theorem dX10_far_26 : decode cX10_far 26 = .ok (.getfield 55, 3) := by decide +kernel
theorem dX10_far_29 : decode cX10_far 29 = .ok (.aload_n 0, 1) := by decide +kernel
theorem dX10_far_30 : decode cX10_far 30 = .ok (.getfield 16, 3) := by decide +kernel
theorem dX10_far_33 : decode cX10_far 33 = .ok (.iload_n 1, 1) := by decide +kernel
theorem dX10_far_34 : decode cX10_far 34 = .ok (.iaload, 1) := by decide +kernel
theorem dX10_far_35 : decode cX10_far 35 = .ok (.iload_n 3, 1) := by decide +kernel
theorem dX10_far_36 : decode cX10_far 36 = .ok (.invokestatic 89, 3) := by decide +kernel
theorem dX10_far_39 : decode cX10_far 39 = .ok (.iaload, 1) := by decide +kernel
theorem dX10_far_40 : decode cX10_far 40 = .ok (.aload_n 0, 1) := by decide +kernel
theorem dX10_far_41 : decode cX10_far 41 = .ok (.getfield 22, 3) := by decide +kernel
theorem dX10_far_44 : decode cX10_far 44 = .ok (.iload_n 1, 1) := by decide +kernel
theorem dX10_far_45 : decode cX10_far 45 = .ok (.iaload, 1) := by decide +kernel
theorem dX10_far_46 : decode cX10_far 46 = .ok (.if_icmp .gt 9, 3) := by decide +kernel
theorem dX10_far_49 : decode cX10_far 49 = .ok (.iconst 1, 1) := by decide +kernel
theorem dX10_far_50 : decode cX10_far 50 = .ok (.iload_n 3, 1) := by decide +kernel
theorem dX10_far_51 : decode cX10_far 51 = .ok (.ishl, 1) := by decide +kernel
theorem dX10_far_52 : decode cX10_far 52 = .ok (.goto 4, 3) := by decide +kernel
theorem dX10_far_55 : decode cX10_far 55 = .ok (.iconst 0, 1) := by decide +kernel
theorem dX10_far_56 : decode cX10_far 56 = .ok (.ior, 1) := by decide +kernel
theorem dX10_far_57 : decode cX10_far 57 = .ok (.istore_n 2, 1) := by decide +kernel
theorem dX10_far_58 : decode cX10_far 58 = .ok (.iinc 3 1, 3) := by decide +kernel
theorem dX10_far_61 : decode cX10_far 61 = .ok (.goto (-43), 3) := by decide +kernel
theorem dX10_far_64 : decode cX10_far 64 = .ok (.iload_n 2, 1) := by decide +kernel
theorem dX10_far_65 : decode cX10_far 65 = .ok (.ireturn, 1) := by decide +kernel
abbrev wl_X10_far (G : gw_) (A_t : Nat) (A_t_steps : Nat) (A_t_wet : Nat) (A_t_where : Nat) (A_t_home : Nat) (A_t_light : Nat) (A_t_carries : Nat) (A_t_sightPlace : Nat) (A_t_sightLight : Nat) (A_t_pad : Nat) (A_t_act : Nat) (A_t_whose : Nat) (A_t_whom : Nat) (A_t_tens : Nat) (A_t_had : Nat) (A_t_leaves : Nat) (A_t_apart : Nat) (A_t_stop : Nat) (A_t_restOf : Nat) (A_t_group : Nat) (A_t_along : Nat) (A_t_kept : Nat) (A_t_isKept : Nat) (c_t_foggy : Int32) (c_t_walkers : Int32) (c_t_sights : Int32) (c_t_padMany : Int32) (c_t_acts : Int32) (c_t_spent : Int32) (c_t_walks : Int32) (c_t_badAct : Int32) (c_t_badWhy : Int32) (c_t_keptAt : Int32) (c_t_isWriting : Int32) (c_t_steps : Nat → Int32) (c_t_wet : Nat → Int32) (c_t_where : Nat → Int32) (c_t_light : Nat → Int32) (c_t_apart : Nat → Int32) : va_W := [ob_ A_t 10 [.ref A_t_steps, .ref A_t_wet, .int c_t_foggy, .int c_t_walkers, .ref A_t_where, .ref A_t_home, .ref A_t_light, .ref A_t_carries, .ref A_t_sightPlace, .ref A_t_sightLight, .int c_t_sights, .ref A_t_pad, .int c_t_padMany, .ref A_t_act, .ref A_t_whose, .ref A_t_whom, .ref A_t_tens, .int c_t_acts, .int c_t_spent, .int c_t_walks, .ref A_t_had, .ref A_t_leaves, .int c_t_badAct, .int c_t_badWhy, .ref A_t_apart, .ref A_t_stop, .ref A_t_restOf, .ref A_t_group, .ref A_t_along, .ref A_t_kept, .ref A_t_isKept, .int c_t_keptAt, .int c_t_isWriting], ia_ G A_t_steps 144 c_t_steps, ia_ G A_t_wet 144 c_t_wet, ia_ G A_t_where 6 c_t_where, ia_ G A_t_light 6 c_t_light, ia_ G A_t_apart 144 c_t_apart]
def fn_X10_far_b18 (c_t_where : Nat → Int32) (c_t_light : Nat → Int32) (c_t_apart : Nat → Int32) (x1 : Int32) (rc : Int32 → Int32 → Option (Int32 × (Nat → Int32))) (k : Int32 → Option (Int32 × (Nat → Int32))) (x2 : Int32) (x3 : Int32) : Option (Int32 × (Nat → Int32)) :=
  if 12 ≤ x3 then
    k x2
  else
    ck_ x1 6 <|
    b1_ (fn_X10_at (c_t_where (Int32.toNatClampNeg x1)) x3) fun r5 =>
    ck_ r5 144 <|
    ck_ x1 6 <|
    if (c_t_light (Int32.toNatClampNeg x1)) < (c_t_apart (Int32.toNatClampNeg r5)) then
      rc (x2 ||| 0) (x3 + 1)
    else
      lx_ (x2 ||| (1 <<< (x3 &&& 31))) fun y7 =>
      rc y7 (x3 + 1)
def fn_X10_far_l18 (c_t_where : Nat → Int32) (c_t_light : Nat → Int32) (c_t_apart : Nat → Int32) (x1 : Int32) (k : Int32 → Option (Int32 × (Nat → Int32))) : Nat → Int32 → Int32 → Option (Int32 × (Nat → Int32))
  | 0 => fun _ _ => none
  | n + 1 => fun x2 x3 => fn_X10_far_b18 c_t_where c_t_light c_t_apart x1 (fn_X10_far_l18 c_t_where c_t_light c_t_apart x1 k n) k x2 x3
def fn_X10_far (c_t_foggy : Int32) (c_t_walkers : Int32) (c_t_steps : Nat → Int32) (c_t_wet : Nat → Int32) (c_t_where : Nat → Int32) (c_t_light : Nat → Int32) (c_t_apart : Nat → Int32) (x1 : Int32) : Option (Int32 × (Nat → Int32)) :=
  b1_ (fn_X10_isWalker c_t_walkers x1) fun r1 =>
  if r1 = 0 then
    some ((-1), c_t_apart)
  else
    b1_ (fn_X10_findWays c_t_foggy c_t_steps c_t_wet c_t_apart) fun w3 =>
    fn_X10_far_l18 c_t_where c_t_light w3 x1 (fun v8 =>
      some (v8, w3)) fu_ 0 0
set_option maxHeartbeats 4000000 in
set_option maxRecDepth 100000 in
theorem wn_X10_far_l18 {p : Program} {l : Launch} {e : Env} {s : State} {m : MethodId} {args : Array Value} {below : List Frame} {meth : Method} {c : Code} {G : gw_} {A : Nat → Prop} {Q : State → Prop} {A_t : Nat} {A_t_steps : Nat} {A_t_wet : Nat} {A_t_where : Nat} {A_t_home : Nat} {A_t_light : Nat} {A_t_carries : Nat} {A_t_sightPlace : Nat} {A_t_sightLight : Nat} {A_t_pad : Nat} {A_t_act : Nat} {A_t_whose : Nat} {A_t_whom : Nat} {A_t_tens : Nat} {A_t_had : Nat} {A_t_leaves : Nat} {A_t_apart : Nat} {A_t_stop : Nat} {A_t_restOf : Nat} {A_t_group : Nat} {A_t_along : Nat} {A_t_kept : Nat} {A_t_isKept : Nat} {c_t_foggy : Int32} {c_t_walkers : Int32} {c_t_sights : Int32} {c_t_padMany : Int32} {c_t_acts : Int32} {c_t_spent : Int32} {c_t_walks : Int32} {c_t_badAct : Int32} {c_t_badWhy : Int32} {c_t_keptAt : Int32} {c_t_isWriting : Int32} {c_t_steps : Nat → Int32} {c_t_wet : Nat → Int32} {c_t_where : Nat → Int32} {c_t_light : Nat → Int32} {c_t_apart : Nat → Int32} {z_t_apart : Nat → Int32} {r : Int32} {x1 : Int32} {k : Int32 → Option (Int32 × (Nat → Int32))} (hC : cx_ p s m c G cX10_far 4 RX10) (hret : ∀ (pc : Nat) (H : Heap) (locs : List Loc) (ls : Array Slot), decode cX10_far pc = .ok (.ireturn, 1) → wd_ G A s.heap (wl_X10_far G A_t A_t_steps A_t_wet A_t_where A_t_home A_t_light A_t_carries A_t_sightPlace A_t_sightLight A_t_pad A_t_act A_t_whose A_t_whom A_t_tens A_t_had A_t_leaves A_t_apart A_t_stop A_t_restOf A_t_group A_t_along A_t_kept A_t_isKept c_t_foggy c_t_walkers c_t_sights c_t_padMany c_t_acts c_t_spent c_t_walks c_t_badAct c_t_badWhy c_t_keptAt c_t_isWriting c_t_steps c_t_wet c_t_where c_t_light z_t_apart) H locs → W p l e { frames := 4, cells := 0, slots := 0, locals := 91 } s m args below meth c H locs 0 0 Q (F0 m pc ls [.int r])) (hk : ∀ (x2 : Int32) (H : Heap) (locs : List Loc) (ls : Array Slot), k x2 = some (r, z_t_apart) → lv_has ls 4 [(2, .int x2)] → wd_ G A s.heap (wl_X10_far G A_t A_t_steps A_t_wet A_t_where A_t_home A_t_light A_t_carries A_t_sightPlace A_t_sightLight A_t_pad A_t_act A_t_whose A_t_whom A_t_tens A_t_had A_t_leaves A_t_apart A_t_stop A_t_restOf A_t_group A_t_along A_t_kept A_t_isKept c_t_foggy c_t_walkers c_t_sights c_t_padMany c_t_acts c_t_spent c_t_walks c_t_badAct c_t_badWhy c_t_keptAt c_t_isWriting c_t_steps c_t_wet c_t_where c_t_light c_t_apart) H locs → W p l e { frames := 4, cells := 0, slots := 0, locals := 91 } s m args below meth c H locs 0 0 Q (F0 m 64 ls [])) : ∀ (n : Nat) (x2 : Int32) (x3 : Int32) (H : Heap) (locs : List Loc) (ls : Array Slot), fn_X10_far_l18 c_t_where c_t_light c_t_apart x1 k n x2 x3 = some (r, z_t_apart) → lv_has ls 4 [(0, .ref A_t), (1, .int x1), (2, .int x2), (3, .int x3)] → wd_ G A s.heap (wl_X10_far G A_t A_t_steps A_t_wet A_t_where A_t_home A_t_light A_t_carries A_t_sightPlace A_t_sightLight A_t_pad A_t_act A_t_whose A_t_whom A_t_tens A_t_had A_t_leaves A_t_apart A_t_stop A_t_restOf A_t_group A_t_along A_t_kept A_t_isKept c_t_foggy c_t_walkers c_t_sights c_t_padMany c_t_acts c_t_spent c_t_walks c_t_badAct c_t_badWhy c_t_keptAt c_t_isWriting c_t_steps c_t_wet c_t_where c_t_light c_t_apart) H locs → W p l e { frames := 4, cells := 0, slots := 0, locals := 91 } s m args below meth c H locs 0 0 Q (F0 m 18 ls []) := by
  have hx := hC.1
  have hb := hC.2.1
  intro n
  induction n with
  | zero =>
    intro x2 x3 H locs ls hf
    cases (show (none : Option (Int32 × (Nat → Int32))) = some _ from hf)
  | succ n hrc =>
    intro x2 x3 H locs ls hf hl hw
    replace hf : fn_X10_far_b18 c_t_where c_t_light c_t_apart x1 (fn_X10_far_l18 c_t_where c_t_light c_t_apart x1 k n) k x2 x3 = some (r, z_t_apart) := hf
    unfold fn_X10_far_b18 at hf
    refine lv_iload_n hx hb dX10_far_18 rfl (lv_at hl 3 rfl) ?_
    refine lv_bipush (v := 12) hx hb dX10_far_19 (by decide) ?_
    refine lv_icmp_ge (tgt := 64) hx hb dX10_far_21 (by decide) (fun hc => ?_) (fun hc => ?_)
    · replace hf := it_t hc hf
      exact hk x2 _ _ _ hf (lv_sub hl [2] rfl) hw
    · replace hf := it_f hc hf
      refine lv_iload_n hx hb dX10_far_24 rfl (lv_at hl 2 rfl) ?_
      refine lv_aload_n hx hb dX10_far_25 rfl (lv_at hl 0 rfl) ?_
      refine g_get hC hw fkX10_55 0 rfl rfl dX10_far_26 ?_
      refine lv_aload_n hx hb dX10_far_29 rfl (lv_at hl 0 rfl) ?_
      refine g_get hC hw fkX10_16 0 rfl rfl dX10_far_30 ?_
      refine lv_iload_n hx hb dX10_far_33 rfl (lv_at hl 1 rfl) ?_
      obtain ⟨hi, hf⟩ := ck_s hf
      refine g_iald hC hw 3 rfl hi dX10_far_34 ?_
      refine lv_iload_n hx hb dX10_far_35 rfl (lv_at hl 3 rfl) ?_
      obtain ⟨r5, hq6, hf⟩ := b1_s hf
      refine h_cSi hC hw msX10_89 (cn_X10_at l G (c_t_where (Int32.toNatClampNeg x1)) x3 r5 hq6) [] rfl (by decide) rfl hl.1 rfl (Nat.le_of_ble_eq_true rfl) ⟨Nat.le_of_ble_eq_true rfl, Nat.le_of_ble_eq_true rfl⟩ ⟨Nat.le_refl _, Nat.le_refl _⟩ dX10_far_36 (fun H locs hw => ?_)
      obtain ⟨hi, hf⟩ := ck_s hf
      refine g_iald hC hw 5 rfl hi dX10_far_39 ?_
      refine lv_aload_n hx hb dX10_far_40 rfl (lv_at hl 0 rfl) ?_
      refine g_get hC hw fkX10_22 0 rfl rfl dX10_far_41 ?_
      refine lv_iload_n hx hb dX10_far_44 rfl (lv_at hl 1 rfl) ?_
      obtain ⟨hi, hf⟩ := ck_s hf
      refine g_iald hC hw 4 rfl hi dX10_far_45 ?_
      refine lv_icmp_gt (tgt := 55) hx hb dX10_far_46 (by decide) (fun hc => ?_) (fun hc => ?_)
      · replace hf := it_t hc hf
        refine lv_iconst (v := 0) hx hb dX10_far_55 (by decide) ?_
        refine lv_ior hx hb dX10_far_56 ?_
        refine lv_istore_n (lv' := [(2, .int (x2 ||| 0)), (0, .ref A_t), (1, .int x1), (3, .int x3)]) hx hb dX10_far_57 rfl hl (by decide) rfl (fun ls hl => ?_)
        refine lv_iinc (v := x3 + 1) (lv' := [(3, .int (x3 + 1)), (2, .int (x2 ||| 0)), (0, .ref A_t), (1, .int x1)]) hx hb dX10_far_58 hl (k := 3) rfl rfl (by decide) rfl (fun ls hl => ?_)
        refine lv_goto (tgt := 18) hx hb dX10_far_61 (by decide) ?_
        exact hrc (x2 ||| 0) (x3 + 1) _ _ _ hf (lv_sub hl [2, 3, 1, 0] rfl) hw
      · replace hf := it_f hc hf
        refine lv_iconst (v := 1) hx hb dX10_far_49 (by decide) ?_
        refine lv_iload_n hx hb dX10_far_50 rfl (lv_at hl 3 rfl) ?_
        refine lv_ishl hx hb dX10_far_51 ?_
        refine lv_goto (tgt := 56) hx hb dX10_far_52 (by decide) ?_
        refine lv_ior hx hb dX10_far_56 ?_
        obtain ⟨y7, ey7, hf⟩ := lx_s hf
        rw [← ey7]
        refine lv_istore_n (lv' := [(2, .int y7), (0, .ref A_t), (1, .int x1), (3, .int x3)]) hx hb dX10_far_57 rfl hl (by decide) rfl (fun ls hl => ?_)
        refine lv_iinc (v := x3 + 1) (lv' := [(3, .int (x3 + 1)), (2, .int y7), (0, .ref A_t), (1, .int x1)]) hx hb dX10_far_58 hl (k := 3) rfl rfl (by decide) rfl (fun ls hl => ?_)
        refine lv_goto (tgt := 18) hx hb dX10_far_61 (by decide) ?_
        exact hrc y7 (x3 + 1) _ _ _ hf (lv_sub hl [2, 3, 1, 0] rfl) hw
set_option maxHeartbeats 4000000 in
set_option maxRecDepth 100000 in
theorem wn_X10_far {p : Program} {l : Launch} {e : Env} {s : State} {m : MethodId} {args : Array Value} {below : List Frame} {meth : Method} {c : Code} {G : gw_} {A : Nat → Prop} {Q : State → Prop} {A_t : Nat} {A_t_steps : Nat} {A_t_wet : Nat} {A_t_where : Nat} {A_t_home : Nat} {A_t_light : Nat} {A_t_carries : Nat} {A_t_sightPlace : Nat} {A_t_sightLight : Nat} {A_t_pad : Nat} {A_t_act : Nat} {A_t_whose : Nat} {A_t_whom : Nat} {A_t_tens : Nat} {A_t_had : Nat} {A_t_leaves : Nat} {A_t_apart : Nat} {A_t_stop : Nat} {A_t_restOf : Nat} {A_t_group : Nat} {A_t_along : Nat} {A_t_kept : Nat} {A_t_isKept : Nat} {c_t_foggy : Int32} {c_t_walkers : Int32} {c_t_sights : Int32} {c_t_padMany : Int32} {c_t_acts : Int32} {c_t_spent : Int32} {c_t_walks : Int32} {c_t_badAct : Int32} {c_t_badWhy : Int32} {c_t_keptAt : Int32} {c_t_isWriting : Int32} {c_t_steps : Nat → Int32} {c_t_wet : Nat → Int32} {c_t_where : Nat → Int32} {c_t_light : Nat → Int32} {c_t_apart : Nat → Int32} {z_t_apart : Nat → Int32} {r : Int32} {x1 : Int32} (hC : cx_ p s m c G cX10_far 4 RX10) (hret : ∀ (pc : Nat) (H : Heap) (locs : List Loc) (ls : Array Slot), decode cX10_far pc = .ok (.ireturn, 1) → wd_ G A s.heap (wl_X10_far G A_t A_t_steps A_t_wet A_t_where A_t_home A_t_light A_t_carries A_t_sightPlace A_t_sightLight A_t_pad A_t_act A_t_whose A_t_whom A_t_tens A_t_had A_t_leaves A_t_apart A_t_stop A_t_restOf A_t_group A_t_along A_t_kept A_t_isKept c_t_foggy c_t_walkers c_t_sights c_t_padMany c_t_acts c_t_spent c_t_walks c_t_badAct c_t_badWhy c_t_keptAt c_t_isWriting c_t_steps c_t_wet c_t_where c_t_light z_t_apart) H locs → W p l e { frames := 4, cells := 0, slots := 0, locals := 91 } s m args below meth c H locs 0 0 Q (F0 m pc ls [.int r])) (hf : fn_X10_far c_t_foggy c_t_walkers c_t_steps c_t_wet c_t_where c_t_light c_t_apart x1 = some (r, z_t_apart)) {H : Heap} {locs : List Loc} {ls : Array Slot} (hl : lv_has ls 4 [(0, .ref A_t), (1, .int x1)]) (hw : wd_ G A s.heap (wl_X10_far G A_t A_t_steps A_t_wet A_t_where A_t_home A_t_light A_t_carries A_t_sightPlace A_t_sightLight A_t_pad A_t_act A_t_whose A_t_whom A_t_tens A_t_had A_t_leaves A_t_apart A_t_stop A_t_restOf A_t_group A_t_along A_t_kept A_t_isKept c_t_foggy c_t_walkers c_t_sights c_t_padMany c_t_acts c_t_spent c_t_walks c_t_badAct c_t_badWhy c_t_keptAt c_t_isWriting c_t_steps c_t_wet c_t_where c_t_light c_t_apart) H locs) : W p l e { frames := 4, cells := 0, slots := 0, locals := 91 } s m args below meth c H locs 0 0 Q (F0 m 0 ls []) := by
  have hx := hC.1
  have hb := hC.2.1
  unfold fn_X10_far at hf
  refine lv_aload_n hx hb dX10_far_0 rfl (lv_at hl 0 rfl) ?_
  refine lv_iload_n hx hb dX10_far_1 rfl (lv_at hl 1 rfl) ?_
  obtain ⟨r1, hq2, hf⟩ := b1_s hf
  refine h_cVi hC hw mvX10_106 (cn_X10_isWalker l G A_t A_t_steps A_t_wet A_t_where A_t_home A_t_light A_t_carries A_t_sightPlace A_t_sightLight A_t_pad A_t_act A_t_whose A_t_whom A_t_tens A_t_had A_t_leaves A_t_apart A_t_stop A_t_restOf A_t_group A_t_along A_t_kept A_t_isKept c_t_foggy c_t_walkers c_t_sights c_t_padMany c_t_acts c_t_spent c_t_walks c_t_badAct c_t_badWhy c_t_keptAt c_t_isWriting x1 r1 hq2) [0] rfl (by decide) 0 rfl rfl rfl hl.1 rfl (Nat.le_of_ble_eq_true rfl) ⟨Nat.le_of_ble_eq_true rfl, Nat.le_of_ble_eq_true rfl⟩ ⟨Nat.le_refl _, Nat.le_refl _⟩ dX10_far_2 (fun H locs hw => ?_)
  refine lv_if_ne (tgt := 10) hx hb dX10_far_5 (by decide) (fun hc => ?_) (fun hc => ?_)
  · replace hf := it_f hc hf
    refine lv_aload_n hx hb dX10_far_10 rfl (lv_at hl 0 rfl) ?_
    obtain ⟨w3, hq4, hf⟩ := b1_s hf
    refine g_cVv hC hw mvX10_219 (cn_X10_findWays l G A_t A_t_steps A_t_wet A_t_where A_t_home A_t_light A_t_carries A_t_sightPlace A_t_sightLight A_t_pad A_t_act A_t_whose A_t_whom A_t_tens A_t_had A_t_leaves A_t_apart A_t_stop A_t_restOf A_t_group A_t_along A_t_kept A_t_isKept c_t_foggy c_t_walkers c_t_sights c_t_padMany c_t_acts c_t_spent c_t_walks c_t_badAct c_t_badWhy c_t_keptAt c_t_isWriting c_t_steps c_t_wet c_t_apart w3 hq4) [0, 1, 2, 5] rfl (by decide) rfl 0 rfl rfl rfl hl.1 rfl (Nat.le_of_ble_eq_true rfl) ⟨Nat.le_of_ble_eq_true rfl, Nat.le_of_ble_eq_true rfl⟩ ⟨Nat.le_refl _, Nat.le_refl _⟩ dX10_far_11 (fun H locs hw => ?_)
    have hw : wd_ G A s.heap (wl_X10_far G A_t A_t_steps A_t_wet A_t_where A_t_home A_t_light A_t_carries A_t_sightPlace A_t_sightLight A_t_pad A_t_act A_t_whose A_t_whom A_t_tens A_t_had A_t_leaves A_t_apart A_t_stop A_t_restOf A_t_group A_t_along A_t_kept A_t_isKept c_t_foggy c_t_walkers c_t_sights c_t_padMany c_t_acts c_t_spent c_t_walks c_t_badAct c_t_badWhy c_t_keptAt c_t_isWriting c_t_steps c_t_wet c_t_where c_t_light w3) H locs := hw
    refine lv_iconst (v := 0) hx hb dX10_far_14 (by decide) ?_
    refine lv_istore_n (lv' := [(2, .int 0), (0, .ref A_t), (1, .int x1)]) hx hb dX10_far_15 rfl hl (by decide) rfl (fun ls hl => ?_)
    refine lv_iconst (v := 0) hx hb dX10_far_16 (by decide) ?_
    refine lv_istore_n (lv' := [(3, .int 0), (2, .int 0), (0, .ref A_t), (1, .int x1)]) hx hb dX10_far_17 rfl hl (by decide) rfl (fun ls hl => ?_)
    refine wn_X10_far_l18 hC hret (fun v8 H locs ls hf hl hw => ?_) fu_ 0 0 _ _ _ hf (lv_sub hl [2, 3, 1, 0] rfl) hw
    refine lv_iload_n hx hb dX10_far_64 rfl (lv_at hl 0 rfl) ?_
    obtain ⟨h1_, h2_⟩ := t2_ hf
    subst h1_
    subst h2_
    exact hret _ _ _ _ dX10_far_65 hw
  · replace hf := it_t hc hf
    refine lv_iconst (v := (-1)) hx hb dX10_far_8 (by decide) ?_
    obtain ⟨h1_, h2_⟩ := t2_ hf
    subst h1_
    subst h2_
    exact hret _ _ _ _ dX10_far_9 hw
set_option maxHeartbeats 4000000 in
set_option maxRecDepth 100000 in
theorem cn_X10_far (l : Launch) (G : gw_) (A_t : Nat) (A_t_steps : Nat) (A_t_wet : Nat) (A_t_where : Nat) (A_t_home : Nat) (A_t_light : Nat) (A_t_carries : Nat) (A_t_sightPlace : Nat) (A_t_sightLight : Nat) (A_t_pad : Nat) (A_t_act : Nat) (A_t_whose : Nat) (A_t_whom : Nat) (A_t_tens : Nat) (A_t_had : Nat) (A_t_leaves : Nat) (A_t_apart : Nat) (A_t_stop : Nat) (A_t_restOf : Nat) (A_t_group : Nat) (A_t_along : Nat) (A_t_kept : Nat) (A_t_isKept : Nat) (c_t_foggy : Int32) (c_t_walkers : Int32) (c_t_sights : Int32) (c_t_padMany : Int32) (c_t_acts : Int32) (c_t_spent : Int32) (c_t_walks : Int32) (c_t_badAct : Int32) (c_t_badWhy : Int32) (c_t_keptAt : Int32) (c_t_isWriting : Int32) (c_t_steps : Nat → Int32) (c_t_wet : Nat → Int32) (c_t_where : Nat → Int32) (c_t_light : Nat → Int32) (c_t_apart : Nat → Int32) (x1 : Int32) (r : Int32) (z_t_apart : Nat → Int32) (hf : fn_X10_far c_t_foggy c_t_walkers c_t_steps c_t_wet c_t_where c_t_light c_t_apart x1 = some (r, z_t_apart)) : ci_ l G yX10_far cX10_far 4 (some .int) 4 91 (wl_X10_far G A_t A_t_steps A_t_wet A_t_where A_t_home A_t_light A_t_carries A_t_sightPlace A_t_sightLight A_t_pad A_t_act A_t_whose A_t_whom A_t_tens A_t_had A_t_leaves A_t_apart A_t_stop A_t_restOf A_t_group A_t_along A_t_kept A_t_isKept c_t_foggy c_t_walkers c_t_sights c_t_padMany c_t_acts c_t_spent c_t_walks c_t_badAct c_t_badWhy c_t_keptAt c_t_isWriting c_t_steps c_t_wet c_t_where c_t_light c_t_apart) [.ref A_t, .int x1] r (wl_X10_far G A_t A_t_steps A_t_wet A_t_where A_t_home A_t_light A_t_carries A_t_sightPlace A_t_sightLight A_t_pad A_t_act A_t_whose A_t_whom A_t_tens A_t_had A_t_leaves A_t_apart A_t_stop A_t_restOf A_t_group A_t_along A_t_kept A_t_isKept c_t_foggy c_t_walkers c_t_sights c_t_padMany c_t_acts c_t_spent c_t_walks c_t_badAct c_t_badWhy c_t_keptAt c_t_isWriting c_t_steps c_t_wet c_t_where c_t_light z_t_apart) := fun sz => met_intro (by decide) (Nat.le_of_ble_eq_true rfl) (fun p e s m args below meth c ls hsz hC hr hlk hnm hl hw => wn_X10_far hC (fun pc H locs ls hd hw => g_iret hC hr hlk hw rfl rfl hd) hf hl hw)

theorem dX10_homeWay_0 : decode cX10_homeWay 0 = .ok (.aload_n 0, 1) := by decide +kernel
theorem dX10_homeWay_1 : decode cX10_homeWay 1 = .ok (.getfield 55, 3) := by decide +kernel
theorem dX10_homeWay_4 : decode cX10_homeWay 4 = .ok (.aload_n 0, 1) := by decide +kernel
theorem dX10_homeWay_5 : decode cX10_homeWay 5 = .ok (.getfield 16, 3) := by decide +kernel
theorem dX10_homeWay_8 : decode cX10_homeWay 8 = .ok (.iload_n 1, 1) := by decide +kernel
theorem dX10_homeWay_9 : decode cX10_homeWay 9 = .ok (.iaload, 1) := by decide +kernel
theorem dX10_homeWay_10 : decode cX10_homeWay 10 = .ok (.aload_n 0, 1) := by decide +kernel
theorem dX10_homeWay_11 : decode cX10_homeWay 11 = .ok (.getfield 19, 3) := by decide +kernel
theorem dX10_homeWay_14 : decode cX10_homeWay 14 = .ok (.iload_n 1, 1) := by decide +kernel
theorem dX10_homeWay_15 : decode cX10_homeWay 15 = .ok (.iaload, 1) := by decide +kernel
theorem dX10_homeWay_16 : decode cX10_homeWay 16 = .ok (.invokestatic 89, 3) := by decide +kernel
theorem dX10_homeWay_19 : decode cX10_homeWay 19 = .ok (.iaload, 1) := by decide +kernel
theorem dX10_homeWay_20 : decode cX10_homeWay 20 = .ok (.ireturn, 1) := by decide +kernel
abbrev wl_X10_homeWay (G : gw_) (A_t : Nat) (A_t_steps : Nat) (A_t_wet : Nat) (A_t_where : Nat) (A_t_home : Nat) (A_t_light : Nat) (A_t_carries : Nat) (A_t_sightPlace : Nat) (A_t_sightLight : Nat) (A_t_pad : Nat) (A_t_act : Nat) (A_t_whose : Nat) (A_t_whom : Nat) (A_t_tens : Nat) (A_t_had : Nat) (A_t_leaves : Nat) (A_t_apart : Nat) (A_t_stop : Nat) (A_t_restOf : Nat) (A_t_group : Nat) (A_t_along : Nat) (A_t_kept : Nat) (A_t_isKept : Nat) (c_t_foggy : Int32) (c_t_walkers : Int32) (c_t_sights : Int32) (c_t_padMany : Int32) (c_t_acts : Int32) (c_t_spent : Int32) (c_t_walks : Int32) (c_t_badAct : Int32) (c_t_badWhy : Int32) (c_t_keptAt : Int32) (c_t_isWriting : Int32) (c_t_where : Nat → Int32) (c_t_home : Nat → Int32) (c_t_apart : Nat → Int32) : va_W := [ob_ A_t 10 [.ref A_t_steps, .ref A_t_wet, .int c_t_foggy, .int c_t_walkers, .ref A_t_where, .ref A_t_home, .ref A_t_light, .ref A_t_carries, .ref A_t_sightPlace, .ref A_t_sightLight, .int c_t_sights, .ref A_t_pad, .int c_t_padMany, .ref A_t_act, .ref A_t_whose, .ref A_t_whom, .ref A_t_tens, .int c_t_acts, .int c_t_spent, .int c_t_walks, .ref A_t_had, .ref A_t_leaves, .int c_t_badAct, .int c_t_badWhy, .ref A_t_apart, .ref A_t_stop, .ref A_t_restOf, .ref A_t_group, .ref A_t_along, .ref A_t_kept, .ref A_t_isKept, .int c_t_keptAt, .int c_t_isWriting], ia_ G A_t_where 6 c_t_where, ia_ G A_t_home 6 c_t_home, ia_ G A_t_apart 144 c_t_apart]
def fn_X10_homeWay (c_t_where : Nat → Int32) (c_t_home : Nat → Int32) (c_t_apart : Nat → Int32) (x1 : Int32) : Option (Int32) :=
  ck_ x1 6 <|
  ck_ x1 6 <|
  b1_ (fn_X10_at (c_t_where (Int32.toNatClampNeg x1)) (c_t_home (Int32.toNatClampNeg x1))) fun r1 =>
  ck_ r1 144 <|
  some (c_t_apart (Int32.toNatClampNeg r1))
set_option maxHeartbeats 4000000 in
set_option maxRecDepth 100000 in
theorem wn_X10_homeWay {p : Program} {l : Launch} {e : Env} {s : State} {m : MethodId} {args : Array Value} {below : List Frame} {meth : Method} {c : Code} {G : gw_} {A : Nat → Prop} {Q : State → Prop} {A_t : Nat} {A_t_steps : Nat} {A_t_wet : Nat} {A_t_where : Nat} {A_t_home : Nat} {A_t_light : Nat} {A_t_carries : Nat} {A_t_sightPlace : Nat} {A_t_sightLight : Nat} {A_t_pad : Nat} {A_t_act : Nat} {A_t_whose : Nat} {A_t_whom : Nat} {A_t_tens : Nat} {A_t_had : Nat} {A_t_leaves : Nat} {A_t_apart : Nat} {A_t_stop : Nat} {A_t_restOf : Nat} {A_t_group : Nat} {A_t_along : Nat} {A_t_kept : Nat} {A_t_isKept : Nat} {c_t_foggy : Int32} {c_t_walkers : Int32} {c_t_sights : Int32} {c_t_padMany : Int32} {c_t_acts : Int32} {c_t_spent : Int32} {c_t_walks : Int32} {c_t_badAct : Int32} {c_t_badWhy : Int32} {c_t_keptAt : Int32} {c_t_isWriting : Int32} {c_t_where : Nat → Int32} {c_t_home : Nat → Int32} {c_t_apart : Nat → Int32} {r : Int32} {x1 : Int32} (hC : cx_ p s m c G cX10_homeWay 2 RX10) (hret : ∀ (pc : Nat) (H : Heap) (locs : List Loc) (ls : Array Slot), decode cX10_homeWay pc = .ok (.ireturn, 1) → wd_ G A s.heap (wl_X10_homeWay G A_t A_t_steps A_t_wet A_t_where A_t_home A_t_light A_t_carries A_t_sightPlace A_t_sightLight A_t_pad A_t_act A_t_whose A_t_whom A_t_tens A_t_had A_t_leaves A_t_apart A_t_stop A_t_restOf A_t_group A_t_along A_t_kept A_t_isKept c_t_foggy c_t_walkers c_t_sights c_t_padMany c_t_acts c_t_spent c_t_walks c_t_badAct c_t_badWhy c_t_keptAt c_t_isWriting c_t_where c_t_home c_t_apart) H locs → W p l e { frames := 1, cells := 0, slots := 0, locals := 21 } s m args below meth c H locs 0 0 Q (F0 m pc ls [.int r])) (hf : fn_X10_homeWay c_t_where c_t_home c_t_apart x1 = some r) {H : Heap} {locs : List Loc} {ls : Array Slot} (hl : lv_has ls 2 [(0, .ref A_t), (1, .int x1)]) (hw : wd_ G A s.heap (wl_X10_homeWay G A_t A_t_steps A_t_wet A_t_where A_t_home A_t_light A_t_carries A_t_sightPlace A_t_sightLight A_t_pad A_t_act A_t_whose A_t_whom A_t_tens A_t_had A_t_leaves A_t_apart A_t_stop A_t_restOf A_t_group A_t_along A_t_kept A_t_isKept c_t_foggy c_t_walkers c_t_sights c_t_padMany c_t_acts c_t_spent c_t_walks c_t_badAct c_t_badWhy c_t_keptAt c_t_isWriting c_t_where c_t_home c_t_apart) H locs) : W p l e { frames := 1, cells := 0, slots := 0, locals := 21 } s m args below meth c H locs 0 0 Q (F0 m 0 ls []) := by
  have hx := hC.1
  have hb := hC.2.1
  unfold fn_X10_homeWay at hf
  refine lv_aload_n hx hb dX10_homeWay_0 rfl (lv_at hl 0 rfl) ?_
  refine g_get hC hw fkX10_55 0 rfl rfl dX10_homeWay_1 ?_
  refine lv_aload_n hx hb dX10_homeWay_4 rfl (lv_at hl 0 rfl) ?_
  refine g_get hC hw fkX10_16 0 rfl rfl dX10_homeWay_5 ?_
  refine lv_iload_n hx hb dX10_homeWay_8 rfl (lv_at hl 1 rfl) ?_
  obtain ⟨hi, hf⟩ := ck_s hf
  refine g_iald hC hw 1 rfl hi dX10_homeWay_9 ?_
  refine lv_aload_n hx hb dX10_homeWay_10 rfl (lv_at hl 0 rfl) ?_
  refine g_get hC hw fkX10_19 0 rfl rfl dX10_homeWay_11 ?_
  refine lv_iload_n hx hb dX10_homeWay_14 rfl (lv_at hl 1 rfl) ?_
  obtain ⟨hi, hf⟩ := ck_s hf
  refine g_iald hC hw 2 rfl hi dX10_homeWay_15 ?_
  obtain ⟨r1, hq2, hf⟩ := b1_s hf
  refine h_cSi hC hw msX10_89 (cn_X10_at l G (c_t_where (Int32.toNatClampNeg x1)) (c_t_home (Int32.toNatClampNeg x1)) r1 hq2) [] rfl (by decide) rfl hl.1 rfl (Nat.le_of_ble_eq_true rfl) ⟨Nat.le_of_ble_eq_true rfl, Nat.le_of_ble_eq_true rfl⟩ ⟨Nat.le_refl _, Nat.le_refl _⟩ dX10_homeWay_16 (fun H locs hw => ?_)
  obtain ⟨hi, hf⟩ := ck_s hf
  refine g_iald hC hw 3 rfl hi dX10_homeWay_19 ?_
  have h1_ := t1_ hf
  subst h1_
  exact hret _ _ _ _ dX10_homeWay_20 hw
set_option maxHeartbeats 4000000 in
set_option maxRecDepth 100000 in
theorem cn_X10_homeWay (l : Launch) (G : gw_) (A_t : Nat) (A_t_steps : Nat) (A_t_wet : Nat) (A_t_where : Nat) (A_t_home : Nat) (A_t_light : Nat) (A_t_carries : Nat) (A_t_sightPlace : Nat) (A_t_sightLight : Nat) (A_t_pad : Nat) (A_t_act : Nat) (A_t_whose : Nat) (A_t_whom : Nat) (A_t_tens : Nat) (A_t_had : Nat) (A_t_leaves : Nat) (A_t_apart : Nat) (A_t_stop : Nat) (A_t_restOf : Nat) (A_t_group : Nat) (A_t_along : Nat) (A_t_kept : Nat) (A_t_isKept : Nat) (c_t_foggy : Int32) (c_t_walkers : Int32) (c_t_sights : Int32) (c_t_padMany : Int32) (c_t_acts : Int32) (c_t_spent : Int32) (c_t_walks : Int32) (c_t_badAct : Int32) (c_t_badWhy : Int32) (c_t_keptAt : Int32) (c_t_isWriting : Int32) (c_t_where : Nat → Int32) (c_t_home : Nat → Int32) (c_t_apart : Nat → Int32) (x1 : Int32) (r : Int32) (hf : fn_X10_homeWay c_t_where c_t_home c_t_apart x1 = some r) : ci_ l G yX10_homeWay cX10_homeWay 2 (some .int) 1 21 (wl_X10_homeWay G A_t A_t_steps A_t_wet A_t_where A_t_home A_t_light A_t_carries A_t_sightPlace A_t_sightLight A_t_pad A_t_act A_t_whose A_t_whom A_t_tens A_t_had A_t_leaves A_t_apart A_t_stop A_t_restOf A_t_group A_t_along A_t_kept A_t_isKept c_t_foggy c_t_walkers c_t_sights c_t_padMany c_t_acts c_t_spent c_t_walks c_t_badAct c_t_badWhy c_t_keptAt c_t_isWriting c_t_where c_t_home c_t_apart) [.ref A_t, .int x1] r (wl_X10_homeWay G A_t A_t_steps A_t_wet A_t_where A_t_home A_t_light A_t_carries A_t_sightPlace A_t_sightLight A_t_pad A_t_act A_t_whose A_t_whom A_t_tens A_t_had A_t_leaves A_t_apart A_t_stop A_t_restOf A_t_group A_t_along A_t_kept A_t_isKept c_t_foggy c_t_walkers c_t_sights c_t_padMany c_t_acts c_t_spent c_t_walks c_t_badAct c_t_badWhy c_t_keptAt c_t_isWriting c_t_where c_t_home c_t_apart) := fun sz => met_intro (by decide) (Nat.le_of_ble_eq_true rfl) (fun p e s m args below meth c ls hsz hC hr hlk hnm hl hw => wn_X10_homeWay hC (fun pc H locs ls hd hw => g_iret hC hr hlk hw rfl rfl hd) hf hl hw)

theorem dX10_left_0 : decode cX10_left 0 = .ok (.aload_n 0, 1) := by decide +kernel
theorem dX10_left_1 : decode cX10_left 1 = .ok (.iload_n 1, 1) := by decide +kernel
theorem dX10_left_2 : decode cX10_left 2 = .ok (.invokevirtual 106, 3) := by decide +kernel
theorem dX10_left_5 : decode cX10_left 5 = .ok (.ifCond .ne 5, 3) := by decide +kernel
theorem dX10_left_8 : decode cX10_left 8 = .ok (.iconst (-1), 1) := by decide +kernel
theorem dX10_left_9 : decode cX10_left 9 = .ok (.ireturn, 1) := by decide +kernel
theorem dX10_left_10 : decode cX10_left 10 = .ok (.aload_n 0, 1) := by decide +kernel
theorem dX10_left_11 : decode cX10_left 11 = .ok (.invokevirtual 219, 3) := by decide +kernel
theorem dX10_left_14 : decode cX10_left 14 = .ok (.aload_n 0, 1) := by decide +kernel
theorem dX10_left_15 : decode cX10_left 15 = .ok (.iload_n 1, 1) := by decide +kernel
theorem dX10_left_16 : decode cX10_left 16 = .ok (.invokevirtual 225, 3) := by decide +kernel
theorem dX10_left_19 : decode cX10_left 19 = .ok (.ldc 214, 2) := by decide +kernel
theorem dX10_left_21 : decode cX10_left 21 = .ok (.if_icmp .lt 8, 3) := by decide +kernel
theorem dX10_left_24 : decode cX10_left 24 = .ok (.bipush (-6), 2) := by decide +kernel
theorem dX10_left_26 : decode cX10_left 26 = .ok (.goto 19, 3) := by decide +kernel
theorem dX10_left_29 : decode cX10_left 29 = .ok (.aload_n 0, 1) := by decide +kernel
theorem dX10_left_30 : decode cX10_left 30 = .ok (.getfield 22, 3) := by decide +kernel
theorem dX10_left_33 : decode cX10_left 33 = .ok (.iload_n 1, 1) := by decide +kernel
theorem dX10_left_34 : decode cX10_left 34 = .ok (.iaload, 1) := by decide +kernel
theorem dX10_left_35 : decode cX10_left 35 = .ok (.aload_n 0, 1) := by decide +kernel
theorem dX10_left_36 : decode cX10_left 36 = .ok (.iload_n 1, 1) := by decide +kernel
theorem dX10_left_37 : decode cX10_left 37 = .ok (.invokevirtual 225, 3) := by decide +kernel
theorem dX10_left_40 : decode cX10_left 40 = .ok (.isub, 1) := by decide +kernel
theorem dX10_left_41 : decode cX10_left 41 = .ok (.sipush 10000, 3) := by decide +kernel
theorem dX10_left_44 : decode cX10_left 44 = .ok (.iadd, 1) := by decide +kernel
theorem dX10_left_45 : decode cX10_left 45 = .ok (.ireturn, 1) := by decide +kernel
abbrev wl_X10_left (G : gw_) (A_t : Nat) (A_t_steps : Nat) (A_t_wet : Nat) (A_t_where : Nat) (A_t_home : Nat) (A_t_light : Nat) (A_t_carries : Nat) (A_t_sightPlace : Nat) (A_t_sightLight : Nat) (A_t_pad : Nat) (A_t_act : Nat) (A_t_whose : Nat) (A_t_whom : Nat) (A_t_tens : Nat) (A_t_had : Nat) (A_t_leaves : Nat) (A_t_apart : Nat) (A_t_stop : Nat) (A_t_restOf : Nat) (A_t_group : Nat) (A_t_along : Nat) (A_t_kept : Nat) (A_t_isKept : Nat) (c_t_foggy : Int32) (c_t_walkers : Int32) (c_t_sights : Int32) (c_t_padMany : Int32) (c_t_acts : Int32) (c_t_spent : Int32) (c_t_walks : Int32) (c_t_badAct : Int32) (c_t_badWhy : Int32) (c_t_keptAt : Int32) (c_t_isWriting : Int32) (c_t_steps : Nat → Int32) (c_t_wet : Nat → Int32) (c_t_where : Nat → Int32) (c_t_home : Nat → Int32) (c_t_light : Nat → Int32) (c_t_apart : Nat → Int32) : va_W := [ob_ A_t 10 [.ref A_t_steps, .ref A_t_wet, .int c_t_foggy, .int c_t_walkers, .ref A_t_where, .ref A_t_home, .ref A_t_light, .ref A_t_carries, .ref A_t_sightPlace, .ref A_t_sightLight, .int c_t_sights, .ref A_t_pad, .int c_t_padMany, .ref A_t_act, .ref A_t_whose, .ref A_t_whom, .ref A_t_tens, .int c_t_acts, .int c_t_spent, .int c_t_walks, .ref A_t_had, .ref A_t_leaves, .int c_t_badAct, .int c_t_badWhy, .ref A_t_apart, .ref A_t_stop, .ref A_t_restOf, .ref A_t_group, .ref A_t_along, .ref A_t_kept, .ref A_t_isKept, .int c_t_keptAt, .int c_t_isWriting], ia_ G A_t_steps 144 c_t_steps, ia_ G A_t_wet 144 c_t_wet, ia_ G A_t_where 6 c_t_where, ia_ G A_t_home 6 c_t_home, ia_ G A_t_light 6 c_t_light, ia_ G A_t_apart 144 c_t_apart]
def fn_X10_left (c_t_foggy : Int32) (c_t_walkers : Int32) (c_t_steps : Nat → Int32) (c_t_wet : Nat → Int32) (c_t_where : Nat → Int32) (c_t_home : Nat → Int32) (c_t_light : Nat → Int32) (c_t_apart : Nat → Int32) (x1 : Int32) : Option (Int32 × (Nat → Int32)) :=
  b1_ (fn_X10_isWalker c_t_walkers x1) fun r1 =>
  if r1 = 0 then
    some ((-1), c_t_apart)
  else
    b1_ (fn_X10_findWays c_t_foggy c_t_steps c_t_wet c_t_apart) fun w3 =>
    b1_ (fn_X10_homeWay c_t_where c_t_home w3 x1) fun r5 =>
    if r5 < 1000000 then
      ck_ x1 6 <|
      b1_ (fn_X10_homeWay c_t_where c_t_home w3 x1) fun r7 =>
      some (((c_t_light (Int32.toNatClampNeg x1)) - r7) + 10000, w3)
    else
      some ((-6), w3)
set_option maxHeartbeats 4000000 in
set_option maxRecDepth 100000 in
theorem wn_X10_left {p : Program} {l : Launch} {e : Env} {s : State} {m : MethodId} {args : Array Value} {below : List Frame} {meth : Method} {c : Code} {G : gw_} {A : Nat → Prop} {Q : State → Prop} {A_t : Nat} {A_t_steps : Nat} {A_t_wet : Nat} {A_t_where : Nat} {A_t_home : Nat} {A_t_light : Nat} {A_t_carries : Nat} {A_t_sightPlace : Nat} {A_t_sightLight : Nat} {A_t_pad : Nat} {A_t_act : Nat} {A_t_whose : Nat} {A_t_whom : Nat} {A_t_tens : Nat} {A_t_had : Nat} {A_t_leaves : Nat} {A_t_apart : Nat} {A_t_stop : Nat} {A_t_restOf : Nat} {A_t_group : Nat} {A_t_along : Nat} {A_t_kept : Nat} {A_t_isKept : Nat} {c_t_foggy : Int32} {c_t_walkers : Int32} {c_t_sights : Int32} {c_t_padMany : Int32} {c_t_acts : Int32} {c_t_spent : Int32} {c_t_walks : Int32} {c_t_badAct : Int32} {c_t_badWhy : Int32} {c_t_keptAt : Int32} {c_t_isWriting : Int32} {c_t_steps : Nat → Int32} {c_t_wet : Nat → Int32} {c_t_where : Nat → Int32} {c_t_home : Nat → Int32} {c_t_light : Nat → Int32} {c_t_apart : Nat → Int32} {z_t_apart : Nat → Int32} {r : Int32} {x1 : Int32} (hC : cx_ p s m c G cX10_left 2 RX10) (hret : ∀ (pc : Nat) (H : Heap) (locs : List Loc) (ls : Array Slot), decode cX10_left pc = .ok (.ireturn, 1) → wd_ G A s.heap (wl_X10_left G A_t A_t_steps A_t_wet A_t_where A_t_home A_t_light A_t_carries A_t_sightPlace A_t_sightLight A_t_pad A_t_act A_t_whose A_t_whom A_t_tens A_t_had A_t_leaves A_t_apart A_t_stop A_t_restOf A_t_group A_t_along A_t_kept A_t_isKept c_t_foggy c_t_walkers c_t_sights c_t_padMany c_t_acts c_t_spent c_t_walks c_t_badAct c_t_badWhy c_t_keptAt c_t_isWriting c_t_steps c_t_wet c_t_where c_t_home c_t_light z_t_apart) H locs → W p l e { frames := 4, cells := 0, slots := 0, locals := 91 } s m args below meth c H locs 0 0 Q (F0 m pc ls [.int r])) (hf : fn_X10_left c_t_foggy c_t_walkers c_t_steps c_t_wet c_t_where c_t_home c_t_light c_t_apart x1 = some (r, z_t_apart)) {H : Heap} {locs : List Loc} {ls : Array Slot} (hl : lv_has ls 2 [(0, .ref A_t), (1, .int x1)]) (hw : wd_ G A s.heap (wl_X10_left G A_t A_t_steps A_t_wet A_t_where A_t_home A_t_light A_t_carries A_t_sightPlace A_t_sightLight A_t_pad A_t_act A_t_whose A_t_whom A_t_tens A_t_had A_t_leaves A_t_apart A_t_stop A_t_restOf A_t_group A_t_along A_t_kept A_t_isKept c_t_foggy c_t_walkers c_t_sights c_t_padMany c_t_acts c_t_spent c_t_walks c_t_badAct c_t_badWhy c_t_keptAt c_t_isWriting c_t_steps c_t_wet c_t_where c_t_home c_t_light c_t_apart) H locs) : W p l e { frames := 4, cells := 0, slots := 0, locals := 91 } s m args below meth c H locs 0 0 Q (F0 m 0 ls []) := by
  have hx := hC.1
  have hb := hC.2.1
  unfold fn_X10_left at hf
  refine lv_aload_n hx hb dX10_left_0 rfl (lv_at hl 0 rfl) ?_
  refine lv_iload_n hx hb dX10_left_1 rfl (lv_at hl 1 rfl) ?_
  obtain ⟨r1, hq2, hf⟩ := b1_s hf
  refine h_cVi hC hw mvX10_106 (cn_X10_isWalker l G A_t A_t_steps A_t_wet A_t_where A_t_home A_t_light A_t_carries A_t_sightPlace A_t_sightLight A_t_pad A_t_act A_t_whose A_t_whom A_t_tens A_t_had A_t_leaves A_t_apart A_t_stop A_t_restOf A_t_group A_t_along A_t_kept A_t_isKept c_t_foggy c_t_walkers c_t_sights c_t_padMany c_t_acts c_t_spent c_t_walks c_t_badAct c_t_badWhy c_t_keptAt c_t_isWriting x1 r1 hq2) [0] rfl (by decide) 0 rfl rfl rfl hl.1 rfl (Nat.le_of_ble_eq_true rfl) ⟨Nat.le_of_ble_eq_true rfl, Nat.le_of_ble_eq_true rfl⟩ ⟨Nat.le_refl _, Nat.le_refl _⟩ dX10_left_2 (fun H locs hw => ?_)
  refine lv_if_ne (tgt := 10) hx hb dX10_left_5 (by decide) (fun hc => ?_) (fun hc => ?_)
  · replace hf := it_f hc hf
    refine lv_aload_n hx hb dX10_left_10 rfl (lv_at hl 0 rfl) ?_
    obtain ⟨w3, hq4, hf⟩ := b1_s hf
    refine g_cVv hC hw mvX10_219 (cn_X10_findWays l G A_t A_t_steps A_t_wet A_t_where A_t_home A_t_light A_t_carries A_t_sightPlace A_t_sightLight A_t_pad A_t_act A_t_whose A_t_whom A_t_tens A_t_had A_t_leaves A_t_apart A_t_stop A_t_restOf A_t_group A_t_along A_t_kept A_t_isKept c_t_foggy c_t_walkers c_t_sights c_t_padMany c_t_acts c_t_spent c_t_walks c_t_badAct c_t_badWhy c_t_keptAt c_t_isWriting c_t_steps c_t_wet c_t_apart w3 hq4) [0, 1, 2, 6] rfl (by decide) rfl 0 rfl rfl rfl hl.1 rfl (Nat.le_of_ble_eq_true rfl) ⟨Nat.le_of_ble_eq_true rfl, Nat.le_of_ble_eq_true rfl⟩ ⟨Nat.le_refl _, Nat.le_refl _⟩ dX10_left_11 (fun H locs hw => ?_)
    have hw : wd_ G A s.heap (wl_X10_left G A_t A_t_steps A_t_wet A_t_where A_t_home A_t_light A_t_carries A_t_sightPlace A_t_sightLight A_t_pad A_t_act A_t_whose A_t_whom A_t_tens A_t_had A_t_leaves A_t_apart A_t_stop A_t_restOf A_t_group A_t_along A_t_kept A_t_isKept c_t_foggy c_t_walkers c_t_sights c_t_padMany c_t_acts c_t_spent c_t_walks c_t_badAct c_t_badWhy c_t_keptAt c_t_isWriting c_t_steps c_t_wet c_t_where c_t_home c_t_light w3) H locs := hw
    refine lv_aload_n hx hb dX10_left_14 rfl (lv_at hl 0 rfl) ?_
    refine lv_iload_n hx hb dX10_left_15 rfl (lv_at hl 1 rfl) ?_
    obtain ⟨r5, hq6, hf⟩ := b1_s hf
    refine h_cVi hC hw mvX10_225 (cn_X10_homeWay l G A_t A_t_steps A_t_wet A_t_where A_t_home A_t_light A_t_carries A_t_sightPlace A_t_sightLight A_t_pad A_t_act A_t_whose A_t_whom A_t_tens A_t_had A_t_leaves A_t_apart A_t_stop A_t_restOf A_t_group A_t_along A_t_kept A_t_isKept c_t_foggy c_t_walkers c_t_sights c_t_padMany c_t_acts c_t_spent c_t_walks c_t_badAct c_t_badWhy c_t_keptAt c_t_isWriting c_t_where c_t_home w3 x1 r5 hq6) [0, 3, 4, 6] rfl (by decide) 0 rfl rfl rfl hl.1 rfl (Nat.le_of_ble_eq_true rfl) ⟨Nat.le_of_ble_eq_true rfl, Nat.le_of_ble_eq_true rfl⟩ ⟨Nat.le_refl _, Nat.le_refl _⟩ dX10_left_16 (fun H locs hw => ?_)
    refine g_ldc (v := 1000000) hC (tb5 17 rfl rfl) dX10_left_19 ?_
    refine lv_icmp_lt (tgt := 29) hx hb dX10_left_21 (by decide) (fun hc => ?_) (fun hc => ?_)
    · replace hf := it_t hc hf
      refine lv_aload_n hx hb dX10_left_29 rfl (lv_at hl 0 rfl) ?_
      refine g_get hC hw fkX10_22 0 rfl rfl dX10_left_30 ?_
      refine lv_iload_n hx hb dX10_left_33 rfl (lv_at hl 1 rfl) ?_
      obtain ⟨hi, hf⟩ := ck_s hf
      refine g_iald hC hw 5 rfl hi dX10_left_34 ?_
      refine lv_aload_n hx hb dX10_left_35 rfl (lv_at hl 0 rfl) ?_
      refine lv_iload_n hx hb dX10_left_36 rfl (lv_at hl 1 rfl) ?_
      obtain ⟨r7, hq8, hf⟩ := b1_s hf
      refine h_cVi hC hw mvX10_225 (cn_X10_homeWay l G A_t A_t_steps A_t_wet A_t_where A_t_home A_t_light A_t_carries A_t_sightPlace A_t_sightLight A_t_pad A_t_act A_t_whose A_t_whom A_t_tens A_t_had A_t_leaves A_t_apart A_t_stop A_t_restOf A_t_group A_t_along A_t_kept A_t_isKept c_t_foggy c_t_walkers c_t_sights c_t_padMany c_t_acts c_t_spent c_t_walks c_t_badAct c_t_badWhy c_t_keptAt c_t_isWriting c_t_where c_t_home w3 x1 r7 hq8) [0, 3, 4, 6] rfl (by decide) 0 rfl rfl rfl hl.1 rfl (Nat.le_of_ble_eq_true rfl) ⟨Nat.le_of_ble_eq_true rfl, Nat.le_of_ble_eq_true rfl⟩ ⟨Nat.le_refl _, Nat.le_refl _⟩ dX10_left_37 (fun H locs hw => ?_)
      refine lv_isub hx hb dX10_left_40 ?_
      refine lv_sipush (v := 10000) hx hb dX10_left_41 (by decide) ?_
      refine lv_iadd hx hb dX10_left_44 ?_
      obtain ⟨h1_, h2_⟩ := t2_ hf
      subst h1_
      subst h2_
      exact hret _ _ _ _ dX10_left_45 hw
    · replace hf := it_f hc hf
      refine lv_bipush (v := (-6)) hx hb dX10_left_24 (by decide) ?_
      refine lv_goto (tgt := 45) hx hb dX10_left_26 (by decide) ?_
      obtain ⟨h1_, h2_⟩ := t2_ hf
      subst h1_
      subst h2_
      exact hret _ _ _ _ dX10_left_45 hw
  · replace hf := it_t hc hf
    refine lv_iconst (v := (-1)) hx hb dX10_left_8 (by decide) ?_
    obtain ⟨h1_, h2_⟩ := t2_ hf
    subst h1_
    subst h2_
    exact hret _ _ _ _ dX10_left_9 hw
set_option maxHeartbeats 4000000 in
set_option maxRecDepth 100000 in
theorem cn_X10_left (l : Launch) (G : gw_) (A_t : Nat) (A_t_steps : Nat) (A_t_wet : Nat) (A_t_where : Nat) (A_t_home : Nat) (A_t_light : Nat) (A_t_carries : Nat) (A_t_sightPlace : Nat) (A_t_sightLight : Nat) (A_t_pad : Nat) (A_t_act : Nat) (A_t_whose : Nat) (A_t_whom : Nat) (A_t_tens : Nat) (A_t_had : Nat) (A_t_leaves : Nat) (A_t_apart : Nat) (A_t_stop : Nat) (A_t_restOf : Nat) (A_t_group : Nat) (A_t_along : Nat) (A_t_kept : Nat) (A_t_isKept : Nat) (c_t_foggy : Int32) (c_t_walkers : Int32) (c_t_sights : Int32) (c_t_padMany : Int32) (c_t_acts : Int32) (c_t_spent : Int32) (c_t_walks : Int32) (c_t_badAct : Int32) (c_t_badWhy : Int32) (c_t_keptAt : Int32) (c_t_isWriting : Int32) (c_t_steps : Nat → Int32) (c_t_wet : Nat → Int32) (c_t_where : Nat → Int32) (c_t_home : Nat → Int32) (c_t_light : Nat → Int32) (c_t_apart : Nat → Int32) (x1 : Int32) (r : Int32) (z_t_apart : Nat → Int32) (hf : fn_X10_left c_t_foggy c_t_walkers c_t_steps c_t_wet c_t_where c_t_home c_t_light c_t_apart x1 = some (r, z_t_apart)) : ci_ l G yX10_left cX10_left 2 (some .int) 4 91 (wl_X10_left G A_t A_t_steps A_t_wet A_t_where A_t_home A_t_light A_t_carries A_t_sightPlace A_t_sightLight A_t_pad A_t_act A_t_whose A_t_whom A_t_tens A_t_had A_t_leaves A_t_apart A_t_stop A_t_restOf A_t_group A_t_along A_t_kept A_t_isKept c_t_foggy c_t_walkers c_t_sights c_t_padMany c_t_acts c_t_spent c_t_walks c_t_badAct c_t_badWhy c_t_keptAt c_t_isWriting c_t_steps c_t_wet c_t_where c_t_home c_t_light c_t_apart) [.ref A_t, .int x1] r (wl_X10_left G A_t A_t_steps A_t_wet A_t_where A_t_home A_t_light A_t_carries A_t_sightPlace A_t_sightLight A_t_pad A_t_act A_t_whose A_t_whom A_t_tens A_t_had A_t_leaves A_t_apart A_t_stop A_t_restOf A_t_group A_t_along A_t_kept A_t_isKept c_t_foggy c_t_walkers c_t_sights c_t_padMany c_t_acts c_t_spent c_t_walks c_t_badAct c_t_badWhy c_t_keptAt c_t_isWriting c_t_steps c_t_wet c_t_where c_t_home c_t_light z_t_apart) := fun sz => met_intro (by decide) (Nat.le_of_ble_eq_true rfl) (fun p e s m args below meth c ls hsz hC hr hlk hnm hl hw => wn_X10_left hC (fun pc H locs ls hd hw => g_iret hC hr hlk hw rfl rfl hd) hf hl hw)
