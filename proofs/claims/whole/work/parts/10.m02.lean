theorem dX0_bestPost_0 : decode cX0_bestPost 0 = .ok (.bipush (-6), 2) := by decide +kernel
theorem dX0_bestPost_2 : decode cX0_bestPost 2 = .ok (.istore_n 3, 1) := by decide +kernel
theorem dX0_bestPost_3 : decode cX0_bestPost 3 = .ok (.ldc 103, 2) := by decide +kernel
theorem dX0_bestPost_5 : decode cX0_bestPost 5 = .ok (.istore 4, 2) := by decide +kernel
theorem dX0_bestPost_7 : decode cX0_bestPost 7 = .ok (.iconst 0, 1) := by decide +kernel
theorem dX0_bestPost_8 : decode cX0_bestPost 8 = .ok (.istore 5, 2) := by decide +kernel
theorem dX0_bestPost_10 : decode cX0_bestPost 10 = .ok (.iload 5, 2) := by decide +kernel
theorem dX0_bestPost_12 : decode cX0_bestPost 12 = .ok (.bipush 12, 2) := by decide +kernel
theorem dX0_bestPost_14 : decode cX0_bestPost 14 = .ok (.if_icmp .ge 33, 3) := by decide +kernel
theorem dX0_bestPost_17 : decode cX0_bestPost 17 = .ok (.aload_n 0, 1) := by decide +kernel
theorem dX0_bestPost_18 : decode cX0_bestPost 18 = .ok (.aload_n 1, 1) := by decide +kernel
theorem dX0_bestPost_19 : decode cX0_bestPost 19 = .ok (.iload 5, 2) := by decide +kernel
theorem dX0_bestPost_21 : decode cX0_bestPost 21 = .ok (.iload_n 2, 1) := by decide +kernel
theorem dX0_bestPost_22 : decode cX0_bestPost 22 = .ok (.invokevirtual 107, 3) := by decide +kernel
theorem dX0_bestPost_25 : decode cX0_bestPost 25 = .ok (.istore 6, 2) := by decide +kernel
theorem dX0_bestPost_27 : decode cX0_bestPost 27 = .ok (.iload 6, 2) := by decide +kernel
theorem dX0_bestPost_29 : decode cX0_bestPost 29 = .ok (.iload 4, 2) := by decide +kernel
theorem dX0_bestPost_31 : decode cX0_bestPost 31 = .ok (.if_icmp .ge 10, 3) := by decide +kernel
theorem dX0_bestPost_34 : decode cX0_bestPost 34 = .ok (.iload 5, 2) := by decide +kernel
theorem dX0_bestPost_36 : decode cX0_bestPost 36 = .ok (.istore_n 3, 1) := by decide +kernel
theorem dX0_bestPost_37 : decode cX0_bestPost 37 = .ok (.iload 6, 2) := by decide +kernel
theorem dX0_bestPost_39 : decode cX0_bestPost 39 = .ok (.istore 4, 2) := by decide +kernel
theorem dX0_bestPost_41 : decode cX0_bestPost 41 = .ok (.iinc 5 1, 3) := by decide +kernel
theorem dX0_bestPost_44 : decode cX0_bestPost 44 = .ok (.goto (-34), 3) := by decide +kernel
theorem dX0_bestPost_47 : decode cX0_bestPost 47 = .ok (.iload_n 3, 1) := by decide +kernel
theorem dX0_bestPost_48 : decode cX0_bestPost 48 = .ok (.ireturn, 1) := by decide +kernel
abbrev wl_X0_bestPost (G : gw_) (A_t : Nat) (A_t_at : Nat) (A_t_home : Nat) (A_t_light : Nat) (A_t_carries : Nat) (A_t_bearer : Nat) (A_q1 : Nat) (A_q1_planks : Nat) (A_q1_least : Nat) (A_q1_neighbours : Nat) (c_t_there : Int32) (c_t_foggy : Int32) (c_t_home : Nat → Int32) (c_q1_least : Nat → Int32) : va_W := [ob_ A_t 0 [.int c_t_there, .int c_t_foggy, .ref A_t_at, .ref A_t_home, .ref A_t_light, .ref A_t_carries, .ref A_t_bearer], ia_ G A_t_home 6 c_t_home, ob_ A_q1 8 [.ref A_q1_planks, .ref A_q1_least, .ref A_q1_neighbours], ia_ G A_q1_least 144 c_q1_least]
def fn_X0_bestPost_b10 (c_t_there : Int32) (c_t_home : Nat → Int32) (c_q1_least : Nat → Int32) (x2 : Int32) (rc : Int32 → Int32 → Int32 → Option (Int32)) (k : Int32 → Option (Int32)) (x3 : Int32) (x4 : Int32) (x5 : Int32) : Option (Int32) :=
  if 12 ≤ x5 then
    k x3
  else
    b1_ (fn_X0_postCosts c_t_there c_t_home c_q1_least x5 x2) fun r1 =>
    if x4 ≤ r1 then
      rc x3 x4 (x5 + 1)
    else
      rc x5 r1 (x5 + 1)
def fn_X0_bestPost_l10 (c_t_there : Int32) (c_t_home : Nat → Int32) (c_q1_least : Nat → Int32) (x2 : Int32) (k : Int32 → Option (Int32)) : Nat → Int32 → Int32 → Int32 → Option (Int32)
  | 0 => fun _ _ _ => none
  | n + 1 => fun x3 x4 x5 => fn_X0_bestPost_b10 c_t_there c_t_home c_q1_least x2 (fn_X0_bestPost_l10 c_t_there c_t_home c_q1_least x2 k n) k x3 x4 x5
def fn_X0_bestPost (c_t_there : Int32) (c_t_home : Nat → Int32) (c_q1_least : Nat → Int32) (x2 : Int32) : Option (Int32) :=
  fn_X0_bestPost_l10 c_t_there c_t_home c_q1_least x2 (fun v3 =>
    some v3) fu_ (-6) 1000000 0
set_option maxHeartbeats 4000000 in
set_option maxRecDepth 100000 in
theorem wn_X0_bestPost_l10 {p : Program} {l : Launch} {e : Env} {s : State} {m : MethodId} {args : Array Value} {below : List Frame} {meth : Method} {c : Code} {G : gw_} {A : Nat → Prop} {Q : State → Prop} {A_t : Nat} {A_t_at : Nat} {A_t_home : Nat} {A_t_light : Nat} {A_t_carries : Nat} {A_t_bearer : Nat} {A_q1 : Nat} {A_q1_planks : Nat} {A_q1_least : Nat} {A_q1_neighbours : Nat} {c_t_there : Int32} {c_t_foggy : Int32} {c_t_home : Nat → Int32} {c_q1_least : Nat → Int32} {r : Int32} {x2 : Int32} {k : Int32 → Option (Int32)} (hC : cx_ p s m c G cX0_bestPost 7 RX0) (hret : ∀ (pc : Nat) (H : Heap) (locs : List Loc) (ls : Array Slot), decode cX0_bestPost pc = .ok (.ireturn, 1) → wd_ G A s.heap (wl_X0_bestPost G A_t A_t_at A_t_home A_t_light A_t_carries A_t_bearer A_q1 A_q1_planks A_q1_least A_q1_neighbours c_t_there c_t_foggy c_t_home c_q1_least) H locs → W p l e { frames := 3, cells := 0, slots := 0, locals := 70 } s m args below meth c H locs 0 0 Q (F0 m pc ls [.int r])) (hk : ∀ (x3 : Int32) (H : Heap) (locs : List Loc) (ls : Array Slot), k x3 = some r → lv_has ls 7 [(3, .int x3)] → wd_ G A s.heap (wl_X0_bestPost G A_t A_t_at A_t_home A_t_light A_t_carries A_t_bearer A_q1 A_q1_planks A_q1_least A_q1_neighbours c_t_there c_t_foggy c_t_home c_q1_least) H locs → W p l e { frames := 3, cells := 0, slots := 0, locals := 70 } s m args below meth c H locs 0 0 Q (F0 m 47 ls [])) : ∀ (n : Nat) (x3 : Int32) (x4 : Int32) (x5 : Int32) (H : Heap) (locs : List Loc) (ls : Array Slot), fn_X0_bestPost_l10 c_t_there c_t_home c_q1_least x2 k n x3 x4 x5 = some r → lv_has ls 7 [(0, .ref A_t), (1, .ref A_q1), (2, .int x2), (3, .int x3), (4, .int x4), (5, .int x5)] → wd_ G A s.heap (wl_X0_bestPost G A_t A_t_at A_t_home A_t_light A_t_carries A_t_bearer A_q1 A_q1_planks A_q1_least A_q1_neighbours c_t_there c_t_foggy c_t_home c_q1_least) H locs → W p l e { frames := 3, cells := 0, slots := 0, locals := 70 } s m args below meth c H locs 0 0 Q (F0 m 10 ls []) := by
  have hx := hC.1
  have hb := hC.2.1
  intro n
  induction n with
  | zero =>
    intro x3 x4 x5 H locs ls hf
    cases (show (none : Option (Int32)) = some _ from hf)
  | succ n hrc =>
    intro x3 x4 x5 H locs ls hf hl hw
    replace hf : fn_X0_bestPost_b10 c_t_there c_t_home c_q1_least x2 (fn_X0_bestPost_l10 c_t_there c_t_home c_q1_least x2 k n) k x3 x4 x5 = some r := hf
    unfold fn_X0_bestPost_b10 at hf
    refine lv_iload hx hb dX0_bestPost_10 (lv_at hl 5 rfl) ?_
    refine lv_bipush (v := 12) hx hb dX0_bestPost_12 (by decide) ?_
    refine lv_icmp_ge (tgt := 47) hx hb dX0_bestPost_14 (by decide) (fun hc => ?_) (fun hc => ?_)
    · replace hf := it_t hc hf
      exact hk x3 _ _ _ hf (lv_sub hl [3] rfl) hw
    · replace hf := it_f hc hf
      refine lv_aload_n hx hb dX0_bestPost_17 rfl (lv_at hl 0 rfl) ?_
      refine lv_aload_n hx hb dX0_bestPost_18 rfl (lv_at hl 1 rfl) ?_
      refine lv_iload hx hb dX0_bestPost_19 (lv_at hl 5 rfl) ?_
      refine lv_iload_n hx hb dX0_bestPost_21 rfl (lv_at hl 2 rfl) ?_
      obtain ⟨r1, hq2, hf⟩ := b1_s hf
      refine h_cVi hC hw mvX0_107 (cn_X0_postCosts l G A_t A_t_at A_t_home A_t_light A_t_carries A_t_bearer A_q1 A_q1_planks A_q1_least A_q1_neighbours c_t_there c_t_foggy c_t_home c_q1_least x5 x2 r1 hq2) [0, 1, 2, 3] rfl (by decide) 0 rfl rfl rfl hl.1 rfl (Nat.le_of_ble_eq_true rfl) ⟨Nat.le_of_ble_eq_true rfl, Nat.le_of_ble_eq_true rfl⟩ ⟨Nat.le_refl _, Nat.le_refl _⟩ dX0_bestPost_22 (fun H locs hw => ?_)
      refine lv_istore (lv' := [(6, .int r1), (0, .ref A_t), (1, .ref A_q1), (2, .int x2), (3, .int x3), (4, .int x4), (5, .int x5)]) hx hb dX0_bestPost_25 hl (by decide) rfl (fun ls hl => ?_)
      refine lv_iload hx hb dX0_bestPost_27 (lv_at hl 0 rfl) ?_
      refine lv_iload hx hb dX0_bestPost_29 (lv_at hl 5 rfl) ?_
      refine lv_icmp_ge (tgt := 41) hx hb dX0_bestPost_31 (by decide) (fun hc => ?_) (fun hc => ?_)
      · replace hf := it_t hc hf
        refine lv_iinc (v := x5 + 1) (lv' := [(5, .int (x5 + 1)), (6, .int r1), (0, .ref A_t), (1, .ref A_q1), (2, .int x2), (3, .int x3), (4, .int x4)]) hx hb dX0_bestPost_41 hl (k := 6) rfl rfl (by decide) rfl (fun ls hl => ?_)
        refine lv_goto (tgt := 10) hx hb dX0_bestPost_44 (by decide) ?_
        exact hrc x3 x4 (x5 + 1) _ _ _ hf (lv_sub hl [2, 3, 4, 5, 6, 0] rfl) hw
      · replace hf := it_f hc hf
        refine lv_iload hx hb dX0_bestPost_34 (lv_at hl 6 rfl) ?_
        refine lv_istore_n (lv' := [(3, .int x5), (6, .int r1), (0, .ref A_t), (1, .ref A_q1), (2, .int x2), (4, .int x4), (5, .int x5)]) hx hb dX0_bestPost_36 rfl hl (by decide) rfl (fun ls hl => ?_)
        refine lv_iload hx hb dX0_bestPost_37 (lv_at hl 1 rfl) ?_
        refine lv_istore (lv' := [(4, .int r1), (3, .int x5), (6, .int r1), (0, .ref A_t), (1, .ref A_q1), (2, .int x2), (5, .int x5)]) hx hb dX0_bestPost_39 hl (by decide) rfl (fun ls hl => ?_)
        refine lv_iinc (v := x5 + 1) (lv' := [(5, .int (x5 + 1)), (4, .int r1), (3, .int x5), (6, .int r1), (0, .ref A_t), (1, .ref A_q1), (2, .int x2)]) hx hb dX0_bestPost_41 hl (k := 6) rfl rfl (by decide) rfl (fun ls hl => ?_)
        refine lv_goto (tgt := 10) hx hb dX0_bestPost_44 (by decide) ?_
        exact hrc x5 r1 (x5 + 1) _ _ _ hf (lv_sub hl [4, 5, 6, 2, 1, 0] rfl) hw
set_option maxHeartbeats 4000000 in
set_option maxRecDepth 100000 in
theorem wn_X0_bestPost {p : Program} {l : Launch} {e : Env} {s : State} {m : MethodId} {args : Array Value} {below : List Frame} {meth : Method} {c : Code} {G : gw_} {A : Nat → Prop} {Q : State → Prop} {A_t : Nat} {A_t_at : Nat} {A_t_home : Nat} {A_t_light : Nat} {A_t_carries : Nat} {A_t_bearer : Nat} {A_q1 : Nat} {A_q1_planks : Nat} {A_q1_least : Nat} {A_q1_neighbours : Nat} {c_t_there : Int32} {c_t_foggy : Int32} {c_t_home : Nat → Int32} {c_q1_least : Nat → Int32} {r : Int32} {x2 : Int32} (hC : cx_ p s m c G cX0_bestPost 7 RX0) (hret : ∀ (pc : Nat) (H : Heap) (locs : List Loc) (ls : Array Slot), decode cX0_bestPost pc = .ok (.ireturn, 1) → wd_ G A s.heap (wl_X0_bestPost G A_t A_t_at A_t_home A_t_light A_t_carries A_t_bearer A_q1 A_q1_planks A_q1_least A_q1_neighbours c_t_there c_t_foggy c_t_home c_q1_least) H locs → W p l e { frames := 3, cells := 0, slots := 0, locals := 70 } s m args below meth c H locs 0 0 Q (F0 m pc ls [.int r])) (hf : fn_X0_bestPost c_t_there c_t_home c_q1_least x2 = some r) {H : Heap} {locs : List Loc} {ls : Array Slot} (hl : lv_has ls 7 [(0, .ref A_t), (1, .ref A_q1), (2, .int x2)]) (hw : wd_ G A s.heap (wl_X0_bestPost G A_t A_t_at A_t_home A_t_light A_t_carries A_t_bearer A_q1 A_q1_planks A_q1_least A_q1_neighbours c_t_there c_t_foggy c_t_home c_q1_least) H locs) : W p l e { frames := 3, cells := 0, slots := 0, locals := 70 } s m args below meth c H locs 0 0 Q (F0 m 0 ls []) := by
  have hx := hC.1
  have hb := hC.2.1
  unfold fn_X0_bestPost at hf
  refine lv_bipush (v := (-6)) hx hb dX0_bestPost_0 (by decide) ?_
  refine lv_istore_n (lv' := [(3, .int (-6)), (0, .ref A_t), (1, .ref A_q1), (2, .int x2)]) hx hb dX0_bestPost_2 rfl hl (by decide) rfl (fun ls hl => ?_)
  refine g_ldc (v := 1000000) hC (tb3 46 rfl rfl) dX0_bestPost_3 ?_
  refine lv_istore (lv' := [(4, .int 1000000), (3, .int (-6)), (0, .ref A_t), (1, .ref A_q1), (2, .int x2)]) hx hb dX0_bestPost_5 hl (by decide) rfl (fun ls hl => ?_)
  refine lv_iconst (v := 0) hx hb dX0_bestPost_7 (by decide) ?_
  refine lv_istore (lv' := [(5, .int 0), (4, .int 1000000), (3, .int (-6)), (0, .ref A_t), (1, .ref A_q1), (2, .int x2)]) hx hb dX0_bestPost_8 hl (by decide) rfl (fun ls hl => ?_)
  refine wn_X0_bestPost_l10 hC hret (fun v3 H locs ls hf hl hw => ?_) fu_ (-6) 1000000 0 _ _ _ hf (lv_sub hl [3, 4, 5, 2, 1, 0] rfl) hw
  refine lv_iload_n hx hb dX0_bestPost_47 rfl (lv_at hl 0 rfl) ?_
  have h1_ := t1_ hf
  subst h1_
  exact hret _ _ _ _ dX0_bestPost_48 hw
set_option maxHeartbeats 4000000 in
set_option maxRecDepth 100000 in
theorem cn_X0_bestPost (l : Launch) (G : gw_) (A_t : Nat) (A_t_at : Nat) (A_t_home : Nat) (A_t_light : Nat) (A_t_carries : Nat) (A_t_bearer : Nat) (A_q1 : Nat) (A_q1_planks : Nat) (A_q1_least : Nat) (A_q1_neighbours : Nat) (c_t_there : Int32) (c_t_foggy : Int32) (c_t_home : Nat → Int32) (c_q1_least : Nat → Int32) (x2 : Int32) (r : Int32) (hf : fn_X0_bestPost c_t_there c_t_home c_q1_least x2 = some r) : ci_ l G yX0_bestPost cX0_bestPost 7 (some .int) 3 70 (wl_X0_bestPost G A_t A_t_at A_t_home A_t_light A_t_carries A_t_bearer A_q1 A_q1_planks A_q1_least A_q1_neighbours c_t_there c_t_foggy c_t_home c_q1_least) [.ref A_t, .ref A_q1, .int x2] r (wl_X0_bestPost G A_t A_t_at A_t_home A_t_light A_t_carries A_t_bearer A_q1 A_q1_planks A_q1_least A_q1_neighbours c_t_there c_t_foggy c_t_home c_q1_least) := fun sz => met_intro (by decide) (Nat.le_of_ble_eq_true rfl) (fun p e s m args below meth c ls hsz hC hr hlk hnm hl hw => wn_X0_bestPost hC (fun pc H locs ls hd hw => g_iret hC hr hlk hw rfl rfl hd) hf hl hw)

theorem dX1_begin_0 : decode cX1_begin 0 = .ok (.aload_n 0, 1) := by decide +kernel
theorem dX1_begin_1 : decode cX1_begin 1 = .ok (.getfield 12, 3) := by decide +kernel
theorem dX1_begin_4 : decode cX1_begin 4 = .ok (.aload_n 1, 1) := by decide +kernel
theorem dX1_begin_5 : decode cX1_begin 5 = .ok (.getfield 34, 3) := by decide +kernel
theorem dX1_begin_8 : decode cX1_begin 8 = .ok (.invokevirtual 37, 3) := by decide +kernel
theorem dX1_begin_11 : decode cX1_begin 11 = .ok (.aload_n 0, 1) := by decide +kernel
theorem dX1_begin_12 : decode cX1_begin 12 = .ok (.iconst 0, 1) := by decide +kernel
theorem dX1_begin_13 : decode cX1_begin 13 = .ok (.putfield 18, 3) := by decide +kernel
theorem dX1_begin_16 : decode cX1_begin 16 = .ok (.aload_n 0, 1) := by decide +kernel
theorem dX1_begin_17 : decode cX1_begin 17 = .ok (.bipush (-6), 2) := by decide +kernel
theorem dX1_begin_19 : decode cX1_begin 19 = .ok (.putfield 22, 3) := by decide +kernel
theorem dX1_begin_22 : decode cX1_begin 22 = .ok (.aload_n 0, 1) := by decide +kernel
theorem dX1_begin_23 : decode cX1_begin 23 = .ok (.bipush (-6), 2) := by decide +kernel
theorem dX1_begin_25 : decode cX1_begin 25 = .ok (.putfield 25, 3) := by decide +kernel
theorem dX1_begin_28 : decode cX1_begin 28 = .ok (.aload_n 0, 1) := by decide +kernel
theorem dX1_begin_29 : decode cX1_begin 29 = .ok (.iconst 0, 1) := by decide +kernel
theorem dX1_begin_30 : decode cX1_begin 30 = .ok (.putfield 28, 3) := by decide +kernel
theorem dX1_begin_33 : decode cX1_begin 33 = .ok (.aload_n 0, 1) := by decide +kernel
theorem dX1_begin_34 : decode cX1_begin 34 = .ok (.iconst 0, 1) := by decide +kernel
theorem dX1_begin_35 : decode cX1_begin 35 = .ok (.putfield 31, 3) := by decide +kernel
theorem dX1_begin_38 : decode cX1_begin 38 = .ok (.return_, 1) := by decide +kernel
abbrev wl_X1_begin (G : gw_) (A_t : Nat) (A_t_crowd : Nat) (A_t_crowd_at : Nat) (A_t_crowd_home : Nat) (A_t_crowd_light : Nat) (A_t_crowd_carries : Nat) (A_t_crowd_bearer : Nat) (A_q1 : Nat) (A_q1_marsh : Nat) (A_q1_crowd : Nat) (A_q1_sights : Nat) (A_q1_crowd_at : Nat) (A_q1_crowd_home : Nat) (A_q1_crowd_light : Nat) (A_q1_crowd_carries : Nat) (A_q1_crowd_bearer : Nat) (c_t_acts : Int32) (c_t_failedAct : Int32) (c_t_reason : Int32) (c_t_costs : Int32) (c_t_walks : Int32) (c_t_crowd_there : Int32) (c_t_crowd_foggy : Int32) (c_t_crowd_at : Nat → Int32) (c_t_crowd_home : Nat → Int32) (c_t_crowd_light : Nat → Int32) (c_t_crowd_carries : Nat → Int32) (c_t_crowd_bearer : Nat → Int32) (c_q1_crowd_there : Int32) (c_q1_crowd_foggy : Int32) (c_q1_crowd_at : Nat → Int32) (c_q1_crowd_home : Nat → Int32) (c_q1_crowd_light : Nat → Int32) (c_q1_crowd_carries : Nat → Int32) (c_q1_crowd_bearer : Nat → Int32) : va_W := [ob_ A_t 1 [.ref A_t_crowd, .int c_t_acts, .int c_t_failedAct, .int c_t_reason, .int c_t_costs, .int c_t_walks], ob_ A_t_crowd 0 [.int c_t_crowd_there, .int c_t_crowd_foggy, .ref A_t_crowd_at, .ref A_t_crowd_home, .ref A_t_crowd_light, .ref A_t_crowd_carries, .ref A_t_crowd_bearer], ia_ G A_t_crowd_at 6 c_t_crowd_at, ia_ G A_t_crowd_home 6 c_t_crowd_home, ia_ G A_t_crowd_light 6 c_t_crowd_light, ia_ G A_t_crowd_carries 6 c_t_crowd_carries, ia_ G A_t_crowd_bearer 6 c_t_crowd_bearer, ob_ A_q1 5 [.ref A_q1_marsh, .ref A_q1_crowd, .ref A_q1_sights], ob_ A_q1_crowd 0 [.int c_q1_crowd_there, .int c_q1_crowd_foggy, .ref A_q1_crowd_at, .ref A_q1_crowd_home, .ref A_q1_crowd_light, .ref A_q1_crowd_carries, .ref A_q1_crowd_bearer], ia_ G A_q1_crowd_at 6 c_q1_crowd_at, ia_ G A_q1_crowd_home 6 c_q1_crowd_home, ia_ G A_q1_crowd_light 6 c_q1_crowd_light, ia_ G A_q1_crowd_carries 6 c_q1_crowd_carries, ia_ G A_q1_crowd_bearer 6 c_q1_crowd_bearer]
def fn_X1_begin (c_t_acts : Int32) (c_t_failedAct : Int32) (c_t_reason : Int32) (c_t_costs : Int32) (c_t_walks : Int32) (c_t_crowd_there : Int32) (c_t_crowd_foggy : Int32) (c_t_crowd_at : Nat → Int32) (c_t_crowd_home : Nat → Int32) (c_t_crowd_light : Nat → Int32) (c_t_crowd_carries : Nat → Int32) (c_t_crowd_bearer : Nat → Int32) (c_q1_crowd_there : Int32) (c_q1_crowd_foggy : Int32) (c_q1_crowd_at : Nat → Int32) (c_q1_crowd_home : Nat → Int32) (c_q1_crowd_light : Nat → Int32) (c_q1_crowd_carries : Nat → Int32) (c_q1_crowd_bearer : Nat → Int32) : Option (Int32 × Int32 × Int32 × Int32 × Int32 × Int32 × Int32 × (Nat → Int32) × (Nat → Int32) × (Nat → Int32) × (Nat → Int32) × (Nat → Int32)) :=
  b7_ (fn_X0_copyFrom c_t_crowd_there c_t_crowd_foggy c_t_crowd_at c_t_crowd_home c_t_crowd_light c_t_crowd_carries c_t_crowd_bearer c_q1_crowd_there c_q1_crowd_foggy c_q1_crowd_at c_q1_crowd_home c_q1_crowd_light c_q1_crowd_carries c_q1_crowd_bearer) fun w1 w2 w3 w4 w5 w6 w7 =>
  some (0, (-6), (-6), 0, 0, w1, w2, w3, w4, w5, w6, w7)
set_option maxHeartbeats 4000000 in
set_option maxRecDepth 100000 in
theorem wn_X1_begin {p : Program} {l : Launch} {e : Env} {s : State} {m : MethodId} {args : Array Value} {below : List Frame} {meth : Method} {c : Code} {G : gw_} {A : Nat → Prop} {Q : State → Prop} {A_t : Nat} {A_t_crowd : Nat} {A_t_crowd_at : Nat} {A_t_crowd_home : Nat} {A_t_crowd_light : Nat} {A_t_crowd_carries : Nat} {A_t_crowd_bearer : Nat} {A_q1 : Nat} {A_q1_marsh : Nat} {A_q1_crowd : Nat} {A_q1_sights : Nat} {A_q1_crowd_at : Nat} {A_q1_crowd_home : Nat} {A_q1_crowd_light : Nat} {A_q1_crowd_carries : Nat} {A_q1_crowd_bearer : Nat} {c_t_acts : Int32} {z_t_acts : Int32} {c_t_failedAct : Int32} {z_t_failedAct : Int32} {c_t_reason : Int32} {z_t_reason : Int32} {c_t_costs : Int32} {z_t_costs : Int32} {c_t_walks : Int32} {z_t_walks : Int32} {c_t_crowd_there : Int32} {z_t_crowd_there : Int32} {c_t_crowd_foggy : Int32} {z_t_crowd_foggy : Int32} {c_t_crowd_at : Nat → Int32} {z_t_crowd_at : Nat → Int32} {c_t_crowd_home : Nat → Int32} {z_t_crowd_home : Nat → Int32} {c_t_crowd_light : Nat → Int32} {z_t_crowd_light : Nat → Int32} {c_t_crowd_carries : Nat → Int32} {z_t_crowd_carries : Nat → Int32} {c_t_crowd_bearer : Nat → Int32} {z_t_crowd_bearer : Nat → Int32} {c_q1_crowd_there : Int32} {c_q1_crowd_foggy : Int32} {c_q1_crowd_at : Nat → Int32} {c_q1_crowd_home : Nat → Int32} {c_q1_crowd_light : Nat → Int32} {c_q1_crowd_carries : Nat → Int32} {c_q1_crowd_bearer : Nat → Int32} (hC : cx_ p s m c G cX1_begin 2 RX1) (hret : ∀ (pc : Nat) (H : Heap) (locs : List Loc) (ls : Array Slot), decode cX1_begin pc = .ok (.return_, 1) → wd_ G A s.heap (wl_X1_begin G A_t A_t_crowd A_t_crowd_at A_t_crowd_home A_t_crowd_light A_t_crowd_carries A_t_crowd_bearer A_q1 A_q1_marsh A_q1_crowd A_q1_sights A_q1_crowd_at A_q1_crowd_home A_q1_crowd_light A_q1_crowd_carries A_q1_crowd_bearer z_t_acts z_t_failedAct z_t_reason z_t_costs z_t_walks z_t_crowd_there z_t_crowd_foggy z_t_crowd_at z_t_crowd_home z_t_crowd_light z_t_crowd_carries z_t_crowd_bearer c_q1_crowd_there c_q1_crowd_foggy c_q1_crowd_at c_q1_crowd_home c_q1_crowd_light c_q1_crowd_carries c_q1_crowd_bearer) H locs → W p l e { frames := 2, cells := 0, slots := 0, locals := 61 } s m args below meth c H locs 0 0 Q (F0 m pc ls [])) (hf : fn_X1_begin c_t_acts c_t_failedAct c_t_reason c_t_costs c_t_walks c_t_crowd_there c_t_crowd_foggy c_t_crowd_at c_t_crowd_home c_t_crowd_light c_t_crowd_carries c_t_crowd_bearer c_q1_crowd_there c_q1_crowd_foggy c_q1_crowd_at c_q1_crowd_home c_q1_crowd_light c_q1_crowd_carries c_q1_crowd_bearer = some (z_t_acts, z_t_failedAct, z_t_reason, z_t_costs, z_t_walks, z_t_crowd_there, z_t_crowd_foggy, z_t_crowd_at, z_t_crowd_home, z_t_crowd_light, z_t_crowd_carries, z_t_crowd_bearer)) {H : Heap} {locs : List Loc} {ls : Array Slot} (hl : lv_has ls 2 [(0, .ref A_t), (1, .ref A_q1)]) (hw : wd_ G A s.heap (wl_X1_begin G A_t A_t_crowd A_t_crowd_at A_t_crowd_home A_t_crowd_light A_t_crowd_carries A_t_crowd_bearer A_q1 A_q1_marsh A_q1_crowd A_q1_sights A_q1_crowd_at A_q1_crowd_home A_q1_crowd_light A_q1_crowd_carries A_q1_crowd_bearer c_t_acts c_t_failedAct c_t_reason c_t_costs c_t_walks c_t_crowd_there c_t_crowd_foggy c_t_crowd_at c_t_crowd_home c_t_crowd_light c_t_crowd_carries c_t_crowd_bearer c_q1_crowd_there c_q1_crowd_foggy c_q1_crowd_at c_q1_crowd_home c_q1_crowd_light c_q1_crowd_carries c_q1_crowd_bearer) H locs) : W p l e { frames := 2, cells := 0, slots := 0, locals := 61 } s m args below meth c H locs 0 0 Q (F0 m 0 ls []) := by
  have hx := hC.1
  have hb := hC.2.1
  unfold fn_X1_begin at hf
  refine lv_aload_n hx hb dX1_begin_0 rfl (lv_at hl 0 rfl) ?_
  refine g_get hC hw fkX1_12 0 rfl rfl dX1_begin_1 ?_
  refine lv_aload_n hx hb dX1_begin_4 rfl (lv_at hl 1 rfl) ?_
  refine g_get hC hw fkX1_34 7 rfl rfl dX1_begin_5 ?_
  obtain ⟨w1, w2, w3, w4, w5, w6, w7, hq8, hf⟩ := b7_s hf
  refine g_cVv hC hw mvX1_37 (cn_X0_copyFrom l G A_t_crowd A_t_crowd_at A_t_crowd_home A_t_crowd_light A_t_crowd_carries A_t_crowd_bearer A_q1_crowd A_q1_crowd_at A_q1_crowd_home A_q1_crowd_light A_q1_crowd_carries A_q1_crowd_bearer c_t_crowd_there c_t_crowd_foggy c_t_crowd_at c_t_crowd_home c_t_crowd_light c_t_crowd_carries c_t_crowd_bearer c_q1_crowd_there c_q1_crowd_foggy c_q1_crowd_at c_q1_crowd_home c_q1_crowd_light c_q1_crowd_carries c_q1_crowd_bearer w1 w2 w3 w4 w5 w6 w7 hq8) [1, 2, 3, 4, 5, 6, 8, 9, 10, 11, 12, 13] rfl (by decide) rfl 1 rfl rfl rfl hl.1 rfl (Nat.le_of_ble_eq_true rfl) ⟨Nat.le_of_ble_eq_true rfl, Nat.le_of_ble_eq_true rfl⟩ ⟨Nat.le_refl _, Nat.le_refl _⟩ dX1_begin_8 (fun H locs hw => ?_)
  have hw : wd_ G A s.heap (wl_X1_begin G A_t A_t_crowd A_t_crowd_at A_t_crowd_home A_t_crowd_light A_t_crowd_carries A_t_crowd_bearer A_q1 A_q1_marsh A_q1_crowd A_q1_sights A_q1_crowd_at A_q1_crowd_home A_q1_crowd_light A_q1_crowd_carries A_q1_crowd_bearer c_t_acts c_t_failedAct c_t_reason c_t_costs c_t_walks w1 w2 w3 w4 w5 w6 w7 c_q1_crowd_there c_q1_crowd_foggy c_q1_crowd_at c_q1_crowd_home c_q1_crowd_light c_q1_crowd_carries c_q1_crowd_bearer) H locs := hw
  refine lv_aload_n hx hb dX1_begin_11 rfl (lv_at hl 0 rfl) ?_
  refine lv_iconst (v := 0) hx hb dX1_begin_12 (by decide) ?_
  refine g_put hC hw fpX1_18 0 rfl rfl rfl (Nat.le_of_ble_eq_true rfl) dX1_begin_13 (fun H locs hw => ?_)
  have hw : wd_ G A s.heap (wl_X1_begin G A_t A_t_crowd A_t_crowd_at A_t_crowd_home A_t_crowd_light A_t_crowd_carries A_t_crowd_bearer A_q1 A_q1_marsh A_q1_crowd A_q1_sights A_q1_crowd_at A_q1_crowd_home A_q1_crowd_light A_q1_crowd_carries A_q1_crowd_bearer 0 c_t_failedAct c_t_reason c_t_costs c_t_walks w1 w2 w3 w4 w5 w6 w7 c_q1_crowd_there c_q1_crowd_foggy c_q1_crowd_at c_q1_crowd_home c_q1_crowd_light c_q1_crowd_carries c_q1_crowd_bearer) H locs := hw
  refine lv_aload_n hx hb dX1_begin_16 rfl (lv_at hl 0 rfl) ?_
  refine lv_bipush (v := (-6)) hx hb dX1_begin_17 (by decide) ?_
  refine g_put hC hw fpX1_22 0 rfl rfl rfl (Nat.le_of_ble_eq_true rfl) dX1_begin_19 (fun H locs hw => ?_)
  have hw : wd_ G A s.heap (wl_X1_begin G A_t A_t_crowd A_t_crowd_at A_t_crowd_home A_t_crowd_light A_t_crowd_carries A_t_crowd_bearer A_q1 A_q1_marsh A_q1_crowd A_q1_sights A_q1_crowd_at A_q1_crowd_home A_q1_crowd_light A_q1_crowd_carries A_q1_crowd_bearer 0 (-6) c_t_reason c_t_costs c_t_walks w1 w2 w3 w4 w5 w6 w7 c_q1_crowd_there c_q1_crowd_foggy c_q1_crowd_at c_q1_crowd_home c_q1_crowd_light c_q1_crowd_carries c_q1_crowd_bearer) H locs := hw
  refine lv_aload_n hx hb dX1_begin_22 rfl (lv_at hl 0 rfl) ?_
  refine lv_bipush (v := (-6)) hx hb dX1_begin_23 (by decide) ?_
  refine g_put hC hw fpX1_25 0 rfl rfl rfl (Nat.le_of_ble_eq_true rfl) dX1_begin_25 (fun H locs hw => ?_)
  have hw : wd_ G A s.heap (wl_X1_begin G A_t A_t_crowd A_t_crowd_at A_t_crowd_home A_t_crowd_light A_t_crowd_carries A_t_crowd_bearer A_q1 A_q1_marsh A_q1_crowd A_q1_sights A_q1_crowd_at A_q1_crowd_home A_q1_crowd_light A_q1_crowd_carries A_q1_crowd_bearer 0 (-6) (-6) c_t_costs c_t_walks w1 w2 w3 w4 w5 w6 w7 c_q1_crowd_there c_q1_crowd_foggy c_q1_crowd_at c_q1_crowd_home c_q1_crowd_light c_q1_crowd_carries c_q1_crowd_bearer) H locs := hw
  refine lv_aload_n hx hb dX1_begin_28 rfl (lv_at hl 0 rfl) ?_
  refine lv_iconst (v := 0) hx hb dX1_begin_29 (by decide) ?_
  refine g_put hC hw fpX1_28 0 rfl rfl rfl (Nat.le_of_ble_eq_true rfl) dX1_begin_30 (fun H locs hw => ?_)
  have hw : wd_ G A s.heap (wl_X1_begin G A_t A_t_crowd A_t_crowd_at A_t_crowd_home A_t_crowd_light A_t_crowd_carries A_t_crowd_bearer A_q1 A_q1_marsh A_q1_crowd A_q1_sights A_q1_crowd_at A_q1_crowd_home A_q1_crowd_light A_q1_crowd_carries A_q1_crowd_bearer 0 (-6) (-6) 0 c_t_walks w1 w2 w3 w4 w5 w6 w7 c_q1_crowd_there c_q1_crowd_foggy c_q1_crowd_at c_q1_crowd_home c_q1_crowd_light c_q1_crowd_carries c_q1_crowd_bearer) H locs := hw
  refine lv_aload_n hx hb dX1_begin_33 rfl (lv_at hl 0 rfl) ?_
  refine lv_iconst (v := 0) hx hb dX1_begin_34 (by decide) ?_
  refine g_put hC hw fpX1_31 0 rfl rfl rfl (Nat.le_of_ble_eq_true rfl) dX1_begin_35 (fun H locs hw => ?_)
  have hw : wd_ G A s.heap (wl_X1_begin G A_t A_t_crowd A_t_crowd_at A_t_crowd_home A_t_crowd_light A_t_crowd_carries A_t_crowd_bearer A_q1 A_q1_marsh A_q1_crowd A_q1_sights A_q1_crowd_at A_q1_crowd_home A_q1_crowd_light A_q1_crowd_carries A_q1_crowd_bearer 0 (-6) (-6) 0 0 w1 w2 w3 w4 w5 w6 w7 c_q1_crowd_there c_q1_crowd_foggy c_q1_crowd_at c_q1_crowd_home c_q1_crowd_light c_q1_crowd_carries c_q1_crowd_bearer) H locs := hw
  obtain ⟨h1_, h2_, h3_, h4_, h5_, h6_, h7_, h8_, h9_, h10_, h11_, h12_⟩ := t12_ hf
  subst h1_
  subst h2_
  subst h3_
  subst h4_
  subst h5_
  subst h6_
  subst h7_
  subst h8_
  subst h9_
  subst h10_
  subst h11_
  subst h12_
  exact hret _ _ _ _ dX1_begin_38 hw
set_option maxHeartbeats 4000000 in
set_option maxRecDepth 100000 in
theorem cn_X1_begin (l : Launch) (G : gw_) (A_t : Nat) (A_t_crowd : Nat) (A_t_crowd_at : Nat) (A_t_crowd_home : Nat) (A_t_crowd_light : Nat) (A_t_crowd_carries : Nat) (A_t_crowd_bearer : Nat) (A_q1 : Nat) (A_q1_marsh : Nat) (A_q1_crowd : Nat) (A_q1_sights : Nat) (A_q1_crowd_at : Nat) (A_q1_crowd_home : Nat) (A_q1_crowd_light : Nat) (A_q1_crowd_carries : Nat) (A_q1_crowd_bearer : Nat) (c_t_acts : Int32) (c_t_failedAct : Int32) (c_t_reason : Int32) (c_t_costs : Int32) (c_t_walks : Int32) (c_t_crowd_there : Int32) (c_t_crowd_foggy : Int32) (c_t_crowd_at : Nat → Int32) (c_t_crowd_home : Nat → Int32) (c_t_crowd_light : Nat → Int32) (c_t_crowd_carries : Nat → Int32) (c_t_crowd_bearer : Nat → Int32) (c_q1_crowd_there : Int32) (c_q1_crowd_foggy : Int32) (c_q1_crowd_at : Nat → Int32) (c_q1_crowd_home : Nat → Int32) (c_q1_crowd_light : Nat → Int32) (c_q1_crowd_carries : Nat → Int32) (c_q1_crowd_bearer : Nat → Int32) (z_t_acts : Int32) (z_t_failedAct : Int32) (z_t_reason : Int32) (z_t_costs : Int32) (z_t_walks : Int32) (z_t_crowd_there : Int32) (z_t_crowd_foggy : Int32) (z_t_crowd_at : Nat → Int32) (z_t_crowd_home : Nat → Int32) (z_t_crowd_light : Nat → Int32) (z_t_crowd_carries : Nat → Int32) (z_t_crowd_bearer : Nat → Int32) (hf : fn_X1_begin c_t_acts c_t_failedAct c_t_reason c_t_costs c_t_walks c_t_crowd_there c_t_crowd_foggy c_t_crowd_at c_t_crowd_home c_t_crowd_light c_t_crowd_carries c_t_crowd_bearer c_q1_crowd_there c_q1_crowd_foggy c_q1_crowd_at c_q1_crowd_home c_q1_crowd_light c_q1_crowd_carries c_q1_crowd_bearer = some (z_t_acts, z_t_failedAct, z_t_reason, z_t_costs, z_t_walks, z_t_crowd_there, z_t_crowd_foggy, z_t_crowd_at, z_t_crowd_home, z_t_crowd_light, z_t_crowd_carries, z_t_crowd_bearer)) : cv_ l G yX1_begin cX1_begin 2 none 2 61 (wl_X1_begin G A_t A_t_crowd A_t_crowd_at A_t_crowd_home A_t_crowd_light A_t_crowd_carries A_t_crowd_bearer A_q1 A_q1_marsh A_q1_crowd A_q1_sights A_q1_crowd_at A_q1_crowd_home A_q1_crowd_light A_q1_crowd_carries A_q1_crowd_bearer c_t_acts c_t_failedAct c_t_reason c_t_costs c_t_walks c_t_crowd_there c_t_crowd_foggy c_t_crowd_at c_t_crowd_home c_t_crowd_light c_t_crowd_carries c_t_crowd_bearer c_q1_crowd_there c_q1_crowd_foggy c_q1_crowd_at c_q1_crowd_home c_q1_crowd_light c_q1_crowd_carries c_q1_crowd_bearer) [.ref A_t, .ref A_q1] (wl_X1_begin G A_t A_t_crowd A_t_crowd_at A_t_crowd_home A_t_crowd_light A_t_crowd_carries A_t_crowd_bearer A_q1 A_q1_marsh A_q1_crowd A_q1_sights A_q1_crowd_at A_q1_crowd_home A_q1_crowd_light A_q1_crowd_carries A_q1_crowd_bearer z_t_acts z_t_failedAct z_t_reason z_t_costs z_t_walks z_t_crowd_there z_t_crowd_foggy z_t_crowd_at z_t_crowd_home z_t_crowd_light z_t_crowd_carries z_t_crowd_bearer c_q1_crowd_there c_q1_crowd_foggy c_q1_crowd_at c_q1_crowd_home c_q1_crowd_light c_q1_crowd_carries c_q1_crowd_bearer) := fun sz => met_intro (by decide) (Nat.le_of_ble_eq_true rfl) (fun p e s m args below meth c ls hsz hC hr hlk hnm hl hw => wn_X1_begin hC (fun pc H locs ls hd hw => g_vret hC hr hlk hw hd) hf hl hw)

theorem dX4_signAt_0 : decode cX4_signAt 0 = .ok (.iload_n 1, 1) := by decide +kernel
theorem dX4_signAt_1 : decode cX4_signAt 1 = .ok (.iconst 0, 1) := by decide +kernel
theorem dX4_signAt_2 : decode cX4_signAt 2 = .ok (.aload_n 0, 1) := by decide +kernel
theorem dX4_signAt_3 : decode cX4_signAt 3 = .ok (.getfield 9, 3) := by decide +kernel
theorem dX4_signAt_6 : decode cX4_signAt 6 = .ok (.iconst 1, 1) := by decide +kernel
theorem dX4_signAt_7 : decode cX4_signAt 7 = .ok (.isub, 1) := by decide +kernel
theorem dX4_signAt_8 : decode cX4_signAt 8 = .ok (.invokestatic 19, 3) := by decide +kernel
theorem dX4_signAt_11 : decode cX4_signAt 11 = .ok (.ifCond .eq 12, 3) := by decide +kernel
theorem dX4_signAt_14 : decode cX4_signAt 14 = .ok (.aload_n 0, 1) := by decide +kernel
theorem dX4_signAt_15 : decode cX4_signAt 15 = .ok (.getfield 15, 3) := by decide +kernel
theorem dX4_signAt_18 : decode cX4_signAt 18 = .ok (.iload_n 1, 1) := by decide +kernel
theorem dX4_signAt_19 : decode cX4_signAt 19 = .ok (.iaload, 1) := by decide +kernel
theorem dX4_signAt_20 : decode cX4_signAt 20 = .ok (.goto 4, 3) := by decide +kernel
theorem dX4_signAt_23 : decode cX4_signAt 23 = .ok (.iconst 0, 1) := by decide +kernel
theorem dX4_signAt_24 : decode cX4_signAt 24 = .ok (.ireturn, 1) := by decide +kernel
abbrev wl_X4_signAt (G : gw_) (A_t : Nat) (A_t_signs : Nat) (c_t_count : Int32) (c_t_signs : Nat → Int32) : va_W := [ob_ A_t 4 [.int c_t_count, .ref A_t_signs], ia_ G A_t_signs 60 c_t_signs]
def fn_X4_signAt (c_t_count : Int32) (c_t_signs : Nat → Int32) (x1 : Int32) : Option (Int32) :=
  b1_ (fn_X9_isWithin x1 0 (c_t_count - 1)) fun r1 =>
  if r1 = 0 then
    some 0
  else
    ck_ x1 60 <|
    some (c_t_signs (Int32.toNatClampNeg x1))
set_option maxHeartbeats 4000000 in
set_option maxRecDepth 100000 in
theorem wn_X4_signAt {p : Program} {l : Launch} {e : Env} {s : State} {m : MethodId} {args : Array Value} {below : List Frame} {meth : Method} {c : Code} {G : gw_} {A : Nat → Prop} {Q : State → Prop} {A_t : Nat} {A_t_signs : Nat} {c_t_count : Int32} {c_t_signs : Nat → Int32} {r : Int32} {x1 : Int32} (hC : cx_ p s m c G cX4_signAt 2 RX4) (hret : ∀ (pc : Nat) (H : Heap) (locs : List Loc) (ls : Array Slot), decode cX4_signAt pc = .ok (.ireturn, 1) → wd_ G A s.heap (wl_X4_signAt G A_t A_t_signs c_t_count c_t_signs) H locs → W p l e { frames := 1, cells := 0, slots := 0, locals := 22 } s m args below meth c H locs 0 0 Q (F0 m pc ls [.int r])) (hf : fn_X4_signAt c_t_count c_t_signs x1 = some r) {H : Heap} {locs : List Loc} {ls : Array Slot} (hl : lv_has ls 2 [(0, .ref A_t), (1, .int x1)]) (hw : wd_ G A s.heap (wl_X4_signAt G A_t A_t_signs c_t_count c_t_signs) H locs) : W p l e { frames := 1, cells := 0, slots := 0, locals := 22 } s m args below meth c H locs 0 0 Q (F0 m 0 ls []) := by
  have hx := hC.1
  have hb := hC.2.1
  unfold fn_X4_signAt at hf
  refine lv_iload_n hx hb dX4_signAt_0 rfl (lv_at hl 1 rfl) ?_
  refine lv_iconst (v := 0) hx hb dX4_signAt_1 (by decide) ?_
  refine lv_aload_n hx hb dX4_signAt_2 rfl (lv_at hl 0 rfl) ?_
  refine g_get hC hw fkX4_9 0 rfl rfl dX4_signAt_3 ?_
  refine lv_iconst (v := 1) hx hb dX4_signAt_6 (by decide) ?_
  refine lv_isub hx hb dX4_signAt_7 ?_
  obtain ⟨r1, hq2, hf⟩ := b1_s hf
  refine h_cSi hC hw msX4_19 (cn_X9_isWithin l G x1 0 (c_t_count - 1) r1 hq2) [] rfl (by decide) rfl hl.1 rfl (Nat.le_of_ble_eq_true rfl) ⟨Nat.le_of_ble_eq_true rfl, Nat.le_of_ble_eq_true rfl⟩ ⟨Nat.le_refl _, Nat.le_refl _⟩ dX4_signAt_8 (fun H locs hw => ?_)
  refine lv_if_eq (tgt := 23) hx hb dX4_signAt_11 (by decide) (fun hc => ?_) (fun hc => ?_)
  · replace hf := it_t hc hf
    refine lv_iconst (v := 0) hx hb dX4_signAt_23 (by decide) ?_
    have h1_ := t1_ hf
    subst h1_
    exact hret _ _ _ _ dX4_signAt_24 hw
  · replace hf := it_f hc hf
    refine lv_aload_n hx hb dX4_signAt_14 rfl (lv_at hl 0 rfl) ?_
    refine g_get hC hw fkX4_15 0 rfl rfl dX4_signAt_15 ?_
    refine lv_iload_n hx hb dX4_signAt_18 rfl (lv_at hl 1 rfl) ?_
    obtain ⟨hi, hf⟩ := ck_s hf
    refine g_iald hC hw 1 rfl hi dX4_signAt_19 ?_
    refine lv_goto (tgt := 24) hx hb dX4_signAt_20 (by decide) ?_
    have h1_ := t1_ hf
    subst h1_
    exact hret _ _ _ _ dX4_signAt_24 hw
set_option maxHeartbeats 4000000 in
set_option maxRecDepth 100000 in
theorem cn_X4_signAt (l : Launch) (G : gw_) (A_t : Nat) (A_t_signs : Nat) (c_t_count : Int32) (c_t_signs : Nat → Int32) (x1 : Int32) (r : Int32) (hf : fn_X4_signAt c_t_count c_t_signs x1 = some r) : ci_ l G yX4_signAt cX4_signAt 2 (some .int) 1 22 (wl_X4_signAt G A_t A_t_signs c_t_count c_t_signs) [.ref A_t, .int x1] r (wl_X4_signAt G A_t A_t_signs c_t_count c_t_signs) := fun sz => met_intro (by decide) (Nat.le_of_ble_eq_true rfl) (fun p e s m args below meth c ls hsz hC hr hlk hnm hl hw => wn_X4_signAt hC (fun pc H locs ls hd hw => g_iret hC hr hlk hw rfl rfl hd) hf hl hw)

theorem dX1_walk_0 : decode cX1_walk 0 = .ok (.aload_n 0, 1) := by decide +kernel
theorem dX1_walk_1 : decode cX1_walk 1 = .ok (.getfield 12, 3) := by decide +kernel
theorem dX1_walk_4 : decode cX1_walk 4 = .ok (.aload_n 1, 1) := by decide +kernel
theorem dX1_walk_5 : decode cX1_walk 5 = .ok (.iload_n 2, 1) := by decide +kernel
theorem dX1_walk_6 : decode cX1_walk 6 = .ok (.iload_n 3, 1) := by decide +kernel
theorem dX1_walk_7 : decode cX1_walk 7 = .ok (.invokevirtual 88, 3) := by decide +kernel
theorem dX1_walk_10 : decode cX1_walk 10 = .ok (.istore 4, 2) := by decide +kernel
theorem dX1_walk_12 : decode cX1_walk 12 = .ok (.iload 4, 2) := by decide +kernel
theorem dX1_walk_14 : decode cX1_walk 14 = .ok (.ifCond .ne 32, 3) := by decide +kernel
theorem dX1_walk_17 : decode cX1_walk 17 = .ok (.aload_n 0, 1) := by decide +kernel
theorem dX1_walk_18 : decode cX1_walk 18 = .ok (.dup, 1) := by decide +kernel
theorem dX1_walk_19 : decode cX1_walk 19 = .ok (.getfield 28, 3) := by decide +kernel
theorem dX1_walk_22 : decode cX1_walk 22 = .ok (.aload_n 0, 1) := by decide +kernel
theorem dX1_walk_23 : decode cX1_walk 23 = .ok (.getfield 12, 3) := by decide +kernel
theorem dX1_walk_26 : decode cX1_walk 26 = .ok (.aload_n 1, 1) := by decide +kernel
theorem dX1_walk_27 : decode cX1_walk 27 = .ok (.iload_n 2, 1) := by decide +kernel
theorem dX1_walk_28 : decode cX1_walk 28 = .ok (.iload_n 3, 1) := by decide +kernel
theorem dX1_walk_29 : decode cX1_walk 29 = .ok (.invokevirtual 91, 3) := by decide +kernel
theorem dX1_walk_32 : decode cX1_walk 32 = .ok (.iadd, 1) := by decide +kernel
theorem dX1_walk_33 : decode cX1_walk 33 = .ok (.putfield 28, 3) := by decide +kernel
theorem dX1_walk_36 : decode cX1_walk 36 = .ok (.aload_n 0, 1) := by decide +kernel
theorem dX1_walk_37 : decode cX1_walk 37 = .ok (.dup, 1) := by decide +kernel
theorem dX1_walk_38 : decode cX1_walk 38 = .ok (.getfield 31, 3) := by decide +kernel
theorem dX1_walk_41 : decode cX1_walk 41 = .ok (.iconst 1, 1) := by decide +kernel
theorem dX1_walk_42 : decode cX1_walk 42 = .ok (.iadd, 1) := by decide +kernel
theorem dX1_walk_43 : decode cX1_walk 43 = .ok (.putfield 31, 3) := by decide +kernel
theorem dX1_walk_46 : decode cX1_walk 46 = .ok (.iload 4, 2) := by decide +kernel
theorem dX1_walk_48 : decode cX1_walk 48 = .ok (.ireturn, 1) := by decide +kernel
abbrev wl_X1_walk (G : gw_) (A_t : Nat) (A_t_crowd : Nat) (A_t_crowd_at : Nat) (A_t_crowd_home : Nat) (A_t_crowd_light : Nat) (A_t_crowd_carries : Nat) (A_t_crowd_bearer : Nat) (A_q1 : Nat) (A_q1_codes : Nat) (c_t_acts : Int32) (c_t_failedAct : Int32) (c_t_reason : Int32) (c_t_costs : Int32) (c_t_walks : Int32) (c_t_crowd_there : Int32) (c_t_crowd_foggy : Int32) (c_t_crowd_at : Nat → Int32) (c_t_crowd_light : Nat → Int32) (c_t_crowd_carries : Nat → Int32) (c_t_crowd_bearer : Nat → Int32) (c_q1_codes : Nat → Int32) : va_W := [ob_ A_t 1 [.ref A_t_crowd, .int c_t_acts, .int c_t_failedAct, .int c_t_reason, .int c_t_costs, .int c_t_walks], ob_ A_t_crowd 0 [.int c_t_crowd_there, .int c_t_crowd_foggy, .ref A_t_crowd_at, .ref A_t_crowd_home, .ref A_t_crowd_light, .ref A_t_crowd_carries, .ref A_t_crowd_bearer], ia_ G A_t_crowd_at 6 c_t_crowd_at, ia_ G A_t_crowd_light 6 c_t_crowd_light, ia_ G A_t_crowd_carries 6 c_t_crowd_carries, ia_ G A_t_crowd_bearer 6 c_t_crowd_bearer, ob_ A_q1 2 [.ref A_q1_codes], ia_ G A_q1_codes 144 c_q1_codes]
def fn_X1_walk (c_t_costs : Int32) (c_t_walks : Int32) (c_t_crowd_there : Int32) (c_t_crowd_foggy : Int32) (c_t_crowd_at : Nat → Int32) (c_t_crowd_light : Nat → Int32) (c_t_crowd_carries : Nat → Int32) (c_t_crowd_bearer : Nat → Int32) (c_q1_codes : Nat → Int32) (x2 : Int32) (x3 : Int32) : Option (Int32 × Int32 × Int32 × (Nat → Int32) × (Nat → Int32)) :=
  b1_ (fn_X0_whyNotWalk c_t_crowd_there c_t_crowd_foggy c_t_crowd_at c_t_crowd_light c_t_crowd_bearer c_q1_codes x2 x3) fun r1 =>
  if r1 = 0 then
    b3_ (fn_X0_stepTo c_t_crowd_foggy c_t_crowd_at c_t_crowd_light c_t_crowd_carries c_q1_codes x2 x3) fun r3 w4 w5 =>
    some (r1, c_t_costs + r3, c_t_walks + 1, w4, w5)
  else
    some (r1, c_t_costs, c_t_walks, c_t_crowd_at, c_t_crowd_light)
set_option maxHeartbeats 4000000 in
set_option maxRecDepth 100000 in
theorem wn_X1_walk {p : Program} {l : Launch} {e : Env} {s : State} {m : MethodId} {args : Array Value} {below : List Frame} {meth : Method} {c : Code} {G : gw_} {A : Nat → Prop} {Q : State → Prop} {A_t : Nat} {A_t_crowd : Nat} {A_t_crowd_at : Nat} {A_t_crowd_home : Nat} {A_t_crowd_light : Nat} {A_t_crowd_carries : Nat} {A_t_crowd_bearer : Nat} {A_q1 : Nat} {A_q1_codes : Nat} {c_t_acts : Int32} {c_t_failedAct : Int32} {c_t_reason : Int32} {c_t_costs : Int32} {z_t_costs : Int32} {c_t_walks : Int32} {z_t_walks : Int32} {c_t_crowd_there : Int32} {c_t_crowd_foggy : Int32} {c_t_crowd_at : Nat → Int32} {z_t_crowd_at : Nat → Int32} {c_t_crowd_light : Nat → Int32} {z_t_crowd_light : Nat → Int32} {c_t_crowd_carries : Nat → Int32} {c_t_crowd_bearer : Nat → Int32} {c_q1_codes : Nat → Int32} {r : Int32} {x2 : Int32} {x3 : Int32} (hC : cx_ p s m c G cX1_walk 5 RX1) (hret : ∀ (pc : Nat) (H : Heap) (locs : List Loc) (ls : Array Slot), decode cX1_walk pc = .ok (.ireturn, 1) → wd_ G A s.heap (wl_X1_walk G A_t A_t_crowd A_t_crowd_at A_t_crowd_home A_t_crowd_light A_t_crowd_carries A_t_crowd_bearer A_q1 A_q1_codes c_t_acts c_t_failedAct c_t_reason z_t_costs z_t_walks c_t_crowd_there c_t_crowd_foggy z_t_crowd_at z_t_crowd_light c_t_crowd_carries c_t_crowd_bearer c_q1_codes) H locs → W p l e { frames := 3, cells := 0, slots := 0, locals := 71 } s m args below meth c H locs 0 0 Q (F0 m pc ls [.int r])) (hf : fn_X1_walk c_t_costs c_t_walks c_t_crowd_there c_t_crowd_foggy c_t_crowd_at c_t_crowd_light c_t_crowd_carries c_t_crowd_bearer c_q1_codes x2 x3 = some (r, z_t_costs, z_t_walks, z_t_crowd_at, z_t_crowd_light)) {H : Heap} {locs : List Loc} {ls : Array Slot} (hl : lv_has ls 5 [(0, .ref A_t), (1, .ref A_q1), (2, .int x2), (3, .int x3)]) (hw : wd_ G A s.heap (wl_X1_walk G A_t A_t_crowd A_t_crowd_at A_t_crowd_home A_t_crowd_light A_t_crowd_carries A_t_crowd_bearer A_q1 A_q1_codes c_t_acts c_t_failedAct c_t_reason c_t_costs c_t_walks c_t_crowd_there c_t_crowd_foggy c_t_crowd_at c_t_crowd_light c_t_crowd_carries c_t_crowd_bearer c_q1_codes) H locs) : W p l e { frames := 3, cells := 0, slots := 0, locals := 71 } s m args below meth c H locs 0 0 Q (F0 m 0 ls []) := by
  have hx := hC.1
  have hb := hC.2.1
  unfold fn_X1_walk at hf
  refine lv_aload_n hx hb dX1_walk_0 rfl (lv_at hl 0 rfl) ?_
  refine g_get hC hw fkX1_12 0 rfl rfl dX1_walk_1 ?_
  refine lv_aload_n hx hb dX1_walk_4 rfl (lv_at hl 1 rfl) ?_
  refine lv_iload_n hx hb dX1_walk_5 rfl (lv_at hl 2 rfl) ?_
  refine lv_iload_n hx hb dX1_walk_6 rfl (lv_at hl 3 rfl) ?_
  obtain ⟨r1, hq2, hf⟩ := b1_s hf
  refine h_cVi hC hw mvX1_88 (cn_X0_whyNotWalk l G A_t_crowd A_t_crowd_at A_t_crowd_home A_t_crowd_light A_t_crowd_carries A_t_crowd_bearer A_q1 A_q1_codes c_t_crowd_there c_t_crowd_foggy c_t_crowd_at c_t_crowd_light c_t_crowd_bearer c_q1_codes x2 x3 r1 hq2) [1, 2, 3, 5, 6, 7] rfl (by decide) 1 rfl rfl rfl hl.1 rfl (Nat.le_of_ble_eq_true rfl) ⟨Nat.le_of_ble_eq_true rfl, Nat.le_of_ble_eq_true rfl⟩ ⟨Nat.le_refl _, Nat.le_refl _⟩ dX1_walk_7 (fun H locs hw => ?_)
  refine lv_istore (lv' := [(4, .int r1), (0, .ref A_t), (1, .ref A_q1), (2, .int x2), (3, .int x3)]) hx hb dX1_walk_10 hl (by decide) rfl (fun ls hl => ?_)
  refine lv_iload hx hb dX1_walk_12 (lv_at hl 0 rfl) ?_
  refine lv_if_ne (tgt := 46) hx hb dX1_walk_14 (by decide) (fun hc => ?_) (fun hc => ?_)
  · replace hf := it_f hc hf
    refine lv_iload hx hb dX1_walk_46 (lv_at hl 0 rfl) ?_
    obtain ⟨h1_, h2_, h3_, h4_, h5_⟩ := t5_ hf
    subst h1_
    subst h2_
    subst h3_
    subst h4_
    subst h5_
    exact hret _ _ _ _ dX1_walk_48 hw
  · replace hf := it_t hc hf
    refine lv_aload_n hx hb dX1_walk_17 rfl (lv_at hl 1 rfl) ?_
    refine lv_dup hx hb dX1_walk_18 rfl ?_
    refine g_get hC hw fkX1_28 0 rfl rfl dX1_walk_19 ?_
    refine lv_aload_n hx hb dX1_walk_22 rfl (lv_at hl 1 rfl) ?_
    refine g_get hC hw fkX1_12 0 rfl rfl dX1_walk_23 ?_
    refine lv_aload_n hx hb dX1_walk_26 rfl (lv_at hl 2 rfl) ?_
    refine lv_iload_n hx hb dX1_walk_27 rfl (lv_at hl 3 rfl) ?_
    refine lv_iload_n hx hb dX1_walk_28 rfl (lv_at hl 4 rfl) ?_
    obtain ⟨r3, w4, w5, hq6, hf⟩ := b3_s hf
    refine g_cVi hC hw mvX1_91 (cn_X0_stepTo l G A_t_crowd A_t_crowd_at A_t_crowd_home A_t_crowd_light A_t_crowd_carries A_t_crowd_bearer A_q1 A_q1_codes c_t_crowd_there c_t_crowd_foggy c_t_crowd_at c_t_crowd_light c_t_crowd_carries c_q1_codes x2 x3 r3 w4 w5 hq6) [1, 2, 3, 4, 6, 7] rfl (by decide) rfl 1 rfl rfl rfl hl.1 rfl (Nat.le_of_ble_eq_true rfl) ⟨Nat.le_of_ble_eq_true rfl, Nat.le_of_ble_eq_true rfl⟩ ⟨Nat.le_refl _, Nat.le_refl _⟩ dX1_walk_29 (fun H locs hw => ?_)
    have hw : wd_ G A s.heap (wl_X1_walk G A_t A_t_crowd A_t_crowd_at A_t_crowd_home A_t_crowd_light A_t_crowd_carries A_t_crowd_bearer A_q1 A_q1_codes c_t_acts c_t_failedAct c_t_reason c_t_costs c_t_walks c_t_crowd_there c_t_crowd_foggy w4 w5 c_t_crowd_carries c_t_crowd_bearer c_q1_codes) H locs := hw
    refine lv_iadd hx hb dX1_walk_32 ?_
    refine g_put hC hw fpX1_28 0 rfl rfl rfl (Nat.le_of_ble_eq_true rfl) dX1_walk_33 (fun H locs hw => ?_)
    have hw : wd_ G A s.heap (wl_X1_walk G A_t A_t_crowd A_t_crowd_at A_t_crowd_home A_t_crowd_light A_t_crowd_carries A_t_crowd_bearer A_q1 A_q1_codes c_t_acts c_t_failedAct c_t_reason (c_t_costs + r3) c_t_walks c_t_crowd_there c_t_crowd_foggy w4 w5 c_t_crowd_carries c_t_crowd_bearer c_q1_codes) H locs := hw
    refine lv_aload_n hx hb dX1_walk_36 rfl (lv_at hl 1 rfl) ?_
    refine lv_dup hx hb dX1_walk_37 rfl ?_
    refine g_get hC hw fkX1_31 0 rfl rfl dX1_walk_38 ?_
    refine lv_iconst (v := 1) hx hb dX1_walk_41 (by decide) ?_
    refine lv_iadd hx hb dX1_walk_42 ?_
    refine g_put hC hw fpX1_31 0 rfl rfl rfl (Nat.le_of_ble_eq_true rfl) dX1_walk_43 (fun H locs hw => ?_)
    have hw : wd_ G A s.heap (wl_X1_walk G A_t A_t_crowd A_t_crowd_at A_t_crowd_home A_t_crowd_light A_t_crowd_carries A_t_crowd_bearer A_q1 A_q1_codes c_t_acts c_t_failedAct c_t_reason (c_t_costs + r3) (c_t_walks + 1) c_t_crowd_there c_t_crowd_foggy w4 w5 c_t_crowd_carries c_t_crowd_bearer c_q1_codes) H locs := hw
    refine lv_iload hx hb dX1_walk_46 (lv_at hl 0 rfl) ?_
    obtain ⟨h1_, h2_, h3_, h4_, h5_⟩ := t5_ hf
    subst h1_
    subst h2_
    subst h3_
    subst h4_
    subst h5_
    exact hret _ _ _ _ dX1_walk_48 hw
set_option maxHeartbeats 4000000 in
set_option maxRecDepth 100000 in
theorem cn_X1_walk (l : Launch) (G : gw_) (A_t : Nat) (A_t_crowd : Nat) (A_t_crowd_at : Nat) (A_t_crowd_home : Nat) (A_t_crowd_light : Nat) (A_t_crowd_carries : Nat) (A_t_crowd_bearer : Nat) (A_q1 : Nat) (A_q1_codes : Nat) (c_t_acts : Int32) (c_t_failedAct : Int32) (c_t_reason : Int32) (c_t_costs : Int32) (c_t_walks : Int32) (c_t_crowd_there : Int32) (c_t_crowd_foggy : Int32) (c_t_crowd_at : Nat → Int32) (c_t_crowd_light : Nat → Int32) (c_t_crowd_carries : Nat → Int32) (c_t_crowd_bearer : Nat → Int32) (c_q1_codes : Nat → Int32) (x2 : Int32) (x3 : Int32) (r : Int32) (z_t_costs : Int32) (z_t_walks : Int32) (z_t_crowd_at : Nat → Int32) (z_t_crowd_light : Nat → Int32) (hf : fn_X1_walk c_t_costs c_t_walks c_t_crowd_there c_t_crowd_foggy c_t_crowd_at c_t_crowd_light c_t_crowd_carries c_t_crowd_bearer c_q1_codes x2 x3 = some (r, z_t_costs, z_t_walks, z_t_crowd_at, z_t_crowd_light)) : ci_ l G yX1_walk cX1_walk 5 (some .int) 3 71 (wl_X1_walk G A_t A_t_crowd A_t_crowd_at A_t_crowd_home A_t_crowd_light A_t_crowd_carries A_t_crowd_bearer A_q1 A_q1_codes c_t_acts c_t_failedAct c_t_reason c_t_costs c_t_walks c_t_crowd_there c_t_crowd_foggy c_t_crowd_at c_t_crowd_light c_t_crowd_carries c_t_crowd_bearer c_q1_codes) [.ref A_t, .ref A_q1, .int x2, .int x3] r (wl_X1_walk G A_t A_t_crowd A_t_crowd_at A_t_crowd_home A_t_crowd_light A_t_crowd_carries A_t_crowd_bearer A_q1 A_q1_codes c_t_acts c_t_failedAct c_t_reason z_t_costs z_t_walks c_t_crowd_there c_t_crowd_foggy z_t_crowd_at z_t_crowd_light c_t_crowd_carries c_t_crowd_bearer c_q1_codes) := fun sz => met_intro (by decide) (Nat.le_of_ble_eq_true rfl) (fun p e s m args below meth c ls hsz hC hr hlk hnm hl hw => wn_X1_walk hC (fun pc H locs ls hd hw => g_iret hC hr hlk hw rfl rfl hd) hf hl hw)

theorem dX1_perform_0 : decode cX1_perform 0 = .ok (.aload_n 2, 1) := by decide +kernel
theorem dX1_perform_1 : decode cX1_perform 1 = .ok (.iload_n 3, 1) := by decide +kernel
theorem dX1_perform_2 : decode cX1_perform 2 = .ok (.invokevirtual 62, 3) := by decide +kernel
theorem dX1_perform_5 : decode cX1_perform 5 = .ok (.istore 4, 2) := by decide +kernel
theorem dX1_perform_7 : decode cX1_perform 7 = .ok (.iload 4, 2) := by decide +kernel
theorem dX1_perform_9 : decode cX1_perform 9 = .ok (.bipush 126, 2) := by decide +kernel
theorem dX1_perform_11 : decode cX1_perform 11 = .ok (.if_icmp .ne 27, 3) := by decide +kernel
theorem dX1_perform_14 : decode cX1_perform 14 = .ok (.aload_n 0, 1) := by decide +kernel
theorem dX1_perform_15 : decode cX1_perform 15 = .ok (.getfield 12, 3) := by decide +kernel
theorem dX1_perform_18 : decode cX1_perform 18 = .ok (.aload_n 0, 1) := by decide +kernel
theorem dX1_perform_19 : decode cX1_perform 19 = .ok (.getfield 12, 3) := by decide +kernel
theorem dX1_perform_22 : decode cX1_perform 22 = .ok (.getfield 65, 3) := by decide +kernel
theorem dX1_perform_25 : decode cX1_perform 25 = .ok (.ifCond .ne 7, 3) := by decide +kernel
theorem dX1_perform_28 : decode cX1_perform 28 = .ok (.iconst 1, 1) := by decide +kernel
theorem dX1_perform_29 : decode cX1_perform 29 = .ok (.goto 4, 3) := by decide +kernel
theorem dX1_perform_32 : decode cX1_perform 32 = .ok (.iconst 0, 1) := by decide +kernel
theorem dX1_perform_33 : decode cX1_perform 33 = .ok (.putfield 65, 3) := by decide +kernel
theorem dX1_perform_36 : decode cX1_perform 36 = .ok (.iconst 0, 1) := by decide +kernel
theorem dX1_perform_37 : decode cX1_perform 37 = .ok (.ireturn, 1) := by decide +kernel
theorem dX1_perform_38 : decode cX1_perform 38 = .ok (.iload 4, 2) := by decide +kernel
theorem dX1_perform_40 : decode cX1_perform 40 = .ok (.bipush 65, 2) := by decide +kernel
theorem dX1_perform_42 : decode cX1_perform 42 = .ok (.isub, 1) := by decide +kernel
theorem dX1_perform_43 : decode cX1_perform 43 = .ok (.istore 5, 2) := by decide +kernel
theorem dX1_perform_45 : decode cX1_perform 45 = .ok (.aload_n 2, 1) := by decide +kernel
theorem dX1_perform_46 : decode cX1_perform 46 = .ok (.iload_n 3, 1) := by decide +kernel
theorem dX1_perform_47 : decode cX1_perform 47 = .ok (.iconst 1, 1) := by decide +kernel
theorem dX1_perform_48 : decode cX1_perform 48 = .ok (.iadd, 1) := by decide +kernel
theorem dX1_perform_49 : decode cX1_perform 49 = .ok (.invokevirtual 62, 3) := by decide +kernel
theorem dX1_perform_52 : decode cX1_perform 52 = .ok (.istore 6, 2) := by decide +kernel
theorem dX1_perform_54 : decode cX1_perform 54 = .ok (.iload 6, 2) := by decide +kernel
theorem dX1_perform_56 : decode cX1_perform 56 = .ok (.bipush 45, 2) := by decide +kernel
theorem dX1_perform_58 : decode cX1_perform 58 = .ok (.if_icmp .ne 13, 3) := by decide +kernel
theorem dX1_perform_61 : decode cX1_perform 61 = .ok (.aload_n 0, 1) := by decide +kernel
theorem dX1_perform_62 : decode cX1_perform 62 = .ok (.getfield 12, 3) := by decide +kernel
theorem dX1_perform_65 : decode cX1_perform 65 = .ok (.iload 5, 2) := by decide +kernel
theorem dX1_perform_67 : decode cX1_perform 67 = .ok (.invokevirtual 69, 3) := by decide +kernel
theorem dX1_perform_70 : decode cX1_perform 70 = .ok (.ireturn, 1) := by decide +kernel
theorem dX1_perform_71 : decode cX1_perform 71 = .ok (.iload 6, 2) := by decide +kernel
theorem dX1_perform_73 : decode cX1_perform 73 = .ok (.bipush 97, 2) := by decide +kernel
theorem dX1_perform_75 : decode cX1_perform 75 = .ok (.bipush 108, 2) := by decide +kernel
theorem dX1_perform_77 : decode cX1_perform 77 = .ok (.invokestatic 72, 3) := by decide +kernel
theorem dX1_perform_80 : decode cX1_perform 80 = .ok (.ifCond .eq 16, 3) := by decide +kernel
theorem dX1_perform_83 : decode cX1_perform 83 = .ok (.aload_n 0, 1) := by decide +kernel
theorem dX1_perform_84 : decode cX1_perform 84 = .ok (.aload_n 1, 1) := by decide +kernel
theorem dX1_perform_85 : decode cX1_perform 85 = .ok (.iload 5, 2) := by decide +kernel
theorem dX1_perform_87 : decode cX1_perform 87 = .ok (.iload 6, 2) := by decide +kernel
theorem dX1_perform_89 : decode cX1_perform 89 = .ok (.bipush 97, 2) := by decide +kernel
theorem dX1_perform_91 : decode cX1_perform 91 = .ok (.isub, 1) := by decide +kernel
theorem dX1_perform_92 : decode cX1_perform 92 = .ok (.invokevirtual 76, 3) := by decide +kernel
theorem dX1_perform_95 : decode cX1_perform 95 = .ok (.ireturn, 1) := by decide +kernel
theorem dX1_perform_96 : decode cX1_perform 96 = .ok (.aload_n 2, 1) := by decide +kernel
theorem dX1_perform_97 : decode cX1_perform 97 = .ok (.iload_n 3, 1) := by decide +kernel
theorem dX1_perform_98 : decode cX1_perform 98 = .ok (.iconst 2, 1) := by decide +kernel
theorem dX1_perform_99 : decode cX1_perform 99 = .ok (.iadd, 1) := by decide +kernel
theorem dX1_perform_100 : decode cX1_perform 100 = .ok (.invokevirtual 62, 3) := by decide +kernel
theorem dX1_perform_103 : decode cX1_perform 103 = .ok (.bipush 65, 2) := by decide +kernel
theorem dX1_perform_105 : decode cX1_perform 105 = .ok (.isub, 1) := by decide +kernel
theorem dX1_perform_106 : decode cX1_perform 106 = .ok (.istore 7, 2) := by decide +kernel
theorem dX1_perform_108 : decode cX1_perform 108 = .ok (.iload 6, 2) := by decide +kernel
theorem dX1_perform_110 : decode cX1_perform 110 = .ok (.bipush 43, 2) := by decide +kernel
theorem dX1_perform_112 : decode cX1_perform 112 = .ok (.if_icmp .ne 15, 3) := by decide +kernel
theorem dX1_perform_115 : decode cX1_perform 115 = .ok (.aload_n 0, 1) := by decide +kernel
theorem dX1_perform_116 : decode cX1_perform 116 = .ok (.getfield 12, 3) := by decide +kernel
theorem dX1_perform_119 : decode cX1_perform 119 = .ok (.iload 5, 2) := by decide +kernel
theorem dX1_perform_121 : decode cX1_perform 121 = .ok (.iload 7, 2) := by decide +kernel
theorem dX1_perform_123 : decode cX1_perform 123 = .ok (.invokevirtual 80, 3) := by decide +kernel
theorem dX1_perform_126 : decode cX1_perform 126 = .ok (.ireturn, 1) := by decide +kernel
theorem dX1_perform_127 : decode cX1_perform 127 = .ok (.aload_n 0, 1) := by decide +kernel
theorem dX1_perform_128 : decode cX1_perform 128 = .ok (.getfield 12, 3) := by decide +kernel
theorem dX1_perform_131 : decode cX1_perform 131 = .ok (.iload 5, 2) := by decide +kernel
theorem dX1_perform_133 : decode cX1_perform 133 = .ok (.iload 7, 2) := by decide +kernel
theorem dX1_perform_135 : decode cX1_perform 135 = .ok (.bipush 10, 2) := by decide +kernel
theorem dX1_perform_137 : decode cX1_perform 137 = .ok (.iload 6, 2) := by decide +kernel
theorem dX1_perform_139 : decode cX1_perform 139 = .ok (.bipush 48, 2) := by decide +kernel
theorem dX1_perform_141 : decode cX1_perform 141 = .ok (.isub, 1) := by decide +kernel
theorem dX1_perform_142 : decode cX1_perform 142 = .ok (.imul, 1) := by decide +kernel
theorem dX1_perform_143 : decode cX1_perform 143 = .ok (.invokevirtual 84, 3) := by decide +kernel
theorem dX1_perform_146 : decode cX1_perform 146 = .ok (.ireturn, 1) := by decide +kernel
abbrev wl_X1_perform (G : gw_) (A_t : Nat) (A_t_crowd : Nat) (A_t_crowd_at : Nat) (A_t_crowd_home : Nat) (A_t_crowd_light : Nat) (A_t_crowd_carries : Nat) (A_t_crowd_bearer : Nat) (A_q1 : Nat) (A_q1_codes : Nat) (A_q2 : Nat) (A_q2_signs : Nat) (c_t_acts : Int32) (c_t_failedAct : Int32) (c_t_reason : Int32) (c_t_costs : Int32) (c_t_walks : Int32) (c_t_crowd_there : Int32) (c_t_crowd_foggy : Int32) (c_t_crowd_at : Nat → Int32) (c_t_crowd_light : Nat → Int32) (c_t_crowd_carries : Nat → Int32) (c_t_crowd_bearer : Nat → Int32) (c_q1_codes : Nat → Int32) (c_q2_count : Int32) (c_q2_signs : Nat → Int32) : va_W := [ob_ A_t 1 [.ref A_t_crowd, .int c_t_acts, .int c_t_failedAct, .int c_t_reason, .int c_t_costs, .int c_t_walks], ob_ A_t_crowd 0 [.int c_t_crowd_there, .int c_t_crowd_foggy, .ref A_t_crowd_at, .ref A_t_crowd_home, .ref A_t_crowd_light, .ref A_t_crowd_carries, .ref A_t_crowd_bearer], ia_ G A_t_crowd_at 6 c_t_crowd_at, ia_ G A_t_crowd_light 6 c_t_crowd_light, ia_ G A_t_crowd_carries 6 c_t_crowd_carries, ia_ G A_t_crowd_bearer 6 c_t_crowd_bearer, ob_ A_q1 2 [.ref A_q1_codes], ia_ G A_q1_codes 144 c_q1_codes, ob_ A_q2 4 [.int c_q2_count, .ref A_q2_signs], ia_ G A_q2_signs 60 c_q2_signs]
def fn_X1_perform (c_t_costs : Int32) (c_t_walks : Int32) (c_t_crowd_there : Int32) (c_t_crowd_foggy : Int32) (c_t_crowd_at : Nat → Int32) (c_t_crowd_light : Nat → Int32) (c_t_crowd_carries : Nat → Int32) (c_t_crowd_bearer : Nat → Int32) (c_q1_codes : Nat → Int32) (c_q2_count : Int32) (c_q2_signs : Nat → Int32) (x3 : Int32) : Option (Int32 × Int32 × Int32 × Int32 × (Nat → Int32) × (Nat → Int32) × (Nat → Int32) × (Nat → Int32)) :=
  b1_ (fn_X4_signAt c_q2_count c_q2_signs x3) fun r1 =>
  if r1 = 126 then
    if c_t_crowd_foggy = 0 then
      some (0, c_t_costs, c_t_walks, 1, c_t_crowd_at, c_t_crowd_light, c_t_crowd_carries, c_t_crowd_bearer)
    else
      some (0, c_t_costs, c_t_walks, 0, c_t_crowd_at, c_t_crowd_light, c_t_crowd_carries, c_t_crowd_bearer)
  else
    b1_ (fn_X4_signAt c_q2_count c_q2_signs (x3 + 1)) fun r3 =>
    if r3 = 45 then
      b3_ (fn_X0_setDown c_t_crowd_there c_t_crowd_carries c_t_crowd_bearer (r1 - 65)) fun r22 w23 w24 =>
      some (r22, c_t_costs, c_t_walks, c_t_crowd_foggy, c_t_crowd_at, c_t_crowd_light, w23, w24)
    else
      b1_ (fn_X9_isWithin r3 97 108) fun r5 =>
      if r5 = 0 then
        b1_ (fn_X4_signAt c_q2_count c_q2_signs (x3 + 2)) fun r7 =>
        if r3 = 43 then
          b3_ (fn_X0_takeUp c_t_crowd_there c_t_crowd_at c_t_crowd_carries c_t_crowd_bearer (r1 - 65) (r7 - 65)) fun r12 w13 w14 =>
          some (r12, c_t_costs, c_t_walks, c_t_crowd_foggy, c_t_crowd_at, c_t_crowd_light, w13, w14)
        else
          b2_ (fn_X0_give c_t_crowd_there c_t_crowd_at c_t_crowd_light c_t_crowd_bearer (r1 - 65) (r7 - 65) (10 * (r3 - 48))) fun r9 w10 =>
          some (r9, c_t_costs, c_t_walks, c_t_crowd_foggy, c_t_crowd_at, w10, c_t_crowd_carries, c_t_crowd_bearer)
      else
        b5_ (fn_X1_walk c_t_costs c_t_walks c_t_crowd_there c_t_crowd_foggy c_t_crowd_at c_t_crowd_light c_t_crowd_carries c_t_crowd_bearer c_q1_codes (r1 - 65) (r3 - 97)) fun r16 w17 w18 w19 w20 =>
        some (r16, w17, w18, c_t_crowd_foggy, w19, w20, c_t_crowd_carries, c_t_crowd_bearer)
set_option maxHeartbeats 4000000 in
set_option maxRecDepth 100000 in
theorem wn_X1_perform {p : Program} {l : Launch} {e : Env} {s : State} {m : MethodId} {args : Array Value} {below : List Frame} {meth : Method} {c : Code} {G : gw_} {A : Nat → Prop} {Q : State → Prop} {A_t : Nat} {A_t_crowd : Nat} {A_t_crowd_at : Nat} {A_t_crowd_home : Nat} {A_t_crowd_light : Nat} {A_t_crowd_carries : Nat} {A_t_crowd_bearer : Nat} {A_q1 : Nat} {A_q1_codes : Nat} {A_q2 : Nat} {A_q2_signs : Nat} {c_t_acts : Int32} {c_t_failedAct : Int32} {c_t_reason : Int32} {c_t_costs : Int32} {z_t_costs : Int32} {c_t_walks : Int32} {z_t_walks : Int32} {c_t_crowd_there : Int32} {c_t_crowd_foggy : Int32} {z_t_crowd_foggy : Int32} {c_t_crowd_at : Nat → Int32} {z_t_crowd_at : Nat → Int32} {c_t_crowd_light : Nat → Int32} {z_t_crowd_light : Nat → Int32} {c_t_crowd_carries : Nat → Int32} {z_t_crowd_carries : Nat → Int32} {c_t_crowd_bearer : Nat → Int32} {z_t_crowd_bearer : Nat → Int32} {c_q1_codes : Nat → Int32} {c_q2_count : Int32} {c_q2_signs : Nat → Int32} {r : Int32} {x3 : Int32} (hC : cx_ p s m c G cX1_perform 8 RX1) (hret : ∀ (pc : Nat) (H : Heap) (locs : List Loc) (ls : Array Slot), decode cX1_perform pc = .ok (.ireturn, 1) → wd_ G A s.heap (wl_X1_perform G A_t A_t_crowd A_t_crowd_at A_t_crowd_home A_t_crowd_light A_t_crowd_carries A_t_crowd_bearer A_q1 A_q1_codes A_q2 A_q2_signs c_t_acts c_t_failedAct c_t_reason z_t_costs z_t_walks c_t_crowd_there z_t_crowd_foggy z_t_crowd_at z_t_crowd_light z_t_crowd_carries z_t_crowd_bearer c_q1_codes c_q2_count c_q2_signs) H locs → W p l e { frames := 4, cells := 0, slots := 0, locals := 95 } s m args below meth c H locs 0 0 Q (F0 m pc ls [.int r])) (hf : fn_X1_perform c_t_costs c_t_walks c_t_crowd_there c_t_crowd_foggy c_t_crowd_at c_t_crowd_light c_t_crowd_carries c_t_crowd_bearer c_q1_codes c_q2_count c_q2_signs x3 = some (r, z_t_costs, z_t_walks, z_t_crowd_foggy, z_t_crowd_at, z_t_crowd_light, z_t_crowd_carries, z_t_crowd_bearer)) {H : Heap} {locs : List Loc} {ls : Array Slot} (hl : lv_has ls 8 [(0, .ref A_t), (1, .ref A_q1), (2, .ref A_q2), (3, .int x3)]) (hw : wd_ G A s.heap (wl_X1_perform G A_t A_t_crowd A_t_crowd_at A_t_crowd_home A_t_crowd_light A_t_crowd_carries A_t_crowd_bearer A_q1 A_q1_codes A_q2 A_q2_signs c_t_acts c_t_failedAct c_t_reason c_t_costs c_t_walks c_t_crowd_there c_t_crowd_foggy c_t_crowd_at c_t_crowd_light c_t_crowd_carries c_t_crowd_bearer c_q1_codes c_q2_count c_q2_signs) H locs) : W p l e { frames := 4, cells := 0, slots := 0, locals := 95 } s m args below meth c H locs 0 0 Q (F0 m 0 ls []) := by
  have hx := hC.1
  have hb := hC.2.1
  unfold fn_X1_perform at hf
  refine lv_aload_n hx hb dX1_perform_0 rfl (lv_at hl 2 rfl) ?_
  refine lv_iload_n hx hb dX1_perform_1 rfl (lv_at hl 3 rfl) ?_
  obtain ⟨r1, hq2, hf⟩ := b1_s hf
  refine h_cVi hC hw mvX1_62 (cn_X4_signAt l G A_q2 A_q2_signs c_q2_count c_q2_signs x3 r1 hq2) [8, 9] rfl (by decide) 8 rfl rfl rfl hl.1 rfl (Nat.le_of_ble_eq_true rfl) ⟨Nat.le_of_ble_eq_true rfl, Nat.le_of_ble_eq_true rfl⟩ ⟨Nat.le_refl _, Nat.le_refl _⟩ dX1_perform_2 (fun H locs hw => ?_)
  refine lv_istore (lv' := [(4, .int r1), (0, .ref A_t), (1, .ref A_q1), (2, .ref A_q2), (3, .int x3)]) hx hb dX1_perform_5 hl (by decide) rfl (fun ls hl => ?_)
  refine lv_iload hx hb dX1_perform_7 (lv_at hl 0 rfl) ?_
  refine lv_bipush (v := 126) hx hb dX1_perform_9 (by decide) ?_
  refine lv_icmp_ne (tgt := 38) hx hb dX1_perform_11 (by decide) (fun hc => ?_) (fun hc => ?_)
  · replace hf := it_f hc hf
    refine lv_iload hx hb dX1_perform_38 (lv_at hl 0 rfl) ?_
    refine lv_bipush (v := 65) hx hb dX1_perform_40 (by decide) ?_
    refine lv_isub hx hb dX1_perform_42 ?_
    refine lv_istore (lv' := [(5, .int (r1 - 65)), (4, .int r1), (0, .ref A_t), (1, .ref A_q1), (2, .ref A_q2), (3, .int x3)]) hx hb dX1_perform_43 hl (by decide) rfl (fun ls hl => ?_)
    refine lv_aload_n hx hb dX1_perform_45 rfl (lv_at hl 4 rfl) ?_
    refine lv_iload_n hx hb dX1_perform_46 rfl (lv_at hl 5 rfl) ?_
    refine lv_iconst (v := 1) hx hb dX1_perform_47 (by decide) ?_
    refine lv_iadd hx hb dX1_perform_48 ?_
    obtain ⟨r3, hq4, hf⟩ := b1_s hf
    refine h_cVi hC hw mvX1_62 (cn_X4_signAt l G A_q2 A_q2_signs c_q2_count c_q2_signs (x3 + 1) r3 hq4) [8, 9] rfl (by decide) 8 rfl rfl rfl hl.1 rfl (Nat.le_of_ble_eq_true rfl) ⟨Nat.le_of_ble_eq_true rfl, Nat.le_of_ble_eq_true rfl⟩ ⟨Nat.le_refl _, Nat.le_refl _⟩ dX1_perform_49 (fun H locs hw => ?_)
    refine lv_istore (lv' := [(6, .int r3), (5, .int (r1 - 65)), (4, .int r1), (0, .ref A_t), (1, .ref A_q1), (2, .ref A_q2), (3, .int x3)]) hx hb dX1_perform_52 hl (by decide) rfl (fun ls hl => ?_)
    refine lv_iload hx hb dX1_perform_54 (lv_at hl 0 rfl) ?_
    refine lv_bipush (v := 45) hx hb dX1_perform_56 (by decide) ?_
    refine lv_icmp_ne (tgt := 71) hx hb dX1_perform_58 (by decide) (fun hc => ?_) (fun hc => ?_)
    · replace hf := it_f hc hf
      refine lv_iload hx hb dX1_perform_71 (lv_at hl 0 rfl) ?_
      refine lv_bipush (v := 97) hx hb dX1_perform_73 (by decide) ?_
      refine lv_bipush (v := 108) hx hb dX1_perform_75 (by decide) ?_
      obtain ⟨r5, hq6, hf⟩ := b1_s hf
      refine h_cSi hC hw msX1_72 (cn_X9_isWithin l G r3 97 108 r5 hq6) [] rfl (by decide) rfl hl.1 rfl (Nat.le_of_ble_eq_true rfl) ⟨Nat.le_of_ble_eq_true rfl, Nat.le_of_ble_eq_true rfl⟩ ⟨Nat.le_refl _, Nat.le_refl _⟩ dX1_perform_77 (fun H locs hw => ?_)
      refine lv_if_eq (tgt := 96) hx hb dX1_perform_80 (by decide) (fun hc => ?_) (fun hc => ?_)
      · replace hf := it_t hc hf
        refine lv_aload_n hx hb dX1_perform_96 rfl (lv_at hl 5 rfl) ?_
        refine lv_iload_n hx hb dX1_perform_97 rfl (lv_at hl 6 rfl) ?_
        refine lv_iconst (v := 2) hx hb dX1_perform_98 (by decide) ?_
        refine lv_iadd hx hb dX1_perform_99 ?_
        obtain ⟨r7, hq8, hf⟩ := b1_s hf
        refine h_cVi hC hw mvX1_62 (cn_X4_signAt l G A_q2 A_q2_signs c_q2_count c_q2_signs (x3 + 2) r7 hq8) [8, 9] rfl (by decide) 8 rfl rfl rfl hl.1 rfl (Nat.le_of_ble_eq_true rfl) ⟨Nat.le_of_ble_eq_true rfl, Nat.le_of_ble_eq_true rfl⟩ ⟨Nat.le_refl _, Nat.le_refl _⟩ dX1_perform_100 (fun H locs hw => ?_)
        refine lv_bipush (v := 65) hx hb dX1_perform_103 (by decide) ?_
        refine lv_isub hx hb dX1_perform_105 ?_
        refine lv_istore (lv' := [(7, .int (r7 - 65)), (6, .int r3), (5, .int (r1 - 65)), (4, .int r1), (0, .ref A_t), (1, .ref A_q1), (2, .ref A_q2), (3, .int x3)]) hx hb dX1_perform_106 hl (by decide) rfl (fun ls hl => ?_)
        refine lv_iload hx hb dX1_perform_108 (lv_at hl 1 rfl) ?_
        refine lv_bipush (v := 43) hx hb dX1_perform_110 (by decide) ?_
        refine lv_icmp_ne (tgt := 127) hx hb dX1_perform_112 (by decide) (fun hc => ?_) (fun hc => ?_)
        · replace hf := it_f hc hf
          refine lv_aload_n hx hb dX1_perform_127 rfl (lv_at hl 4 rfl) ?_
          refine g_get hC hw fkX1_12 0 rfl rfl dX1_perform_128 ?_
          refine lv_iload hx hb dX1_perform_131 (lv_at hl 2 rfl) ?_
          refine lv_iload hx hb dX1_perform_133 (lv_at hl 0 rfl) ?_
          refine lv_bipush (v := 10) hx hb dX1_perform_135 (by decide) ?_
          refine lv_iload hx hb dX1_perform_137 (lv_at hl 1 rfl) ?_
          refine lv_bipush (v := 48) hx hb dX1_perform_139 (by decide) ?_
          refine lv_isub hx hb dX1_perform_141 ?_
          refine lv_imul hx hb dX1_perform_142 ?_
          obtain ⟨r9, w10, hq11, hf⟩ := b2_s hf
          refine g_cVi hC hw mvX1_84 (cn_X0_give l G A_t_crowd A_t_crowd_at A_t_crowd_home A_t_crowd_light A_t_crowd_carries A_t_crowd_bearer c_t_crowd_there c_t_crowd_foggy c_t_crowd_at c_t_crowd_light c_t_crowd_bearer (r1 - 65) (r7 - 65) (10 * (r3 - 48)) r9 w10 hq11) [1, 2, 3, 5] rfl (by decide) rfl 1 rfl rfl rfl hl.1 rfl (Nat.le_of_ble_eq_true rfl) ⟨Nat.le_of_ble_eq_true rfl, Nat.le_of_ble_eq_true rfl⟩ ⟨Nat.le_refl _, Nat.le_refl _⟩ dX1_perform_143 (fun H locs hw => ?_)
          have hw : wd_ G A s.heap (wl_X1_perform G A_t A_t_crowd A_t_crowd_at A_t_crowd_home A_t_crowd_light A_t_crowd_carries A_t_crowd_bearer A_q1 A_q1_codes A_q2 A_q2_signs c_t_acts c_t_failedAct c_t_reason c_t_costs c_t_walks c_t_crowd_there c_t_crowd_foggy c_t_crowd_at w10 c_t_crowd_carries c_t_crowd_bearer c_q1_codes c_q2_count c_q2_signs) H locs := hw
          obtain ⟨h1_, h2_, h3_, h4_, h5_, h6_, h7_, h8_⟩ := t8_ hf
          subst h1_
          subst h2_
          subst h3_
          subst h4_
          subst h5_
          subst h6_
          subst h7_
          subst h8_
          exact hret _ _ _ _ dX1_perform_146 hw
        · replace hf := it_t hc hf
          refine lv_aload_n hx hb dX1_perform_115 rfl (lv_at hl 4 rfl) ?_
          refine g_get hC hw fkX1_12 0 rfl rfl dX1_perform_116 ?_
          refine lv_iload hx hb dX1_perform_119 (lv_at hl 2 rfl) ?_
          refine lv_iload hx hb dX1_perform_121 (lv_at hl 0 rfl) ?_
          obtain ⟨r12, w13, w14, hq15, hf⟩ := b3_s hf
          refine g_cVi hC hw mvX1_80 (cn_X0_takeUp l G A_t_crowd A_t_crowd_at A_t_crowd_home A_t_crowd_light A_t_crowd_carries A_t_crowd_bearer c_t_crowd_there c_t_crowd_foggy c_t_crowd_at c_t_crowd_carries c_t_crowd_bearer (r1 - 65) (r7 - 65) r12 w13 w14 hq15) [1, 2, 4, 5] rfl (by decide) rfl 1 rfl rfl rfl hl.1 rfl (Nat.le_of_ble_eq_true rfl) ⟨Nat.le_of_ble_eq_true rfl, Nat.le_of_ble_eq_true rfl⟩ ⟨Nat.le_refl _, Nat.le_refl _⟩ dX1_perform_123 (fun H locs hw => ?_)
          have hw : wd_ G A s.heap (wl_X1_perform G A_t A_t_crowd A_t_crowd_at A_t_crowd_home A_t_crowd_light A_t_crowd_carries A_t_crowd_bearer A_q1 A_q1_codes A_q2 A_q2_signs c_t_acts c_t_failedAct c_t_reason c_t_costs c_t_walks c_t_crowd_there c_t_crowd_foggy c_t_crowd_at c_t_crowd_light w13 w14 c_q1_codes c_q2_count c_q2_signs) H locs := hw
          obtain ⟨h1_, h2_, h3_, h4_, h5_, h6_, h7_, h8_⟩ := t8_ hf
          subst h1_
          subst h2_
          subst h3_
          subst h4_
          subst h5_
          subst h6_
          subst h7_
          subst h8_
          exact hret _ _ _ _ dX1_perform_126 hw
      · replace hf := it_f hc hf
        refine lv_aload_n hx hb dX1_perform_83 rfl (lv_at hl 3 rfl) ?_
        refine lv_aload_n hx hb dX1_perform_84 rfl (lv_at hl 4 rfl) ?_
        refine lv_iload hx hb dX1_perform_85 (lv_at hl 1 rfl) ?_
        refine lv_iload hx hb dX1_perform_87 (lv_at hl 0 rfl) ?_
        refine lv_bipush (v := 97) hx hb dX1_perform_89 (by decide) ?_
        refine lv_isub hx hb dX1_perform_91 ?_
        obtain ⟨r16, w17, w18, w19, w20, hq21, hf⟩ := b5_s hf
        refine g_cVi hC hw mvX1_76 (cn_X1_walk l G A_t A_t_crowd A_t_crowd_at A_t_crowd_home A_t_crowd_light A_t_crowd_carries A_t_crowd_bearer A_q1 A_q1_codes c_t_acts c_t_failedAct c_t_reason c_t_costs c_t_walks c_t_crowd_there c_t_crowd_foggy c_t_crowd_at c_t_crowd_light c_t_crowd_carries c_t_crowd_bearer c_q1_codes (r1 - 65) (r3 - 97) r16 w17 w18 w19 w20 hq21) [0, 1, 2, 3, 4, 5, 6, 7] rfl (by decide) rfl 0 rfl rfl rfl hl.1 rfl (Nat.le_of_ble_eq_true rfl) ⟨Nat.le_of_ble_eq_true rfl, Nat.le_of_ble_eq_true rfl⟩ ⟨Nat.le_refl _, Nat.le_refl _⟩ dX1_perform_92 (fun H locs hw => ?_)
        have hw : wd_ G A s.heap (wl_X1_perform G A_t A_t_crowd A_t_crowd_at A_t_crowd_home A_t_crowd_light A_t_crowd_carries A_t_crowd_bearer A_q1 A_q1_codes A_q2 A_q2_signs c_t_acts c_t_failedAct c_t_reason w17 w18 c_t_crowd_there c_t_crowd_foggy w19 w20 c_t_crowd_carries c_t_crowd_bearer c_q1_codes c_q2_count c_q2_signs) H locs := hw
        obtain ⟨h1_, h2_, h3_, h4_, h5_, h6_, h7_, h8_⟩ := t8_ hf
        subst h1_
        subst h2_
        subst h3_
        subst h4_
        subst h5_
        subst h6_
        subst h7_
        subst h8_
        exact hret _ _ _ _ dX1_perform_95 hw
    · replace hf := it_t hc hf
      refine lv_aload_n hx hb dX1_perform_61 rfl (lv_at hl 3 rfl) ?_
      refine g_get hC hw fkX1_12 0 rfl rfl dX1_perform_62 ?_
      refine lv_iload hx hb dX1_perform_65 (lv_at hl 1 rfl) ?_
      obtain ⟨r22, w23, w24, hq25, hf⟩ := b3_s hf
      refine g_cVi hC hw mvX1_69 (cn_X0_setDown l G A_t_crowd A_t_crowd_at A_t_crowd_home A_t_crowd_light A_t_crowd_carries A_t_crowd_bearer c_t_crowd_there c_t_crowd_foggy c_t_crowd_carries c_t_crowd_bearer (r1 - 65) r22 w23 w24 hq25) [1, 4, 5] rfl (by decide) rfl 1 rfl rfl rfl hl.1 rfl (Nat.le_of_ble_eq_true rfl) ⟨Nat.le_of_ble_eq_true rfl, Nat.le_of_ble_eq_true rfl⟩ ⟨Nat.le_refl _, Nat.le_refl _⟩ dX1_perform_67 (fun H locs hw => ?_)
      have hw : wd_ G A s.heap (wl_X1_perform G A_t A_t_crowd A_t_crowd_at A_t_crowd_home A_t_crowd_light A_t_crowd_carries A_t_crowd_bearer A_q1 A_q1_codes A_q2 A_q2_signs c_t_acts c_t_failedAct c_t_reason c_t_costs c_t_walks c_t_crowd_there c_t_crowd_foggy c_t_crowd_at c_t_crowd_light w23 w24 c_q1_codes c_q2_count c_q2_signs) H locs := hw
      obtain ⟨h1_, h2_, h3_, h4_, h5_, h6_, h7_, h8_⟩ := t8_ hf
      subst h1_
      subst h2_
      subst h3_
      subst h4_
      subst h5_
      subst h6_
      subst h7_
      subst h8_
      exact hret _ _ _ _ dX1_perform_70 hw
  · replace hf := it_t hc hf
    refine lv_aload_n hx hb dX1_perform_14 rfl (lv_at hl 1 rfl) ?_
    refine g_get hC hw fkX1_12 0 rfl rfl dX1_perform_15 ?_
    refine lv_aload_n hx hb dX1_perform_18 rfl (lv_at hl 1 rfl) ?_
    refine g_get hC hw fkX1_12 0 rfl rfl dX1_perform_19 ?_
    refine g_get hC hw fkX1_65 1 rfl rfl dX1_perform_22 ?_
    refine lv_if_ne (tgt := 32) hx hb dX1_perform_25 (by decide) (fun hc => ?_) (fun hc => ?_)
    · replace hf := it_f hc hf
      refine lv_iconst (v := 0) hx hb dX1_perform_32 (by decide) ?_
      refine g_put hC hw fpX1_65 1 rfl rfl rfl (Nat.le_of_ble_eq_true rfl) dX1_perform_33 (fun H locs hw => ?_)
      have hw : wd_ G A s.heap (wl_X1_perform G A_t A_t_crowd A_t_crowd_at A_t_crowd_home A_t_crowd_light A_t_crowd_carries A_t_crowd_bearer A_q1 A_q1_codes A_q2 A_q2_signs c_t_acts c_t_failedAct c_t_reason c_t_costs c_t_walks c_t_crowd_there 0 c_t_crowd_at c_t_crowd_light c_t_crowd_carries c_t_crowd_bearer c_q1_codes c_q2_count c_q2_signs) H locs := hw
      refine lv_iconst (v := 0) hx hb dX1_perform_36 (by decide) ?_
      obtain ⟨h1_, h2_, h3_, h4_, h5_, h6_, h7_, h8_⟩ := t8_ hf
      subst h1_
      subst h2_
      subst h3_
      subst h4_
      subst h5_
      subst h6_
      subst h7_
      subst h8_
      exact hret _ _ _ _ dX1_perform_37 hw
    · replace hf := it_t hc hf
      refine lv_iconst (v := 1) hx hb dX1_perform_28 (by decide) ?_
      refine lv_goto (tgt := 33) hx hb dX1_perform_29 (by decide) ?_
      refine g_put hC hw fpX1_65 1 rfl rfl rfl (Nat.le_of_ble_eq_true rfl) dX1_perform_33 (fun H locs hw => ?_)
      have hw : wd_ G A s.heap (wl_X1_perform G A_t A_t_crowd A_t_crowd_at A_t_crowd_home A_t_crowd_light A_t_crowd_carries A_t_crowd_bearer A_q1 A_q1_codes A_q2 A_q2_signs c_t_acts c_t_failedAct c_t_reason c_t_costs c_t_walks c_t_crowd_there 1 c_t_crowd_at c_t_crowd_light c_t_crowd_carries c_t_crowd_bearer c_q1_codes c_q2_count c_q2_signs) H locs := hw
      refine lv_iconst (v := 0) hx hb dX1_perform_36 (by decide) ?_
      obtain ⟨h1_, h2_, h3_, h4_, h5_, h6_, h7_, h8_⟩ := t8_ hf
      subst h1_
      subst h2_
      subst h3_
      subst h4_
      subst h5_
      subst h6_
      subst h7_
      subst h8_
      exact hret _ _ _ _ dX1_perform_37 hw
set_option maxHeartbeats 4000000 in
set_option maxRecDepth 100000 in
theorem cn_X1_perform (l : Launch) (G : gw_) (A_t : Nat) (A_t_crowd : Nat) (A_t_crowd_at : Nat) (A_t_crowd_home : Nat) (A_t_crowd_light : Nat) (A_t_crowd_carries : Nat) (A_t_crowd_bearer : Nat) (A_q1 : Nat) (A_q1_codes : Nat) (A_q2 : Nat) (A_q2_signs : Nat) (c_t_acts : Int32) (c_t_failedAct : Int32) (c_t_reason : Int32) (c_t_costs : Int32) (c_t_walks : Int32) (c_t_crowd_there : Int32) (c_t_crowd_foggy : Int32) (c_t_crowd_at : Nat → Int32) (c_t_crowd_light : Nat → Int32) (c_t_crowd_carries : Nat → Int32) (c_t_crowd_bearer : Nat → Int32) (c_q1_codes : Nat → Int32) (c_q2_count : Int32) (c_q2_signs : Nat → Int32) (x3 : Int32) (r : Int32) (z_t_costs : Int32) (z_t_walks : Int32) (z_t_crowd_foggy : Int32) (z_t_crowd_at : Nat → Int32) (z_t_crowd_light : Nat → Int32) (z_t_crowd_carries : Nat → Int32) (z_t_crowd_bearer : Nat → Int32) (hf : fn_X1_perform c_t_costs c_t_walks c_t_crowd_there c_t_crowd_foggy c_t_crowd_at c_t_crowd_light c_t_crowd_carries c_t_crowd_bearer c_q1_codes c_q2_count c_q2_signs x3 = some (r, z_t_costs, z_t_walks, z_t_crowd_foggy, z_t_crowd_at, z_t_crowd_light, z_t_crowd_carries, z_t_crowd_bearer)) : ci_ l G yX1_perform cX1_perform 8 (some .int) 4 95 (wl_X1_perform G A_t A_t_crowd A_t_crowd_at A_t_crowd_home A_t_crowd_light A_t_crowd_carries A_t_crowd_bearer A_q1 A_q1_codes A_q2 A_q2_signs c_t_acts c_t_failedAct c_t_reason c_t_costs c_t_walks c_t_crowd_there c_t_crowd_foggy c_t_crowd_at c_t_crowd_light c_t_crowd_carries c_t_crowd_bearer c_q1_codes c_q2_count c_q2_signs) [.ref A_t, .ref A_q1, .ref A_q2, .int x3] r (wl_X1_perform G A_t A_t_crowd A_t_crowd_at A_t_crowd_home A_t_crowd_light A_t_crowd_carries A_t_crowd_bearer A_q1 A_q1_codes A_q2 A_q2_signs c_t_acts c_t_failedAct c_t_reason z_t_costs z_t_walks c_t_crowd_there z_t_crowd_foggy z_t_crowd_at z_t_crowd_light z_t_crowd_carries z_t_crowd_bearer c_q1_codes c_q2_count c_q2_signs) := fun sz => met_intro (by decide) (Nat.le_of_ble_eq_true rfl) (fun p e s m args below meth c ls hsz hC hr hlk hnm hl hw => wn_X1_perform hC (fun pc H locs ls hd hw => g_iret hC hr hlk hw rfl rfl hd) hf hl hw)

theorem dX4_takesOther_0 : decode cX4_takesOther 0 = .ok (.iload_n 0, 1) := by decide +kernel
theorem dX4_takesOther_1 : decode cX4_takesOther 1 = .ok (.bipush 43, 2) := by decide +kernel
theorem dX4_takesOther_3 : decode cX4_takesOther 3 = .ok (.if_icmp .eq 14, 3) := by decide +kernel
theorem dX4_takesOther_6 : decode cX4_takesOther 6 = .ok (.iload_n 0, 1) := by decide +kernel
theorem dX4_takesOther_7 : decode cX4_takesOther 7 = .ok (.bipush 49, 2) := by decide +kernel
theorem dX4_takesOther_9 : decode cX4_takesOther 9 = .ok (.bipush 57, 2) := by decide +kernel
theorem dX4_takesOther_11 : decode cX4_takesOther 11 = .ok (.invokestatic 19, 3) := by decide +kernel
theorem dX4_takesOther_14 : decode cX4_takesOther 14 = .ok (.ifCond .eq 7, 3) := by decide +kernel
theorem dX4_takesOther_17 : decode cX4_takesOther 17 = .ok (.iconst 1, 1) := by decide +kernel
theorem dX4_takesOther_18 : decode cX4_takesOther 18 = .ok (.goto 4, 3) := by decide +kernel
theorem dX4_takesOther_21 : decode cX4_takesOther 21 = .ok (.iconst 0, 1) := by decide +kernel
theorem dX4_takesOther_22 : decode cX4_takesOther 22 = .ok (.ireturn, 1) := by decide +kernel
def fn_X4_takesOther (x0 : Int32) : Option (Int32) :=
  if x0 = 43 then
    some 1
  else
    b1_ (fn_X9_isWithin x0 49 57) fun r1 =>
    if r1 = 0 then
      some 0
    else
      some 1
set_option maxHeartbeats 4000000 in
set_option maxRecDepth 100000 in
theorem wn_X4_takesOther {p : Program} {l : Launch} {e : Env} {s : State} {m : MethodId} {args : Array Value} {below : List Frame} {meth : Method} {c : Code} {G : gw_} {A : Nat → Prop} {Q : State → Prop} {r : Int32} {x0 : Int32} (hC : cx_ p s m c G cX4_takesOther 1 RX4) (hret : ∀ (pc : Nat) (H : Heap) (locs : List Loc) (ls : Array Slot), narrow .boolean (.int r) = .int r → decode cX4_takesOther pc = .ok (.ireturn, 1) → wd_ G A s.heap [] H locs → W p l e { frames := 1, cells := 0, slots := 0, locals := 22 } s m args below meth c H locs 0 0 Q (F0 m pc ls [.int r])) (hf : fn_X4_takesOther x0 = some r) {H : Heap} {locs : List Loc} {ls : Array Slot} (hl : lv_has ls 1 [(0, .int x0)]) (hw : wd_ G A s.heap [] H locs) : W p l e { frames := 1, cells := 0, slots := 0, locals := 22 } s m args below meth c H locs 0 0 Q (F0 m 0 ls []) := by
  have hx := hC.1
  have hb := hC.2.1
  unfold fn_X4_takesOther at hf
  refine lv_iload_n hx hb dX4_takesOther_0 rfl (lv_at hl 0 rfl) ?_
  refine lv_bipush (v := 43) hx hb dX4_takesOther_1 (by decide) ?_
  refine lv_icmp_eq (tgt := 17) hx hb dX4_takesOther_3 (by decide) (fun hc => ?_) (fun hc => ?_)
  · replace hf := it_t hc hf
    refine lv_iconst (v := 1) hx hb dX4_takesOther_17 (by decide) ?_
    refine lv_goto (tgt := 22) hx hb dX4_takesOther_18 (by decide) ?_
    have h1_ := t1_ hf
    subst h1_
    exact hret _ _ _ _ rfl dX4_takesOther_22 hw
  · replace hf := it_f hc hf
    refine lv_iload_n hx hb dX4_takesOther_6 rfl (lv_at hl 0 rfl) ?_
    refine lv_bipush (v := 49) hx hb dX4_takesOther_7 (by decide) ?_
    refine lv_bipush (v := 57) hx hb dX4_takesOther_9 (by decide) ?_
    obtain ⟨r1, hq2, hf⟩ := b1_s hf
    refine h_cSi hC hw msX4_19 (cn_X9_isWithin l G x0 49 57 r1 hq2) [] rfl (by decide) rfl hl.1 rfl (Nat.le_of_ble_eq_true rfl) ⟨Nat.le_of_ble_eq_true rfl, Nat.le_of_ble_eq_true rfl⟩ ⟨Nat.le_refl _, Nat.le_refl _⟩ dX4_takesOther_11 (fun H locs hw => ?_)
    refine lv_if_eq (tgt := 21) hx hb dX4_takesOther_14 (by decide) (fun hc => ?_) (fun hc => ?_)
    · replace hf := it_t hc hf
      refine lv_iconst (v := 0) hx hb dX4_takesOther_21 (by decide) ?_
      have h1_ := t1_ hf
      subst h1_
      exact hret _ _ _ _ rfl dX4_takesOther_22 hw
    · replace hf := it_f hc hf
      refine lv_iconst (v := 1) hx hb dX4_takesOther_17 (by decide) ?_
      refine lv_goto (tgt := 22) hx hb dX4_takesOther_18 (by decide) ?_
      have h1_ := t1_ hf
      subst h1_
      exact hret _ _ _ _ rfl dX4_takesOther_22 hw
set_option maxHeartbeats 4000000 in
set_option maxRecDepth 100000 in
theorem cn_X4_takesOther (l : Launch) (G : gw_) (x0 : Int32) (r : Int32) (hf : fn_X4_takesOther x0 = some r) : ci_ l G yX4_takesOther cX4_takesOther 1 (some .boolean) 1 22 [] [.int x0] r [] := fun sz => met_intro (by decide) (Nat.le_of_ble_eq_true rfl) (fun p e s m args below meth c ls hsz hC hr hlk hnm hl hw => wn_X4_takesOther hC (fun pc H locs ls hn hd hw => g_iret hC hr hlk hw rfl hn hd) hf hl hw)

theorem dX4_actLength_0 : decode cX4_actLength 0 = .ok (.aload_n 0, 1) := by decide +kernel
theorem dX4_actLength_1 : decode cX4_actLength 1 = .ok (.iload_n 1, 1) := by decide +kernel
theorem dX4_actLength_2 : decode cX4_actLength 2 = .ok (.invokevirtual 31, 3) := by decide +kernel
theorem dX4_actLength_5 : decode cX4_actLength 5 = .ok (.bipush 126, 2) := by decide +kernel
theorem dX4_actLength_7 : decode cX4_actLength 7 = .ok (.if_icmp .ne 5, 3) := by decide +kernel
theorem dX4_actLength_10 : decode cX4_actLength 10 = .ok (.iconst 1, 1) := by decide +kernel
theorem dX4_actLength_11 : decode cX4_actLength 11 = .ok (.ireturn, 1) := by decide +kernel
theorem dX4_actLength_12 : decode cX4_actLength 12 = .ok (.aload_n 0, 1) := by decide +kernel
theorem dX4_actLength_13 : decode cX4_actLength 13 = .ok (.iload_n 1, 1) := by decide +kernel
theorem dX4_actLength_14 : decode cX4_actLength 14 = .ok (.iconst 1, 1) := by decide +kernel
theorem dX4_actLength_15 : decode cX4_actLength 15 = .ok (.iadd, 1) := by decide +kernel
theorem dX4_actLength_16 : decode cX4_actLength 16 = .ok (.invokevirtual 31, 3) := by decide +kernel
theorem dX4_actLength_19 : decode cX4_actLength 19 = .ok (.invokestatic 27, 3) := by decide +kernel
theorem dX4_actLength_22 : decode cX4_actLength 22 = .ok (.ifCond .eq 7, 3) := by decide +kernel
theorem dX4_actLength_25 : decode cX4_actLength 25 = .ok (.iconst 3, 1) := by decide +kernel
theorem dX4_actLength_26 : decode cX4_actLength 26 = .ok (.goto 4, 3) := by decide +kernel
theorem dX4_actLength_29 : decode cX4_actLength 29 = .ok (.iconst 2, 1) := by decide +kernel
theorem dX4_actLength_30 : decode cX4_actLength 30 = .ok (.ireturn, 1) := by decide +kernel
abbrev wl_X4_actLength (G : gw_) (A_t : Nat) (A_t_signs : Nat) (c_t_count : Int32) (c_t_signs : Nat → Int32) : va_W := [ob_ A_t 4 [.int c_t_count, .ref A_t_signs], ia_ G A_t_signs 60 c_t_signs]
def fn_X4_actLength (c_t_count : Int32) (c_t_signs : Nat → Int32) (x1 : Int32) : Option (Int32) :=
  b1_ (fn_X4_signAt c_t_count c_t_signs x1) fun r1 =>
  if r1 = 126 then
    some 1
  else
    b1_ (fn_X4_signAt c_t_count c_t_signs (x1 + 1)) fun r3 =>
    b1_ (fn_X4_takesOther r3) fun r5 =>
    if r5 = 0 then
      some 2
    else
      some 3
set_option maxHeartbeats 4000000 in
set_option maxRecDepth 100000 in
theorem wn_X4_actLength {p : Program} {l : Launch} {e : Env} {s : State} {m : MethodId} {args : Array Value} {below : List Frame} {meth : Method} {c : Code} {G : gw_} {A : Nat → Prop} {Q : State → Prop} {A_t : Nat} {A_t_signs : Nat} {c_t_count : Int32} {c_t_signs : Nat → Int32} {r : Int32} {x1 : Int32} (hC : cx_ p s m c G cX4_actLength 2 RX4) (hret : ∀ (pc : Nat) (H : Heap) (locs : List Loc) (ls : Array Slot), decode cX4_actLength pc = .ok (.ireturn, 1) → wd_ G A s.heap (wl_X4_actLength G A_t A_t_signs c_t_count c_t_signs) H locs → W p l e { frames := 2, cells := 0, slots := 0, locals := 43 } s m args below meth c H locs 0 0 Q (F0 m pc ls [.int r])) (hf : fn_X4_actLength c_t_count c_t_signs x1 = some r) {H : Heap} {locs : List Loc} {ls : Array Slot} (hl : lv_has ls 2 [(0, .ref A_t), (1, .int x1)]) (hw : wd_ G A s.heap (wl_X4_actLength G A_t A_t_signs c_t_count c_t_signs) H locs) : W p l e { frames := 2, cells := 0, slots := 0, locals := 43 } s m args below meth c H locs 0 0 Q (F0 m 0 ls []) := by
  have hx := hC.1
  have hb := hC.2.1
  unfold fn_X4_actLength at hf
  refine lv_aload_n hx hb dX4_actLength_0 rfl (lv_at hl 0 rfl) ?_
  refine lv_iload_n hx hb dX4_actLength_1 rfl (lv_at hl 1 rfl) ?_
  obtain ⟨r1, hq2, hf⟩ := b1_s hf
  refine h_cVi hC hw mvX4_31 (cn_X4_signAt l G A_t A_t_signs c_t_count c_t_signs x1 r1 hq2) [0, 1] rfl (by decide) 0 rfl rfl rfl hl.1 rfl (Nat.le_of_ble_eq_true rfl) ⟨Nat.le_of_ble_eq_true rfl, Nat.le_of_ble_eq_true rfl⟩ ⟨Nat.le_refl _, Nat.le_refl _⟩ dX4_actLength_2 (fun H locs hw => ?_)
  refine lv_bipush (v := 126) hx hb dX4_actLength_5 (by decide) ?_
  refine lv_icmp_ne (tgt := 12) hx hb dX4_actLength_7 (by decide) (fun hc => ?_) (fun hc => ?_)
  · replace hf := it_f hc hf
    refine lv_aload_n hx hb dX4_actLength_12 rfl (lv_at hl 0 rfl) ?_
    refine lv_iload_n hx hb dX4_actLength_13 rfl (lv_at hl 1 rfl) ?_
    refine lv_iconst (v := 1) hx hb dX4_actLength_14 (by decide) ?_
    refine lv_iadd hx hb dX4_actLength_15 ?_
    obtain ⟨r3, hq4, hf⟩ := b1_s hf
    refine h_cVi hC hw mvX4_31 (cn_X4_signAt l G A_t A_t_signs c_t_count c_t_signs (x1 + 1) r3 hq4) [0, 1] rfl (by decide) 0 rfl rfl rfl hl.1 rfl (Nat.le_of_ble_eq_true rfl) ⟨Nat.le_of_ble_eq_true rfl, Nat.le_of_ble_eq_true rfl⟩ ⟨Nat.le_refl _, Nat.le_refl _⟩ dX4_actLength_16 (fun H locs hw => ?_)
    obtain ⟨r5, hq6, hf⟩ := b1_s hf
    refine h_cSi hC hw msX4_27 (cn_X4_takesOther l G r3 r5 hq6) [] rfl (by decide) rfl hl.1 rfl (Nat.le_of_ble_eq_true rfl) ⟨Nat.le_of_ble_eq_true rfl, Nat.le_of_ble_eq_true rfl⟩ ⟨Nat.le_refl _, Nat.le_refl _⟩ dX4_actLength_19 (fun H locs hw => ?_)
    refine lv_if_eq (tgt := 29) hx hb dX4_actLength_22 (by decide) (fun hc => ?_) (fun hc => ?_)
    · replace hf := it_t hc hf
      refine lv_iconst (v := 2) hx hb dX4_actLength_29 (by decide) ?_
      have h1_ := t1_ hf
      subst h1_
      exact hret _ _ _ _ dX4_actLength_30 hw
    · replace hf := it_f hc hf
      refine lv_iconst (v := 3) hx hb dX4_actLength_25 (by decide) ?_
      refine lv_goto (tgt := 30) hx hb dX4_actLength_26 (by decide) ?_
      have h1_ := t1_ hf
      subst h1_
      exact hret _ _ _ _ dX4_actLength_30 hw
  · replace hf := it_t hc hf
    refine lv_iconst (v := 1) hx hb dX4_actLength_10 (by decide) ?_
    have h1_ := t1_ hf
    subst h1_
    exact hret _ _ _ _ dX4_actLength_11 hw
set_option maxHeartbeats 4000000 in
set_option maxRecDepth 100000 in
theorem cn_X4_actLength (l : Launch) (G : gw_) (A_t : Nat) (A_t_signs : Nat) (c_t_count : Int32) (c_t_signs : Nat → Int32) (x1 : Int32) (r : Int32) (hf : fn_X4_actLength c_t_count c_t_signs x1 = some r) : ci_ l G yX4_actLength cX4_actLength 2 (some .int) 2 43 (wl_X4_actLength G A_t A_t_signs c_t_count c_t_signs) [.ref A_t, .int x1] r (wl_X4_actLength G A_t A_t_signs c_t_count c_t_signs) := fun sz => met_intro (by decide) (Nat.le_of_ble_eq_true rfl) (fun p e s m args below meth c ls hsz hC hr hlk hnm hl hw => wn_X4_actLength hC (fun pc H locs ls hd hw => g_iret hC hr hlk hw rfl rfl hd) hf hl hw)

theorem dX1_play_0 : decode cX1_play 0 = .ok (.aload_n 0, 1) := by decide +kernel
theorem dX1_play_1 : decode cX1_play 1 = .ok (.aload_n 1, 1) := by decide +kernel
theorem dX1_play_2 : decode cX1_play 2 = .ok (.invokevirtual 41, 3) := by decide +kernel
theorem dX1_play_5 : decode cX1_play 5 = .ok (.iconst 0, 1) := by decide +kernel
theorem dX1_play_6 : decode cX1_play 6 = .ok (.istore_n 3, 1) := by decide +kernel
theorem dX1_play_7 : decode cX1_play 7 = .ok (.iconst 0, 1) := by decide +kernel
theorem dX1_play_8 : decode cX1_play 8 = .ok (.istore 4, 2) := by decide +kernel
theorem dX1_play_10 : decode cX1_play 10 = .ok (.iload 4, 2) := by decide +kernel
theorem dX1_play_12 : decode cX1_play 12 = .ok (.bipush 60, 2) := by decide +kernel
theorem dX1_play_14 : decode cX1_play 14 = .ok (.if_icmp .ge 65, 3) := by decide +kernel
theorem dX1_play_17 : decode cX1_play 17 = .ok (.iload_n 3, 1) := by decide +kernel
theorem dX1_play_18 : decode cX1_play 18 = .ok (.aload_n 2, 1) := by decide +kernel
theorem dX1_play_19 : decode cX1_play 19 = .ok (.getfield 45, 3) := by decide +kernel
theorem dX1_play_22 : decode cX1_play 22 = .ok (.if_icmp .ge 57, 3) := by decide +kernel
theorem dX1_play_25 : decode cX1_play 25 = .ok (.aload_n 0, 1) := by decide +kernel
theorem dX1_play_26 : decode cX1_play 26 = .ok (.aload_n 1, 1) := by decide +kernel
theorem dX1_play_27 : decode cX1_play 27 = .ok (.getfield 50, 3) := by decide +kernel
theorem dX1_play_30 : decode cX1_play 30 = .ok (.aload_n 2, 1) := by decide +kernel
theorem dX1_play_31 : decode cX1_play 31 = .ok (.iload_n 3, 1) := by decide +kernel
theorem dX1_play_32 : decode cX1_play 32 = .ok (.invokevirtual 54, 3) := by decide +kernel
theorem dX1_play_35 : decode cX1_play 35 = .ok (.istore 5, 2) := by decide +kernel
theorem dX1_play_37 : decode cX1_play 37 = .ok (.iload 5, 2) := by decide +kernel
theorem dX1_play_39 : decode cX1_play 39 = .ok (.ifCond .eq 16, 3) := by decide +kernel
theorem dX1_play_42 : decode cX1_play 42 = .ok (.aload_n 0, 1) := by decide +kernel
theorem dX1_play_43 : decode cX1_play 43 = .ok (.iload 4, 2) := by decide +kernel
theorem dX1_play_45 : decode cX1_play 45 = .ok (.putfield 22, 3) := by decide +kernel
theorem dX1_play_48 : decode cX1_play 48 = .ok (.aload_n 0, 1) := by decide +kernel
theorem dX1_play_49 : decode cX1_play 49 = .ok (.iload 5, 2) := by decide +kernel
theorem dX1_play_51 : decode cX1_play 51 = .ok (.putfield 25, 3) := by decide +kernel
theorem dX1_play_54 : decode cX1_play 54 = .ok (.return_, 1) := by decide +kernel
theorem dX1_play_55 : decode cX1_play 55 = .ok (.aload_n 0, 1) := by decide +kernel
theorem dX1_play_56 : decode cX1_play 56 = .ok (.dup, 1) := by decide +kernel
theorem dX1_play_57 : decode cX1_play 57 = .ok (.getfield 18, 3) := by decide +kernel
theorem dX1_play_60 : decode cX1_play 60 = .ok (.iconst 1, 1) := by decide +kernel
theorem dX1_play_61 : decode cX1_play 61 = .ok (.iadd, 1) := by decide +kernel
theorem dX1_play_62 : decode cX1_play 62 = .ok (.putfield 18, 3) := by decide +kernel
theorem dX1_play_65 : decode cX1_play 65 = .ok (.iload_n 3, 1) := by decide +kernel
theorem dX1_play_66 : decode cX1_play 66 = .ok (.aload_n 2, 1) := by decide +kernel
theorem dX1_play_67 : decode cX1_play 67 = .ok (.iload_n 3, 1) := by decide +kernel
theorem dX1_play_68 : decode cX1_play 68 = .ok (.invokevirtual 58, 3) := by decide +kernel
theorem dX1_play_71 : decode cX1_play 71 = .ok (.iadd, 1) := by decide +kernel
theorem dX1_play_72 : decode cX1_play 72 = .ok (.istore_n 3, 1) := by decide +kernel
theorem dX1_play_73 : decode cX1_play 73 = .ok (.iinc 4 1, 3) := by decide +kernel
theorem dX1_play_76 : decode cX1_play 76 = .ok (.goto (-66), 3) := by decide +kernel
theorem dX1_play_79 : decode cX1_play 79 = .ok (.return_, 1) := by decide +kernel
abbrev wl_X1_play (G : gw_) (A_t : Nat) (A_t_crowd : Nat) (A_t_crowd_at : Nat) (A_t_crowd_home : Nat) (A_t_crowd_light : Nat) (A_t_crowd_carries : Nat) (A_t_crowd_bearer : Nat) (A_q1 : Nat) (A_q1_marsh : Nat) (A_q1_crowd : Nat) (A_q1_sights : Nat) (A_q1_marsh_codes : Nat) (A_q1_crowd_at : Nat) (A_q1_crowd_home : Nat) (A_q1_crowd_light : Nat) (A_q1_crowd_carries : Nat) (A_q1_crowd_bearer : Nat) (A_q2 : Nat) (A_q2_signs : Nat) (c_t_acts : Int32) (c_t_failedAct : Int32) (c_t_reason : Int32) (c_t_costs : Int32) (c_t_walks : Int32) (c_t_crowd_there : Int32) (c_t_crowd_foggy : Int32) (c_t_crowd_at : Nat → Int32) (c_t_crowd_home : Nat → Int32) (c_t_crowd_light : Nat → Int32) (c_t_crowd_carries : Nat → Int32) (c_t_crowd_bearer : Nat → Int32) (c_q1_marsh_codes : Nat → Int32) (c_q1_crowd_there : Int32) (c_q1_crowd_foggy : Int32) (c_q1_crowd_at : Nat → Int32) (c_q1_crowd_home : Nat → Int32) (c_q1_crowd_light : Nat → Int32) (c_q1_crowd_carries : Nat → Int32) (c_q1_crowd_bearer : Nat → Int32) (c_q2_count : Int32) (c_q2_signs : Nat → Int32) : va_W := [ob_ A_t 1 [.ref A_t_crowd, .int c_t_acts, .int c_t_failedAct, .int c_t_reason, .int c_t_costs, .int c_t_walks], ob_ A_t_crowd 0 [.int c_t_crowd_there, .int c_t_crowd_foggy, .ref A_t_crowd_at, .ref A_t_crowd_home, .ref A_t_crowd_light, .ref A_t_crowd_carries, .ref A_t_crowd_bearer], ia_ G A_t_crowd_at 6 c_t_crowd_at, ia_ G A_t_crowd_home 6 c_t_crowd_home, ia_ G A_t_crowd_light 6 c_t_crowd_light, ia_ G A_t_crowd_carries 6 c_t_crowd_carries, ia_ G A_t_crowd_bearer 6 c_t_crowd_bearer, ob_ A_q1 5 [.ref A_q1_marsh, .ref A_q1_crowd, .ref A_q1_sights], ob_ A_q1_marsh 2 [.ref A_q1_marsh_codes], ia_ G A_q1_marsh_codes 144 c_q1_marsh_codes, ob_ A_q1_crowd 0 [.int c_q1_crowd_there, .int c_q1_crowd_foggy, .ref A_q1_crowd_at, .ref A_q1_crowd_home, .ref A_q1_crowd_light, .ref A_q1_crowd_carries, .ref A_q1_crowd_bearer], ia_ G A_q1_crowd_at 6 c_q1_crowd_at, ia_ G A_q1_crowd_home 6 c_q1_crowd_home, ia_ G A_q1_crowd_light 6 c_q1_crowd_light, ia_ G A_q1_crowd_carries 6 c_q1_crowd_carries, ia_ G A_q1_crowd_bearer 6 c_q1_crowd_bearer, ob_ A_q2 4 [.int c_q2_count, .ref A_q2_signs], ia_ G A_q2_signs 60 c_q2_signs]
def fn_X1_play_b10 (c_t_crowd_there : Int32) (c_t_crowd_home : Nat → Int32) (c_q1_marsh_codes : Nat → Int32) (c_q2_count : Int32) (c_q2_signs : Nat → Int32) (rc : Int32 → Int32 → Int32 → Int32 → Int32 → Int32 → Int32 → Int32 → (Nat → Int32) → (Nat → Int32) → (Nat → Int32) → (Nat → Int32) → Option (Int32 × Int32 × Int32 × Int32 × Int32 × Int32 × Int32 × (Nat → Int32) × (Nat → Int32) × (Nat → Int32) × (Nat → Int32) × (Nat → Int32))) (k : Int32 → Int32 → Int32 → Int32 → Int32 → Int32 → (Nat → Int32) → (Nat → Int32) → (Nat → Int32) → (Nat → Int32) → Option (Int32 × Int32 × Int32 × Int32 × Int32 × Int32 × Int32 × (Nat → Int32) × (Nat → Int32) × (Nat → Int32) × (Nat → Int32) × (Nat → Int32))) (x3 : Int32) (x4 : Int32) (c_t_acts : Int32) (c_t_failedAct : Int32) (c_t_reason : Int32) (c_t_costs : Int32) (c_t_walks : Int32) (c_t_crowd_foggy : Int32) (c_t_crowd_at : Nat → Int32) (c_t_crowd_light : Nat → Int32) (c_t_crowd_carries : Nat → Int32) (c_t_crowd_bearer : Nat → Int32) : Option (Int32 × Int32 × Int32 × Int32 × Int32 × Int32 × Int32 × (Nat → Int32) × (Nat → Int32) × (Nat → Int32) × (Nat → Int32) × (Nat → Int32)) :=
  if 60 ≤ x4 then
    k c_t_acts c_t_failedAct c_t_reason c_t_costs c_t_walks c_t_crowd_foggy c_t_crowd_at c_t_crowd_light c_t_crowd_carries c_t_crowd_bearer
  else
    if c_q2_count ≤ x3 then
      k c_t_acts c_t_failedAct c_t_reason c_t_costs c_t_walks c_t_crowd_foggy c_t_crowd_at c_t_crowd_light c_t_crowd_carries c_t_crowd_bearer
    else
      b8_ (fn_X1_perform c_t_costs c_t_walks c_t_crowd_there c_t_crowd_foggy c_t_crowd_at c_t_crowd_light c_t_crowd_carries c_t_crowd_bearer c_q1_marsh_codes c_q2_count c_q2_signs x3) fun r14 w15 w16 w17 w18 w19 w20 w21 =>
      if r14 = 0 then
        b1_ (fn_X4_actLength c_q2_count c_q2_signs x3) fun r23 =>
        rc (x3 + r23) (x4 + 1) (c_t_acts + 1) c_t_failedAct c_t_reason w15 w16 w17 w18 w19 w20 w21
      else
        some (c_t_acts, x4, r14, w15, w16, c_t_crowd_there, w17, w18, c_t_crowd_home, w19, w20, w21)
def fn_X1_play_l10 (c_t_crowd_there : Int32) (c_t_crowd_home : Nat → Int32) (c_q1_marsh_codes : Nat → Int32) (c_q2_count : Int32) (c_q2_signs : Nat → Int32) (k : Int32 → Int32 → Int32 → Int32 → Int32 → Int32 → (Nat → Int32) → (Nat → Int32) → (Nat → Int32) → (Nat → Int32) → Option (Int32 × Int32 × Int32 × Int32 × Int32 × Int32 × Int32 × (Nat → Int32) × (Nat → Int32) × (Nat → Int32) × (Nat → Int32) × (Nat → Int32))) : Nat → Int32 → Int32 → Int32 → Int32 → Int32 → Int32 → Int32 → Int32 → (Nat → Int32) → (Nat → Int32) → (Nat → Int32) → (Nat → Int32) → Option (Int32 × Int32 × Int32 × Int32 × Int32 × Int32 × Int32 × (Nat → Int32) × (Nat → Int32) × (Nat → Int32) × (Nat → Int32) × (Nat → Int32))
  | 0 => fun _ _ _ _ _ _ _ _ _ _ _ _ => none
  | n + 1 => fun x3 x4 c_t_acts c_t_failedAct c_t_reason c_t_costs c_t_walks c_t_crowd_foggy c_t_crowd_at c_t_crowd_light c_t_crowd_carries c_t_crowd_bearer => fn_X1_play_b10 c_t_crowd_there c_t_crowd_home c_q1_marsh_codes c_q2_count c_q2_signs (fn_X1_play_l10 c_t_crowd_there c_t_crowd_home c_q1_marsh_codes c_q2_count c_q2_signs k n) k x3 x4 c_t_acts c_t_failedAct c_t_reason c_t_costs c_t_walks c_t_crowd_foggy c_t_crowd_at c_t_crowd_light c_t_crowd_carries c_t_crowd_bearer
def fn_X1_play (c_t_acts : Int32) (c_t_failedAct : Int32) (c_t_reason : Int32) (c_t_costs : Int32) (c_t_walks : Int32) (c_t_crowd_there : Int32) (c_t_crowd_foggy : Int32) (c_t_crowd_at : Nat → Int32) (c_t_crowd_home : Nat → Int32) (c_t_crowd_light : Nat → Int32) (c_t_crowd_carries : Nat → Int32) (c_t_crowd_bearer : Nat → Int32) (c_q1_marsh_codes : Nat → Int32) (c_q1_crowd_there : Int32) (c_q1_crowd_foggy : Int32) (c_q1_crowd_at : Nat → Int32) (c_q1_crowd_home : Nat → Int32) (c_q1_crowd_light : Nat → Int32) (c_q1_crowd_carries : Nat → Int32) (c_q1_crowd_bearer : Nat → Int32) (c_q2_count : Int32) (c_q2_signs : Nat → Int32) : Option (Int32 × Int32 × Int32 × Int32 × Int32 × Int32 × Int32 × (Nat → Int32) × (Nat → Int32) × (Nat → Int32) × (Nat → Int32) × (Nat → Int32)) :=
  b12_ (fn_X1_begin c_t_acts c_t_failedAct c_t_reason c_t_costs c_t_walks c_t_crowd_there c_t_crowd_foggy c_t_crowd_at c_t_crowd_home c_t_crowd_light c_t_crowd_carries c_t_crowd_bearer c_q1_crowd_there c_q1_crowd_foggy c_q1_crowd_at c_q1_crowd_home c_q1_crowd_light c_q1_crowd_carries c_q1_crowd_bearer) fun w1 w2 w3 w4 w5 w6 w7 w8 w9 w10 w11 w12 =>
  fn_X1_play_l10 w6 w9 c_q1_marsh_codes c_q2_count c_q2_signs (fun v25 v26 v27 v28 v29 v30 v31 v32 v33 v34 =>
    some (v25, v26, v27, v28, v29, w6, v30, v31, w9, v32, v33, v34)) fu_ 0 0 w1 w2 w3 w4 w5 w7 w8 w10 w11 w12
set_option maxHeartbeats 4000000 in
set_option maxRecDepth 100000 in
theorem wn_X1_play_l10 {p : Program} {l : Launch} {e : Env} {s : State} {m : MethodId} {args : Array Value} {below : List Frame} {meth : Method} {c : Code} {G : gw_} {A : Nat → Prop} {Q : State → Prop} {A_t : Nat} {A_t_crowd : Nat} {A_t_crowd_at : Nat} {A_t_crowd_home : Nat} {A_t_crowd_light : Nat} {A_t_crowd_carries : Nat} {A_t_crowd_bearer : Nat} {A_q1 : Nat} {A_q1_marsh : Nat} {A_q1_crowd : Nat} {A_q1_sights : Nat} {A_q1_marsh_codes : Nat} {A_q1_crowd_at : Nat} {A_q1_crowd_home : Nat} {A_q1_crowd_light : Nat} {A_q1_crowd_carries : Nat} {A_q1_crowd_bearer : Nat} {A_q2 : Nat} {A_q2_signs : Nat} {z_t_acts : Int32} {z_t_failedAct : Int32} {z_t_reason : Int32} {z_t_costs : Int32} {z_t_walks : Int32} {c_t_crowd_there : Int32} {z_t_crowd_there : Int32} {z_t_crowd_foggy : Int32} {z_t_crowd_at : Nat → Int32} {c_t_crowd_home : Nat → Int32} {z_t_crowd_home : Nat → Int32} {z_t_crowd_light : Nat → Int32} {z_t_crowd_carries : Nat → Int32} {z_t_crowd_bearer : Nat → Int32} {c_q1_marsh_codes : Nat → Int32} {c_q1_crowd_there : Int32} {c_q1_crowd_foggy : Int32} {c_q1_crowd_at : Nat → Int32} {c_q1_crowd_home : Nat → Int32} {c_q1_crowd_light : Nat → Int32} {c_q1_crowd_carries : Nat → Int32} {c_q1_crowd_bearer : Nat → Int32} {c_q2_count : Int32} {c_q2_signs : Nat → Int32} {k : Int32 → Int32 → Int32 → Int32 → Int32 → Int32 → (Nat → Int32) → (Nat → Int32) → (Nat → Int32) → (Nat → Int32) → Option (Int32 × Int32 × Int32 × Int32 × Int32 × Int32 × Int32 × (Nat → Int32) × (Nat → Int32) × (Nat → Int32) × (Nat → Int32) × (Nat → Int32))} (hC : cx_ p s m c G cX1_play 6 RX1) (hret : ∀ (pc : Nat) (H : Heap) (locs : List Loc) (ls : Array Slot), decode cX1_play pc = .ok (.return_, 1) → wd_ G A s.heap (wl_X1_play G A_t A_t_crowd A_t_crowd_at A_t_crowd_home A_t_crowd_light A_t_crowd_carries A_t_crowd_bearer A_q1 A_q1_marsh A_q1_crowd A_q1_sights A_q1_marsh_codes A_q1_crowd_at A_q1_crowd_home A_q1_crowd_light A_q1_crowd_carries A_q1_crowd_bearer A_q2 A_q2_signs z_t_acts z_t_failedAct z_t_reason z_t_costs z_t_walks z_t_crowd_there z_t_crowd_foggy z_t_crowd_at z_t_crowd_home z_t_crowd_light z_t_crowd_carries z_t_crowd_bearer c_q1_marsh_codes c_q1_crowd_there c_q1_crowd_foggy c_q1_crowd_at c_q1_crowd_home c_q1_crowd_light c_q1_crowd_carries c_q1_crowd_bearer c_q2_count c_q2_signs) H locs → W p l e { frames := 5, cells := 0, slots := 0, locals := 122 } s m args below meth c H locs 0 0 Q (F0 m pc ls [])) (hk : ∀ (c_t_acts : Int32) (c_t_failedAct : Int32) (c_t_reason : Int32) (c_t_costs : Int32) (c_t_walks : Int32) (c_t_crowd_foggy : Int32) (c_t_crowd_at : Nat → Int32) (c_t_crowd_light : Nat → Int32) (c_t_crowd_carries : Nat → Int32) (c_t_crowd_bearer : Nat → Int32) (H : Heap) (locs : List Loc) (ls : Array Slot), k c_t_acts c_t_failedAct c_t_reason c_t_costs c_t_walks c_t_crowd_foggy c_t_crowd_at c_t_crowd_light c_t_crowd_carries c_t_crowd_bearer = some (z_t_acts, z_t_failedAct, z_t_reason, z_t_costs, z_t_walks, z_t_crowd_there, z_t_crowd_foggy, z_t_crowd_at, z_t_crowd_home, z_t_crowd_light, z_t_crowd_carries, z_t_crowd_bearer) → lv_has ls 6 [] → wd_ G A s.heap (wl_X1_play G A_t A_t_crowd A_t_crowd_at A_t_crowd_home A_t_crowd_light A_t_crowd_carries A_t_crowd_bearer A_q1 A_q1_marsh A_q1_crowd A_q1_sights A_q1_marsh_codes A_q1_crowd_at A_q1_crowd_home A_q1_crowd_light A_q1_crowd_carries A_q1_crowd_bearer A_q2 A_q2_signs c_t_acts c_t_failedAct c_t_reason c_t_costs c_t_walks c_t_crowd_there c_t_crowd_foggy c_t_crowd_at c_t_crowd_home c_t_crowd_light c_t_crowd_carries c_t_crowd_bearer c_q1_marsh_codes c_q1_crowd_there c_q1_crowd_foggy c_q1_crowd_at c_q1_crowd_home c_q1_crowd_light c_q1_crowd_carries c_q1_crowd_bearer c_q2_count c_q2_signs) H locs → W p l e { frames := 5, cells := 0, slots := 0, locals := 122 } s m args below meth c H locs 0 0 Q (F0 m 79 ls [])) : ∀ (n : Nat) (x3 : Int32) (x4 : Int32) (c_t_acts : Int32) (c_t_failedAct : Int32) (c_t_reason : Int32) (c_t_costs : Int32) (c_t_walks : Int32) (c_t_crowd_foggy : Int32) (c_t_crowd_at : Nat → Int32) (c_t_crowd_light : Nat → Int32) (c_t_crowd_carries : Nat → Int32) (c_t_crowd_bearer : Nat → Int32) (H : Heap) (locs : List Loc) (ls : Array Slot), fn_X1_play_l10 c_t_crowd_there c_t_crowd_home c_q1_marsh_codes c_q2_count c_q2_signs k n x3 x4 c_t_acts c_t_failedAct c_t_reason c_t_costs c_t_walks c_t_crowd_foggy c_t_crowd_at c_t_crowd_light c_t_crowd_carries c_t_crowd_bearer = some (z_t_acts, z_t_failedAct, z_t_reason, z_t_costs, z_t_walks, z_t_crowd_there, z_t_crowd_foggy, z_t_crowd_at, z_t_crowd_home, z_t_crowd_light, z_t_crowd_carries, z_t_crowd_bearer) → lv_has ls 6 [(0, .ref A_t), (1, .ref A_q1), (2, .ref A_q2), (3, .int x3), (4, .int x4)] → wd_ G A s.heap (wl_X1_play G A_t A_t_crowd A_t_crowd_at A_t_crowd_home A_t_crowd_light A_t_crowd_carries A_t_crowd_bearer A_q1 A_q1_marsh A_q1_crowd A_q1_sights A_q1_marsh_codes A_q1_crowd_at A_q1_crowd_home A_q1_crowd_light A_q1_crowd_carries A_q1_crowd_bearer A_q2 A_q2_signs c_t_acts c_t_failedAct c_t_reason c_t_costs c_t_walks c_t_crowd_there c_t_crowd_foggy c_t_crowd_at c_t_crowd_home c_t_crowd_light c_t_crowd_carries c_t_crowd_bearer c_q1_marsh_codes c_q1_crowd_there c_q1_crowd_foggy c_q1_crowd_at c_q1_crowd_home c_q1_crowd_light c_q1_crowd_carries c_q1_crowd_bearer c_q2_count c_q2_signs) H locs → W p l e { frames := 5, cells := 0, slots := 0, locals := 122 } s m args below meth c H locs 0 0 Q (F0 m 10 ls []) := by
  have hx := hC.1
  have hb := hC.2.1
  intro n
  induction n with
  | zero =>
    intro x3 x4 c_t_acts c_t_failedAct c_t_reason c_t_costs c_t_walks c_t_crowd_foggy c_t_crowd_at c_t_crowd_light c_t_crowd_carries c_t_crowd_bearer H locs ls hf
    cases (show (none : Option (Int32 × Int32 × Int32 × Int32 × Int32 × Int32 × Int32 × (Nat → Int32) × (Nat → Int32) × (Nat → Int32) × (Nat → Int32) × (Nat → Int32))) = some _ from hf)
  | succ n hrc =>
    intro x3 x4 c_t_acts c_t_failedAct c_t_reason c_t_costs c_t_walks c_t_crowd_foggy c_t_crowd_at c_t_crowd_light c_t_crowd_carries c_t_crowd_bearer H locs ls hf hl hw
    replace hf : fn_X1_play_b10 c_t_crowd_there c_t_crowd_home c_q1_marsh_codes c_q2_count c_q2_signs (fn_X1_play_l10 c_t_crowd_there c_t_crowd_home c_q1_marsh_codes c_q2_count c_q2_signs k n) k x3 x4 c_t_acts c_t_failedAct c_t_reason c_t_costs c_t_walks c_t_crowd_foggy c_t_crowd_at c_t_crowd_light c_t_crowd_carries c_t_crowd_bearer = some (z_t_acts, z_t_failedAct, z_t_reason, z_t_costs, z_t_walks, z_t_crowd_there, z_t_crowd_foggy, z_t_crowd_at, z_t_crowd_home, z_t_crowd_light, z_t_crowd_carries, z_t_crowd_bearer) := hf
    unfold fn_X1_play_b10 at hf
    refine lv_iload hx hb dX1_play_10 (lv_at hl 4 rfl) ?_
    refine lv_bipush (v := 60) hx hb dX1_play_12 (by decide) ?_
    refine lv_icmp_ge (tgt := 79) hx hb dX1_play_14 (by decide) (fun hc => ?_) (fun hc => ?_)
    · replace hf := it_t hc hf
      exact hk c_t_acts c_t_failedAct c_t_reason c_t_costs c_t_walks c_t_crowd_foggy c_t_crowd_at c_t_crowd_light c_t_crowd_carries c_t_crowd_bearer _ _ _ hf (lv_sub hl [] rfl) hw
    · replace hf := it_f hc hf
      refine lv_iload_n hx hb dX1_play_17 rfl (lv_at hl 3 rfl) ?_
      refine lv_aload_n hx hb dX1_play_18 rfl (lv_at hl 2 rfl) ?_
      refine g_get hC hw fkX1_45 16 rfl rfl dX1_play_19 ?_
      refine lv_icmp_ge (tgt := 79) hx hb dX1_play_22 (by decide) (fun hc => ?_) (fun hc => ?_)
      · replace hf := it_t hc hf
        exact hk c_t_acts c_t_failedAct c_t_reason c_t_costs c_t_walks c_t_crowd_foggy c_t_crowd_at c_t_crowd_light c_t_crowd_carries c_t_crowd_bearer _ _ _ hf (lv_sub hl [] rfl) hw
      · replace hf := it_f hc hf
        refine lv_aload_n hx hb dX1_play_25 rfl (lv_at hl 0 rfl) ?_
        refine lv_aload_n hx hb dX1_play_26 rfl (lv_at hl 1 rfl) ?_
        refine g_get hC hw fkX1_50 7 rfl rfl dX1_play_27 ?_
        refine lv_aload_n hx hb dX1_play_30 rfl (lv_at hl 2 rfl) ?_
        refine lv_iload_n hx hb dX1_play_31 rfl (lv_at hl 3 rfl) ?_
        obtain ⟨r14, w15, w16, w17, w18, w19, w20, w21, hq22, hf⟩ := b8_s hf
        refine g_cVi hC hw mvX1_54 (cn_X1_perform l G A_t A_t_crowd A_t_crowd_at A_t_crowd_home A_t_crowd_light A_t_crowd_carries A_t_crowd_bearer A_q1_marsh A_q1_marsh_codes A_q2 A_q2_signs c_t_acts c_t_failedAct c_t_reason c_t_costs c_t_walks c_t_crowd_there c_t_crowd_foggy c_t_crowd_at c_t_crowd_light c_t_crowd_carries c_t_crowd_bearer c_q1_marsh_codes c_q2_count c_q2_signs x3 r14 w15 w16 w17 w18 w19 w20 w21 hq22) [0, 1, 2, 4, 5, 6, 8, 9, 16, 17] rfl (by decide) rfl 0 rfl rfl rfl hl.1 rfl (Nat.le_of_ble_eq_true rfl) ⟨Nat.le_of_ble_eq_true rfl, Nat.le_of_ble_eq_true rfl⟩ ⟨Nat.le_refl _, Nat.le_refl _⟩ dX1_play_32 (fun H locs hw => ?_)
        have hw : wd_ G A s.heap (wl_X1_play G A_t A_t_crowd A_t_crowd_at A_t_crowd_home A_t_crowd_light A_t_crowd_carries A_t_crowd_bearer A_q1 A_q1_marsh A_q1_crowd A_q1_sights A_q1_marsh_codes A_q1_crowd_at A_q1_crowd_home A_q1_crowd_light A_q1_crowd_carries A_q1_crowd_bearer A_q2 A_q2_signs c_t_acts c_t_failedAct c_t_reason w15 w16 c_t_crowd_there w17 w18 c_t_crowd_home w19 w20 w21 c_q1_marsh_codes c_q1_crowd_there c_q1_crowd_foggy c_q1_crowd_at c_q1_crowd_home c_q1_crowd_light c_q1_crowd_carries c_q1_crowd_bearer c_q2_count c_q2_signs) H locs := hw
        refine lv_istore (lv' := [(5, .int r14), (0, .ref A_t), (1, .ref A_q1), (2, .ref A_q2), (3, .int x3), (4, .int x4)]) hx hb dX1_play_35 hl (by decide) rfl (fun ls hl => ?_)
        refine lv_iload hx hb dX1_play_37 (lv_at hl 0 rfl) ?_
        refine lv_if_eq (tgt := 55) hx hb dX1_play_39 (by decide) (fun hc => ?_) (fun hc => ?_)
        · replace hf := it_t hc hf
          refine lv_aload_n hx hb dX1_play_55 rfl (lv_at hl 1 rfl) ?_
          refine lv_dup hx hb dX1_play_56 rfl ?_
          refine g_get hC hw fkX1_18 0 rfl rfl dX1_play_57 ?_
          refine lv_iconst (v := 1) hx hb dX1_play_60 (by decide) ?_
          refine lv_iadd hx hb dX1_play_61 ?_
          refine g_put hC hw fpX1_18 0 rfl rfl rfl (Nat.le_of_ble_eq_true rfl) dX1_play_62 (fun H locs hw => ?_)
          have hw : wd_ G A s.heap (wl_X1_play G A_t A_t_crowd A_t_crowd_at A_t_crowd_home A_t_crowd_light A_t_crowd_carries A_t_crowd_bearer A_q1 A_q1_marsh A_q1_crowd A_q1_sights A_q1_marsh_codes A_q1_crowd_at A_q1_crowd_home A_q1_crowd_light A_q1_crowd_carries A_q1_crowd_bearer A_q2 A_q2_signs (c_t_acts + 1) c_t_failedAct c_t_reason w15 w16 c_t_crowd_there w17 w18 c_t_crowd_home w19 w20 w21 c_q1_marsh_codes c_q1_crowd_there c_q1_crowd_foggy c_q1_crowd_at c_q1_crowd_home c_q1_crowd_light c_q1_crowd_carries c_q1_crowd_bearer c_q2_count c_q2_signs) H locs := hw
          refine lv_iload_n hx hb dX1_play_65 rfl (lv_at hl 4 rfl) ?_
          refine lv_aload_n hx hb dX1_play_66 rfl (lv_at hl 3 rfl) ?_
          refine lv_iload_n hx hb dX1_play_67 rfl (lv_at hl 4 rfl) ?_
          obtain ⟨r23, hq24, hf⟩ := b1_s hf
          refine h_cVi hC hw mvX1_58 (cn_X4_actLength l G A_q2 A_q2_signs c_q2_count c_q2_signs x3 r23 hq24) [16, 17] rfl (by decide) 16 rfl rfl rfl hl.1 rfl (Nat.le_of_ble_eq_true rfl) ⟨Nat.le_of_ble_eq_true rfl, Nat.le_of_ble_eq_true rfl⟩ ⟨Nat.le_refl _, Nat.le_refl _⟩ dX1_play_68 (fun H locs hw => ?_)
          refine lv_iadd hx hb dX1_play_71 ?_
          refine lv_istore_n (lv' := [(3, .int (x3 + r23)), (5, .int r14), (0, .ref A_t), (1, .ref A_q1), (2, .ref A_q2), (4, .int x4)]) hx hb dX1_play_72 rfl hl (by decide) rfl (fun ls hl => ?_)
          refine lv_iinc (v := x4 + 1) (lv' := [(4, .int (x4 + 1)), (3, .int (x3 + r23)), (5, .int r14), (0, .ref A_t), (1, .ref A_q1), (2, .ref A_q2)]) hx hb dX1_play_73 hl (k := 5) rfl rfl (by decide) rfl (fun ls hl => ?_)
          refine lv_goto (tgt := 10) hx hb dX1_play_76 (by decide) ?_
          exact hrc (x3 + r23) (x4 + 1) (c_t_acts + 1) c_t_failedAct c_t_reason w15 w16 w17 w18 w19 w20 w21 _ _ _ hf (lv_sub hl [3, 4, 5, 1, 0] rfl) hw
        · replace hf := it_f hc hf
          refine lv_aload_n hx hb dX1_play_42 rfl (lv_at hl 1 rfl) ?_
          refine lv_iload hx hb dX1_play_43 (lv_at hl 5 rfl) ?_
          refine g_put hC hw fpX1_22 0 rfl rfl rfl (Nat.le_of_ble_eq_true rfl) dX1_play_45 (fun H locs hw => ?_)
          have hw : wd_ G A s.heap (wl_X1_play G A_t A_t_crowd A_t_crowd_at A_t_crowd_home A_t_crowd_light A_t_crowd_carries A_t_crowd_bearer A_q1 A_q1_marsh A_q1_crowd A_q1_sights A_q1_marsh_codes A_q1_crowd_at A_q1_crowd_home A_q1_crowd_light A_q1_crowd_carries A_q1_crowd_bearer A_q2 A_q2_signs c_t_acts x4 c_t_reason w15 w16 c_t_crowd_there w17 w18 c_t_crowd_home w19 w20 w21 c_q1_marsh_codes c_q1_crowd_there c_q1_crowd_foggy c_q1_crowd_at c_q1_crowd_home c_q1_crowd_light c_q1_crowd_carries c_q1_crowd_bearer c_q2_count c_q2_signs) H locs := hw
          refine lv_aload_n hx hb dX1_play_48 rfl (lv_at hl 1 rfl) ?_
          refine lv_iload hx hb dX1_play_49 (lv_at hl 0 rfl) ?_
          refine g_put hC hw fpX1_25 0 rfl rfl rfl (Nat.le_of_ble_eq_true rfl) dX1_play_51 (fun H locs hw => ?_)
          have hw : wd_ G A s.heap (wl_X1_play G A_t A_t_crowd A_t_crowd_at A_t_crowd_home A_t_crowd_light A_t_crowd_carries A_t_crowd_bearer A_q1 A_q1_marsh A_q1_crowd A_q1_sights A_q1_marsh_codes A_q1_crowd_at A_q1_crowd_home A_q1_crowd_light A_q1_crowd_carries A_q1_crowd_bearer A_q2 A_q2_signs c_t_acts x4 r14 w15 w16 c_t_crowd_there w17 w18 c_t_crowd_home w19 w20 w21 c_q1_marsh_codes c_q1_crowd_there c_q1_crowd_foggy c_q1_crowd_at c_q1_crowd_home c_q1_crowd_light c_q1_crowd_carries c_q1_crowd_bearer c_q2_count c_q2_signs) H locs := hw
          obtain ⟨h1_, h2_, h3_, h4_, h5_, h6_, h7_, h8_, h9_, h10_, h11_, h12_⟩ := t12_ hf
          subst h1_
          subst h2_
          subst h3_
          subst h4_
          subst h5_
          subst h6_
          subst h7_
          subst h8_
          subst h9_
          subst h10_
          subst h11_
          subst h12_
          exact hret _ _ _ _ dX1_play_54 hw
set_option maxHeartbeats 4000000 in
set_option maxRecDepth 100000 in
theorem wn_X1_play {p : Program} {l : Launch} {e : Env} {s : State} {m : MethodId} {args : Array Value} {below : List Frame} {meth : Method} {c : Code} {G : gw_} {A : Nat → Prop} {Q : State → Prop} {A_t : Nat} {A_t_crowd : Nat} {A_t_crowd_at : Nat} {A_t_crowd_home : Nat} {A_t_crowd_light : Nat} {A_t_crowd_carries : Nat} {A_t_crowd_bearer : Nat} {A_q1 : Nat} {A_q1_marsh : Nat} {A_q1_crowd : Nat} {A_q1_sights : Nat} {A_q1_marsh_codes : Nat} {A_q1_crowd_at : Nat} {A_q1_crowd_home : Nat} {A_q1_crowd_light : Nat} {A_q1_crowd_carries : Nat} {A_q1_crowd_bearer : Nat} {A_q2 : Nat} {A_q2_signs : Nat} {c_t_acts : Int32} {z_t_acts : Int32} {c_t_failedAct : Int32} {z_t_failedAct : Int32} {c_t_reason : Int32} {z_t_reason : Int32} {c_t_costs : Int32} {z_t_costs : Int32} {c_t_walks : Int32} {z_t_walks : Int32} {c_t_crowd_there : Int32} {z_t_crowd_there : Int32} {c_t_crowd_foggy : Int32} {z_t_crowd_foggy : Int32} {c_t_crowd_at : Nat → Int32} {z_t_crowd_at : Nat → Int32} {c_t_crowd_home : Nat → Int32} {z_t_crowd_home : Nat → Int32} {c_t_crowd_light : Nat → Int32} {z_t_crowd_light : Nat → Int32} {c_t_crowd_carries : Nat → Int32} {z_t_crowd_carries : Nat → Int32} {c_t_crowd_bearer : Nat → Int32} {z_t_crowd_bearer : Nat → Int32} {c_q1_marsh_codes : Nat → Int32} {c_q1_crowd_there : Int32} {c_q1_crowd_foggy : Int32} {c_q1_crowd_at : Nat → Int32} {c_q1_crowd_home : Nat → Int32} {c_q1_crowd_light : Nat → Int32} {c_q1_crowd_carries : Nat → Int32} {c_q1_crowd_bearer : Nat → Int32} {c_q2_count : Int32} {c_q2_signs : Nat → Int32} (hC : cx_ p s m c G cX1_play 6 RX1) (hret : ∀ (pc : Nat) (H : Heap) (locs : List Loc) (ls : Array Slot), decode cX1_play pc = .ok (.return_, 1) → wd_ G A s.heap (wl_X1_play G A_t A_t_crowd A_t_crowd_at A_t_crowd_home A_t_crowd_light A_t_crowd_carries A_t_crowd_bearer A_q1 A_q1_marsh A_q1_crowd A_q1_sights A_q1_marsh_codes A_q1_crowd_at A_q1_crowd_home A_q1_crowd_light A_q1_crowd_carries A_q1_crowd_bearer A_q2 A_q2_signs z_t_acts z_t_failedAct z_t_reason z_t_costs z_t_walks z_t_crowd_there z_t_crowd_foggy z_t_crowd_at z_t_crowd_home z_t_crowd_light z_t_crowd_carries z_t_crowd_bearer c_q1_marsh_codes c_q1_crowd_there c_q1_crowd_foggy c_q1_crowd_at c_q1_crowd_home c_q1_crowd_light c_q1_crowd_carries c_q1_crowd_bearer c_q2_count c_q2_signs) H locs → W p l e { frames := 5, cells := 0, slots := 0, locals := 122 } s m args below meth c H locs 0 0 Q (F0 m pc ls [])) (hf : fn_X1_play c_t_acts c_t_failedAct c_t_reason c_t_costs c_t_walks c_t_crowd_there c_t_crowd_foggy c_t_crowd_at c_t_crowd_home c_t_crowd_light c_t_crowd_carries c_t_crowd_bearer c_q1_marsh_codes c_q1_crowd_there c_q1_crowd_foggy c_q1_crowd_at c_q1_crowd_home c_q1_crowd_light c_q1_crowd_carries c_q1_crowd_bearer c_q2_count c_q2_signs = some (z_t_acts, z_t_failedAct, z_t_reason, z_t_costs, z_t_walks, z_t_crowd_there, z_t_crowd_foggy, z_t_crowd_at, z_t_crowd_home, z_t_crowd_light, z_t_crowd_carries, z_t_crowd_bearer)) {H : Heap} {locs : List Loc} {ls : Array Slot} (hl : lv_has ls 6 [(0, .ref A_t), (1, .ref A_q1), (2, .ref A_q2)]) (hw : wd_ G A s.heap (wl_X1_play G A_t A_t_crowd A_t_crowd_at A_t_crowd_home A_t_crowd_light A_t_crowd_carries A_t_crowd_bearer A_q1 A_q1_marsh A_q1_crowd A_q1_sights A_q1_marsh_codes A_q1_crowd_at A_q1_crowd_home A_q1_crowd_light A_q1_crowd_carries A_q1_crowd_bearer A_q2 A_q2_signs c_t_acts c_t_failedAct c_t_reason c_t_costs c_t_walks c_t_crowd_there c_t_crowd_foggy c_t_crowd_at c_t_crowd_home c_t_crowd_light c_t_crowd_carries c_t_crowd_bearer c_q1_marsh_codes c_q1_crowd_there c_q1_crowd_foggy c_q1_crowd_at c_q1_crowd_home c_q1_crowd_light c_q1_crowd_carries c_q1_crowd_bearer c_q2_count c_q2_signs) H locs) : W p l e { frames := 5, cells := 0, slots := 0, locals := 122 } s m args below meth c H locs 0 0 Q (F0 m 0 ls []) := by
  have hx := hC.1
  have hb := hC.2.1
  unfold fn_X1_play at hf
  refine lv_aload_n hx hb dX1_play_0 rfl (lv_at hl 0 rfl) ?_
  refine lv_aload_n hx hb dX1_play_1 rfl (lv_at hl 1 rfl) ?_
  obtain ⟨w1, w2, w3, w4, w5, w6, w7, w8, w9, w10, w11, w12, hq13, hf⟩ := b12_s hf
  refine g_cVv hC hw mvX1_41 (cn_X1_begin l G A_t A_t_crowd A_t_crowd_at A_t_crowd_home A_t_crowd_light A_t_crowd_carries A_t_crowd_bearer A_q1 A_q1_marsh A_q1_crowd A_q1_sights A_q1_crowd_at A_q1_crowd_home A_q1_crowd_light A_q1_crowd_carries A_q1_crowd_bearer c_t_acts c_t_failedAct c_t_reason c_t_costs c_t_walks c_t_crowd_there c_t_crowd_foggy c_t_crowd_at c_t_crowd_home c_t_crowd_light c_t_crowd_carries c_t_crowd_bearer c_q1_crowd_there c_q1_crowd_foggy c_q1_crowd_at c_q1_crowd_home c_q1_crowd_light c_q1_crowd_carries c_q1_crowd_bearer w1 w2 w3 w4 w5 w6 w7 w8 w9 w10 w11 w12 hq13) [0, 1, 2, 3, 4, 5, 6, 7, 10, 11, 12, 13, 14, 15] rfl (by decide) rfl 0 rfl rfl rfl hl.1 rfl (Nat.le_of_ble_eq_true rfl) ⟨Nat.le_of_ble_eq_true rfl, Nat.le_of_ble_eq_true rfl⟩ ⟨Nat.le_refl _, Nat.le_refl _⟩ dX1_play_2 (fun H locs hw => ?_)
  have hw : wd_ G A s.heap (wl_X1_play G A_t A_t_crowd A_t_crowd_at A_t_crowd_home A_t_crowd_light A_t_crowd_carries A_t_crowd_bearer A_q1 A_q1_marsh A_q1_crowd A_q1_sights A_q1_marsh_codes A_q1_crowd_at A_q1_crowd_home A_q1_crowd_light A_q1_crowd_carries A_q1_crowd_bearer A_q2 A_q2_signs w1 w2 w3 w4 w5 w6 w7 w8 w9 w10 w11 w12 c_q1_marsh_codes c_q1_crowd_there c_q1_crowd_foggy c_q1_crowd_at c_q1_crowd_home c_q1_crowd_light c_q1_crowd_carries c_q1_crowd_bearer c_q2_count c_q2_signs) H locs := hw
  refine lv_iconst (v := 0) hx hb dX1_play_5 (by decide) ?_
  refine lv_istore_n (lv' := [(3, .int 0), (0, .ref A_t), (1, .ref A_q1), (2, .ref A_q2)]) hx hb dX1_play_6 rfl hl (by decide) rfl (fun ls hl => ?_)
  refine lv_iconst (v := 0) hx hb dX1_play_7 (by decide) ?_
  refine lv_istore (lv' := [(4, .int 0), (3, .int 0), (0, .ref A_t), (1, .ref A_q1), (2, .ref A_q2)]) hx hb dX1_play_8 hl (by decide) rfl (fun ls hl => ?_)
  refine wn_X1_play_l10 hC hret (fun v25 v26 v27 v28 v29 v30 v31 v32 v33 v34 H locs ls hf hl hw => ?_) fu_ 0 0 w1 w2 w3 w4 w5 w7 w8 w10 w11 w12 _ _ _ hf (lv_sub hl [2, 3, 4, 1, 0] rfl) hw
  obtain ⟨h1_, h2_, h3_, h4_, h5_, h6_, h7_, h8_, h9_, h10_, h11_, h12_⟩ := t12_ hf
  subst h1_
  subst h2_
  subst h3_
  subst h4_
  subst h5_
  subst h6_
  subst h7_
  subst h8_
  subst h9_
  subst h10_
  subst h11_
  subst h12_
  exact hret _ _ _ _ dX1_play_79 hw
set_option maxHeartbeats 4000000 in
set_option maxRecDepth 100000 in
theorem cn_X1_play (l : Launch) (G : gw_) (A_t : Nat) (A_t_crowd : Nat) (A_t_crowd_at : Nat) (A_t_crowd_home : Nat) (A_t_crowd_light : Nat) (A_t_crowd_carries : Nat) (A_t_crowd_bearer : Nat) (A_q1 : Nat) (A_q1_marsh : Nat) (A_q1_crowd : Nat) (A_q1_sights : Nat) (A_q1_marsh_codes : Nat) (A_q1_crowd_at : Nat) (A_q1_crowd_home : Nat) (A_q1_crowd_light : Nat) (A_q1_crowd_carries : Nat) (A_q1_crowd_bearer : Nat) (A_q2 : Nat) (A_q2_signs : Nat) (c_t_acts : Int32) (c_t_failedAct : Int32) (c_t_reason : Int32) (c_t_costs : Int32) (c_t_walks : Int32) (c_t_crowd_there : Int32) (c_t_crowd_foggy : Int32) (c_t_crowd_at : Nat → Int32) (c_t_crowd_home : Nat → Int32) (c_t_crowd_light : Nat → Int32) (c_t_crowd_carries : Nat → Int32) (c_t_crowd_bearer : Nat → Int32) (c_q1_marsh_codes : Nat → Int32) (c_q1_crowd_there : Int32) (c_q1_crowd_foggy : Int32) (c_q1_crowd_at : Nat → Int32) (c_q1_crowd_home : Nat → Int32) (c_q1_crowd_light : Nat → Int32) (c_q1_crowd_carries : Nat → Int32) (c_q1_crowd_bearer : Nat → Int32) (c_q2_count : Int32) (c_q2_signs : Nat → Int32) (z_t_acts : Int32) (z_t_failedAct : Int32) (z_t_reason : Int32) (z_t_costs : Int32) (z_t_walks : Int32) (z_t_crowd_there : Int32) (z_t_crowd_foggy : Int32) (z_t_crowd_at : Nat → Int32) (z_t_crowd_home : Nat → Int32) (z_t_crowd_light : Nat → Int32) (z_t_crowd_carries : Nat → Int32) (z_t_crowd_bearer : Nat → Int32) (hf : fn_X1_play c_t_acts c_t_failedAct c_t_reason c_t_costs c_t_walks c_t_crowd_there c_t_crowd_foggy c_t_crowd_at c_t_crowd_home c_t_crowd_light c_t_crowd_carries c_t_crowd_bearer c_q1_marsh_codes c_q1_crowd_there c_q1_crowd_foggy c_q1_crowd_at c_q1_crowd_home c_q1_crowd_light c_q1_crowd_carries c_q1_crowd_bearer c_q2_count c_q2_signs = some (z_t_acts, z_t_failedAct, z_t_reason, z_t_costs, z_t_walks, z_t_crowd_there, z_t_crowd_foggy, z_t_crowd_at, z_t_crowd_home, z_t_crowd_light, z_t_crowd_carries, z_t_crowd_bearer)) : cv_ l G yX1_play cX1_play 6 none 5 122 (wl_X1_play G A_t A_t_crowd A_t_crowd_at A_t_crowd_home A_t_crowd_light A_t_crowd_carries A_t_crowd_bearer A_q1 A_q1_marsh A_q1_crowd A_q1_sights A_q1_marsh_codes A_q1_crowd_at A_q1_crowd_home A_q1_crowd_light A_q1_crowd_carries A_q1_crowd_bearer A_q2 A_q2_signs c_t_acts c_t_failedAct c_t_reason c_t_costs c_t_walks c_t_crowd_there c_t_crowd_foggy c_t_crowd_at c_t_crowd_home c_t_crowd_light c_t_crowd_carries c_t_crowd_bearer c_q1_marsh_codes c_q1_crowd_there c_q1_crowd_foggy c_q1_crowd_at c_q1_crowd_home c_q1_crowd_light c_q1_crowd_carries c_q1_crowd_bearer c_q2_count c_q2_signs) [.ref A_t, .ref A_q1, .ref A_q2] (wl_X1_play G A_t A_t_crowd A_t_crowd_at A_t_crowd_home A_t_crowd_light A_t_crowd_carries A_t_crowd_bearer A_q1 A_q1_marsh A_q1_crowd A_q1_sights A_q1_marsh_codes A_q1_crowd_at A_q1_crowd_home A_q1_crowd_light A_q1_crowd_carries A_q1_crowd_bearer A_q2 A_q2_signs z_t_acts z_t_failedAct z_t_reason z_t_costs z_t_walks z_t_crowd_there z_t_crowd_foggy z_t_crowd_at z_t_crowd_home z_t_crowd_light z_t_crowd_carries z_t_crowd_bearer c_q1_marsh_codes c_q1_crowd_there c_q1_crowd_foggy c_q1_crowd_at c_q1_crowd_home c_q1_crowd_light c_q1_crowd_carries c_q1_crowd_bearer c_q2_count c_q2_signs) := fun sz => met_intro (by decide) (Nat.le_of_ble_eq_true rfl) (fun p e s m args below meth c ls hsz hC hr hlk hnm hl hw => wn_X1_play hC (fun pc H locs ls hd hw => g_vret hC hr hlk hw hd) hf hl hw)
