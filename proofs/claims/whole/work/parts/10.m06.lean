theorem dX8_countPassing_0 : decode cX8_countPassing 0 = .ok (.iconst 0, 1) := by decide +kernel
theorem dX8_countPassing_1 : decode cX8_countPassing 1 = .ok (.istore_n 2, 1) := by decide +kernel
theorem dX8_countPassing_2 : decode cX8_countPassing 2 = .ok (.iconst 0, 1) := by decide +kernel
theorem dX8_countPassing_3 : decode cX8_countPassing 3 = .ok (.istore_n 3, 1) := by decide +kernel
theorem dX8_countPassing_4 : decode cX8_countPassing 4 = .ok (.iload_n 3, 1) := by decide +kernel
theorem dX8_countPassing_5 : decode cX8_countPassing 5 = .ok (.bipush 12, 2) := by decide +kernel
theorem dX8_countPassing_7 : decode cX8_countPassing 7 = .ok (.if_icmp .ge 56, 3) := by decide +kernel
theorem dX8_countPassing_10 : decode cX8_countPassing 10 = .ok (.iconst 0, 1) := by decide +kernel
theorem dX8_countPassing_11 : decode cX8_countPassing 11 = .ok (.istore 4, 2) := by decide +kernel
theorem dX8_countPassing_13 : decode cX8_countPassing 13 = .ok (.iload 4, 2) := by decide +kernel
theorem dX8_countPassing_15 : decode cX8_countPassing 15 = .ok (.bipush 12, 2) := by decide +kernel
theorem dX8_countPassing_17 : decode cX8_countPassing 17 = .ok (.if_icmp .ge 40, 3) := by decide +kernel
theorem dX8_countPassing_20 : decode cX8_countPassing 20 = .ok (.iload_n 3, 1) := by decide +kernel
theorem dX8_countPassing_21 : decode cX8_countPassing 21 = .ok (.iload 4, 2) := by decide +kernel
theorem dX8_countPassing_23 : decode cX8_countPassing 23 = .ok (.if_icmp .eq 28, 3) := by decide +kernel
theorem dX8_countPassing_26 : decode cX8_countPassing 26 = .ok (.iload_n 3, 1) := by decide +kernel
theorem dX8_countPassing_27 : decode cX8_countPassing 27 = .ok (.iload_n 1, 1) := by decide +kernel
theorem dX8_countPassing_28 : decode cX8_countPassing 28 = .ok (.if_icmp .eq 23, 3) := by decide +kernel
theorem dX8_countPassing_31 : decode cX8_countPassing 31 = .ok (.iload 4, 2) := by decide +kernel
theorem dX8_countPassing_33 : decode cX8_countPassing 33 = .ok (.iload_n 1, 1) := by decide +kernel
theorem dX8_countPassing_34 : decode cX8_countPassing 34 = .ok (.if_icmp .eq 17, 3) := by decide +kernel
theorem dX8_countPassing_37 : decode cX8_countPassing 37 = .ok (.aload_n 0, 1) := by decide +kernel
theorem dX8_countPassing_38 : decode cX8_countPassing 38 = .ok (.iload_n 3, 1) := by decide +kernel
theorem dX8_countPassing_39 : decode cX8_countPassing 39 = .ok (.iload 4, 2) := by decide +kernel
theorem dX8_countPassing_41 : decode cX8_countPassing 41 = .ok (.iload_n 1, 1) := by decide +kernel
theorem dX8_countPassing_42 : decode cX8_countPassing 42 = .ok (.invokevirtual 39, 3) := by decide +kernel
theorem dX8_countPassing_45 : decode cX8_countPassing 45 = .ok (.ifCond .eq 6, 3) := by decide +kernel
theorem dX8_countPassing_48 : decode cX8_countPassing 48 = .ok (.iinc 2 1, 3) := by decide +kernel
theorem dX8_countPassing_51 : decode cX8_countPassing 51 = .ok (.iinc 4 1, 3) := by decide +kernel
theorem dX8_countPassing_54 : decode cX8_countPassing 54 = .ok (.goto (-41), 3) := by decide +kernel
theorem dX8_countPassing_57 : decode cX8_countPassing 57 = .ok (.iinc 3 1, 3) := by decide +kernel
theorem dX8_countPassing_60 : decode cX8_countPassing 60 = .ok (.goto (-56), 3) := by decide +kernel
theorem dX8_countPassing_63 : decode cX8_countPassing 63 = .ok (.iload_n 2, 1) := by decide +kernel
theorem dX8_countPassing_64 : decode cX8_countPassing 64 = .ok (.ireturn, 1) := by decide +kernel
abbrev wl_X8_countPassing (G : gw_) (A_t : Nat) (A_t_planks : Nat) (A_t_least : Nat) (A_t_neighbours : Nat) (c_t_least : Nat → Int32) : va_W := [ob_ A_t 8 [.ref A_t_planks, .ref A_t_least, .ref A_t_neighbours], ia_ G A_t_least 144 c_t_least]
def fn_X8_countPassing_b13 (c_t_least : Nat → Int32) (x1 : Int32) (x3 : Int32) (rc : Int32 → Int32 → Option (Int32)) (k : Int32 → Option (Int32)) (x2 : Int32) (x4 : Int32) : Option (Int32) :=
  if 12 ≤ x4 then
    k x2
  else
    if x3 = x4 then
      rc x2 (x4 + 1)
    else
      if x3 = x1 then
        rc x2 (x4 + 1)
      else
        if x4 = x1 then
          rc x2 (x4 + 1)
        else
          b1_ (fn_X8_passes c_t_least x3 x4 x1) fun r1 =>
          if r1 = 0 then
            rc x2 (x4 + 1)
          else
            rc (x2 + 1) (x4 + 1)
def fn_X8_countPassing_l13 (c_t_least : Nat → Int32) (x1 : Int32) (x3 : Int32) (k : Int32 → Option (Int32)) : Nat → Int32 → Int32 → Option (Int32)
  | 0 => fun _ _ => none
  | n + 1 => fun x2 x4 => fn_X8_countPassing_b13 c_t_least x1 x3 (fn_X8_countPassing_l13 c_t_least x1 x3 k n) k x2 x4
def fn_X8_countPassing_b4 (c_t_least : Nat → Int32) (x1 : Int32) (rc : Int32 → Int32 → Option (Int32)) (k : Int32 → Option (Int32)) (x2 : Int32) (x3 : Int32) : Option (Int32) :=
  if 12 ≤ x3 then
    k x2
  else
    fn_X8_countPassing_l13 c_t_least x1 x3 (fun v3 =>
      rc v3 (x3 + 1)) fu_ x2 0
def fn_X8_countPassing_l4 (c_t_least : Nat → Int32) (x1 : Int32) (k : Int32 → Option (Int32)) : Nat → Int32 → Int32 → Option (Int32)
  | 0 => fun _ _ => none
  | n + 1 => fun x2 x3 => fn_X8_countPassing_b4 c_t_least x1 (fn_X8_countPassing_l4 c_t_least x1 k n) k x2 x3
def fn_X8_countPassing (c_t_least : Nat → Int32) (x1 : Int32) : Option (Int32) :=
  fn_X8_countPassing_l4 c_t_least x1 (fun v4 =>
    some v4) fu_ 0 0
set_option maxHeartbeats 4000000 in
set_option maxRecDepth 100000 in
theorem wn_X8_countPassing_l13 {p : Program} {l : Launch} {e : Env} {s : State} {m : MethodId} {args : Array Value} {below : List Frame} {meth : Method} {c : Code} {G : gw_} {A : Nat → Prop} {Q : State → Prop} {A_t : Nat} {A_t_planks : Nat} {A_t_least : Nat} {A_t_neighbours : Nat} {c_t_least : Nat → Int32} {r : Int32} {x1 : Int32} {x3 : Int32} {k : Int32 → Option (Int32)} (hC : cx_ p s m c G cX8_countPassing 5 RX8) (hret : ∀ (pc : Nat) (H : Heap) (locs : List Loc) (ls : Array Slot), decode cX8_countPassing pc = .ok (.ireturn, 1) → wd_ G A s.heap (wl_X8_countPassing G A_t A_t_planks A_t_least A_t_neighbours c_t_least) H locs → W p l e { frames := 2, cells := 0, slots := 0, locals := 45 } s m args below meth c H locs 0 0 Q (F0 m pc ls [.int r])) (hk : ∀ (x2 : Int32) (H : Heap) (locs : List Loc) (ls : Array Slot), k x2 = some r → lv_has ls 5 [(0, .ref A_t), (1, .int x1), (2, .int x2), (3, .int x3)] → wd_ G A s.heap (wl_X8_countPassing G A_t A_t_planks A_t_least A_t_neighbours c_t_least) H locs → W p l e { frames := 2, cells := 0, slots := 0, locals := 45 } s m args below meth c H locs 0 0 Q (F0 m 57 ls [])) : ∀ (n : Nat) (x2 : Int32) (x4 : Int32) (H : Heap) (locs : List Loc) (ls : Array Slot), fn_X8_countPassing_l13 c_t_least x1 x3 k n x2 x4 = some r → lv_has ls 5 [(0, .ref A_t), (1, .int x1), (2, .int x2), (3, .int x3), (4, .int x4)] → wd_ G A s.heap (wl_X8_countPassing G A_t A_t_planks A_t_least A_t_neighbours c_t_least) H locs → W p l e { frames := 2, cells := 0, slots := 0, locals := 45 } s m args below meth c H locs 0 0 Q (F0 m 13 ls []) := by
  have hx := hC.1
  have hb := hC.2.1
  intro n
  induction n with
  | zero =>
    intro x2 x4 H locs ls hf
    cases (show (none : Option (Int32)) = some _ from hf)
  | succ n hrc =>
    intro x2 x4 H locs ls hf hl hw
    replace hf : fn_X8_countPassing_b13 c_t_least x1 x3 (fn_X8_countPassing_l13 c_t_least x1 x3 k n) k x2 x4 = some r := hf
    unfold fn_X8_countPassing_b13 at hf
    refine lv_iload hx hb dX8_countPassing_13 (lv_at hl 4 rfl) ?_
    refine lv_bipush (v := 12) hx hb dX8_countPassing_15 (by decide) ?_
    refine lv_icmp_ge (tgt := 57) hx hb dX8_countPassing_17 (by decide) (fun hc => ?_) (fun hc => ?_)
    · replace hf := it_t hc hf
      exact hk x2 _ _ _ hf (lv_sub hl [0, 1, 2, 3] rfl) hw
    · replace hf := it_f hc hf
      refine lv_iload_n hx hb dX8_countPassing_20 rfl (lv_at hl 3 rfl) ?_
      refine lv_iload hx hb dX8_countPassing_21 (lv_at hl 4 rfl) ?_
      refine lv_icmp_eq (tgt := 51) hx hb dX8_countPassing_23 (by decide) (fun hc => ?_) (fun hc => ?_)
      · replace hf := it_t hc hf
        refine lv_iinc (v := x4 + 1) (lv' := [(4, .int (x4 + 1)), (0, .ref A_t), (1, .int x1), (2, .int x2), (3, .int x3)]) hx hb dX8_countPassing_51 hl (k := 4) rfl rfl (by decide) rfl (fun ls hl => ?_)
        refine lv_goto (tgt := 13) hx hb dX8_countPassing_54 (by decide) ?_
        exact hrc x2 (x4 + 1) _ _ _ hf (lv_sub hl [1, 2, 3, 4, 0] rfl) hw
      · replace hf := it_f hc hf
        refine lv_iload_n hx hb dX8_countPassing_26 rfl (lv_at hl 3 rfl) ?_
        refine lv_iload_n hx hb dX8_countPassing_27 rfl (lv_at hl 1 rfl) ?_
        refine lv_icmp_eq (tgt := 51) hx hb dX8_countPassing_28 (by decide) (fun hc => ?_) (fun hc => ?_)
        · replace hf := it_t hc hf
          refine lv_iinc (v := x4 + 1) (lv' := [(4, .int (x4 + 1)), (0, .ref A_t), (1, .int x1), (2, .int x2), (3, .int x3)]) hx hb dX8_countPassing_51 hl (k := 4) rfl rfl (by decide) rfl (fun ls hl => ?_)
          refine lv_goto (tgt := 13) hx hb dX8_countPassing_54 (by decide) ?_
          exact hrc x2 (x4 + 1) _ _ _ hf (lv_sub hl [1, 2, 3, 4, 0] rfl) hw
        · replace hf := it_f hc hf
          refine lv_iload hx hb dX8_countPassing_31 (lv_at hl 4 rfl) ?_
          refine lv_iload_n hx hb dX8_countPassing_33 rfl (lv_at hl 1 rfl) ?_
          refine lv_icmp_eq (tgt := 51) hx hb dX8_countPassing_34 (by decide) (fun hc => ?_) (fun hc => ?_)
          · replace hf := it_t hc hf
            refine lv_iinc (v := x4 + 1) (lv' := [(4, .int (x4 + 1)), (0, .ref A_t), (1, .int x1), (2, .int x2), (3, .int x3)]) hx hb dX8_countPassing_51 hl (k := 4) rfl rfl (by decide) rfl (fun ls hl => ?_)
            refine lv_goto (tgt := 13) hx hb dX8_countPassing_54 (by decide) ?_
            exact hrc x2 (x4 + 1) _ _ _ hf (lv_sub hl [1, 2, 3, 4, 0] rfl) hw
          · replace hf := it_f hc hf
            refine lv_aload_n hx hb dX8_countPassing_37 rfl (lv_at hl 0 rfl) ?_
            refine lv_iload_n hx hb dX8_countPassing_38 rfl (lv_at hl 3 rfl) ?_
            refine lv_iload hx hb dX8_countPassing_39 (lv_at hl 4 rfl) ?_
            refine lv_iload_n hx hb dX8_countPassing_41 rfl (lv_at hl 1 rfl) ?_
            obtain ⟨r1, hq2, hf⟩ := b1_s hf
            refine h_cVi hC hw mvX8_39 (cn_X8_passes l G A_t A_t_planks A_t_least A_t_neighbours c_t_least x3 x4 x1 r1 hq2) [0, 1] rfl (by decide) 0 rfl rfl rfl hl.1 rfl (Nat.le_of_ble_eq_true rfl) ⟨Nat.le_of_ble_eq_true rfl, Nat.le_of_ble_eq_true rfl⟩ ⟨Nat.le_refl _, Nat.le_refl _⟩ dX8_countPassing_42 (fun H locs hw => ?_)
            refine lv_if_eq (tgt := 51) hx hb dX8_countPassing_45 (by decide) (fun hc => ?_) (fun hc => ?_)
            · replace hf := it_t hc hf
              refine lv_iinc (v := x4 + 1) (lv' := [(4, .int (x4 + 1)), (0, .ref A_t), (1, .int x1), (2, .int x2), (3, .int x3)]) hx hb dX8_countPassing_51 hl (k := 4) rfl rfl (by decide) rfl (fun ls hl => ?_)
              refine lv_goto (tgt := 13) hx hb dX8_countPassing_54 (by decide) ?_
              exact hrc x2 (x4 + 1) _ _ _ hf (lv_sub hl [1, 2, 3, 4, 0] rfl) hw
            · replace hf := it_f hc hf
              refine lv_iinc (v := x2 + 1) (lv' := [(2, .int (x2 + 1)), (0, .ref A_t), (1, .int x1), (3, .int x3), (4, .int x4)]) hx hb dX8_countPassing_48 hl (k := 2) rfl rfl (by decide) rfl (fun ls hl => ?_)
              refine lv_iinc (v := x4 + 1) (lv' := [(4, .int (x4 + 1)), (2, .int (x2 + 1)), (0, .ref A_t), (1, .int x1), (3, .int x3)]) hx hb dX8_countPassing_51 hl (k := 4) rfl rfl (by decide) rfl (fun ls hl => ?_)
              refine lv_goto (tgt := 13) hx hb dX8_countPassing_54 (by decide) ?_
              exact hrc (x2 + 1) (x4 + 1) _ _ _ hf (lv_sub hl [2, 3, 1, 4, 0] rfl) hw
set_option maxHeartbeats 4000000 in
set_option maxRecDepth 100000 in
theorem wn_X8_countPassing_l4 {p : Program} {l : Launch} {e : Env} {s : State} {m : MethodId} {args : Array Value} {below : List Frame} {meth : Method} {c : Code} {G : gw_} {A : Nat → Prop} {Q : State → Prop} {A_t : Nat} {A_t_planks : Nat} {A_t_least : Nat} {A_t_neighbours : Nat} {c_t_least : Nat → Int32} {r : Int32} {x1 : Int32} {k : Int32 → Option (Int32)} (hC : cx_ p s m c G cX8_countPassing 5 RX8) (hret : ∀ (pc : Nat) (H : Heap) (locs : List Loc) (ls : Array Slot), decode cX8_countPassing pc = .ok (.ireturn, 1) → wd_ G A s.heap (wl_X8_countPassing G A_t A_t_planks A_t_least A_t_neighbours c_t_least) H locs → W p l e { frames := 2, cells := 0, slots := 0, locals := 45 } s m args below meth c H locs 0 0 Q (F0 m pc ls [.int r])) (hk : ∀ (x2 : Int32) (H : Heap) (locs : List Loc) (ls : Array Slot), k x2 = some r → lv_has ls 5 [(2, .int x2)] → wd_ G A s.heap (wl_X8_countPassing G A_t A_t_planks A_t_least A_t_neighbours c_t_least) H locs → W p l e { frames := 2, cells := 0, slots := 0, locals := 45 } s m args below meth c H locs 0 0 Q (F0 m 63 ls [])) : ∀ (n : Nat) (x2 : Int32) (x3 : Int32) (H : Heap) (locs : List Loc) (ls : Array Slot), fn_X8_countPassing_l4 c_t_least x1 k n x2 x3 = some r → lv_has ls 5 [(0, .ref A_t), (1, .int x1), (2, .int x2), (3, .int x3)] → wd_ G A s.heap (wl_X8_countPassing G A_t A_t_planks A_t_least A_t_neighbours c_t_least) H locs → W p l e { frames := 2, cells := 0, slots := 0, locals := 45 } s m args below meth c H locs 0 0 Q (F0 m 4 ls []) := by
  have hx := hC.1
  have hb := hC.2.1
  intro n
  induction n with
  | zero =>
    intro x2 x3 H locs ls hf
    cases (show (none : Option (Int32)) = some _ from hf)
  | succ n hrc =>
    intro x2 x3 H locs ls hf hl hw
    replace hf : fn_X8_countPassing_b4 c_t_least x1 (fn_X8_countPassing_l4 c_t_least x1 k n) k x2 x3 = some r := hf
    unfold fn_X8_countPassing_b4 at hf
    refine lv_iload_n hx hb dX8_countPassing_4 rfl (lv_at hl 3 rfl) ?_
    refine lv_bipush (v := 12) hx hb dX8_countPassing_5 (by decide) ?_
    refine lv_icmp_ge (tgt := 63) hx hb dX8_countPassing_7 (by decide) (fun hc => ?_) (fun hc => ?_)
    · replace hf := it_t hc hf
      exact hk x2 _ _ _ hf (lv_sub hl [2] rfl) hw
    · replace hf := it_f hc hf
      refine lv_iconst (v := 0) hx hb dX8_countPassing_10 (by decide) ?_
      refine lv_istore (lv' := [(4, .int 0), (0, .ref A_t), (1, .int x1), (2, .int x2), (3, .int x3)]) hx hb dX8_countPassing_11 hl (by decide) rfl (fun ls hl => ?_)
      refine wn_X8_countPassing_l13 hC hret (fun v3 H locs ls hf hl hw => ?_) fu_ x2 0 _ _ _ hf (lv_sub hl [1, 2, 3, 4, 0] rfl) hw
      refine lv_iinc (v := x3 + 1) (lv' := [(3, .int (x3 + 1)), (0, .ref A_t), (1, .int x1), (2, .int v3)]) hx hb dX8_countPassing_57 hl (k := 3) rfl rfl (by decide) rfl (fun ls hl => ?_)
      refine lv_goto (tgt := 4) hx hb dX8_countPassing_60 (by decide) ?_
      exact hrc v3 (x3 + 1) _ _ _ hf (lv_sub hl [1, 2, 3, 0] rfl) hw
set_option maxHeartbeats 4000000 in
set_option maxRecDepth 100000 in
theorem wn_X8_countPassing {p : Program} {l : Launch} {e : Env} {s : State} {m : MethodId} {args : Array Value} {below : List Frame} {meth : Method} {c : Code} {G : gw_} {A : Nat → Prop} {Q : State → Prop} {A_t : Nat} {A_t_planks : Nat} {A_t_least : Nat} {A_t_neighbours : Nat} {c_t_least : Nat → Int32} {r : Int32} {x1 : Int32} (hC : cx_ p s m c G cX8_countPassing 5 RX8) (hret : ∀ (pc : Nat) (H : Heap) (locs : List Loc) (ls : Array Slot), decode cX8_countPassing pc = .ok (.ireturn, 1) → wd_ G A s.heap (wl_X8_countPassing G A_t A_t_planks A_t_least A_t_neighbours c_t_least) H locs → W p l e { frames := 2, cells := 0, slots := 0, locals := 45 } s m args below meth c H locs 0 0 Q (F0 m pc ls [.int r])) (hf : fn_X8_countPassing c_t_least x1 = some r) {H : Heap} {locs : List Loc} {ls : Array Slot} (hl : lv_has ls 5 [(0, .ref A_t), (1, .int x1)]) (hw : wd_ G A s.heap (wl_X8_countPassing G A_t A_t_planks A_t_least A_t_neighbours c_t_least) H locs) : W p l e { frames := 2, cells := 0, slots := 0, locals := 45 } s m args below meth c H locs 0 0 Q (F0 m 0 ls []) := by
  have hx := hC.1
  have hb := hC.2.1
  unfold fn_X8_countPassing at hf
  refine lv_iconst (v := 0) hx hb dX8_countPassing_0 (by decide) ?_
  refine lv_istore_n (lv' := [(2, .int 0), (0, .ref A_t), (1, .int x1)]) hx hb dX8_countPassing_1 rfl hl (by decide) rfl (fun ls hl => ?_)
  refine lv_iconst (v := 0) hx hb dX8_countPassing_2 (by decide) ?_
  refine lv_istore_n (lv' := [(3, .int 0), (2, .int 0), (0, .ref A_t), (1, .int x1)]) hx hb dX8_countPassing_3 rfl hl (by decide) rfl (fun ls hl => ?_)
  refine wn_X8_countPassing_l4 hC hret (fun v4 H locs ls hf hl hw => ?_) fu_ 0 0 _ _ _ hf (lv_sub hl [2, 3, 1, 0] rfl) hw
  refine lv_iload_n hx hb dX8_countPassing_63 rfl (lv_at hl 0 rfl) ?_
  have h1_ := t1_ hf
  subst h1_
  exact hret _ _ _ _ dX8_countPassing_64 hw
set_option maxHeartbeats 4000000 in
set_option maxRecDepth 100000 in
theorem cn_X8_countPassing (l : Launch) (G : gw_) (A_t : Nat) (A_t_planks : Nat) (A_t_least : Nat) (A_t_neighbours : Nat) (c_t_least : Nat → Int32) (x1 : Int32) (r : Int32) (hf : fn_X8_countPassing c_t_least x1 = some r) : ci_ l G yX8_countPassing cX8_countPassing 5 (some .int) 2 45 (wl_X8_countPassing G A_t A_t_planks A_t_least A_t_neighbours c_t_least) [.ref A_t, .int x1] r (wl_X8_countPassing G A_t A_t_planks A_t_least A_t_neighbours c_t_least) := fun sz => met_intro (by decide) (Nat.le_of_ble_eq_true rfl) (fun p e s m args below meth c ls hsz hC hr hlk hnm hl hw => wn_X8_countPassing hC (fun pc H locs ls hd hw => g_iret hC hr hlk hw rfl rfl hd) hf hl hw)

theorem dX8_reachWithout_0 : decode cX8_reachWithout 0 = .ok (.iconst 1, 1) := by decide +kernel
theorem dX8_reachWithout_1 : decode cX8_reachWithout 1 = .ok (.iload_n 1, 1) := by decide +kernel
theorem dX8_reachWithout_2 : decode cX8_reachWithout 2 = .ok (.ishl, 1) := by decide +kernel
theorem dX8_reachWithout_3 : decode cX8_reachWithout 3 = .ok (.aload_n 0, 1) := by decide +kernel
theorem dX8_reachWithout_4 : decode cX8_reachWithout 4 = .ok (.getfield 18, 3) := by decide +kernel
theorem dX8_reachWithout_7 : decode cX8_reachWithout 7 = .ok (.iload_n 1, 1) := by decide +kernel
theorem dX8_reachWithout_8 : decode cX8_reachWithout 8 = .ok (.iaload, 1) := by decide +kernel
theorem dX8_reachWithout_9 : decode cX8_reachWithout 9 = .ok (.iconst 1, 1) := by decide +kernel
theorem dX8_reachWithout_10 : decode cX8_reachWithout 10 = .ok (.iload_n 2, 1) := by decide +kernel
theorem dX8_reachWithout_11 : decode cX8_reachWithout 11 = .ok (.ishl, 1) := by decide +kernel
theorem dX8_reachWithout_12 : decode cX8_reachWithout 12 = .ok (.iconst (-1), 1) := by decide +kernel
theorem dX8_reachWithout_13 : decode cX8_reachWithout 13 = .ok (.ixor, 1) := by decide +kernel
theorem dX8_reachWithout_14 : decode cX8_reachWithout 14 = .ok (.iand, 1) := by decide +kernel
theorem dX8_reachWithout_15 : decode cX8_reachWithout 15 = .ok (.ior, 1) := by decide +kernel
theorem dX8_reachWithout_16 : decode cX8_reachWithout 16 = .ok (.istore_n 3, 1) := by decide +kernel
theorem dX8_reachWithout_17 : decode cX8_reachWithout 17 = .ok (.iconst 0, 1) := by decide +kernel
theorem dX8_reachWithout_18 : decode cX8_reachWithout 18 = .ok (.istore 4, 2) := by decide +kernel
theorem dX8_reachWithout_20 : decode cX8_reachWithout 20 = .ok (.iload 4, 2) := by decide +kernel
theorem dX8_reachWithout_22 : decode cX8_reachWithout 22 = .ok (.bipush 12, 2) := by decide +kernel
theorem dX8_reachWithout_24 : decode cX8_reachWithout 24 = .ok (.if_icmp .ge 70, 3) := by decide +kernel
theorem dX8_reachWithout_27 : decode cX8_reachWithout 27 = .ok (.iload_n 3, 1) := by decide +kernel
theorem dX8_reachWithout_28 : decode cX8_reachWithout 28 = .ok (.iload_n 2, 1) := by decide +kernel
theorem dX8_reachWithout_29 : decode cX8_reachWithout 29 = .ok (.invokestatic 47, 3) := by decide +kernel
theorem dX8_reachWithout_32 : decode cX8_reachWithout 32 = .ok (.ifCond .ne 62, 3) := by decide +kernel
theorem dX8_reachWithout_35 : decode cX8_reachWithout 35 = .ok (.iload_n 3, 1) := by decide +kernel
theorem dX8_reachWithout_36 : decode cX8_reachWithout 36 = .ok (.istore 5, 2) := by decide +kernel
theorem dX8_reachWithout_38 : decode cX8_reachWithout 38 = .ok (.iconst 0, 1) := by decide +kernel
theorem dX8_reachWithout_39 : decode cX8_reachWithout 39 = .ok (.istore 6, 2) := by decide +kernel
theorem dX8_reachWithout_41 : decode cX8_reachWithout 41 = .ok (.iload 6, 2) := by decide +kernel
theorem dX8_reachWithout_43 : decode cX8_reachWithout 43 = .ok (.bipush 12, 2) := by decide +kernel
theorem dX8_reachWithout_45 : decode cX8_reachWithout 45 = .ok (.if_icmp .ge 34, 3) := by decide +kernel
theorem dX8_reachWithout_48 : decode cX8_reachWithout 48 = .ok (.iload 6, 2) := by decide +kernel
theorem dX8_reachWithout_50 : decode cX8_reachWithout 50 = .ok (.iload_n 1, 1) := by decide +kernel
theorem dX8_reachWithout_51 : decode cX8_reachWithout 51 = .ok (.if_icmp .eq 22, 3) := by decide +kernel
theorem dX8_reachWithout_54 : decode cX8_reachWithout 54 = .ok (.iload_n 3, 1) := by decide +kernel
theorem dX8_reachWithout_55 : decode cX8_reachWithout 55 = .ok (.iload 6, 2) := by decide +kernel
theorem dX8_reachWithout_57 : decode cX8_reachWithout 57 = .ok (.invokestatic 47, 3) := by decide +kernel
theorem dX8_reachWithout_60 : decode cX8_reachWithout 60 = .ok (.ifCond .eq 13, 3) := by decide +kernel
theorem dX8_reachWithout_63 : decode cX8_reachWithout 63 = .ok (.iload_n 3, 1) := by decide +kernel
theorem dX8_reachWithout_64 : decode cX8_reachWithout 64 = .ok (.aload_n 0, 1) := by decide +kernel
theorem dX8_reachWithout_65 : decode cX8_reachWithout 65 = .ok (.getfield 18, 3) := by decide +kernel
theorem dX8_reachWithout_68 : decode cX8_reachWithout 68 = .ok (.iload 6, 2) := by decide +kernel
theorem dX8_reachWithout_70 : decode cX8_reachWithout 70 = .ok (.iaload, 1) := by decide +kernel
theorem dX8_reachWithout_71 : decode cX8_reachWithout 71 = .ok (.ior, 1) := by decide +kernel
theorem dX8_reachWithout_72 : decode cX8_reachWithout 72 = .ok (.istore_n 3, 1) := by decide +kernel
theorem dX8_reachWithout_73 : decode cX8_reachWithout 73 = .ok (.iinc 6 1, 3) := by decide +kernel
theorem dX8_reachWithout_76 : decode cX8_reachWithout 76 = .ok (.goto (-35), 3) := by decide +kernel
theorem dX8_reachWithout_79 : decode cX8_reachWithout 79 = .ok (.iload_n 3, 1) := by decide +kernel
theorem dX8_reachWithout_80 : decode cX8_reachWithout 80 = .ok (.iload 5, 2) := by decide +kernel
theorem dX8_reachWithout_82 : decode cX8_reachWithout 82 = .ok (.if_icmp .ne 6, 3) := by decide +kernel
theorem dX8_reachWithout_85 : decode cX8_reachWithout 85 = .ok (.goto 9, 3) := by decide +kernel
theorem dX8_reachWithout_88 : decode cX8_reachWithout 88 = .ok (.iinc 4 1, 3) := by decide +kernel
theorem dX8_reachWithout_91 : decode cX8_reachWithout 91 = .ok (.goto (-71), 3) := by decide +kernel
theorem dX8_reachWithout_94 : decode cX8_reachWithout 94 = .ok (.iload_n 3, 1) := by decide +kernel
theorem dX8_reachWithout_95 : decode cX8_reachWithout 95 = .ok (.ireturn, 1) := by decide +kernel
abbrev wl_X8_reachWithout (G : gw_) (A_t : Nat) (A_t_planks : Nat) (A_t_least : Nat) (A_t_neighbours : Nat) (c_t_neighbours : Nat → Int32) : va_W := [ob_ A_t 8 [.ref A_t_planks, .ref A_t_least, .ref A_t_neighbours], ia_ G A_t_neighbours 12 c_t_neighbours]
def fn_X8_reachWithout_b41 (c_t_neighbours : Nat → Int32) (x1 : Int32) (rc : Int32 → Int32 → Option (Int32)) (k : Int32 → Option (Int32)) (x3 : Int32) (x6 : Int32) : Option (Int32) :=
  if 12 ≤ x6 then
    k x3
  else
    if x6 = x1 then
      rc x3 (x6 + 1)
    else
      b1_ (fn_X9_isIn x3 x6) fun r4 =>
      if r4 = 0 then
        rc x3 (x6 + 1)
      else
        ck_ x6 12 <|
        lx_ (x3 ||| (c_t_neighbours (Int32.toNatClampNeg x6))) fun y6 =>
        rc y6 (x6 + 1)
def fn_X8_reachWithout_l41 (c_t_neighbours : Nat → Int32) (x1 : Int32) (k : Int32 → Option (Int32)) : Nat → Int32 → Int32 → Option (Int32)
  | 0 => fun _ _ => none
  | n + 1 => fun x3 x6 => fn_X8_reachWithout_b41 c_t_neighbours x1 (fn_X8_reachWithout_l41 c_t_neighbours x1 k n) k x3 x6
def fn_X8_reachWithout_b20 (c_t_neighbours : Nat → Int32) (x1 : Int32) (x2 : Int32) (rc : Int32 → Int32 → Option (Int32)) (k : Int32 → Option (Int32)) (x3 : Int32) (x4 : Int32) : Option (Int32) :=
  if 12 ≤ x4 then
    k x3
  else
    b1_ (fn_X9_isIn x3 x2) fun r2 =>
    if r2 = 0 then
      fn_X8_reachWithout_l41 c_t_neighbours x1 (fun v7 =>
        if v7 = x3 then
          k v7
        else
          rc v7 (x4 + 1)) fu_ x3 0
    else
      k x3
def fn_X8_reachWithout_l20 (c_t_neighbours : Nat → Int32) (x1 : Int32) (x2 : Int32) (k : Int32 → Option (Int32)) : Nat → Int32 → Int32 → Option (Int32)
  | 0 => fun _ _ => none
  | n + 1 => fun x3 x4 => fn_X8_reachWithout_b20 c_t_neighbours x1 x2 (fn_X8_reachWithout_l20 c_t_neighbours x1 x2 k n) k x3 x4
def fn_X8_reachWithout (c_t_neighbours : Nat → Int32) (x1 : Int32) (x2 : Int32) : Option (Int32) :=
  ck_ x1 12 <|
  lx_ ((1 <<< (x1 &&& 31)) ||| ((c_t_neighbours (Int32.toNatClampNeg x1)) &&& ((1 <<< (x2 &&& 31)) ^^^ (-1)))) fun y1 =>
  fn_X8_reachWithout_l20 c_t_neighbours x1 x2 (fun v8 =>
    some v8) fu_ y1 0
set_option maxHeartbeats 4000000 in
set_option maxRecDepth 100000 in
theorem wn_X8_reachWithout_l41 {p : Program} {l : Launch} {e : Env} {s : State} {m : MethodId} {args : Array Value} {below : List Frame} {meth : Method} {c : Code} {G : gw_} {A : Nat → Prop} {Q : State → Prop} {A_t : Nat} {A_t_planks : Nat} {A_t_least : Nat} {A_t_neighbours : Nat} {c_t_neighbours : Nat → Int32} {r : Int32} {x1 : Int32} {x2 : Int32} {x4 : Int32} {x5 : Int32} {k : Int32 → Option (Int32)} (hC : cx_ p s m c G cX8_reachWithout 7 RX8) (hret : ∀ (pc : Nat) (H : Heap) (locs : List Loc) (ls : Array Slot), decode cX8_reachWithout pc = .ok (.ireturn, 1) → wd_ G A s.heap (wl_X8_reachWithout G A_t A_t_planks A_t_least A_t_neighbours c_t_neighbours) H locs → W p l e { frames := 1, cells := 0, slots := 0, locals := 21 } s m args below meth c H locs 0 0 Q (F0 m pc ls [.int r])) (hk : ∀ (x3 : Int32) (H : Heap) (locs : List Loc) (ls : Array Slot), k x3 = some r → lv_has ls 7 [(0, .ref A_t), (1, .int x1), (2, .int x2), (3, .int x3), (4, .int x4), (5, .int x5)] → wd_ G A s.heap (wl_X8_reachWithout G A_t A_t_planks A_t_least A_t_neighbours c_t_neighbours) H locs → W p l e { frames := 1, cells := 0, slots := 0, locals := 21 } s m args below meth c H locs 0 0 Q (F0 m 79 ls [])) : ∀ (n : Nat) (x3 : Int32) (x6 : Int32) (H : Heap) (locs : List Loc) (ls : Array Slot), fn_X8_reachWithout_l41 c_t_neighbours x1 k n x3 x6 = some r → lv_has ls 7 [(0, .ref A_t), (1, .int x1), (2, .int x2), (3, .int x3), (4, .int x4), (5, .int x5), (6, .int x6)] → wd_ G A s.heap (wl_X8_reachWithout G A_t A_t_planks A_t_least A_t_neighbours c_t_neighbours) H locs → W p l e { frames := 1, cells := 0, slots := 0, locals := 21 } s m args below meth c H locs 0 0 Q (F0 m 41 ls []) := by
  have hx := hC.1
  have hb := hC.2.1
  intro n
  induction n with
  | zero =>
    intro x3 x6 H locs ls hf
    cases (show (none : Option (Int32)) = some _ from hf)
  | succ n hrc =>
    intro x3 x6 H locs ls hf hl hw
    replace hf : fn_X8_reachWithout_b41 c_t_neighbours x1 (fn_X8_reachWithout_l41 c_t_neighbours x1 k n) k x3 x6 = some r := hf
    unfold fn_X8_reachWithout_b41 at hf
    refine lv_iload hx hb dX8_reachWithout_41 (lv_at hl 6 rfl) ?_
    refine lv_bipush (v := 12) hx hb dX8_reachWithout_43 (by decide) ?_
    refine lv_icmp_ge (tgt := 79) hx hb dX8_reachWithout_45 (by decide) (fun hc => ?_) (fun hc => ?_)
    · replace hf := it_t hc hf
      exact hk x3 _ _ _ hf (lv_sub hl [0, 1, 2, 3, 4, 5] rfl) hw
    · replace hf := it_f hc hf
      refine lv_iload hx hb dX8_reachWithout_48 (lv_at hl 6 rfl) ?_
      refine lv_iload_n hx hb dX8_reachWithout_50 rfl (lv_at hl 1 rfl) ?_
      refine lv_icmp_eq (tgt := 73) hx hb dX8_reachWithout_51 (by decide) (fun hc => ?_) (fun hc => ?_)
      · replace hf := it_t hc hf
        refine lv_iinc (v := x6 + 1) (lv' := [(6, .int (x6 + 1)), (0, .ref A_t), (1, .int x1), (2, .int x2), (3, .int x3), (4, .int x4), (5, .int x5)]) hx hb dX8_reachWithout_73 hl (k := 6) rfl rfl (by decide) rfl (fun ls hl => ?_)
        refine lv_goto (tgt := 41) hx hb dX8_reachWithout_76 (by decide) ?_
        exact hrc x3 (x6 + 1) _ _ _ hf (lv_sub hl [1, 2, 3, 4, 5, 6, 0] rfl) hw
      · replace hf := it_f hc hf
        refine lv_iload_n hx hb dX8_reachWithout_54 rfl (lv_at hl 3 rfl) ?_
        refine lv_iload hx hb dX8_reachWithout_55 (lv_at hl 6 rfl) ?_
        obtain ⟨r4, hq5, hf⟩ := b1_s hf
        refine h_cSi hC hw msX8_47 (cn_X9_isIn l G x3 x6 r4 hq5) [] rfl (by decide) rfl hl.1 rfl (Nat.le_of_ble_eq_true rfl) ⟨Nat.le_of_ble_eq_true rfl, Nat.le_of_ble_eq_true rfl⟩ ⟨Nat.le_refl _, Nat.le_refl _⟩ dX8_reachWithout_57 (fun H locs hw => ?_)
        refine lv_if_eq (tgt := 73) hx hb dX8_reachWithout_60 (by decide) (fun hc => ?_) (fun hc => ?_)
        · replace hf := it_t hc hf
          refine lv_iinc (v := x6 + 1) (lv' := [(6, .int (x6 + 1)), (0, .ref A_t), (1, .int x1), (2, .int x2), (3, .int x3), (4, .int x4), (5, .int x5)]) hx hb dX8_reachWithout_73 hl (k := 6) rfl rfl (by decide) rfl (fun ls hl => ?_)
          refine lv_goto (tgt := 41) hx hb dX8_reachWithout_76 (by decide) ?_
          exact hrc x3 (x6 + 1) _ _ _ hf (lv_sub hl [1, 2, 3, 4, 5, 6, 0] rfl) hw
        · replace hf := it_f hc hf
          refine lv_iload_n hx hb dX8_reachWithout_63 rfl (lv_at hl 3 rfl) ?_
          refine lv_aload_n hx hb dX8_reachWithout_64 rfl (lv_at hl 0 rfl) ?_
          refine g_get hC hw fkX8_18 0 rfl rfl dX8_reachWithout_65 ?_
          refine lv_iload hx hb dX8_reachWithout_68 (lv_at hl 6 rfl) ?_
          obtain ⟨hi, hf⟩ := ck_s hf
          refine g_iald hC hw 1 rfl hi dX8_reachWithout_70 ?_
          refine lv_ior hx hb dX8_reachWithout_71 ?_
          obtain ⟨y6, ey6, hf⟩ := lx_s hf
          rw [← ey6]
          refine lv_istore_n (lv' := [(3, .int y6), (0, .ref A_t), (1, .int x1), (2, .int x2), (4, .int x4), (5, .int x5), (6, .int x6)]) hx hb dX8_reachWithout_72 rfl hl (by decide) rfl (fun ls hl => ?_)
          refine lv_iinc (v := x6 + 1) (lv' := [(6, .int (x6 + 1)), (3, .int y6), (0, .ref A_t), (1, .int x1), (2, .int x2), (4, .int x4), (5, .int x5)]) hx hb dX8_reachWithout_73 hl (k := 6) rfl rfl (by decide) rfl (fun ls hl => ?_)
          refine lv_goto (tgt := 41) hx hb dX8_reachWithout_76 (by decide) ?_
          exact hrc y6 (x6 + 1) _ _ _ hf (lv_sub hl [2, 3, 4, 1, 5, 6, 0] rfl) hw
set_option maxHeartbeats 4000000 in
set_option maxRecDepth 100000 in
theorem wn_X8_reachWithout_l20 {p : Program} {l : Launch} {e : Env} {s : State} {m : MethodId} {args : Array Value} {below : List Frame} {meth : Method} {c : Code} {G : gw_} {A : Nat → Prop} {Q : State → Prop} {A_t : Nat} {A_t_planks : Nat} {A_t_least : Nat} {A_t_neighbours : Nat} {c_t_neighbours : Nat → Int32} {r : Int32} {x1 : Int32} {x2 : Int32} {k : Int32 → Option (Int32)} (hC : cx_ p s m c G cX8_reachWithout 7 RX8) (hret : ∀ (pc : Nat) (H : Heap) (locs : List Loc) (ls : Array Slot), decode cX8_reachWithout pc = .ok (.ireturn, 1) → wd_ G A s.heap (wl_X8_reachWithout G A_t A_t_planks A_t_least A_t_neighbours c_t_neighbours) H locs → W p l e { frames := 1, cells := 0, slots := 0, locals := 21 } s m args below meth c H locs 0 0 Q (F0 m pc ls [.int r])) (hk : ∀ (x3 : Int32) (H : Heap) (locs : List Loc) (ls : Array Slot), k x3 = some r → lv_has ls 7 [(3, .int x3)] → wd_ G A s.heap (wl_X8_reachWithout G A_t A_t_planks A_t_least A_t_neighbours c_t_neighbours) H locs → W p l e { frames := 1, cells := 0, slots := 0, locals := 21 } s m args below meth c H locs 0 0 Q (F0 m 94 ls [])) : ∀ (n : Nat) (x3 : Int32) (x4 : Int32) (H : Heap) (locs : List Loc) (ls : Array Slot), fn_X8_reachWithout_l20 c_t_neighbours x1 x2 k n x3 x4 = some r → lv_has ls 7 [(0, .ref A_t), (1, .int x1), (2, .int x2), (3, .int x3), (4, .int x4)] → wd_ G A s.heap (wl_X8_reachWithout G A_t A_t_planks A_t_least A_t_neighbours c_t_neighbours) H locs → W p l e { frames := 1, cells := 0, slots := 0, locals := 21 } s m args below meth c H locs 0 0 Q (F0 m 20 ls []) := by
  have hx := hC.1
  have hb := hC.2.1
  intro n
  induction n with
  | zero =>
    intro x3 x4 H locs ls hf
    cases (show (none : Option (Int32)) = some _ from hf)
  | succ n hrc =>
    intro x3 x4 H locs ls hf hl hw
    replace hf : fn_X8_reachWithout_b20 c_t_neighbours x1 x2 (fn_X8_reachWithout_l20 c_t_neighbours x1 x2 k n) k x3 x4 = some r := hf
    unfold fn_X8_reachWithout_b20 at hf
    refine lv_iload hx hb dX8_reachWithout_20 (lv_at hl 4 rfl) ?_
    refine lv_bipush (v := 12) hx hb dX8_reachWithout_22 (by decide) ?_
    refine lv_icmp_ge (tgt := 94) hx hb dX8_reachWithout_24 (by decide) (fun hc => ?_) (fun hc => ?_)
    · replace hf := it_t hc hf
      exact hk x3 _ _ _ hf (lv_sub hl [3] rfl) hw
    · replace hf := it_f hc hf
      refine lv_iload_n hx hb dX8_reachWithout_27 rfl (lv_at hl 3 rfl) ?_
      refine lv_iload_n hx hb dX8_reachWithout_28 rfl (lv_at hl 2 rfl) ?_
      obtain ⟨r2, hq3, hf⟩ := b1_s hf
      refine h_cSi hC hw msX8_47 (cn_X9_isIn l G x3 x2 r2 hq3) [] rfl (by decide) rfl hl.1 rfl (Nat.le_of_ble_eq_true rfl) ⟨Nat.le_of_ble_eq_true rfl, Nat.le_of_ble_eq_true rfl⟩ ⟨Nat.le_refl _, Nat.le_refl _⟩ dX8_reachWithout_29 (fun H locs hw => ?_)
      refine lv_if_ne (tgt := 94) hx hb dX8_reachWithout_32 (by decide) (fun hc => ?_) (fun hc => ?_)
      · replace hf := it_f hc hf
        exact hk x3 _ _ _ hf (lv_sub hl [3] rfl) hw
      · replace hf := it_t hc hf
        refine lv_iload_n hx hb dX8_reachWithout_35 rfl (lv_at hl 3 rfl) ?_
        refine lv_istore (lv' := [(5, .int x3), (0, .ref A_t), (1, .int x1), (2, .int x2), (3, .int x3), (4, .int x4)]) hx hb dX8_reachWithout_36 hl (by decide) rfl (fun ls hl => ?_)
        refine lv_iconst (v := 0) hx hb dX8_reachWithout_38 (by decide) ?_
        refine lv_istore (lv' := [(6, .int 0), (5, .int x3), (0, .ref A_t), (1, .int x1), (2, .int x2), (3, .int x3), (4, .int x4)]) hx hb dX8_reachWithout_39 hl (by decide) rfl (fun ls hl => ?_)
        refine wn_X8_reachWithout_l41 hC hret (fun v7 H locs ls hf hl hw => ?_) fu_ x3 0 _ _ _ hf (lv_sub hl [2, 3, 4, 5, 6, 1, 0] rfl) hw
        refine lv_iload_n hx hb dX8_reachWithout_79 rfl (lv_at hl 3 rfl) ?_
        refine lv_iload hx hb dX8_reachWithout_80 (lv_at hl 5 rfl) ?_
        refine lv_icmp_ne (tgt := 88) hx hb dX8_reachWithout_82 (by decide) (fun hc => ?_) (fun hc => ?_)
        · replace hf := it_f hc hf
          refine lv_iinc (v := x4 + 1) (lv' := [(4, .int (x4 + 1)), (0, .ref A_t), (1, .int x1), (2, .int x2), (3, .int v7), (5, .int x3)]) hx hb dX8_reachWithout_88 hl (k := 4) rfl rfl (by decide) rfl (fun ls hl => ?_)
          refine lv_goto (tgt := 20) hx hb dX8_reachWithout_91 (by decide) ?_
          exact hrc v7 (x4 + 1) _ _ _ hf (lv_sub hl [1, 2, 3, 4, 0] rfl) hw
        · replace hf := it_t hc hf
          refine lv_goto (tgt := 94) hx hb dX8_reachWithout_85 (by decide) ?_
          exact hk v7 _ _ _ hf (lv_sub hl [3] rfl) hw
set_option maxHeartbeats 4000000 in
set_option maxRecDepth 100000 in
theorem wn_X8_reachWithout {p : Program} {l : Launch} {e : Env} {s : State} {m : MethodId} {args : Array Value} {below : List Frame} {meth : Method} {c : Code} {G : gw_} {A : Nat → Prop} {Q : State → Prop} {A_t : Nat} {A_t_planks : Nat} {A_t_least : Nat} {A_t_neighbours : Nat} {c_t_neighbours : Nat → Int32} {r : Int32} {x1 : Int32} {x2 : Int32} (hC : cx_ p s m c G cX8_reachWithout 7 RX8) (hret : ∀ (pc : Nat) (H : Heap) (locs : List Loc) (ls : Array Slot), decode cX8_reachWithout pc = .ok (.ireturn, 1) → wd_ G A s.heap (wl_X8_reachWithout G A_t A_t_planks A_t_least A_t_neighbours c_t_neighbours) H locs → W p l e { frames := 1, cells := 0, slots := 0, locals := 21 } s m args below meth c H locs 0 0 Q (F0 m pc ls [.int r])) (hf : fn_X8_reachWithout c_t_neighbours x1 x2 = some r) {H : Heap} {locs : List Loc} {ls : Array Slot} (hl : lv_has ls 7 [(0, .ref A_t), (1, .int x1), (2, .int x2)]) (hw : wd_ G A s.heap (wl_X8_reachWithout G A_t A_t_planks A_t_least A_t_neighbours c_t_neighbours) H locs) : W p l e { frames := 1, cells := 0, slots := 0, locals := 21 } s m args below meth c H locs 0 0 Q (F0 m 0 ls []) := by
  have hx := hC.1
  have hb := hC.2.1
  unfold fn_X8_reachWithout at hf
  refine lv_iconst (v := 1) hx hb dX8_reachWithout_0 (by decide) ?_
  refine lv_iload_n hx hb dX8_reachWithout_1 rfl (lv_at hl 1 rfl) ?_
  refine lv_ishl hx hb dX8_reachWithout_2 ?_
  refine lv_aload_n hx hb dX8_reachWithout_3 rfl (lv_at hl 0 rfl) ?_
  refine g_get hC hw fkX8_18 0 rfl rfl dX8_reachWithout_4 ?_
  refine lv_iload_n hx hb dX8_reachWithout_7 rfl (lv_at hl 1 rfl) ?_
  obtain ⟨hi, hf⟩ := ck_s hf
  refine g_iald hC hw 1 rfl hi dX8_reachWithout_8 ?_
  refine lv_iconst (v := 1) hx hb dX8_reachWithout_9 (by decide) ?_
  refine lv_iload_n hx hb dX8_reachWithout_10 rfl (lv_at hl 2 rfl) ?_
  refine lv_ishl hx hb dX8_reachWithout_11 ?_
  refine lv_iconst (v := (-1)) hx hb dX8_reachWithout_12 (by decide) ?_
  refine lv_ixor hx hb dX8_reachWithout_13 ?_
  refine lv_iand hx hb dX8_reachWithout_14 ?_
  refine lv_ior hx hb dX8_reachWithout_15 ?_
  obtain ⟨y1, ey1, hf⟩ := lx_s hf
  rw [← ey1]
  refine lv_istore_n (lv' := [(3, .int y1), (0, .ref A_t), (1, .int x1), (2, .int x2)]) hx hb dX8_reachWithout_16 rfl hl (by decide) rfl (fun ls hl => ?_)
  refine lv_iconst (v := 0) hx hb dX8_reachWithout_17 (by decide) ?_
  refine lv_istore (lv' := [(4, .int 0), (3, .int y1), (0, .ref A_t), (1, .int x1), (2, .int x2)]) hx hb dX8_reachWithout_18 hl (by decide) rfl (fun ls hl => ?_)
  refine wn_X8_reachWithout_l20 hC hret (fun v8 H locs ls hf hl hw => ?_) fu_ y1 0 _ _ _ hf (lv_sub hl [2, 3, 4, 1, 0] rfl) hw
  refine lv_iload_n hx hb dX8_reachWithout_94 rfl (lv_at hl 0 rfl) ?_
  have h1_ := t1_ hf
  subst h1_
  exact hret _ _ _ _ dX8_reachWithout_95 hw
set_option maxHeartbeats 4000000 in
set_option maxRecDepth 100000 in
theorem cn_X8_reachWithout (l : Launch) (G : gw_) (A_t : Nat) (A_t_planks : Nat) (A_t_least : Nat) (A_t_neighbours : Nat) (c_t_neighbours : Nat → Int32) (x1 : Int32) (x2 : Int32) (r : Int32) (hf : fn_X8_reachWithout c_t_neighbours x1 x2 = some r) : ci_ l G yX8_reachWithout cX8_reachWithout 7 (some .int) 1 21 (wl_X8_reachWithout G A_t A_t_planks A_t_least A_t_neighbours c_t_neighbours) [.ref A_t, .int x1, .int x2] r (wl_X8_reachWithout G A_t A_t_planks A_t_least A_t_neighbours c_t_neighbours) := fun sz => met_intro (by decide) (Nat.le_of_ble_eq_true rfl) (fun p e s m args below meth c ls hsz hC hr hlk hnm hl hw => wn_X8_reachWithout hC (fun pc H locs ls hd hw => g_iret hC hr hlk hw rfl rfl hd) hf hl hw)

theorem dX8_isDeciding_0 : decode cX8_isDeciding 0 = .ok (.iload_n 1, 1) := by decide +kernel
theorem dX8_isDeciding_1 : decode cX8_isDeciding 1 = .ok (.iload_n 2, 1) := by decide +kernel
theorem dX8_isDeciding_2 : decode cX8_isDeciding 2 = .ok (.if_icmp .ge 33, 3) := by decide +kernel
theorem dX8_isDeciding_5 : decode cX8_isDeciding 5 = .ok (.aload_n 0, 1) := by decide +kernel
theorem dX8_isDeciding_6 : decode cX8_isDeciding 6 = .ok (.getfield 18, 3) := by decide +kernel
theorem dX8_isDeciding_9 : decode cX8_isDeciding 9 = .ok (.iload_n 1, 1) := by decide +kernel
theorem dX8_isDeciding_10 : decode cX8_isDeciding 10 = .ok (.iaload, 1) := by decide +kernel
theorem dX8_isDeciding_11 : decode cX8_isDeciding 11 = .ok (.iload_n 2, 1) := by decide +kernel
theorem dX8_isDeciding_12 : decode cX8_isDeciding 12 = .ok (.invokestatic 47, 3) := by decide +kernel
theorem dX8_isDeciding_15 : decode cX8_isDeciding 15 = .ok (.ifCond .eq 20, 3) := by decide +kernel
theorem dX8_isDeciding_18 : decode cX8_isDeciding 18 = .ok (.aload_n 0, 1) := by decide +kernel
theorem dX8_isDeciding_19 : decode cX8_isDeciding 19 = .ok (.iload_n 1, 1) := by decide +kernel
theorem dX8_isDeciding_20 : decode cX8_isDeciding 20 = .ok (.iload_n 2, 1) := by decide +kernel
theorem dX8_isDeciding_21 : decode cX8_isDeciding 21 = .ok (.invokevirtual 50, 3) := by decide +kernel
theorem dX8_isDeciding_24 : decode cX8_isDeciding 24 = .ok (.iload_n 2, 1) := by decide +kernel
theorem dX8_isDeciding_25 : decode cX8_isDeciding 25 = .ok (.invokestatic 47, 3) := by decide +kernel
theorem dX8_isDeciding_28 : decode cX8_isDeciding 28 = .ok (.ifCond .ne 7, 3) := by decide +kernel
theorem dX8_isDeciding_31 : decode cX8_isDeciding 31 = .ok (.iconst 1, 1) := by decide +kernel
theorem dX8_isDeciding_32 : decode cX8_isDeciding 32 = .ok (.goto 4, 3) := by decide +kernel
theorem dX8_isDeciding_35 : decode cX8_isDeciding 35 = .ok (.iconst 0, 1) := by decide +kernel
theorem dX8_isDeciding_36 : decode cX8_isDeciding 36 = .ok (.ireturn, 1) := by decide +kernel
abbrev wl_X8_isDeciding (G : gw_) (A_t : Nat) (A_t_planks : Nat) (A_t_least : Nat) (A_t_neighbours : Nat) (c_t_neighbours : Nat → Int32) : va_W := [ob_ A_t 8 [.ref A_t_planks, .ref A_t_least, .ref A_t_neighbours], ia_ G A_t_neighbours 12 c_t_neighbours]
def fn_X8_isDeciding (c_t_neighbours : Nat → Int32) (x1 : Int32) (x2 : Int32) : Option (Int32) :=
  if x2 ≤ x1 then
    some 0
  else
    ck_ x1 12 <|
    b1_ (fn_X9_isIn (c_t_neighbours (Int32.toNatClampNeg x1)) x2) fun r1 =>
    if r1 = 0 then
      some 0
    else
      b1_ (fn_X8_reachWithout c_t_neighbours x1 x2) fun r3 =>
      b1_ (fn_X9_isIn r3 x2) fun r5 =>
      if r5 = 0 then
        some 1
      else
        some 0
set_option maxHeartbeats 4000000 in
set_option maxRecDepth 100000 in
theorem wn_X8_isDeciding {p : Program} {l : Launch} {e : Env} {s : State} {m : MethodId} {args : Array Value} {below : List Frame} {meth : Method} {c : Code} {G : gw_} {A : Nat → Prop} {Q : State → Prop} {A_t : Nat} {A_t_planks : Nat} {A_t_least : Nat} {A_t_neighbours : Nat} {c_t_neighbours : Nat → Int32} {r : Int32} {x1 : Int32} {x2 : Int32} (hC : cx_ p s m c G cX8_isDeciding 3 RX8) (hret : ∀ (pc : Nat) (H : Heap) (locs : List Loc) (ls : Array Slot), narrow .boolean (.int r) = .int r → decode cX8_isDeciding pc = .ok (.ireturn, 1) → wd_ G A s.heap (wl_X8_isDeciding G A_t A_t_planks A_t_least A_t_neighbours c_t_neighbours) H locs → W p l e { frames := 2, cells := 0, slots := 0, locals := 47 } s m args below meth c H locs 0 0 Q (F0 m pc ls [.int r])) (hf : fn_X8_isDeciding c_t_neighbours x1 x2 = some r) {H : Heap} {locs : List Loc} {ls : Array Slot} (hl : lv_has ls 3 [(0, .ref A_t), (1, .int x1), (2, .int x2)]) (hw : wd_ G A s.heap (wl_X8_isDeciding G A_t A_t_planks A_t_least A_t_neighbours c_t_neighbours) H locs) : W p l e { frames := 2, cells := 0, slots := 0, locals := 47 } s m args below meth c H locs 0 0 Q (F0 m 0 ls []) := by
  have hx := hC.1
  have hb := hC.2.1
  unfold fn_X8_isDeciding at hf
  refine lv_iload_n hx hb dX8_isDeciding_0 rfl (lv_at hl 1 rfl) ?_
  refine lv_iload_n hx hb dX8_isDeciding_1 rfl (lv_at hl 2 rfl) ?_
  refine lv_icmp_ge (tgt := 35) hx hb dX8_isDeciding_2 (by decide) (fun hc => ?_) (fun hc => ?_)
  · replace hf := it_t hc hf
    refine lv_iconst (v := 0) hx hb dX8_isDeciding_35 (by decide) ?_
    have h1_ := t1_ hf
    subst h1_
    exact hret _ _ _ _ rfl dX8_isDeciding_36 hw
  · replace hf := it_f hc hf
    refine lv_aload_n hx hb dX8_isDeciding_5 rfl (lv_at hl 0 rfl) ?_
    refine g_get hC hw fkX8_18 0 rfl rfl dX8_isDeciding_6 ?_
    refine lv_iload_n hx hb dX8_isDeciding_9 rfl (lv_at hl 1 rfl) ?_
    obtain ⟨hi, hf⟩ := ck_s hf
    refine g_iald hC hw 1 rfl hi dX8_isDeciding_10 ?_
    refine lv_iload_n hx hb dX8_isDeciding_11 rfl (lv_at hl 2 rfl) ?_
    obtain ⟨r1, hq2, hf⟩ := b1_s hf
    refine h_cSi hC hw msX8_47 (cn_X9_isIn l G (c_t_neighbours (Int32.toNatClampNeg x1)) x2 r1 hq2) [] rfl (by decide) rfl hl.1 rfl (Nat.le_of_ble_eq_true rfl) ⟨Nat.le_of_ble_eq_true rfl, Nat.le_of_ble_eq_true rfl⟩ ⟨Nat.le_refl _, Nat.le_refl _⟩ dX8_isDeciding_12 (fun H locs hw => ?_)
    refine lv_if_eq (tgt := 35) hx hb dX8_isDeciding_15 (by decide) (fun hc => ?_) (fun hc => ?_)
    · replace hf := it_t hc hf
      refine lv_iconst (v := 0) hx hb dX8_isDeciding_35 (by decide) ?_
      have h1_ := t1_ hf
      subst h1_
      exact hret _ _ _ _ rfl dX8_isDeciding_36 hw
    · replace hf := it_f hc hf
      refine lv_aload_n hx hb dX8_isDeciding_18 rfl (lv_at hl 0 rfl) ?_
      refine lv_iload_n hx hb dX8_isDeciding_19 rfl (lv_at hl 1 rfl) ?_
      refine lv_iload_n hx hb dX8_isDeciding_20 rfl (lv_at hl 2 rfl) ?_
      obtain ⟨r3, hq4, hf⟩ := b1_s hf
      refine h_cVi hC hw mvX8_50 (cn_X8_reachWithout l G A_t A_t_planks A_t_least A_t_neighbours c_t_neighbours x1 x2 r3 hq4) [0, 1] rfl (by decide) 0 rfl rfl rfl hl.1 rfl (Nat.le_of_ble_eq_true rfl) ⟨Nat.le_of_ble_eq_true rfl, Nat.le_of_ble_eq_true rfl⟩ ⟨Nat.le_refl _, Nat.le_refl _⟩ dX8_isDeciding_21 (fun H locs hw => ?_)
      refine lv_iload_n hx hb dX8_isDeciding_24 rfl (lv_at hl 2 rfl) ?_
      obtain ⟨r5, hq6, hf⟩ := b1_s hf
      refine h_cSi hC hw msX8_47 (cn_X9_isIn l G r3 x2 r5 hq6) [] rfl (by decide) rfl hl.1 rfl (Nat.le_of_ble_eq_true rfl) ⟨Nat.le_of_ble_eq_true rfl, Nat.le_of_ble_eq_true rfl⟩ ⟨Nat.le_refl _, Nat.le_refl _⟩ dX8_isDeciding_25 (fun H locs hw => ?_)
      refine lv_if_ne (tgt := 35) hx hb dX8_isDeciding_28 (by decide) (fun hc => ?_) (fun hc => ?_)
      · replace hf := it_f hc hf
        refine lv_iconst (v := 0) hx hb dX8_isDeciding_35 (by decide) ?_
        have h1_ := t1_ hf
        subst h1_
        exact hret _ _ _ _ rfl dX8_isDeciding_36 hw
      · replace hf := it_t hc hf
        refine lv_iconst (v := 1) hx hb dX8_isDeciding_31 (by decide) ?_
        refine lv_goto (tgt := 36) hx hb dX8_isDeciding_32 (by decide) ?_
        have h1_ := t1_ hf
        subst h1_
        exact hret _ _ _ _ rfl dX8_isDeciding_36 hw
set_option maxHeartbeats 4000000 in
set_option maxRecDepth 100000 in
theorem cn_X8_isDeciding (l : Launch) (G : gw_) (A_t : Nat) (A_t_planks : Nat) (A_t_least : Nat) (A_t_neighbours : Nat) (c_t_neighbours : Nat → Int32) (x1 : Int32) (x2 : Int32) (r : Int32) (hf : fn_X8_isDeciding c_t_neighbours x1 x2 = some r) : ci_ l G yX8_isDeciding cX8_isDeciding 3 (some .boolean) 2 47 (wl_X8_isDeciding G A_t A_t_planks A_t_least A_t_neighbours c_t_neighbours) [.ref A_t, .int x1, .int x2] r (wl_X8_isDeciding G A_t A_t_planks A_t_least A_t_neighbours c_t_neighbours) := fun sz => met_intro (by decide) (Nat.le_of_ble_eq_true rfl) (fun p e s m args below meth c ls hsz hC hr hlk hnm hl hw => wn_X8_isDeciding hC (fun pc H locs ls hn hd hw => g_iret hC hr hlk hw rfl hn hd) hf hl hw)

theorem dX8_countDeciding_0 : decode cX8_countDeciding 0 = .ok (.iconst 0, 1) := by decide +kernel
theorem dX8_countDeciding_1 : decode cX8_countDeciding 1 = .ok (.istore_n 1, 1) := by decide +kernel
theorem dX8_countDeciding_2 : decode cX8_countDeciding 2 = .ok (.iconst 0, 1) := by decide +kernel
theorem dX8_countDeciding_3 : decode cX8_countDeciding 3 = .ok (.istore_n 2, 1) := by decide +kernel
theorem dX8_countDeciding_4 : decode cX8_countDeciding 4 = .ok (.iload_n 2, 1) := by decide +kernel
theorem dX8_countDeciding_5 : decode cX8_countDeciding 5 = .ok (.sipush 144, 3) := by decide +kernel
theorem dX8_countDeciding_8 : decode cX8_countDeciding 8 = .ok (.if_icmp .ge 27, 3) := by decide +kernel
theorem dX8_countDeciding_11 : decode cX8_countDeciding 11 = .ok (.aload_n 0, 1) := by decide +kernel
theorem dX8_countDeciding_12 : decode cX8_countDeciding 12 = .ok (.iload_n 2, 1) := by decide +kernel
theorem dX8_countDeciding_13 : decode cX8_countDeciding 13 = .ok (.bipush 12, 2) := by decide +kernel
theorem dX8_countDeciding_15 : decode cX8_countDeciding 15 = .ok (.idiv, 1) := by decide +kernel
theorem dX8_countDeciding_16 : decode cX8_countDeciding 16 = .ok (.iload_n 2, 1) := by decide +kernel
theorem dX8_countDeciding_17 : decode cX8_countDeciding 17 = .ok (.bipush 12, 2) := by decide +kernel
theorem dX8_countDeciding_19 : decode cX8_countDeciding 19 = .ok (.irem, 1) := by decide +kernel
theorem dX8_countDeciding_20 : decode cX8_countDeciding 20 = .ok (.invokevirtual 43, 3) := by decide +kernel
theorem dX8_countDeciding_23 : decode cX8_countDeciding 23 = .ok (.ifCond .eq 6, 3) := by decide +kernel
theorem dX8_countDeciding_26 : decode cX8_countDeciding 26 = .ok (.iinc 1 1, 3) := by decide +kernel
theorem dX8_countDeciding_29 : decode cX8_countDeciding 29 = .ok (.iinc 2 1, 3) := by decide +kernel
theorem dX8_countDeciding_32 : decode cX8_countDeciding 32 = .ok (.goto (-28), 3) := by decide +kernel
theorem dX8_countDeciding_35 : decode cX8_countDeciding 35 = .ok (.iload_n 1, 1) := by decide +kernel
theorem dX8_countDeciding_36 : decode cX8_countDeciding 36 = .ok (.ireturn, 1) := by decide +kernel
abbrev wl_X8_countDeciding (G : gw_) (A_t : Nat) (A_t_planks : Nat) (A_t_least : Nat) (A_t_neighbours : Nat) (c_t_neighbours : Nat → Int32) : va_W := [ob_ A_t 8 [.ref A_t_planks, .ref A_t_least, .ref A_t_neighbours], ia_ G A_t_neighbours 12 c_t_neighbours]
def fn_X8_countDeciding_b4 (c_t_neighbours : Nat → Int32) (rc : Int32 → Int32 → Option (Int32)) (k : Int32 → Option (Int32)) (x1 : Int32) (x2 : Int32) : Option (Int32) :=
  if 144 ≤ x2 then
    k x1
  else
    b1_ (fn_X8_isDeciding c_t_neighbours (x2 / 12) (x2 - x2 / 12 * 12)) fun r1 =>
    if r1 = 0 then
      rc x1 (x2 + 1)
    else
      rc (x1 + 1) (x2 + 1)
def fn_X8_countDeciding_l4 (c_t_neighbours : Nat → Int32) (k : Int32 → Option (Int32)) : Nat → Int32 → Int32 → Option (Int32)
  | 0 => fun _ _ => none
  | n + 1 => fun x1 x2 => fn_X8_countDeciding_b4 c_t_neighbours (fn_X8_countDeciding_l4 c_t_neighbours k n) k x1 x2
def fn_X8_countDeciding (c_t_neighbours : Nat → Int32) : Option (Int32) :=
  fn_X8_countDeciding_l4 c_t_neighbours (fun v3 =>
    some v3) fu_ 0 0
set_option maxHeartbeats 4000000 in
set_option maxRecDepth 100000 in
theorem wn_X8_countDeciding_l4 {p : Program} {l : Launch} {e : Env} {s : State} {m : MethodId} {args : Array Value} {below : List Frame} {meth : Method} {c : Code} {G : gw_} {A : Nat → Prop} {Q : State → Prop} {A_t : Nat} {A_t_planks : Nat} {A_t_least : Nat} {A_t_neighbours : Nat} {c_t_neighbours : Nat → Int32} {r : Int32} {k : Int32 → Option (Int32)} (hC : cx_ p s m c G cX8_countDeciding 3 RX8) (hret : ∀ (pc : Nat) (H : Heap) (locs : List Loc) (ls : Array Slot), decode cX8_countDeciding pc = .ok (.ireturn, 1) → wd_ G A s.heap (wl_X8_countDeciding G A_t A_t_planks A_t_least A_t_neighbours c_t_neighbours) H locs → W p l e { frames := 3, cells := 0, slots := 0, locals := 69 } s m args below meth c H locs 0 0 Q (F0 m pc ls [.int r])) (hk : ∀ (x1 : Int32) (H : Heap) (locs : List Loc) (ls : Array Slot), k x1 = some r → lv_has ls 3 [(1, .int x1)] → wd_ G A s.heap (wl_X8_countDeciding G A_t A_t_planks A_t_least A_t_neighbours c_t_neighbours) H locs → W p l e { frames := 3, cells := 0, slots := 0, locals := 69 } s m args below meth c H locs 0 0 Q (F0 m 35 ls [])) : ∀ (n : Nat) (x1 : Int32) (x2 : Int32) (H : Heap) (locs : List Loc) (ls : Array Slot), fn_X8_countDeciding_l4 c_t_neighbours k n x1 x2 = some r → lv_has ls 3 [(0, .ref A_t), (1, .int x1), (2, .int x2)] → wd_ G A s.heap (wl_X8_countDeciding G A_t A_t_planks A_t_least A_t_neighbours c_t_neighbours) H locs → W p l e { frames := 3, cells := 0, slots := 0, locals := 69 } s m args below meth c H locs 0 0 Q (F0 m 4 ls []) := by
  have hx := hC.1
  have hb := hC.2.1
  intro n
  induction n with
  | zero =>
    intro x1 x2 H locs ls hf
    cases (show (none : Option (Int32)) = some _ from hf)
  | succ n hrc =>
    intro x1 x2 H locs ls hf hl hw
    replace hf : fn_X8_countDeciding_b4 c_t_neighbours (fn_X8_countDeciding_l4 c_t_neighbours k n) k x1 x2 = some r := hf
    unfold fn_X8_countDeciding_b4 at hf
    refine lv_iload_n hx hb dX8_countDeciding_4 rfl (lv_at hl 2 rfl) ?_
    refine lv_sipush (v := 144) hx hb dX8_countDeciding_5 (by decide) ?_
    refine lv_icmp_ge (tgt := 35) hx hb dX8_countDeciding_8 (by decide) (fun hc => ?_) (fun hc => ?_)
    · replace hf := it_t hc hf
      exact hk x1 _ _ _ hf (lv_sub hl [1] rfl) hw
    · replace hf := it_f hc hf
      refine lv_aload_n hx hb dX8_countDeciding_11 rfl (lv_at hl 0 rfl) ?_
      refine lv_iload_n hx hb dX8_countDeciding_12 rfl (lv_at hl 2 rfl) ?_
      refine lv_bipush (v := 12) hx hb dX8_countDeciding_13 (by decide) ?_
      refine lv_idiv hx hb dX8_countDeciding_15 (by decide) ?_
      refine lv_iload_n hx hb dX8_countDeciding_16 rfl (lv_at hl 2 rfl) ?_
      refine lv_bipush (v := 12) hx hb dX8_countDeciding_17 (by decide) ?_
      refine lv_irem hx hb dX8_countDeciding_19 (by decide) ?_
      obtain ⟨r1, hq2, hf⟩ := b1_s hf
      refine h_cVi hC hw mvX8_43 (cn_X8_isDeciding l G A_t A_t_planks A_t_least A_t_neighbours c_t_neighbours (x2 / 12) (x2 - x2 / 12 * 12) r1 hq2) [0, 1] rfl (by decide) 0 rfl rfl rfl hl.1 rfl (Nat.le_of_ble_eq_true rfl) ⟨Nat.le_of_ble_eq_true rfl, Nat.le_of_ble_eq_true rfl⟩ ⟨Nat.le_refl _, Nat.le_refl _⟩ dX8_countDeciding_20 (fun H locs hw => ?_)
      refine lv_if_eq (tgt := 29) hx hb dX8_countDeciding_23 (by decide) (fun hc => ?_) (fun hc => ?_)
      · replace hf := it_t hc hf
        refine lv_iinc (v := x2 + 1) (lv' := [(2, .int (x2 + 1)), (0, .ref A_t), (1, .int x1)]) hx hb dX8_countDeciding_29 hl (k := 2) rfl rfl (by decide) rfl (fun ls hl => ?_)
        refine lv_goto (tgt := 4) hx hb dX8_countDeciding_32 (by decide) ?_
        exact hrc x1 (x2 + 1) _ _ _ hf (lv_sub hl [1, 2, 0] rfl) hw
      · replace hf := it_f hc hf
        refine lv_iinc (v := x1 + 1) (lv' := [(1, .int (x1 + 1)), (0, .ref A_t), (2, .int x2)]) hx hb dX8_countDeciding_26 hl (k := 1) rfl rfl (by decide) rfl (fun ls hl => ?_)
        refine lv_iinc (v := x2 + 1) (lv' := [(2, .int (x2 + 1)), (1, .int (x1 + 1)), (0, .ref A_t)]) hx hb dX8_countDeciding_29 hl (k := 2) rfl rfl (by decide) rfl (fun ls hl => ?_)
        refine lv_goto (tgt := 4) hx hb dX8_countDeciding_32 (by decide) ?_
        exact hrc (x1 + 1) (x2 + 1) _ _ _ hf (lv_sub hl [2, 1, 0] rfl) hw
set_option maxHeartbeats 4000000 in
set_option maxRecDepth 100000 in
theorem wn_X8_countDeciding {p : Program} {l : Launch} {e : Env} {s : State} {m : MethodId} {args : Array Value} {below : List Frame} {meth : Method} {c : Code} {G : gw_} {A : Nat → Prop} {Q : State → Prop} {A_t : Nat} {A_t_planks : Nat} {A_t_least : Nat} {A_t_neighbours : Nat} {c_t_neighbours : Nat → Int32} {r : Int32} (hC : cx_ p s m c G cX8_countDeciding 3 RX8) (hret : ∀ (pc : Nat) (H : Heap) (locs : List Loc) (ls : Array Slot), decode cX8_countDeciding pc = .ok (.ireturn, 1) → wd_ G A s.heap (wl_X8_countDeciding G A_t A_t_planks A_t_least A_t_neighbours c_t_neighbours) H locs → W p l e { frames := 3, cells := 0, slots := 0, locals := 69 } s m args below meth c H locs 0 0 Q (F0 m pc ls [.int r])) (hf : fn_X8_countDeciding c_t_neighbours = some r) {H : Heap} {locs : List Loc} {ls : Array Slot} (hl : lv_has ls 3 [(0, .ref A_t)]) (hw : wd_ G A s.heap (wl_X8_countDeciding G A_t A_t_planks A_t_least A_t_neighbours c_t_neighbours) H locs) : W p l e { frames := 3, cells := 0, slots := 0, locals := 69 } s m args below meth c H locs 0 0 Q (F0 m 0 ls []) := by
  have hx := hC.1
  have hb := hC.2.1
  unfold fn_X8_countDeciding at hf
  refine lv_iconst (v := 0) hx hb dX8_countDeciding_0 (by decide) ?_
  refine lv_istore_n (lv' := [(1, .int 0), (0, .ref A_t)]) hx hb dX8_countDeciding_1 rfl hl (by decide) rfl (fun ls hl => ?_)
  refine lv_iconst (v := 0) hx hb dX8_countDeciding_2 (by decide) ?_
  refine lv_istore_n (lv' := [(2, .int 0), (1, .int 0), (0, .ref A_t)]) hx hb dX8_countDeciding_3 rfl hl (by decide) rfl (fun ls hl => ?_)
  refine wn_X8_countDeciding_l4 hC hret (fun v3 H locs ls hf hl hw => ?_) fu_ 0 0 _ _ _ hf (lv_sub hl [2, 1, 0] rfl) hw
  refine lv_iload_n hx hb dX8_countDeciding_35 rfl (lv_at hl 0 rfl) ?_
  have h1_ := t1_ hf
  subst h1_
  exact hret _ _ _ _ dX8_countDeciding_36 hw
set_option maxHeartbeats 4000000 in
set_option maxRecDepth 100000 in
theorem cn_X8_countDeciding (l : Launch) (G : gw_) (A_t : Nat) (A_t_planks : Nat) (A_t_least : Nat) (A_t_neighbours : Nat) (c_t_neighbours : Nat → Int32) (r : Int32) (hf : fn_X8_countDeciding c_t_neighbours = some r) : ci_ l G yX8_countDeciding cX8_countDeciding 3 (some .int) 3 69 (wl_X8_countDeciding G A_t A_t_planks A_t_least A_t_neighbours c_t_neighbours) [.ref A_t] r (wl_X8_countDeciding G A_t A_t_planks A_t_least A_t_neighbours c_t_neighbours) := fun sz => met_intro (by decide) (Nat.le_of_ble_eq_true rfl) (fun p e s m args below meth c ls hsz hC hr hlk hnm hl hw => wn_X8_countDeciding hC (fun pc H locs ls hd hw => g_iret hC hr hlk hw rfl rfl hd) hf hl hw)

theorem dX8_nthDeciding_0 : decode cX8_nthDeciding 0 = .ok (.iconst 0, 1) := by decide +kernel
theorem dX8_nthDeciding_1 : decode cX8_nthDeciding 1 = .ok (.istore_n 2, 1) := by decide +kernel
theorem dX8_nthDeciding_2 : decode cX8_nthDeciding 2 = .ok (.iconst 0, 1) := by decide +kernel
theorem dX8_nthDeciding_3 : decode cX8_nthDeciding 3 = .ok (.istore_n 3, 1) := by decide +kernel
theorem dX8_nthDeciding_4 : decode cX8_nthDeciding 4 = .ok (.iload_n 3, 1) := by decide +kernel
theorem dX8_nthDeciding_5 : decode cX8_nthDeciding 5 = .ok (.sipush 144, 3) := by decide +kernel
theorem dX8_nthDeciding_8 : decode cX8_nthDeciding 8 = .ok (.if_icmp .ge 34, 3) := by decide +kernel
theorem dX8_nthDeciding_11 : decode cX8_nthDeciding 11 = .ok (.aload_n 0, 1) := by decide +kernel
theorem dX8_nthDeciding_12 : decode cX8_nthDeciding 12 = .ok (.iload_n 3, 1) := by decide +kernel
theorem dX8_nthDeciding_13 : decode cX8_nthDeciding 13 = .ok (.bipush 12, 2) := by decide +kernel
theorem dX8_nthDeciding_15 : decode cX8_nthDeciding 15 = .ok (.idiv, 1) := by decide +kernel
theorem dX8_nthDeciding_16 : decode cX8_nthDeciding 16 = .ok (.iload_n 3, 1) := by decide +kernel
theorem dX8_nthDeciding_17 : decode cX8_nthDeciding 17 = .ok (.bipush 12, 2) := by decide +kernel
theorem dX8_nthDeciding_19 : decode cX8_nthDeciding 19 = .ok (.irem, 1) := by decide +kernel
theorem dX8_nthDeciding_20 : decode cX8_nthDeciding 20 = .ok (.invokevirtual 43, 3) := by decide +kernel
theorem dX8_nthDeciding_23 : decode cX8_nthDeciding 23 = .ok (.ifCond .eq 13, 3) := by decide +kernel
theorem dX8_nthDeciding_26 : decode cX8_nthDeciding 26 = .ok (.iload_n 2, 1) := by decide +kernel
theorem dX8_nthDeciding_27 : decode cX8_nthDeciding 27 = .ok (.iload_n 1, 1) := by decide +kernel
theorem dX8_nthDeciding_28 : decode cX8_nthDeciding 28 = .ok (.if_icmp .ne 5, 3) := by decide +kernel
theorem dX8_nthDeciding_31 : decode cX8_nthDeciding 31 = .ok (.iload_n 3, 1) := by decide +kernel
theorem dX8_nthDeciding_32 : decode cX8_nthDeciding 32 = .ok (.ireturn, 1) := by decide +kernel
theorem dX8_nthDeciding_33 : decode cX8_nthDeciding 33 = .ok (.iinc 2 1, 3) := by decide +kernel
theorem dX8_nthDeciding_36 : decode cX8_nthDeciding 36 = .ok (.iinc 3 1, 3) := by decide +kernel
theorem dX8_nthDeciding_39 : decode cX8_nthDeciding 39 = .ok (.goto (-35), 3) := by decide +kernel
theorem dX8_nthDeciding_42 : decode cX8_nthDeciding 42 = .ok (.bipush (-6), 2) := by decide +kernel
theorem dX8_nthDeciding_44 : decode cX8_nthDeciding 44 = .ok (.ireturn, 1) := by decide +kernel
abbrev wl_X8_nthDeciding (G : gw_) (A_t : Nat) (A_t_planks : Nat) (A_t_least : Nat) (A_t_neighbours : Nat) (c_t_neighbours : Nat → Int32) : va_W := [ob_ A_t 8 [.ref A_t_planks, .ref A_t_least, .ref A_t_neighbours], ia_ G A_t_neighbours 12 c_t_neighbours]
def fn_X8_nthDeciding_b4 (c_t_neighbours : Nat → Int32) (x1 : Int32) (rc : Int32 → Int32 → Option (Int32)) (k : Option (Int32)) (x2 : Int32) (x3 : Int32) : Option (Int32) :=
  if 144 ≤ x3 then
    k
  else
    b1_ (fn_X8_isDeciding c_t_neighbours (x3 / 12) (x3 - x3 / 12 * 12)) fun r1 =>
    if r1 = 0 then
      rc x2 (x3 + 1)
    else
      if x2 = x1 then
        some x3
      else
        rc (x2 + 1) (x3 + 1)
def fn_X8_nthDeciding_l4 (c_t_neighbours : Nat → Int32) (x1 : Int32) (k : Option (Int32)) : Nat → Int32 → Int32 → Option (Int32)
  | 0 => fun _ _ => none
  | n + 1 => fun x2 x3 => fn_X8_nthDeciding_b4 c_t_neighbours x1 (fn_X8_nthDeciding_l4 c_t_neighbours x1 k n) k x2 x3
def fn_X8_nthDeciding (c_t_neighbours : Nat → Int32) (x1 : Int32) : Option (Int32) :=
  fn_X8_nthDeciding_l4 c_t_neighbours x1 (some (-6)) fu_ 0 0
set_option maxHeartbeats 4000000 in
set_option maxRecDepth 100000 in
theorem wn_X8_nthDeciding_l4 {p : Program} {l : Launch} {e : Env} {s : State} {m : MethodId} {args : Array Value} {below : List Frame} {meth : Method} {c : Code} {G : gw_} {A : Nat → Prop} {Q : State → Prop} {A_t : Nat} {A_t_planks : Nat} {A_t_least : Nat} {A_t_neighbours : Nat} {c_t_neighbours : Nat → Int32} {r : Int32} {x1 : Int32} {k : Option (Int32)} (hC : cx_ p s m c G cX8_nthDeciding 4 RX8) (hret : ∀ (pc : Nat) (H : Heap) (locs : List Loc) (ls : Array Slot), decode cX8_nthDeciding pc = .ok (.ireturn, 1) → wd_ G A s.heap (wl_X8_nthDeciding G A_t A_t_planks A_t_least A_t_neighbours c_t_neighbours) H locs → W p l e { frames := 3, cells := 0, slots := 0, locals := 69 } s m args below meth c H locs 0 0 Q (F0 m pc ls [.int r])) (hk : ∀  (H : Heap) (locs : List Loc) (ls : Array Slot), k = some r → lv_has ls 4 [] → wd_ G A s.heap (wl_X8_nthDeciding G A_t A_t_planks A_t_least A_t_neighbours c_t_neighbours) H locs → W p l e { frames := 3, cells := 0, slots := 0, locals := 69 } s m args below meth c H locs 0 0 Q (F0 m 42 ls [])) : ∀ (n : Nat) (x2 : Int32) (x3 : Int32) (H : Heap) (locs : List Loc) (ls : Array Slot), fn_X8_nthDeciding_l4 c_t_neighbours x1 k n x2 x3 = some r → lv_has ls 4 [(0, .ref A_t), (1, .int x1), (2, .int x2), (3, .int x3)] → wd_ G A s.heap (wl_X8_nthDeciding G A_t A_t_planks A_t_least A_t_neighbours c_t_neighbours) H locs → W p l e { frames := 3, cells := 0, slots := 0, locals := 69 } s m args below meth c H locs 0 0 Q (F0 m 4 ls []) := by
  have hx := hC.1
  have hb := hC.2.1
  intro n
  induction n with
  | zero =>
    intro x2 x3 H locs ls hf
    cases (show (none : Option (Int32)) = some _ from hf)
  | succ n hrc =>
    intro x2 x3 H locs ls hf hl hw
    replace hf : fn_X8_nthDeciding_b4 c_t_neighbours x1 (fn_X8_nthDeciding_l4 c_t_neighbours x1 k n) k x2 x3 = some r := hf
    unfold fn_X8_nthDeciding_b4 at hf
    refine lv_iload_n hx hb dX8_nthDeciding_4 rfl (lv_at hl 3 rfl) ?_
    refine lv_sipush (v := 144) hx hb dX8_nthDeciding_5 (by decide) ?_
    refine lv_icmp_ge (tgt := 42) hx hb dX8_nthDeciding_8 (by decide) (fun hc => ?_) (fun hc => ?_)
    · replace hf := it_t hc hf
      exact hk _ _ _ hf (lv_sub hl [] rfl) hw
    · replace hf := it_f hc hf
      refine lv_aload_n hx hb dX8_nthDeciding_11 rfl (lv_at hl 0 rfl) ?_
      refine lv_iload_n hx hb dX8_nthDeciding_12 rfl (lv_at hl 3 rfl) ?_
      refine lv_bipush (v := 12) hx hb dX8_nthDeciding_13 (by decide) ?_
      refine lv_idiv hx hb dX8_nthDeciding_15 (by decide) ?_
      refine lv_iload_n hx hb dX8_nthDeciding_16 rfl (lv_at hl 3 rfl) ?_
      refine lv_bipush (v := 12) hx hb dX8_nthDeciding_17 (by decide) ?_
      refine lv_irem hx hb dX8_nthDeciding_19 (by decide) ?_
      obtain ⟨r1, hq2, hf⟩ := b1_s hf
      refine h_cVi hC hw mvX8_43 (cn_X8_isDeciding l G A_t A_t_planks A_t_least A_t_neighbours c_t_neighbours (x3 / 12) (x3 - x3 / 12 * 12) r1 hq2) [0, 1] rfl (by decide) 0 rfl rfl rfl hl.1 rfl (Nat.le_of_ble_eq_true rfl) ⟨Nat.le_of_ble_eq_true rfl, Nat.le_of_ble_eq_true rfl⟩ ⟨Nat.le_refl _, Nat.le_refl _⟩ dX8_nthDeciding_20 (fun H locs hw => ?_)
      refine lv_if_eq (tgt := 36) hx hb dX8_nthDeciding_23 (by decide) (fun hc => ?_) (fun hc => ?_)
      · replace hf := it_t hc hf
        refine lv_iinc (v := x3 + 1) (lv' := [(3, .int (x3 + 1)), (0, .ref A_t), (1, .int x1), (2, .int x2)]) hx hb dX8_nthDeciding_36 hl (k := 3) rfl rfl (by decide) rfl (fun ls hl => ?_)
        refine lv_goto (tgt := 4) hx hb dX8_nthDeciding_39 (by decide) ?_
        exact hrc x2 (x3 + 1) _ _ _ hf (lv_sub hl [1, 2, 3, 0] rfl) hw
      · replace hf := it_f hc hf
        refine lv_iload_n hx hb dX8_nthDeciding_26 rfl (lv_at hl 2 rfl) ?_
        refine lv_iload_n hx hb dX8_nthDeciding_27 rfl (lv_at hl 1 rfl) ?_
        refine lv_icmp_ne (tgt := 33) hx hb dX8_nthDeciding_28 (by decide) (fun hc => ?_) (fun hc => ?_)
        · replace hf := it_f hc hf
          refine lv_iinc (v := x2 + 1) (lv' := [(2, .int (x2 + 1)), (0, .ref A_t), (1, .int x1), (3, .int x3)]) hx hb dX8_nthDeciding_33 hl (k := 2) rfl rfl (by decide) rfl (fun ls hl => ?_)
          refine lv_iinc (v := x3 + 1) (lv' := [(3, .int (x3 + 1)), (2, .int (x2 + 1)), (0, .ref A_t), (1, .int x1)]) hx hb dX8_nthDeciding_36 hl (k := 3) rfl rfl (by decide) rfl (fun ls hl => ?_)
          refine lv_goto (tgt := 4) hx hb dX8_nthDeciding_39 (by decide) ?_
          exact hrc (x2 + 1) (x3 + 1) _ _ _ hf (lv_sub hl [2, 3, 1, 0] rfl) hw
        · replace hf := it_t hc hf
          refine lv_iload_n hx hb dX8_nthDeciding_31 rfl (lv_at hl 3 rfl) ?_
          have h1_ := t1_ hf
          subst h1_
          exact hret _ _ _ _ dX8_nthDeciding_32 hw
set_option maxHeartbeats 4000000 in
set_option maxRecDepth 100000 in
theorem wn_X8_nthDeciding {p : Program} {l : Launch} {e : Env} {s : State} {m : MethodId} {args : Array Value} {below : List Frame} {meth : Method} {c : Code} {G : gw_} {A : Nat → Prop} {Q : State → Prop} {A_t : Nat} {A_t_planks : Nat} {A_t_least : Nat} {A_t_neighbours : Nat} {c_t_neighbours : Nat → Int32} {r : Int32} {x1 : Int32} (hC : cx_ p s m c G cX8_nthDeciding 4 RX8) (hret : ∀ (pc : Nat) (H : Heap) (locs : List Loc) (ls : Array Slot), decode cX8_nthDeciding pc = .ok (.ireturn, 1) → wd_ G A s.heap (wl_X8_nthDeciding G A_t A_t_planks A_t_least A_t_neighbours c_t_neighbours) H locs → W p l e { frames := 3, cells := 0, slots := 0, locals := 69 } s m args below meth c H locs 0 0 Q (F0 m pc ls [.int r])) (hf : fn_X8_nthDeciding c_t_neighbours x1 = some r) {H : Heap} {locs : List Loc} {ls : Array Slot} (hl : lv_has ls 4 [(0, .ref A_t), (1, .int x1)]) (hw : wd_ G A s.heap (wl_X8_nthDeciding G A_t A_t_planks A_t_least A_t_neighbours c_t_neighbours) H locs) : W p l e { frames := 3, cells := 0, slots := 0, locals := 69 } s m args below meth c H locs 0 0 Q (F0 m 0 ls []) := by
  have hx := hC.1
  have hb := hC.2.1
  unfold fn_X8_nthDeciding at hf
  refine lv_iconst (v := 0) hx hb dX8_nthDeciding_0 (by decide) ?_
  refine lv_istore_n (lv' := [(2, .int 0), (0, .ref A_t), (1, .int x1)]) hx hb dX8_nthDeciding_1 rfl hl (by decide) rfl (fun ls hl => ?_)
  refine lv_iconst (v := 0) hx hb dX8_nthDeciding_2 (by decide) ?_
  refine lv_istore_n (lv' := [(3, .int 0), (2, .int 0), (0, .ref A_t), (1, .int x1)]) hx hb dX8_nthDeciding_3 rfl hl (by decide) rfl (fun ls hl => ?_)
  refine wn_X8_nthDeciding_l4 hC hret (fun H locs ls hf hl hw => ?_) fu_ 0 0 _ _ _ hf (lv_sub hl [2, 3, 1, 0] rfl) hw
  refine lv_bipush (v := (-6)) hx hb dX8_nthDeciding_42 (by decide) ?_
  have h1_ := t1_ hf
  subst h1_
  exact hret _ _ _ _ dX8_nthDeciding_44 hw
set_option maxHeartbeats 4000000 in
set_option maxRecDepth 100000 in
theorem cn_X8_nthDeciding (l : Launch) (G : gw_) (A_t : Nat) (A_t_planks : Nat) (A_t_least : Nat) (A_t_neighbours : Nat) (c_t_neighbours : Nat → Int32) (x1 : Int32) (r : Int32) (hf : fn_X8_nthDeciding c_t_neighbours x1 = some r) : ci_ l G yX8_nthDeciding cX8_nthDeciding 4 (some .int) 3 69 (wl_X8_nthDeciding G A_t A_t_planks A_t_least A_t_neighbours c_t_neighbours) [.ref A_t, .int x1] r (wl_X8_nthDeciding G A_t A_t_planks A_t_least A_t_neighbours c_t_neighbours) := fun sz => met_intro (by decide) (Nat.le_of_ble_eq_true rfl) (fun p e s m args below meth c ls hsz hC hr hlk hnm hl hw => wn_X8_nthDeciding hC (fun pc H locs ls hd hw => g_iret hC hr hlk hw rfl rfl hd) hf hl hw)

theorem dX8_cheapestOutOf_0 : decode cX8_cheapestOutOf 0 = .ok (.bipush (-6), 2) := by decide +kernel
theorem dX8_cheapestOutOf_2 : decode cX8_cheapestOutOf 2 = .ok (.istore_n 2, 1) := by decide +kernel
theorem dX8_cheapestOutOf_3 : decode cX8_cheapestOutOf 3 = .ok (.ldc 27, 2) := by decide +kernel
theorem dX8_cheapestOutOf_5 : decode cX8_cheapestOutOf 5 = .ok (.istore_n 3, 1) := by decide +kernel
theorem dX8_cheapestOutOf_6 : decode cX8_cheapestOutOf 6 = .ok (.iconst 0, 1) := by decide +kernel
theorem dX8_cheapestOutOf_7 : decode cX8_cheapestOutOf 7 = .ok (.istore 4, 2) := by decide +kernel
theorem dX8_cheapestOutOf_9 : decode cX8_cheapestOutOf 9 = .ok (.iload 4, 2) := by decide +kernel
theorem dX8_cheapestOutOf_11 : decode cX8_cheapestOutOf 11 = .ok (.sipush 144, 3) := by decide +kernel
theorem dX8_cheapestOutOf_14 : decode cX8_cheapestOutOf 14 = .ok (.if_icmp .ge 55, 3) := by decide +kernel
theorem dX8_cheapestOutOf_17 : decode cX8_cheapestOutOf 17 = .ok (.aload_n 0, 1) := by decide +kernel
theorem dX8_cheapestOutOf_18 : decode cX8_cheapestOutOf 18 = .ok (.getfield 9, 3) := by decide +kernel
theorem dX8_cheapestOutOf_21 : decode cX8_cheapestOutOf 21 = .ok (.iload 4, 2) := by decide +kernel
theorem dX8_cheapestOutOf_23 : decode cX8_cheapestOutOf 23 = .ok (.iaload, 1) := by decide +kernel
theorem dX8_cheapestOutOf_24 : decode cX8_cheapestOutOf 24 = .ok (.iload_n 3, 1) := by decide +kernel
theorem dX8_cheapestOutOf_25 : decode cX8_cheapestOutOf 25 = .ok (.if_icmp .ge 38, 3) := by decide +kernel
theorem dX8_cheapestOutOf_28 : decode cX8_cheapestOutOf 28 = .ok (.iload_n 1, 1) := by decide +kernel
theorem dX8_cheapestOutOf_29 : decode cX8_cheapestOutOf 29 = .ok (.iload 4, 2) := by decide +kernel
theorem dX8_cheapestOutOf_31 : decode cX8_cheapestOutOf 31 = .ok (.bipush 12, 2) := by decide +kernel
theorem dX8_cheapestOutOf_33 : decode cX8_cheapestOutOf 33 = .ok (.idiv, 1) := by decide +kernel
theorem dX8_cheapestOutOf_34 : decode cX8_cheapestOutOf 34 = .ok (.invokestatic 47, 3) := by decide +kernel
theorem dX8_cheapestOutOf_37 : decode cX8_cheapestOutOf 37 = .ok (.ifCond .eq 26, 3) := by decide +kernel
theorem dX8_cheapestOutOf_40 : decode cX8_cheapestOutOf 40 = .ok (.iload_n 1, 1) := by decide +kernel
theorem dX8_cheapestOutOf_41 : decode cX8_cheapestOutOf 41 = .ok (.iload 4, 2) := by decide +kernel
theorem dX8_cheapestOutOf_43 : decode cX8_cheapestOutOf 43 = .ok (.bipush 12, 2) := by decide +kernel
theorem dX8_cheapestOutOf_45 : decode cX8_cheapestOutOf 45 = .ok (.irem, 1) := by decide +kernel
theorem dX8_cheapestOutOf_46 : decode cX8_cheapestOutOf 46 = .ok (.invokestatic 47, 3) := by decide +kernel
theorem dX8_cheapestOutOf_49 : decode cX8_cheapestOutOf 49 = .ok (.ifCond .ne 14, 3) := by decide +kernel
theorem dX8_cheapestOutOf_52 : decode cX8_cheapestOutOf 52 = .ok (.iload 4, 2) := by decide +kernel
theorem dX8_cheapestOutOf_54 : decode cX8_cheapestOutOf 54 = .ok (.istore_n 2, 1) := by decide +kernel
theorem dX8_cheapestOutOf_55 : decode cX8_cheapestOutOf 55 = .ok (.aload_n 0, 1) := by decide +kernel
theorem dX8_cheapestOutOf_56 : decode cX8_cheapestOutOf 56 = .ok (.getfield 9, 3) := by decide +kernel
theorem dX8_cheapestOutOf_59 : decode cX8_cheapestOutOf 59 = .ok (.iload 4, 2) := by decide +kernel
theorem dX8_cheapestOutOf_61 : decode cX8_cheapestOutOf 61 = .ok (.iaload, 1) := by decide +kernel
theorem dX8_cheapestOutOf_62 : decode cX8_cheapestOutOf 62 = .ok (.istore_n 3, 1) := by decide +kernel
theorem dX8_cheapestOutOf_63 : decode cX8_cheapestOutOf 63 = .ok (.iinc 4 1, 3) := by decide +kernel
theorem dX8_cheapestOutOf_66 : decode cX8_cheapestOutOf 66 = .ok (.goto (-57), 3) := by decide +kernel
theorem dX8_cheapestOutOf_69 : decode cX8_cheapestOutOf 69 = .ok (.iload_n 2, 1) := by decide +kernel
theorem dX8_cheapestOutOf_70 : decode cX8_cheapestOutOf 70 = .ok (.ireturn, 1) := by decide +kernel
abbrev wl_X8_cheapestOutOf (G : gw_) (A_t : Nat) (A_t_planks : Nat) (A_t_least : Nat) (A_t_neighbours : Nat) (c_t_planks : Nat → Int32) : va_W := [ob_ A_t 8 [.ref A_t_planks, .ref A_t_least, .ref A_t_neighbours], ia_ G A_t_planks 144 c_t_planks]
def fn_X8_cheapestOutOf_b9 (c_t_planks : Nat → Int32) (x1 : Int32) (rc : Int32 → Int32 → Int32 → Option (Int32)) (k : Int32 → Option (Int32)) (x2 : Int32) (x3 : Int32) (x4 : Int32) : Option (Int32) :=
  if 144 ≤ x4 then
    k x2
  else
    ck_ x4 144 <|
    if x3 ≤ (c_t_planks (Int32.toNatClampNeg x4)) then
      rc x2 x3 (x4 + 1)
    else
      b1_ (fn_X9_isIn x1 (x4 / 12)) fun r1 =>
      if r1 = 0 then
        rc x2 x3 (x4 + 1)
      else
        b1_ (fn_X9_isIn x1 (x4 - x4 / 12 * 12)) fun r3 =>
        if r3 = 0 then
          ck_ x4 144 <|
          lx_ (c_t_planks (Int32.toNatClampNeg x4)) fun y5 =>
          rc x4 y5 (x4 + 1)
        else
          rc x2 x3 (x4 + 1)
def fn_X8_cheapestOutOf_l9 (c_t_planks : Nat → Int32) (x1 : Int32) (k : Int32 → Option (Int32)) : Nat → Int32 → Int32 → Int32 → Option (Int32)
  | 0 => fun _ _ _ => none
  | n + 1 => fun x2 x3 x4 => fn_X8_cheapestOutOf_b9 c_t_planks x1 (fn_X8_cheapestOutOf_l9 c_t_planks x1 k n) k x2 x3 x4
def fn_X8_cheapestOutOf (c_t_planks : Nat → Int32) (x1 : Int32) : Option (Int32) :=
  fn_X8_cheapestOutOf_l9 c_t_planks x1 (fun v6 =>
    some v6) fu_ (-6) 1000000 0
set_option maxHeartbeats 4000000 in
set_option maxRecDepth 100000 in
theorem wn_X8_cheapestOutOf_l9 {p : Program} {l : Launch} {e : Env} {s : State} {m : MethodId} {args : Array Value} {below : List Frame} {meth : Method} {c : Code} {G : gw_} {A : Nat → Prop} {Q : State → Prop} {A_t : Nat} {A_t_planks : Nat} {A_t_least : Nat} {A_t_neighbours : Nat} {c_t_planks : Nat → Int32} {r : Int32} {x1 : Int32} {k : Int32 → Option (Int32)} (hC : cx_ p s m c G cX8_cheapestOutOf 5 RX8) (hret : ∀ (pc : Nat) (H : Heap) (locs : List Loc) (ls : Array Slot), decode cX8_cheapestOutOf pc = .ok (.ireturn, 1) → wd_ G A s.heap (wl_X8_cheapestOutOf G A_t A_t_planks A_t_least A_t_neighbours c_t_planks) H locs → W p l e { frames := 1, cells := 0, slots := 0, locals := 21 } s m args below meth c H locs 0 0 Q (F0 m pc ls [.int r])) (hk : ∀ (x2 : Int32) (H : Heap) (locs : List Loc) (ls : Array Slot), k x2 = some r → lv_has ls 5 [(2, .int x2)] → wd_ G A s.heap (wl_X8_cheapestOutOf G A_t A_t_planks A_t_least A_t_neighbours c_t_planks) H locs → W p l e { frames := 1, cells := 0, slots := 0, locals := 21 } s m args below meth c H locs 0 0 Q (F0 m 69 ls [])) : ∀ (n : Nat) (x2 : Int32) (x3 : Int32) (x4 : Int32) (H : Heap) (locs : List Loc) (ls : Array Slot), fn_X8_cheapestOutOf_l9 c_t_planks x1 k n x2 x3 x4 = some r → lv_has ls 5 [(0, .ref A_t), (1, .int x1), (2, .int x2), (3, .int x3), (4, .int x4)] → wd_ G A s.heap (wl_X8_cheapestOutOf G A_t A_t_planks A_t_least A_t_neighbours c_t_planks) H locs → W p l e { frames := 1, cells := 0, slots := 0, locals := 21 } s m args below meth c H locs 0 0 Q (F0 m 9 ls []) := by
  have hx := hC.1
  have hb := hC.2.1
  intro n
  induction n with
  | zero =>
    intro x2 x3 x4 H locs ls hf
    cases (show (none : Option (Int32)) = some _ from hf)
  | succ n hrc =>
    intro x2 x3 x4 H locs ls hf hl hw
    replace hf : fn_X8_cheapestOutOf_b9 c_t_planks x1 (fn_X8_cheapestOutOf_l9 c_t_planks x1 k n) k x2 x3 x4 = some r := hf
    unfold fn_X8_cheapestOutOf_b9 at hf
    refine lv_iload hx hb dX8_cheapestOutOf_9 (lv_at hl 4 rfl) ?_
    refine lv_sipush (v := 144) hx hb dX8_cheapestOutOf_11 (by decide) ?_
    refine lv_icmp_ge (tgt := 69) hx hb dX8_cheapestOutOf_14 (by decide) (fun hc => ?_) (fun hc => ?_)
    · replace hf := it_t hc hf
      exact hk x2 _ _ _ hf (lv_sub hl [2] rfl) hw
    · replace hf := it_f hc hf
      refine lv_aload_n hx hb dX8_cheapestOutOf_17 rfl (lv_at hl 0 rfl) ?_
      refine g_get hC hw fkX8_9 0 rfl rfl dX8_cheapestOutOf_18 ?_
      refine lv_iload hx hb dX8_cheapestOutOf_21 (lv_at hl 4 rfl) ?_
      obtain ⟨hi, hf⟩ := ck_s hf
      refine g_iald hC hw 1 rfl hi dX8_cheapestOutOf_23 ?_
      refine lv_iload_n hx hb dX8_cheapestOutOf_24 rfl (lv_at hl 3 rfl) ?_
      refine lv_icmp_ge (tgt := 63) hx hb dX8_cheapestOutOf_25 (by decide) (fun hc => ?_) (fun hc => ?_)
      · replace hf := it_t hc hf
        refine lv_iinc (v := x4 + 1) (lv' := [(4, .int (x4 + 1)), (0, .ref A_t), (1, .int x1), (2, .int x2), (3, .int x3)]) hx hb dX8_cheapestOutOf_63 hl (k := 4) rfl rfl (by decide) rfl (fun ls hl => ?_)
        refine lv_goto (tgt := 9) hx hb dX8_cheapestOutOf_66 (by decide) ?_
        exact hrc x2 x3 (x4 + 1) _ _ _ hf (lv_sub hl [1, 2, 3, 4, 0] rfl) hw
      · replace hf := it_f hc hf
        refine lv_iload_n hx hb dX8_cheapestOutOf_28 rfl (lv_at hl 1 rfl) ?_
        refine lv_iload hx hb dX8_cheapestOutOf_29 (lv_at hl 4 rfl) ?_
        refine lv_bipush (v := 12) hx hb dX8_cheapestOutOf_31 (by decide) ?_
        refine lv_idiv hx hb dX8_cheapestOutOf_33 (by decide) ?_
        obtain ⟨r1, hq2, hf⟩ := b1_s hf
        refine h_cSi hC hw msX8_47 (cn_X9_isIn l G x1 (x4 / 12) r1 hq2) [] rfl (by decide) rfl hl.1 rfl (Nat.le_of_ble_eq_true rfl) ⟨Nat.le_of_ble_eq_true rfl, Nat.le_of_ble_eq_true rfl⟩ ⟨Nat.le_refl _, Nat.le_refl _⟩ dX8_cheapestOutOf_34 (fun H locs hw => ?_)
        refine lv_if_eq (tgt := 63) hx hb dX8_cheapestOutOf_37 (by decide) (fun hc => ?_) (fun hc => ?_)
        · replace hf := it_t hc hf
          refine lv_iinc (v := x4 + 1) (lv' := [(4, .int (x4 + 1)), (0, .ref A_t), (1, .int x1), (2, .int x2), (3, .int x3)]) hx hb dX8_cheapestOutOf_63 hl (k := 4) rfl rfl (by decide) rfl (fun ls hl => ?_)
          refine lv_goto (tgt := 9) hx hb dX8_cheapestOutOf_66 (by decide) ?_
          exact hrc x2 x3 (x4 + 1) _ _ _ hf (lv_sub hl [1, 2, 3, 4, 0] rfl) hw
        · replace hf := it_f hc hf
          refine lv_iload_n hx hb dX8_cheapestOutOf_40 rfl (lv_at hl 1 rfl) ?_
          refine lv_iload hx hb dX8_cheapestOutOf_41 (lv_at hl 4 rfl) ?_
          refine lv_bipush (v := 12) hx hb dX8_cheapestOutOf_43 (by decide) ?_
          refine lv_irem hx hb dX8_cheapestOutOf_45 (by decide) ?_
          obtain ⟨r3, hq4, hf⟩ := b1_s hf
          refine h_cSi hC hw msX8_47 (cn_X9_isIn l G x1 (x4 - x4 / 12 * 12) r3 hq4) [] rfl (by decide) rfl hl.1 rfl (Nat.le_of_ble_eq_true rfl) ⟨Nat.le_of_ble_eq_true rfl, Nat.le_of_ble_eq_true rfl⟩ ⟨Nat.le_refl _, Nat.le_refl _⟩ dX8_cheapestOutOf_46 (fun H locs hw => ?_)
          refine lv_if_ne (tgt := 63) hx hb dX8_cheapestOutOf_49 (by decide) (fun hc => ?_) (fun hc => ?_)
          · replace hf := it_f hc hf
            refine lv_iinc (v := x4 + 1) (lv' := [(4, .int (x4 + 1)), (0, .ref A_t), (1, .int x1), (2, .int x2), (3, .int x3)]) hx hb dX8_cheapestOutOf_63 hl (k := 4) rfl rfl (by decide) rfl (fun ls hl => ?_)
            refine lv_goto (tgt := 9) hx hb dX8_cheapestOutOf_66 (by decide) ?_
            exact hrc x2 x3 (x4 + 1) _ _ _ hf (lv_sub hl [1, 2, 3, 4, 0] rfl) hw
          · replace hf := it_t hc hf
            refine lv_iload hx hb dX8_cheapestOutOf_52 (lv_at hl 4 rfl) ?_
            refine lv_istore_n (lv' := [(2, .int x4), (0, .ref A_t), (1, .int x1), (3, .int x3), (4, .int x4)]) hx hb dX8_cheapestOutOf_54 rfl hl (by decide) rfl (fun ls hl => ?_)
            refine lv_aload_n hx hb dX8_cheapestOutOf_55 rfl (lv_at hl 1 rfl) ?_
            refine g_get hC hw fkX8_9 0 rfl rfl dX8_cheapestOutOf_56 ?_
            refine lv_iload hx hb dX8_cheapestOutOf_59 (lv_at hl 4 rfl) ?_
            obtain ⟨hi, hf⟩ := ck_s hf
            refine g_iald hC hw 1 rfl hi dX8_cheapestOutOf_61 ?_
            obtain ⟨y5, ey5, hf⟩ := lx_s hf
            rw [← ey5]
            refine lv_istore_n (lv' := [(3, .int y5), (2, .int x4), (0, .ref A_t), (1, .int x1), (4, .int x4)]) hx hb dX8_cheapestOutOf_62 rfl hl (by decide) rfl (fun ls hl => ?_)
            refine lv_iinc (v := x4 + 1) (lv' := [(4, .int (x4 + 1)), (3, .int y5), (2, .int x4), (0, .ref A_t), (1, .int x1)]) hx hb dX8_cheapestOutOf_63 hl (k := 4) rfl rfl (by decide) rfl (fun ls hl => ?_)
            refine lv_goto (tgt := 9) hx hb dX8_cheapestOutOf_66 (by decide) ?_
            exact hrc x4 y5 (x4 + 1) _ _ _ hf (lv_sub hl [3, 4, 2, 1, 0] rfl) hw
set_option maxHeartbeats 4000000 in
set_option maxRecDepth 100000 in
theorem wn_X8_cheapestOutOf {p : Program} {l : Launch} {e : Env} {s : State} {m : MethodId} {args : Array Value} {below : List Frame} {meth : Method} {c : Code} {G : gw_} {A : Nat → Prop} {Q : State → Prop} {A_t : Nat} {A_t_planks : Nat} {A_t_least : Nat} {A_t_neighbours : Nat} {c_t_planks : Nat → Int32} {r : Int32} {x1 : Int32} (hC : cx_ p s m c G cX8_cheapestOutOf 5 RX8) (hret : ∀ (pc : Nat) (H : Heap) (locs : List Loc) (ls : Array Slot), decode cX8_cheapestOutOf pc = .ok (.ireturn, 1) → wd_ G A s.heap (wl_X8_cheapestOutOf G A_t A_t_planks A_t_least A_t_neighbours c_t_planks) H locs → W p l e { frames := 1, cells := 0, slots := 0, locals := 21 } s m args below meth c H locs 0 0 Q (F0 m pc ls [.int r])) (hf : fn_X8_cheapestOutOf c_t_planks x1 = some r) {H : Heap} {locs : List Loc} {ls : Array Slot} (hl : lv_has ls 5 [(0, .ref A_t), (1, .int x1)]) (hw : wd_ G A s.heap (wl_X8_cheapestOutOf G A_t A_t_planks A_t_least A_t_neighbours c_t_planks) H locs) : W p l e { frames := 1, cells := 0, slots := 0, locals := 21 } s m args below meth c H locs 0 0 Q (F0 m 0 ls []) := by
  have hx := hC.1
  have hb := hC.2.1
  unfold fn_X8_cheapestOutOf at hf
  refine lv_bipush (v := (-6)) hx hb dX8_cheapestOutOf_0 (by decide) ?_
  refine lv_istore_n (lv' := [(2, .int (-6)), (0, .ref A_t), (1, .int x1)]) hx hb dX8_cheapestOutOf_2 rfl hl (by decide) rfl (fun ls hl => ?_)
  refine g_ldc (v := 1000000) hC (tb2 198 rfl rfl) dX8_cheapestOutOf_3 ?_
  refine lv_istore_n (lv' := [(3, .int 1000000), (2, .int (-6)), (0, .ref A_t), (1, .int x1)]) hx hb dX8_cheapestOutOf_5 rfl hl (by decide) rfl (fun ls hl => ?_)
  refine lv_iconst (v := 0) hx hb dX8_cheapestOutOf_6 (by decide) ?_
  refine lv_istore (lv' := [(4, .int 0), (3, .int 1000000), (2, .int (-6)), (0, .ref A_t), (1, .int x1)]) hx hb dX8_cheapestOutOf_7 hl (by decide) rfl (fun ls hl => ?_)
  refine wn_X8_cheapestOutOf_l9 hC hret (fun v6 H locs ls hf hl hw => ?_) fu_ (-6) 1000000 0 _ _ _ hf (lv_sub hl [3, 4, 2, 1, 0] rfl) hw
  refine lv_iload_n hx hb dX8_cheapestOutOf_69 rfl (lv_at hl 0 rfl) ?_
  have h1_ := t1_ hf
  subst h1_
  exact hret _ _ _ _ dX8_cheapestOutOf_70 hw
set_option maxHeartbeats 4000000 in
set_option maxRecDepth 100000 in
theorem cn_X8_cheapestOutOf (l : Launch) (G : gw_) (A_t : Nat) (A_t_planks : Nat) (A_t_least : Nat) (A_t_neighbours : Nat) (c_t_planks : Nat → Int32) (x1 : Int32) (r : Int32) (hf : fn_X8_cheapestOutOf c_t_planks x1 = some r) : ci_ l G yX8_cheapestOutOf cX8_cheapestOutOf 5 (some .int) 1 21 (wl_X8_cheapestOutOf G A_t A_t_planks A_t_least A_t_neighbours c_t_planks) [.ref A_t, .int x1] r (wl_X8_cheapestOutOf G A_t A_t_planks A_t_least A_t_neighbours c_t_planks) := fun sz => met_intro (by decide) (Nat.le_of_ble_eq_true rfl) (fun p e s m args below meth c ls hsz hC hr hlk hnm hl hw => wn_X8_cheapestOutOf hC (fun pc H locs ls hd hw => g_iret hC hr hlk hw rfl rfl hd) hf hl hw)

theorem dJ6_lowestOneBit_0f7a4_0 : decode cJ6_lowestOneBit_0f7a4 0 = .ok (.iload_n 0, 1) := by decide +kernel
theorem dJ6_lowestOneBit_0f7a4_1 : decode cJ6_lowestOneBit_0f7a4 1 = .ok (.iload_n 0, 1) := by decide +kernel
theorem dJ6_lowestOneBit_0f7a4_2 : decode cJ6_lowestOneBit_0f7a4 2 = .ok (.ineg, 1) := by decide +kernel
theorem dJ6_lowestOneBit_0f7a4_3 : decode cJ6_lowestOneBit_0f7a4 3 = .ok (.iand, 1) := by decide +kernel
theorem dJ6_lowestOneBit_0f7a4_4 : decode cJ6_lowestOneBit_0f7a4 4 = .ok (.ireturn, 1) := by decide +kernel
def fn_J6_lowestOneBit_0f7a4 (x0 : Int32) : Option (Int32) :=
  some (x0 &&& (-x0))
set_option maxHeartbeats 4000000 in
set_option maxRecDepth 100000 in
theorem wn_J6_lowestOneBit_0f7a4 {p : Program} {l : Launch} {e : Env} {s : State} {m : MethodId} {args : Array Value} {below : List Frame} {meth : Method} {c : Code} {G : gw_} {A : Nat → Prop} {Q : State → Prop} {r : Int32} {x0 : Int32} (hC : cx_ p s m c G cJ6_lowestOneBit_0f7a4 1 RJ6) (hret : ∀ (pc : Nat) (H : Heap) (locs : List Loc) (ls : Array Slot), decode cJ6_lowestOneBit_0f7a4 pc = .ok (.ireturn, 1) → wd_ G A s.heap [] H locs → W p l e { frames := 0, cells := 0, slots := 0, locals := 0 } s m args below meth c H locs 0 0 Q (F0 m pc ls [.int r])) (hf : fn_J6_lowestOneBit_0f7a4 x0 = some r) {H : Heap} {locs : List Loc} {ls : Array Slot} (hl : lv_has ls 1 [(0, .int x0)]) (hw : wd_ G A s.heap [] H locs) : W p l e { frames := 0, cells := 0, slots := 0, locals := 0 } s m args below meth c H locs 0 0 Q (F0 m 0 ls []) := by
  have hx := hC.1
  have hb := hC.2.1
  unfold fn_J6_lowestOneBit_0f7a4 at hf
  refine lv_iload_n hx hb dJ6_lowestOneBit_0f7a4_0 rfl (lv_at hl 0 rfl) ?_
  refine lv_iload_n hx hb dJ6_lowestOneBit_0f7a4_1 rfl (lv_at hl 0 rfl) ?_
  refine lv_ineg hx hb dJ6_lowestOneBit_0f7a4_2 ?_
  refine lv_iand hx hb dJ6_lowestOneBit_0f7a4_3 ?_
  have h1_ := t1_ hf
  subst h1_
  exact hret _ _ _ _ dJ6_lowestOneBit_0f7a4_4 hw
set_option maxHeartbeats 4000000 in
set_option maxRecDepth 100000 in
theorem cn_J6_lowestOneBit_0f7a4 (l : Launch) (G : gw_) (x0 : Int32) (r : Int32) (hf : fn_J6_lowestOneBit_0f7a4 x0 = some r) : ci_ l G yJ6_lowestOneBit_0f7a4 cJ6_lowestOneBit_0f7a4 1 (some .int) 0 0 [] [.int x0] r [] := fun sz => met_intro (by decide) (Nat.le_of_ble_eq_true rfl) (fun p e s m args below meth c ls hsz hC hr hlk hnm hl hw => wn_J6_lowestOneBit_0f7a4 hC (fun pc H locs ls hd hw => g_iret hC hr hlk hw rfl rfl hd) hf hl hw)

theorem dX8_leastFrame_0 : decode cX8_leastFrame 0 = .ok (.iconst 0, 1) := by decide +kernel
theorem dX8_leastFrame_1 : decode cX8_leastFrame 1 = .ok (.istore_n 2, 1) := by decide +kernel
theorem dX8_leastFrame_2 : decode cX8_leastFrame 2 = .ok (.iconst 0, 1) := by decide +kernel
theorem dX8_leastFrame_3 : decode cX8_leastFrame 3 = .ok (.istore_n 3, 1) := by decide +kernel
theorem dX8_leastFrame_4 : decode cX8_leastFrame 4 = .ok (.iconst 0, 1) := by decide +kernel
theorem dX8_leastFrame_5 : decode cX8_leastFrame 5 = .ok (.istore 4, 2) := by decide +kernel
theorem dX8_leastFrame_7 : decode cX8_leastFrame 7 = .ok (.iconst 0, 1) := by decide +kernel
theorem dX8_leastFrame_8 : decode cX8_leastFrame 8 = .ok (.istore 5, 2) := by decide +kernel
theorem dX8_leastFrame_10 : decode cX8_leastFrame 10 = .ok (.iload 5, 2) := by decide +kernel
theorem dX8_leastFrame_12 : decode cX8_leastFrame 12 = .ok (.bipush 12, 2) := by decide +kernel
theorem dX8_leastFrame_14 : decode cX8_leastFrame 14 = .ok (.if_icmp .ge 64, 3) := by decide +kernel
theorem dX8_leastFrame_17 : decode cX8_leastFrame 17 = .ok (.aload_n 0, 1) := by decide +kernel
theorem dX8_leastFrame_18 : decode cX8_leastFrame 18 = .ok (.iload 4, 2) := by decide +kernel
theorem dX8_leastFrame_20 : decode cX8_leastFrame 20 = .ok (.invokevirtual 53, 3) := by decide +kernel
theorem dX8_leastFrame_23 : decode cX8_leastFrame 23 = .ok (.istore 6, 2) := by decide +kernel
theorem dX8_leastFrame_25 : decode cX8_leastFrame 25 = .ok (.iload 6, 2) := by decide +kernel
theorem dX8_leastFrame_27 : decode cX8_leastFrame 27 = .ok (.bipush (-6), 2) := by decide +kernel
theorem dX8_leastFrame_29 : decode cX8_leastFrame 29 = .ok (.if_icmp .ne 18, 3) := by decide +kernel
theorem dX8_leastFrame_32 : decode cX8_leastFrame 32 = .ok (.iload 4, 2) := by decide +kernel
theorem dX8_leastFrame_34 : decode cX8_leastFrame 34 = .ok (.iload 4, 2) := by decide +kernel
theorem dX8_leastFrame_36 : decode cX8_leastFrame 36 = .ok (.iconst (-1), 1) := by decide +kernel
theorem dX8_leastFrame_37 : decode cX8_leastFrame 37 = .ok (.ixor, 1) := by decide +kernel
theorem dX8_leastFrame_38 : decode cX8_leastFrame 38 = .ok (.invokestatic 57, 3) := by decide +kernel
theorem dX8_leastFrame_41 : decode cX8_leastFrame 41 = .ok (.ior, 1) := by decide +kernel
theorem dX8_leastFrame_42 : decode cX8_leastFrame 42 = .ok (.istore 4, 2) := by decide +kernel
theorem dX8_leastFrame_44 : decode cX8_leastFrame 44 = .ok (.goto 28, 3) := by decide +kernel
theorem dX8_leastFrame_47 : decode cX8_leastFrame 47 = .ok (.iload_n 2, 1) := by decide +kernel
theorem dX8_leastFrame_48 : decode cX8_leastFrame 48 = .ok (.aload_n 0, 1) := by decide +kernel
theorem dX8_leastFrame_49 : decode cX8_leastFrame 49 = .ok (.getfield 9, 3) := by decide +kernel
theorem dX8_leastFrame_52 : decode cX8_leastFrame 52 = .ok (.iload 6, 2) := by decide +kernel
theorem dX8_leastFrame_54 : decode cX8_leastFrame 54 = .ok (.iaload, 1) := by decide +kernel
theorem dX8_leastFrame_55 : decode cX8_leastFrame 55 = .ok (.iadd, 1) := by decide +kernel
theorem dX8_leastFrame_56 : decode cX8_leastFrame 56 = .ok (.istore_n 2, 1) := by decide +kernel
theorem dX8_leastFrame_57 : decode cX8_leastFrame 57 = .ok (.iinc 3 1, 3) := by decide +kernel
theorem dX8_leastFrame_60 : decode cX8_leastFrame 60 = .ok (.iload 4, 2) := by decide +kernel
theorem dX8_leastFrame_62 : decode cX8_leastFrame 62 = .ok (.iconst 1, 1) := by decide +kernel
theorem dX8_leastFrame_63 : decode cX8_leastFrame 63 = .ok (.iload 6, 2) := by decide +kernel
theorem dX8_leastFrame_65 : decode cX8_leastFrame 65 = .ok (.bipush 12, 2) := by decide +kernel
theorem dX8_leastFrame_67 : decode cX8_leastFrame 67 = .ok (.irem, 1) := by decide +kernel
theorem dX8_leastFrame_68 : decode cX8_leastFrame 68 = .ok (.ishl, 1) := by decide +kernel
theorem dX8_leastFrame_69 : decode cX8_leastFrame 69 = .ok (.ior, 1) := by decide +kernel
theorem dX8_leastFrame_70 : decode cX8_leastFrame 70 = .ok (.istore 4, 2) := by decide +kernel
theorem dX8_leastFrame_72 : decode cX8_leastFrame 72 = .ok (.iinc 5 1, 3) := by decide +kernel
theorem dX8_leastFrame_75 : decode cX8_leastFrame 75 = .ok (.goto (-65), 3) := by decide +kernel
theorem dX8_leastFrame_78 : decode cX8_leastFrame 78 = .ok (.iload_n 1, 1) := by decide +kernel
theorem dX8_leastFrame_79 : decode cX8_leastFrame 79 = .ok (.ifCond .eq 7, 3) := by decide +kernel
theorem dX8_leastFrame_82 : decode cX8_leastFrame 82 = .ok (.iload_n 2, 1) := by decide +kernel
theorem dX8_leastFrame_83 : decode cX8_leastFrame 83 = .ok (.goto 4, 3) := by decide +kernel
theorem dX8_leastFrame_86 : decode cX8_leastFrame 86 = .ok (.iload_n 3, 1) := by decide +kernel
theorem dX8_leastFrame_87 : decode cX8_leastFrame 87 = .ok (.ireturn, 1) := by decide +kernel
abbrev wl_X8_leastFrame (G : gw_) (A_t : Nat) (A_t_planks : Nat) (A_t_least : Nat) (A_t_neighbours : Nat) (c_t_planks : Nat → Int32) : va_W := [ob_ A_t 8 [.ref A_t_planks, .ref A_t_least, .ref A_t_neighbours], ia_ G A_t_planks 144 c_t_planks]
def fn_X8_leastFrame_b10 (c_t_planks : Nat → Int32) (rc : Int32 → Int32 → Int32 → Int32 → Option (Int32)) (k : Int32 → Int32 → Option (Int32)) (x2 : Int32) (x3 : Int32) (x4 : Int32) (x5 : Int32) : Option (Int32) :=
  if 12 ≤ x5 then
    k x2 x3
  else
    b1_ (fn_X8_cheapestOutOf c_t_planks x4) fun r1 =>
    if r1 = (-6) then
      b1_ (fn_J6_lowestOneBit_0f7a4 (x4 ^^^ (-1))) fun r5 =>
      rc x2 x3 (x4 ||| r5) (x5 + 1)
    else
      ck_ r1 144 <|
      lx_ (x2 + (c_t_planks (Int32.toNatClampNeg r1))) fun y3 =>
      lx_ (x4 ||| (1 <<< ((r1 - r1 / 12 * 12) &&& 31))) fun y4 =>
      rc y3 (x3 + 1) y4 (x5 + 1)
def fn_X8_leastFrame_l10 (c_t_planks : Nat → Int32) (k : Int32 → Int32 → Option (Int32)) : Nat → Int32 → Int32 → Int32 → Int32 → Option (Int32)
  | 0 => fun _ _ _ _ => none
  | n + 1 => fun x2 x3 x4 x5 => fn_X8_leastFrame_b10 c_t_planks (fn_X8_leastFrame_l10 c_t_planks k n) k x2 x3 x4 x5
def fn_X8_leastFrame (c_t_planks : Nat → Int32) (x1 : Int32) : Option (Int32) :=
  fn_X8_leastFrame_l10 c_t_planks (fun v7 v8 =>
    if x1 = 0 then
      some v8
    else
      some v7) fu_ 0 0 0 0
set_option maxHeartbeats 4000000 in
set_option maxRecDepth 100000 in
theorem wn_X8_leastFrame_l10 {p : Program} {l : Launch} {e : Env} {s : State} {m : MethodId} {args : Array Value} {below : List Frame} {meth : Method} {c : Code} {G : gw_} {A : Nat → Prop} {Q : State → Prop} {A_t : Nat} {A_t_planks : Nat} {A_t_least : Nat} {A_t_neighbours : Nat} {c_t_planks : Nat → Int32} {r : Int32} {x1 : Int32} {k : Int32 → Int32 → Option (Int32)} (hC : cx_ p s m c G cX8_leastFrame 7 RX8) (hret : ∀ (pc : Nat) (H : Heap) (locs : List Loc) (ls : Array Slot), decode cX8_leastFrame pc = .ok (.ireturn, 1) → wd_ G A s.heap (wl_X8_leastFrame G A_t A_t_planks A_t_least A_t_neighbours c_t_planks) H locs → W p l e { frames := 2, cells := 0, slots := 0, locals := 45 } s m args below meth c H locs 0 0 Q (F0 m pc ls [.int r])) (hk : ∀ (x2 : Int32) (x3 : Int32) (H : Heap) (locs : List Loc) (ls : Array Slot), k x2 x3 = some r → lv_has ls 7 [(1, .int x1), (2, .int x2), (3, .int x3)] → wd_ G A s.heap (wl_X8_leastFrame G A_t A_t_planks A_t_least A_t_neighbours c_t_planks) H locs → W p l e { frames := 2, cells := 0, slots := 0, locals := 45 } s m args below meth c H locs 0 0 Q (F0 m 78 ls [])) : ∀ (n : Nat) (x2 : Int32) (x3 : Int32) (x4 : Int32) (x5 : Int32) (H : Heap) (locs : List Loc) (ls : Array Slot), fn_X8_leastFrame_l10 c_t_planks k n x2 x3 x4 x5 = some r → lv_has ls 7 [(0, .ref A_t), (1, .int x1), (2, .int x2), (3, .int x3), (4, .int x4), (5, .int x5)] → wd_ G A s.heap (wl_X8_leastFrame G A_t A_t_planks A_t_least A_t_neighbours c_t_planks) H locs → W p l e { frames := 2, cells := 0, slots := 0, locals := 45 } s m args below meth c H locs 0 0 Q (F0 m 10 ls []) := by
  have hx := hC.1
  have hb := hC.2.1
  intro n
  induction n with
  | zero =>
    intro x2 x3 x4 x5 H locs ls hf
    cases (show (none : Option (Int32)) = some _ from hf)
  | succ n hrc =>
    intro x2 x3 x4 x5 H locs ls hf hl hw
    replace hf : fn_X8_leastFrame_b10 c_t_planks (fn_X8_leastFrame_l10 c_t_planks k n) k x2 x3 x4 x5 = some r := hf
    unfold fn_X8_leastFrame_b10 at hf
    refine lv_iload hx hb dX8_leastFrame_10 (lv_at hl 5 rfl) ?_
    refine lv_bipush (v := 12) hx hb dX8_leastFrame_12 (by decide) ?_
    refine lv_icmp_ge (tgt := 78) hx hb dX8_leastFrame_14 (by decide) (fun hc => ?_) (fun hc => ?_)
    · replace hf := it_t hc hf
      exact hk x2 x3 _ _ _ hf (lv_sub hl [1, 2, 3] rfl) hw
    · replace hf := it_f hc hf
      refine lv_aload_n hx hb dX8_leastFrame_17 rfl (lv_at hl 0 rfl) ?_
      refine lv_iload hx hb dX8_leastFrame_18 (lv_at hl 4 rfl) ?_
      obtain ⟨r1, hq2, hf⟩ := b1_s hf
      refine h_cVi hC hw mvX8_53 (cn_X8_cheapestOutOf l G A_t A_t_planks A_t_least A_t_neighbours c_t_planks x4 r1 hq2) [0, 1] rfl (by decide) 0 rfl rfl rfl hl.1 rfl (Nat.le_of_ble_eq_true rfl) ⟨Nat.le_of_ble_eq_true rfl, Nat.le_of_ble_eq_true rfl⟩ ⟨Nat.le_refl _, Nat.le_refl _⟩ dX8_leastFrame_20 (fun H locs hw => ?_)
      refine lv_istore (lv' := [(6, .int r1), (0, .ref A_t), (1, .int x1), (2, .int x2), (3, .int x3), (4, .int x4), (5, .int x5)]) hx hb dX8_leastFrame_23 hl (by decide) rfl (fun ls hl => ?_)
      refine lv_iload hx hb dX8_leastFrame_25 (lv_at hl 0 rfl) ?_
      refine lv_bipush (v := (-6)) hx hb dX8_leastFrame_27 (by decide) ?_
      refine lv_icmp_ne (tgt := 47) hx hb dX8_leastFrame_29 (by decide) (fun hc => ?_) (fun hc => ?_)
      · replace hf := it_f hc hf
        refine lv_iload_n hx hb dX8_leastFrame_47 rfl (lv_at hl 3 rfl) ?_
        refine lv_aload_n hx hb dX8_leastFrame_48 rfl (lv_at hl 1 rfl) ?_
        refine g_get hC hw fkX8_9 0 rfl rfl dX8_leastFrame_49 ?_
        refine lv_iload hx hb dX8_leastFrame_52 (lv_at hl 0 rfl) ?_
        obtain ⟨hi, hf⟩ := ck_s hf
        refine g_iald hC hw 1 rfl hi dX8_leastFrame_54 ?_
        refine lv_iadd hx hb dX8_leastFrame_55 ?_
        obtain ⟨y3, ey3, hf⟩ := lx_s hf
        rw [← ey3]
        refine lv_istore_n (lv' := [(2, .int y3), (6, .int r1), (0, .ref A_t), (1, .int x1), (3, .int x3), (4, .int x4), (5, .int x5)]) hx hb dX8_leastFrame_56 rfl hl (by decide) rfl (fun ls hl => ?_)
        refine lv_iinc (v := x3 + 1) (lv' := [(3, .int (x3 + 1)), (2, .int y3), (6, .int r1), (0, .ref A_t), (1, .int x1), (4, .int x4), (5, .int x5)]) hx hb dX8_leastFrame_57 hl (k := 4) rfl rfl (by decide) rfl (fun ls hl => ?_)
        refine lv_iload hx hb dX8_leastFrame_60 (lv_at hl 5 rfl) ?_
        refine lv_iconst (v := 1) hx hb dX8_leastFrame_62 (by decide) ?_
        refine lv_iload hx hb dX8_leastFrame_63 (lv_at hl 2 rfl) ?_
        refine lv_bipush (v := 12) hx hb dX8_leastFrame_65 (by decide) ?_
        refine lv_irem hx hb dX8_leastFrame_67 (by decide) ?_
        refine lv_ishl hx hb dX8_leastFrame_68 ?_
        refine lv_ior hx hb dX8_leastFrame_69 ?_
        obtain ⟨y4, ey4, hf⟩ := lx_s hf
        rw [← ey4]
        refine lv_istore (lv' := [(4, .int y4), (3, .int (x3 + 1)), (2, .int y3), (6, .int r1), (0, .ref A_t), (1, .int x1), (5, .int x5)]) hx hb dX8_leastFrame_70 hl (by decide) rfl (fun ls hl => ?_)
        refine lv_iinc (v := x5 + 1) (lv' := [(5, .int (x5 + 1)), (4, .int y4), (3, .int (x3 + 1)), (2, .int y3), (6, .int r1), (0, .ref A_t), (1, .int x1)]) hx hb dX8_leastFrame_72 hl (k := 6) rfl rfl (by decide) rfl (fun ls hl => ?_)
        refine lv_goto (tgt := 10) hx hb dX8_leastFrame_75 (by decide) ?_
        exact hrc y3 (x3 + 1) y4 (x5 + 1) _ _ _ hf (lv_sub hl [5, 6, 3, 2, 1, 0] rfl) hw
      · replace hf := it_t hc hf
        refine lv_iload hx hb dX8_leastFrame_32 (lv_at hl 5 rfl) ?_
        refine lv_iload hx hb dX8_leastFrame_34 (lv_at hl 5 rfl) ?_
        refine lv_iconst (v := (-1)) hx hb dX8_leastFrame_36 (by decide) ?_
        refine lv_ixor hx hb dX8_leastFrame_37 ?_
        obtain ⟨r5, hq6, hf⟩ := b1_s hf
        refine h_cSi hC hw msX8_57 (cn_J6_lowestOneBit_0f7a4 l G (x4 ^^^ (-1)) r5 hq6) [] rfl (by decide) rfl hl.1 rfl (Nat.le_of_ble_eq_true rfl) ⟨Nat.le_of_ble_eq_true rfl, Nat.le_of_ble_eq_true rfl⟩ ⟨Nat.le_refl _, Nat.le_refl _⟩ dX8_leastFrame_38 (fun H locs hw => ?_)
        refine lv_ior hx hb dX8_leastFrame_41 ?_
        refine lv_istore (lv' := [(4, .int (x4 ||| r5)), (6, .int r1), (0, .ref A_t), (1, .int x1), (2, .int x2), (3, .int x3), (5, .int x5)]) hx hb dX8_leastFrame_42 hl (by decide) rfl (fun ls hl => ?_)
        refine lv_goto (tgt := 72) hx hb dX8_leastFrame_44 (by decide) ?_
        refine lv_iinc (v := x5 + 1) (lv' := [(5, .int (x5 + 1)), (4, .int (x4 ||| r5)), (6, .int r1), (0, .ref A_t), (1, .int x1), (2, .int x2), (3, .int x3)]) hx hb dX8_leastFrame_72 hl (k := 6) rfl rfl (by decide) rfl (fun ls hl => ?_)
        refine lv_goto (tgt := 10) hx hb dX8_leastFrame_75 (by decide) ?_
        exact hrc x2 x3 (x4 ||| r5) (x5 + 1) _ _ _ hf (lv_sub hl [3, 4, 5, 6, 1, 0] rfl) hw
set_option maxHeartbeats 4000000 in
set_option maxRecDepth 100000 in
theorem wn_X8_leastFrame {p : Program} {l : Launch} {e : Env} {s : State} {m : MethodId} {args : Array Value} {below : List Frame} {meth : Method} {c : Code} {G : gw_} {A : Nat → Prop} {Q : State → Prop} {A_t : Nat} {A_t_planks : Nat} {A_t_least : Nat} {A_t_neighbours : Nat} {c_t_planks : Nat → Int32} {r : Int32} {x1 : Int32} (hC : cx_ p s m c G cX8_leastFrame 7 RX8) (hret : ∀ (pc : Nat) (H : Heap) (locs : List Loc) (ls : Array Slot), decode cX8_leastFrame pc = .ok (.ireturn, 1) → wd_ G A s.heap (wl_X8_leastFrame G A_t A_t_planks A_t_least A_t_neighbours c_t_planks) H locs → W p l e { frames := 2, cells := 0, slots := 0, locals := 45 } s m args below meth c H locs 0 0 Q (F0 m pc ls [.int r])) (hf : fn_X8_leastFrame c_t_planks x1 = some r) {H : Heap} {locs : List Loc} {ls : Array Slot} (hl : lv_has ls 7 [(0, .ref A_t), (1, .int x1)]) (hw : wd_ G A s.heap (wl_X8_leastFrame G A_t A_t_planks A_t_least A_t_neighbours c_t_planks) H locs) : W p l e { frames := 2, cells := 0, slots := 0, locals := 45 } s m args below meth c H locs 0 0 Q (F0 m 0 ls []) := by
  have hx := hC.1
  have hb := hC.2.1
  unfold fn_X8_leastFrame at hf
  refine lv_iconst (v := 0) hx hb dX8_leastFrame_0 (by decide) ?_
  refine lv_istore_n (lv' := [(2, .int 0), (0, .ref A_t), (1, .int x1)]) hx hb dX8_leastFrame_1 rfl hl (by decide) rfl (fun ls hl => ?_)
  refine lv_iconst (v := 0) hx hb dX8_leastFrame_2 (by decide) ?_
  refine lv_istore_n (lv' := [(3, .int 0), (2, .int 0), (0, .ref A_t), (1, .int x1)]) hx hb dX8_leastFrame_3 rfl hl (by decide) rfl (fun ls hl => ?_)
  refine lv_iconst (v := 0) hx hb dX8_leastFrame_4 (by decide) ?_
  refine lv_istore (lv' := [(4, .int 0), (3, .int 0), (2, .int 0), (0, .ref A_t), (1, .int x1)]) hx hb dX8_leastFrame_5 hl (by decide) rfl (fun ls hl => ?_)
  refine lv_iconst (v := 0) hx hb dX8_leastFrame_7 (by decide) ?_
  refine lv_istore (lv' := [(5, .int 0), (4, .int 0), (3, .int 0), (2, .int 0), (0, .ref A_t), (1, .int x1)]) hx hb dX8_leastFrame_8 hl (by decide) rfl (fun ls hl => ?_)
  refine wn_X8_leastFrame_l10 hC hret (fun v7 v8 H locs ls hf hl hw => ?_) fu_ 0 0 0 0 _ _ _ hf (lv_sub hl [4, 5, 3, 2, 1, 0] rfl) hw
  refine lv_iload_n hx hb dX8_leastFrame_78 rfl (lv_at hl 0 rfl) ?_
  refine lv_if_eq (tgt := 86) hx hb dX8_leastFrame_79 (by decide) (fun hc => ?_) (fun hc => ?_)
  · replace hf := it_t hc hf
    refine lv_iload_n hx hb dX8_leastFrame_86 rfl (lv_at hl 2 rfl) ?_
    have h1_ := t1_ hf
    subst h1_
    exact hret _ _ _ _ dX8_leastFrame_87 hw
  · replace hf := it_f hc hf
    refine lv_iload_n hx hb dX8_leastFrame_82 rfl (lv_at hl 1 rfl) ?_
    refine lv_goto (tgt := 87) hx hb dX8_leastFrame_83 (by decide) ?_
    have h1_ := t1_ hf
    subst h1_
    exact hret _ _ _ _ dX8_leastFrame_87 hw
set_option maxHeartbeats 4000000 in
set_option maxRecDepth 100000 in
theorem cn_X8_leastFrame (l : Launch) (G : gw_) (A_t : Nat) (A_t_planks : Nat) (A_t_least : Nat) (A_t_neighbours : Nat) (c_t_planks : Nat → Int32) (x1 : Int32) (r : Int32) (hf : fn_X8_leastFrame c_t_planks x1 = some r) : ci_ l G yX8_leastFrame cX8_leastFrame 7 (some .int) 2 45 (wl_X8_leastFrame G A_t A_t_planks A_t_least A_t_neighbours c_t_planks) [.ref A_t, .int x1] r (wl_X8_leastFrame G A_t A_t_planks A_t_least A_t_neighbours c_t_planks) := fun sz => met_intro (by decide) (Nat.le_of_ble_eq_true rfl) (fun p e s m args below meth c ls hsz hC hr hlk hnm hl hw => wn_X8_leastFrame hC (fun pc H locs ls hd hw => g_iret hC hr hlk hw rfl rfl hd) hf hl hw)

theorem dX9_isPlace_0 : decode cX9_isPlace 0 = .ok (.iload_n 0, 1) := by decide +kernel
theorem dX9_isPlace_1 : decode cX9_isPlace 1 = .ok (.iconst 0, 1) := by decide +kernel
theorem dX9_isPlace_2 : decode cX9_isPlace 2 = .ok (.bipush 11, 2) := by decide +kernel
theorem dX9_isPlace_4 : decode cX9_isPlace 4 = .ok (.invokestatic 63, 3) := by decide +kernel
theorem dX9_isPlace_7 : decode cX9_isPlace 7 = .ok (.ireturn, 1) := by decide +kernel
def fn_X9_isPlace (x0 : Int32) : Option (Int32) :=
  b1_ (fn_X9_isWithin x0 0 11) fun r1 =>
  bz_ r1 <|
  some r1
set_option maxHeartbeats 4000000 in
set_option maxRecDepth 100000 in
theorem wn_X9_isPlace {p : Program} {l : Launch} {e : Env} {s : State} {m : MethodId} {args : Array Value} {below : List Frame} {meth : Method} {c : Code} {G : gw_} {A : Nat → Prop} {Q : State → Prop} {r : Int32} {x0 : Int32} (hC : cx_ p s m c G cX9_isPlace 1 RX9) (hret : ∀ (pc : Nat) (H : Heap) (locs : List Loc) (ls : Array Slot), narrow .boolean (.int r) = .int r → decode cX9_isPlace pc = .ok (.ireturn, 1) → wd_ G A s.heap [] H locs → W p l e { frames := 1, cells := 0, slots := 0, locals := 22 } s m args below meth c H locs 0 0 Q (F0 m pc ls [.int r])) (hf : fn_X9_isPlace x0 = some r) {H : Heap} {locs : List Loc} {ls : Array Slot} (hl : lv_has ls 1 [(0, .int x0)]) (hw : wd_ G A s.heap [] H locs) : W p l e { frames := 1, cells := 0, slots := 0, locals := 22 } s m args below meth c H locs 0 0 Q (F0 m 0 ls []) := by
  have hx := hC.1
  have hb := hC.2.1
  unfold fn_X9_isPlace at hf
  refine lv_iload_n hx hb dX9_isPlace_0 rfl (lv_at hl 0 rfl) ?_
  refine lv_iconst (v := 0) hx hb dX9_isPlace_1 (by decide) ?_
  refine lv_bipush (v := 11) hx hb dX9_isPlace_2 (by decide) ?_
  obtain ⟨r1, hq2, hf⟩ := b1_s hf
  refine h_cSi hC hw msX9_63 (cn_X9_isWithin l G x0 0 11 r1 hq2) [] rfl (by decide) rfl hl.1 rfl (Nat.le_of_ble_eq_true rfl) ⟨Nat.le_of_ble_eq_true rfl, Nat.le_of_ble_eq_true rfl⟩ ⟨Nat.le_refl _, Nat.le_refl _⟩ dX9_isPlace_4 (fun H locs hw => ?_)
  obtain ⟨hz0, hf⟩ := bz_s hf
  have h1_ := t1_ hf
  subst h1_
  exact hret _ _ _ _ hz0.1 dX9_isPlace_7 hw
set_option maxHeartbeats 4000000 in
set_option maxRecDepth 100000 in
theorem cn_X9_isPlace (l : Launch) (G : gw_) (x0 : Int32) (r : Int32) (hf : fn_X9_isPlace x0 = some r) : ci_ l G yX9_isPlace cX9_isPlace 1 (some .boolean) 1 22 [] [.int x0] r [] := fun sz => met_intro (by decide) (Nat.le_of_ble_eq_true rfl) (fun p e s m args below meth c ls hsz hC hr hlk hnm hl hw => wn_X9_isPlace hC (fun pc H locs ls hn hd hw => g_iret hC hr hlk hw rfl hn hd) hf hl hw)

theorem dX9_plank_0 : decode cX9_plank 0 = .ok (.iload_n 1, 1) := by decide +kernel
theorem dX9_plank_1 : decode cX9_plank 1 = .ok (.invokestatic 59, 3) := by decide +kernel
theorem dX9_plank_4 : decode cX9_plank 4 = .ok (.ifCond .eq 15, 3) := by decide +kernel
theorem dX9_plank_7 : decode cX9_plank 7 = .ok (.iload_n 2, 1) := by decide +kernel
theorem dX9_plank_8 : decode cX9_plank 8 = .ok (.invokestatic 59, 3) := by decide +kernel
theorem dX9_plank_11 : decode cX9_plank 11 = .ok (.ifCond .eq 8, 3) := by decide +kernel
theorem dX9_plank_14 : decode cX9_plank 14 = .ok (.iload_n 1, 1) := by decide +kernel
theorem dX9_plank_15 : decode cX9_plank 15 = .ok (.iload_n 2, 1) := by decide +kernel
theorem dX9_plank_16 : decode cX9_plank 16 = .ok (.if_icmp .ne 5, 3) := by decide +kernel
theorem dX9_plank_19 : decode cX9_plank 19 = .ok (.iconst (-1), 1) := by decide +kernel
theorem dX9_plank_20 : decode cX9_plank 20 = .ok (.ireturn, 1) := by decide +kernel
theorem dX9_plank_21 : decode cX9_plank 21 = .ok (.iload_n 3, 1) := by decide +kernel
theorem dX9_plank_22 : decode cX9_plank 22 = .ok (.iconst 0, 1) := by decide +kernel
theorem dX9_plank_23 : decode cX9_plank 23 = .ok (.bipush 99, 2) := by decide +kernel
theorem dX9_plank_25 : decode cX9_plank 25 = .ok (.invokestatic 63, 3) := by decide +kernel
theorem dX9_plank_28 : decode cX9_plank 28 = .ok (.ifCond .ne 6, 3) := by decide +kernel
theorem dX9_plank_31 : decode cX9_plank 31 = .ok (.bipush (-2), 2) := by decide +kernel
theorem dX9_plank_33 : decode cX9_plank 33 = .ok (.ireturn, 1) := by decide +kernel
theorem dX9_plank_34 : decode cX9_plank 34 = .ok (.aload_n 0, 1) := by decide +kernel
theorem dX9_plank_35 : decode cX9_plank 35 = .ok (.getfield 12, 3) := by decide +kernel
theorem dX9_plank_38 : decode cX9_plank 38 = .ok (.getfield 67, 3) := by decide +kernel
theorem dX9_plank_41 : decode cX9_plank 41 = .ok (.iload_n 1, 1) := by decide +kernel
theorem dX9_plank_42 : decode cX9_plank 42 = .ok (.iload_n 2, 1) := by decide +kernel
theorem dX9_plank_43 : decode cX9_plank 43 = .ok (.invokevirtual 71, 3) := by decide +kernel
theorem dX9_plank_46 : decode cX9_plank 46 = .ok (.iconst 2, 1) := by decide +kernel
theorem dX9_plank_47 : decode cX9_plank 47 = .ok (.idiv, 1) := by decide +kernel
theorem dX9_plank_48 : decode cX9_plank 48 = .ok (.istore 5, 2) := by decide +kernel
theorem dX9_plank_50 : decode cX9_plank 50 = .ok (.aload_n 0, 1) := by decide +kernel
theorem dX9_plank_51 : decode cX9_plank 51 = .ok (.getfield 12, 3) := by decide +kernel
theorem dX9_plank_54 : decode cX9_plank 54 = .ok (.getfield 67, 3) := by decide +kernel
theorem dX9_plank_57 : decode cX9_plank 57 = .ok (.iload_n 1, 1) := by decide +kernel
theorem dX9_plank_58 : decode cX9_plank 58 = .ok (.iload_n 2, 1) := by decide +kernel
theorem dX9_plank_59 : decode cX9_plank 59 = .ok (.iload_n 3, 1) := by decide +kernel
theorem dX9_plank_60 : decode cX9_plank 60 = .ok (.iload 4, 2) := by decide +kernel
theorem dX9_plank_62 : decode cX9_plank 62 = .ok (.invokevirtual 77, 3) := by decide +kernel
theorem dX9_plank_65 : decode cX9_plank 65 = .ok (.aload_n 0, 1) := by decide +kernel
theorem dX9_plank_66 : decode cX9_plank 66 = .ok (.iconst 0, 1) := by decide +kernel
theorem dX9_plank_67 : decode cX9_plank 67 = .ok (.putfield 55, 3) := by decide +kernel
theorem dX9_plank_70 : decode cX9_plank 70 = .ok (.iload 5, 2) := by decide +kernel
theorem dX9_plank_72 : decode cX9_plank 72 = .ok (.ireturn, 1) := by decide +kernel
abbrev wl_X9_plank (G : gw_) (A_t : Nat) (A_t_now : Nat) (A_t_images : Nat) (A_t_pad : Nat) (A_t_evening : Nat) (A_t_ways : Nat) (A_t_tour : Nat) (A_t_odds : Nat) (A_t_now_marsh : Nat) (A_t_now_crowd : Nat) (A_t_now_sights : Nat) (A_t_now_marsh_codes : Nat) (c_t_measured : Int32) (c_t_now_marsh_codes : Nat → Int32) : va_W := [ob_ A_t 9 [.ref A_t_now, .ref A_t_images, .ref A_t_pad, .ref A_t_evening, .ref A_t_ways, .ref A_t_tour, .ref A_t_odds, .int c_t_measured], ob_ A_t_now 5 [.ref A_t_now_marsh, .ref A_t_now_crowd, .ref A_t_now_sights], ob_ A_t_now_marsh 2 [.ref A_t_now_marsh_codes], ia_ G A_t_now_marsh_codes 144 c_t_now_marsh_codes]
def fn_X9_plank (c_t_measured : Int32) (c_t_now_marsh_codes : Nat → Int32) (x1 : Int32) (x2 : Int32) (x3 : Int32) (x4 : Int32) : Option (Int32 × Int32 × (Nat → Int32)) :=
  b1_ (fn_X9_isPlace x1) fun r1 =>
  if r1 = 0 then
    some ((-1), c_t_measured, c_t_now_marsh_codes)
  else
    b1_ (fn_X9_isPlace x2) fun r3 =>
    if r3 = 0 then
      some ((-1), c_t_measured, c_t_now_marsh_codes)
    else
      if x1 = x2 then
        some ((-1), c_t_measured, c_t_now_marsh_codes)
      else
        b1_ (fn_X9_isWithin x3 0 99) fun r5 =>
        if r5 = 0 then
          some ((-2), c_t_measured, c_t_now_marsh_codes)
        else
          b1_ (fn_X2_code c_t_now_marsh_codes x1 x2) fun r7 =>
          b1_ (fn_X2_lay c_t_now_marsh_codes x1 x2 x3 x4) fun w9 =>
          some (r7 / 2, 0, w9)
set_option maxHeartbeats 4000000 in
set_option maxRecDepth 100000 in
theorem wn_X9_plank {p : Program} {l : Launch} {e : Env} {s : State} {m : MethodId} {args : Array Value} {below : List Frame} {meth : Method} {c : Code} {G : gw_} {A : Nat → Prop} {Q : State → Prop} {A_t : Nat} {A_t_now : Nat} {A_t_images : Nat} {A_t_pad : Nat} {A_t_evening : Nat} {A_t_ways : Nat} {A_t_tour : Nat} {A_t_odds : Nat} {A_t_now_marsh : Nat} {A_t_now_crowd : Nat} {A_t_now_sights : Nat} {A_t_now_marsh_codes : Nat} {c_t_measured : Int32} {z_t_measured : Int32} {c_t_now_marsh_codes : Nat → Int32} {z_t_now_marsh_codes : Nat → Int32} {r : Int32} {x1 : Int32} {x2 : Int32} {x3 : Int32} {x4 : Int32} (hC : cx_ p s m c G cX9_plank 6 RX9) (hret : ∀ (pc : Nat) (H : Heap) (locs : List Loc) (ls : Array Slot), decode cX9_plank pc = .ok (.ireturn, 1) → wd_ G A s.heap (wl_X9_plank G A_t A_t_now A_t_images A_t_pad A_t_evening A_t_ways A_t_tour A_t_odds A_t_now_marsh A_t_now_crowd A_t_now_sights A_t_now_marsh_codes z_t_measured z_t_now_marsh_codes) H locs → W p l e { frames := 2, cells := 0, slots := 0, locals := 42 } s m args below meth c H locs 0 0 Q (F0 m pc ls [.int r])) (hf : fn_X9_plank c_t_measured c_t_now_marsh_codes x1 x2 x3 x4 = some (r, z_t_measured, z_t_now_marsh_codes)) {H : Heap} {locs : List Loc} {ls : Array Slot} (hl : lv_has ls 6 [(0, .ref A_t), (1, .int x1), (2, .int x2), (3, .int x3), (4, .int x4)]) (hw : wd_ G A s.heap (wl_X9_plank G A_t A_t_now A_t_images A_t_pad A_t_evening A_t_ways A_t_tour A_t_odds A_t_now_marsh A_t_now_crowd A_t_now_sights A_t_now_marsh_codes c_t_measured c_t_now_marsh_codes) H locs) : W p l e { frames := 2, cells := 0, slots := 0, locals := 42 } s m args below meth c H locs 0 0 Q (F0 m 0 ls []) := by
  have hx := hC.1
  have hb := hC.2.1
  unfold fn_X9_plank at hf
  refine lv_iload_n hx hb dX9_plank_0 rfl (lv_at hl 1 rfl) ?_
  obtain ⟨r1, hq2, hf⟩ := b1_s hf
  refine h_cSi hC hw msX9_59 (cn_X9_isPlace l G x1 r1 hq2) [] rfl (by decide) rfl hl.1 rfl (Nat.le_of_ble_eq_true rfl) ⟨Nat.le_of_ble_eq_true rfl, Nat.le_of_ble_eq_true rfl⟩ ⟨Nat.le_refl _, Nat.le_refl _⟩ dX9_plank_1 (fun H locs hw => ?_)
  refine lv_if_eq (tgt := 19) hx hb dX9_plank_4 (by decide) (fun hc => ?_) (fun hc => ?_)
  · replace hf := it_t hc hf
    refine lv_iconst (v := (-1)) hx hb dX9_plank_19 (by decide) ?_
    obtain ⟨h1_, h2_, h3_⟩ := t3_ hf
    subst h1_
    subst h2_
    subst h3_
    exact hret _ _ _ _ dX9_plank_20 hw
  · replace hf := it_f hc hf
    refine lv_iload_n hx hb dX9_plank_7 rfl (lv_at hl 2 rfl) ?_
    obtain ⟨r3, hq4, hf⟩ := b1_s hf
    refine h_cSi hC hw msX9_59 (cn_X9_isPlace l G x2 r3 hq4) [] rfl (by decide) rfl hl.1 rfl (Nat.le_of_ble_eq_true rfl) ⟨Nat.le_of_ble_eq_true rfl, Nat.le_of_ble_eq_true rfl⟩ ⟨Nat.le_refl _, Nat.le_refl _⟩ dX9_plank_8 (fun H locs hw => ?_)
    refine lv_if_eq (tgt := 19) hx hb dX9_plank_11 (by decide) (fun hc => ?_) (fun hc => ?_)
    · replace hf := it_t hc hf
      refine lv_iconst (v := (-1)) hx hb dX9_plank_19 (by decide) ?_
      obtain ⟨h1_, h2_, h3_⟩ := t3_ hf
      subst h1_
      subst h2_
      subst h3_
      exact hret _ _ _ _ dX9_plank_20 hw
    · replace hf := it_f hc hf
      refine lv_iload_n hx hb dX9_plank_14 rfl (lv_at hl 1 rfl) ?_
      refine lv_iload_n hx hb dX9_plank_15 rfl (lv_at hl 2 rfl) ?_
      refine lv_icmp_ne (tgt := 21) hx hb dX9_plank_16 (by decide) (fun hc => ?_) (fun hc => ?_)
      · replace hf := it_f hc hf
        refine lv_iload_n hx hb dX9_plank_21 rfl (lv_at hl 3 rfl) ?_
        refine lv_iconst (v := 0) hx hb dX9_plank_22 (by decide) ?_
        refine lv_bipush (v := 99) hx hb dX9_plank_23 (by decide) ?_
        obtain ⟨r5, hq6, hf⟩ := b1_s hf
        refine h_cSi hC hw msX9_63 (cn_X9_isWithin l G x3 0 99 r5 hq6) [] rfl (by decide) rfl hl.1 rfl (Nat.le_of_ble_eq_true rfl) ⟨Nat.le_of_ble_eq_true rfl, Nat.le_of_ble_eq_true rfl⟩ ⟨Nat.le_refl _, Nat.le_refl _⟩ dX9_plank_25 (fun H locs hw => ?_)
        refine lv_if_ne (tgt := 34) hx hb dX9_plank_28 (by decide) (fun hc => ?_) (fun hc => ?_)
        · replace hf := it_f hc hf
          refine lv_aload_n hx hb dX9_plank_34 rfl (lv_at hl 0 rfl) ?_
          refine g_get hC hw fkX9_12 0 rfl rfl dX9_plank_35 ?_
          refine g_get hC hw fkX9_67 1 rfl rfl dX9_plank_38 ?_
          refine lv_iload_n hx hb dX9_plank_41 rfl (lv_at hl 1 rfl) ?_
          refine lv_iload_n hx hb dX9_plank_42 rfl (lv_at hl 2 rfl) ?_
          obtain ⟨r7, hq8, hf⟩ := b1_s hf
          refine h_cVi hC hw mvX9_71 (cn_X2_code l G A_t_now_marsh A_t_now_marsh_codes c_t_now_marsh_codes x1 x2 r7 hq8) [2, 3] rfl (by decide) 2 rfl rfl rfl hl.1 rfl (Nat.le_of_ble_eq_true rfl) ⟨Nat.le_of_ble_eq_true rfl, Nat.le_of_ble_eq_true rfl⟩ ⟨Nat.le_refl _, Nat.le_refl _⟩ dX9_plank_43 (fun H locs hw => ?_)
          refine lv_iconst (v := 2) hx hb dX9_plank_46 (by decide) ?_
          refine lv_idiv hx hb dX9_plank_47 (by decide) ?_
          refine lv_istore (lv' := [(5, .int (r7 / 2)), (0, .ref A_t), (1, .int x1), (2, .int x2), (3, .int x3), (4, .int x4)]) hx hb dX9_plank_48 hl (by decide) rfl (fun ls hl => ?_)
          refine lv_aload_n hx hb dX9_plank_50 rfl (lv_at hl 1 rfl) ?_
          refine g_get hC hw fkX9_12 0 rfl rfl dX9_plank_51 ?_
          refine g_get hC hw fkX9_67 1 rfl rfl dX9_plank_54 ?_
          refine lv_iload_n hx hb dX9_plank_57 rfl (lv_at hl 2 rfl) ?_
          refine lv_iload_n hx hb dX9_plank_58 rfl (lv_at hl 3 rfl) ?_
          refine lv_iload_n hx hb dX9_plank_59 rfl (lv_at hl 4 rfl) ?_
          refine lv_iload hx hb dX9_plank_60 (lv_at hl 5 rfl) ?_
          obtain ⟨w9, hq10, hf⟩ := b1_s hf
          refine g_cVv hC hw mvX9_77 (cn_X2_lay l G A_t_now_marsh A_t_now_marsh_codes c_t_now_marsh_codes x1 x2 x3 x4 w9 hq10) [2, 3] rfl (by decide) rfl 2 rfl rfl rfl hl.1 rfl (Nat.le_of_ble_eq_true rfl) ⟨Nat.le_of_ble_eq_true rfl, Nat.le_of_ble_eq_true rfl⟩ ⟨Nat.le_refl _, Nat.le_refl _⟩ dX9_plank_62 (fun H locs hw => ?_)
          have hw : wd_ G A s.heap (wl_X9_plank G A_t A_t_now A_t_images A_t_pad A_t_evening A_t_ways A_t_tour A_t_odds A_t_now_marsh A_t_now_crowd A_t_now_sights A_t_now_marsh_codes c_t_measured w9) H locs := hw
          refine lv_aload_n hx hb dX9_plank_65 rfl (lv_at hl 1 rfl) ?_
          refine lv_iconst (v := 0) hx hb dX9_plank_66 (by decide) ?_
          refine g_put hC hw fpX9_55 0 rfl rfl rfl (Nat.le_of_ble_eq_true rfl) dX9_plank_67 (fun H locs hw => ?_)
          have hw : wd_ G A s.heap (wl_X9_plank G A_t A_t_now A_t_images A_t_pad A_t_evening A_t_ways A_t_tour A_t_odds A_t_now_marsh A_t_now_crowd A_t_now_sights A_t_now_marsh_codes 0 w9) H locs := hw
          refine lv_iload hx hb dX9_plank_70 (lv_at hl 0 rfl) ?_
          obtain ⟨h1_, h2_, h3_⟩ := t3_ hf
          subst h1_
          subst h2_
          subst h3_
          exact hret _ _ _ _ dX9_plank_72 hw
        · replace hf := it_t hc hf
          refine lv_bipush (v := (-2)) hx hb dX9_plank_31 (by decide) ?_
          obtain ⟨h1_, h2_, h3_⟩ := t3_ hf
          subst h1_
          subst h2_
          subst h3_
          exact hret _ _ _ _ dX9_plank_33 hw
      · replace hf := it_t hc hf
        refine lv_iconst (v := (-1)) hx hb dX9_plank_19 (by decide) ?_
        obtain ⟨h1_, h2_, h3_⟩ := t3_ hf
        subst h1_
        subst h2_
        subst h3_
        exact hret _ _ _ _ dX9_plank_20 hw
set_option maxHeartbeats 4000000 in
set_option maxRecDepth 100000 in
theorem cn_X9_plank (l : Launch) (G : gw_) (A_t : Nat) (A_t_now : Nat) (A_t_images : Nat) (A_t_pad : Nat) (A_t_evening : Nat) (A_t_ways : Nat) (A_t_tour : Nat) (A_t_odds : Nat) (A_t_now_marsh : Nat) (A_t_now_crowd : Nat) (A_t_now_sights : Nat) (A_t_now_marsh_codes : Nat) (c_t_measured : Int32) (c_t_now_marsh_codes : Nat → Int32) (x1 : Int32) (x2 : Int32) (x3 : Int32) (x4 : Int32) (r : Int32) (z_t_measured : Int32) (z_t_now_marsh_codes : Nat → Int32) (hf : fn_X9_plank c_t_measured c_t_now_marsh_codes x1 x2 x3 x4 = some (r, z_t_measured, z_t_now_marsh_codes)) : ci_ l G yX9_plank cX9_plank 6 (some .int) 2 42 (wl_X9_plank G A_t A_t_now A_t_images A_t_pad A_t_evening A_t_ways A_t_tour A_t_odds A_t_now_marsh A_t_now_crowd A_t_now_sights A_t_now_marsh_codes c_t_measured c_t_now_marsh_codes) [.ref A_t, .int x1, .int x2, .int x3, .int x4] r (wl_X9_plank G A_t A_t_now A_t_images A_t_pad A_t_evening A_t_ways A_t_tour A_t_odds A_t_now_marsh A_t_now_crowd A_t_now_sights A_t_now_marsh_codes z_t_measured z_t_now_marsh_codes) := fun sz => met_intro (by decide) (Nat.le_of_ble_eq_true rfl) (fun p e s m args below meth c ls hsz hC hr hlk hnm hl hw => wn_X9_plank hC (fun pc H locs ls hd hw => g_iret hC hr hlk hw rfl rfl hd) hf hl hw)
