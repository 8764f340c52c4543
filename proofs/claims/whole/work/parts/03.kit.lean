/-! ===== own: the kinds of cells, the tables' words at any state ===== -/
abbrev cl_ : List vw_C := [(RX0, TX0, 7), (RX1, TX1, 6), (RX2, TX2, 1), (RX3, TX3, 3), (RX4, TX4, 2), (RX5, TX5, 3), (RX6, TX6, 3), (RX7, TX7, 4), (RX8, TX8, 3), (RX9, TX9, 8), (RX10, TX10, 33)]
abbrev gw_ : Type := va_G × ClassId × ClassId × ClassId
abbrev ty_ (G : gw_) : List (ClassId × FieldType) := [(G.2.1, .int), (G.2.2.1, .boolean), (G.2.2.2, .object "LanternSteps$Scene")]
abbrev ia_ (G : gw_) (a n : Nat) (f : Nat → Int32) : Nat × va_E := (a, .inl (G.2.1, n, .inl f))
abbrev za_ (G : gw_) (a n : Nat) (f : Nat → Int32) : Nat × va_E := (a, .inl (G.2.2.1, n, .inl f))
abbrev qa_ (G : gw_) (a n : Nat) (f : Nat → Option Nat) : Nat × va_E := (a, .inl (G.2.2.2, n, .inr (.inr (.inr (.inr f)))))
abbrev ob_ (a ci : Nat) (fs : List Value) : Nat × va_E := (a, .inr (ci, fs))
def aw_nest : Cond → Bool
  | .fieldLinkNest .. => true
  | .methodLinkNest .. => true
  | _ => false
def aw_arr : Cond → Bool
  | .arrayClass _ => true
  | _ => false
def aw_ok : Cond → Bool
  | .arrayOver .. => false
  | .privateMethod _ => false
  | _ => true
/-- the tables' words, but for two kinds that a call may not carry -/
def tw_ : List Cond := lw_tbl.filter aw_ok
def aw_ (U : State) : Prop := ∀ w ∈ tw_, va_Nw w U
set_option maxRecDepth 20000 in
theorem aw_tabs : tw_.all (fun w => w.onTables || aw_arr w) = true := by decide +kernel
set_option maxRecDepth 20000 in
theorem aw_good : tw_.all (fun w => goodWord w || aw_nest w) = true := by decide +kernel
theorem aw_move {w : Cond} (hw : w ∈ tw_) {u U : State} {A A' : Array Value} (e : u.vm = U.vm) (h : w.before A u = true) : w.before A' U = true := by
  rcases Bool.or_eq_true_iff.mp (List.all_eq_true.mp aw_tabs w hw) with h2 | h2
  · exact va_tabs h2 e h
  · cases w <;> first | (cases h2; done) | skip
    have hq : ∀ (X : State) (B B' : Array Value) (ty : FieldType), (Cond.arrayClass ty).before B X = (Cond.arrayClass ty).before B' X := fun _ _ _ _ => rfl
    have h3 : (Cond.arrayClass _).before A (U.setVm u.vm) = true := h
    rw [e] at h3
    rw [hq U A' A]
    exact h3
theorem aw_at {U : State} (h : aw_ U) (args : Array Value) : ∀ w ∈ tw_, w.before args U = true := fun w hw => aw_move hw rfl (h w hw)
theorem aw_of {U : State} {args : Array Value} (h : ∀ w ∈ lw_tbl, w.before args U = true) : aw_ U := fun w hw => aw_move hw rfl (h w (List.mem_filter.mp hw).1)
theorem aw_same {u U : State} (e : u.vm = U.vm) (h : aw_ u) : aw_ U := fun w hw => aw_move hw e (h w hw)
theorem aw_warm {s U : State} (hW : s.WarmedH U.vm) (h : aw_ s) : aw_ U := by
  intro w hw
  have h1 := List.all_eq_true.mp aw_good w hw
  rcases Bool.or_eq_true_iff.mp h1 with h2 | h2
  · exact word_at (args := #[]) hW (good_of_word h2) (h w hw)
  · cases w <;> first | exact va_Nw.warmF hW (h _ hw) | exact va_Nw.warmM hW (h _ hw) | cases h2
theorem tbk {w : Cond} (h : w ∈ lw_tbl) (hk : aw_ok w = true) : w ∈ tw_ := List.mem_filter.mpr ⟨h, hk⟩
theorem tb0 {w : Cond} (i : Nat) (h : (k2_sels lw_privs)[i]? = some w) (hk : aw_ok w = true) : w ∈ tw_ := tbk (List.mem_append_left _ (List.mem_of_getElem? h)) hk
theorem tb1 {w : Cond} (i : Nat) (h : tables_1_1[i]? = some w) (hk : aw_ok w = true) : w ∈ tw_ := tbk (List.mem_append_right _ (List.mem_append_left _ (List.mem_of_getElem? h))) hk
theorem tb2 {w : Cond} (i : Nat) (h : tables_1_2[i]? = some w) (hk : aw_ok w = true) : w ∈ tw_ := tbk (List.mem_append_right _ (List.mem_append_right _ (List.mem_append_left _ (List.mem_of_getElem? h)))) hk
theorem tb3 {w : Cond} (i : Nat) (h : tables_1_3[i]? = some w) (hk : aw_ok w = true) : w ∈ tw_ := tbk (List.mem_append_right _ (List.mem_append_right _ (List.mem_append_right _ (List.mem_append_left _ (List.mem_of_getElem? h))))) hk
theorem tb4 {w : Cond} (i : Nat) (h : tables_1_4[i]? = some w) (hk : aw_ok w = true) : w ∈ tw_ := tbk (List.mem_append_right _ (List.mem_append_right _ (List.mem_append_right _ (List.mem_append_right _ (List.mem_append_left _ (List.mem_of_getElem? h)))))) hk
theorem tb5 {w : Cond} (i : Nat) (h : tables_1_5[i]? = some w) (hk : aw_ok w = true) : w ∈ tw_ := tbk (List.mem_append_right _ (List.mem_append_right _ (List.mem_append_right _ (List.mem_append_right _ (List.mem_append_right _ (List.mem_of_getElem? h)))))) hk
/-! ===== own: what a kind's table says ===== -/
def ct_ (C : String) (T : u_T) (N : Nat) : Prop := (∀ w ∈ u_ws C T N, w ∈ tw_) ∧ (∃ ty0 : Nat → FieldType, ∀ k, k < N → parseFieldDescriptor (T k).2.2.1 = some (ty0 k)) ∧ (∀ a, a < N → ∀ b, b < N → a ≠ b → (T a).2.1 ≠ (T b).2.1)
set_option maxRecDepth 20000 in
theorem ct_0 : ct_ RX0 TX0 7 := ⟨by decide +kernel, ⟨tyX0, tyX0_ok⟩, nmX0⟩
set_option maxRecDepth 20000 in
theorem ct_1 : ct_ RX1 TX1 6 := ⟨by decide +kernel, ⟨tyX1, tyX1_ok⟩, nmX1⟩
set_option maxRecDepth 20000 in
theorem ct_2 : ct_ RX2 TX2 1 := ⟨by decide +kernel, ⟨tyX2, tyX2_ok⟩, nmX2⟩
set_option maxRecDepth 20000 in
theorem ct_3 : ct_ RX3 TX3 3 := ⟨by decide +kernel, ⟨tyX3, tyX3_ok⟩, nmX3⟩
set_option maxRecDepth 20000 in
theorem ct_4 : ct_ RX4 TX4 2 := ⟨by decide +kernel, ⟨tyX4, tyX4_ok⟩, nmX4⟩
set_option maxRecDepth 20000 in
theorem ct_5 : ct_ RX5 TX5 3 := ⟨by decide +kernel, ⟨tyX5, tyX5_ok⟩, nmX5⟩
set_option maxRecDepth 20000 in
theorem ct_6 : ct_ RX6 TX6 3 := ⟨by decide +kernel, ⟨tyX6, tyX6_ok⟩, nmX6⟩
set_option maxRecDepth 20000 in
theorem ct_7 : ct_ RX7 TX7 4 := ⟨by decide +kernel, ⟨tyX7, tyX7_ok⟩, nmX7⟩
set_option maxRecDepth 20000 in
theorem ct_8 : ct_ RX8 TX8 3 := ⟨by decide +kernel, ⟨tyX8, tyX8_ok⟩, nmX8⟩
set_option maxRecDepth 20000 in
theorem ct_9 : ct_ RX9 TX9 8 := ⟨by decide +kernel, ⟨tyX9, tyX9_ok⟩, nmX9⟩
set_option maxRecDepth 20000 in
theorem ct_10 : ct_ RX10 TX10 33 := ⟨by decide +kernel, ⟨tyX10, tyX10_ok⟩, nmX10⟩
theorem ct_of {ci N : Nat} {C : String} {T : u_T} (h : cl_[ci]? = some (C, T, N)) : ct_ C T N := by
  match ci, h with
  | 0, h => cases h; exact ct_0
  | 1, h => cases h; exact ct_1
  | 2, h => cases h; exact ct_2
  | 3, h => cases h; exact ct_3
  | 4, h => cases h; exact ct_4
  | 5, h => cases h; exact ct_5
  | 6, h => cases h; exact ct_6
  | 7, h => cases h; exact ct_7
  | 8, h => cases h; exact ct_8
  | 9, h => cases h; exact ct_9
  | 10, h => cases h; exact ct_10
  | k + 11, h => simp [cl_] at h
/-- a field's link: of one's own kind, or of a nest mate's -/
def fk_ (own : String) (index ci k : Nat) : Prop := ∃ (C : String) (T : u_T) (N : Nat), cl_[ci]? = some (C, T, N) ∧ k < N ∧ (Cond.fieldLink own index (T k).1 (T k).2.1 (T k).2.2.1 ∈ tw_ ∨ ∃ host : String, Cond.fieldLinkNest own index (T k).1 (T k).2.1 (T k).2.2.1 host ∈ tw_)
/-- a field that may be written: not final, of a type -/
def fp_ (own : String) (index ci k : Nat) (ty : FieldType) : Prop := ∃ (C : String) (T : u_T) (N : Nat), cl_[ci]? = some (C, T, N) ∧ k < N ∧ (T k).2.2.2 = false ∧ parseFieldDescriptor (T k).2.2.1 = some ty ∧ (Cond.fieldLink own index (T k).1 (T k).2.1 (T k).2.2.1 ∈ tw_ ∨ ∃ host : String, Cond.fieldLinkNest own index (T k).1 (T k).2.1 (T k).2.2.1 host ∈ tw_)
