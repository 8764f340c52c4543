/-! ===== own: making objects and arrays ===== -/
/-- a constructor: its world ws becomes one with P; mc cells of ms slots come -/
def kn_ (l : Launch) (G : gw_) (y : MethodName) (bytes : ByteArray) (maxL fr lo mc ms : Nat) (ws : va_W) (av : List Value) (P : va_W → Prop) : Prop := ∀ sz : Nat, Met l y [.code y bytes maxL none] { frames := fr, cells := mc, slots := ms, locals := lo } (va_Pc av (pre_ G ws sz)) (va_Qv (S := va_W) P (fun ws1 t => wq_ G ws ws1 sz t) (va_A ws sz)) mc ms (va_A ws sz)
/-- a final field that its own constructor writes -/
def ff_ (own : String) (index ci k : Nat) (ty : FieldType) : Prop := ∃ (C : String) (T : u_T) (N : Nat), cl_[ci]? = some (C, T, N) ∧ k < N ∧ (T k).2.2.2 = true ∧ (T k).1 = own ∧ parseFieldDescriptor (T k).2.2.1 = some ty ∧ Cond.fieldLink own index (T k).1 (T k).2.1 (T k).2.2.1 ∈ tw_
section OWN5
variable {p : Program} {l : Launch} {e : Env} {R : Room} {s : State} {m : MethodId} {args : Array Value} {below : List Frame} {meth : Method} {c : Code} {H : Heap} {locs : List Loc} {cells slots : Nat} {Q : State → Prop} {cc : ByteArray} {pc nL : Nat} {ls : Array Slot} {rest st0 : List Value} {G : gw_} {A : Nat → Prop} {ws wc wr : va_W} {H0 : Heap} {own : String}
theorem g_objInit {idx a : Nat} (hC : cx_ p s m c G cc nL own) (hsz : ls.size = nL) (h1 : Cond.methodLink own idx Lib.objectInit ∈ tw_) (h2 : Cond.instanceMethod Lib.objectInit ∈ tw_) (h3 : Cond.code Lib.objectInit ⟨#[0xb1]⟩ 1 none ∈ tw_) (hdg : decode cc pc = .ok (.invokespecial idx, 3)) (hfr : 1 ≤ R.frames) (hlo : (rest.map fun v => v.category).sum + 12 ≤ R.locals)
    (kk : W p l e R s m args below meth c H locs cells slots Q (F0 m (pc + 3) ls rest)) : W p l e R s m args below meth c H locs cells slots Q (F0 m pc ls (.ref a :: rest)) := by
  have hts := aw_at hC.2.2.2.2.1 args
  exact W.objInit hC.1 hC.2.1 hC.2.2.2.1 (hts _ h1) (hts _ h2) (hts _ h3) rfl (hsz.trans hC.2.2.1.symm) rfl hdg hfr (by show 2 * 0 + _ + 12 ≤ _; omega) kk
theorem g_newa {n : Int32} {N : Nat} (hC : cx_ p s m c G cc nL own) (hw : wd_ G A H0 ws H locs) (harr : Cond.arrayClass .int ∈ tw_) (hn : ¬ n < 0) (hN : n.toNatClampNeg = N) (hby : N * componentBytes .int ≤ 536870912) (hcells : cells + 1 ≤ R.cells) (hslots : slots + N ≤ R.slots) (hdg : decode cc pc = .ok (.newarray .int, 2))
    (kk : ∀ (q : Nat) (H1 : Heap), wd_ G A H0 (ws ++ [ia_ G q N (fun _ => 0)]) H1 locs → W p l e R s m args below meth c H1 locs (cells + 1) (slots + N) Q (F0 m (pc + 2) ls (.ref q :: rest))) : W p l e R s m args below meth c H locs cells slots Q (F0 m pc ls (.int n :: rest)) := by
  refine va_newa hC.1 hC.2.1 (atype := .int) (aw_at hC.2.2.2.2.1 args _ harr) rfl hC.2.2.2.2.2 hw.1 hw.2.1 hw.2.2.1 hw.2.2.2 (a0 := (N, .inl (fun _ => 0))) (fun cA => rfl) hn hN hby hcells hslots hdg (fun q cA H1 k1 p1 d1 s1 => ?_)
  have e : cA = G.2.1 := by
    have h1 : s.vm.findClass _ = some cA := (k1.2 3 (cA, .int) rfl).2
    have h2 : s.vm.findClass _ = some G.2.1 := (hC.2.2.2.2.2.2 0 (G.2.1, .int) rfl).2
    exact Option.some.inj (h1.symm.trans h2)
  subst e
  exact kk q H1 ⟨p1, d1, s1, hw.2.2.2⟩
theorem g_newz {n : Int32} {N : Nat} (hC : cx_ p s m c G cc nL own) (hw : wd_ G A H0 ws H locs) (harr : Cond.arrayClass .boolean ∈ tw_) (hn : ¬ n < 0) (hN : n.toNatClampNeg = N) (hby : N * componentBytes .boolean ≤ 536870912) (hcells : cells + 1 ≤ R.cells) (hslots : slots + N ≤ R.slots) (hdg : decode cc pc = .ok (.newarray .boolean, 2))
    (kk : ∀ (q : Nat) (H1 : Heap), wd_ G A H0 (ws ++ [za_ G q N (fun _ => 0)]) H1 locs → W p l e R s m args below meth c H1 locs (cells + 1) (slots + N) Q (F0 m (pc + 2) ls (.ref q :: rest))) : W p l e R s m args below meth c H locs cells slots Q (F0 m pc ls (.int n :: rest)) := by
  refine va_newa hC.1 hC.2.1 (atype := .boolean) (aw_at hC.2.2.2.2.1 args _ harr) rfl hC.2.2.2.2.2 hw.1 hw.2.1 hw.2.2.1 hw.2.2.2 (a0 := (N, .inl (fun _ => 0))) (fun cA => rfl) hn hN hby hcells hslots hdg (fun q cA H1 k1 p1 d1 s1 => ?_)
  have e : cA = G.2.2.1 := by
    have h1 : s.vm.findClass _ = some cA := (k1.2 3 (cA, .boolean) rfl).2
    have h2 : s.vm.findClass _ = some G.2.2.1 := (hC.2.2.2.2.2.2 1 (G.2.2.1, .boolean) rfl).2
    exact Option.some.inj (h1.symm.trans h2)
  subst e
  exact kk q H1 ⟨p1, d1, s1, hw.2.2.2⟩
theorem g_newq {n : Int32} {N index : Nat} (hC : cx_ p s m c G cc nL own) (hw : wd_ G A H0 ws H locs) (hcl : Cond.classLink own index "LanternSteps$Scene" ∈ tw_) (hAO : va_AO "LanternSteps$Scene" s) (hn : ¬ n < 0) (hN : n.toNatClampNeg = N) (hby : N * 4 ≤ 536870912) (hcells : cells + 1 ≤ R.cells) (hslots : slots + N ≤ R.slots) (hdg : decode cc pc = .ok (.anewarray index, 3))
    (kk : ∀ (q : Nat) (H1 : Heap), wd_ G A H0 (ws ++ [qa_ G q N (fun _ => none)]) H1 locs → W p l e R s m args below meth c H1 locs (cells + 1) (slots + N) Q (F0 m (pc + 3) ls (.ref q :: rest))) : W p l e R s m args below meth c H locs cells slots Q (F0 m pc ls (.int n :: rest)) := by
  refine va_newq hC.1 hC.2.1 hC.2.2.2.1 (aw_at hC.2.2.2.2.1 args _ hcl) hAO hC.2.2.2.2.2 hw.1 hw.2.1 hw.2.2.1 hw.2.2.2 hn hN hby hcells hslots hdg (fun q cA H1 k1 p1 d1 s1 => ?_)
  have e : cA = G.2.2.2 := by
    obtain ⟨-, -, -, -, -, h1⟩ := (k1.2 3 (cA, .object "LanternSteps$Scene") rfl).2
    obtain ⟨-, -, -, -, -, h2⟩ := (hC.2.2.2.2.2.2 2 (G.2.2.2, .object "LanternSteps$Scene") rfl).2
    exact Option.some.inj (h1.symm.trans h2)
  subst e
  exact kk q H1 ⟨p1, d1, s1, hw.2.2.2⟩
theorem g_newo {index ci N : Nat} {C : String} {T : u_T} {fs : List Value} (hC : cx_ p s m c G cc nL own) (hw : wd_ G A H0 ws H locs) (hcl : Cond.classLink own index C ∈ tw_) (hinst : Cond.instantiable C N ∈ tw_) (hini : Cond.initialized C ∈ tw_) (hc : cl_[ci]? = some (C, T, N)) (ty : Nat → FieldType) (hty : ∀ k, k < N → parseFieldDescriptor (T k).2.2.1 = some (ty k)) (hfs : ∀ j, j < N → defaultValue (ty j) = vp_V fs j) (hcells : cells + 1 ≤ R.cells) (hslots : slots + N ≤ R.slots) (hdg : decode cc pc = .ok (.new index, 3))
    (kk : ∀ (q : Nat) (H1 : Heap), wd_ G A H0 (ws ++ [ob_ q ci fs]) H1 locs → W p l e R s m args below meth c H1 locs (cells + 1) (slots + N) Q (F0 m (pc + 3) ls (.ref q :: rest))) : W p l e R s m args below meth c H locs cells slots Q (F0 m pc ls rest) := by
  have hts := aw_at hC.2.2.2.2.1 args
  exact va_new hC.1 hC.2.1 hts (ct_of hc).1 ty hty hC.2.2.2.1 (hts _ hcl) (hts _ hinst) (hts _ hini) hC.2.2.2.2.2 hw.1 hw.2.1 hw.2.2.1 hw.2.2.2 hc hfs hcells hslots hdg (fun q H1 p1 d1 s1 => kk q H1 ⟨p1, d1, s1, hw.2.2.2⟩)
theorem g_putF {index ci k a : Nat} {fs : List Value} {v : Value} {ty : FieldType} (hC : cx_ p s m c G cc nL own) (hw : wd_ G A H0 ws H locs) (hin : meth.name = "<init>") (hf : ff_ own index ci k ty) (q0 : Nat) (he : ws[q0]? = some (a, .inr (ci, fs))) (hn : narrow ty v = v) (hfit : fits ty v = true) (hl : k < fs.length) (hdg : decode cc pc = .ok (.putfield index, 3))
    (kk : ∀ (H1 : Heap) (locs1 : List Loc), wd_ G A H0 (ws.set q0 (a, .inr (ci, fs.set k v))) H1 locs1 → W p l e R s m args below meth c H1 locs1 cells slots Q (F0 m (pc + 3) ls rest)) : W p l e R s m args below meth c H locs cells slots Q (F0 m pc ls (v :: .ref a :: rest)) := by
  obtain ⟨C, T, N, h1, h2, h4, h6, h5, h3⟩ := hf
  obtain ⟨t1, ⟨ty0, t2⟩, t3⟩ := ct_of h1
  exact va_putF hC.1 hC.2.1 (aw_at hC.2.2.2.2.1 args) t1 ty0 t2 t3 hC.2.2.2.1 hC.2.2.2.2.2 hw.1 hw.2.1 hw.2.2.1 q0 he h1 k h2 (aw_at hC.2.2.2.2.1 args _ h3) (fun _ h9 => h9) h4 hin h6 h5 hn hfit hl hdg (fun H1 L1 a1 a2 a3 => kk H1 L1 ⟨a1, a2, a3, hw.2.2.2⟩)
theorem g_cI {y : MethodName} {bytes : ByteArray} {maxL fr lo mc ms n index : Nat} {b : Addr} {As : List Value} {P : va_W → Prop} (hC : cx_ p s m c G cc nL own) (hw : wd_ G A s.heap ws H locs) (hk : mi_ own index y bytes maxL n) (hM : kn_ l G y bytes maxL fr lo mc ms wc (.ref b :: As) P) (is isR : List Nat) (hI : is.map (fun i => ws[i]?) = wc.map some) (hnd : va_nd is = true) (hR : isR.map (fun i => ws[i]?) = wr.map some) (hndR : va_nd isR = true) (hdis : ∀ i ∈ isR, i ∉ is) (hn : As.length = n) (hsz : ls.size = nL) (hst : st0 = As.reverse ++ .ref b :: rest) (hro : (rest.map fun v => v.category).sum ≤ 8) (hRm : fr + 1 ≤ R.frames ∧ 8 + (maxL + 11) + lo ≤ R.locals) (hcs : cells + mc ≤ R.cells ∧ slots + ms ≤ R.slots) (hdg : decode cc pc = .ok (.invokespecial index, 3))
    (kk : ∀ (ws1 : va_W) (H1 : Heap) (locs1 : List Loc), P ws1 → wd_ G A s.heap (wr ++ ws1) H1 locs1 → W p l e R s m args below meth c H1 locs1 (cells + mc) (slots + ms) Q (F0 m (pc + 3) ls rest)) : W p l e R s m args below meth c H locs cells slots Q (F0 m pc ls st0) := by
  subst hst
  have hF := wd_free hw is hI
  refine va_callv (g_runI hC hk (hM H.size) hRm ⟨pre_blind _ _ _ _, pre_of hC hw is hnd hI⟩ rfl hn hsz rfl (lv_room hro) hdg hcs) hw.2.2.1 (fun q _ h => hF q h) hF (fun u t H1 locs1 ht hvm hpo hB hz1 hk1 hS => ?_)
  obtain ⟨hP1, hD1⟩ := hB
  rw [ht] at hP1
  obtain ⟨j1, j2⟩ := va_join hw.1 hw.2.1 is isR hI hR hndR hdis hk1 hF hP1 hD1
  exact kk u H1 locs1 hpo ⟨j1, j2, hS, hw.2.2.2⟩
theorem g_kret {sz : Nat} {ws0 : va_W} {P : va_W → Prop} (hC : cx_ p s m c G cc nL own) (hr : meth.sig.returnType = none) (hlk : meth.locks = false) (hw : wd_ G (va_A ws0 sz) s.heap ws H locs) (hP : P ws) (hdg : decode cc pc = .ok (.return_, 1)) :
    W p l e R s m args below meth c H locs cells slots (MQ below (va_Qv (S := va_W) P (fun ws1 t => wq_ G ws0 ws1 sz t) (va_A ws0 sz)) args s cells slots (va_A ws0 sz)) (F0 m pc ls []) :=
  W.vret hC.1 hC.2.1 hr (fun t ht hW => ⟨⟨ws, rfl, hP, by rw [ht]; exact hw.1, hw.2.1⟩, hw.2.2.1.F ht⟩) hw.2.2.1.2.2 hdg hlk
/-! arrays of references -/
theorem g_aldq {a n q : Nat} {f : Nat → Option Nat} {i : Int32} (hC : cx_ p s m c G cc nL own) (hw : wd_ G A H0 ws H locs) (q0 : Nat) (he : ws[q0]? = some (qa_ G a n f)) (hin : vp_in i n) (hq : f i.toNatClampNeg = some q) (hdg : decode cc pc = .ok (.aaload, 1))
    (kk : W p l e R s m args below meth c H locs cells slots Q (F0 m (pc + 1) ls (.ref q :: rest))) : W p l e R s m args below meth c H locs cells slots Q (F0 m pc ls (.int i :: .ref a :: rest)) := by
  refine va_aldq hC.1 hC.2.1 hC.2.2.2.2.2 hw.1 q0 2 (C := "LanternSteps$Scene") he rfl hin hdg ?_
  rw [hq]
  exact kk
theorem g_aldn {a n : Nat} {f : Nat → Option Nat} {i : Int32} (hC : cx_ p s m c G cc nL own) (hw : wd_ G A H0 ws H locs) (q0 : Nat) (he : ws[q0]? = some (qa_ G a n f)) (hin : vp_in i n) (hq : f i.toNatClampNeg = none) (hdg : decode cc pc = .ok (.aaload, 1))
    (kk : W p l e R s m args below meth c H locs cells slots Q (F0 m (pc + 1) ls (.null :: rest))) : W p l e R s m args below meth c H locs cells slots Q (F0 m pc ls (.int i :: .ref a :: rest)) := by
  refine va_aldq hC.1 hC.2.1 hC.2.2.2.2.2 hw.1 q0 2 (C := "LanternSteps$Scene") he rfl hin hdg ?_
  rw [hq]
  exact kk
theorem g_astq {a n v : Nat} {f f1 : Nat → Option Nat} {vs : List Value} {i : Int32} (hC : cx_ p s m c G cc nL own) (hw : wd_ G A H0 ws H locs) (q0 qk : Nat) (he : ws[q0]? = some (qa_ G a n f)) (hv : ws[qk]? = some (ob_ v 5 vs)) (hin : vp_in i n) (ef : f1 = va_up f i.toNatClampNeg (some v)) (hdg : decode cc pc = .ok (.aastore, 1))
    (kk : ∀ (H1 : Heap) (locs1 : List Loc), wd_ G A H0 (ws.set q0 (qa_ G a n f1)) H1 locs1 → W p l e R s m args below meth c H1 locs1 cells slots Q (F0 m (pc + 1) ls rest)) : W p l e R s m args below meth c H locs cells slots Q (F0 m pc ls (.ref v :: .int i :: .ref a :: rest)) := by
  subst ef
  exact va_astq hC.1 hC.2.1 hC.2.2.2.2.2 hw.1 hw.2.1 hw.2.2.1 q0 2 qk 5 (r := (RX5, TX5, 3)) he rfl hv rfl hin hdg (fun H1 L1 a1 a2 a3 => kk H1 L1 ⟨a1, a2, a3, hw.2.2.2⟩)
end OWN5
