/-! ===== own: rows over a bundled context ===== -/
/-- the walk's fixed part -/
def cx_ (p : Program) (s : State) (m : MethodId) (c : Code) (G : gw_) (cc : ByteArray) (nL : Nat) (own : String) : Prop := p.tables.exec = Jvm.exec ∧ c.code = cc ∧ c.maxLocals = nL ∧ s.vm.findClass own = some m.cls ∧ aw_ s ∧ va_K G.1 cl_ (ty_ G) s
/-- the walk's world -/
def wd_ (G : gw_) (A : Nat → Prop) (H0 : Heap) (ws : va_W) (H : Heap) (locs : List Loc) : Prop := va_P G.1 cl_ ws H ∧ va_D A ws ∧ va_S A H0 H locs ∧ ∀ q : Nat, H0.size ≤ q → A q
section OWN
variable {p : Program} {l : Launch} {e : Env} {R : Room} {s : State} {m : MethodId} {args : Array Value} {below : List Frame} {meth : Method} {c : Code} {H : Heap} {locs : List Loc} {cells slots : Nat} {Q : State → Prop} {cc : ByteArray} {pc nL : Nat} {ls : Array Slot} {rest : List Value} {G : gw_} {A : Nat → Prop} {ws : va_W} {H0 : Heap} {own : String}
theorem g_get {index ci k a : Nat} {fs : List Value} {v : Value} (hC : cx_ p s m c G cc nL own) (hw : wd_ G A H0 ws H locs) (hf : fk_ own index ci k) (q0 : Nat) (he : ws[q0]? = some (a, .inr (ci, fs))) (hv : fs[k]? = some v) (hdg : decode cc pc = .ok (.getfield index, 3))
    (kk : W p l e R s m args below meth c H locs cells slots Q (F0 m (pc + 3) ls (v :: rest))) : W p l e R s m args below meth c H locs cells slots Q (F0 m pc ls (.ref a :: rest)) := by
  obtain ⟨C, T, N, h1, h2, h3 | ⟨host, h3⟩⟩ := hf
  · exact va_get hC.1 hC.2.1 (aw_at hC.2.2.2.2.1 args) (ct_of h1).1 hC.2.2.2.1 hC.2.2.2.2.2 hw.1 q0 he h1 k h2 (aw_at hC.2.2.2.2.1 args _ h3) (fun _ h9 => h9) hv hdg kk
  · exact va_getN hC.1 hC.2.1 (aw_at hC.2.2.2.2.1 args) (ct_of h1).1 hC.2.2.2.1 hC.2.2.2.2.2 hw.1 q0 he h1 k h2 (aw_at hC.2.2.2.2.1 args _ h3) (fun _ h9 => h9) hv hdg kk
theorem g_put {index ci k a : Nat} {fs : List Value} {v : Value} {ty : FieldType} (hC : cx_ p s m c G cc nL own) (hw : wd_ G A H0 ws H locs) (hf : fp_ own index ci k ty) (q0 : Nat) (he : ws[q0]? = some (a, .inr (ci, fs))) (hn : narrow ty v = v) (hfit : fits ty v = true) (hl : k < fs.length) (hdg : decode cc pc = .ok (.putfield index, 3))
    (kk : ∀ (H1 : Heap) (locs1 : List Loc), wd_ G A H0 (ws.set q0 (a, .inr (ci, fs.set k v))) H1 locs1 → W p l e R s m args below meth c H1 locs1 cells slots Q (F0 m (pc + 3) ls rest)) : W p l e R s m args below meth c H locs cells slots Q (F0 m pc ls (v :: .ref a :: rest)) := by
  obtain ⟨C, T, N, h1, h2, h4, h5, h3 | ⟨host, h3⟩⟩ := hf
  · obtain ⟨t1, ⟨ty0, t2⟩, t3⟩ := ct_of h1
    exact va_put hC.1 hC.2.1 (aw_at hC.2.2.2.2.1 args) t1 ty0 t2 t3 hC.2.2.2.1 hC.2.2.2.2.2 hw.1 hw.2.1 hw.2.2.1 q0 he h1 k h2 (aw_at hC.2.2.2.2.1 args _ h3) (fun _ h9 => h9) h4 h5 hn hfit hl hdg (fun H1 L1 a1 a2 a3 => kk H1 L1 ⟨a1, a2, a3, hw.2.2.2⟩)
  · obtain ⟨t1, ⟨ty0, t2⟩, t3⟩ := ct_of h1
    exact va_putN hC.1 hC.2.1 (aw_at hC.2.2.2.2.1 args) t1 ty0 t2 t3 hC.2.2.2.1 hC.2.2.2.2.2 hw.1 hw.2.1 hw.2.2.1 q0 he h1 k h2 (aw_at hC.2.2.2.2.1 args _ h3) (fun _ h9 => h9) h4 h5 hn hfit hl hdg (fun H1 L1 a1 a2 a3 => kk H1 L1 ⟨a1, a2, a3, hw.2.2.2⟩)
theorem g_iald {a n : Nat} {f : Nat → Int32} {i : Int32} (hC : cx_ p s m c G cc nL own) (hw : wd_ G A H0 ws H locs) (q0 : Nat) (he : ws[q0]? = some (ia_ G a n f)) (hin : vp_in i n) (hdg : decode cc pc = .ok (.iaload, 1))
    (kk : W p l e R s m args below meth c H locs cells slots Q (F0 m (pc + 1) ls (.int (f i.toNatClampNeg) :: rest))) : W p l e R s m args below meth c H locs cells slots Q (F0 m pc ls (.int i :: .ref a :: rest)) :=
  va_iald hC.1 hC.2.1 hC.2.2.2.2.2 hw.1 q0 0 he rfl hin hdg kk
theorem g_zald {a n : Nat} {f : Nat → Int32} {i : Int32} (hC : cx_ p s m c G cc nL own) (hw : wd_ G A H0 ws H locs) (q0 : Nat) (he : ws[q0]? = some (za_ G a n f)) (hin : vp_in i n) (hdg : decode cc pc = .ok (.baload, 1))
    (kk : W p l e R s m args below meth c H locs cells slots Q (F0 m (pc + 1) ls (.int (f i.toNatClampNeg) :: rest))) : W p l e R s m args below meth c H locs cells slots Q (F0 m pc ls (.int i :: .ref a :: rest)) :=
  va_zald hC.1 hC.2.1 hC.2.2.2.2.2 hw.1 q0 1 he rfl hin hdg kk
theorem g_iast {a n : Nat} {f f1 : Nat → Int32} {i x : Int32} (hC : cx_ p s m c G cc nL own) (hw : wd_ G A H0 ws H locs) (q0 : Nat) (he : ws[q0]? = some (ia_ G a n f)) (hin : vp_in i n) (ef : f1 = upd f i.toNatClampNeg x) (hdg : decode cc pc = .ok (.iastore, 1))
    (kk : ∀ (H1 : Heap) (locs1 : List Loc), wd_ G A H0 (ws.set q0 (ia_ G a n f1)) H1 locs1 → W p l e R s m args below meth c H1 locs1 cells slots Q (F0 m (pc + 1) ls rest)) : W p l e R s m args below meth c H locs cells slots Q (F0 m pc ls (.int x :: .int i :: .ref a :: rest)) := by
  subst ef
  exact va_iast hC.1 hC.2.1 hC.2.2.2.2.2 hw.1 hw.2.1 hw.2.2.1 q0 0 he rfl hin hdg (fun H1 L1 a1 a2 a3 => kk H1 L1 ⟨a1, a2, a3, hw.2.2.2⟩)
theorem g_alen {a n : Nat} {f : Nat → Int32} {v : Int32} (hC : cx_ p s m c G cc nL own) (hw : wd_ G A H0 ws H locs) (q0 : Nat) (he : ws[q0]? = some (ia_ G a n f)) (hv : Int32.ofNat n = v) (hdg : decode cc pc = .ok (.arraylength, 1))
    (kk : W p l e R s m args below meth c H locs cells slots Q (F0 m (pc + 1) ls (.int v :: rest))) : W p l e R s m args below meth c H locs cells slots Q (F0 m pc ls (.ref a :: rest)) :=
  va_alen hC.1 hC.2.1 hC.2.2.2.2.2 hw.1 q0 0 he rfl hv hdg kk
theorem g_ldc {index : Nat} {v : Int32} (hC : cx_ p s m c G cc nL own) (hk : Cond.constant own index v ∈ tw_) (hdg : decode cc pc = .ok (.ldc index, 2)) (kk : W p l e R s m args below meth c H locs cells slots Q (F0 m (pc + 2) ls (.int v :: rest))) : W p l e R s m args below meth c H locs cells slots Q (F0 m pc ls rest) :=
  lv_ldc hC.1 hC.2.1 hC.2.2.2.1 (aw_at hC.2.2.2.2.1 args _ hk) hdg kk
/-! the tables' words of a call -/
def mv_ (own : String) (index : Nat) (y : MethodName) (bytes : ByteArray) (maxL : Nat) (ret : Option FieldType) (C : String) (n : Nat) : Prop :=
  (Cond.methodLink own index y ∈ tw_ ∨ ∃ host : String, Cond.methodLinkNest own index y host ∈ tw_) ∧ Cond.instanceMethod y ∈ tw_ ∧ Cond.selects C y y ∈ tw_ ∧ Cond.initialized y.cls ∈ tw_ ∧ Cond.code y bytes maxL ret ∈ tw_ ∧ (y.cls ≠ "java/lang/invoke/MethodHandle" ∧ y.cls ≠ "java/lang/invoke/VarHandle" ∧ (parseMethodDescriptor y.desc).map (fun d => d.parameters.length) = some n)
def ms_ (own : String) (index : Nat) (y : MethodName) (bytes : ByteArray) (maxL : Nat) (ret : Option FieldType) (n : Nat) : Prop :=
  (Cond.methodLink own index y ∈ tw_ ∨ ∃ host : String, Cond.methodLinkNest own index y host ∈ tw_) ∧ Cond.static y ∈ tw_ ∧ Cond.initialized y.cls ∈ tw_ ∧ Cond.code y bytes maxL ret ∈ tw_ ∧ (y.cls ≠ "java/lang/invoke/MethodHandle" ∧ y.cls ≠ "java/lang/invoke/VarHandle" ∧ (parseMethodDescriptor y.desc).map (fun d => d.parameters.length) = some n)
def mi_ (own : String) (index : Nat) (y : MethodName) (bytes : ByteArray) (maxL : Nat) (n : Nat) : Prop :=
  Cond.methodLink own index y ∈ tw_ ∧ Cond.instanceMethod y ∈ tw_ ∧ y.name = "<init>" ∧ Cond.initialized y.cls ∈ tw_ ∧ Cond.code y bytes maxL none ∈ tw_ ∧ (y.cls ≠ "java/lang/invoke/MethodHandle" ∧ y.cls ≠ "java/lang/invoke/VarHandle" ∧ (parseMethodDescriptor y.desc).map (fun d => d.parameters.length) = some n)
theorem g_runV {y : MethodName} {bytes : ByteArray} {maxL fr lo mc ms n index : Nat} {ret : Option FieldType} {Pc : Array Value → State → Prop} {Qc : Array Value → State → Outcome → State → Prop} {free : Addr → Prop} {C : String} {b : Addr} {As : List Value} {g : JFrame}
    (hC : cx_ p s m c G cc nL own) (hk : mv_ own index y bytes maxL ret C n) (hM : Met l y [.code y bytes maxL ret] { frames := fr, cells := mc, slots := ms, locals := lo } Pc Qc mc ms free) (hR : fr + 1 ≤ R.frames ∧ 8 + (maxL + 11) + lo ≤ R.locals) (hp : PreV s H C b Pc As)
    (hg : g.method = m) (hn : As.length = n) (hsize : g.locals.size = nL) (hstack : g.stack = As.reverse ++ .ref b :: rest) (hW : 2 * g.monitorRoom + (rest.map fun v => v.category).sum ≤ 8) (hdg : decode cc g.pc = .ok (.invokevirtual index, 3)) (hf : cells + mc ≤ R.cells ∧ slots + ms ≤ R.slots) :
    va_Run p l e R s m args below meth c H locs cells slots mc ms g rest (Qc (Value.ref b :: As).toArray) (free) := by
  obtain ⟨hl, h1, h2, h3, h4, h6⟩ := hk
  have hts := aw_at hC.2.2.2.2.1 args
  have hG : GoodIn tw_ [Cond.code y bytes maxL ret] := fun w hw => by rw [List.mem_singleton.mp hw]; exact ⟨h4, Or.inl rfl⟩
  rcases hl with hl | ⟨host, hl⟩
  · exact va_runV ⟨hC.1, hC.2.1, hC.2.2.1, hC.2.2.2.1, hts⟩ hM ⟨callB_of n hts hG rfl rfl rfl (hts _ h3) (hts _ hl) h6 hR, hts _ h1, hts _ h2⟩ hp hg hn hsize hstack hW hdg hf
  · exact va_runVN ⟨hC.1, hC.2.1, hC.2.2.1, hC.2.2.2.1, hts⟩ hM ⟨va_cnB n hts hG rfl rfl rfl (va_Nw.of rfl (hts _ hl)) (hts _ h3) h6 hR, hts _ h1, hts _ h2⟩ hp hg hn hsize hstack hW hdg hf
theorem g_runS {y : MethodName} {bytes : ByteArray} {maxL fr lo mc ms n index : Nat} {ret : Option FieldType} {Pc : Array Value → State → Prop} {Qc : Array Value → State → Outcome → State → Prop} {free : Addr → Prop} {As : List Value} {g : JFrame}
    (hC : cx_ p s m c G cc nL own) (hk : ms_ own index y bytes maxL ret n) (hM : Met l y [.code y bytes maxL ret] { frames := fr, cells := mc, slots := ms, locals := lo } Pc Qc mc ms free) (hR : fr + 1 ≤ R.frames ∧ 8 + (maxL + 11) + lo ≤ R.locals) (hp : PreS s H Pc As)
    (hg : g.method = m) (hn : As.length = n) (hsize : g.locals.size = nL) (hstack : g.stack = As.reverse ++ rest) (hW : 2 * g.monitorRoom + (rest.map fun v => v.category).sum ≤ 8) (hdg : decode cc g.pc = .ok (.invokestatic index, 3)) (hf : cells + mc ≤ R.cells ∧ slots + ms ≤ R.slots) :
    va_Run p l e R s m args below meth c H locs cells slots mc ms g rest (Qc As.toArray) (free) := by
  obtain ⟨hl, h1, h3, h4, h6⟩ := hk
  have hts := aw_at hC.2.2.2.2.1 args
  have hG : GoodIn tw_ [Cond.code y bytes maxL ret] := fun w hw => by rw [List.mem_singleton.mp hw]; exact ⟨h4, Or.inl rfl⟩
  rcases hl with hl | ⟨host, hl⟩
  · exact va_runS ⟨hC.1, hC.2.1, hC.2.2.1, hC.2.2.2.1, hts⟩ hM ⟨callB_of n hts hG rfl rfl rfl (hts _ h3) (hts _ hl) h6 hR, hts _ h1⟩ hp hg hn hsize hstack hW hdg hf
  · exact va_runSN ⟨hC.1, hC.2.1, hC.2.2.1, hC.2.2.2.1, hts⟩ hM ⟨va_cnB n hts hG rfl rfl rfl (va_Nw.of rfl (hts _ hl)) (hts _ h3) h6 hR, hts _ h1, trivial⟩ hp hg hn hsize hstack hW hdg hf
theorem g_runI {y : MethodName} {bytes : ByteArray} {maxL fr lo mc ms n index : Nat} {Pc : Array Value → State → Prop} {Qc : Array Value → State → Outcome → State → Prop} {free : Addr → Prop} {b : Addr} {As : List Value} {g : JFrame}
    (hC : cx_ p s m c G cc nL own) (hk : mi_ own index y bytes maxL n) (hM : Met l y [.code y bytes maxL none] { frames := fr, cells := mc, slots := ms, locals := lo } Pc Qc mc ms free) (hR : fr + 1 ≤ R.frames ∧ 8 + (maxL + 11) + lo ≤ R.locals) (hp : PreS s H Pc (.ref b :: As))
    (hg : g.method = m) (hn : As.length = n) (hsize : g.locals.size = nL) (hstack : g.stack = As.reverse ++ .ref b :: rest) (hW : 2 * g.monitorRoom + (rest.map fun v => v.category).sum ≤ 8) (hdg : decode cc g.pc = .ok (.invokespecial index, 3)) (hf : cells + mc ≤ R.cells ∧ slots + ms ≤ R.slots) :
    va_Run p l e R s m args below meth c H locs cells slots mc ms g rest (Qc (Value.ref b :: As).toArray) (free) := by
  obtain ⟨hl, h1, h2, h3, h4, h6⟩ := hk
  have hts := aw_at hC.2.2.2.2.1 args
  have hG : GoodIn tw_ [Cond.code y bytes maxL none] := fun w hw => by rw [List.mem_singleton.mp hw]; exact ⟨h4, Or.inl rfl⟩
  exact va_runI ⟨hC.1, hC.2.1, hC.2.2.1, hC.2.2.2.1, hts⟩ hM ⟨callB_of n hts hG rfl rfl rfl (hts _ h3) (hts _ hl) h6 hR, h2, hts _ h1⟩ hp hg hn hsize hstack hW hdg hf
end OWN
/-! ===== own: contracts ===== -/
/-- what holds at a method's start -/
def pre_ (G : gw_) (ws : va_W) (sz : Nat) (U : State) : Prop := U.heap.size = sz ∧ va_P G.1 cl_ ws U.heap ∧ va_K G.1 cl_ (ty_ G) U ∧ va_D (fun _ => True) ws ∧ aw_ U
theorem pre_blind (G : gw_) (av : List Value) (ws : va_W) (sz : Nat) : FrameBlind (va_Pc av (pre_ G ws sz)) := fun a U g mk q => by
  obtain ⟨q0, q1, qP, qK, qD, qA⟩ := q
  exact ⟨q0, q1, qP, va_K.moved (u := U) (U := U.calling g mk a) (Vm.Alike.refl U.vm) qK, qD, aw_same (u := U) (U := U.calling g mk a) rfl qA⟩
def wq_ (G : gw_) (ws ws1 : va_W) (sz : Nat) (t : State) : Prop := va_P G.1 cl_ ws1 t.heap ∧ va_D (va_A ws sz) ws1
def qi_ (G : gw_) (r : Int32) (ws ws1 : va_W) (sz : Nat) : Array Value → State → Outcome → State → Prop := va_Qi (S := Unit) (fun r' _ => r' = r) (fun _ t => wq_ G ws ws1 sz t) (va_A ws sz)
def ql_ (G : gw_) (r : Int64) (ws ws1 : va_W) (sz : Nat) : Array Value → State → Outcome → State → Prop := va_Ql (S := Unit) (fun r' _ => r' = r) (fun _ t => wq_ G ws ws1 sz t) (va_A ws sz)
def qv_ (G : gw_) (ws ws1 : va_W) (sz : Nat) : Array Value → State → Outcome → State → Prop := va_Qv (S := Unit) (fun _ => True) (fun _ t => wq_ G ws ws1 sz t) (va_A ws sz)
/-- a method that answers an int (or a boolean): its world ws becomes ws1, nothing is made -/
def ci_ (l : Launch) (G : gw_) (y : MethodName) (bytes : ByteArray) (maxL : Nat) (ret : Option FieldType) (fr lo : Nat) (ws : va_W) (av : List Value) (r : Int32) (ws1 : va_W) : Prop := ∀ sz : Nat, Met l y [.code y bytes maxL ret] { frames := fr, cells := 0, slots := 0, locals := lo } (va_Pc av (pre_ G ws sz)) (qi_ G r ws ws1 sz) 0 0 (va_A ws sz)
def cj_ (l : Launch) (G : gw_) (y : MethodName) (bytes : ByteArray) (maxL : Nat) (ret : Option FieldType) (fr lo : Nat) (ws : va_W) (av : List Value) (r : Int64) (ws1 : va_W) : Prop := ∀ sz : Nat, Met l y [.code y bytes maxL ret] { frames := fr, cells := 0, slots := 0, locals := lo } (va_Pc av (pre_ G ws sz)) (ql_ G r ws ws1 sz) 0 0 (va_A ws sz)
def cv_ (l : Launch) (G : gw_) (y : MethodName) (bytes : ByteArray) (maxL : Nat) (ret : Option FieldType) (fr lo : Nat) (ws : va_W) (av : List Value) (ws1 : va_W) : Prop := ∀ sz : Nat, Met l y [.code y bytes maxL ret] { frames := fr, cells := 0, slots := 0, locals := lo } (va_Pc av (pre_ G ws sz)) (qv_ G ws ws1 sz) 0 0 (va_A ws sz)
/-- a method's walk, from its entry: any Qc -/
theorem met_intro {l : Launch} {G : gw_} {y : MethodName} {bytes : ByteArray} {maxL fr lo mc ms sz : Nat} {ret : Option FieldType} {ws : va_W} {av : List Value} {Qc : Array Value → State → Outcome → State → Prop} (hy : plainName y.cls = true) (hav : (lg_sl av).length ≤ maxL)
    (h : ∀ (p : Program) (e : Env) (s : State) (m : MethodId) (args : Array Value) (below : List Frame) (meth : Method) (c : Code) (ls : Array Slot), s.heap.size = sz → cx_ p s m c G bytes maxL y.cls → meth.sig.returnType = ret → meth.locks = false → meth.name = y.name → lv_has ls maxL (lv_args 0 av) → wd_ G (va_A ws sz) s.heap ws s.heap [] →
      W p l e { frames := fr, cells := mc, slots := ms, locals := lo } s m args below meth c s.heap [] 0 0 (MQ below Qc args s mc ms (va_A ws sz)) (F0 m 0 ls [])) : Met l y [.code y bytes maxL ret] { frames := fr, cells := mc, slots := ms, locals := lo } (va_Pc av (pre_ G ws sz)) Qc mc ms (va_A ws sz) := by
  refine Met.ofW (cc := bytes) (maxL := maxL) (ret := ret) hy rfl ?_
  intro p e s m args below meth c s₁ B hml hv
  obtain ⟨rfl, hsz, hP, hK, hD0, hA0⟩ := hv
  rw [lg_entry_eq]
  refine h p e s m _ below meth c _ hsz ⟨B.exec, B.bytes, hml, findClass_of_methodNamed B.named, hA0, hK⟩ B.returns B.notSynchronized (name_of_methodNamed B.named B.method).1 (lv_entry av hav) ⟨hP, hD0.self, va_S.rf, fun q hq => Or.inr (by rw [hsz] at hq; exact hq)⟩
section OWN2
variable {p : Program} {l : Launch} {e : Env} {R : Room} {s : State} {m : MethodId} {args : Array Value} {below : List Frame} {meth : Method} {c : Code} {H : Heap} {locs : List Loc} {cells slots : Nat} {Q : State → Prop} {cc : ByteArray} {pc nL sz : Nat} {ls : Array Slot} {rest : List Value} {G : gw_} {A : Nat → Prop} {ws ws0 : va_W} {own : String}
theorem g_iret {r : Int32} {ret : Option FieldType} {ty : FieldType} (hC : cx_ p s m c G cc nL own) (hr : meth.sig.returnType = ret) (hlk : meth.locks = false) (hw : wd_ G (va_A ws0 sz) s.heap ws H locs) (hret : ret = some ty) (hn : narrow ty (.int r) = .int r) (hdg : decode cc pc = .ok (.ireturn, 1)) :
    W p l e R s m args below meth c H locs cells slots (MQ below (qi_ G r ws0 ws sz) args s cells slots (va_A ws0 sz)) (F0 m pc ls [.int r]) :=
  W.zret hC.1 hC.2.1 (hr.trans hret) hn (fun t ht hW => ⟨⟨r, (), rfl, rfl, by rw [ht]; exact hw.1, hw.2.1⟩, hw.2.2.1.F ht⟩) hw.2.2.1.2.2 hdg hlk
theorem g_lret {r : Int64} (hC : cx_ p s m c G cc nL own) (hr : meth.sig.returnType = some .long) (hlk : meth.locks = false) (hw : wd_ G (va_A ws0 sz) s.heap ws H locs) (hdg : decode cc pc = .ok (.lreturn, 1)) :
    W p l e R s m args below meth c H locs cells slots (MQ below (ql_ G r ws0 ws sz) args s cells slots (va_A ws0 sz)) (F0 m pc ls [.long r]) :=
  W.lret hC.1 hC.2.1 hr (fun t ht hW => ⟨⟨r, (), rfl, rfl, by rw [ht]; exact hw.1, hw.2.1⟩, hw.2.2.1.F ht⟩) hw.2.2.1.2.2 hdg hlk
theorem g_vret (hC : cx_ p s m c G cc nL own) (hr : meth.sig.returnType = none) (hlk : meth.locks = false) (hw : wd_ G (va_A ws0 sz) s.heap ws H locs) (hdg : decode cc pc = .ok (.return_, 1)) :
    W p l e R s m args below meth c H locs cells slots (MQ below (qv_ G ws0 ws sz) args s cells slots (va_A ws0 sz)) (F0 m pc ls []) :=
  W.vret hC.1 hC.2.1 hr (fun t ht hW => ⟨⟨(), rfl, trivial, by rw [ht]; exact hw.1, hw.2.1⟩, hw.2.2.1.F ht⟩) hw.2.2.1.2.2 hdg hlk
end OWN2
/-- cells put in place of others -/
def lk_ : List Nat → va_W → Nat → (Nat × va_E) → (Nat × va_E)
  | i :: is, q :: qs, k, c => cond (Nat.beq k i) q (lk_ is qs k c)
  | [], _, _, c => c
  | _ :: _, [], _, c => c
def mp_ (is : List Nat) (qs : va_W) : Nat → va_W → va_W
  | _, [] => []
  | k, c :: ws => lk_ is qs k c :: mp_ is qs (k + 1) ws
def rp_ (ws : va_W) (is : List Nat) (qs : va_W) : va_W := mp_ is qs 0 ws
theorem mp_get (is : List Nat) (qs : va_W) : ∀ (ws : va_W) (b k : Nat), (mp_ is qs b ws)[k]? = (ws[k]?).map (lk_ is qs (b + k))
  | [], b, k => by simp [mp_]
  | c :: ws, b, 0 => by simp [mp_]
  | c :: ws, b, k + 1 => by
    show (mp_ is qs (b + 1) ws)[k]? = _
    rw [mp_get is qs ws (b + 1) k, List.getElem?_cons_succ, show b + 1 + k = b + (k + 1) by omega]
theorem lk_get : ∀ (is : List Nat) (qs : va_W) (k : Nat) (c : Nat × va_E), is.length = qs.length → (k ∉ is ∧ lk_ is qs k c = c) ∨ ∃ j : Nat, is[j]? = some k ∧ qs[j]? = some (lk_ is qs k c)
  | [], qs, k, c, _ => Or.inl ⟨List.not_mem_nil, by cases qs <;> rfl⟩
  | _ :: _, [], _, _, hl => by simp at hl
  | i :: is, q :: qs, k, c, hl => by
    cases hb : Nat.beq k i with
    | true =>
      have e : k = i := Nat.eq_of_beq_eq_true hb
      exact Or.inr ⟨0, by rw [e]; rfl, by simp [lk_, hb]⟩
    | false =>
      have e : lk_ (i :: is) (q :: qs) k c = lk_ is qs k c := by simp [lk_, hb]
      have hne : k ≠ i := Nat.ne_of_beq_eq_false hb
      rw [e]
      rcases lk_get is qs k c (by simpa using hl) with ⟨h1, h2⟩ | ⟨j, h1, h2⟩
      · exact Or.inl ⟨by simp [hne, h1], h2⟩
      · exact Or.inr ⟨j + 1, h1, h2⟩
theorem rp_get (is : List Nat) (qs ws : va_W) (k : Nat) (q : Nat × va_E) (hl : is.length = qs.length) (h : (rp_ ws is qs)[k]? = some q) : (k ∉ is ∧ ws[k]? = some q) ∨ ∃ j : Nat, is[j]? = some k ∧ qs[j]? = some q := by
  unfold rp_ at h
  rw [mp_get, Nat.zero_add] at h
  cases hw : ws[k]? with
  | none => rw [hw] at h; cases h
  | some c =>
    rw [hw] at h
    have h : lk_ is qs k c = q := Option.some.inj h
    rcases lk_get is qs k c hl with ⟨h1, h2⟩ | ⟨j, h1, h2⟩
    · rw [h2] at h
      exact Or.inl ⟨h1, by rw [h]⟩
    · rw [h] at h2
      exact Or.inr ⟨j, h1, h2⟩
theorem rp_self (is : List Nat) (qs ws : va_W) (h : is.map (fun i => ws[i]?) = qs.map some) : rp_ ws is qs = ws := by
  have hl : is.length = qs.length := by
    have h1 := congrArg List.length h
    simpa using h1
  apply List.ext_getElem?
  intro k
  unfold rp_
  rw [mp_get, Nat.zero_add]
  cases hw : ws[k]? with
  | none => rfl
  | some c =>
    show some (lk_ is qs k c) = some c
    rcases lk_get is qs k c hl with ⟨-, h2⟩ | ⟨j, h1, h2⟩
    · rw [h2]
    · have h3 : (is.map (fun i => ws[i]?))[j]? = some (ws[k]?) := by rw [List.getElem?_map, h1]; rfl
      rw [h, List.getElem?_map, h2, hw] at h3
      exact congrArg some (Option.some.inj (Option.some.inj h3))
theorem rp_at {ws wc : va_W} {is : List Nat} (hI : is.map (fun i => ws[i]?) = wc.map some) {j : Nat} {q : Nat × va_E} (h : wc[j]? = some q) : ∃ i, is[j]? = some i ∧ ws[i]? = some q := by
  have h1 : (is.map (fun i => ws[i]?))[j]? = some (some q) := by rw [hI, List.getElem?_map, h]; rfl
  rw [List.getElem?_map] at h1
  cases hi : is[j]? with
  | none => rw [hi] at h1; cases h1
  | some i => rw [hi] at h1; exact ⟨i, rfl, Option.some.inj h1⟩
theorem rp_at2 {ws wc : va_W} {is : List Nat} (hI : is.map (fun i => ws[i]?) = wc.map some) {j i : Nat} (h : is[j]? = some i) : ∃ q, wc[j]? = some q ∧ ws[i]? = some q := by
  have h1 : (wc.map some)[j]? = some (ws[i]?) := by rw [← hI, List.getElem?_map, h]; rfl
  rw [List.getElem?_map] at h1
  cases hq : wc[j]? with
  | none => rw [hq] at h1; cases h1
  | some q => rw [hq] at h1; exact ⟨q, rfl, (Option.some.inj h1).symm⟩
/-- behind a call: the callee's cells stand in their old places -/
theorem rp_join {A : Nat → Prop} {G : gw_} {ws wc wc1 : va_W} {H H1 : Heap} {is : List Nat} (hP : va_P G.1 cl_ ws H) (hD : va_D A ws) (hI : is.map (fun i => ws[i]?) = wc.map some) (had : wc1.map (·.1) = wc.map (·.1))
    (hk : ∀ q : Nat, q < H.size → ¬ va_A wc H.size q → H1[q]? = H[q]?) (hP1 : va_P G.1 cl_ wc1 H1) : va_P G.1 cl_ (rp_ ws is wc1) H1 ∧ va_D A (rp_ ws is wc1) := by
  have hlen : is.length = wc1.length := by
    have h1 := congrArg List.length hI
    have h2 := congrArg List.length had
    simp only [List.length_map] at h1 h2
    omega
  have old : ∀ (k : Nat) (q : Nat × va_E), (rp_ ws is wc1)[k]? = some q → ∃ q0, ws[k]? = some q0 ∧ q0.1 = q.1 := by
    intro k q h
    rcases rp_get is wc1 ws k q hlen h with ⟨-, h2⟩ | ⟨j, h1, h2⟩
    · exact ⟨q, h2, rfl⟩
    · obtain ⟨q0, h3, h4⟩ := rp_at2 hI h1
      refine ⟨q0, h4, ?_⟩
      have e1 : (wc1.map (·.1))[j]? = some q.1 := by rw [List.getElem?_map, h2]; rfl
      have e2 : (wc.map (·.1))[j]? = some q0.1 := by rw [List.getElem?_map, h3]; rfl
      rw [had, e2] at e1
      exact Option.some.inj e1
  refine ⟨fun k q h => ?_, fun i j x y hi hj hxy => ?_, fun k q h => ?_⟩
  · rcases rp_get is wc1 ws k q hlen h with ⟨h1, h2⟩ | ⟨j, -, h2⟩
    · have hl := (hP k q h2).lt
      refine (hP k q h2).kept (hk q.1 hl fun hA => ?_)
      rcases hA with ⟨j, e, h3⟩ | h3
      · obtain ⟨i, h4, h5⟩ := rp_at hI h3
        have hik := hD.1 i k _ q h5 h2 rfl
        exact h1 (hik ▸ List.mem_of_getElem? h4)
      · omega
    · exact hP1 j q h2
  · obtain ⟨x0, h1, h2⟩ := old i x hi
    obtain ⟨y0, h3, h4⟩ := old j y hj
    exact hD.1 i j x0 y0 h1 h3 (h2.trans (hxy.trans h4.symm))
  · obtain ⟨q0, h1, h2⟩ := old k q h
    rw [← h2]
    exact hD.2 k q0 h1
theorem wd_free {G : gw_} {A : Nat → Prop} {H0 H : Heap} {ws wc : va_W} {locs : List Loc} (hw : wd_ G A H0 ws H locs) (is : List Nat) (hI : is.map (fun i => ws[i]?) = wc.map some) : ∀ q, va_A wc H.size q → A q := va_free hw.2.1 hw.2.2.1 hw.2.2.2 is hI
theorem wd_cut {G : gw_} {A : Nat → Prop} {H0 H : Heap} {ws wc : va_W} {locs : List Loc} (hw : wd_ G A H0 ws H locs) (is : List Nat) (hn : va_nd is = true) (hI : is.map (fun i => ws[i]?) = wc.map some) : va_P G.1 cl_ wc H ∧ va_D A wc := by
  refine ⟨fun k q h => ?_, hw.2.1.sub is hn hI⟩
  obtain ⟨i, -, h2⟩ := rp_at hI h
  exact hw.1 i q h2
section OWN3
variable {p : Program} {l : Launch} {e : Env} {R : Room} {s : State} {m : MethodId} {args : Array Value} {below : List Frame} {meth : Method} {c : Code} {H : Heap} {locs : List Loc} {cells slots : Nat} {Q : State → Prop} {cc : ByteArray} {pc nL : Nat} {ls : Array Slot} {rest st0 : List Value} {G : gw_} {A : Nat → Prop} {ws wc wc1 : va_W} {own : String}
  {y : MethodName} {bytes : ByteArray} {maxL fr lo n index : Nat} {ret : Option FieldType} {C : String} {b : Addr} {As : List Value}
theorem pre_of (hC : cx_ p s m c G cc nL own) (hw : wd_ G A s.heap ws H locs) {av : List Value} (is : List Nat) (hn : va_nd is = true) (hI : is.map (fun i => ws[i]?) = wc.map some) : ∀ U : State, U.heap = H → s.WarmedH U.vm → va_Pc av (pre_ G wc H.size) av.toArray U := fun U hU hW =>
  ⟨rfl, by rw [hU], by rw [hU]; exact (wd_cut hw is hn hI).1, va_K.moved hW.alike hC.2.2.2.2.2, (wd_cut hw is hn hI).2.weaken (fun _ _ _ _ => trivial), aw_warm hW hC.2.2.2.2.1⟩
theorem gw_recv (hC : cx_ p s m c G cc nL own) (hw : wd_ G A s.heap ws H locs) {ci N q0 : Nat} {T : u_T} {fs : List Value} (he : ws[q0]? = some (b, .inr (ci, fs))) (hc : cl_[ci]? = some (C, T, N)) : ∃ cellB : Cell, H[b]? = some cellB ∧ cellB.vm.isStatics = false ∧ s.vm.findClass C = some cellB.cls :=
  va_recv hC.2.2.2.2.2 hw.1 hc he
theorem g_cVi {r : Int32} (hC : cx_ p s m c G cc nL own) (hw : wd_ G A s.heap ws H locs) (hk : mv_ own index y bytes maxL ret C n) (hM : ci_ l G y bytes maxL ret fr lo wc (.ref b :: As) r wc1) (is : List Nat) (hI : is.map (fun i => ws[i]?) = wc.map some) (hnd : va_nd is = true) (had : wc1.map (·.1) = wc.map (·.1)) (q0 : Nat) {ci N : Nat} {T : u_T} {fs : List Value} (he : ws[q0]? = some (b, .inr (ci, fs))) (hc : cl_[ci]? = some (C, T, N)) (hn : As.length = n) (hsz : ls.size = nL) (hst : st0 = As.reverse ++ .ref b :: rest) (hro : (rest.map fun v => v.category).sum ≤ 8) (hR : fr + 1 ≤ R.frames ∧ 8 + (maxL + 11) + lo ≤ R.locals) (hcs : cells ≤ R.cells ∧ slots ≤ R.slots) (hdg : decode cc pc = .ok (.invokevirtual index, 3))
    (kk : ∀ (H1 : Heap) (locs1 : List Loc), wd_ G A s.heap (rp_ ws is wc1) H1 locs1 → W p l e R s m args below meth c H1 locs1 cells slots Q (F0 m (pc + 3) ls (.int r :: rest))) : W p l e R s m args below meth c H locs cells slots Q (F0 m pc ls st0) := by
  subst hst
  have hF := wd_free hw is hI
  refine va_calli (g_runV hC hk (hM H.size) hR ⟨pre_blind _ _ _ _, gw_recv hC hw he hc, pre_of hC hw is hnd hI⟩ rfl hn hsz rfl (lv_room hro) hdg hcs) hw.2.2.1 (fun q _ h => hF q h) hF (fun r' u t H1 locs1 ht hvm hpo hB hz1 hk1 hS => ?_)
  subst hpo
  obtain ⟨hP1, hD1⟩ := hB
  rw [ht] at hP1
  obtain ⟨j1, j2⟩ := rp_join hw.1 hw.2.1 hI had hk1 hP1
  exact kk H1 locs1 ⟨j1, j2, hS, hw.2.2.2⟩
theorem g_cVj {r : Int64} (hC : cx_ p s m c G cc nL own) (hw : wd_ G A s.heap ws H locs) (hk : mv_ own index y bytes maxL ret C n) (hM : cj_ l G y bytes maxL ret fr lo wc (.ref b :: As) r wc1) (is : List Nat) (hI : is.map (fun i => ws[i]?) = wc.map some) (hnd : va_nd is = true) (had : wc1.map (·.1) = wc.map (·.1)) (q0 : Nat) {ci N : Nat} {T : u_T} {fs : List Value} (he : ws[q0]? = some (b, .inr (ci, fs))) (hc : cl_[ci]? = some (C, T, N)) (hn : As.length = n) (hsz : ls.size = nL) (hst : st0 = As.reverse ++ .ref b :: rest) (hro : (rest.map fun v => v.category).sum ≤ 8) (hR : fr + 1 ≤ R.frames ∧ 8 + (maxL + 11) + lo ≤ R.locals) (hcs : cells ≤ R.cells ∧ slots ≤ R.slots) (hdg : decode cc pc = .ok (.invokevirtual index, 3))
    (kk : ∀ (H1 : Heap) (locs1 : List Loc), wd_ G A s.heap (rp_ ws is wc1) H1 locs1 → W p l e R s m args below meth c H1 locs1 cells slots Q (F0 m (pc + 3) ls (.long r :: rest))) : W p l e R s m args below meth c H locs cells slots Q (F0 m pc ls st0) := by
  subst hst
  have hF := wd_free hw is hI
  refine va_calll (g_runV hC hk (hM H.size) hR ⟨pre_blind _ _ _ _, gw_recv hC hw he hc, pre_of hC hw is hnd hI⟩ rfl hn hsz rfl (lv_room hro) hdg hcs) hw.2.2.1 (fun q _ h => hF q h) hF (fun r' u t H1 locs1 ht hvm hpo hB hz1 hk1 hS => ?_)
  subst hpo
  obtain ⟨hP1, hD1⟩ := hB
  rw [ht] at hP1
  obtain ⟨j1, j2⟩ := rp_join hw.1 hw.2.1 hI had hk1 hP1
  exact kk H1 locs1 ⟨j1, j2, hS, hw.2.2.2⟩
theorem g_cVv (hC : cx_ p s m c G cc nL own) (hw : wd_ G A s.heap ws H locs) (hk : mv_ own index y bytes maxL ret C n) (hM : cv_ l G y bytes maxL ret fr lo wc (.ref b :: As) wc1) (is : List Nat) (hI : is.map (fun i => ws[i]?) = wc.map some) (hnd : va_nd is = true) (had : wc1.map (·.1) = wc.map (·.1)) (q0 : Nat) {ci N : Nat} {T : u_T} {fs : List Value} (he : ws[q0]? = some (b, .inr (ci, fs))) (hc : cl_[ci]? = some (C, T, N)) (hn : As.length = n) (hsz : ls.size = nL) (hst : st0 = As.reverse ++ .ref b :: rest) (hro : (rest.map fun v => v.category).sum ≤ 8) (hR : fr + 1 ≤ R.frames ∧ 8 + (maxL + 11) + lo ≤ R.locals) (hcs : cells ≤ R.cells ∧ slots ≤ R.slots) (hdg : decode cc pc = .ok (.invokevirtual index, 3))
    (kk : ∀ (H1 : Heap) (locs1 : List Loc), wd_ G A s.heap (rp_ ws is wc1) H1 locs1 → W p l e R s m args below meth c H1 locs1 cells slots Q (F0 m (pc + 3) ls rest)) : W p l e R s m args below meth c H locs cells slots Q (F0 m pc ls st0) := by
  subst hst
  have hF := wd_free hw is hI
  refine va_callv (g_runV hC hk (hM H.size) hR ⟨pre_blind _ _ _ _, gw_recv hC hw he hc, pre_of hC hw is hnd hI⟩ rfl hn hsz rfl (lv_room hro) hdg hcs) hw.2.2.1 (fun q _ h => hF q h) hF (fun u t H1 locs1 ht hvm hpo hB hz1 hk1 hS => ?_)
  obtain ⟨hP1, hD1⟩ := hB
  rw [ht] at hP1
  obtain ⟨j1, j2⟩ := rp_join hw.1 hw.2.1 hI had hk1 hP1
  exact kk H1 locs1 ⟨j1, j2, hS, hw.2.2.2⟩
theorem g_cSi {r : Int32} (hC : cx_ p s m c G cc nL own) (hw : wd_ G A s.heap ws H locs) (hk : ms_ own index y bytes maxL ret n) (hM : ci_ l G y bytes maxL ret fr lo wc As r wc1) (is : List Nat) (hI : is.map (fun i => ws[i]?) = wc.map some) (hnd : va_nd is = true) (had : wc1.map (·.1) = wc.map (·.1)) (hn : As.length = n) (hsz : ls.size = nL) (hst : st0 = As.reverse ++ rest) (hro : (rest.map fun v => v.category).sum ≤ 8) (hR : fr + 1 ≤ R.frames ∧ 8 + (maxL + 11) + lo ≤ R.locals) (hcs : cells ≤ R.cells ∧ slots ≤ R.slots) (hdg : decode cc pc = .ok (.invokestatic index, 3))
    (kk : ∀ (H1 : Heap) (locs1 : List Loc), wd_ G A s.heap (rp_ ws is wc1) H1 locs1 → W p l e R s m args below meth c H1 locs1 cells slots Q (F0 m (pc + 3) ls (.int r :: rest))) : W p l e R s m args below meth c H locs cells slots Q (F0 m pc ls st0) := by
  subst hst
  have hF := wd_free hw is hI
  refine va_calli (g_runS hC hk (hM H.size) hR ⟨pre_blind _ _ _ _, pre_of hC hw is hnd hI⟩ rfl hn hsz rfl (lv_room hro) hdg hcs) hw.2.2.1 (fun q _ h => hF q h) hF (fun r' u t H1 locs1 ht hvm hpo hB hz1 hk1 hS => ?_)
  subst hpo
  obtain ⟨hP1, hD1⟩ := hB
  rw [ht] at hP1
  obtain ⟨j1, j2⟩ := rp_join hw.1 hw.2.1 hI had hk1 hP1
  exact kk H1 locs1 ⟨j1, j2, hS, hw.2.2.2⟩
theorem g_cSj {r : Int64} (hC : cx_ p s m c G cc nL own) (hw : wd_ G A s.heap ws H locs) (hk : ms_ own index y bytes maxL ret n) (hM : cj_ l G y bytes maxL ret fr lo wc As r wc1) (is : List Nat) (hI : is.map (fun i => ws[i]?) = wc.map some) (hnd : va_nd is = true) (had : wc1.map (·.1) = wc.map (·.1)) (hn : As.length = n) (hsz : ls.size = nL) (hst : st0 = As.reverse ++ rest) (hro : (rest.map fun v => v.category).sum ≤ 8) (hR : fr + 1 ≤ R.frames ∧ 8 + (maxL + 11) + lo ≤ R.locals) (hcs : cells ≤ R.cells ∧ slots ≤ R.slots) (hdg : decode cc pc = .ok (.invokestatic index, 3))
    (kk : ∀ (H1 : Heap) (locs1 : List Loc), wd_ G A s.heap (rp_ ws is wc1) H1 locs1 → W p l e R s m args below meth c H1 locs1 cells slots Q (F0 m (pc + 3) ls (.long r :: rest))) : W p l e R s m args below meth c H locs cells slots Q (F0 m pc ls st0) := by
  subst hst
  have hF := wd_free hw is hI
  refine va_calll (g_runS hC hk (hM H.size) hR ⟨pre_blind _ _ _ _, pre_of hC hw is hnd hI⟩ rfl hn hsz rfl (lv_room hro) hdg hcs) hw.2.2.1 (fun q _ h => hF q h) hF (fun r' u t H1 locs1 ht hvm hpo hB hz1 hk1 hS => ?_)
  subst hpo
  obtain ⟨hP1, hD1⟩ := hB
  rw [ht] at hP1
  obtain ⟨j1, j2⟩ := rp_join hw.1 hw.2.1 hI had hk1 hP1
  exact kk H1 locs1 ⟨j1, j2, hS, hw.2.2.2⟩
theorem g_cSv (hC : cx_ p s m c G cc nL own) (hw : wd_ G A s.heap ws H locs) (hk : ms_ own index y bytes maxL ret n) (hM : cv_ l G y bytes maxL ret fr lo wc As wc1) (is : List Nat) (hI : is.map (fun i => ws[i]?) = wc.map some) (hnd : va_nd is = true) (had : wc1.map (·.1) = wc.map (·.1)) (hn : As.length = n) (hsz : ls.size = nL) (hst : st0 = As.reverse ++ rest) (hro : (rest.map fun v => v.category).sum ≤ 8) (hR : fr + 1 ≤ R.frames ∧ 8 + (maxL + 11) + lo ≤ R.locals) (hcs : cells ≤ R.cells ∧ slots ≤ R.slots) (hdg : decode cc pc = .ok (.invokestatic index, 3))
    (kk : ∀ (H1 : Heap) (locs1 : List Loc), wd_ G A s.heap (rp_ ws is wc1) H1 locs1 → W p l e R s m args below meth c H1 locs1 cells slots Q (F0 m (pc + 3) ls rest)) : W p l e R s m args below meth c H locs cells slots Q (F0 m pc ls st0) := by
  subst hst
  have hF := wd_free hw is hI
  refine va_callv (g_runS hC hk (hM H.size) hR ⟨pre_blind _ _ _ _, pre_of hC hw is hnd hI⟩ rfl hn hsz rfl (lv_room hro) hdg hcs) hw.2.2.1 (fun q _ h => hF q h) hF (fun u t H1 locs1 ht hvm hpo hB hz1 hk1 hS => ?_)
  obtain ⟨hP1, hD1⟩ := hB
  rw [ht] at hP1
  obtain ⟨j1, j2⟩ := rp_join hw.1 hw.2.1 hI had hk1 hP1
  exact kk H1 locs1 ⟨j1, j2, hS, hw.2.2.2⟩
theorem h_cVi {r : Int32} (hC : cx_ p s m c G cc nL own) (hw : wd_ G A s.heap ws H locs) (hk : mv_ own index y bytes maxL ret C n) (hM : ci_ l G y bytes maxL ret fr lo wc (.ref b :: As) r wc) (is : List Nat) (hI : is.map (fun i => ws[i]?) = wc.map some) (hnd : va_nd is = true) (q0 : Nat) {ci N : Nat} {T : u_T} {fs : List Value} (he : ws[q0]? = some (b, .inr (ci, fs))) (hc : cl_[ci]? = some (C, T, N)) (hn : As.length = n) (hsz : ls.size = nL) (hst : st0 = As.reverse ++ .ref b :: rest) (hro : (rest.map fun v => v.category).sum ≤ 8) (hR : fr + 1 ≤ R.frames ∧ 8 + (maxL + 11) + lo ≤ R.locals) (hcs : cells ≤ R.cells ∧ slots ≤ R.slots) (hdg : decode cc pc = .ok (.invokevirtual index, 3))
    (kk : ∀ (H1 : Heap) (locs1 : List Loc), wd_ G A s.heap ws H1 locs1 → W p l e R s m args below meth c H1 locs1 cells slots Q (F0 m (pc + 3) ls (.int r :: rest))) : W p l e R s m args below meth c H locs cells slots Q (F0 m pc ls st0) := g_cVi hC hw hk hM is hI hnd rfl q0 he hc hn hsz hst hro hR hcs hdg (fun H1 L1 h1 => kk H1 L1 (by rw [rp_self is wc ws hI] at h1; exact h1))
theorem h_cVj {r : Int64} (hC : cx_ p s m c G cc nL own) (hw : wd_ G A s.heap ws H locs) (hk : mv_ own index y bytes maxL ret C n) (hM : cj_ l G y bytes maxL ret fr lo wc (.ref b :: As) r wc) (is : List Nat) (hI : is.map (fun i => ws[i]?) = wc.map some) (hnd : va_nd is = true) (q0 : Nat) {ci N : Nat} {T : u_T} {fs : List Value} (he : ws[q0]? = some (b, .inr (ci, fs))) (hc : cl_[ci]? = some (C, T, N)) (hn : As.length = n) (hsz : ls.size = nL) (hst : st0 = As.reverse ++ .ref b :: rest) (hro : (rest.map fun v => v.category).sum ≤ 8) (hR : fr + 1 ≤ R.frames ∧ 8 + (maxL + 11) + lo ≤ R.locals) (hcs : cells ≤ R.cells ∧ slots ≤ R.slots) (hdg : decode cc pc = .ok (.invokevirtual index, 3))
    (kk : ∀ (H1 : Heap) (locs1 : List Loc), wd_ G A s.heap ws H1 locs1 → W p l e R s m args below meth c H1 locs1 cells slots Q (F0 m (pc + 3) ls (.long r :: rest))) : W p l e R s m args below meth c H locs cells slots Q (F0 m pc ls st0) := g_cVj hC hw hk hM is hI hnd rfl q0 he hc hn hsz hst hro hR hcs hdg (fun H1 L1 h1 => kk H1 L1 (by rw [rp_self is wc ws hI] at h1; exact h1))
theorem h_cVv (hC : cx_ p s m c G cc nL own) (hw : wd_ G A s.heap ws H locs) (hk : mv_ own index y bytes maxL ret C n) (hM : cv_ l G y bytes maxL ret fr lo wc (.ref b :: As) wc) (is : List Nat) (hI : is.map (fun i => ws[i]?) = wc.map some) (hnd : va_nd is = true) (q0 : Nat) {ci N : Nat} {T : u_T} {fs : List Value} (he : ws[q0]? = some (b, .inr (ci, fs))) (hc : cl_[ci]? = some (C, T, N)) (hn : As.length = n) (hsz : ls.size = nL) (hst : st0 = As.reverse ++ .ref b :: rest) (hro : (rest.map fun v => v.category).sum ≤ 8) (hR : fr + 1 ≤ R.frames ∧ 8 + (maxL + 11) + lo ≤ R.locals) (hcs : cells ≤ R.cells ∧ slots ≤ R.slots) (hdg : decode cc pc = .ok (.invokevirtual index, 3))
    (kk : ∀ (H1 : Heap) (locs1 : List Loc), wd_ G A s.heap ws H1 locs1 → W p l e R s m args below meth c H1 locs1 cells slots Q (F0 m (pc + 3) ls rest)) : W p l e R s m args below meth c H locs cells slots Q (F0 m pc ls st0) := g_cVv hC hw hk hM is hI hnd rfl q0 he hc hn hsz hst hro hR hcs hdg (fun H1 L1 h1 => kk H1 L1 (by rw [rp_self is wc ws hI] at h1; exact h1))
theorem h_cSi {r : Int32} (hC : cx_ p s m c G cc nL own) (hw : wd_ G A s.heap ws H locs) (hk : ms_ own index y bytes maxL ret n) (hM : ci_ l G y bytes maxL ret fr lo wc As r wc) (is : List Nat) (hI : is.map (fun i => ws[i]?) = wc.map some) (hnd : va_nd is = true) (hn : As.length = n) (hsz : ls.size = nL) (hst : st0 = As.reverse ++ rest) (hro : (rest.map fun v => v.category).sum ≤ 8) (hR : fr + 1 ≤ R.frames ∧ 8 + (maxL + 11) + lo ≤ R.locals) (hcs : cells ≤ R.cells ∧ slots ≤ R.slots) (hdg : decode cc pc = .ok (.invokestatic index, 3))
    (kk : ∀ (H1 : Heap) (locs1 : List Loc), wd_ G A s.heap ws H1 locs1 → W p l e R s m args below meth c H1 locs1 cells slots Q (F0 m (pc + 3) ls (.int r :: rest))) : W p l e R s m args below meth c H locs cells slots Q (F0 m pc ls st0) := g_cSi hC hw hk hM is hI hnd rfl hn hsz hst hro hR hcs hdg (fun H1 L1 h1 => kk H1 L1 (by rw [rp_self is wc ws hI] at h1; exact h1))
theorem h_cSj {r : Int64} (hC : cx_ p s m c G cc nL own) (hw : wd_ G A s.heap ws H locs) (hk : ms_ own index y bytes maxL ret n) (hM : cj_ l G y bytes maxL ret fr lo wc As r wc) (is : List Nat) (hI : is.map (fun i => ws[i]?) = wc.map some) (hnd : va_nd is = true) (hn : As.length = n) (hsz : ls.size = nL) (hst : st0 = As.reverse ++ rest) (hro : (rest.map fun v => v.category).sum ≤ 8) (hR : fr + 1 ≤ R.frames ∧ 8 + (maxL + 11) + lo ≤ R.locals) (hcs : cells ≤ R.cells ∧ slots ≤ R.slots) (hdg : decode cc pc = .ok (.invokestatic index, 3))
    (kk : ∀ (H1 : Heap) (locs1 : List Loc), wd_ G A s.heap ws H1 locs1 → W p l e R s m args below meth c H1 locs1 cells slots Q (F0 m (pc + 3) ls (.long r :: rest))) : W p l e R s m args below meth c H locs cells slots Q (F0 m pc ls st0) := g_cSj hC hw hk hM is hI hnd rfl hn hsz hst hro hR hcs hdg (fun H1 L1 h1 => kk H1 L1 (by rw [rp_self is wc ws hI] at h1; exact h1))
theorem h_cSv (hC : cx_ p s m c G cc nL own) (hw : wd_ G A s.heap ws H locs) (hk : ms_ own index y bytes maxL ret n) (hM : cv_ l G y bytes maxL ret fr lo wc As wc) (is : List Nat) (hI : is.map (fun i => ws[i]?) = wc.map some) (hnd : va_nd is = true) (hn : As.length = n) (hsz : ls.size = nL) (hst : st0 = As.reverse ++ rest) (hro : (rest.map fun v => v.category).sum ≤ 8) (hR : fr + 1 ≤ R.frames ∧ 8 + (maxL + 11) + lo ≤ R.locals) (hcs : cells ≤ R.cells ∧ slots ≤ R.slots) (hdg : decode cc pc = .ok (.invokestatic index, 3))
    (kk : ∀ (H1 : Heap) (locs1 : List Loc), wd_ G A s.heap ws H1 locs1 → W p l e R s m args below meth c H1 locs1 cells slots Q (F0 m (pc + 3) ls rest)) : W p l e R s m args below meth c H locs cells slots Q (F0 m pc ls st0) := g_cSv hC hw hk hM is hI hnd rfl hn hsz hst hro hR hcs hdg (fun H1 L1 h1 => kk H1 L1 (by rw [rp_self is wc ws hI] at h1; exact h1))
end OWN3
