section OWN4
variable {p : Program} {l : Launch} {e : Env} {R : Room} {s : State} {m : MethodId} {args : Array Value} {below : List Frame} {meth : Method} {c : Code} {H : Heap} {locs : List Loc} {cells slots : Nat} {Q : State → Prop} {cc : ByteArray} {pc nL : Nat} {ls : Array Slot} {rest : List Value} {G : gw_} {A : Nat → Prop} {ws : va_W} {H0 : Heap} {own : String}
theorem g_ldc2 {index : Nat} {v : Int64} (hC : cx_ p s m c G cc nL own) (hk : Cond.constantLong own index v ∈ tw_) (hdg : decode cc pc = .ok (.ldc2_w index, 3)) (kk : W p l e R s m args below meth c H locs cells slots Q (F0 m (pc + 3) ls (.long v :: rest))) : W p l e R s m args below meth c H locs cells slots Q (F0 m pc ls rest) :=
  lv_ldc2 hC.1 hC.2.1 hC.2.2.2.1 (aw_at hC.2.2.2.2.1 args _ hk) hdg kk
theorem g_ldcw {index : Nat} {v : Int32} (hC : cx_ p s m c G cc nL own) (hk : Cond.constant own index v ∈ tw_) (hdg : decode cc pc = .ok (.ldc_w index, 3)) (kk : W p l e R s m args below meth c H locs cells slots Q (F0 m (pc + 3) ls (.int v :: rest))) : W p l e R s m args below meth c H locs cells slots Q (F0 m pc ls rest) :=
  lv_ldcw hC.1 hC.2.1 hC.2.2.2.1 (aw_at hC.2.2.2.2.1 args _ hk) hdg kk
theorem g_copy {a0 a n0 n1 index N : Nat} {f g f1 : Nat → Int32} {sp dp n : Int32} (hC : cx_ p s m c G cc nL own) (hw : wd_ G A H0 ws H locs) (hsz : ls.size = nL) (h1 : Cond.methodLink own index arraycopyName ∈ tw_) (h2 : Cond.native arraycopyName ∈ tw_) (h3 : Cond.static arraycopyName ∈ tw_) (h4 : Cond.initialized "java/lang/System" ∈ tw_) (q0 q1 : Nat) (he0 : ws[q0]? = some (ia_ G a0 n0 f)) (he1 : ws[q1]? = some (ia_ G a n1 g))
    (hsp : sp = 0) (hdp : dp = 0) (hN : n.toNatClampNeg = N) (hn : ¬ n < 0) (h5 : N ≤ n0) (h6 : N ≤ n1) (ef : f1 = va_cpy f g 0 0 N) (hfr : 1 ≤ R.frames) (hlo : (rest.map fun v => v.category).sum + (nativeFrameWords "java/lang/System" "arraycopy" 5 + 11) ≤ R.locals) (hdg : decode cc pc = .ok (.invokestatic index, 3))
    (kk : ∀ (H1 : Heap) (locs1 : List Loc), wd_ G A H0 (ws.set q1 (ia_ G a n1 f1)) H1 locs1 → W p l e R s m args below meth c H1 locs1 cells slots Q (F0 m (pc + 3) ls rest)) : W p l e R s m args below meth c H locs cells slots Q (F0 m pc ls (.int n :: .int dp :: .ref a :: .int sp :: .ref a0 :: rest)) := by
  subst hsp; subst hdp; subst hN; subst ef
  have hts := aw_at hC.2.2.2.2.1 args
  exact va_copyi hC.1 hC.2.1 (hC.2.2.1.trans hsz.symm) hC.2.2.2.1 (hts _ h1) (hts _ h2) (hts _ h3) (hts _ h4) hC.2.2.2.2.2 hw.1 hw.2.1 hw.2.2.1 q0 q1 0 0 he0 he1 rfl rfl rfl (by decide) (by decide) hn (by show 0 + _ ≤ _; omega) (by show 0 + _ ≤ _; omega) (fun _ _ => rfl) hfr hlo hdg (fun H1 L1 a1 a2 a3 => kk H1 L1 ⟨a1, a2, a3, hw.2.2.2⟩)
theorem g_zast {a n : Nat} {f f1 : Nat → Int32} {i x : Int32} (hz : vp_nar .boolean x = x) (hC : cx_ p s m c G cc nL own) (hw : wd_ G A H0 ws H locs) (q0 : Nat) (he : ws[q0]? = some (za_ G a n f)) (hin : vp_in i n) (ef : f1 = upd f i.toNatClampNeg x) (hdg : decode cc pc = .ok (.bastore, 1))
    (kk : ∀ (H1 : Heap) (locs1 : List Loc), wd_ G A H0 (ws.set q0 (za_ G a n f1)) H1 locs1 → W p l e R s m args below meth c H1 locs1 cells slots Q (F0 m (pc + 1) ls rest)) : W p l e R s m args below meth c H locs cells slots Q (F0 m pc ls (.int x :: .int i :: .ref a :: rest)) := by
  subst ef
  refine va_zast hC.1 hC.2.1 hC.2.2.2.2.2 hw.1 hw.2.1 hw.2.2.1 q0 1 he rfl hin hdg (fun H1 L1 a1 a2 a3 => ?_)
  rw [hz] at a1 a2
  exact kk H1 L1 ⟨a1, a2, a3, hw.2.2.2⟩
end OWN4
theorem tsw_out {x : Int32} {hi : Int} (n : Nat) (h : ∀ j : Nat, j ≤ n → x = nI j → False) (e : (n : Int) = hi) : x.toInt < 0 ∨ hi < x.toInt := by
  rcases Int.lt_or_le x.toInt 0 with h0 | h0
  · exact Or.inl h0
  · rcases Int.lt_or_le hi x.toInt with h1 | h1
    · exact Or.inr h1
    · exfalso
      have hj : x.toInt.toNat ≤ n := by omega
      have hb := Int32.toInt_lt x
      refine h x.toInt.toNat hj ?_
      apply Int32.toInt_inj.mp
      rw [nI_toInt (by omega)]
      omega
