def NS : String := "java/util/NoSuchElementException"
def nsNames : List String := ["java/lang/RuntimeException", "java/lang/Exception"]
def nsDecl : List MethodName := [⟨"java/lang/RuntimeException", "<init>", "(Ljava/lang/String;)V"⟩, ⟨"java/lang/Exception", "<init>", "(Ljava/lang/String;)V"⟩, ⟨"java/lang/Throwable", "<init>", "(Ljava/lang/String;)V"⟩]
/-- what a throw needs beside: two statics of Throwable, and that the exception is of its own class -/
def KT (E : En) (U : State) : Prop := vx_Zq Bundle.tN "UNASSIGNED_STACK" Bundle.steD (Aw E U.heap.size) U U.heap ∧ vx_Zq Bundle.tN "SUPPRESSED_SENTINEL" Bundle.listD (Aw E U.heap.size) U U.heap ∧ va_Nw (.castable NS NS) U ∧ ∀ y ∈ nsDecl, va_Nw (.declares y) U
theorem KT.blind {E : En} {U : State} (h : KT E U) (g : JFrame) (mk : MethodId) (a : Array Value) : KT E (U.calling g mk a) :=
  ⟨vx_Zq.moved (u := U) (U := U.calling g mk a) (Vm.Alike.refl U.vm) h.1, vx_Zq.moved (u := U) (U := U.calling g mk a) (Vm.Alike.refl U.vm) h.2.1, va_tabs (u := U) rfl rfl h.2.2.1, fun y hy => va_tabs (u := U) rfl rfl (h.2.2.2 y hy)⟩
theorem KT.go {E : En} {s U : State} {H : Heap} {locs : List Loc} (h : KT E s) (hS : va_S (Aw E s.heap.size) s.heap H locs) (hU : U.heap = H) (hW : s.WarmedH U.vm) : KT E U := by
  obtain ⟨h1, h2, h3, h4⟩ := h
  subst hU
  exact ⟨vx_Zq.moved hW.alike ((h1.kept hS.2.1).narrow (fun q hq => Aw_mono hS.1 hq)), vx_Zq.moved hW.alike ((h2.kept hS.2.1).narrow (fun q hq => Aw_mono hS.1 hq)), va_Nw.warmC hW h3, fun y hy => va_Nw.warmD hW (h4 y hy)⟩
theorem ns_link : Cond.classLink RX11 150 NS ∈ gw := by decide +kernel
theorem ns_init : Cond.initialized NS ∈ gw := by decide +kernel
def rmX (d : Nat) : Room := { frames := d, cells := 1, slots := 6, locals := 40 * d }
def PcT (E : En) (avs : List Value) (μ : Mem) (sz : Nat) : Array Value → State → Prop := va_Pc avs (fun U => U.heap.size = sz ∧ va_P (eD E) vwCl (cw E μ) U.heap ∧ KX E U ∧ KT E U)
theorem PcT_blind {E : En} {avs : List Value} {μ : Mem} {sz : Nat} : FrameBlind (PcT E avs μ sz) := fun a U g mk h => by
  obtain ⟨h0, h1, h2, h3, h4⟩ := h
  exact ⟨h0, h1, h2, h3.blind g mk a, h4.blind g mk a⟩
def WB (E : En) (u : Mem) (t : State) : Prop := va_P (eD E) vwCl (cw E u) t.heap
def XQ (E : En) (c : Prop) (μ' : Mem) (sz : Nat) : String → State → State → Prop := vx_X (fun u : Mem => c ∧ u = μ') (fun Ec u t => Ec = NS ∧ WB E u t) (Aw E sz)
def MtX (E : En) (l : Launch) (y : MethodName) (cc : ByteArray) (maxL d : Nat) (avs : List Value) (μ : Mem) (o : Option (Option Int32 × Mem)) : Prop :=
  ∀ r μ', o = some (r, μ') → ∀ sz, vx_Met l y (.code y cc maxL (some .int) :: gw) (rmX d) (PcT E avs μ sz) (va_Qi (fun r2 u => r = some r2 ∧ u = μ') (WB E) (Aw E sz)) (XQ E (r = none) μ' sz) 1 6 (Aw E sz)
def MtXL (E : En) (l : Launch) (y : MethodName) (cc : ByteArray) (maxL d : Nat) (avs : List Value) (μ : Mem) (o : Option (Option Int64 × Mem)) : Prop :=
  ∀ r μ', o = some (r, μ') → ∀ sz, vx_Met l y (.code y cc maxL (some .long) :: gw) (rmX d) (PcT E avs μ sz) (va_Ql (fun r2 u => r = some r2 ∧ u = μ') (WB E) (Aw E sz)) (XQ E (r = none) μ' sz) 1 6 (Aw E sz)
def noTab (Z : Zt) : Prop := match Z with
  | (_, _, _, _, _, _, _, _, _, c, _, _) => ∀ x ∈ c.exceptionTable.toList, False
def zKT (E : En) (Z : Zt) : Prop := match Z with
  | (_, _, _, _, s, _, _, _, _, _, _, _) => KT E s
def zero (Z : Zt) : Prop := match Z with
  | (_, _, _, R, _, _, _, _, _, _, cs, ss) => cs = 0 ∧ ss = 0 ∧ 1 ≤ R.cells ∧ 6 ≤ R.slots
def QX (E : En) (Z : Zt) : Option Int32 → Mem → State → Prop := match Z with
  | (_, _, _, _, s, _, args, below, _, _, _, _) => fun r μ' => vx_MQ below (va_Qi (fun r2 u => r = some r2 ∧ u = μ') (WB E) (Aw E s.heap.size)) (XQ E (r = none) μ' s.heap.size) args s 1 6 (Aw E s.heap.size)
def QXL (E : En) (Z : Zt) : Option Int64 → Mem → State → Prop := match Z with
  | (_, _, _, _, s, _, args, below, _, _, _, _) => fun r μ' => vx_MQ below (va_Ql (fun r2 u => r = some r2 ∧ u = μ') (WB E) (Aw E s.heap.size)) (XQ E (r = none) μ' s.heap.size) args s 1 6 (Aw E s.heap.size)
section Thr
variable {E : En} {l : Launch} {Z : Zt} {cc : ByteArray} {own : String} {nL D : Nat} {pc : Nat} {lv : List (Nat × Value)} {st : List Value} {μ : Mem}
theorem mtX_of {y : MethodName} {maxL d : Nat} {avs : List Value} {o : Option (Option Int32 × Mem)} (lv : List (Nat × Value)) (hI : Inj E) (hown : y.cls = own) (hy : plainName own = true) (hd : 1 ≤ d) (hlen : (lg_sl avs).length ≤ maxL) (hlv : lv_args 0 avs = lv)
    (body : ∀ Z : Zt, lZ l Z → Cx E Z cc own maxL d → noTab Z → zKT E Z → zero Z → rtOf Z = some .int → AO E Z maxL (QX E Z) 0 lv [] μ o) : MtX E l y cc maxL d avs μ o := by
  intro r μ' ho sz
  subst hown
  refine vx_ofW (cc := cc) (maxL := maxL) (ret := some .int) hy rfl ?_
  intro p e s m args below meth c s₁ B hml htab hv
  obtain ⟨rfl, hsz, hP, hK, hT⟩ := hv
  subst hsz
  have hts := atoms_spec (ws := .code y cc maxL (some .int) :: gw) B.pre
  have hl := lv_entry avs (n := maxL) hlen
  rw [lg_entry_eq]
  have X : Cx E (l, p, e, rmX d, s, m, avs.toArray, below, meth, c, 0, 0) cc y.cls maxL d := ⟨B.exec, B.bytes, hml, findClass_of_methodNamed B.named, fun w hw => hts w (List.mem_cons_of_mem _ hw), hK, hI, ⟨hd, Nat.le_refl _, Nat.le_refl _, Nat.zero_le _, Nat.zero_le _⟩, B.notSynchronized⟩
  exact body (l, p, e, rmX d, s, m, avs.toArray, below, meth, c, 0, 0) rfl X htab hT ⟨rfl, rfl, Nat.le_refl _, Nat.le_refl _⟩ B.returns r μ' ho s.heap [] _ hP va_S.rf (by rw [hlv] at hl; exact hl)
theorem mtXL_of {y : MethodName} {maxL d : Nat} {avs : List Value} {o : Option (Option Int64 × Mem)} (lv : List (Nat × Value)) (hI : Inj E) (hown : y.cls = own) (hy : plainName own = true) (hd : 1 ≤ d) (hlen : (lg_sl avs).length ≤ maxL) (hlv : lv_args 0 avs = lv)
    (body : ∀ Z : Zt, lZ l Z → Cx E Z cc own maxL d → noTab Z → zKT E Z → zero Z → rtOf Z = some .long → AO E Z maxL (QXL E Z) 0 lv [] μ o) : MtXL E l y cc maxL d avs μ o := by
  intro r μ' ho sz
  subst hown
  refine vx_ofW (cc := cc) (maxL := maxL) (ret := some .long) hy rfl ?_
  intro p e s m args below meth c s₁ B hml htab hv
  obtain ⟨rfl, hsz, hP, hK, hT⟩ := hv
  subst hsz
  have hts := atoms_spec (ws := .code y cc maxL (some .long) :: gw) B.pre
  have hl := lv_entry avs (n := maxL) hlen
  rw [lg_entry_eq]
  have X : Cx E (l, p, e, rmX d, s, m, avs.toArray, below, meth, c, 0, 0) cc y.cls maxL d := ⟨B.exec, B.bytes, hml, findClass_of_methodNamed B.named, fun w hw => hts w (List.mem_cons_of_mem _ hw), hK, hI, ⟨hd, Nat.le_refl _, Nat.le_refl _, Nat.zero_le _, Nat.zero_le _⟩, B.notSynchronized⟩
  exact body (l, p, e, rmX d, s, m, avs.toArray, below, meth, c, 0, 0) rfl X htab hT ⟨rfl, rfl, Nat.le_refl _, Nat.le_refl _⟩ B.returns r μ' ho s.heap [] _ hP va_S.rf (by rw [hlv] at hl; exact hl)
theorem ao_xret (X : Cx E Z cc own nL D) (hz : zero Z) {v : Int32} (hr : rtOf Z = some .int) (d : decode cc pc = .ok (.ireturn, 1)) : AO E Z nL (QX E Z) pc lv [.int v] μ (some (some v, μ)) := by
  obtain ⟨l, p, e, R, s, m, args, below, meth, c, cs, ss⟩ := Z
  obtain ⟨hx, hb, hml, hown, hts, hK, hI, hR, hlk⟩ := X
  obtain ⟨rfl, rfl, -, -⟩ := hz
  intro r μ' h H locs ls hP hS hl
  cases h
  refine vx_ret (W.widen (k := 1) (n := 6) (Nat.zero_le _) (Nat.zero_le _) ?_)
  exact W.iret (v := v) hx hb hr (fun t ht hW => ⟨⟨v, μ, rfl, ⟨rfl, rfl⟩, by show va_P _ _ _ t.heap; rw [ht]; exact hP⟩, hS.F ht⟩) hS.2.2 d
theorem ao_xlret (X : Cx E Z cc own nL D) (hz : zero Z) {v : Int64} (hr : rtOf Z = some .long) (d : decode cc pc = .ok (.lreturn, 1)) : AO E Z nL (QXL E Z) pc lv [.long v] μ (some (some v, μ)) := by
  obtain ⟨l, p, e, R, s, m, args, below, meth, c, cs, ss⟩ := Z
  obtain ⟨hx, hb, hml, hown, hts, hK, hI, hR, hlk⟩ := X
  obtain ⟨rfl, rfl, -, -⟩ := hz
  intro r μ' h H locs ls hP hS hl
  cases h
  refine vx_ret (W.widen (k := 1) (n := 6) (Nat.zero_le _) (Nat.zero_le _) ?_)
  exact W.lret (v := v) hx hb hr (fun t ht hW => ⟨⟨v, μ, rfl, ⟨rfl, rfl⟩, by show va_P _ _ _ t.heap; rw [ht]; exact hP⟩, hS.F ht⟩) hS.2.2 d
theorem thr_walk {Qc : Array Value → State → Outcome → State → Prop} {p : Program} {e : Env} {R : Room} {s : State} {m : MethodId} {args : Array Value} {below : List Frame} {meth : Method} {c : Code} {H : Heap} {locs : List Loc} {ls : Array Slot} (hst : l.stackTraces = false) (hx : p.tables.exec = Jvm.exec) (hb : c.code = cc) (hml : c.maxLocals = nL) (hown : s.vm.findClass RX11 = some m.cls) (hts : ∀ w ∈ gw, w.before args s = true) (hK : KX E s) (hT : KT E s) (hlk : meth.locks = false) (htab : ∀ x ∈ c.exceptionTable.toList, False) (hD : 7 ≤ R.frames ∧ 280 ≤ R.locals ∧ 1 ≤ R.cells ∧ 6 ≤ R.slots)
    {is i : Nat} {tx : String} (hi : (RX11, is, tx, i) ∈ strTab) (d0 : decode cc pc = .ok (.new 150, 3)) (d3 : decode cc (pc + 3) = .ok (.dup, 1)) (d4 : decode cc (pc + 4) = .ok (.ldc is, 2)) (d6 : decode cc (pc + 6) = .ok (.invokespecial 154, 3)) (d9 : decode cc (pc + 9) = .ok (.athrow, 1)) (hc : (st.map fun v => v.category).sum ≤ 8)
    (hP : va_P (eD E) vwCl (cw E μ) H) (hS : va_S (Aw E s.heap.size) s.heap H locs) (hl : lv_has ls nL lv) {cnd : Prop} (hcn : cnd) :
    W p l e R s m args below meth c H locs 0 0 (vx_MQ below Qc (XQ E cnd μ s.heap.size) args s 1 6 (Aw E s.heap.size)) (F0 m pc ls st) := by
  sorry
theorem thr_walkW {Qc : Array Value → State → Outcome → State → Prop} {p : Program} {e : Env} {R : Room} {s : State} {m : MethodId} {args : Array Value} {below : List Frame} {meth : Method} {c : Code} {H : Heap} {locs : List Loc} {ls : Array Slot} (hst : l.stackTraces = false) (hx : p.tables.exec = Jvm.exec) (hb : c.code = cc) (hml : c.maxLocals = nL) (hown : s.vm.findClass RX11 = some m.cls) (hts : ∀ w ∈ gw, w.before args s = true) (hK : KX E s) (hT : KT E s) (hlk : meth.locks = false) (htab : ∀ x ∈ c.exceptionTable.toList, False) (hD : 7 ≤ R.frames ∧ 280 ≤ R.locals ∧ 1 ≤ R.cells ∧ 6 ≤ R.slots)
    {is i : Nat} {tx : String} (hi : (RX11, is, tx, i) ∈ strTab) (d0 : decode cc pc = .ok (.new 150, 3)) (d3 : decode cc (pc + 3) = .ok (.dup, 1)) (d4 : decode cc (pc + 4) = .ok (.ldc_w is, 3)) (d6 : decode cc (pc + 7) = .ok (.invokespecial 154, 3)) (d9 : decode cc (pc + 10) = .ok (.athrow, 1)) (hc : (st.map fun v => v.category).sum ≤ 8)
    (hP : va_P (eD E) vwCl (cw E μ) H) (hS : va_S (Aw E s.heap.size) s.heap H locs) (hl : lv_has ls nL lv) {cnd : Prop} (hcn : cnd) :
    W p l e R s m args below meth c H locs 0 0 (vx_MQ below Qc (XQ E cnd μ s.heap.size) args s 1 6 (Aw E s.heap.size)) (F0 m pc ls st) := by
  sorry
theorem ao_xthrow (X : Cx E Z cc RX11 nL D) (hz : zero Z) (htab : noTab Z) (hT : zKT E Z) (hl0 : lZ l Z) (hst : l.stackTraces = false) (hD : 7 ≤ D) {is i : Nat} {tx : String} (hi : (RX11, is, tx, i) ∈ strTab) (d0 : decode cc pc = .ok (.new 150, 3)) (d3 : decode cc (pc + 3) = .ok (.dup, 1)) (d4 : decode cc (pc + 4) = .ok (.ldc is, 2)) (d6 : decode cc (pc + 6) = .ok (.invokespecial 154, 3)) (d9 : decode cc (pc + 9) = .ok (.athrow, 1)) (hc : (st.map fun v => v.category).sum ≤ 8) : AO E Z nL (QX E Z) pc lv st μ (some (none, μ)) := by
  obtain ⟨l0, p, e, R, s, m, args, below, meth, c, cs, ss⟩ := Z
  cases hl0
  obtain ⟨hx, hb, hml, hown, hts, hK, hI, hR, hlk⟩ := X
  obtain ⟨rfl, rfl, h1, h2⟩ := hz
  intro r μ' h H locs ls hP hS hl
  cases h
  exact thr_walk hst hx hb hml hown hts hK hT hlk htab ⟨by omega, by omega, h1, h2⟩ hi d0 d3 d4 d6 d9 hc hP hS hl rfl
theorem ao_xlthrow (X : Cx E Z cc RX11 nL D) (hz : zero Z) (htab : noTab Z) (hT : zKT E Z) (hl0 : lZ l Z) (hst : l.stackTraces = false) (hD : 7 ≤ D) {is i : Nat} {tx : String} (hi : (RX11, is, tx, i) ∈ strTab) (d0 : decode cc pc = .ok (.new 150, 3)) (d3 : decode cc (pc + 3) = .ok (.dup, 1)) (d4 : decode cc (pc + 4) = .ok (.ldc_w is, 3)) (d6 : decode cc (pc + 7) = .ok (.invokespecial 154, 3)) (d9 : decode cc (pc + 10) = .ok (.athrow, 1)) (hc : (st.map fun v => v.category).sum ≤ 8) : AO E Z nL (QXL E Z) pc lv st μ (some (none, μ)) := by
  obtain ⟨l0, p, e, R, s, m, args, below, meth, c, cs, ss⟩ := Z
  cases hl0
  obtain ⟨hx, hb, hml, hown, hts, hK, hI, hR, hlk⟩ := X
  obtain ⟨rfl, rfl, h1, h2⟩ := hz
  intro r μ' h H locs ls hP hS hl
  cases h
  exact thr_walkW hst hx hb hml hown hts hK hT hlk htab ⟨by omega, by omega, h1, h2⟩ hi d0 d3 d4 d6 d9 hc hP hS hl rfl
end Thr
