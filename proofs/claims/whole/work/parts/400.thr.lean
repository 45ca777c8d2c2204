def nsNames : List String := ["java/lang/RuntimeException", "java/lang/Exception"]
def nsDecl : List MethodName := [⟨"java/lang/RuntimeException", "<init>", "(Ljava/lang/String;)V"⟩, ⟨"java/lang/Exception", "<init>", "(Ljava/lang/String;)V"⟩, ⟨"java/lang/Throwable", "<init>", "(Ljava/lang/String;)V"⟩]
/-- what a throw needs beside: two statics of Throwable, and that the exception is of its own class -/
def KT (E : En) (U : State) : Prop := vx_Zq Bundle.tN "UNASSIGNED_STACK" Bundle.steD (Aw E U.heap.size) U U.heap ∧ vx_Zq Bundle.tN "SUPPRESSED_SENTINEL" Bundle.listD (Aw E U.heap.size) U U.heap ∧ va_Nw (.castable NS NS) U ∧ ∀ y ∈ nsDecl, va_Nw (.declares y) U
theorem KT.blind {E : En} {U : State} (h : KT E U) (g : JFrame) (mk : MethodId) (a : Array Value) : KT E (U.calling g mk a) :=
  ⟨vx_Zq.moved (u := U) (U := U.calling g mk a) (Vm.Alike.refl U.vm) h.1, vx_Zq.moved (u := U) (U := U.calling g mk a) (Vm.Alike.refl U.vm) h.2.1, va_tabs (u := U) rfl rfl h.2.2.1, fun y hy => va_tabs (u := U) rfl rfl (h.2.2.2 y hy)⟩
theorem KT.go {E : En} {s U : State} {H : Heap} {locs : List Loc} (h : KT E s) (hS : va_S (Aw E s.heap.size) s.heap H locs) (hU : U.heap = H) (hW : s.WarmedH U.vm) : KT E U := by
  obtain ⟨h1, h2, h3, h4⟩ := h
  subst hU
  exact ⟨vx_Zq.moved hW.alike ((h1.kept hS.2.1).narrow (fun q hq => Aw_mono hS.1 hq)), vx_Zq.moved hW.alike ((h2.kept hS.2.1).narrow (fun q hq => Aw_mono hS.1 hq)), va_Nw.warmC hW h3, fun y hy => va_Nw.warmD hW (h4 y hy)⟩
theorem ns_link : Cond.classLink RX11 150 NS ∈ gw := by decide +kernel
theorem ns_init : Cond.initialized NS ∈ gw := by decide +kernel
def rmX (d : Nat) : Room := { frames := d, cells := 1, slots := 6, locals := 40 * d }
def PcT (E : En) (avs : List Value) (μ : Mem) (sz : Nat) : Array Value → State → Prop := va_Pc avs (fun U => U.heap.size = sz ∧ va_P (eD E) vwCl (cw E μ) U.heap ∧ KX E U ∧ KT E U)
theorem PcT_blind {E : En} {avs : List Value} {μ : Mem} {sz : Nat} : FrameBlind (PcT E avs μ sz) := fun a U g mk h => by
  obtain ⟨h0, h1, h2, h3, h4⟩ := h
  exact ⟨h0, h1, h2, h3.blind g mk a, h4.blind g mk a⟩
def WB (E : En) (u : Mem) (t : State) : Prop := va_P (eD E) vwCl (cw E u) t.heap
def XQ (E : En) (c : Prop) (μ' : Mem) (sz : Nat) : String → State → State → Prop := vx_X (fun u : Mem => c ∧ u = μ') (fun Ec u t => Ec = NS ∧ WB E u t) (Aw E sz)
def MtX (E : En) (l : Launch) (y : MethodName) (cc : ByteArray) (maxL d : Nat) (avs : List Value) (μ : Mem) (o : Option (Option Int32 × Mem)) : Prop :=
  ∀ r μ', o = some (r, μ') → ∀ sz, vx_Met l y (.code y cc maxL (some .int) :: gw) (rmX d) (PcT E avs μ sz) (va_Qi (fun r2 u => r = some r2 ∧ u = μ') (WB E) (Aw E sz)) (XQ E (r = none) μ' sz) 1 6 (Aw E sz)
def MtXL (E : En) (l : Launch) (y : MethodName) (cc : ByteArray) (maxL d : Nat) (avs : List Value) (μ : Mem) (o : Option (Option Int64 × Mem)) : Prop :=
  ∀ r μ', o = some (r, μ') → ∀ sz, vx_Met l y (.code y cc maxL (some .long) :: gw) (rmX d) (PcT E avs μ sz) (va_Ql (fun r2 u => r = some r2 ∧ u = μ') (WB E) (Aw E sz)) (XQ E (r = none) μ' sz) 1 6 (Aw E sz)
def noTab (Z : Zt) : Prop := match Z with
  | (_, _, _, _, _, _, _, _, _, c, _, _) => ∀ x ∈ c.exceptionTable.toList, False
def zKT (E : En) (Z : Zt) : Prop := match Z with
  | (_, _, _, _, s, _, _, _, _, _, _, _) => KT E s
def zero (Z : Zt) : Prop := match Z with
  | (_, _, _, R, _, _, _, _, _, _, cs, ss) => cs = 0 ∧ ss = 0 ∧ 1 ≤ R.cells ∧ 6 ≤ R.slots
def QX (E : En) (Z : Zt) : Option Int32 → Mem → State → Prop := match Z with
  | (_, _, _, _, s, _, args, below, _, _, _, _) => fun r μ' => vx_MQ below (va_Qi (fun r2 u => r = some r2 ∧ u = μ') (WB E) (Aw E s.heap.size)) (XQ E (r = none) μ' s.heap.size) args s 1 6 (Aw E s.heap.size)
def QXL (E : En) (Z : Zt) : Option Int64 → Mem → State → Prop := match Z with
  | (_, _, _, _, s, _, args, below, _, _, _, _) => fun r μ' => vx_MQ below (va_Ql (fun r2 u => r = some r2 ∧ u = μ') (WB E) (Aw E s.heap.size)) (XQ E (r = none) μ' s.heap.size) args s 1 6 (Aw E s.heap.size)
/-- the words of the throw -/
def nsL : List Cond := (nsA RX11 154).filter vx_no
theorem nsL_in : ∀ w ∈ nsL, w ∈ gw ∨ w ∈ nsDecl.map Cond.declares := by decide +kernel
theorem nsL_ot : ∀ w ∈ nsL, vx_ot w = true := by decide +kernel
theorem nsK_ot : vx_ot (Cond.classLink RX11 150 NS) = true ∧ vx_ot (Cond.initialized NS) = true := by decide +kernel
section Thr
variable {E : En} {l : Launch} {Z : Zt} {cc : ByteArray} {own : String} {nL D : Nat} {pc : Nat} {lv : List (Nat × Value)} {st : List Value} {μ : Mem}
theorem mtX_of {y : MethodName} {maxL d : Nat} {avs : List Value} {o : Option (Option Int32 × Mem)} (lv : List (Nat × Value)) (hI : Inj E) (hown : y.cls = own) (hy : plainName own = true) (hd : 1 ≤ d) (hlen : (lg_sl avs).length ≤ maxL) (hlv : lv_args 0 avs = lv)
    (body : ∀ Z : Zt, lZ l Z → Cx E Z cc own maxL d → noTab Z → zKT E Z → zero Z → rtOf Z = some .int → AO E Z maxL (QX E Z) 0 lv [] μ o) : MtX E l y cc maxL d avs μ o := by
  intro r μ' ho sz
  subst hown
  refine vx_ofW (cc := cc) (maxL := maxL) (ret := some .int) hy rfl ?_
  intro p e s m args below meth c s₁ B hml htab hv
  obtain ⟨rfl, hsz, hP, hK, hT⟩ := hv
  subst hsz
  have hts := atoms_spec (ws := .code y cc maxL (some .int) :: gw) B.pre
  have hl := lv_entry avs (n := maxL) hlen
  rw [lg_entry_eq]
  have X : Cx E (l, p, e, rmX d, s, m, avs.toArray, below, meth, c, 0, 0) cc y.cls maxL d := ⟨B.exec, B.bytes, hml, findClass_of_methodNamed B.named, fun w hw => hts w (List.mem_cons_of_mem _ hw), hK, hI, ⟨hd, Nat.le_refl _, Nat.le_refl _, Nat.zero_le _, Nat.zero_le _⟩, B.notSynchronized⟩
  exact body (l, p, e, rmX d, s, m, avs.toArray, below, meth, c, 0, 0) rfl X htab hT ⟨rfl, rfl, Nat.le_refl _, Nat.le_refl _⟩ B.returns r μ' ho s.heap [] _ hP va_S.rf (by rw [hlv] at hl; exact hl)
theorem mtXL_of {y : MethodName} {maxL d : Nat} {avs : List Value} {o : Option (Option Int64 × Mem)} (lv : List (Nat × Value)) (hI : Inj E) (hown : y.cls = own) (hy : plainName own = true) (hd : 1 ≤ d) (hlen : (lg_sl avs).length ≤ maxL) (hlv : lv_args 0 avs = lv)
    (body : ∀ Z : Zt, lZ l Z → Cx E Z cc own maxL d → noTab Z → zKT E Z → zero Z → rtOf Z = some .long → AO E Z maxL (QXL E Z) 0 lv [] μ o) : MtXL E l y cc maxL d avs μ o := by
  intro r μ' ho sz
  subst hown
  refine vx_ofW (cc := cc) (maxL := maxL) (ret := some .long) hy rfl ?_
  intro p e s m args below meth c s₁ B hml htab hv
  obtain ⟨rfl, hsz, hP, hK, hT⟩ := hv
  subst hsz
  have hts := atoms_spec (ws := .code y cc maxL (some .long) :: gw) B.pre
  have hl := lv_entry avs (n := maxL) hlen
  rw [lg_entry_eq]
  have X : Cx E (l, p, e, rmX d, s, m, avs.toArray, below, meth, c, 0, 0) cc y.cls maxL d := ⟨B.exec, B.bytes, hml, findClass_of_methodNamed B.named, fun w hw => hts w (List.mem_cons_of_mem _ hw), hK, hI, ⟨hd, Nat.le_refl _, Nat.le_refl _, Nat.zero_le _, Nat.zero_le _⟩, B.notSynchronized⟩
  exact body (l, p, e, rmX d, s, m, avs.toArray, below, meth, c, 0, 0) rfl X htab hT ⟨rfl, rfl, Nat.le_refl _, Nat.le_refl _⟩ B.returns r μ' ho s.heap [] _ hP va_S.rf (by rw [hlv] at hl; exact hl)
theorem ao_xret (X : Cx E Z cc own nL D) (hz : zero Z) {v : Int32} (hr : rtOf Z = some .int) (d : decode cc pc = .ok (.ireturn, 1)) : AO E Z nL (QX E Z) pc lv [.int v] μ (some (some v, μ)) := by
  obtain ⟨l, p, e, R, s, m, args, below, meth, c, cs, ss⟩ := Z
  obtain ⟨hx, hb, hml, hown, hts, hK, hI, hR, hlk⟩ := X
  obtain ⟨rfl, rfl, -, -⟩ := hz
  intro r μ' h H locs ls hP hS hl
  cases h
  refine vx_ret (W.widen (k := 1) (n := 6) (Nat.zero_le _) (Nat.zero_le _) ?_)
  exact W.iret (v := v) hx hb hr (fun t ht hW => ⟨⟨v, μ, rfl, ⟨rfl, rfl⟩, by show va_P _ _ _ t.heap; rw [ht]; exact hP⟩, hS.F ht⟩) hS.2.2 d
theorem ao_xlret (X : Cx E Z cc own nL D) (hz : zero Z) {v : Int64} (hr : rtOf Z = some .long) (d : decode cc pc = .ok (.lreturn, 1)) : AO E Z nL (QXL E Z) pc lv [.long v] μ (some (some v, μ)) := by
  obtain ⟨l, p, e, R, s, m, args, below, meth, c, cs, ss⟩ := Z
  obtain ⟨hx, hb, hml, hown, hts, hK, hI, hR, hlk⟩ := X
  obtain ⟨rfl, rfl, -, -⟩ := hz
  intro r μ' h H locs ls hP hS hl
  cases h
  refine vx_ret (W.widen (k := 1) (n := 6) (Nat.zero_le _) (Nat.zero_le _) ?_)
  exact W.lret (v := v) hx hb hr (fun t ht hW => ⟨⟨v, μ, rfl, ⟨rfl, rfl⟩, by show va_P _ _ _ t.heap; rw [ht]; exact hP⟩, hS.F ht⟩) hS.2.2 d
theorem thr_walk {Qc : Array Value → State → Outcome → State → Prop} {p : Program} {e : Env} {R : Room} {s : State} {m : MethodId} {args : Array Value} {below : List Frame} {meth : Method} {c : Code} {H : Heap} {locs : List Loc} {ls : Array Slot} (hst : l.stackTraces = false) (hx : p.tables.exec = Jvm.exec) (hb : c.code = cc) (hml : c.maxLocals = nL) (hown : s.vm.findClass RX11 = some m.cls) (hts : ∀ w ∈ gw, w.before args s = true) (hK : KX E s) (hT : KT E s) (hlk : meth.locks = false) (htab : ∀ x ∈ c.exceptionTable.toList, False) (hD : 7 ≤ R.frames ∧ 280 ≤ R.locals ∧ 1 ≤ R.cells ∧ 6 ≤ R.slots)
    {is i : Nat} {tx : String} (hi : (RX11, is, tx, i) ∈ strTab) (d0 : decode cc pc = .ok (.new 150, 3)) (d3 : decode cc (pc + 3) = .ok (.dup, 1)) (d4 : decode cc (pc + 4) = .ok (.ldc is, 2)) (d6 : decode cc (pc + 6) = .ok (.invokespecial 154, 3)) (d9 : decode cc (pc + 9) = .ok (.athrow, 1)) (hc : (st.map fun v => v.category).sum ≤ 8)
    (hP : va_P (eD E) vwCl (cw E μ) H) (hS : va_S (Aw E s.heap.size) s.heap H locs) (hl : lv_has ls nL lv) {cnd : Prop} (hcn : cnd) :
    W p l e R s m args below meth c H locs 0 0 (vx_MQ below Qc (XQ E cnd μ s.heap.size) args s 1 6 (Aw E s.heap.size)) (F0 m pc ls st) := by
  intro T hT9 X
  have htr : e.platform.stackTraces = false := (show e.platform.stackTraces = l.stackTraces by rw [X.admits.platform]).trans hst
  have Y := vx_rebase X (R' := { frames := R.frames, locals := R.locals, cells := 1, slots := 6 }) (Nat.le_refl _) (Nat.le_refl _) (by have := hD.2.2.1; omega) (by have := hD.2.2.2; omega)
  obtain ⟨s', hA⟩ : ∃ z, z = (T.setVm s.vm).setFrames (.invoking m args :: below) := ⟨_, rfl⟩
  rw [← hA] at Y
  have hvm : s'.vm = s.vm := by rw [hA]; rfl
  have hhp : s'.heap = H := by rw [hA]; exact hT9
  have hW0 : s.WarmedH s'.vm := by rw [hvm]; exact State.WarmedH.refl s
  have hat : ∀ w ∈ nsL, w.before args s' = true := fun w hw => by
    rcases nsL_in w hw with g | g
    · exact vx_ot_at hW0 hvm.symm (nsL_ot w hw) (hts w g)
    · obtain ⟨y, hy, rfl⟩ := List.mem_map.mp g
      exact vx_ot_at (args := #[]) hW0 hvm.symm (nsL_ot _ hw) (hT.2.2.2 y hy)
  have hk' : (Cond.classLink RX11 150 NS).before args s' = true := vx_ot_at hW0 hvm.symm nsK_ot.1 (hts _ ns_link)
  have hini' : (Cond.initialized NS).before args s' = true := vx_ot_at hW0 hvm.symm nsK_ot.2 (hts _ ns_init)
  have hU' : vx_Zq Bundle.tN "UNASSIGNED_STACK" Bundle.steD (Aw E s.heap.size) s' s'.heap := by rw [hhp]; exact vx_Zq.moved hW0.alike (hT.1.kept hS.2.1)
  have hN' : vx_Zq Bundle.tN "SUPPRESSED_SENTINEL" Bundle.listD (Aw E s.heap.size) s' s'.heap := by rw [hhp]; exact vx_Zq.moved hW0.alike (hT.2.1.kept hS.2.1)
  have h : ∀ w ∈ nsA RX11 154, w.before args s' = true := vx_own hat (vx_isRefq hU'.1) (vx_isRefq hN'.1) hU'.2.word hN'.2.word
  have hown' : s'.vm.findClass RX11 = some m.cls := by rw [hvm]; exact hown
  have hins : (Cond.instantiable NS 6).before args s' = true := h _ (by unfold nsA; simp)
  obtain ⟨vm₁, cX, kX, hfX, hkX, -, -, X₁, st1⟩ := Y.newCold hx (own := RX11) (C := NS) (index := 150) (n := 6) hown' hk' hins hini'
    (g := F0 m pc ls st) rfl (by rw [hb]; exact d0) (Nat.le_refl _) (Nat.le_refl _)
  generalize hT1 : (T.setVm vm₁).pushCell { cls := cX, slots := kX.instanceTypes.map defaultValue, vm := .none } = T1 at X₁ st1
  have hcat : (Value.ref T.heap.size).category = 1 := rfl
  have hcellA : T1.heap[T.heap.size]? = some (freshCell cX kX) := by rw [← hT1]; exact State.heap_pushCell_size _ _
  have d3' : decode c.code (pc + 3) = .ok (.dup, 1) := by rw [hb]; exact d3
  have d4' : decode c.code (pc + 4) = .ok (.ldc is, 2) := by rw [hb]; exact d4
  have hstr' : vk_R RX11 is tx (eSk E i) s' := vk_R.warm hW0 (hK.2.2.2.1 _ hi)
  obtain ⟨U, hsteps, hrun, hend, hW, hsame, ce, hce, hcls, hnone⟩ := ns_ctor X₁ hx htr (own := RX11) (ic := 154) hown' h (fun x hx => nomatch hx) hfX hkX hcellA (by rw [hhp, hT9]; exact Nat.le_refl _) (msg := .ref (eSk E i)) rfl
    (g := { method := m, pc := pc + 6, locals := ls, stack := .ref (eSk E i) :: .ref T.heap.size :: .ref T.heap.size :: st, locked := none }) rfl (by rw [hml]; exact hl.1) rfl rfl (rest := st) rfl
    (by rw [hb]; exact d6) (by rw [hb]; exact d9) (fun x hx9 => (htab x hx9).elim) (show 5 < R.frames by have := hD.1; omega) (by
      show 2 * 0 + ((Value.ref T.heap.size :: st).map fun v => v.category).sum + 81 ≤ R.locals
      simp only [List.map_cons, List.sum_cons, hcat]
      have := hD.2.1
      omega) hlk
  obtain ⟨f1, f2⟩ := vx_frame hsame
  rw [hhp] at f1 f2
  have hWs : s.WarmedH U.vm := State.WarmedH.trans hW0 hW
  have hcl : s.vm.findClass NS = some ce.cls := by rw [hvm] at hcls; exact hcls
  have hall : s.sameButNew ({ U with vm := s.vm } : State) locs 1 6 := by
    subst hA
    obtain ⟨e1, e2⟩ := hsame
    rw [State.setFrames_setFrames] at e1
    have h2 : (T.setVm s.vm).sameButNew ({ U with vm := s.vm } : State) [] (0 + 1) (0 + 6) := ⟨e1, e2⟩
    have h3 := X.same.trans h2
    rw [List.append_nil] at h3
    exact h3.mono (by omega) (by omega)
  have hq : ∀ q : Nat, q < H.size → U.heap[q]? = H[q]? := fun q hq => f2 q hq (fun z hz => nomatch hz)
  have hxq : XQ E cnd μ s.heap.size NS s U := ⟨μ, ⟨hcn, rfl⟩, ⟨rfl, hP.kept (fun k q9 h9 => hq _ (hP k q9 h9).lt)⟩, Nat.le_trans hS.1 f1, fun q h1 h2 => (hq q (Nat.lt_of_lt_of_le h1 hS.1)).trans (hS.2.1 q h1 h2)⟩
  refine ⟨U, ?_, .threw T.heap.size, hrun, hend, Or.inr ⟨T.heap.size, rfl, NS, ce, locs, hxq, hce, hnone, hcl, hWs, hall, hS.2.2⟩⟩
  refine st1 _ ?_
  show Steps p.tables e below (T1.setTop { method := m, pc := pc + 3, locals := ls, stack := .ref T.heap.size :: st, locked := none }) _
  jvm_step X₁.here [X₁.here.top, hx, d3', Value.category]
  exact X₁.ldcString hx (own := RX11) (text := tx) (index := is) (a := eSk E i) hown' hstr'.1 hstr'.2
    (g := { method := m, pc := pc + 4, locals := ls, stack := .ref T.heap.size :: .ref T.heap.size :: st, locked := none }) rfl d4' _ hsteps
theorem thr_walkW {Qc : Array Value → State → Outcome → State → Prop} {p : Program} {e : Env} {R : Room} {s : State} {m : MethodId} {args : Array Value} {below : List Frame} {meth : Method} {c : Code} {H : Heap} {locs : List Loc} {ls : Array Slot} (hst : l.stackTraces = false) (hx : p.tables.exec = Jvm.exec) (hb : c.code = cc) (hml : c.maxLocals = nL) (hown : s.vm.findClass RX11 = some m.cls) (hts : ∀ w ∈ gw, w.before args s = true) (hK : KX E s) (hT : KT E s) (hlk : meth.locks = false) (htab : ∀ x ∈ c.exceptionTable.toList, False) (hD : 7 ≤ R.frames ∧ 280 ≤ R.locals ∧ 1 ≤ R.cells ∧ 6 ≤ R.slots)
    {is i : Nat} {tx : String} (hi : (RX11, is, tx, i) ∈ strTab) (d0 : decode cc pc = .ok (.new 150, 3)) (d3 : decode cc (pc + 3) = .ok (.dup, 1)) (d4 : decode cc (pc + 4) = .ok (.ldc_w is, 3)) (d6 : decode cc (pc + 7) = .ok (.invokespecial 154, 3)) (d9 : decode cc (pc + 10) = .ok (.athrow, 1)) (hc : (st.map fun v => v.category).sum ≤ 8)
    (hP : va_P (eD E) vwCl (cw E μ) H) (hS : va_S (Aw E s.heap.size) s.heap H locs) (hl : lv_has ls nL lv) {cnd : Prop} (hcn : cnd) :
    W p l e R s m args below meth c H locs 0 0 (vx_MQ below Qc (XQ E cnd μ s.heap.size) args s 1 6 (Aw E s.heap.size)) (F0 m pc ls st) := by
  intro T hT9 X
  have htr : e.platform.stackTraces = false := (show e.platform.stackTraces = l.stackTraces by rw [X.admits.platform]).trans hst
  have Y := vx_rebase X (R' := { frames := R.frames, locals := R.locals, cells := 1, slots := 6 }) (Nat.le_refl _) (Nat.le_refl _) (by have := hD.2.2.1; omega) (by have := hD.2.2.2; omega)
  obtain ⟨s', hA⟩ : ∃ z, z = (T.setVm s.vm).setFrames (.invoking m args :: below) := ⟨_, rfl⟩
  rw [← hA] at Y
  have hvm : s'.vm = s.vm := by rw [hA]; rfl
  have hhp : s'.heap = H := by rw [hA]; exact hT9
  have hW0 : s.WarmedH s'.vm := by rw [hvm]; exact State.WarmedH.refl s
  have hat : ∀ w ∈ nsL, w.before args s' = true := fun w hw => by
    rcases nsL_in w hw with g | g
    · exact vx_ot_at hW0 hvm.symm (nsL_ot w hw) (hts w g)
    · obtain ⟨y, hy, rfl⟩ := List.mem_map.mp g
      exact vx_ot_at (args := #[]) hW0 hvm.symm (nsL_ot _ hw) (hT.2.2.2 y hy)
  have hk' : (Cond.classLink RX11 150 NS).before args s' = true := vx_ot_at hW0 hvm.symm nsK_ot.1 (hts _ ns_link)
  have hini' : (Cond.initialized NS).before args s' = true := vx_ot_at hW0 hvm.symm nsK_ot.2 (hts _ ns_init)
  have hU' : vx_Zq Bundle.tN "UNASSIGNED_STACK" Bundle.steD (Aw E s.heap.size) s' s'.heap := by rw [hhp]; exact vx_Zq.moved hW0.alike (hT.1.kept hS.2.1)
  have hN' : vx_Zq Bundle.tN "SUPPRESSED_SENTINEL" Bundle.listD (Aw E s.heap.size) s' s'.heap := by rw [hhp]; exact vx_Zq.moved hW0.alike (hT.2.1.kept hS.2.1)
  have h : ∀ w ∈ nsA RX11 154, w.before args s' = true := vx_own hat (vx_isRefq hU'.1) (vx_isRefq hN'.1) hU'.2.word hN'.2.word
  have hown' : s'.vm.findClass RX11 = some m.cls := by rw [hvm]; exact hown
  have hins : (Cond.instantiable NS 6).before args s' = true := h _ (by unfold nsA; simp)
  obtain ⟨vm₁, cX, kX, hfX, hkX, -, -, X₁, st1⟩ := Y.newCold hx (own := RX11) (C := NS) (index := 150) (n := 6) hown' hk' hins hini'
    (g := F0 m pc ls st) rfl (by rw [hb]; exact d0) (Nat.le_refl _) (Nat.le_refl _)
  generalize hT1 : (T.setVm vm₁).pushCell { cls := cX, slots := kX.instanceTypes.map defaultValue, vm := .none } = T1 at X₁ st1
  have hcat : (Value.ref T.heap.size).category = 1 := rfl
  have hcellA : T1.heap[T.heap.size]? = some (freshCell cX kX) := by rw [← hT1]; exact State.heap_pushCell_size _ _
  have d3' : decode c.code (pc + 3) = .ok (.dup, 1) := by rw [hb]; exact d3
  have d4' : decode c.code (pc + 4) = .ok (.ldc_w is, 3) := by rw [hb]; exact d4
  have hstr' : vk_R RX11 is tx (eSk E i) s' := vk_R.warm hW0 (hK.2.2.2.1 _ hi)
  obtain ⟨U, hsteps, hrun, hend, hW, hsame, ce, hce, hcls, hnone⟩ := ns_ctor X₁ hx htr (own := RX11) (ic := 154) hown' h (fun x hx => nomatch hx) hfX hkX hcellA (by rw [hhp, hT9]; exact Nat.le_refl _) (msg := .ref (eSk E i)) rfl
    (g := { method := m, pc := pc + 7, locals := ls, stack := .ref (eSk E i) :: .ref T.heap.size :: .ref T.heap.size :: st, locked := none }) rfl (by rw [hml]; exact hl.1) rfl rfl (rest := st) rfl
    (by rw [hb]; exact d6) (by rw [hb]; exact d9) (fun x hx9 => (htab x hx9).elim) (show 5 < R.frames by have := hD.1; omega) (by
      show 2 * 0 + ((Value.ref T.heap.size :: st).map fun v => v.category).sum + 81 ≤ R.locals
      simp only [List.map_cons, List.sum_cons, hcat]
      have := hD.2.1
      omega) hlk
  obtain ⟨f1, f2⟩ := vx_frame hsame
  rw [hhp] at f1 f2
  have hWs : s.WarmedH U.vm := State.WarmedH.trans hW0 hW
  have hcl : s.vm.findClass NS = some ce.cls := by rw [hvm] at hcls; exact hcls
  have hall : s.sameButNew ({ U with vm := s.vm } : State) locs 1 6 := by
    subst hA
    obtain ⟨e1, e2⟩ := hsame
    rw [State.setFrames_setFrames] at e1
    have h2 : (T.setVm s.vm).sameButNew ({ U with vm := s.vm } : State) [] (0 + 1) (0 + 6) := ⟨e1, e2⟩
    have h3 := X.same.trans h2
    rw [List.append_nil] at h3
    exact h3.mono (by omega) (by omega)
  have hq : ∀ q : Nat, q < H.size → U.heap[q]? = H[q]? := fun q hq => f2 q hq (fun z hz => nomatch hz)
  have hxq : XQ E cnd μ s.heap.size NS s U := ⟨μ, ⟨hcn, rfl⟩, ⟨rfl, hP.kept (fun k q9 h9 => hq _ (hP k q9 h9).lt)⟩, Nat.le_trans hS.1 f1, fun q h1 h2 => (hq q (Nat.lt_of_lt_of_le h1 hS.1)).trans (hS.2.1 q h1 h2)⟩
  refine ⟨U, ?_, .threw T.heap.size, hrun, hend, Or.inr ⟨T.heap.size, rfl, NS, ce, locs, hxq, hce, hnone, hcl, hWs, hall, hS.2.2⟩⟩
  refine st1 _ ?_
  show Steps p.tables e below (T1.setTop { method := m, pc := pc + 3, locals := ls, stack := .ref T.heap.size :: st, locked := none }) _
  jvm_step X₁.here [X₁.here.top, hx, d3', Value.category]
  exact X₁.ldcStringW hx (own := RX11) (text := tx) (index := is) (a := eSk E i) hown' hstr'.1 hstr'.2
    (g := { method := m, pc := pc + 4, locals := ls, stack := .ref T.heap.size :: .ref T.heap.size :: st, locked := none }) rfl d4' _ hsteps
theorem ao_xthrow (X : Cx E Z cc RX11 nL D) (hz : zero Z) (htab : noTab Z) (hT : zKT E Z) (hl0 : lZ l Z) (hst : l.stackTraces = false) (hD : 7 ≤ D) {is i : Nat} {tx : String} (hi : (RX11, is, tx, i) ∈ strTab) (d0 : decode cc pc = .ok (.new 150, 3)) (d3 : decode cc (pc + 3) = .ok (.dup, 1)) (d4 : decode cc (pc + 4) = .ok (.ldc is, 2)) (d6 : decode cc (pc + 6) = .ok (.invokespecial 154, 3)) (d9 : decode cc (pc + 9) = .ok (.athrow, 1)) (hc : (st.map fun v => v.category).sum ≤ 8) : AO E Z nL (QX E Z) pc lv st μ (some (none, μ)) := by
  obtain ⟨l0, p, e, R, s, m, args, below, meth, c, cs, ss⟩ := Z
  cases hl0
  obtain ⟨hx, hb, hml, hown, hts, hK, hI, hR, hlk⟩ := X
  obtain ⟨rfl, rfl, h1, h2⟩ := hz
  intro r μ' h H locs ls hP hS hl
  cases h
  exact thr_walk hst hx hb hml hown hts hK hT hlk htab ⟨by omega, by omega, h1, h2⟩ hi d0 d3 d4 d6 d9 hc hP hS hl rfl
theorem ao_xlthrow (X : Cx E Z cc RX11 nL D) (hz : zero Z) (htab : noTab Z) (hT : zKT E Z) (hl0 : lZ l Z) (hst : l.stackTraces = false) (hD : 7 ≤ D) {is i : Nat} {tx : String} (hi : (RX11, is, tx, i) ∈ strTab) (d0 : decode cc pc = .ok (.new 150, 3)) (d3 : decode cc (pc + 3) = .ok (.dup, 1)) (d4 : decode cc (pc + 4) = .ok (.ldc_w is, 3)) (d6 : decode cc (pc + 7) = .ok (.invokespecial 154, 3)) (d9 : decode cc (pc + 10) = .ok (.athrow, 1)) (hc : (st.map fun v => v.category).sum ≤ 8) : AO E Z nL (QXL E Z) pc lv st μ (some (none, μ)) := by
  obtain ⟨l0, p, e, R, s, m, args, below, meth, c, cs, ss⟩ := Z
  cases hl0
  obtain ⟨hx, hb, hml, hown, hts, hK, hI, hR, hlk⟩ := X
  obtain ⟨rfl, rfl, h1, h2⟩ := hz
  intro r μ' h H locs ls hP hS hl
  cases h
  exact thr_walkW hst hx hb hml hown hts hK hT hlk htab ⟨by omega, by omega, h1, h2⟩ hi d0 d3 d4 d6 d9 hc hP hS hl rfl
end Thr
