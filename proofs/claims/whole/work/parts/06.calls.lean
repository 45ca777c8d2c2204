def bnd {α β : Type} (x : Option (α × Mem)) (f : α → Mem → Option β) : Option β := x.bind fun q => f q.1 q.2
def lt {α β : Type} (a : α) (f : α → β) : β := f a
def QI (E : En) (Z : Zt) : Int32 → Mem → State → Prop := match Z with
  | (_, _, _, _, s, _, args, below, _, _, cs, ss) => fun r μ' => MQ below (va_Qi (fun r2 u => r2 = r ∧ u = μ') (fun u t => va_P (eD E) vwCl (cw E u) t.heap) (Aw E s.heap.size)) args s cs ss (Aw E s.heap.size)
def QL (E : En) (Z : Zt) : Int64 → Mem → State → Prop := match Z with
  | (_, _, _, _, s, _, args, below, _, _, cs, ss) => fun r μ' => MQ below (va_Ql (fun r2 u => r2 = r ∧ u = μ') (fun u t => va_P (eD E) vwCl (cw E u) t.heap) (Aw E s.heap.size)) args s cs ss (Aw E s.heap.size)
def QV (E : En) (Z : Zt) : Unit → Mem → State → Prop := match Z with
  | (_, _, _, _, s, _, args, below, _, _, cs, ss) => fun _ μ' => MQ below (va_Qv (fun u => u = μ') (fun u t => va_P (eD E) vwCl (cw E u) t.heap) (Aw E s.heap.size)) args s cs ss (Aw E s.heap.size)
def rtOf (Z : Zt) : Option FieldType := match Z with
  | (_, _, _, _, _, _, _, _, meth, _, _, _) => meth.sig.returnType
def rmD (d : Nat) : Room := { frames := d, cells := 0, slots := 0, locals := 40 * d }
def PcX (E : En) (avs : List Value) (μ : Mem) (sz : Nat) : Array Value → State → Prop := va_Pc avs (fun U => U.heap.size = sz ∧ va_P (eD E) vwCl (cw E μ) U.heap ∧ KX E U)
theorem PcX_blind {E : En} {avs : List Value} {μ : Mem} {sz : Nat} : FrameBlind (PcX E avs μ sz) := fun a U g mk h => by
  obtain ⟨h0, h1, h2, h3⟩ := h
  exact ⟨h0, h1, h2, h3.blind g mk a⟩
def MtI (E : En) (l : Launch) (y : MethodName) (cc : ByteArray) (maxL : Nat) (ret : Option FieldType) (d : Nat) (avs : List Value) (μ : Mem) (o : Option (Int32 × Mem)) : Prop :=
  ∀ r μ', o = some (r, μ') → ∀ sz, Met l y (.code y cc maxL ret :: gw) (rmD d) (PcX E avs μ sz) (va_Qi (fun r2 u => r2 = r ∧ u = μ') (fun u t => va_P (eD E) vwCl (cw E u) t.heap) (Aw E sz)) 0 0 (Aw E sz)
def MtL (E : En) (l : Launch) (y : MethodName) (cc : ByteArray) (maxL : Nat) (ret : Option FieldType) (d : Nat) (avs : List Value) (μ : Mem) (o : Option (Int64 × Mem)) : Prop :=
  ∀ r μ', o = some (r, μ') → ∀ sz, Met l y (.code y cc maxL ret :: gw) (rmD d) (PcX E avs μ sz) (va_Ql (fun r2 u => r2 = r ∧ u = μ') (fun u t => va_P (eD E) vwCl (cw E u) t.heap) (Aw E sz)) 0 0 (Aw E sz)
def MtV (E : En) (l : Launch) (y : MethodName) (cc : ByteArray) (maxL : Nat) (ret : Option FieldType) (d : Nat) (avs : List Value) (μ : Mem) (o : Option (Unit × Mem)) : Prop :=
  ∀ r μ', o = some (r, μ') → ∀ sz, Met l y (.code y cc maxL ret :: gw) (rmD d) (PcX E avs μ sz) (va_Qv (fun u => u = μ') (fun u t => va_P (eD E) vwCl (cw E u) t.heap) (Aw E sz)) 0 0 (Aw E sz)
def lZ (l : Launch) (Z : Zt) : Prop := Z.1 = l
section Entry
variable {E : En} {l : Launch} {y : MethodName} {own : String} {cc : ByteArray} {maxL : Nat} {ret : Option FieldType} {d : Nat} {avs : List Value} {μ : Mem}
theorem mt_entry {ρ : Type} {Qf : Zt → ρ → Mem → State → Prop} {Qc : Nat → ρ → Mem → Array Value → State → Outcome → State → Prop} {o : Option (ρ × Mem)} (lv : List (Nat × Value)) (hI : Inj E) (hown : y.cls = own) (hy : plainName own = true) (hd : 1 ≤ d) (hlen : (lg_sl avs).length ≤ maxL) (hlv : lv_args 0 avs = lv)
    (hQ : ∀ p e s m below meth c (r : ρ) (μ' : Mem), Qf (l, p, e, rmD d, s, m, avs.toArray, below, meth, c, 0, 0) r μ' = MQ below (Qc s.heap.size r μ') avs.toArray s 0 0 (Aw E s.heap.size))
    (body : ∀ Z : Zt, lZ l Z → Cx E Z cc own maxL d → rtOf Z = ret → AO E Z maxL (Qf Z) 0 lv [] μ o) :
    ∀ r μ', o = some (r, μ') → ∀ sz, Met l y (.code y cc maxL ret :: gw) (rmD d) (PcX E avs μ sz) (Qc sz r μ') 0 0 (Aw E sz) := by
  intro r μ' ho sz
  subst hown
  refine Met.ofW (cc := cc) (maxL := maxL) (ret := ret) hy rfl ?_
  intro p e s m args below meth c s₁ B hml hv
  obtain ⟨rfl, hsz, hP, hK⟩ := hv
  subst hsz
  have hts := atoms_spec (ws := .code y cc maxL ret :: gw) B.pre
  have hl := lv_entry avs (n := maxL) hlen
  rw [lg_entry_eq]
  have X : Cx E (l, p, e, rmD d, s, m, avs.toArray, below, meth, c, 0, 0) cc y.cls maxL d := ⟨B.exec, B.bytes, hml, findClass_of_methodNamed B.named, fun w hw => hts w (List.mem_cons_of_mem _ hw), hK, hI, ⟨hd, Nat.le_refl _, Nat.le_refl _, Nat.le_refl _, Nat.le_refl _⟩, B.notSynchronized⟩
  have K := body (l, p, e, rmD d, s, m, avs.toArray, below, meth, c, 0, 0) rfl X B.returns r μ' ho s.heap [] _ hP va_S.rf (by rw [hlv] at hl; exact hl)
  rw [hQ] at K
  exact K
theorem mtI_of {o : Option (Int32 × Mem)} (lv : List (Nat × Value)) (hI : Inj E) (hown : y.cls = own) (hy : plainName own = true) (hd : 1 ≤ d) (hlen : (lg_sl avs).length ≤ maxL) (hlv : lv_args 0 avs = lv)
    (body : ∀ Z : Zt, lZ l Z → Cx E Z cc own maxL d → rtOf Z = ret → AO E Z maxL (QI E Z) 0 lv [] μ o) : MtI E l y cc maxL ret d avs μ o :=
  mt_entry (Qf := fun Z => QI E Z) (Qc := fun sz r μ' => va_Qi (fun r2 u => r2 = r ∧ u = μ') (fun u t => va_P (eD E) vwCl (cw E u) t.heap) (Aw E sz)) lv hI hown hy hd hlen hlv (fun _ _ _ _ _ _ _ _ _ => rfl) body
theorem mtL_of {o : Option (Int64 × Mem)} (lv : List (Nat × Value)) (hI : Inj E) (hown : y.cls = own) (hy : plainName own = true) (hd : 1 ≤ d) (hlen : (lg_sl avs).length ≤ maxL) (hlv : lv_args 0 avs = lv)
    (body : ∀ Z : Zt, lZ l Z → Cx E Z cc own maxL d → rtOf Z = ret → AO E Z maxL (QL E Z) 0 lv [] μ o) : MtL E l y cc maxL ret d avs μ o :=
  mt_entry (Qf := fun Z => QL E Z) (Qc := fun sz r μ' => va_Ql (fun r2 u => r2 = r ∧ u = μ') (fun u t => va_P (eD E) vwCl (cw E u) t.heap) (Aw E sz)) lv hI hown hy hd hlen hlv (fun _ _ _ _ _ _ _ _ _ => rfl) body
theorem mtV_of {o : Option (Unit × Mem)} (lv : List (Nat × Value)) (hI : Inj E) (hown : y.cls = own) (hy : plainName own = true) (hd : 1 ≤ d) (hlen : (lg_sl avs).length ≤ maxL) (hlv : lv_args 0 avs = lv)
    (body : ∀ Z : Zt, lZ l Z → Cx E Z cc own maxL d → rtOf Z = ret → AO E Z maxL (QV E Z) 0 lv [] μ o) : MtV E l y cc maxL ret d avs μ o :=
  mt_entry (Qf := fun Z => QV E Z) (Qc := fun sz _ μ' => va_Qv (fun u => u = μ') (fun u t => va_P (eD E) vwCl (cw E u) t.heap) (Aw E sz)) lv hI hown hy hd hlen hlv (fun _ _ _ _ _ _ _ _ _ => rfl) body
end Entry
section Rules4
variable {E : En} {l : Launch} {Z : Zt} {cc : ByteArray} {own : String} {nL D : Nat} {ρ : Type} {Qf : ρ → Mem → State → Prop} {pc : Nat} {lv : List (Nat × Value)} {st : List Value} {μ : Mem} {o : Option (ρ × Mem)}
theorem ao_lt {M : Mem} {f : Mem → Option (ρ × Mem)} (kk : ∀ m, AO E Z nL Qf pc lv st m (f m)) : AO E Z nL Qf pc lv st M (lt M f) := kk M
theorem ao_ltI {x : Int32} {f : Int32 → Option (ρ × Mem)} (kk : ∀ y, AO E Z nL Qf pc lv (.int y :: st) μ (f y)) : AO E Z nL Qf pc lv (.int x :: st) μ (lt x f) := kk x
theorem ao_ltL {x : Int64} {f : Int64 → Option (ρ × Mem)} (kk : ∀ y, AO E Z nL Qf pc lv (.long y :: st) μ (f y)) : AO E Z nL Qf pc lv (.long x :: st) μ (lt x f) := kk x
theorem ao_iret (X : Cx E Z cc own nL D) {v : Int32} (hr : rtOf Z = some .int) (d : decode cc pc = .ok (.ireturn, 1)) : AO E Z nL (QI E Z) pc lv [.int v] μ (some (v, μ)) := by
  obtain ⟨l, p, e, R, s, m, args, below, meth, c, cs, ss⟩ := Z
  obtain ⟨hx, hb, hml, hown, hts, hK, hI, hR, hlk⟩ := X
  intro r μ' h H locs ls hP hS hl
  cases h
  exact W.iret (v := v) hx hb hr (fun t ht hW => ⟨⟨v, μ, rfl, ⟨rfl, rfl⟩, by show va_P _ _ _ t.heap; rw [ht]; exact hP⟩, hS.F ht⟩) hS.2.2 d
theorem ao_zret (X : Cx E Z cc own nL D) {v : Int32} {ty : FieldType} (hr : rtOf Z = some ty) (hn : narrow ty (.int v) = .int v) (d : decode cc pc = .ok (.ireturn, 1)) : AO E Z nL (QI E Z) pc lv [.int v] μ (some (v, μ)) := by
  obtain ⟨l, p, e, R, s, m, args, below, meth, c, cs, ss⟩ := Z
  obtain ⟨hx, hb, hml, hown, hts, hK, hI, hR, hlk⟩ := X
  intro r μ' h H locs ls hP hS hl
  cases h
  exact W.zret (v := v) hx hb hr hn (fun t ht hW => ⟨⟨v, μ, rfl, ⟨rfl, rfl⟩, by show va_P _ _ _ t.heap; rw [ht]; exact hP⟩, hS.F ht⟩) hS.2.2 d
def isZ (v : Int32) : Bool := vp_nar .boolean v == v
theorem ao_zretG (X : Cx E Z cc own nL D) {v : Int32} (hr : rtOf Z = some .boolean) (d : decode cc pc = .ok (.ireturn, 1)) : AO E Z nL (QI E Z) pc lv [.int v] μ (gd (isZ v) (some (v, μ))) := by
  by_cases hz : isZ v = true
  · rw [gd_t hz]
    have h1 : vp_nar .boolean v = v := by simpa [isZ] using hz
    refine ao_zret X hr ?_ d
    have h2 : narrow .boolean (.int v) = .int (vp_nar .boolean v) := by simp [vp_nar, narrow]
    rw [h2, h1]
  · have : gd (isZ v) (some (v, μ)) = none := if_neg hz
    rw [this]
    exact ao_none
theorem ao_lret (X : Cx E Z cc own nL D) {v : Int64} (hr : rtOf Z = some .long) (d : decode cc pc = .ok (.lreturn, 1)) : AO E Z nL (QL E Z) pc lv [.long v] μ (some (v, μ)) := by
  obtain ⟨l, p, e, R, s, m, args, below, meth, c, cs, ss⟩ := Z
  obtain ⟨hx, hb, hml, hown, hts, hK, hI, hR, hlk⟩ := X
  intro r μ' h H locs ls hP hS hl
  cases h
  exact W.lret (v := v) hx hb hr (fun t ht hW => ⟨⟨v, μ, rfl, ⟨rfl, rfl⟩, by show va_P _ _ _ t.heap; rw [ht]; exact hP⟩, hS.F ht⟩) hS.2.2 d
theorem ao_vret (X : Cx E Z cc own nL D) (hr : rtOf Z = none) (d : decode cc pc = .ok (.return_, 1)) : AO E Z nL (QV E Z) pc lv [] μ (some ((), μ)) := by
  obtain ⟨l, p, e, R, s, m, args, below, meth, c, cs, ss⟩ := Z
  obtain ⟨hx, hb, hml, hown, hts, hK, hI, hR, hlk⟩ := X
  intro r μ' h H locs ls hP hS hl
  cases h
  exact W.vret hx hb hr (fun t ht hW => ⟨⟨μ, rfl, rfl, by show va_P _ _ _ t.heap; rw [ht]; exact hP⟩, hS.F ht⟩) hS.2.2 d
/-- what the tables say of a method that is called virtually on a class -/
def YV (C : String) (y : MethodName) (c2 : ByteArray) (mL : Nat) (ret : Option FieldType) (n : Nat) : Prop := Cond.instanceMethod y ∈ gw ∧ Cond.selects C y y ∈ gw ∧ Cond.initialized C ∈ gw ∧ Cond.code y c2 mL ret ∈ gw ∧ (y.cls = C ∧ y.cls ≠ "java/lang/invoke/MethodHandle" ∧ y.cls ≠ "java/lang/invoke/VarHandle" ∧ (parseMethodDescriptor y.desc).map (fun d => d.parameters.length) = some n) ∧ mL ≤ 21
def YS (y : MethodName) (c2 : ByteArray) (mL : Nat) (ret : Option FieldType) (n : Nat) : Prop := Cond.static y ∈ gw ∧ Cond.initialized y.cls ∈ gw ∧ Cond.code y c2 mL ret ∈ gw ∧ (y.cls ≠ "java/lang/invoke/MethodHandle" ∧ y.cls ≠ "java/lang/invoke/VarHandle" ∧ (parseMethodDescriptor y.desc).map (fun d => d.parameters.length) = some n) ∧ mL ≤ 21
/-- the receiver: a cell of that class -/
def ShO (k : Nat) (C : String) : Prop := k < NC ∧ ∃ ci sl q, SH k = .inr (.inr (ci, sl)) ∧ vwCl[ci]? = some q ∧ q.1 = C
theorem gw_V {C : String} {y : MethodName} {c2 : ByteArray} {mL idx : Nat} {ret : Option FieldType} {n : Nat} (hv : YV C y c2 mL ret n) (hk : Cond.methodLink own idx y ∈ gw) : GoodIn gw (wsV own idx C y (.code y c2 mL ret :: gw)) := by
  intro w hw
  have : w ∈ gw := by
    rcases List.mem_append.mp hw with h | h
    · simp only [List.mem_cons, List.not_mem_nil, or_false] at h
      rcases h with rfl | rfl | rfl | rfl
      · exact hk
      · exact hv.1
      · exact hv.2.1
      · exact hv.2.2.1
    · exact (gw_in hv.2.2.2.1 w h).1
  exact ⟨this, good_of_word (List.mem_filter.mp this).2⟩
theorem gw_S {y : MethodName} {c2 : ByteArray} {mL idx : Nat} {ret : Option FieldType} {n : Nat} (hv : YS y c2 mL ret n) (hk : Cond.methodLink own idx y ∈ gw) : GoodIn gw (va_wsS own idx y (.code y c2 mL ret :: gw)) := by
  intro w hw
  have : w ∈ gw := by
    rcases List.mem_append.mp hw with h | h
    · simp only [List.mem_cons, List.not_mem_nil, or_false] at h
      rcases h with rfl | rfl | rfl
      · exact hk
      · exact hv.1
      · exact hv.2.1
    · exact (gw_in hv.2.2.1 w h).1
  exact ⟨this, good_of_word (List.mem_filter.mp this).2⟩
theorem sho_recv {s : State} {H : Heap} {k : Nat} {C : String} (hK : KX E s) (hP : va_P (eD E) vwCl (cw E μ) H) (h : ShO k C) : ∃ cell : Cell, H[eAd E k]? = some cell ∧ cell.vm.isStatics = false ∧ s.vm.findClass C = some cell.cls := by
  obtain ⟨hk, ci, sl, q, h1, h2, rfl⟩ := h
  exact va_recv hK.1 hP h2 (q0 := k) (fs := fvs E (μ.1 k) 0 sl) (by rw [cw_at hk]; simp [cE, cS, h1])
theorem bnd_some {α β : Type} {x : Option (α × Mem)} {f : α → Mem → Option β} {b : β} (h : bnd x f = some b) : ∃ a μ1, x = some (a, μ1) ∧ f a μ1 = some b := by
  cases x with
  | none => cases h
  | some a => exact ⟨a.1, a.2, rfl, h⟩
theorem Aw_in {H : Heap} {sz q : Nat} (h : q < H.size) (hq : Aw E H.size q) : Aw E sz q := hq.elim Or.inl (fun z => absurd h (Nat.not_lt.mpr z))
theorem ao_callVI (X : Cx E Z cc own nL D) (hl0 : lZ l Z) {idx kO dN mL n : Nat} {y : MethodName} {c2 : ByteArray} {ret : Option FieldType} {As stk : List Value} {oN : Option (Int32 × Mem)} {f : Int32 → Mem → Option (ρ × Mem)} (d : decode cc pc = .ok (.invokevirtual idx, 3)) {C : String} (hv : YV C y c2 mL ret n) (hr : ShO kO C) (hk : Cond.methodLink own idx y ∈ gw) (hM : MtI E l y c2 mL ret dN (.ref (eAd E kO) :: As) μ oN) (hdp : dN + 1 ≤ D) (hn : As.length = n) (hs : stk = As.reverse ++ .ref (eAd E kO) :: st) (hc : (st.map fun v => v.category).sum ≤ 8) (kk : ∀ r μ1, AO E Z nL Qf (pc + 3) lv (.int r :: st) μ1 (f r μ1)) : AO E Z nL Qf pc lv stk μ (bnd oN f) := by
  obtain ⟨l0, p, e, R, s, m, args, below, meth, c, cs, ss⟩ := Z
  cases hl0
  obtain ⟨hx, hb, hml, hown, hts, hK, hI, hR, hlk⟩ := X
  intro r μ' h H locs ls hP hS hl
  obtain ⟨r1, μ1, h1, h2⟩ := bnd_some h
  have hM := hM r1 μ1 h1 H.size
  have hRm : (rmD dN).frames + 1 ≤ R.frames ∧ 8 + (mL + 11) + (rmD dN).locals ≤ R.locals := by
    have := hv.2.2.2.2.2
    simp only [rmD]
    omega
  have cwq := cwV (R := R) (rm := rmD dN) (mc := 0) (ms := 0) n hts (gw_V hv hk) rfl rfl rfl hv.2.2.2.2.1 hRm
  refine va_calli (va_runV (As := As) (rest := st) ⟨hx, hb, hml, hown, hts⟩ hM cwq ⟨PcX_blind, sho_recv hK hP hr, fun U hU hW => ⟨rfl, by rw [hU], by rw [hU]; exact hP, hK.go hS hU hW⟩⟩ rfl hn hl.1 hs (lv_room hc) d ⟨hR.2.2.2.1, hR.2.2.2.2⟩) hS (fun q hq h9 => Aw_in hq h9) (fun q h9 => Aw_mono hS.1 h9) (fun r2 u t H1 locs1 ht hvm hw hB hz hk1 hS1 => ?_)
  obtain ⟨rfl, rfl⟩ := hw
  rw [ht] at hB
  exact kk _ _ r μ' h2 H1 locs1 ls hB hS1 hl
theorem ao_callSI (X : Cx E Z cc own nL D) (hl0 : lZ l Z) {idx dN mL n : Nat} {y : MethodName} {c2 : ByteArray} {ret : Option FieldType} {As stk : List Value} {oN : Option (Int32 × Mem)} {f : Int32 → Mem → Option (ρ × Mem)} (d : decode cc pc = .ok (.invokestatic idx, 3)) (hv : YS y c2 mL ret n) (hk : Cond.methodLink own idx y ∈ gw) (hM : MtI E l y c2 mL ret dN As μ oN) (hdp : dN + 1 ≤ D) (hn : As.length = n) (hs : stk = As.reverse ++ st) (hc : (st.map fun v => v.category).sum ≤ 8) (kk : ∀ r μ1, AO E Z nL Qf (pc + 3) lv (.int r :: st) μ1 (f r μ1)) : AO E Z nL Qf pc lv stk μ (bnd oN f) := by
  obtain ⟨l0, p, e, R, s, m, args, below, meth, c, cs, ss⟩ := Z
  cases hl0
  obtain ⟨hx, hb, hml, hown, hts, hK, hI, hR, hlk⟩ := X
  intro r μ' h H locs ls hP hS hl
  obtain ⟨r1, μ1, h1, h2⟩ := bnd_some h
  have hM := hM r1 μ1 h1 H.size
  have hRm : (rmD dN).frames + 1 ≤ R.frames ∧ 8 + (mL + 11) + (rmD dN).locals ≤ R.locals := by
    have := hv.2.2.2.2
    simp only [rmD]
    omega
  have cwq := va_cwS (R := R) (rm := rmD dN) (mc := 0) (ms := 0) n hts (gw_S hv hk) rfl rfl rfl hv.2.2.2.1 hRm
  refine va_calli (va_runS (As := As) (rest := st) ⟨hx, hb, hml, hown, hts⟩ hM cwq ⟨PcX_blind, fun U hU hW => ⟨rfl, by rw [hU], by rw [hU]; exact hP, hK.go hS hU hW⟩⟩ rfl hn hl.1 hs (lv_room hc) d ⟨hR.2.2.2.1, hR.2.2.2.2⟩) hS (fun q hq h9 => Aw_in hq h9) (fun q h9 => Aw_mono hS.1 h9) (fun r2 u t H1 locs1 ht hvm hw hB hz hk1 hS1 => ?_)
  obtain ⟨rfl, rfl⟩ := hw
  rw [ht] at hB
  exact kk _ _ r μ' h2 H1 locs1 ls hB hS1 hl
theorem ao_callVL (X : Cx E Z cc own nL D) (hl0 : lZ l Z) {idx kO dN mL n : Nat} {y : MethodName} {c2 : ByteArray} {ret : Option FieldType} {As stk : List Value} {oN : Option (Int64 × Mem)} {f : Int64 → Mem → Option (ρ × Mem)} (d : decode cc pc = .ok (.invokevirtual idx, 3)) {C : String} (hv : YV C y c2 mL ret n) (hr : ShO kO C) (hk : Cond.methodLink own idx y ∈ gw) (hM : MtL E l y c2 mL ret dN (.ref (eAd E kO) :: As) μ oN) (hdp : dN + 1 ≤ D) (hn : As.length = n) (hs : stk = As.reverse ++ .ref (eAd E kO) :: st) (hc : (st.map fun v => v.category).sum ≤ 8) (kk : ∀ r μ1, AO E Z nL Qf (pc + 3) lv (.long r :: st) μ1 (f r μ1)) : AO E Z nL Qf pc lv stk μ (bnd oN f) := by
  obtain ⟨l0, p, e, R, s, m, args, below, meth, c, cs, ss⟩ := Z
  cases hl0
  obtain ⟨hx, hb, hml, hown, hts, hK, hI, hR, hlk⟩ := X
  intro r μ' h H locs ls hP hS hl
  obtain ⟨r1, μ1, h1, h2⟩ := bnd_some h
  have hM := hM r1 μ1 h1 H.size
  have hRm : (rmD dN).frames + 1 ≤ R.frames ∧ 8 + (mL + 11) + (rmD dN).locals ≤ R.locals := by
    have := hv.2.2.2.2.2
    simp only [rmD]
    omega
  have cwq := cwV (R := R) (rm := rmD dN) (mc := 0) (ms := 0) n hts (gw_V hv hk) rfl rfl rfl hv.2.2.2.2.1 hRm
  refine va_calll (va_runV (As := As) (rest := st) ⟨hx, hb, hml, hown, hts⟩ hM cwq ⟨PcX_blind, sho_recv hK hP hr, fun U hU hW => ⟨rfl, by rw [hU], by rw [hU]; exact hP, hK.go hS hU hW⟩⟩ rfl hn hl.1 hs (lv_room hc) d ⟨hR.2.2.2.1, hR.2.2.2.2⟩) hS (fun q hq h9 => Aw_in hq h9) (fun q h9 => Aw_mono hS.1 h9) (fun r2 u t H1 locs1 ht hvm hw hB hz hk1 hS1 => ?_)
  obtain ⟨rfl, rfl⟩ := hw
  rw [ht] at hB
  exact kk _ _ r μ' h2 H1 locs1 ls hB hS1 hl
theorem ao_callSL (X : Cx E Z cc own nL D) (hl0 : lZ l Z) {idx dN mL n : Nat} {y : MethodName} {c2 : ByteArray} {ret : Option FieldType} {As stk : List Value} {oN : Option (Int64 × Mem)} {f : Int64 → Mem → Option (ρ × Mem)} (d : decode cc pc = .ok (.invokestatic idx, 3)) (hv : YS y c2 mL ret n) (hk : Cond.methodLink own idx y ∈ gw) (hM : MtL E l y c2 mL ret dN As μ oN) (hdp : dN + 1 ≤ D) (hn : As.length = n) (hs : stk = As.reverse ++ st) (hc : (st.map fun v => v.category).sum ≤ 8) (kk : ∀ r μ1, AO E Z nL Qf (pc + 3) lv (.long r :: st) μ1 (f r μ1)) : AO E Z nL Qf pc lv stk μ (bnd oN f) := by
  obtain ⟨l0, p, e, R, s, m, args, below, meth, c, cs, ss⟩ := Z
  cases hl0
  obtain ⟨hx, hb, hml, hown, hts, hK, hI, hR, hlk⟩ := X
  intro r μ' h H locs ls hP hS hl
  obtain ⟨r1, μ1, h1, h2⟩ := bnd_some h
  have hM := hM r1 μ1 h1 H.size
  have hRm : (rmD dN).frames + 1 ≤ R.frames ∧ 8 + (mL + 11) + (rmD dN).locals ≤ R.locals := by
    have := hv.2.2.2.2
    simp only [rmD]
    omega
  have cwq := va_cwS (R := R) (rm := rmD dN) (mc := 0) (ms := 0) n hts (gw_S hv hk) rfl rfl rfl hv.2.2.2.1 hRm
  refine va_calll (va_runS (As := As) (rest := st) ⟨hx, hb, hml, hown, hts⟩ hM cwq ⟨PcX_blind, fun U hU hW => ⟨rfl, by rw [hU], by rw [hU]; exact hP, hK.go hS hU hW⟩⟩ rfl hn hl.1 hs (lv_room hc) d ⟨hR.2.2.2.1, hR.2.2.2.2⟩) hS (fun q hq h9 => Aw_in hq h9) (fun q h9 => Aw_mono hS.1 h9) (fun r2 u t H1 locs1 ht hvm hw hB hz hk1 hS1 => ?_)
  obtain ⟨rfl, rfl⟩ := hw
  rw [ht] at hB
  exact kk _ _ r μ' h2 H1 locs1 ls hB hS1 hl
theorem ao_callVV (X : Cx E Z cc own nL D) (hl0 : lZ l Z) {idx kO dN mL n : Nat} {y : MethodName} {c2 : ByteArray} {ret : Option FieldType} {As stk : List Value} {oN : Option (Unit × Mem)} {f : Unit → Mem → Option (ρ × Mem)} (d : decode cc pc = .ok (.invokevirtual idx, 3)) {C : String} (hv : YV C y c2 mL ret n) (hr : ShO kO C) (hk : Cond.methodLink own idx y ∈ gw) (hM : MtV E l y c2 mL ret dN (.ref (eAd E kO) :: As) μ oN) (hdp : dN + 1 ≤ D) (hn : As.length = n) (hs : stk = As.reverse ++ .ref (eAd E kO) :: st) (hc : (st.map fun v => v.category).sum ≤ 8) (kk : ∀ r μ1, AO E Z nL Qf (pc + 3) lv st μ1 (f r μ1)) : AO E Z nL Qf pc lv stk μ (bnd oN f) := by
  obtain ⟨l0, p, e, R, s, m, args, below, meth, c, cs, ss⟩ := Z
  cases hl0
  obtain ⟨hx, hb, hml, hown, hts, hK, hI, hR, hlk⟩ := X
  intro r μ' h H locs ls hP hS hl
  obtain ⟨r1, μ1, h1, h2⟩ := bnd_some h
  have hM := hM r1 μ1 h1 H.size
  have hRm : (rmD dN).frames + 1 ≤ R.frames ∧ 8 + (mL + 11) + (rmD dN).locals ≤ R.locals := by
    have := hv.2.2.2.2.2
    simp only [rmD]
    omega
  have cwq := cwV (R := R) (rm := rmD dN) (mc := 0) (ms := 0) n hts (gw_V hv hk) rfl rfl rfl hv.2.2.2.2.1 hRm
  refine va_callv (va_runV (As := As) (rest := st) ⟨hx, hb, hml, hown, hts⟩ hM cwq ⟨PcX_blind, sho_recv hK hP hr, fun U hU hW => ⟨rfl, by rw [hU], by rw [hU]; exact hP, hK.go hS hU hW⟩⟩ rfl hn hl.1 hs (lv_room hc) d ⟨hR.2.2.2.1, hR.2.2.2.2⟩) hS (fun q hq h9 => Aw_in hq h9) (fun q h9 => Aw_mono hS.1 h9) (fun u t H1 locs1 ht hvm hw hB hz hk1 hS1 => ?_)
  cases hw
  rw [ht] at hB
  exact kk _ _ r μ' h2 H1 locs1 ls hB hS1 hl
theorem ao_callSV (X : Cx E Z cc own nL D) (hl0 : lZ l Z) {idx dN mL n : Nat} {y : MethodName} {c2 : ByteArray} {ret : Option FieldType} {As stk : List Value} {oN : Option (Unit × Mem)} {f : Unit → Mem → Option (ρ × Mem)} (d : decode cc pc = .ok (.invokestatic idx, 3)) (hv : YS y c2 mL ret n) (hk : Cond.methodLink own idx y ∈ gw) (hM : MtV E l y c2 mL ret dN As μ oN) (hdp : dN + 1 ≤ D) (hn : As.length = n) (hs : stk = As.reverse ++ st) (hc : (st.map fun v => v.category).sum ≤ 8) (kk : ∀ r μ1, AO E Z nL Qf (pc + 3) lv st μ1 (f r μ1)) : AO E Z nL Qf pc lv stk μ (bnd oN f) := by
  obtain ⟨l0, p, e, R, s, m, args, below, meth, c, cs, ss⟩ := Z
  cases hl0
  obtain ⟨hx, hb, hml, hown, hts, hK, hI, hR, hlk⟩ := X
  intro r μ' h H locs ls hP hS hl
  obtain ⟨r1, μ1, h1, h2⟩ := bnd_some h
  have hM := hM r1 μ1 h1 H.size
  have hRm : (rmD dN).frames + 1 ≤ R.frames ∧ 8 + (mL + 11) + (rmD dN).locals ≤ R.locals := by
    have := hv.2.2.2.2
    simp only [rmD]
    omega
  have cwq := va_cwS (R := R) (rm := rmD dN) (mc := 0) (ms := 0) n hts (gw_S hv hk) rfl rfl rfl hv.2.2.2.1 hRm
  refine va_callv (va_runS (As := As) (rest := st) ⟨hx, hb, hml, hown, hts⟩ hM cwq ⟨PcX_blind, fun U hU hW => ⟨rfl, by rw [hU], by rw [hU]; exact hP, hK.go hS hU hW⟩⟩ rfl hn hl.1 hs (lv_room hc) d ⟨hR.2.2.2.1, hR.2.2.2.2⟩) hS (fun q hq h9 => Aw_in hq h9) (fun q h9 => Aw_mono hS.1 h9) (fun u t H1 locs1 ht hvm hw hB hz hk1 hS1 => ?_)
  cases hw
  rw [ht] at hB
  exact kk _ _ r μ' h2 H1 locs1 ls hB hS1 hl
end Rules4
