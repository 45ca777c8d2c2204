section Rules5
variable {E : En} {l : Launch} {Z : Zt} {cc : ByteArray} {own : String} {nL D : Nat} {ρ : Type} {Qf : ρ → Mem → State → Prop} {pc : Nat} {lv : List (Nat × Value)} {st : List Value} {μ : Mem} {o : Option (ρ × Mem)}
def imax (x y : Int32) : Int32 := if x < y then y else x
def imin (x y : Int32) : Int32 := if y < x then y else x
def MaxW : Prop := Cond.static Lib.Math.max.name ∈ gw ∧ Cond.initialized "java/lang/Math" ∈ gw ∧ Cond.code Lib.Math.max.name Lib.Math.max.code 2 (some .int) ∈ gw
def MinW : Prop := Cond.static Lib.Math.min.name ∈ gw ∧ Cond.initialized "java/lang/Math" ∈ gw ∧ Cond.code Lib.Math.min.name Lib.Math.min.code 2 (some .int) ∈ gw
theorem ao_max (X : Cx E Z cc own nL D) {idx : Nat} {x y : Int32} (d : decode cc pc = .ok (.invokestatic idx, 3)) (hk : Cond.methodLink own idx Lib.Math.max.name ∈ gw) (hw : MaxW) (hc : (st.map fun v => v.category).sum ≤ 8) (kk : AO E Z nL Qf (pc + 3) lv (.int (imax x y) :: st) μ o) : AO E Z nL Qf pc lv (.int y :: .int x :: st) μ o := by
  obtain ⟨l, p, e, R, s, m, args, below, meth, c, cs, ss⟩ := Z
  obtain ⟨hx, hb, hml, hown, hts, hK, hI, hR, hlk⟩ := X
  exact fun r μ' h H locs ls hP hS hl => va_mmax hx hb (hml.trans hl.1.symm) hown (hts _ hk) (hts _ hw.1) (hts _ hw.2.1) (hts _ hw.2.2) (by omega) (by omega) (by omega) (by omega) d (kk r μ' h H locs ls hP hS hl)
theorem ao_min (X : Cx E Z cc own nL D) {idx : Nat} {x y : Int32} (d : decode cc pc = .ok (.invokestatic idx, 3)) (hk : Cond.methodLink own idx Lib.Math.min.name ∈ gw) (hw : MinW) (hc : (st.map fun v => v.category).sum ≤ 8) (kk : AO E Z nL Qf (pc + 3) lv (.int (imin x y) :: st) μ o) : AO E Z nL Qf pc lv (.int y :: .int x :: st) μ o := by
  obtain ⟨l, p, e, R, s, m, args, below, meth, c, cs, ss⟩ := Z
  obtain ⟨hx, hb, hml, hown, hts, hK, hI, hR, hlk⟩ := X
  exact fun r μ' h H locs ls hP hS hl => va_mmin hx hb (hml.trans hl.1.symm) hown (hts _ hk) (hts _ hw.1) (hts _ hw.2.1) (hts _ hw.2.2) (by omega) (by omega) (by omega) (by omega) d (kk r μ' h H locs ls hP hS hl)
def CpyW : Prop := Cond.native arraycopyName ∈ gw ∧ Cond.static arraycopyName ∈ gw ∧ Cond.initialized "java/lang/System" ∈ gw
def cpOK (sp dp n : Int32) (n0 n1 : Nat) : Bool := decide (0 ≤ sp.toInt ∧ 0 ≤ dp.toInt ∧ 0 ≤ n.toInt ∧ sp.toInt + n.toInt ≤ n0 ∧ dp.toInt + n.toInt ≤ n1)
theorem nneg {z : Int32} (h : 0 ≤ z.toInt) : ¬ z < 0 := by
  intro hz
  have := Int32.lt_iff_toInt_lt.mp hz
  simp at this
  omega
theorem sC_set {k k2 n1 sp dp n : Nat} (h : ShA k2 0 n1) : (cw E μ).set k2 (eAd E k2, .inl (eCa E 0, n1, .inl (va_cpy (μ.1 k) (μ.1 k2) sp dp n))) = cw E (sC μ k k2 sp dp n) := by
  refine cw_set ?_ (fun a ha => cE_sC ha)
  unfold cE; rw [h.2]; simp [cS, sC]
theorem ao_copy (X : Cx E Z cc own nL D) {idx k k2 n0 n1 : Nat} {sp dp n : Int32} (d : decode cc pc = .ok (.invokestatic idx, 3)) (hk : Cond.methodLink own idx arraycopyName ∈ gw) (hw : CpyW) (h0 : ShA k 0 n0) (h1 : ShA k2 0 n1) (hc : (st.map fun v => v.category).sum ≤ 8) (kk : AO E Z nL Qf (pc + 3) lv st (sC μ k k2 sp.toNatClampNeg dp.toNatClampNeg n.toNatClampNeg) o) : AO E Z nL Qf pc lv (.int n :: .int dp :: .ref (eAd E k2) :: .int sp :: .ref (eAd E k) :: st) μ (gd (cpOK sp dp n n0 n1) o) := by
  obtain ⟨l, p, e, R, s, m, args, below, meth, c, cs, ss⟩ := Z
  obtain ⟨hx, hb, hml, hown, hts, hK, hI, hR, hlk⟩ := X
  intro r μ' h H locs ls hP hS hl
  obtain ⟨hg, h2⟩ := gd_some h
  obtain ⟨g1, g2, g3, g4, g5⟩ := of_decide_eq_true hg
  have en : ∀ z : Int32, 0 ≤ z.toInt → z.toInt = (z.toNatClampNeg : Int) := fun z hz => by
    show z.toInt = ((z.toInt.toNat : Nat) : Int)
    omega
  refine va_copyi hx hb (hml.trans hl.1.symm) hown (hts _ hk) (hts _ hw.1) (hts _ hw.2.1) (hts _ hw.2.2) hK.1 hP (cw_D hI) hS k k2 0 0 (sha_at h0 (by decide)) (sha_at h1 (by decide)) (ty := .int) rfl rfl rfl (nneg g1) (nneg g2) (nneg g3) (by have := en sp g1; have := en n g3; omega) (by have := en dp g2; have := en n g3; omega) (fun _ _ => rfl) (by omega) (by
    have : nativeFrameWords "java/lang/System" "arraycopy" 5 ≤ 21 := by decide
    omega) d (fun H1 locs1 hP1 _ hS1 => ?_)
  rw [sC_set h1] at hP1
  exact kk r μ' h2 H1 locs1 ls hP1 hS1 hl
theorem ao_look (X : Cx E Z cc own nL D) {dflt off : Int} {ps : Array (Int × Int)} {len tgt : Nat} {x : Int32} (d : decode cc pc = .ok (.lookupswitch dflt ps, len)) (hp : (ps.toList.zip (ps.toList.drop 1)).all (fun (a, next) => a.1 < next.1) = true) (ho : Op.lookupswitch.offset ps.toList dflt x.toInt = off) (ht : (pc : Int) + off = (tgt : Int)) (kk : AO E Z nL Qf tgt lv st μ o) : AO E Z nL Qf pc lv (.int x :: st) μ o := by
  obtain ⟨l, p, e, R, s, m, args, below, meth, c, cs, ss⟩ := Z
  exact fun r μ' h H locs ls hP hS hl => lv_lookup X.1 X.2.1 d hp ho ht (kk r μ' h H locs ls hP hS hl)
/-! texts -/
theorem ao_ldcS (X : Cx E Z cc own nL D) {idx i : Nat} {tx : String} (d : decode cc pc = .ok (.ldc idx, 2)) (hi : (own, idx, tx, i) ∈ strTab) (kk : AO E Z nL Qf (pc + 2) lv (.ref (eSk E i) :: st) μ o) : AO E Z nL Qf pc lv st μ o := by
  obtain ⟨l, p, e, R, s, m, args, below, meth, c, cs, ss⟩ := Z
  obtain ⟨hx, hb, hml, hown, hts, hK, hI, hR, hlk⟩ := X
  exact fun r μ' h H locs ls hP hS hl => va_ldcS hx hb hown (hK.2.2.2.1 _ hi) d (kk r μ' h H locs ls hP hS hl)
theorem ao_sval (X : Cx E Z cc own nL D) {idx i : Nat} (d : decode cc pc = .ok (.getfield idx, 3)) (hi : i < 12) (hk : Cond.fieldLink own idx "java/lang/String" "value" "[B" ∈ gw) (kk : AO E Z nL Qf (pc + 3) lv (.ref (eSv E i) :: st) μ o) : AO E Z nL Qf pc lv (.ref (eSk E i) :: st) μ o := by
  obtain ⟨l, p, e, R, s, m, args, below, meth, c, cs, ss⟩ := Z
  obtain ⟨hx, hb, hml, hown, hts, hK, hI, hR, hlk⟩ := X
  exact fun r μ' h H locs ls hP hS hl => vk_getf hx hb (hK.2.1.1 i hi).2.2.1 hS hown (hts _ hk) (fun _ h9 => h9) d (kk r μ' h H locs ls hP hS hl)
theorem ao_scod (X : Cx E Z cc own nL D) {idx i : Nat} (d : decode cc pc = .ok (.getfield idx, 3)) (hi : i < 12) (hk : Cond.fieldLink own idx "java/lang/String" "coder" "B" ∈ gw) (kk : AO E Z nL Qf (pc + 3) lv (.int 0 :: st) μ o) : AO E Z nL Qf pc lv (.ref (eSk E i) :: st) μ o := by
  obtain ⟨l, p, e, R, s, m, args, below, meth, c, cs, ss⟩ := Z
  obtain ⟨hx, hb, hml, hown, hts, hK, hI, hR, hlk⟩ := X
  exact fun r μ' h H locs ls hP hS hl => vk_getf hx hb (hK.2.1.1 i hi).2.1 hS hown (hts _ hk) (fun _ h9 => h9) d (kk r μ' h H locs ls hP hS hl)
theorem ao_scomp (X : Cx E Z cc own nL D) {idx : Nat} (d : decode cc pc = .ok (.getstatic idx, 3)) (hk : Cond.fieldLink own idx "java/lang/String" "COMPACT_STRINGS" "Z" ∈ gw) (kk : AO E Z nL Qf (pc + 3) lv (.int 1 :: st) μ o) : AO E Z nL Qf pc lv st μ o := by
  obtain ⟨l, p, e, R, s, m, args, below, meth, c, cs, ss⟩ := Z
  obtain ⟨hx, hb, hml, hown, hts, hK, hI, hR, hlk⟩ := X
  exact fun r μ' h H locs ls hP hS hl => va_gets hx hb hK.2.2.1 hS hown (hts _ hk) (fun _ h9 => h9) d (kk r μ' h H locs ls hP hS hl)
theorem ao_slen (X : Cx E Z cc own nL D) {i : Nat} {v : Int32} (d : decode cc pc = .ok (.arraylength, 1)) (hi : i < 12) (hv : Int32.ofNat (strLen.getD i 0) = v) (kk : AO E Z nL Qf (pc + 1) lv (.int v :: st) μ o) : AO E Z nL Qf pc lv (.ref (eSv E i) :: st) μ o := by
  obtain ⟨l, p, e, R, s, m, args, below, meth, c, cs, ss⟩ := Z
  obtain ⟨hx, hb, hml, hown, hts, hK, hI, hR, hlk⟩ := X
  exact fun r μ' h H locs ls hP hS hl => va_tlen hx hb (hK.2.1.1 i hi).2.2.2 hS hv d (kk r μ' h H locs ls hP hS hl)
def sch (i : Nat) (j : Int32) : Int32 := (strByt.getD i []).getD j.toNatClampNeg 0
theorem ao_sbald (X : Cx E Z cc own nL D) {i n : Nat} {j : Int32} (d : decode cc pc = .ok (.baload, 1)) (hi : i < 12) (hn : strLen.getD i 0 = n) (kk : AO E Z nL Qf (pc + 1) lv (.int (sch i j) :: st) μ o) : AO E Z nL Qf pc lv (.int j :: .ref (eSv E i) :: st) μ (gd (inb j n) o) := by
  obtain ⟨l, p, e, R, s, m, args, below, meth, c, cs, ss⟩ := Z
  obtain ⟨hx, hb, hml, hown, hts, hK, hI, hR, hlk⟩ := X
  intro r μ' h H locs ls hP hS hl
  obtain ⟨h1, h2⟩ := gd_some h
  subst hn
  exact va_tb hx hb (hK.2.1.1 i hi).2.2.2 hS (inb_in h1) rfl d (kk r μ' h2 H locs ls hP hS hl)
/-- a call on a text -/
theorem ao_callT (X : Cx E Z cc own nL D) (hl0 : lZ l Z) {idx iS dN mL n : Nat} {y : MethodName} {c2 : ByteArray} {ret : Option FieldType} {As stk : List Value} {oN : Option (Int32 × Mem)} {f : Int32 → Mem → Option (ρ × Mem)} (d : decode cc pc = .ok (.invokevirtual idx, 3)) (hi : iS < 12) (hv : YV "java/lang/String" y c2 mL ret n) (hk : Cond.methodLink own idx y ∈ gw) (hM : MtI E l y c2 mL ret dN (.ref (eSk E iS) :: As) μ oN) (hdp : dN + 1 ≤ D) (hn : As.length = n) (hs : stk = As.reverse ++ .ref (eSk E iS) :: st) (hc : (st.map fun v => v.category).sum ≤ 8) (kk : ∀ r μ1, AO E Z nL Qf (pc + 3) lv (.int r :: st) μ1 (f r μ1)) : AO E Z nL Qf pc lv stk μ (bnd oN f) := by
  obtain ⟨l0, p, e, R, s, m, args, below, meth, c, cs, ss⟩ := Z
  cases hl0
  obtain ⟨hx, hb, hml, hown, hts, hK, hI, hR, hlk⟩ := X
  intro r μ' h H locs ls hP hS hl
  obtain ⟨r1, μ1, h1, h2⟩ := bnd_some h
  have hM := hM r1 μ1 h1 H.size
  have hRm : (rmD dN).frames + 1 ≤ R.frames ∧ 8 + (mL + 11) + (rmD dN).locals ≤ R.locals := by
    have := hv.2.2.2.2.2
    simp only [rmD]
    omega
  have cwq := cwV (R := R) (rm := rmD dN) (mc := 0) (ms := 0) n hts (gw_V hv hk) rfl rfl rfl hv.2.2.2.2.1 hRm
  refine va_calli (va_runV (As := As) (rest := st) ⟨hx, hb, hml, hown, hts⟩ hM cwq ⟨PcX_blind, vk_recv hK.2.1 hi hS, fun U hU hW => ⟨rfl, by rw [hU], by rw [hU]; exact hP, hK.go hS hU hW⟩⟩ rfl hn hl.1 hs (lv_room hc) d ⟨hR.2.2.2.1, hR.2.2.2.2⟩) hS (fun q hq h9 => Aw_in hq h9) (fun q h9 => Aw_mono hS.1 h9) (fun r2 u t H1 locs1 ht hvm hw hB hz hk1 hS1 => ?_)
  obtain ⟨rfl, rfl⟩ := hw
  rw [ht] at hB
  exact kk _ _ r μ' h2 H1 locs1 ls hB hS1 hl
/-- a call of a method that is named by another class: inherited, or abstract there -/
def YU (own : String) (idx : Nat) (C owner : String) (x y : MethodName) (c2 : ByteArray) (mL : Nat) (ret : Option FieldType) (n : Nat) : Prop := Cond.methodLink own idx x ∈ gw ∧ Cond.sameMethod x.cls owner x.name x.desc ∈ gw ∧ Cond.selects C x y ∈ gw ∧ Cond.instanceMethod y ∈ gw ∧ Cond.initialized y.cls ∈ gw ∧ Cond.code y c2 mL ret ∈ gw ∧ (owner ≠ "java/lang/invoke/MethodHandle" ∧ owner ≠ "java/lang/invoke/VarHandle" ∧ (parseMethodDescriptor x.desc).map (fun d => d.parameters.length) = some n) ∧ mL ≤ 21 ∧ (y = ⟨owner, x.name, x.desc⟩ ∨ yLro = ⟨owner, x.name, x.desc⟩)
theorem gw_U {C owner : String} {x y : MethodName} {c2 : ByteArray} {mL idx : Nat} {ret : Option FieldType} {n : Nat} (hv : YU own idx C owner x y c2 mL ret n) : GoodIn gw (va_wsU own idx C owner x y (.code y c2 mL ret :: gw)) := by
  intro w hw
  have : w ∈ gw := by
    rcases List.mem_append.mp hw with h | h
    · simp only [List.mem_cons, List.not_mem_nil, or_false] at h
      rcases h with rfl | rfl | rfl | rfl | rfl
      · exact hv.1
      · exact hv.2.1
      · exact hv.2.2.1
      · exact hv.2.2.2.1
      · exact hv.2.2.2.2.1
    · exact (gw_in hv.2.2.2.2.2.1 w h).1
  exact ⟨this, good_of_word (List.mem_filter.mp this).2⟩
theorem ao_callU (X : Cx E Z cc own nL D) (hl0 : lZ l Z) {idx kO dN mL n : Nat} {C owner : String} {x y : MethodName} {c2 : ByteArray} {ret : Option FieldType} {As stk : List Value} {oN : Option (Int32 × Mem)} {f : Int32 → Mem → Option (ρ × Mem)} (d : decode cc pc = .ok (.invokevirtual idx, 3)) (hv : YU own idx C owner x y c2 mL ret n) (hr : ShO kO C) (hM : MtI E l y c2 mL ret dN (.ref (eAd E kO) :: As) μ oN) (hdp : dN + 1 ≤ D) (hn : As.length = n) (hs : stk = As.reverse ++ .ref (eAd E kO) :: st) (hc : (st.map fun v => v.category).sum ≤ 8) (kk : ∀ r μ1, AO E Z nL Qf (pc + 3) lv (.int r :: st) μ1 (f r μ1)) : AO E Z nL Qf pc lv stk μ (bnd oN f) := by
  obtain ⟨l0, p, e, R, s, m, args, below, meth, c, cs, ss⟩ := Z
  cases hl0
  obtain ⟨hx, hb, hml, hown, hts, hK, hI, hR, hlk⟩ := X
  intro r μ' h H locs ls hP hS hl
  obtain ⟨r1, μ1, h1, h2⟩ := bnd_some h
  have hM := hM r1 μ1 h1 H.size
  have hRm : (rmD dN).frames + 1 ≤ R.frames ∧ 8 + (mL + 11) + (rmD dN).locals ≤ R.locals := by
    have := hv.2.2.2.2.2.2.2.1
    simp only [rmD]
    omega
  have cwq : va_CU R s args own C owner idx x y c2 mL ret (.code y c2 mL ret :: gw) (rmD dN) 0 0 n := by
    rcases hv.2.2.2.2.2.2.2.2 with hy | hy
    · exact va_cwU n hts (gw_U hv) rfl rfl rfl hy hv.2.2.2.2.2.2.1 hRm
    · exact va_cwA n hts (gw_U hv) rfl rfl rfl (by rw [← hy]; exact hK.2.2.2.2) hv.2.2.2.2.2.2.1 hRm
  refine va_calli (va_runU (As := As) (rest := st) ⟨hx, hb, hml, hown, hts⟩ hM cwq ⟨PcX_blind, sho_recv hK hP hr, fun U hU hW => ⟨rfl, by rw [hU], by rw [hU]; exact hP, hK.go hS hU hW⟩⟩ rfl hn hl.1 hs (lv_room hc) d ⟨hR.2.2.2.1, hR.2.2.2.2⟩) hS (fun q hq h9 => Aw_in hq h9) (fun q h9 => Aw_mono hS.1 h9) (fun r2 u t H1 locs1 ht hvm hw hB hz hk1 hS1 => ?_)
  obtain ⟨rfl, rfl⟩ := hw
  rw [ht] at hB
  exact kk _ _ r μ' h2 H1 locs1 ls hB hS1 hl
end Rules5
