/-! the law's own room, script and end -/
def Zi (Z : Zt) : Zt := match Z with
  | (l, p, e, R, s, m, args, below, meth, c, cs, ss) => (l, p, e, R, s, m, args, below, meth, c, cs + 1, ss + 6)
def zroom (Z : Zt) : Prop := match Z with
  | (_, _, _, R, _, _, _, _, _, _, cs, ss) => cs + 1 ≤ R.cells ∧ ss + 6 ≤ R.slots
def zX (Z : Zt) (E : En) (b L : Nat) (xs : Nat → Int32) : Prop := match Z with
  | (_, _, _, _, s, _, _, _, _, _, _, _) => va_X b L xs s s.heap ∧ b < s.heap.size ∧ ¬ Aw E s.heap.size b
section LawR
variable {E : En} {l : Launch} {Z : Zt} {cc : ByteArray} {own : String} {nL D : Nat} {ρ : Type} {Qf : ρ → Mem → State → Prop} {pc : Nat} {lv : List (Nat × Value)} {st : List Value} {μ : Mem} {o : Option (ρ × Mem)}
theorem ao_bump (kk : AO E (Zi Z) nL Qf pc lv st μ o) : AO E Z nL Qf pc lv st μ o := by
  obtain ⟨l, p, e, R, s, m, args, below, meth, c, cs, ss⟩ := Z
  exact fun r μ' h H locs ls hP hS hl => W.widen (k := cs + 1) (n := ss + 6) (Nat.le_succ _) (Nat.le_add_right _ _) (kk r μ' h H locs ls hP hS hl)
theorem cx_bump (X : Cx E Z cc own nL D) (h : zroom Z) : Cx E (Zi Z) cc own nL D := by
  obtain ⟨l, p, e, R, s, m, args, below, meth, c, cs, ss⟩ := Z
  obtain ⟨hx, hb, hml, hown, hts, hK, hI, hR, hlk⟩ := X
  exact ⟨hx, hb, hml, hown, hts, hK, hI, ⟨hR.1, hR.2.1, hR.2.2.1, h.1, h.2⟩, hlk⟩
theorem lz_bump (h : lZ l Z) : lZ l (Zi Z) := by
  obtain ⟨l, p, e, R, s, m, args, below, meth, c, cs, ss⟩ := Z
  exact h
theorem ao_blen (X : Cx E Z cc own nL D) {b L : Nat} {xs : Nat → Int32} (hX : zX Z E b L xs) (d : decode cc pc = .ok (.arraylength, 1)) (kk : AO E Z nL Qf (pc + 1) lv (.int (nI L) :: st) μ o) : AO E Z nL Qf pc lv (.ref b :: st) μ o := by
  obtain ⟨l, p, e, R, s, m, args, below, meth, c, cs, ss⟩ := Z
  obtain ⟨h1, h2, h3⟩ := hX
  exact fun r μ' h H locs ls hP hS hl => va_slen X.1 X.2.1 h1 h2 h3 hS d (kk r μ' h H locs ls hP hS hl)
theorem ao_bld (X : Cx E Z cc own nL D) {b L : Nat} {xs : Nat → Int32} (hX : zX Z E b L xs) {i : Int32} (d : decode cc pc = .ok (.iaload, 1)) (kk : AO E Z nL Qf (pc + 1) lv (.int (xs i.toNatClampNeg) :: st) μ o) : AO E Z nL Qf pc lv (.int i :: .ref b :: st) μ (gd (inb i L) o) := by
  obtain ⟨l, p, e, R, s, m, args, below, meth, c, cs, ss⟩ := Z
  obtain ⟨h1, h2, h3⟩ := hX
  intro r μ' h H locs ls hP hS hl
  obtain ⟨g1, g2⟩ := gd_some h
  exact va_sld X.1 X.2.1 h1 h2 h3 hS (inb_in g1) d (kk r μ' g2 H locs ls hP hS hl)
def YW (y : MethodName) (c2 : ByteArray) (mL n : Nat) (hh : List (Nat × Nat × Nat × Nat)) : Prop := Cond.static y ∈ gw ∧ Cond.initialized y.cls ∈ gw ∧ Cond.codeWith y c2 mL (some .int) hh ∈ gw ∧ (y.cls ≠ "java/lang/invoke/MethodHandle" ∧ y.cls ≠ "java/lang/invoke/VarHandle" ∧ (parseMethodDescriptor y.desc).map (fun d => d.parameters.length) = some n) ∧ mL ≤ 21
def MtH (E : En) (l : Launch) (y : MethodName) (cc : ByteArray) (maxL d : Nat) (hh : List (Nat × Nat × Nat × Nat)) (avs : List Value) (μ : Mem) (o : Option (Int32 × Mem)) : Prop :=
  ∀ r μ', o = some (r, μ') → ∀ sz, vx_Met l y (.codeWith y cc maxL (some .int) hh :: gw) (rmX d) (PcT E avs μ sz) (va_Qi (fun r2 u => r2 = r ∧ u = μ') (WB E) (Aw E sz)) (vx_X (fun _ : Unit => False) (fun _ _ _ => True) (Aw E sz)) 1 6 (Aw E sz)
theorem gw_W {y : MethodName} {c2 : ByteArray} {mL n idx : Nat} {hh : List (Nat × Nat × Nat × Nat)} (hv : YW y c2 mL n hh) (hk : Cond.methodLink own idx y ∈ gw) : GoodIn gw (va_wsS own idx y (.codeWith y c2 mL (some .int) hh :: gw)) := by
  intro w hw
  have : w ∈ gw := by
    rcases List.mem_append.mp hw with h | h
    · simp only [List.mem_cons, List.not_mem_nil, or_false] at h
      rcases h with rfl | rfl | rfl
      · exact hk
      · exact hv.1
      · exact hv.2.1
    · rcases List.mem_cons.mp h with h | h
      · rw [h]; exact hv.2.2.1
      · exact h
  exact ⟨this, good_of_word (List.mem_filter.mp this).2⟩
theorem ao_callH (X : Cx E Z cc own nL D) (hl0 : lZ l Z) (hT : zKT E Z) (hrm : zroom Z) {idx dN mL n : Nat} {y : MethodName} {c2 : ByteArray} {hh : List (Nat × Nat × Nat × Nat)} {As stk : List Value} {oN : Option (Int32 × Mem)} {f : Int32 → Mem → Option (ρ × Mem)} (d : decode cc pc = .ok (.invokestatic idx, 3)) (hv : YW y c2 mL n hh) (hk : Cond.methodLink own idx y ∈ gw) (hM : MtH E l y c2 mL dN hh As μ oN) (hdp : dN + 1 ≤ D) (hn : As.length = n) (hs : stk = As.reverse ++ st) (hc : (st.map fun v => v.category).sum ≤ 8) (kk : ∀ r μ1, AO E (Zi Z) nL Qf (pc + 3) lv (.int r :: st) μ1 (f r μ1)) : AO E Z nL Qf pc lv stk μ (bnd oN f) := by
  obtain ⟨l0, p, e, R, s, m, args, below, meth, c, cs, ss⟩ := Z
  cases hl0
  obtain ⟨hx, hb, hml, hown, hts, hK, hI, hR, hlk⟩ := X
  intro r μ' h H locs ls hP hS hl
  obtain ⟨r1, μ1, h1, h2⟩ := bnd_some h
  have hM := hM r1 μ1 h1 H.size
  have hRm : (rmX dN).frames + 1 ≤ R.frames ∧ 8 + (mL + 11) + (rmX dN).locals ≤ R.locals := by
    have := hv.2.2.2.2
    simp only [rmX]
    omega
  have cwq := vx_cwSW (R := R) (rm := rmX dN) (mc := 1) (ms := 6) n hts (gw_W hv hk) rfl rfl rfl hv.2.2.2.1 hRm
  refine vx_calli (vx_runSX (As := As) (rest := st) ⟨hx, hb, hml, hown, hts⟩ hM cwq ⟨PcT_blind, fun U hU hW => ⟨rfl, by rw [hU], by rw [hU]; exact hP, hK.go hS hU hW, hT.go hS hU hW⟩⟩ rfl hn hl.1 hs (lv_room hc) d hrm) hS (fun q hq h9 => Aw_in hq h9) (fun q h9 => Aw_mono hS.1 h9) (fun q hq h9 => Aw_in hq h9) (fun Ec ce q9 u t H1 locs1 ht hvm hw => absurd hw id) (fun r2 u t H1 locs1 ht hvm hw hB hz hk1 hS1 => ?_)
  obtain ⟨rfl, rfl⟩ := hw
  have hB : va_P (eD E) vwCl (cw E u) t.heap := hB
  rw [ht] at hB
  exact kk _ _ r μ' h2 H1 locs1 ls hB hS1 hl
end LawR
