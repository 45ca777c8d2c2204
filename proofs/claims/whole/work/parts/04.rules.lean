def gd {α : Type} (b : Bool) (o : Option α) : Option α := if b = true then o else none
theorem gd_some {α : Type} {b : Bool} {o : Option α} {x : α} (h : gd b o = some x) : b = true ∧ o = some x := by
  unfold gd at h
  by_cases hb : b = true
  · rw [if_pos hb] at h; exact ⟨hb, h⟩
  · rw [if_neg hb] at h; cases h
theorem gd_t {α : Type} {b : Bool} {o : Option α} (h : b = true) : gd b o = o := if_pos h
def ushr (x y : Int32) : Int32 := (x.toUInt32 >>> (y.toUInt32 &&& Int32.toUInt32 31)).toInt32
def toCh (x : Int32) : Int32 := (x.toUInt32 % 65536).toInt32
def inb (i : Int32) (n : Nat) : Bool := decide (0 ≤ i.toInt ∧ i.toInt < (n : Int))
theorem inb_in {i : Int32} {n : Nat} (h : inb i n = true) : vp_in i n := vp_in_iff.mpr (of_decide_eq_true h)
section Rules2
variable {E : En} {Z : Zt} {cc : ByteArray} {own : String} {nL D : Nat} {ρ : Type} {Qf : ρ → Mem → State → Prop} {pc : Nat} {lv : List (Nat × Value)} {st : List Value} {μ : Mem} {o : Option (ρ × Mem)}
theorem ao_bipush (X : Cx E Z cc own nL D) {n : Int} {v : Int32} (d : decode cc pc = .ok (.bipush n, 2)) (hv : (Int8.ofInt n).toInt32 = v) (kk : AO E Z nL Qf (pc + 2) lv (.int v :: st) μ o) : AO E Z nL Qf pc lv st μ o := by
  obtain ⟨l, p, e, R, s, m, args, below, meth, c, cs, ss⟩ := Z
  exact fun r μ' h H locs ls hP hS hl => lv_bipush X.1 X.2.1 d hv (kk r μ' h H locs ls hP hS hl)
theorem ao_sipush (X : Cx E Z cc own nL D) {n : Int} {v : Int32} (d : decode cc pc = .ok (.sipush n, 3)) (hv : (Int16.ofInt n).toInt32 = v) (kk : AO E Z nL Qf (pc + 3) lv (.int v :: st) μ o) : AO E Z nL Qf pc lv st μ o := by
  obtain ⟨l, p, e, R, s, m, args, below, meth, c, cs, ss⟩ := Z
  exact fun r μ' h H locs ls hP hS hl => lv_sipush X.1 X.2.1 d hv (kk r μ' h H locs ls hP hS hl)
theorem ao_lconst (X : Cx E Z cc own nL D) {n : Fin 2} {v : Int64} (d : decode cc pc = .ok (.lconst n, 1)) (hv : Int64.ofNat (n : Nat) = v) (kk : AO E Z nL Qf (pc + 1) lv (.long v :: st) μ o) : AO E Z nL Qf pc lv st μ o := by
  obtain ⟨l, p, e, R, s, m, args, below, meth, c, cs, ss⟩ := Z
  exact fun r μ' h H locs ls hP hS hl => lv_lconst X.1 X.2.1 d hv (kk r μ' h H locs ls hP hS hl)
theorem ao_ldc (X : Cx E Z cc own nL D) {i : Nat} {v : Int32} (d : decode cc pc = .ok (.ldc i, 2)) (hw : Cond.constant own i v ∈ gw) (kk : AO E Z nL Qf (pc + 2) lv (.int v :: st) μ o) : AO E Z nL Qf pc lv st μ o := by
  obtain ⟨l, p, e, R, s, m, args, below, meth, c, cs, ss⟩ := Z
  exact fun r μ' h H locs ls hP hS hl => lv_ldc X.1 X.2.1 X.2.2.2.1 (X.2.2.2.2.1 _ hw) d (kk r μ' h H locs ls hP hS hl)
theorem ao_ldcw (X : Cx E Z cc own nL D) {i : Nat} {v : Int32} (d : decode cc pc = .ok (.ldc_w i, 3)) (hw : Cond.constant own i v ∈ gw) (kk : AO E Z nL Qf (pc + 3) lv (.int v :: st) μ o) : AO E Z nL Qf pc lv st μ o := by
  obtain ⟨l, p, e, R, s, m, args, below, meth, c, cs, ss⟩ := Z
  exact fun r μ' h H locs ls hP hS hl => lv_ldcw X.1 X.2.1 X.2.2.2.1 (X.2.2.2.2.1 _ hw) d (kk r μ' h H locs ls hP hS hl)
theorem ao_ldc2 (X : Cx E Z cc own nL D) {i : Nat} {v : Int64} (d : decode cc pc = .ok (.ldc2_w i, 3)) (hw : Cond.constantLong own i v ∈ gw) (kk : AO E Z nL Qf (pc + 3) lv (.long v :: st) μ o) : AO E Z nL Qf pc lv st μ o := by
  obtain ⟨l, p, e, R, s, m, args, below, meth, c, cs, ss⟩ := Z
  exact fun r μ' h H locs ls hP hS hl => lv_ldc2 X.1 X.2.1 X.2.2.2.1 (X.2.2.2.2.1 _ hw) d (kk r μ' h H locs ls hP hS hl)
theorem ao_iload (X : Cx E Z cc own nL D) {i : Nat} {x : Int32} (d : decode cc pc = .ok (.iload i, 2)) (hk : lv.lookup i = some (.int x)) (kk : AO E Z nL Qf (pc + 2) lv (.int x :: st) μ o) : AO E Z nL Qf pc lv st μ o := by
  obtain ⟨l, p, e, R, s, m, args, below, meth, c, cs, ss⟩ := Z
  exact fun r μ' h H locs ls hP hS hl => lv_iload X.1 X.2.1 d (lk_at hl hk) (kk r μ' h H locs ls hP hS hl)
theorem ao_lload_n (X : Cx E Z cc own nL D) {k : Fin 4} {x : Int64} (d : decode cc pc = .ok (.lload_n k, 1)) (hk : lv.lookup k.val = some (.long x)) (kk : AO E Z nL Qf (pc + 1) lv (.long x :: st) μ o) : AO E Z nL Qf pc lv st μ o := by
  obtain ⟨l, p, e, R, s, m, args, below, meth, c, cs, ss⟩ := Z
  exact fun r μ' h H locs ls hP hS hl => lv_lload_n X.1 X.2.1 d rfl (lk_at hl hk) (kk r μ' h H locs ls hP hS hl)
theorem ao_lload (X : Cx E Z cc own nL D) {i : Nat} {x : Int64} (d : decode cc pc = .ok (.lload i, 2)) (hk : lv.lookup i = some (.long x)) (kk : AO E Z nL Qf (pc + 2) lv (.long x :: st) μ o) : AO E Z nL Qf pc lv st μ o := by
  obtain ⟨l, p, e, R, s, m, args, below, meth, c, cs, ss⟩ := Z
  exact fun r μ' h H locs ls hP hS hl => lv_lload X.1 X.2.1 d (lk_at hl hk) (kk r μ' h H locs ls hP hS hl)
theorem ao_aload_n (X : Cx E Z cc own nL D) {k : Fin 4} {x : Nat} (d : decode cc pc = .ok (.aload_n k, 1)) (hk : lv.lookup k.val = some (.ref x)) (kk : AO E Z nL Qf (pc + 1) lv (.ref x :: st) μ o) : AO E Z nL Qf pc lv st μ o := by
  obtain ⟨l, p, e, R, s, m, args, below, meth, c, cs, ss⟩ := Z
  exact fun r μ' h H locs ls hP hS hl => lv_aload_n X.1 X.2.1 d rfl (lk_at hl hk) (kk r μ' h H locs ls hP hS hl)
theorem ao_aload (X : Cx E Z cc own nL D) {i : Nat} {x : Nat} (d : decode cc pc = .ok (.aload i, 2)) (hk : lv.lookup i = some (.ref x)) (kk : AO E Z nL Qf (pc + 2) lv (.ref x :: st) μ o) : AO E Z nL Qf pc lv st μ o := by
  obtain ⟨l, p, e, R, s, m, args, below, meth, c, cs, ss⟩ := Z
  exact fun r μ' h H locs ls hP hS hl => lv_aload X.1 X.2.1 d (lk_at hl hk) (kk r μ' h H locs ls hP hS hl)
theorem ao_istore_n (X : Cx E Z cc own nL D) {k : Fin 4} {i : Nat} {x : Int32} {lv' : List (Nat × Value)} (d : decode cc pc = .ok (.istore_n k, 1)) (hi : (k : Nat) = i) (hn : i < nL) (hl2 : (i, Value.int x) :: lv.filter (fun q => !(q.1 == i) && !(q.1 + 1 == i && q.2.category == 2)) = lv') (kk : AO E Z nL Qf (pc + 1) lv' st μ o) : AO E Z nL Qf pc lv (.int x :: st) μ o := by
  obtain ⟨l, p, e, R, s, m, args, below, meth, c, cs, ss⟩ := Z
  exact fun r μ' h H locs ls hP hS hl => lv_istore_n X.1 X.2.1 d hi hl hn hl2 (fun ls' hl' => kk r μ' h H locs ls' hP hS hl')
theorem ao_istore (X : Cx E Z cc own nL D) {i : Nat} {x : Int32} {lv' : List (Nat × Value)} (d : decode cc pc = .ok (.istore i, 2)) (hn : i < nL) (hl2 : (i, Value.int x) :: lv.filter (fun q => !(q.1 == i) && !(q.1 + 1 == i && q.2.category == 2)) = lv') (kk : AO E Z nL Qf (pc + 2) lv' st μ o) : AO E Z nL Qf pc lv (.int x :: st) μ o := by
  obtain ⟨l, p, e, R, s, m, args, below, meth, c, cs, ss⟩ := Z
  exact fun r μ' h H locs ls hP hS hl => lv_istore X.1 X.2.1 d hl hn hl2 (fun ls' hl' => kk r μ' h H locs ls' hP hS hl')
theorem ao_lstore_n (X : Cx E Z cc own nL D) {k : Fin 4} {i : Nat} {x : Int64} {lv' : List (Nat × Value)} (d : decode cc pc = .ok (.lstore_n k, 1)) (hi : (k : Nat) = i) (hn : i + 1 < nL) (hl2 : (i, Value.long x) :: lv.filter (fun q => !(q.1 == i) && (!(q.1 == i + 1) && !(q.1 + 1 == i && q.2.category == 2))) = lv') (kk : AO E Z nL Qf (pc + 1) lv' st μ o) : AO E Z nL Qf pc lv (.long x :: st) μ o := by
  obtain ⟨l, p, e, R, s, m, args, below, meth, c, cs, ss⟩ := Z
  exact fun r μ' h H locs ls hP hS hl => lv_lstore_n X.1 X.2.1 d hi hl hn hl2 (fun ls' hl' => kk r μ' h H locs ls' hP hS hl')
theorem ao_lstore (X : Cx E Z cc own nL D) {i : Nat} {x : Int64} {lv' : List (Nat × Value)} (d : decode cc pc = .ok (.lstore i, 2)) (hn : i + 1 < nL) (hl2 : (i, Value.long x) :: lv.filter (fun q => !(q.1 == i) && (!(q.1 == i + 1) && !(q.1 + 1 == i && q.2.category == 2))) = lv') (kk : AO E Z nL Qf (pc + 2) lv' st μ o) : AO E Z nL Qf pc lv (.long x :: st) μ o := by
  obtain ⟨l, p, e, R, s, m, args, below, meth, c, cs, ss⟩ := Z
  exact fun r μ' h H locs ls hP hS hl => lv_lstore X.1 X.2.1 d hl hn hl2 (fun ls' hl' => kk r μ' h H locs ls' hP hS hl')
theorem ao_astore_n (X : Cx E Z cc own nL D) {k : Fin 4} {i : Nat} {x : Nat} {lv' : List (Nat × Value)} (d : decode cc pc = .ok (.astore_n k, 1)) (hi : (k : Nat) = i) (hn : i < nL) (hl2 : (i, Value.ref x) :: lv.filter (fun q => !(q.1 == i) && !(q.1 + 1 == i && q.2.category == 2)) = lv') (kk : AO E Z nL Qf (pc + 1) lv' st μ o) : AO E Z nL Qf pc lv (.ref x :: st) μ o := by
  obtain ⟨l, p, e, R, s, m, args, below, meth, c, cs, ss⟩ := Z
  exact fun r μ' h H locs ls hP hS hl => lv_astore_n X.1 X.2.1 d hi hl hn hl2 (fun ls' hl' => kk r μ' h H locs ls' hP hS hl')
theorem ao_astore (X : Cx E Z cc own nL D) {i : Nat} {x : Nat} {lv' : List (Nat × Value)} (d : decode cc pc = .ok (.astore i, 2)) (hn : i < nL) (hl2 : (i, Value.ref x) :: lv.filter (fun q => !(q.1 == i) && !(q.1 + 1 == i && q.2.category == 2)) = lv') (kk : AO E Z nL Qf (pc + 2) lv' st μ o) : AO E Z nL Qf pc lv (.ref x :: st) μ o := by
  obtain ⟨l, p, e, R, s, m, args, below, meth, c, cs, ss⟩ := Z
  exact fun r μ' h H locs ls hP hS hl => lv_astore X.1 X.2.1 d hl hn hl2 (fun ls' hl' => kk r μ' h H locs ls' hP hS hl')
theorem ao_iinc (X : Cx E Z cc own nL D) {i k : Nat} {n : Int} {x v : Int32} {lv' : List (Nat × Value)} (d : decode cc pc = .ok (.iinc i n, 3)) (hk : lv[k]? = some (i, .int x)) (hv : x + Int32.ofInt n = v) (hn : i < nL) (hl2 : (i, Value.int v) :: lv.filter (fun q => !(q.1 == i) && !(q.1 + 1 == i && q.2.category == 2)) = lv') (kk : AO E Z nL Qf (pc + 3) lv' st μ o) : AO E Z nL Qf pc lv st μ o := by
  obtain ⟨l, p, e, R, s, m, args, below, meth, c, cs, ss⟩ := Z
  exact fun r μ' h H locs ls hP hS hl => lv_iinc X.1 X.2.1 d hl hk hv hn hl2 (fun ls' hl' => kk r μ' h H locs ls' hP hS hl')
theorem ao_iadd (X : Cx E Z cc own nL D) {x y : Int32} (d : decode cc pc = .ok (.iadd, 1)) (kk : AO E Z nL Qf (pc + 1) lv (.int (x + y) :: st) μ o) : AO E Z nL Qf pc lv (.int y :: .int x :: st) μ o := by
  obtain ⟨l, p, e, R, s, m, args, below, meth, c, cs, ss⟩ := Z
  exact fun r μ' h H locs ls hP hS hl => lv_iadd X.1 X.2.1 d (kk r μ' h H locs ls hP hS hl)
theorem ao_isub (X : Cx E Z cc own nL D) {x y : Int32} (d : decode cc pc = .ok (.isub, 1)) (kk : AO E Z nL Qf (pc + 1) lv (.int (x - y) :: st) μ o) : AO E Z nL Qf pc lv (.int y :: .int x :: st) μ o := by
  obtain ⟨l, p, e, R, s, m, args, below, meth, c, cs, ss⟩ := Z
  exact fun r μ' h H locs ls hP hS hl => lv_isub X.1 X.2.1 d (kk r μ' h H locs ls hP hS hl)
theorem ao_imul (X : Cx E Z cc own nL D) {x y : Int32} (d : decode cc pc = .ok (.imul, 1)) (kk : AO E Z nL Qf (pc + 1) lv (.int (x * y) :: st) μ o) : AO E Z nL Qf pc lv (.int y :: .int x :: st) μ o := by
  obtain ⟨l, p, e, R, s, m, args, below, meth, c, cs, ss⟩ := Z
  exact fun r μ' h H locs ls hP hS hl => lv_imul X.1 X.2.1 d (kk r μ' h H locs ls hP hS hl)
theorem ao_iand (X : Cx E Z cc own nL D) {x y : Int32} (d : decode cc pc = .ok (.iand, 1)) (kk : AO E Z nL Qf (pc + 1) lv (.int (x &&& y) :: st) μ o) : AO E Z nL Qf pc lv (.int y :: .int x :: st) μ o := by
  obtain ⟨l, p, e, R, s, m, args, below, meth, c, cs, ss⟩ := Z
  exact fun r μ' h H locs ls hP hS hl => lv_iand X.1 X.2.1 d (kk r μ' h H locs ls hP hS hl)
theorem ao_ior (X : Cx E Z cc own nL D) {x y : Int32} (d : decode cc pc = .ok (.ior, 1)) (kk : AO E Z nL Qf (pc + 1) lv (.int (x ||| y) :: st) μ o) : AO E Z nL Qf pc lv (.int y :: .int x :: st) μ o := by
  obtain ⟨l, p, e, R, s, m, args, below, meth, c, cs, ss⟩ := Z
  exact fun r μ' h H locs ls hP hS hl => lv_ior X.1 X.2.1 d (kk r μ' h H locs ls hP hS hl)
theorem ao_ixor (X : Cx E Z cc own nL D) {x y : Int32} (d : decode cc pc = .ok (.ixor, 1)) (kk : AO E Z nL Qf (pc + 1) lv (.int (x ^^^ y) :: st) μ o) : AO E Z nL Qf pc lv (.int y :: .int x :: st) μ o := by
  obtain ⟨l, p, e, R, s, m, args, below, meth, c, cs, ss⟩ := Z
  exact fun r μ' h H locs ls hP hS hl => lv_ixor X.1 X.2.1 d (kk r μ' h H locs ls hP hS hl)
theorem ao_ladd (X : Cx E Z cc own nL D) {x y : Int64} (d : decode cc pc = .ok (.ladd, 1)) (kk : AO E Z nL Qf (pc + 1) lv (.long (x + y) :: st) μ o) : AO E Z nL Qf pc lv (.long y :: .long x :: st) μ o := by
  obtain ⟨l, p, e, R, s, m, args, below, meth, c, cs, ss⟩ := Z
  exact fun r μ' h H locs ls hP hS hl => lv_ladd X.1 X.2.1 d (kk r μ' h H locs ls hP hS hl)
theorem ao_lsub (X : Cx E Z cc own nL D) {x y : Int64} (d : decode cc pc = .ok (.lsub, 1)) (kk : AO E Z nL Qf (pc + 1) lv (.long (x - y) :: st) μ o) : AO E Z nL Qf pc lv (.long y :: .long x :: st) μ o := by
  obtain ⟨l, p, e, R, s, m, args, below, meth, c, cs, ss⟩ := Z
  exact fun r μ' h H locs ls hP hS hl => lv_lsub X.1 X.2.1 d (kk r μ' h H locs ls hP hS hl)
theorem ao_lmul (X : Cx E Z cc own nL D) {x y : Int64} (d : decode cc pc = .ok (.lmul, 1)) (kk : AO E Z nL Qf (pc + 1) lv (.long (x * y) :: st) μ o) : AO E Z nL Qf pc lv (.long y :: .long x :: st) μ o := by
  obtain ⟨l, p, e, R, s, m, args, below, meth, c, cs, ss⟩ := Z
  exact fun r μ' h H locs ls hP hS hl => lv_lmul X.1 X.2.1 d (kk r μ' h H locs ls hP hS hl)
theorem ao_ineg (X : Cx E Z cc own nL D) {x : Int32} (d : decode cc pc = .ok (.ineg, 1)) (kk : AO E Z nL Qf (pc + 1) lv (.int (-x) :: st) μ o) : AO E Z nL Qf pc lv (.int x :: st) μ o := by
  obtain ⟨l, p, e, R, s, m, args, below, meth, c, cs, ss⟩ := Z
  exact fun r μ' h H locs ls hP hS hl => lv_ineg X.1 X.2.1 d (kk r μ' h H locs ls hP hS hl)
theorem ao_ishl (X : Cx E Z cc own nL D) {x y : Int32} (d : decode cc pc = .ok (.ishl, 1)) (kk : AO E Z nL Qf (pc + 1) lv (.int (x <<< (y &&& 31)) :: st) μ o) : AO E Z nL Qf pc lv (.int y :: .int x :: st) μ o := by
  obtain ⟨l, p, e, R, s, m, args, below, meth, c, cs, ss⟩ := Z
  exact fun r μ' h H locs ls hP hS hl => lv_ishl X.1 X.2.1 d (kk r μ' h H locs ls hP hS hl)
theorem ao_ishr (X : Cx E Z cc own nL D) {x y : Int32} (d : decode cc pc = .ok (.ishr, 1)) (kk : AO E Z nL Qf (pc + 1) lv (.int (x >>> (y &&& 31)) :: st) μ o) : AO E Z nL Qf pc lv (.int y :: .int x :: st) μ o := by
  obtain ⟨l, p, e, R, s, m, args, below, meth, c, cs, ss⟩ := Z
  exact fun r μ' h H locs ls hP hS hl => lv_ishr X.1 X.2.1 d (kk r μ' h H locs ls hP hS hl)
theorem ao_iushr (X : Cx E Z cc own nL D) {x y : Int32} (d : decode cc pc = .ok (.iushr, 1)) (kk : AO E Z nL Qf (pc + 1) lv (.int (ushr x y) :: st) μ o) : AO E Z nL Qf pc lv (.int y :: .int x :: st) μ o := by
  obtain ⟨l, p, e, R, s, m, args, below, meth, c, cs, ss⟩ := Z
  exact fun r μ' h H locs ls hP hS hl => lv_iushr X.1 X.2.1 d rfl (kk r μ' h H locs ls hP hS hl)
theorem ao_i2l (X : Cx E Z cc own nL D) {x : Int32} (d : decode cc pc = .ok (.i2l, 1)) (kk : AO E Z nL Qf (pc + 1) lv (.long x.toInt64 :: st) μ o) : AO E Z nL Qf pc lv (.int x :: st) μ o := by
  obtain ⟨l, p, e, R, s, m, args, below, meth, c, cs, ss⟩ := Z
  exact fun r μ' h H locs ls hP hS hl => lv_i2l X.1 X.2.1 d rfl (kk r μ' h H locs ls hP hS hl)
theorem ao_i2b (X : Cx E Z cc own nL D) {x : Int32} (d : decode cc pc = .ok (.i2b, 1)) (kk : AO E Z nL Qf (pc + 1) lv (.int x.toInt8.toInt32 :: st) μ o) : AO E Z nL Qf pc lv (.int x :: st) μ o := by
  obtain ⟨l, p, e, R, s, m, args, below, meth, c, cs, ss⟩ := Z
  exact fun r μ' h H locs ls hP hS hl => lv_i2b X.1 X.2.1 d rfl (kk r μ' h H locs ls hP hS hl)
theorem ao_i2s (X : Cx E Z cc own nL D) {x : Int32} (d : decode cc pc = .ok (.i2s, 1)) (kk : AO E Z nL Qf (pc + 1) lv (.int x.toInt16.toInt32 :: st) μ o) : AO E Z nL Qf pc lv (.int x :: st) μ o := by
  obtain ⟨l, p, e, R, s, m, args, below, meth, c, cs, ss⟩ := Z
  exact fun r μ' h H locs ls hP hS hl => lv_i2s X.1 X.2.1 d rfl (kk r μ' h H locs ls hP hS hl)
theorem ao_i2c (X : Cx E Z cc own nL D) {x : Int32} (d : decode cc pc = .ok (.i2c, 1)) (kk : AO E Z nL Qf (pc + 1) lv (.int (toCh x) :: st) μ o) : AO E Z nL Qf pc lv (.int x :: st) μ o := by
  obtain ⟨l, p, e, R, s, m, args, below, meth, c, cs, ss⟩ := Z
  exact fun r μ' h H locs ls hP hS hl => lv_i2c X.1 X.2.1 d rfl (kk r μ' h H locs ls hP hS hl)
theorem ao_lcmp (X : Cx E Z cc own nL D) {x y : Int64} (d : decode cc pc = .ok (.lcmp, 1)) (kk : AO E Z nL Qf (pc + 1) lv (.int (lg_cmp x y) :: st) μ o) : AO E Z nL Qf pc lv (.long y :: .long x :: st) μ o := by
  obtain ⟨l, p, e, R, s, m, args, below, meth, c, cs, ss⟩ := Z
  exact fun r μ' h H locs ls hP hS hl => W.lcmp X.1 X.2.1 d (kk r μ' h H locs ls hP hS hl)
theorem ao_dup (X : Cx E Z cc own nL D) {v : Value} (d : decode cc pc = .ok (.dup, 1)) (hc : v.category = 1) (kk : AO E Z nL Qf (pc + 1) lv (v :: v :: st) μ o) : AO E Z nL Qf pc lv (v :: st) μ o := by
  obtain ⟨l, p, e, R, s, m, args, below, meth, c, cs, ss⟩ := Z
  exact fun r μ' h H locs ls hP hS hl => lv_dup X.1 X.2.1 d hc (kk r μ' h H locs ls hP hS hl)
theorem ao_pop (X : Cx E Z cc own nL D) {v : Value} (d : decode cc pc = .ok (.pop, 1)) (hc : v.category = 1) (kk : AO E Z nL Qf (pc + 1) lv st μ o) : AO E Z nL Qf pc lv (v :: st) μ o := by
  obtain ⟨l, p, e, R, s, m, args, below, meth, c, cs, ss⟩ := Z
  exact fun r μ' h H locs ls hP hS hl => lv_pop X.1 X.2.1 d hc (kk r μ' h H locs ls hP hS hl)
theorem ao_dup_x1 (X : Cx E Z cc own nL D) {v w : Value} (d : decode cc pc = .ok (.dup_x1, 1)) (hc : v.category = 1) (hc2 : w.category = 1) (kk : AO E Z nL Qf (pc + 1) lv (v :: w :: v :: st) μ o) : AO E Z nL Qf pc lv (v :: w :: st) μ o := by
  obtain ⟨l, p, e, R, s, m, args, below, meth, c, cs, ss⟩ := Z
  exact fun r μ' h H locs ls hP hS hl => lv_dup_x1 X.1 X.2.1 d hc hc2 (kk r μ' h H locs ls hP hS hl)
theorem ao_dup2 (X : Cx E Z cc own nL D) {v w : Value} (d : decode cc pc = .ok (.dup2, 1)) (hc : v.category = 1) (hc2 : w.category = 1) (kk : AO E Z nL Qf (pc + 1) lv (v :: w :: v :: w :: st) μ o) : AO E Z nL Qf pc lv (v :: w :: st) μ o := by
  obtain ⟨l, p, e, R, s, m, args, below, meth, c, cs, ss⟩ := Z
  exact fun r μ' h H locs ls hP hS hl => lv_dup2_11 X.1 X.2.1 d hc hc2 (kk r μ' h H locs ls hP hS hl)
theorem ao_goto (X : Cx E Z cc own nL D) {off : Int} {tgt : Nat} (d : decode cc pc = .ok (.goto off, 3)) (ht : (pc : Int) + off = (tgt : Int)) (kk : AO E Z nL Qf tgt lv st μ o) : AO E Z nL Qf pc lv st μ o := by
  obtain ⟨l, p, e, R, s, m, args, below, meth, c, cs, ss⟩ := Z
  exact fun r μ' h H locs ls hP hS hl => lv_goto X.1 X.2.1 d ht (kk r μ' h H locs ls hP hS hl)
theorem ao_idiv (X : Cx E Z cc own nL D) {x y : Int32} (d : decode cc pc = .ok (.idiv, 1)) (kk : AO E Z nL Qf (pc + 1) lv (.int (x / y) :: st) μ o) : AO E Z nL Qf pc lv (.int y :: .int x :: st) μ (gd (!(y == 0)) o) := by
  obtain ⟨l, p, e, R, s, m, args, below, meth, c, cs, ss⟩ := Z
  intro r μ' h H locs ls hP hS hl
  obtain ⟨h1, h2⟩ := gd_some h
  have hne : ¬ y = 0 := by simpa using h1
  exact lv_idiv X.1 X.2.1 d hne (kk r μ' h2 H locs ls hP hS hl)
theorem ao_irem (X : Cx E Z cc own nL D) {x y : Int32} (d : decode cc pc = .ok (.irem, 1)) (kk : AO E Z nL Qf (pc + 1) lv (.int (x - x / y * y) :: st) μ o) : AO E Z nL Qf pc lv (.int y :: .int x :: st) μ (gd (!(y == 0)) o) := by
  obtain ⟨l, p, e, R, s, m, args, below, meth, c, cs, ss⟩ := Z
  intro r μ' h H locs ls hP hS hl
  obtain ⟨h1, h2⟩ := gd_some h
  have hne : ¬ y = 0 := by simpa using h1
  exact lv_irem X.1 X.2.1 d hne (kk r μ' h2 H locs ls hP hS hl)
theorem ao_ldiv (X : Cx E Z cc own nL D) {x y : Int64} (d : decode cc pc = .ok (.ldiv, 1)) (kk : AO E Z nL Qf (pc + 1) lv (.long (x / y) :: st) μ o) : AO E Z nL Qf pc lv (.long y :: .long x :: st) μ (gd (!(y == 0)) o) := by
  obtain ⟨l, p, e, R, s, m, args, below, meth, c, cs, ss⟩ := Z
  intro r μ' h H locs ls hP hS hl
  obtain ⟨h1, h2⟩ := gd_some h
  have hne : ¬ y = 0 := by simpa using h1
  exact lv_ldiv X.1 X.2.1 d hne (kk r μ' h2 H locs ls hP hS hl)
theorem ao_lrem (X : Cx E Z cc own nL D) {x y : Int64} (d : decode cc pc = .ok (.lrem, 1)) (kk : AO E Z nL Qf (pc + 1) lv (.long (x - x / y * y) :: st) μ o) : AO E Z nL Qf pc lv (.long y :: .long x :: st) μ (gd (!(y == 0)) o) := by
  obtain ⟨l, p, e, R, s, m, args, below, meth, c, cs, ss⟩ := Z
  intro r μ' h H locs ls hP hS hl
  obtain ⟨h1, h2⟩ := gd_some h
  have hne : ¬ y = 0 := by simpa using h1
  exact lv_lrem X.1 X.2.1 d hne (kk r μ' h2 H locs ls hP hS hl)
theorem ao_if_eq (X : Cx E Z cc own nL D) {x : Int32} {off : Int} {tgt : Nat} {a b : Option (ρ × Mem)} (d : decode cc pc = .ok (.ifCond .eq off, 3)) (ht : (pc : Int) + off = (tgt : Int)) (kt : x = 0 → AO E Z nL Qf tgt lv st μ a) (kf : ¬ x = 0 → AO E Z nL Qf (pc + 3) lv st μ b) : AO E Z nL Qf pc lv (.int x :: st) μ (if x = 0 then a else b) := by
  obtain ⟨l, p, e, R, s, m, args, below, meth, c, cs, ss⟩ := Z
  exact fun r μ' h H locs ls hP hS hl => lv_if_eq X.1 X.2.1 d ht (fun c' => kt c' r μ' (by rwa [if_pos c'] at h) H locs ls hP hS hl) (fun c' => kf c' r μ' (by rwa [if_neg c'] at h) H locs ls hP hS hl)
theorem ao_if_ne (X : Cx E Z cc own nL D) {x : Int32} {off : Int} {tgt : Nat} {a b : Option (ρ × Mem)} (d : decode cc pc = .ok (.ifCond .ne off, 3)) (ht : (pc : Int) + off = (tgt : Int)) (kt : ¬ x = 0 → AO E Z nL Qf tgt lv st μ a) (kf : x = 0 → AO E Z nL Qf (pc + 3) lv st μ b) : AO E Z nL Qf pc lv (.int x :: st) μ (if x = 0 then b else a) := by
  obtain ⟨l, p, e, R, s, m, args, below, meth, c, cs, ss⟩ := Z
  exact fun r μ' h H locs ls hP hS hl => lv_if_ne X.1 X.2.1 d ht (fun c' => kt c' r μ' (by rwa [if_neg c'] at h) H locs ls hP hS hl) (fun c' => kf c' r μ' (by rwa [if_pos c'] at h) H locs ls hP hS hl)
theorem ao_if_lt (X : Cx E Z cc own nL D) {x : Int32} {off : Int} {tgt : Nat} {a b : Option (ρ × Mem)} (d : decode cc pc = .ok (.ifCond .lt off, 3)) (ht : (pc : Int) + off = (tgt : Int)) (kt : x < 0 → AO E Z nL Qf tgt lv st μ a) (kf : ¬ x < 0 → AO E Z nL Qf (pc + 3) lv st μ b) : AO E Z nL Qf pc lv (.int x :: st) μ (if x < 0 then a else b) := by
  obtain ⟨l, p, e, R, s, m, args, below, meth, c, cs, ss⟩ := Z
  exact fun r μ' h H locs ls hP hS hl => lv_if_lt X.1 X.2.1 d ht (fun c' => kt c' r μ' (by rwa [if_pos c'] at h) H locs ls hP hS hl) (fun c' => kf c' r μ' (by rwa [if_neg c'] at h) H locs ls hP hS hl)
theorem ao_if_ge (X : Cx E Z cc own nL D) {x : Int32} {off : Int} {tgt : Nat} {a b : Option (ρ × Mem)} (d : decode cc pc = .ok (.ifCond .ge off, 3)) (ht : (pc : Int) + off = (tgt : Int)) (kt : 0 ≤ x → AO E Z nL Qf tgt lv st μ a) (kf : ¬ 0 ≤ x → AO E Z nL Qf (pc + 3) lv st μ b) : AO E Z nL Qf pc lv (.int x :: st) μ (if 0 ≤ x then a else b) := by
  obtain ⟨l, p, e, R, s, m, args, below, meth, c, cs, ss⟩ := Z
  exact fun r μ' h H locs ls hP hS hl => lv_if_ge X.1 X.2.1 d ht (fun c' => kt c' r μ' (by rwa [if_pos c'] at h) H locs ls hP hS hl) (fun c' => kf c' r μ' (by rwa [if_neg c'] at h) H locs ls hP hS hl)
theorem ao_if_gt (X : Cx E Z cc own nL D) {x : Int32} {off : Int} {tgt : Nat} {a b : Option (ρ × Mem)} (d : decode cc pc = .ok (.ifCond .gt off, 3)) (ht : (pc : Int) + off = (tgt : Int)) (kt : 0 < x → AO E Z nL Qf tgt lv st μ a) (kf : ¬ 0 < x → AO E Z nL Qf (pc + 3) lv st μ b) : AO E Z nL Qf pc lv (.int x :: st) μ (if 0 < x then a else b) := by
  obtain ⟨l, p, e, R, s, m, args, below, meth, c, cs, ss⟩ := Z
  exact fun r μ' h H locs ls hP hS hl => lv_if_gt X.1 X.2.1 d ht (fun c' => kt c' r μ' (by rwa [if_pos c'] at h) H locs ls hP hS hl) (fun c' => kf c' r μ' (by rwa [if_neg c'] at h) H locs ls hP hS hl)
theorem ao_if_le (X : Cx E Z cc own nL D) {x : Int32} {off : Int} {tgt : Nat} {a b : Option (ρ × Mem)} (d : decode cc pc = .ok (.ifCond .le off, 3)) (ht : (pc : Int) + off = (tgt : Int)) (kt : x ≤ 0 → AO E Z nL Qf tgt lv st μ a) (kf : ¬ x ≤ 0 → AO E Z nL Qf (pc + 3) lv st μ b) : AO E Z nL Qf pc lv (.int x :: st) μ (if x ≤ 0 then a else b) := by
  obtain ⟨l, p, e, R, s, m, args, below, meth, c, cs, ss⟩ := Z
  exact fun r μ' h H locs ls hP hS hl => lv_if_le X.1 X.2.1 d ht (fun c' => kt c' r μ' (by rwa [if_pos c'] at h) H locs ls hP hS hl) (fun c' => kf c' r μ' (by rwa [if_neg c'] at h) H locs ls hP hS hl)
theorem ao_icmp_eq (X : Cx E Z cc own nL D) {x y : Int32} {off : Int} {tgt : Nat} {a b : Option (ρ × Mem)} (d : decode cc pc = .ok (.if_icmp .eq off, 3)) (ht : (pc : Int) + off = (tgt : Int)) (kt : x = y → AO E Z nL Qf tgt lv st μ a) (kf : ¬ x = y → AO E Z nL Qf (pc + 3) lv st μ b) : AO E Z nL Qf pc lv (.int y :: .int x :: st) μ (if x = y then a else b) := by
  obtain ⟨l, p, e, R, s, m, args, below, meth, c, cs, ss⟩ := Z
  exact fun r μ' h H locs ls hP hS hl => lv_icmp_eq X.1 X.2.1 d ht (fun c' => kt c' r μ' (by rwa [if_pos c'] at h) H locs ls hP hS hl) (fun c' => kf c' r μ' (by rwa [if_neg c'] at h) H locs ls hP hS hl)
theorem ao_icmp_ne (X : Cx E Z cc own nL D) {x y : Int32} {off : Int} {tgt : Nat} {a b : Option (ρ × Mem)} (d : decode cc pc = .ok (.if_icmp .ne off, 3)) (ht : (pc : Int) + off = (tgt : Int)) (kt : ¬ x = y → AO E Z nL Qf tgt lv st μ a) (kf : x = y → AO E Z nL Qf (pc + 3) lv st μ b) : AO E Z nL Qf pc lv (.int y :: .int x :: st) μ (if x = y then b else a) := by
  obtain ⟨l, p, e, R, s, m, args, below, meth, c, cs, ss⟩ := Z
  exact fun r μ' h H locs ls hP hS hl => lv_icmp_ne X.1 X.2.1 d ht (fun c' => kt c' r μ' (by rwa [if_neg c'] at h) H locs ls hP hS hl) (fun c' => kf c' r μ' (by rwa [if_pos c'] at h) H locs ls hP hS hl)
theorem ao_icmp_lt (X : Cx E Z cc own nL D) {x y : Int32} {off : Int} {tgt : Nat} {a b : Option (ρ × Mem)} (d : decode cc pc = .ok (.if_icmp .lt off, 3)) (ht : (pc : Int) + off = (tgt : Int)) (kt : x < y → AO E Z nL Qf tgt lv st μ a) (kf : ¬ x < y → AO E Z nL Qf (pc + 3) lv st μ b) : AO E Z nL Qf pc lv (.int y :: .int x :: st) μ (if x < y then a else b) := by
  obtain ⟨l, p, e, R, s, m, args, below, meth, c, cs, ss⟩ := Z
  exact fun r μ' h H locs ls hP hS hl => lv_icmp_lt X.1 X.2.1 d ht (fun c' => kt c' r μ' (by rwa [if_pos c'] at h) H locs ls hP hS hl) (fun c' => kf c' r μ' (by rwa [if_neg c'] at h) H locs ls hP hS hl)
theorem ao_icmp_ge (X : Cx E Z cc own nL D) {x y : Int32} {off : Int} {tgt : Nat} {a b : Option (ρ × Mem)} (d : decode cc pc = .ok (.if_icmp .ge off, 3)) (ht : (pc : Int) + off = (tgt : Int)) (kt : y ≤ x → AO E Z nL Qf tgt lv st μ a) (kf : ¬ y ≤ x → AO E Z nL Qf (pc + 3) lv st μ b) : AO E Z nL Qf pc lv (.int y :: .int x :: st) μ (if y ≤ x then a else b) := by
  obtain ⟨l, p, e, R, s, m, args, below, meth, c, cs, ss⟩ := Z
  exact fun r μ' h H locs ls hP hS hl => lv_icmp_ge X.1 X.2.1 d ht (fun c' => kt c' r μ' (by rwa [if_pos c'] at h) H locs ls hP hS hl) (fun c' => kf c' r μ' (by rwa [if_neg c'] at h) H locs ls hP hS hl)
theorem ao_icmp_gt (X : Cx E Z cc own nL D) {x y : Int32} {off : Int} {tgt : Nat} {a b : Option (ρ × Mem)} (d : decode cc pc = .ok (.if_icmp .gt off, 3)) (ht : (pc : Int) + off = (tgt : Int)) (kt : y < x → AO E Z nL Qf tgt lv st μ a) (kf : ¬ y < x → AO E Z nL Qf (pc + 3) lv st μ b) : AO E Z nL Qf pc lv (.int y :: .int x :: st) μ (if y < x then a else b) := by
  obtain ⟨l, p, e, R, s, m, args, below, meth, c, cs, ss⟩ := Z
  exact fun r μ' h H locs ls hP hS hl => lv_icmp_gt X.1 X.2.1 d ht (fun c' => kt c' r μ' (by rwa [if_pos c'] at h) H locs ls hP hS hl) (fun c' => kf c' r μ' (by rwa [if_neg c'] at h) H locs ls hP hS hl)
theorem ao_icmp_le (X : Cx E Z cc own nL D) {x y : Int32} {off : Int} {tgt : Nat} {a b : Option (ρ × Mem)} (d : decode cc pc = .ok (.if_icmp .le off, 3)) (ht : (pc : Int) + off = (tgt : Int)) (kt : x ≤ y → AO E Z nL Qf tgt lv st μ a) (kf : ¬ x ≤ y → AO E Z nL Qf (pc + 3) lv st μ b) : AO E Z nL Qf pc lv (.int y :: .int x :: st) μ (if x ≤ y then a else b) := by
  obtain ⟨l, p, e, R, s, m, args, below, meth, c, cs, ss⟩ := Z
  exact fun r μ' h H locs ls hP hS hl => lv_icmp_le X.1 X.2.1 d ht (fun c' => kt c' r μ' (by rwa [if_pos c'] at h) H locs ls hP hS hl) (fun c' => kf c' r μ' (by rwa [if_neg c'] at h) H locs ls hP hS hl)
theorem ao_ite {cd : Prop} [Decidable cd] {a b : Option (ρ × Mem)} (kt : cd → AO E Z nL Qf pc lv st μ a) (kf : ¬ cd → AO E Z nL Qf pc lv st μ b) : AO E Z nL Qf pc lv st μ (if cd then a else b) := by
  by_cases h : cd
  · rw [if_pos h]; exact kt h
  · rw [if_neg h]; exact kf h
theorem ao_tabIn (X : Cx E Z cc own nL D) {x k : Int32} {dflt lo hi off : Int} {offs : Array Int} {len tgt : Nat} (d : decode cc pc = .ok (.tableswitch dflt lo hi offs, len)) (hx : x = k) (h1 : ¬ k.toInt < lo) (h2 : ¬ hi < k.toInt) (ho : offs[(k.toInt - lo).toNat]? = some off) (ht : (pc : Int) + off = (tgt : Int)) (kk : AO E Z nL Qf tgt lv st μ o) : AO E Z nL Qf pc lv (.int x :: st) μ o := by
  obtain ⟨l, p, e, R, s, m, args, below, meth, c, cs, ss⟩ := Z
  subst hx
  exact fun r μ' h H locs ls hP hS hl => lv_tableIn X.1 X.2.1 d h1 h2 ho ht (kk r μ' h H locs ls hP hS hl)
theorem ao_tabOut (X : Cx E Z cc own nL D) {x : Int32} {dflt lo hi : Int} {offs : Array Int} {len tgt : Nat} (d : decode cc pc = .ok (.tableswitch dflt lo hi offs, len)) (hx : x.toInt < lo ∨ hi < x.toInt) (ht : (pc : Int) + dflt = (tgt : Int)) (kk : AO E Z nL Qf tgt lv st μ o) : AO E Z nL Qf pc lv (.int x :: st) μ o := by
  obtain ⟨l, p, e, R, s, m, args, below, meth, c, cs, ss⟩ := Z
  exact fun r μ' h H locs ls hP hS hl => lv_tableOut X.1 X.2.1 d hx ht (kk r μ' h H locs ls hP hS hl)
end Rules2
