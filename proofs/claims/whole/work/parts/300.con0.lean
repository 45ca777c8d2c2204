/-! making objects: worlds as lists -/
def nestW : List (String × Nat × MethodName × String) := [("HeWillNotPlead", 9, yX9_init, "HeWillNotPlead"), ("HeWillNotPlead", 18, yX7_init, "HeWillNotPlead"), ("HeWillNotPlead", 25, yX3_init, "HeWillNotPlead"), ("HeWillNotPlead$Gang", 3, yX5_init, "HeWillNotPlead"), ("HeWillNotPlead$Bench", 3, yX5_init, "HeWillNotPlead"), ("HeWillNotPlead", 41, yX0_init, "HeWillNotPlead"), ("HeWillNotPlead$Acts", 1, yX5_init, "HeWillNotPlead"), ("HeWillNotPlead", 48, yX8_init, "HeWillNotPlead")]
def KN (E : En) (lo : Nat) (U : State) : Prop := va_K (eD E) vwCl (tysL E) U ∧ vk_S 12 strLen strByt (eSk E) (eSv E) (fun q => lo ≤ q) U U.heap ∧ va_Z "java/lang/String" "COMPACT_STRINGS" "Z" (.int 1) (fun q => lo ≤ q) U U.heap ∧ (∀ q ∈ strTab, vk_R q.1 q.2.1 q.2.2.1 (eSk E q.2.2.2) U) ∧ (∀ q ∈ nestW, va_Nw (.methodLinkNest q.1 q.2.1 q.2.2.1 q.2.2.2) U) ∧ va_AO "HeWillNotPlead$Hall" U
theorem KN.blind {E : En} {lo : Nat} {U : State} (h : KN E lo U) (g : JFrame) (mk : MethodId) (a : Array Value) : KN E lo (U.calling g mk a) :=
  ⟨va_K.moved (u := U) (U := U.calling g mk a) (Vm.Alike.refl U.vm) h.1, vk_S.moved (u := U) (U := U.calling g mk a) (Vm.Alike.refl U.vm) h.2.1, va_Z.moved (u := U) (U := U.calling g mk a) (Vm.Alike.refl U.vm) h.2.2.1, fun q hq => vk_R.same (u := U) rfl (h.2.2.2.1 q hq), fun q hq => va_tabs (u := U) rfl rfl (h.2.2.2.2.1 q hq), va_AO.moved (u := U) (U := U.calling g mk a) (Vm.Alike.refl U.vm) h.2.2.2.2.2⟩
theorem KN.go {E : En} {lo : Nat} {A : Nat → Prop} {s U : State} {H : Heap} {locs : List Loc} (h : KN E lo s) (hlo : ∀ q, A q → lo ≤ q) (hS : va_S A s.heap H locs) (hU : U.heap = H) (hW : s.WarmedH U.vm) : KN E lo U := by
  obtain ⟨h1, h2, h3, h4, h5, h6⟩ := h
  subst hU
  have hk : ∀ a : Nat, a < s.heap.size → ¬ (fun q => lo ≤ q) a → U.heap[a]? = s.heap[a]? := fun a ha hn => hS.2.1 a ha (fun z => hn (hlo a z))
  exact ⟨va_K.moved hW.alike h1, vk_S.moved hW.alike (h2.kept hk), va_Z.moved hW.alike (h3.kept hk), fun q hq => vk_R.warm hW (h4 q hq), fun q hq => va_Nw.warmM hW (h5 q hq), va_AO.moved hW.alike h6⟩

/-- the making's constant circumstances; at most MC cells of MS places are new -/
def CC (E : En) (lo : Nat) (Z : Zt) (A : Nat → Prop) (cc : ByteArray) (own : String) (nL D MC MS : Nat) : Prop := match Z with
  | (_, p, _, R, s, m, args, _, meth, c, _, _) => p.tables.exec = Jvm.exec ∧ c.code = cc ∧ c.maxLocals = nL ∧ s.vm.findClass own = some m.cls ∧ (∀ w ∈ gw, w.before args s = true) ∧ KN E lo s ∧ (∀ q, s.heap.size ≤ q → A q) ∧ (∀ q, A q → lo ≤ q) ∧ (1 ≤ D ∧ D ≤ R.frames ∧ 40 * D ≤ R.locals ∧ MC ≤ R.cells ∧ MS ≤ R.slots) ∧ meth.locks = false
def isInit (Z : Zt) : Prop := match Z with
  | (_, _, _, _, _, _, _, _, meth, _, _, _) => meth.name = "<init>"
def AC (E : En) (Z : Zt) (A : Nat → Prop) (nL cs ss : Nat) (Q : State → Prop) (pc : Nat) (lv : List (Nat × Value)) (st : List Value) (ws : va_W) : Prop := match Z with
  | (l, p, e, R, s, m, args, below, meth, c, _, _) => ∀ (H : Heap) (locs : List Loc) (ls : Array Slot), va_P (eD E) vwCl ws H → va_D A ws → va_S A s.heap H locs → lv_has ls nL lv → W p l e R s m args below meth c H locs cs ss Q (F0 m pc ls st)
theorem ca_eq {E : En} {s : State} {cA cB : ClassId} {ty : FieldType} {tys : List (ClassId × FieldType)} {i : Nat} (hK : va_K (eD E) vwCl (tys ++ [(cA, ty)]) s) (hi : tys[i]? = some (cB, ty)) : cA = cB := by
  have h1 := (hK.2 tys.length (cA, ty) (by simp)).2
  have h2 := (hK.2 i (cB, ty) (by rw [List.getElem?_append_left (List.getElem?_eq_some_iff.mp hi).1]; exact hi)).2
  cases ty with
  | object C =>
    obtain ⟨_, _, _, _, _, a⟩ := h1
    obtain ⟨_, _, _, _, _, b⟩ := h2
    exact Option.some.inj (a.symm.trans b)
  | _ =>
    have a : s.vm.findClass _ = some cA := h1
    have b : s.vm.findClass _ = some cB := h2
    exact Option.some.inj (a.symm.trans b)
section RulesC
variable {E : En} {l : Launch} {lo : Nat} {Z : Zt} {A : Nat → Prop} {cc : ByteArray} {own : String} {nL D MC MS cs ss : Nat} {Q : State → Prop} {pc : Nat} {lv : List (Nat × Value)} {st : List Value} {ws ws' : va_W}
theorem ac_iconst (X : CC E lo Z A cc own nL D MC MS) {n : Int} {v : Int32} (d : decode cc pc = .ok (.iconst n, 1)) (hv : Int32.ofInt n = v) (kk : AC E Z A nL cs ss Q (pc + 1) lv (.int v :: st) ws) : AC E Z A nL cs ss Q pc lv st ws := by
  obtain ⟨l, p, e, R, s, m, args, below, meth, c, c0, s0⟩ := Z
  obtain ⟨hx, hb, hml, hown, hts, hK, hA, hlo, hR, hlk⟩ := X
  exact fun H locs ls hP hD hS hl => lv_iconst hx hb d hv (kk H locs ls hP hD hS hl)
theorem ac_bipush (X : CC E lo Z A cc own nL D MC MS) {n : Int} {v : Int32} (d : decode cc pc = .ok (.bipush n, 2)) (hv : (Int8.ofInt n).toInt32 = v) (kk : AC E Z A nL cs ss Q (pc + 2) lv (.int v :: st) ws) : AC E Z A nL cs ss Q pc lv st ws := by
  obtain ⟨l, p, e, R, s, m, args, below, meth, c, c0, s0⟩ := Z
  obtain ⟨hx, hb, hml, hown, hts, hK, hA, hlo, hR, hlk⟩ := X
  exact fun H locs ls hP hD hS hl => lv_bipush hx hb d hv (kk H locs ls hP hD hS hl)
theorem ac_sipush (X : CC E lo Z A cc own nL D MC MS) {n : Int} {v : Int32} (d : decode cc pc = .ok (.sipush n, 3)) (hv : (Int16.ofInt n).toInt32 = v) (kk : AC E Z A nL cs ss Q (pc + 3) lv (.int v :: st) ws) : AC E Z A nL cs ss Q pc lv st ws := by
  obtain ⟨l, p, e, R, s, m, args, below, meth, c, c0, s0⟩ := Z
  obtain ⟨hx, hb, hml, hown, hts, hK, hA, hlo, hR, hlk⟩ := X
  exact fun H locs ls hP hD hS hl => lv_sipush hx hb d hv (kk H locs ls hP hD hS hl)
theorem ac_iload_n (X : CC E lo Z A cc own nL D MC MS) {k : Fin 4} {x : Int32} (d : decode cc pc = .ok (.iload_n k, 1)) (hk : lv.lookup k.val = some (.int x)) (kk : AC E Z A nL cs ss Q (pc + 1) lv (.int x :: st) ws) : AC E Z A nL cs ss Q pc lv st ws := by
  obtain ⟨l, p, e, R, s, m, args, below, meth, c, c0, s0⟩ := Z
  obtain ⟨hx, hb, hml, hown, hts, hK, hA, hlo, hR, hlk⟩ := X
  exact fun H locs ls hP hD hS hl => lv_iload_n hx hb d rfl (lk_at hl hk) (kk H locs ls hP hD hS hl)
theorem ac_iload (X : CC E lo Z A cc own nL D MC MS) {i : Nat} {x : Int32} (d : decode cc pc = .ok (.iload i, 2)) (hk : lv.lookup i = some (.int x)) (kk : AC E Z A nL cs ss Q (pc + 2) lv (.int x :: st) ws) : AC E Z A nL cs ss Q pc lv st ws := by
  obtain ⟨l, p, e, R, s, m, args, below, meth, c, c0, s0⟩ := Z
  obtain ⟨hx, hb, hml, hown, hts, hK, hA, hlo, hR, hlk⟩ := X
  exact fun H locs ls hP hD hS hl => lv_iload hx hb d (lk_at hl hk) (kk H locs ls hP hD hS hl)
theorem ac_aload_n (X : CC E lo Z A cc own nL D MC MS) {k : Fin 4} {x : Nat} (d : decode cc pc = .ok (.aload_n k, 1)) (hk : lv.lookup k.val = some (.ref x)) (kk : AC E Z A nL cs ss Q (pc + 1) lv (.ref x :: st) ws) : AC E Z A nL cs ss Q pc lv st ws := by
  obtain ⟨l, p, e, R, s, m, args, below, meth, c, c0, s0⟩ := Z
  obtain ⟨hx, hb, hml, hown, hts, hK, hA, hlo, hR, hlk⟩ := X
  exact fun H locs ls hP hD hS hl => lv_aload_n hx hb d rfl (lk_at hl hk) (kk H locs ls hP hD hS hl)
theorem ac_istore_n (X : CC E lo Z A cc own nL D MC MS) {k : Fin 4} {i : Nat} {x : Int32} {lv' : List (Nat × Value)} (d : decode cc pc = .ok (.istore_n k, 1)) (hi : (k : Nat) = i) (hn : i < nL) (hl2 : (i, Value.int x) :: lv.filter (fun q => !(q.1 == i) && !(q.1 + 1 == i && q.2.category == 2)) = lv') (kk : AC E Z A nL cs ss Q (pc + 1) lv' st ws) : AC E Z A nL cs ss Q pc lv (.int x :: st) ws := by
  obtain ⟨l, p, e, R, s, m, args, below, meth, c, c0, s0⟩ := Z
  obtain ⟨hx, hb, hml, hown, hts, hK, hA, hlo, hR, hlk⟩ := X
  exact fun H locs ls hP hD hS hl => lv_istore_n hx hb d hi hl hn hl2 (fun ls' hl' => kk H locs ls' hP hD hS hl')
theorem ac_istore (X : CC E lo Z A cc own nL D MC MS) {i : Nat} {x : Int32} {lv' : List (Nat × Value)} (d : decode cc pc = .ok (.istore i, 2)) (hn : i < nL) (hl2 : (i, Value.int x) :: lv.filter (fun q => !(q.1 == i) && !(q.1 + 1 == i && q.2.category == 2)) = lv') (kk : AC E Z A nL cs ss Q (pc + 2) lv' st ws) : AC E Z A nL cs ss Q pc lv (.int x :: st) ws := by
  obtain ⟨l, p, e, R, s, m, args, below, meth, c, c0, s0⟩ := Z
  obtain ⟨hx, hb, hml, hown, hts, hK, hA, hlo, hR, hlk⟩ := X
  exact fun H locs ls hP hD hS hl => lv_istore hx hb d hl hn hl2 (fun ls' hl' => kk H locs ls' hP hD hS hl')
theorem ac_astore_n (X : CC E lo Z A cc own nL D MC MS) {k : Fin 4} {i : Nat} {x : Nat} {lv' : List (Nat × Value)} (d : decode cc pc = .ok (.astore_n k, 1)) (hi : (k : Nat) = i) (hn : i < nL) (hl2 : (i, Value.ref x) :: lv.filter (fun q => !(q.1 == i) && !(q.1 + 1 == i && q.2.category == 2)) = lv') (kk : AC E Z A nL cs ss Q (pc + 1) lv' st ws) : AC E Z A nL cs ss Q pc lv (.ref x :: st) ws := by
  obtain ⟨l, p, e, R, s, m, args, below, meth, c, c0, s0⟩ := Z
  obtain ⟨hx, hb, hml, hown, hts, hK, hA, hlo, hR, hlk⟩ := X
  exact fun H locs ls hP hD hS hl => lv_astore_n hx hb d hi hl hn hl2 (fun ls' hl' => kk H locs ls' hP hD hS hl')
theorem ac_astore (X : CC E lo Z A cc own nL D MC MS) {i : Nat} {x : Nat} {lv' : List (Nat × Value)} (d : decode cc pc = .ok (.astore i, 2)) (hn : i < nL) (hl2 : (i, Value.ref x) :: lv.filter (fun q => !(q.1 == i) && !(q.1 + 1 == i && q.2.category == 2)) = lv') (kk : AC E Z A nL cs ss Q (pc + 2) lv' st ws) : AC E Z A nL cs ss Q pc lv (.ref x :: st) ws := by
  obtain ⟨l, p, e, R, s, m, args, below, meth, c, c0, s0⟩ := Z
  obtain ⟨hx, hb, hml, hown, hts, hK, hA, hlo, hR, hlk⟩ := X
  exact fun H locs ls hP hD hS hl => lv_astore hx hb d hl hn hl2 (fun ls' hl' => kk H locs ls' hP hD hS hl')
theorem ac_iinc (X : CC E lo Z A cc own nL D MC MS) {i k : Nat} {n : Int} {x v : Int32} {lv' : List (Nat × Value)} (d : decode cc pc = .ok (.iinc i n, 3)) (hk : lv[k]? = some (i, .int x)) (hv : x + Int32.ofInt n = v) (hn : i < nL) (hl2 : (i, Value.int v) :: lv.filter (fun q => !(q.1 == i) && !(q.1 + 1 == i && q.2.category == 2)) = lv') (kk : AC E Z A nL cs ss Q (pc + 3) lv' st ws) : AC E Z A nL cs ss Q pc lv st ws := by
  obtain ⟨l, p, e, R, s, m, args, below, meth, c, c0, s0⟩ := Z
  obtain ⟨hx, hb, hml, hown, hts, hK, hA, hlo, hR, hlk⟩ := X
  exact fun H locs ls hP hD hS hl => lv_iinc hx hb d hl hk hv hn hl2 (fun ls' hl' => kk H locs ls' hP hD hS hl')
theorem ac_dup (X : CC E lo Z A cc own nL D MC MS) {v : Value} (d : decode cc pc = .ok (.dup, 1)) (hc : v.category = 1) (kk : AC E Z A nL cs ss Q (pc + 1) lv (v :: v :: st) ws) : AC E Z A nL cs ss Q pc lv (v :: st) ws := by
  obtain ⟨l, p, e, R, s, m, args, below, meth, c, c0, s0⟩ := Z
  obtain ⟨hx, hb, hml, hown, hts, hK, hA, hlo, hR, hlk⟩ := X
  exact fun H locs ls hP hD hS hl => lv_dup hx hb d hc (kk H locs ls hP hD hS hl)
theorem ac_goto (X : CC E lo Z A cc own nL D MC MS) {off : Int} {tgt : Nat} (d : decode cc pc = .ok (.goto off, 3)) (ht : (pc : Int) + off = (tgt : Int)) (kk : AC E Z A nL cs ss Q tgt lv st ws) : AC E Z A nL cs ss Q pc lv st ws := by
  obtain ⟨l, p, e, R, s, m, args, below, meth, c, c0, s0⟩ := Z
  obtain ⟨hx, hb, hml, hown, hts, hK, hA, hlo, hR, hlk⟩ := X
  exact fun H locs ls hP hD hS hl => lv_goto hx hb d ht (kk H locs ls hP hD hS hl)
theorem ac_ge_t (X : CC E lo Z A cc own nL D MC MS) {x y : Int32} {off : Int} {tgt : Nat} (d : decode cc pc = .ok (.if_icmp .ge off, 3)) (ht : (pc : Int) + off = (tgt : Int)) (hc : y ≤ x) (kk : AC E Z A nL cs ss Q tgt lv st ws) : AC E Z A nL cs ss Q pc lv (.int y :: .int x :: st) ws := by
  obtain ⟨l, p, e, R, s, m, args, below, meth, c, c0, s0⟩ := Z
  obtain ⟨hx, hb, hml, hown, hts, hK, hA, hlo, hR, hlk⟩ := X
  exact fun H locs ls hP hD hS hl => lv_icmp_ge hx hb d ht (fun _ => (kk H locs ls hP hD hS hl)) (fun n => absurd hc n)
theorem ac_ge_f (X : CC E lo Z A cc own nL D MC MS) {x y : Int32} {off : Int} {tgt : Nat} (d : decode cc pc = .ok (.if_icmp .ge off, 3)) (ht : (pc : Int) + off = (tgt : Int)) (hc : ¬ y ≤ x) (kk : AC E Z A nL cs ss Q (pc + 3) lv st ws) : AC E Z A nL cs ss Q pc lv (.int y :: .int x :: st) ws := by
  obtain ⟨l, p, e, R, s, m, args, below, meth, c, c0, s0⟩ := Z
  obtain ⟨hx, hb, hml, hown, hts, hK, hA, hlo, hR, hlk⟩ := X
  exact fun H locs ls hP hD hS hl => lv_icmp_ge hx hb d ht (fun n => absurd n hc) (fun _ => (kk H locs ls hP hD hS hl))
theorem ac_ldcS (X : CC E lo Z A cc own nL D MC MS) {idx i : Nat} {tx : String} (d : decode cc pc = .ok (.ldc idx, 2)) (hi : (own, idx, tx, i) ∈ strTab) (kk : AC E Z A nL cs ss Q (pc + 2) lv (.ref (eSk E i) :: st) ws) : AC E Z A nL cs ss Q pc lv st ws := by
  obtain ⟨l, p, e, R, s, m, args, below, meth, c, c0, s0⟩ := Z
  obtain ⟨hx, hb, hml, hown, hts, hK, hA, hlo, hR, hlk⟩ := X
  exact fun H locs ls hP hD hS hl => va_ldcS hx hb hown (hK.2.2.2.1 _ hi) d (kk H locs ls hP hD hS hl)
def ObjW : Prop := Cond.instanceMethod Lib.objectInit ∈ gw ∧ Cond.code Lib.objectInit ⟨#[0xb1]⟩ 1 none ∈ gw
theorem ac_obj (X : CC E lo Z A cc own nL D MC MS) {idx a : Nat} (d : decode cc pc = .ok (.invokespecial idx, 3)) (hk : Cond.methodLink own idx Lib.objectInit ∈ gw) (hw : ObjW) (hc : (st.map fun v => v.category).sum ≤ 8) (kk : AC E Z A nL cs ss Q (pc + 3) lv st ws) : AC E Z A nL cs ss Q pc lv (.ref a :: st) ws := by
  obtain ⟨l, p, e, R, s, m, args, below, meth, c, c0, s0⟩ := Z
  obtain ⟨hx, hb, hml, hown, hts, hK, hA, hlo, hR, hlk⟩ := X
  exact fun H locs ls hP hD hS hl => W.objInit hx hb hown (hts _ hk) (hts _ hw.1) (hts _ hw.2) rfl (hl.1.trans hml.symm) rfl d (by omega) (by have := lv_room (m := m) (pc := pc) (ls := ls) (rest := .ref a :: st) hc; omega) (kk H locs ls hP hD hS hl)
def NewW (own : String) (idx ci : Nat) (C : String) (T : u_T) (N : Nat) (fs : List Value) : Prop := vwCl[ci]? = some (C, T, N) ∧ (∀ w ∈ u_ws C T N, w ∈ gw) ∧ Cond.classLink own idx C ∈ gw ∧ Cond.instantiable C N ∈ gw ∧ Cond.initialized C ∈ gw ∧ ∃ ty : Nat → FieldType, (∀ k, k < N → parseFieldDescriptor (T k).2.2.1 = some (ty k)) ∧ ∀ j, j < N → defaultValue (ty j) = vp_V fs j
theorem ac_new (X : CC E lo Z A cc own nL D MC MS) {idx ci N : Nat} {C : String} {T : u_T} {fs : List Value} (d : decode cc pc = .ok (.new idx, 3)) (hw : NewW own idx ci C T N fs) (h1 : cs + 1 ≤ MC) (h2 : ss + N ≤ MS) (kk : ∀ q : Nat, AC E Z A nL (cs + 1) (ss + N) Q (pc + 3) lv (.ref q :: st) (ws ++ [(q, .inr (ci, fs))])) : AC E Z A nL cs ss Q pc lv st ws := by
  obtain ⟨l, p, e, R, s, m, args, below, meth, c, c0, s0⟩ := Z
  obtain ⟨hx, hb, hml, hown, hts, hK, hA, hlo, hR, hlk⟩ := X
  obtain ⟨g1, g2, g3, g4, g5, ty, g6, g7⟩ := hw
  exact fun H locs ls hP hD hS hl => va_new (ci := ci) (fs := fs) (C := C) (T := T) (N := N) hx hb hts g2 ty g6 hown (hts _ g3) (hts _ g4) (hts _ g5) hK.1 hP hD hS hA g1 g7 (by omega) (by omega) d (fun q H1 hP1 hD1 hS1 => kk q H1 locs ls hP1 hD1 hS1 hl)
theorem ac_newaI (X : CC E lo Z A cc own nL D MC MS) {n : Int32} {N : Nat} (d : decode cc pc = .ok (.newarray .int, 2)) (hw : Cond.arrayClass .int ∈ gw) (hn : ¬ n < 0) (hN : n.toNatClampNeg = N) (hby : N ≤ 1000) (h1 : cs + 1 ≤ MC) (h2 : ss + N ≤ MS) (kk : ∀ q : Nat, AC E Z A nL (cs + 1) (ss + N) Q (pc + 2) lv (.ref q :: st) (ws ++ [(q, .inl (eCa E 0, N, .inl (fun _ => 0)))])) : AC E Z A nL cs ss Q pc lv (.int n :: st) ws := by
  obtain ⟨l, p, e, R, s, m, args, below, meth, c, c0, s0⟩ := Z
  obtain ⟨hx, hb, hml, hown, hts, hK, hA, hlo, hR, hlk⟩ := X
  have hbb : N * componentBytes .int ≤ 536870912 := Nat.le_trans (Nat.mul_le_mul hby (show componentBytes .int ≤ 8 by decide)) (by decide)
  exact fun H locs ls hP hD hS hl => va_newa (atype := .int) (a0 := (N, .inl (fun _ => 0))) (ty := .int) hx hb (hts _ hw) rfl hK.1 hP hD hS hA (fun _ => rfl) hn hN hbb (by omega) (by omega) d (fun q cA H1 hK1 hP1 hD1 hS1 => by
    have e1 := ca_eq hK1 (i := 0) rfl
    subst e1
    exact kk q H1 locs ls hP1 hD1 hS1 hl)
theorem ac_newaC (X : CC E lo Z A cc own nL D MC MS) {n : Int32} {N : Nat} (d : decode cc pc = .ok (.newarray .char, 2)) (hw : Cond.arrayClass .char ∈ gw) (hn : ¬ n < 0) (hN : n.toNatClampNeg = N) (hby : N ≤ 1000) (h1 : cs + 1 ≤ MC) (h2 : ss + N ≤ MS) (kk : ∀ q : Nat, AC E Z A nL (cs + 1) (ss + N) Q (pc + 2) lv (.ref q :: st) (ws ++ [(q, .inl (eCa E 1, N, .inl (fun _ => 0)))])) : AC E Z A nL cs ss Q pc lv (.int n :: st) ws := by
  obtain ⟨l, p, e, R, s, m, args, below, meth, c, c0, s0⟩ := Z
  obtain ⟨hx, hb, hml, hown, hts, hK, hA, hlo, hR, hlk⟩ := X
  have hbb : N * componentBytes .char ≤ 536870912 := Nat.le_trans (Nat.mul_le_mul hby (show componentBytes .char ≤ 8 by decide)) (by decide)
  exact fun H locs ls hP hD hS hl => va_newa (atype := .char) (a0 := (N, .inl (fun _ => 0))) (ty := .char) hx hb (hts _ hw) rfl hK.1 hP hD hS hA (fun _ => rfl) hn hN hbb (by omega) (by omega) d (fun q cA H1 hK1 hP1 hD1 hS1 => by
    have e1 := ca_eq hK1 (i := 1) rfl
    subst e1
    exact kk q H1 locs ls hP1 hD1 hS1 hl)
theorem ac_newaB (X : CC E lo Z A cc own nL D MC MS) {n : Int32} {N : Nat} (d : decode cc pc = .ok (.newarray .byte, 2)) (hw : Cond.arrayClass .byte ∈ gw) (hn : ¬ n < 0) (hN : n.toNatClampNeg = N) (hby : N ≤ 1000) (h1 : cs + 1 ≤ MC) (h2 : ss + N ≤ MS) (kk : ∀ q : Nat, AC E Z A nL (cs + 1) (ss + N) Q (pc + 2) lv (.ref q :: st) (ws ++ [(q, .inl (eCa E 2, N, .inl (fun _ => 0)))])) : AC E Z A nL cs ss Q pc lv (.int n :: st) ws := by
  obtain ⟨l, p, e, R, s, m, args, below, meth, c, c0, s0⟩ := Z
  obtain ⟨hx, hb, hml, hown, hts, hK, hA, hlo, hR, hlk⟩ := X
  have hbb : N * componentBytes .byte ≤ 536870912 := Nat.le_trans (Nat.mul_le_mul hby (show componentBytes .byte ≤ 8 by decide)) (by decide)
  exact fun H locs ls hP hD hS hl => va_newa (atype := .byte) (a0 := (N, .inl (fun _ => 0))) (ty := .byte) hx hb (hts _ hw) rfl hK.1 hP hD hS hA (fun _ => rfl) hn hN hbb (by omega) (by omega) d (fun q cA H1 hK1 hP1 hD1 hS1 => by
    have e1 := ca_eq hK1 (i := 2) rfl
    subst e1
    exact kk q H1 locs ls hP1 hD1 hS1 hl)
theorem ac_newaZ (X : CC E lo Z A cc own nL D MC MS) {n : Int32} {N : Nat} (d : decode cc pc = .ok (.newarray .boolean, 2)) (hw : Cond.arrayClass .boolean ∈ gw) (hn : ¬ n < 0) (hN : n.toNatClampNeg = N) (hby : N ≤ 1000) (h1 : cs + 1 ≤ MC) (h2 : ss + N ≤ MS) (kk : ∀ q : Nat, AC E Z A nL (cs + 1) (ss + N) Q (pc + 2) lv (.ref q :: st) (ws ++ [(q, .inl (eCa E 3, N, .inl (fun _ => 0)))])) : AC E Z A nL cs ss Q pc lv (.int n :: st) ws := by
  obtain ⟨l, p, e, R, s, m, args, below, meth, c, c0, s0⟩ := Z
  obtain ⟨hx, hb, hml, hown, hts, hK, hA, hlo, hR, hlk⟩ := X
  have hbb : N * componentBytes .boolean ≤ 536870912 := Nat.le_trans (Nat.mul_le_mul hby (show componentBytes .boolean ≤ 8 by decide)) (by decide)
  exact fun H locs ls hP hD hS hl => va_newa (atype := .boolean) (a0 := (N, .inl (fun _ => 0))) (ty := .boolean) hx hb (hts _ hw) rfl hK.1 hP hD hS hA (fun _ => rfl) hn hN hbb (by omega) (by omega) d (fun q cA H1 hK1 hP1 hD1 hS1 => by
    have e1 := ca_eq hK1 (i := 3) rfl
    subst e1
    exact kk q H1 locs ls hP1 hD1 hS1 hl)
theorem ac_newaJ (X : CC E lo Z A cc own nL D MC MS) {n : Int32} {N : Nat} (d : decode cc pc = .ok (.newarray .long, 2)) (hw : Cond.arrayClass .long ∈ gw) (hn : ¬ n < 0) (hN : n.toNatClampNeg = N) (hby : N ≤ 1000) (h1 : cs + 1 ≤ MC) (h2 : ss + N ≤ MS) (kk : ∀ q : Nat, AC E Z A nL (cs + 1) (ss + N) Q (pc + 2) lv (.ref q :: st) (ws ++ [(q, .inl (eCa E 4, N, .inr (.inl (fun _ => 0))))])) : AC E Z A nL cs ss Q pc lv (.int n :: st) ws := by
  obtain ⟨l, p, e, R, s, m, args, below, meth, c, c0, s0⟩ := Z
  obtain ⟨hx, hb, hml, hown, hts, hK, hA, hlo, hR, hlk⟩ := X
  have hbb : N * componentBytes .long ≤ 536870912 := Nat.le_trans (Nat.mul_le_mul hby (show componentBytes .long ≤ 8 by decide)) (by decide)
  exact fun H locs ls hP hD hS hl => va_newa (atype := .long) (a0 := (N, .inr (.inl (fun _ => 0)))) (ty := .long) hx hb (hts _ hw) rfl hK.1 hP hD hS hA (fun _ => rfl) hn hN hbb (by omega) (by omega) d (fun q cA H1 hK1 hP1 hD1 hS1 => by
    have e1 := ca_eq hK1 (i := 4) rfl
    subst e1
    exact kk q H1 locs ls hP1 hD1 hS1 hl)
theorem ac_newq (X : CC E lo Z A cc own nL D MC MS) {idx : Nat} {n : Int32} {N : Nat} (d : decode cc pc = .ok (.anewarray idx, 3)) (hw : Cond.classLink own idx "HeWillNotPlead$Hall" ∈ gw) (hn : ¬ n < 0) (hN : n.toNatClampNeg = N) (hby : N ≤ 1000) (h1 : cs + 1 ≤ MC) (h2 : ss + N ≤ MS) (kk : ∀ q : Nat, AC E Z A nL (cs + 1) (ss + N) Q (pc + 3) lv (.ref q :: st) (ws ++ [(q, .inl (eCa E 5, N, .inr (.inr (.inr (.inr (fun _ => none))))))])) : AC E Z A nL cs ss Q pc lv (.int n :: st) ws := by
  obtain ⟨l, p, e, R, s, m, args, below, meth, c, c0, s0⟩ := Z
  obtain ⟨hx, hb, hml, hown, hts, hK, hA, hlo, hR, hlk⟩ := X
  exact fun H locs ls hP hD hS hl => va_newq hx hb hown (hts _ hw) hK.2.2.2.2.2 hK.1 hP hD hS hA hn hN (by omega) (by omega) (by omega) d (fun q cA H1 hK1 hP1 hD1 hS1 => by
    have e1 := ca_eq hK1 (i := 5) rfl
    subst e1
    exact kk q H1 locs ls hP1 hD1 hS1 hl)
theorem ac_put (X : CC E lo Z A cc own nL D MC MS) {idx ci j q0 a : Nat} {v : Value} {fs : List Value} {ty : FieldType} (d : decode cc pc = .ok (.putfield idx, 3)) (lk : FPt own idx ci j ty) (he : ws[q0]? = some (a, .inr (ci, fs))) (hn : narrow ty v = v) (hf : fits ty v = true) (hlt : j < fs.length) (hw : ws.set q0 (a, .inr (ci, fs.set j v)) = ws') (kk : AC E Z A nL cs ss Q (pc + 3) lv st ws') : AC E Z A nL cs ss Q pc lv (v :: .ref a :: st) ws := by
  obtain ⟨l, p, e, R, s, m, args, below, meth, c, c0, s0⟩ := Z
  obtain ⟨hx, hb, hml, hown, hts, hK, hA, hlo, hR, hlk⟩ := X
  obtain ⟨C, T, N, h1, h2, h3, h4, h5, h6, ⟨ty0, h7⟩, h8⟩ := lk
  subst hw
  exact fun H locs ls hP hD hS hl => va_put (D := eD E) (ci := ci) (v := v) (ty := ty) (C := C) (T := T) (N := N) hx hb hts h3 ty0 h7 h8 hown hK.1 hP hD hS q0 he h1 j h2 (hts _ h4) (fun _ h9 => h9) h5 h6 hn hf hlt d (fun H1 locs1 hP1 hD1 hS1 => kk H1 locs1 ls hP1 hD1 hS1 hl)
def FPf (own : String) (idx ci j : Nat) (ty : FieldType) : Prop := ∃ C T N, vwCl[ci]? = some (C, T, N) ∧ j < N ∧ (∀ w ∈ u_ws C T N, w ∈ gw) ∧ Cond.fieldLink own idx (T j).1 (T j).2.1 (T j).2.2.1 ∈ gw ∧ (T j).2.2.2 = true ∧ parseFieldDescriptor (T j).2.2.1 = some ty ∧ (∃ ty0 : Nat → FieldType, ∀ k, k < N → parseFieldDescriptor (T k).2.2.1 = some (ty0 k)) ∧ (∀ a, a < N → ∀ b, b < N → a ≠ b → (T a).2.1 ≠ (T b).2.1) ∧ (T j).1 = own
theorem ac_putF (X : CC E lo Z A cc own nL D MC MS) (hin : isInit Z) {idx ci j q0 a : Nat} {v : Value} {fs : List Value} {ty : FieldType} (d : decode cc pc = .ok (.putfield idx, 3)) (lk : FPf own idx ci j ty) (he : ws[q0]? = some (a, .inr (ci, fs))) (hn : narrow ty v = v) (hf : fits ty v = true) (hlt : j < fs.length) (hw : ws.set q0 (a, .inr (ci, fs.set j v)) = ws') (kk : AC E Z A nL cs ss Q (pc + 3) lv st ws') : AC E Z A nL cs ss Q pc lv (v :: .ref a :: st) ws := by
  obtain ⟨l, p, e, R, s, m, args, below, meth, c, c0, s0⟩ := Z
  obtain ⟨hx, hb, hml, hown, hts, hK, hA, hlo, hR, hlk⟩ := X
  obtain ⟨C, T, N, h1, h2, h3, h4, h5, h6, ⟨ty0, h7⟩, h8, h9⟩ := lk
  subst hw
  exact fun H locs ls hP hD hS hl => va_putF (D := eD E) (ci := ci) (v := v) (ty := ty) (C := C) (T := T) (N := N) hx hb hts h3 ty0 h7 h8 hown hK.1 hP hD hS q0 he h1 j h2 (hts _ h4) (fun _ h9 => h9) h5 hin h9 h6 hn hf hlt d (fun H1 locs1 hP1 hD1 hS1 => kk H1 locs1 ls hP1 hD1 hS1 hl)
theorem ac_get (X : CC E lo Z A cc own nL D MC MS) {idx ci j q0 a : Nat} {v : Value} {fs : List Value} (d : decode cc pc = .ok (.getfield idx, 3)) (lk : FLk own idx ci j) (he : ws[q0]? = some (a, .inr (ci, fs))) (hv : fs[j]? = some v) (kk : AC E Z A nL cs ss Q (pc + 3) lv (v :: st) ws) : AC E Z A nL cs ss Q pc lv (.ref a :: st) ws := by
  obtain ⟨l, p, e, R, s, m, args, below, meth, c, c0, s0⟩ := Z
  obtain ⟨hx, hb, hml, hown, hts, hK, hA, hlo, hR, hlk⟩ := X
  exact fun H locs ls hP hD hS hl => by
    obtain ⟨C, T, N, h1, h2, h3, h4⟩ := lk
    exact va_get (D := eD E) (ci := ci) (v := v) (C := C) (T := T) (N := N) hx hb hts h3 hown hK.1 hP q0 he h1 j h2 (hts _ h4) (fun _ h9 => h9) hv d (kk H locs ls hP hD hS hl)
theorem ac_iast (X : CC E lo Z A cc own nL D MC MS) {q0 a n : Nat} {f : Nat → Int32} {i v : Int32} (d : decode cc pc = .ok (.iastore, 1)) (he : ws[q0]? = some (a, .inl (eCa E 0, n, .inl f))) (hi : inb i n = true) (hw : ws.set q0 (a, .inl (eCa E 0, n, .inl (upd f i.toNatClampNeg v))) = ws') (kk : AC E Z A nL cs ss Q (pc + 1) lv st ws') : AC E Z A nL cs ss Q pc lv (.int v :: .int i :: .ref a :: st) ws := by
  obtain ⟨l, p, e, R, s, m, args, below, meth, c, c0, s0⟩ := Z
  obtain ⟨hx, hb, hml, hown, hts, hK, hA, hlo, hR, hlk⟩ := X
  subst hw
  exact fun H locs ls hP hD hS hl => va_iast hx hb hK.1 hP hD hS q0 0 he rfl (inb_in hi) d (fun H1 locs1 hP1 hD1 hS1 => kk H1 locs1 ls hP1 hD1 hS1 hl)
theorem ac_aast (X : CC E lo Z A cc own nL D MC MS) {q0 qk a n v : Nat} {vs : List Value} {f : Nat → Option Nat} {i : Int32} (d : decode cc pc = .ok (.aastore, 1)) (he : ws[q0]? = some (a, .inl (eCa E 5, n, .inr (.inr (.inr (.inr f)))))) (hv : ws[qk]? = some (v, .inr (4, vs))) (hi : inb i n = true) (hw : ws.set q0 (a, .inl (eCa E 5, n, .inr (.inr (.inr (.inr (va_up f i.toNatClampNeg (some v))))))) = ws') (kk : AC E Z A nL cs ss Q (pc + 1) lv st ws') : AC E Z A nL cs ss Q pc lv (.ref v :: .int i :: .ref a :: st) ws := by
  obtain ⟨l, p, e, R, s, m, args, below, meth, c, c0, s0⟩ := Z
  obtain ⟨hx, hb, hml, hown, hts, hK, hA, hlo, hR, hlk⟩ := X
  subst hw
  exact fun H locs ls hP hD hS hl => va_astq (r := (RX4, TX4, 9)) hx hb hK.1 hP hD hS q0 5 qk 4 he rfl hv rfl (inb_in hi) d (fun H1 locs1 hP1 hD1 hS1 => kk H1 locs1 ls hP1 hD1 hS1 hl)
end RulesC
theorem ac_norm {E : En} {Z : Zt} {A : Nat → Prop} {nL cs ss cs' ss' : Nat} {Q : State → Prop} {pc : Nat} {lv : List (Nat × Value)} {st : List Value} {ws ws' : va_W} (hw : ws = ws') (hc : cs = cs') (hs : ss = ss') (kk : AC E Z A nL cs' ss' Q pc lv st ws') : AC E Z A nL cs ss Q pc lv st ws := by
  subst hw; subst hc; subst hs; exact kk
