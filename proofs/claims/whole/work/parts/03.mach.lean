def gI (μ : Mem) (k j : Nat) : Int32 := μ.1 k j
def gL (μ : Mem) (k j : Nat) : Int64 := μ.2 k j
def sI (μ : Mem) (k j : Nat) (v : Int32) : Mem := (fun a b => if a = k ∧ b = j then v else μ.1 a b, μ.2)
def sL (μ : Mem) (k j : Nat) (v : Int64) : Mem := (μ.1, fun a b => if a = k ∧ b = j then v else μ.2 a b)
/-- a stretch of cell k (from sp on, n places) laid into cell k2 from dp on -/
def sC (μ : Mem) (k k2 sp dp n : Nat) : Mem := (fun a => if a = k2 then va_cpy (μ.1 k) (μ.1 k2) sp dp n else μ.1 a, μ.2)
abbrev En : Type := (Nat → ClassId) × (Nat → Nat → Nat) × (Nat → Nat) × (Nat → ClassId) × (Nat → Nat) × (Nat → Nat)
def eD (E : En) : va_G := (E.1, E.2.1)
def eAd (E : En) : Nat → Nat := E.2.2.1
def eCa (E : En) : Nat → ClassId := E.2.2.2.1
def eSk (E : En) : Nat → Nat := E.2.2.2.2.1
def eSv (E : En) : Nat → Nat := E.2.2.2.2.2
def tysL (E : En) : List (ClassId × FieldType) := [(eCa E 0, .int), (eCa E 1, .char), (eCa E 2, .byte), (eCa E 3, .boolean), (eCa E 4, .long), (eCa E 5, .object "HeWillNotPlead$Hall")]
def fv (E : En) (f : Nat → Int32) (j : Nat) : Nat ⊕ Bool → Value
  | .inl t => .ref (eAd E t)
  | .inr false => .int (f j)
  | .inr true => if f j < 0 then .null else .ref (eAd E (f j).toNatClampNeg)
def fvs (E : En) (f : Nat → Int32) : Nat → List (Nat ⊕ Bool) → List Value
  | _, [] => []
  | j, x :: r => fv E f j x :: fvs E f (j + 1) r
def cS (E : En) (f : Nat → Int32) (g : Nat → Int64) : Shp → va_E
  | .inl q => .inl (eCa E q.1, (q.2, if q.1 = 4 then .inr (.inl g) else .inl f))
  | .inr (.inl q) => .inl (eCa E q.1, (q.2.length, .inr (.inr (.inr (.inr (fun j => (q.2[j]?).map (eAd E)))))))
  | .inr (.inr q) => .inr (q.1, fvs E f 0 q.2)
def cE (E : En) (μ : Mem) (k : Nat) : va_E := cS E (μ.1 k) (μ.2 k) (SH k)
def cw (E : En) (μ : Mem) : va_W := (List.range NC).map fun k => (eAd E k, cE E μ k)
theorem cw_at {E : En} {μ : Mem} {k : Nat} (h : k < NC) : (cw E μ)[k]? = some (eAd E k, cE E μ k) := by
  simp [cw, List.getElem?_map, List.getElem?_range h]
theorem cw_set {E : En} {μ μ' : Mem} {k : Nat} {x : va_E} (hx : cE E μ' k = x) (h : ∀ j, j ≠ k → cE E μ' j = cE E μ j) : (cw E μ).set k (eAd E k, x) = cw E μ' := by
  apply List.ext_getElem?
  intro j
  rw [List.getElem?_set]
  by_cases hjk : k = j
  · subst hjk
    by_cases hl : k < NC
    · rw [cw_at (μ := μ') hl, hx]; simp [cw, hl]
    · simp [cw, hl]
  · simp only [hjk, if_false]
    by_cases hl : j < NC
    · rw [cw_at hl, cw_at hl, h j (fun e => hjk e.symm)]
    · simp [cw, hl]
theorem fvs_at {E : En} {f : Nat → Int32} : ∀ (sl : List (Nat ⊕ Bool)) (j0 j : Nat) (x : Nat ⊕ Bool), sl[j]? = some x → (fvs E f j0 sl)[j]? = some (fv E f (j0 + j) x)
  | [], _, _, _, h => by simp at h
  | y :: r, j0, 0, x, h => by
    simp only [List.getElem?_cons_zero, Option.some.injEq] at h
    subst h; rfl
  | y :: r, j0, j + 1, x, h => by
    have := fvs_at (E := E) (f := f) r (j0 + 1) j x (by simpa using h)
    simpa [fvs, Nat.add_assoc, Nat.add_comm 1 j] using this
theorem fvs_len {E : En} {f : Nat → Int32} : ∀ (sl : List (Nat ⊕ Bool)) (j0 : Nat), (fvs E f j0 sl).length = sl.length
  | [], _ => rfl
  | _ :: r, j0 => by simp [fvs, fvs_len r]
theorem fvs_same {E : En} {f g : Nat → Int32} : ∀ (sl : List (Nat ⊕ Bool)) (j0 : Nat), (∀ j, j0 ≤ j → f j = g j) → fvs E f j0 sl = fvs E g j0 sl
  | [], _, _ => rfl
  | x :: r, j0, h => by
    have e : fv E f j0 x = fv E g j0 x := by
      cases x with
      | inl t => rfl
      | inr b => cases b <;> simp [fv, h j0 (Nat.le_refl _)]
    simp only [fvs, e, fvs_same r (j0 + 1) (fun j hj => h j (by omega))]
theorem fvs_set {E : En} {f : Nat → Int32} {v : Int32} {w : Value} : ∀ (sl : List (Nat ⊕ Bool)) (j0 j : Nat) (x : Nat ⊕ Bool), sl[j]? = some x → fv E (fun b => if b = j0 + j then v else f b) (j0 + j) x = w → (fvs E f j0 sl).set j w = fvs E (fun b => if b = j0 + j then v else f b) j0 sl
  | [], _, _, _, h, _ => by simp at h
  | y :: r, j0, 0, x, h, hw => by
    simp only [List.getElem?_cons_zero, Option.some.injEq] at h
    subst h
    simp only [fvs, List.set_cons_zero]
    rw [fvs_same (f := f) (g := fun b => if b = j0 + 0 then v else f b) r (j0 + 1) (fun j hj => by simp only [Nat.add_zero]; rw [if_neg (by omega)])]
    rw [← hw]; rfl
  | y :: r, j0, j + 1, x, h, hw => by
    have e : j0 + (j + 1) = j0 + 1 + j := by omega
    rw [e] at hw ⊢
    have := fvs_set (E := E) (f := f) (v := v) (w := w) r (j0 + 1) j x (by simpa using h) hw
    simp only [fvs, List.set_cons_succ, this]
    congr 1
    cases y with
    | inl t => rfl
    | inr b => cases b <;> simp [fv, show ¬ j0 = j0 + 1 + j by omega]
/-- the addresses are apart -/
def Inj (E : En) : Prop := ∀ i j, i < NC → j < NC → eAd E i = eAd E j → i = j
def Aw (E : En) (sz : Nat) : Nat → Prop := fun q => (∃ k, k < NC ∧ eAd E k = q) ∨ sz ≤ q
theorem cw_D {E : En} {μ : Mem} {sz : Nat} (hI : Inj E) : va_D (Aw E sz) (cw E μ) := by
  have key : ∀ (i : Nat) (p : Nat × va_E), (cw E μ)[i]? = some p → i < NC ∧ p.1 = eAd E i := by
    intro i p h
    by_cases hl : i < NC
    · rw [cw_at hl] at h; cases h; exact ⟨hl, rfl⟩
    · simp [cw, hl] at h
  refine ⟨fun i j p q hp hq he => ?_, fun k q hq => ?_⟩
  · obtain ⟨h1, h2⟩ := key i p hp
    obtain ⟨h3, h4⟩ := key j q hq
    exact hI i j h1 h3 (by rw [← h2, ← h4]; exact he)
  · obtain ⟨h1, h2⟩ := key k q hq
    exact Or.inl ⟨k, h1, h2.symm⟩
theorem Aw_mono {E : En} {a b q : Nat} (h : a ≤ b) (hq : Aw E b q) : Aw E a q := hq.elim Or.inl (fun z => Or.inr (Nat.le_trans h z))
def yLro : MethodName := ⟨"HeWillNotPlead$Lines", "readsOne", "(LHeWillNotPlead$Text;I)Z"⟩
def KX (E : En) (U : State) : Prop := va_K (eD E) vwCl (tysL E) U ∧ vk_S 12 strLen strByt (eSk E) (eSv E) (Aw E U.heap.size) U U.heap ∧ va_Z "java/lang/String" "COMPACT_STRINGS" "Z" (.int 1) (Aw E U.heap.size) U U.heap ∧ (∀ q ∈ strTab, vk_R q.1 q.2.1 q.2.2.1 (eSk E q.2.2.2) U) ∧ va_Nw (.declares yLro) U
theorem KX.blind {E : En} {U : State} (h : KX E U) (g : JFrame) (mk : MethodId) (a : Array Value) : KX E (U.calling g mk a) :=
  ⟨va_K.moved (u := U) (U := U.calling g mk a) (Vm.Alike.refl U.vm) h.1, vk_S.moved (u := U) (U := U.calling g mk a) (Vm.Alike.refl U.vm) h.2.1, va_Z.moved (u := U) (U := U.calling g mk a) (Vm.Alike.refl U.vm) h.2.2.1, fun q hq => vk_R.same (u := U) rfl (h.2.2.2.1 q hq), va_tabs (u := U) rfl rfl h.2.2.2.2⟩
theorem KX.go {E : En} {s U : State} {H : Heap} {locs : List Loc} (h : KX E s) (hS : va_S (Aw E s.heap.size) s.heap H locs) (hU : U.heap = H) (hW : s.WarmedH U.vm) : KX E U := by
  obtain ⟨h1, h2, h3, h4, h5⟩ := h
  subst hU
  exact ⟨va_K.moved hW.alike h1, vk_S.moved hW.alike ((h2.kept hS.2.1).narrow (fun q hq => Aw_mono hS.1 hq)), va_Z.moved hW.alike ((h3.kept hS.2.1).narrow (fun q hq => Aw_mono hS.1 hq)), fun q hq => vk_R.warm hW (h4 q hq), va_Nw.warmD hW h5⟩
abbrev Zt : Type := Launch × Program × Env × Room × State × MethodId × Array Value × List Frame × Method × Code × Nat × Nat
/-- the words of the tables that hold in every later state too -/
def gw : List Cond := lw_tbl.filter goodWord
theorem gw_of {w : Cond} {i : Nat} (h : lw_tbl[i]? = some w) (hg : goodWord w = true) : w ∈ gw := List.mem_filter.mpr ⟨List.mem_of_getElem? h, hg⟩
theorem gw_in {y : MethodName} {cc : ByteArray} {n : Nat} {r : Option FieldType} (h : Cond.code y cc n r ∈ gw) : GoodIn gw (Cond.code y cc n r :: gw) := fun w hw => by
  have : w ∈ gw := (List.mem_cons.mp hw).elim (fun e => e ▸ h) id
  exact ⟨this, good_of_word (List.mem_filter.mp this).2⟩
/-- the walk's constant circumstances: code, class, words, room of depth D -/
def Cx (E : En) (Z : Zt) (cc : ByteArray) (own : String) (nL D : Nat) : Prop := match Z with
  | (_, p, _, R, s, m, args, _, meth, c, cs, ss) => p.tables.exec = Jvm.exec ∧ c.code = cc ∧ c.maxLocals = nL ∧ s.vm.findClass own = some m.cls ∧ (∀ w ∈ gw, w.before args s = true) ∧ KX E s ∧ Inj E ∧ (1 ≤ D ∧ D ≤ R.frames ∧ 40 * D ≤ R.locals ∧ cs ≤ R.cells ∧ ss ≤ R.slots) ∧ meth.locks = false
/-- from pc on, with these locals and this stack over the memory μ: the machine comes to what o tells, if it tells something -/
def AO (E : En) (Z : Zt) (nL : Nat) {ρ : Type} (Qf : ρ → Mem → State → Prop) (pc : Nat) (lv : List (Nat × Value)) (st : List Value) (μ : Mem) (o : Option (ρ × Mem)) : Prop := match Z with
  | (l, p, e, R, s, m, args, below, meth, c, cs, ss) => ∀ r μ', o = some (r, μ') → ∀ (H : Heap) (locs : List Loc) (ls : Array Slot), va_P (eD E) vwCl (cw E μ) H → va_S (Aw E s.heap.size) s.heap H locs → lv_has ls nL lv → W p l e R s m args below meth c H locs cs ss (Qf r μ') (F0 m pc ls st)
section Rules
variable {E : En} {Z : Zt} {cc : ByteArray} {own : String} {nL D : Nat} {ρ : Type} {Qf : ρ → Mem → State → Prop} {pc : Nat} {lv : List (Nat × Value)} {st : List Value} {μ : Mem} {o : Option (ρ × Mem)}
theorem ao_none : AO E Z nL Qf pc lv st μ (none : Option (ρ × Mem)) := by
  obtain ⟨l, p, e, R, s, m, args, below, meth, c, cs, ss⟩ := Z
  intro r μ' h
  cases h
theorem ao_sub {lv' : List (Nat × Value)} (ks : List Nat) (hl : lv_pick lv ks = lv') (k : AO E Z nL Qf pc lv' st μ o) : AO E Z nL Qf pc lv st μ o := by
  obtain ⟨l, p, e, R, s, m, args, below, meth, c, cs, ss⟩ := Z
  exact fun r μ' h H locs ls hP hS hv => k r μ' h H locs ls hP hS (lv_sub hv ks hl)
theorem ao_iconst (X : Cx E Z cc own nL D) {n : Int} {v : Int32} (d : decode cc pc = .ok (.iconst n, 1)) (hv : Int32.ofInt n = v) (k : AO E Z nL Qf (pc + 1) lv (.int v :: st) μ o) : AO E Z nL Qf pc lv st μ o := by
  obtain ⟨l, p, e, R, s, m, args, below, meth, c, cs, ss⟩ := Z
  exact fun r μ' h H locs ls hP hS hl => lv_iconst X.1 X.2.1 d hv (k r μ' h H locs ls hP hS hl)
theorem lk_at {lv : List (Nat × Value)} {ls : Array Slot} {nL i : Nat} {v : Value} (h : lv_has ls nL lv) (hk : lv.lookup i = some v) : ls[i]? = some (.val v) := by
  refine h.2.2 (i, v) ?_
  clear h
  induction lv with
  | nil => simp at hk
  | cons q r ih =>
    rw [List.lookup_cons] at hk
    cases hb : (i == q.1) with
    | true =>
      simp only [hb] at hk
      have e1 : i = q.1 := by simpa using hb
      cases hk
      rw [e1]
      exact List.mem_cons_self
    | false =>
      simp only [hb] at hk
      exact List.mem_cons_of_mem _ (ih hk)
theorem ao_iload_n (X : Cx E Z cc own nL D) {k : Fin 4} {x : Int32} (d : decode cc pc = .ok (.iload_n k, 1)) (hk : lv.lookup k.val = some (.int x)) (kk : AO E Z nL Qf (pc + 1) lv (.int x :: st) μ o) : AO E Z nL Qf pc lv st μ o := by
  obtain ⟨l, p, e, R, s, m, args, below, meth, c, cs, ss⟩ := Z
  exact fun r μ' h H locs ls hP hS hl => lv_iload_n X.1 X.2.1 d rfl (lk_at hl hk) (kk r μ' h H locs ls hP hS hl)
/-- getfield of a whole number -/
def FLk (own : String) (idx ci j : Nat) : Prop := ∃ C T N, vwCl[ci]? = some (C, T, N) ∧ j < N ∧ (∀ w ∈ u_ws C T N, w ∈ gw) ∧ Cond.fieldLink own idx (T j).1 (T j).2.1 (T j).2.2.1 ∈ gw
def ShF (k ci j : Nat) (x : Nat ⊕ Bool) : Prop := k < NC ∧ ∃ sl, SH k = .inr (.inr (ci, sl)) ∧ sl[j]? = some x
theorem ao_get (X : Cx E Z cc own nL D) {idx ci j k : Nat} {x : Nat ⊕ Bool} {v : Value} (d : decode cc pc = .ok (.getfield idx, 3)) (lk : FLk own idx ci j) (sh : ShF k ci j x) (hv : fv E (μ.1 k) j x = v) (kk : AO E Z nL Qf (pc + 3) lv (v :: st) μ o) : AO E Z nL Qf pc lv (.ref (eAd E k) :: st) μ o := by
  obtain ⟨l, p, e, R, s, m, args, below, meth, c, cs, ss⟩ := Z
  obtain ⟨hx, hb, hml, hown, hts, hK, hI, hR, hlk⟩ := X
  obtain ⟨C, T, N, h1, h2, h3, h4⟩ := lk
  obtain ⟨hk, sl, hs, hj⟩ := sh
  intro r μ' h H locs ls hP hS hl
  have he : (cw E μ)[k]? = some (eAd E k, .inr (ci, fvs E (μ.1 k) 0 sl)) := by rw [cw_at hk]; simp [cE, cS, hs]
  refine va_get (D := eD E) (ci := ci) (v := v) (C := C) (T := T) (N := N) hx hb hts h3 hown hK.1 hP k he h1 j h2 (hts _ h4) (fun _ h9 => h9) ?_ d (kk r μ' h H locs ls hP hS hl)
  rw [← hv]
  have := fvs_at (E := E) (f := μ.1 k) sl 0 j x hj
  simpa using this
theorem ao_getI (X : Cx E Z cc own nL D) {idx ci j k : Nat} (d : decode cc pc = .ok (.getfield idx, 3)) (lk : FLk own idx ci j) (sh : ShF k ci j (.inr false)) (kk : AO E Z nL Qf (pc + 3) lv (.int (gI μ k j) :: st) μ o) : AO E Z nL Qf pc lv (.ref (eAd E k) :: st) μ o := ao_get X d lk sh rfl kk
theorem ao_getR (X : Cx E Z cc own nL D) {idx ci j k t : Nat} (d : decode cc pc = .ok (.getfield idx, 3)) (lk : FLk own idx ci j) (sh : ShF k ci j (.inl t)) (kk : AO E Z nL Qf (pc + 3) lv (.ref (eAd E t) :: st) μ o) : AO E Z nL Qf pc lv (.ref (eAd E k) :: st) μ o := ao_get X d lk sh rfl kk
end Rules
