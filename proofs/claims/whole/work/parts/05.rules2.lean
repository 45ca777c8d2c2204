section Mem
theorem sI_1 {μ : Mem} {k j : Nat} {v : Int32} : (sI μ k j v).1 k = fun b => if b = j then v else μ.1 k b := by
  funext b; simp [sI]
theorem sI_n {μ : Mem} {k j a : Nat} {v : Int32} (h : a ≠ k) : (sI μ k j v).1 a = μ.1 a := by
  funext b; simp [sI, h]
theorem sL_1 {μ : Mem} {k j : Nat} {v : Int64} : (sL μ k j v).2 k = fun b => if b = j then v else μ.2 k b := by
  funext b; simp [sL]
theorem sL_n {μ : Mem} {k j a : Nat} {v : Int64} (h : a ≠ k) : (sL μ k j v).2 a = μ.2 a := by
  funext b; simp [sL, h]
theorem cE_sI {E : En} {μ : Mem} {k j a : Nat} {v : Int32} (h : a ≠ k) : cE E (sI μ k j v) a = cE E μ a := by
  unfold cE; rw [sI_n h]; rfl
theorem cE_sL {E : En} {μ : Mem} {k j a : Nat} {v : Int64} (h : a ≠ k) : cE E (sL μ k j v) a = cE E μ a := by
  unfold cE; rw [sL_n h]; rfl
theorem cE_sC {E : En} {μ : Mem} {k k2 sp dp n a : Nat} (h : a ≠ k2) : cE E (sC μ k k2 sp dp n) a = cE E μ a := by
  unfold cE; simp [sC, h]
theorem upd_eq {f : Nat → Int32} {j : Nat} {v : Int32} : upd f j v = fun b => if b = j then v else f b := by
  funext b; simp [upd]
theorem updL_eq {f : Nat → Int64} {j : Nat} {v : Int64} : vp_updL f j v = fun b => if b = j then v else f b := rfl
end Mem
section Rules3
variable {E : En} {Z : Zt} {cc : ByteArray} {own : String} {nL D : Nat} {ρ : Type} {Qf : ρ → Mem → State → Prop} {pc : Nat} {lv : List (Nat × Value)} {st : List Value} {μ : Mem} {o : Option (ρ × Mem)}
def FPt (own : String) (idx ci j : Nat) (ty : FieldType) : Prop := ∃ C T N, vwCl[ci]? = some (C, T, N) ∧ j < N ∧ (∀ w ∈ u_ws C T N, w ∈ gw) ∧ Cond.fieldLink own idx (T j).1 (T j).2.1 (T j).2.2.1 ∈ gw ∧ (T j).2.2.2 = false ∧ parseFieldDescriptor (T j).2.2.1 = some ty ∧ (∃ ty0 : Nat → FieldType, ∀ k, k < N → parseFieldDescriptor (T k).2.2.1 = some (ty0 k)) ∧ (∀ a, a < N → ∀ b, b < N → a ≠ b → (T a).2.1 ≠ (T b).2.1)
theorem ao_put (X : Cx E Z cc own nL D) {idx ci j k : Nat} {x : Nat ⊕ Bool} {v : Value} {iv : Int32} {ty : FieldType} (d : decode cc pc = .ok (.putfield idx, 3)) (lk : FPt own idx ci j ty) (sh : ShF k ci j x) (hv : fv E (fun b => if b = j then iv else μ.1 k b) j x = v) (hn : narrow ty v = v) (hf : fits ty v = true) (kk : AO E Z nL Qf (pc + 3) lv st (sI μ k j iv) o) : AO E Z nL Qf pc lv (v :: .ref (eAd E k) :: st) μ o := by
  obtain ⟨l, p, e, R, s, m, args, below, meth, c, cs, ss⟩ := Z
  obtain ⟨hx, hb, hml, hown, hts, hK, hI, hR, hlk⟩ := X
  obtain ⟨C, T, N, h1, h2, h3, h4, h5, h6, ⟨ty0, h7⟩, h8⟩ := lk
  obtain ⟨hk, sl, hs, hj⟩ := sh
  intro r μ' h H locs ls hP hS hl
  have he : (cw E μ)[k]? = some (eAd E k, .inr (ci, fvs E (μ.1 k) 0 sl)) := by rw [cw_at hk]; simp [cE, cS, hs]
  have hlt : j < (fvs E (μ.1 k) 0 sl).length := by rw [fvs_len]; exact (List.getElem?_eq_some_iff.mp hj).1
  have hset : (cw E μ).set k (eAd E k, .inr (ci, (fvs E (μ.1 k) 0 sl).set j v)) = cw E (sI μ k j iv) := by
    refine cw_set ?_ (fun a ha => cE_sI ha)
    unfold cE
    rw [hs, sI_1]
    have := fvs_set (E := E) (f := μ.1 k) (v := iv) (w := v) sl 0 j x hj (by simpa using hv)
    simp only [Nat.zero_add] at this
    simp [cS, this]
  refine va_put (D := eD E) (ci := ci) (v := v) (ty := ty) (C := C) (T := T) (N := N) hx hb hts h3 ty0 h7 h8 hown hK.1 hP (cw_D hI) hS k he h1 j h2 (hts _ h4) (fun _ h9 => h9) h5 h6 hn hf hlt d (fun H1 locs1 hP1 hD1 hS1 => ?_)
  rw [hset] at hP1
  exact kk r μ' h H1 locs1 ls hP1 hS1 hl
theorem ao_putI (X : Cx E Z cc own nL D) {idx ci j k : Nat} {iv : Int32} (d : decode cc pc = .ok (.putfield idx, 3)) (lk : FPt own idx ci j .int) (sh : ShF k ci j (.inr false)) (kk : AO E Z nL Qf (pc + 3) lv st (sI μ k j iv) o) : AO E Z nL Qf pc lv (.int iv :: .ref (eAd E k) :: st) μ o := ao_put X d lk sh (by simp [fv]) (vp_nar_int iv) rfl kk
theorem ao_putZ (X : Cx E Z cc own nL D) {idx ci j k : Nat} {iv : Int32} (d : decode cc pc = .ok (.putfield idx, 3)) (lk : FPt own idx ci j .boolean) (sh : ShF k ci j (.inr false)) (hn : narrow .boolean (.int iv) = .int iv) (hf : fits .boolean (.int iv) = true) (kk : AO E Z nL Qf (pc + 3) lv st (sI μ k j iv) o) : AO E Z nL Qf pc lv (.int iv :: .ref (eAd E k) :: st) μ o := ao_put X d lk sh (by simp [fv]) hn hf kk
/-- a field that holds now this array, now that: kept as the cell's number -/
theorem ao_putD (X : Cx E Z cc own nL D) {idx ci j k t : Nat} {iv : Int32} {ty : FieldType} (d : decode cc pc = .ok (.putfield idx, 3)) (lk : FPt own idx ci j ty) (sh : ShF k ci j (.inr true)) (h0 : ¬ iv < 0) (ht : iv.toNatClampNeg = t) (hn : narrow ty (.ref (eAd E t)) = .ref (eAd E t)) (hf : fits ty (.ref (eAd E t)) = true) (kk : AO E Z nL Qf (pc + 3) lv st (sI μ k j iv) o) : AO E Z nL Qf pc lv (.ref (eAd E t) :: .ref (eAd E k) :: st) μ o := ao_put X d lk sh (by simp [fv, h0, ht]) hn hf kk
theorem ao_getD (X : Cx E Z cc own nL D) {idx ci j k t : Nat} {iv : Int32} (d : decode cc pc = .ok (.getfield idx, 3)) (lk : FLk own idx ci j) (sh : ShF k ci j (.inr true)) (hm : gI μ k j = iv) (h0 : ¬ iv < 0) (ht : iv.toNatClampNeg = t) (kk : AO E Z nL Qf (pc + 3) lv (.ref (eAd E t) :: st) μ o) : AO E Z nL Qf pc lv (.ref (eAd E k) :: st) μ o := by
  refine ao_get X d lk sh ?_ kk
  have e1 : μ.1 k j = iv := hm
  simp [fv, e1, h0, ht]
/-! arrays -/
def ShA (k t n : Nat) : Prop := k < NC ∧ SH k = .inl (t, n)
theorem sha_at {k t n : Nat} (h : ShA k t n) (ht : t ≠ 4) : (cw E μ)[k]? = some (eAd E k, .inl (eCa E t, n, .inl (μ.1 k))) := by
  rw [cw_at h.1]; simp [cE, cS, h.2, ht]
theorem shl_at {k n : Nat} (h : ShA k 4 n) : (cw E μ)[k]? = some (eAd E k, .inl (eCa E 4, n, .inr (.inl (μ.2 k)))) := by
  rw [cw_at h.1]; simp [cE, cS, h.2]
theorem sha_set {k t n j : Nat} {v : Int32} (h : ShA k t n) (ht : t ≠ 4) : (cw E μ).set k (eAd E k, .inl (eCa E t, n, .inl (upd (μ.1 k) j v))) = cw E (sI μ k j v) := by
  refine cw_set ?_ (fun a ha => cE_sI ha)
  unfold cE; rw [h.2, sI_1, upd_eq]; simp [cS, ht]
theorem shl_set {k n j : Nat} {v : Int64} (h : ShA k 4 n) : (cw E μ).set k (eAd E k, .inl (eCa E 4, n, .inr (.inl (vp_updL (μ.2 k) j v)))) = cw E (sL μ k j v) := by
  refine cw_set ?_ (fun a ha => cE_sL ha)
  unfold cE; rw [h.2, sL_1, updL_eq]; simp [cS]
theorem ao_iald (X : Cx E Z cc own nL D) {k n : Nat} {i : Int32} (d : decode cc pc = .ok (.iaload, 1)) (sh : ShA k 0 n) (kk : AO E Z nL Qf (pc + 1) lv (.int (gI μ k i.toNatClampNeg) :: st) μ o) : AO E Z nL Qf pc lv (.int i :: .ref (eAd E k) :: st) μ (gd (inb i n) o) := by
  obtain ⟨l, p, e, R, s, m, args, below, meth, c, cs, ss⟩ := Z
  intro r μ' h H locs ls hP hS hl
  obtain ⟨h1, h2⟩ := gd_some h
  exact va_iald X.1 X.2.1 X.2.2.2.2.2.1.1 hP k 0 (sha_at sh (by decide)) rfl (inb_in h1) d (kk r μ' h2 H locs ls hP hS hl)
theorem ao_cald (X : Cx E Z cc own nL D) {k n : Nat} {i : Int32} (d : decode cc pc = .ok (.caload, 1)) (sh : ShA k 1 n) (kk : AO E Z nL Qf (pc + 1) lv (.int (gI μ k i.toNatClampNeg) :: st) μ o) : AO E Z nL Qf pc lv (.int i :: .ref (eAd E k) :: st) μ (gd (inb i n) o) := by
  obtain ⟨l, p, e, R, s, m, args, below, meth, c, cs, ss⟩ := Z
  intro r μ' h H locs ls hP hS hl
  obtain ⟨h1, h2⟩ := gd_some h
  exact va_cald X.1 X.2.1 X.2.2.2.2.2.1.1 hP k 1 (sha_at sh (by decide)) rfl (inb_in h1) d (kk r μ' h2 H locs ls hP hS hl)
theorem ao_bald (X : Cx E Z cc own nL D) {k n : Nat} {i : Int32} (d : decode cc pc = .ok (.baload, 1)) (sh : ShA k 2 n) (kk : AO E Z nL Qf (pc + 1) lv (.int (gI μ k i.toNatClampNeg) :: st) μ o) : AO E Z nL Qf pc lv (.int i :: .ref (eAd E k) :: st) μ (gd (inb i n) o) := by
  obtain ⟨l, p, e, R, s, m, args, below, meth, c, cs, ss⟩ := Z
  intro r μ' h H locs ls hP hS hl
  obtain ⟨h1, h2⟩ := gd_some h
  exact va_bald X.1 X.2.1 X.2.2.2.2.2.1.1 hP k 2 (sha_at sh (by decide)) rfl (inb_in h1) d (kk r μ' h2 H locs ls hP hS hl)
theorem ao_zald (X : Cx E Z cc own nL D) {k n : Nat} {i : Int32} (d : decode cc pc = .ok (.baload, 1)) (sh : ShA k 3 n) (kk : AO E Z nL Qf (pc + 1) lv (.int (gI μ k i.toNatClampNeg) :: st) μ o) : AO E Z nL Qf pc lv (.int i :: .ref (eAd E k) :: st) μ (gd (inb i n) o) := by
  obtain ⟨l, p, e, R, s, m, args, below, meth, c, cs, ss⟩ := Z
  intro r μ' h H locs ls hP hS hl
  obtain ⟨h1, h2⟩ := gd_some h
  exact va_zald X.1 X.2.1 X.2.2.2.2.2.1.1 hP k 3 (sha_at sh (by decide)) rfl (inb_in h1) d (kk r μ' h2 H locs ls hP hS hl)
theorem ao_lald (X : Cx E Z cc own nL D) {k n : Nat} {i : Int32} (d : decode cc pc = .ok (.laload, 1)) (sh : ShA k 4 n) (kk : AO E Z nL Qf (pc + 1) lv (.long (gL μ k i.toNatClampNeg) :: st) μ o) : AO E Z nL Qf pc lv (.int i :: .ref (eAd E k) :: st) μ (gd (inb i n) o) := by
  obtain ⟨l, p, e, R, s, m, args, below, meth, c, cs, ss⟩ := Z
  intro r μ' h H locs ls hP hS hl
  obtain ⟨h1, h2⟩ := gd_some h
  exact va_lald X.1 X.2.1 X.2.2.2.2.2.1.1 hP k 4 (shl_at sh) rfl (inb_in h1) d (kk r μ' h2 H locs ls hP hS hl)
theorem ao_aald (X : Cx E Z cc own nL D) {k t n : Nat} {rs : List Nat} {i iv : Int32} (d : decode cc pc = .ok (.aaload, 1)) (hk : k < NC) (sh : SH k = .inr (.inl (5, rs))) (hi : i = iv) (hn : inb iv rs.length = true) (ht : rs[iv.toNatClampNeg]? = some t) (kk : AO E Z nL Qf (pc + 1) lv (.ref (eAd E t) :: st) μ o) : AO E Z nL Qf pc lv (.int i :: .ref (eAd E k) :: st) μ o := by
  obtain ⟨l, p, e, R, s, m, args, below, meth, c, cs, ss⟩ := Z
  subst hi
  intro r μ' h H locs ls hP hS hl
  have ha : (cw E μ)[k]? = some (eAd E k, .inl (eCa E 5, rs.length, .inr (.inr (.inr (.inr (fun j => (rs[j]?).map (eAd E))))))) := by
    rw [cw_at hk]; simp [cE, cS, sh]
  refine va_aldq X.1 X.2.1 X.2.2.2.2.2.1.1 hP k 5 ha rfl (inb_in hn) d ?_
  have e1 : va_rf ((rs[i.toNatClampNeg]?).map (eAd E)) = .ref (eAd E t) := by rw [ht]; rfl
  rw [e1]
  exact kk r μ' h H locs ls hP hS hl
theorem ao_iast (X : Cx E Z cc own nL D) {k n : Nat} {i v : Int32} (d : decode cc pc = .ok (.iastore, 1)) (sh : ShA k 0 n) (kk : AO E Z nL Qf (pc + 1) lv st (sI μ k i.toNatClampNeg v) o) : AO E Z nL Qf pc lv (.int v :: .int i :: .ref (eAd E k) :: st) μ (gd (inb i n) o) := by
  obtain ⟨l, p, e, R, s, m, args, below, meth, c, cs, ss⟩ := Z
  intro r μ' h H locs ls hP hS hl
  obtain ⟨h1, h2⟩ := gd_some h
  exact va_iast X.1 X.2.1 X.2.2.2.2.2.1.1 hP (cw_D X.2.2.2.2.2.2.1) hS k 0 (sha_at sh (by decide)) rfl (inb_in h1) d (fun H1 locs1 hP1 _ hS1 => kk r μ' h2 H1 locs1 ls (by rwa [sha_set sh (by decide)] at hP1) hS1 hl)
theorem ao_cast (X : Cx E Z cc own nL D) {k n : Nat} {i v : Int32} (d : decode cc pc = .ok (.castore, 1)) (sh : ShA k 1 n) (kk : AO E Z nL Qf (pc + 1) lv st (sI μ k i.toNatClampNeg (vp_nar .char v)) o) : AO E Z nL Qf pc lv (.int v :: .int i :: .ref (eAd E k) :: st) μ (gd (inb i n) o) := by
  obtain ⟨l, p, e, R, s, m, args, below, meth, c, cs, ss⟩ := Z
  intro r μ' h H locs ls hP hS hl
  obtain ⟨h1, h2⟩ := gd_some h
  exact va_cast X.1 X.2.1 X.2.2.2.2.2.1.1 hP (cw_D X.2.2.2.2.2.2.1) hS k 1 (sha_at sh (by decide)) rfl (inb_in h1) d (fun H1 locs1 hP1 _ hS1 => kk r μ' h2 H1 locs1 ls (by rwa [sha_set sh (by decide)] at hP1) hS1 hl)
theorem ao_bast (X : Cx E Z cc own nL D) {k n : Nat} {i v : Int32} (d : decode cc pc = .ok (.bastore, 1)) (sh : ShA k 2 n) (kk : AO E Z nL Qf (pc + 1) lv st (sI μ k i.toNatClampNeg (vp_nar .byte v)) o) : AO E Z nL Qf pc lv (.int v :: .int i :: .ref (eAd E k) :: st) μ (gd (inb i n) o) := by
  obtain ⟨l, p, e, R, s, m, args, below, meth, c, cs, ss⟩ := Z
  intro r μ' h H locs ls hP hS hl
  obtain ⟨h1, h2⟩ := gd_some h
  exact va_bast X.1 X.2.1 X.2.2.2.2.2.1.1 hP (cw_D X.2.2.2.2.2.2.1) hS k 2 (sha_at sh (by decide)) rfl (inb_in h1) d (fun H1 locs1 hP1 _ hS1 => kk r μ' h2 H1 locs1 ls (by rwa [sha_set sh (by decide)] at hP1) hS1 hl)
theorem ao_zast (X : Cx E Z cc own nL D) {k n : Nat} {i v : Int32} (d : decode cc pc = .ok (.bastore, 1)) (sh : ShA k 3 n) (kk : AO E Z nL Qf (pc + 1) lv st (sI μ k i.toNatClampNeg (vp_nar .boolean v)) o) : AO E Z nL Qf pc lv (.int v :: .int i :: .ref (eAd E k) :: st) μ (gd (inb i n) o) := by
  obtain ⟨l, p, e, R, s, m, args, below, meth, c, cs, ss⟩ := Z
  intro r μ' h H locs ls hP hS hl
  obtain ⟨h1, h2⟩ := gd_some h
  exact va_zast X.1 X.2.1 X.2.2.2.2.2.1.1 hP (cw_D X.2.2.2.2.2.2.1) hS k 3 (sha_at sh (by decide)) rfl (inb_in h1) d (fun H1 locs1 hP1 _ hS1 => kk r μ' h2 H1 locs1 ls (by rwa [sha_set sh (by decide)] at hP1) hS1 hl)
theorem ao_last (X : Cx E Z cc own nL D) {k n : Nat} {i : Int32} {v : Int64} (d : decode cc pc = .ok (.lastore, 1)) (sh : ShA k 4 n) (kk : AO E Z nL Qf (pc + 1) lv st (sL μ k i.toNatClampNeg v) o) : AO E Z nL Qf pc lv (.long v :: .int i :: .ref (eAd E k) :: st) μ (gd (inb i n) o) := by
  obtain ⟨l, p, e, R, s, m, args, below, meth, c, cs, ss⟩ := Z
  intro r μ' h H locs ls hP hS hl
  obtain ⟨h1, h2⟩ := gd_some h
  exact va_last X.1 X.2.1 X.2.2.2.2.2.1.1 hP (cw_D X.2.2.2.2.2.2.1) hS k 4 (shl_at sh) rfl (inb_in h1) d (fun H1 locs1 hP1 _ hS1 => kk r μ' h2 H1 locs1 ls (by rwa [shl_set sh] at hP1) hS1 hl)
theorem ao_alen (X : Cx E Z cc own nL D) {k n : Nat} {v : Int32} (d : decode cc pc = .ok (.arraylength, 1)) (sh : ShA k 0 n) (hv : Int32.ofNat n = v) (kk : AO E Z nL Qf (pc + 1) lv (.int v :: st) μ o) : AO E Z nL Qf pc lv (.ref (eAd E k) :: st) μ o := by
  obtain ⟨l, p, e, R, s, m, args, below, meth, c, cs, ss⟩ := Z
  exact fun r μ' h H locs ls hP hS hl => va_alen X.1 X.2.1 X.2.2.2.2.2.1.1 hP k 0 (sha_at sh (by decide)) (ty := .int) rfl hv d (kk r μ' h H locs ls hP hS hl)
theorem ao_alenJ (X : Cx E Z cc own nL D) {k n : Nat} {v : Int32} (d : decode cc pc = .ok (.arraylength, 1)) (sh : ShA k 4 n) (hv : Int32.ofNat n = v) (kk : AO E Z nL Qf (pc + 1) lv (.int v :: st) μ o) : AO E Z nL Qf pc lv (.ref (eAd E k) :: st) μ o := by
  obtain ⟨l, p, e, R, s, m, args, below, meth, c, cs, ss⟩ := Z
  exact fun r μ' h H locs ls hP hS hl => va_alen X.1 X.2.1 X.2.2.2.2.2.1.1 hP k 4 (shl_at sh) (ty := .long) rfl hv d (kk r μ' h H locs ls hP hS hl)
end Rules3
