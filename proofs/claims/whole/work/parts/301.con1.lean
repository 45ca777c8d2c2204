def zA (Z : Zt) (ws : va_W) : Nat → Prop := match Z with
  | (_, _, _, _, s, _, _, _, _, _, _, _) => va_A ws s.heap.size
def QC (E : En) (Z : Zt) (ws : va_W) (mc ms : Nat) (post : va_W → Prop) : State → Prop := match Z with
  | (_, _, _, _, s, _, args, below, _, _, _, _) => MQ below (va_Qv post (fun w2 t => va_P (eD E) vwCl w2 t.heap ∧ va_D (va_A ws s.heap.size) w2) (va_A ws s.heap.size)) args s mc ms (va_A ws s.heap.size)
def rmC (d mc ms : Nat) : Room := { frames := d, cells := mc, slots := ms, locals := 40 * d }
def PcC (E : En) (lo : Nat) (avs : List Value) (ws : va_W) (sz : Nat) : Array Value → State → Prop := va_Pc avs (fun U => U.heap.size = sz ∧ va_P (eD E) vwCl ws U.heap ∧ va_D (fun _ => True) ws ∧ KN E lo U)
theorem PcC_blind {E : En} {lo : Nat} {avs : List Value} {ws : va_W} {sz : Nat} : FrameBlind (PcC E lo avs ws sz) := fun a U g mk h => by
  obtain ⟨h0, h1, h2, h3, h4⟩ := h
  exact ⟨h0, h1, h2, h3, h4.blind g mk a⟩
def MtC (E : En) (l : Launch) (lo : Nat) (y : MethodName) (cc : ByteArray) (maxL d : Nat) (avs : List Value) (ws : va_W) (mc ms : Nat) (post : va_W → Prop) : Prop :=
  ∀ sz, lo ≤ sz → (∀ q ∈ ws, lo ≤ q.1) → Met l y (.code y cc maxL none :: gw) (rmC d mc ms) (PcC E lo avs ws sz) (va_Qv post (fun w2 t => va_P (eD E) vwCl w2 t.heap ∧ va_D (va_A ws sz) w2) (va_A ws sz)) mc ms (va_A ws sz)
theorem va_A_lo {lo sz : Nat} {ws : va_W} (h1 : lo ≤ sz) (h2 : ∀ q ∈ ws, lo ≤ q.1) : ∀ q, va_A ws sz q → lo ≤ q := fun q h => by
  rcases h with ⟨k, e, hk⟩ | h
  · exact h2 (q, e) (List.mem_of_getElem? hk)
  · exact Nat.le_trans h1 h
theorem mtC_of {E : En} {l : Launch} {lo : Nat} {y : MethodName} {own : String} {cc : ByteArray} {maxL d : Nat} {avs : List Value} {ws : va_W} {mc ms : Nat} {post : va_W → Prop} (lv : List (Nat × Value)) (hown : y.cls = own) (hnm : y.name = "<init>") (hy : plainName own = true) (hd : 1 ≤ d) (hlen : (lg_sl avs).length ≤ maxL) (hlv : lv_args 0 avs = lv)
    (body : ∀ Z : Zt, lZ l Z → CC E lo Z (zA Z ws) cc own maxL d mc ms → isInit Z → rtOf Z = none → AC E Z (zA Z ws) maxL 0 0 (QC E Z ws mc ms post) 0 lv [] ws) : MtC E l lo y cc maxL d avs ws mc ms post := by
  intro sz hlo hlw
  subst hown
  refine Met.ofW (cc := cc) (maxL := maxL) (ret := none) hy rfl ?_
  intro p e s m args below meth c s₁ B hml hv
  obtain ⟨rfl, hsz, hP, hD0, hK⟩ := hv
  subst hsz
  have hts := atoms_spec (ws := .code y cc maxL none :: gw) B.pre
  have hl := lv_entry avs (n := maxL) hlen
  rw [lg_entry_eq]
  have X : CC E lo (l, p, e, rmC d mc ms, s, m, avs.toArray, below, meth, c, 0, 0) (zA (l, p, e, rmC d mc ms, s, m, avs.toArray, below, meth, c, 0, 0) ws) cc y.cls maxL d mc ms := ⟨B.exec, B.bytes, hml, findClass_of_methodNamed B.named, fun w hw => hts w (List.mem_cons_of_mem _ hw), hK, fun q h => Or.inr h, va_A_lo hlo hlw, ⟨hd, Nat.le_refl _, Nat.le_refl _, Nat.le_refl _, Nat.le_refl _⟩, B.notSynchronized⟩
  have hin : isInit (l, p, e, rmC d mc ms, s, m, avs.toArray, below, meth, c, 0, 0) := by
    show meth.name = "<init>"
    rw [← hnm]
    exact (name_of_methodNamed B.named B.method).1
  exact body (l, p, e, rmC d mc ms, s, m, avs.toArray, below, meth, c, 0, 0) rfl X hin B.returns s.heap [] _ hP (hD0.self (sz := s.heap.size)) va_S.rf (by rw [hlv] at hl; exact hl)
section RulesC2
variable {E : En} {l : Launch} {lo : Nat} {Z : Zt} {A : Nat → Prop} {cc : ByteArray} {own : String} {nL D MC MS cs ss : Nat} {Q : State → Prop} {pc : Nat} {lv : List (Nat × Value)} {st : List Value} {ws ws' : va_W}
theorem ac_vret {ws0 : va_W} {mc ms : Nat} {post : va_W → Prop} (X : CC E lo Z (zA Z ws0) cc own nL D MC MS) (hr : rtOf Z = none) (d : decode cc pc = .ok (.return_, 1)) (hp : post ws) : AC E Z (zA Z ws0) nL mc ms (QC E Z ws0 mc ms post) pc lv [] ws := by
  obtain ⟨l, p, e, R, s, m, args, below, meth, c, c0, s0⟩ := Z
  obtain ⟨hx, hb, hml, hown, hts, hK, hA, hlo, hR, hlk⟩ := X
  intro H locs ls hP hD hS hl
  exact W.vret hx hb hr (fun t ht hW => ⟨⟨ws, rfl, hp, by show va_P _ _ _ t.heap; rw [ht]; exact hP, hD⟩, hS.F ht⟩) hS.2.2 d
theorem fm_of {α β : Type} {f : α → Option β} : ∀ {l : List α} {w : List β}, l.map f = w.map some → l.filterMap f = w
  | [], [], _ => rfl
  | [], _ :: _, h => by simp at h
  | _ :: _, [], h => by simp at h
  | a :: r, b :: t, h => by
    simp only [List.map_cons, List.cons.injEq] at h
    rw [List.filterMap_cons, h.1]
    simp only [fm_of h.2]
def YI (y : MethodName) (c2 : ByteArray) (mL n : Nat) : Prop := Cond.instanceMethod y ∈ gw ∧ Cond.initialized y.cls ∈ gw ∧ Cond.code y c2 mL none ∈ gw ∧ (y.cls ≠ "java/lang/invoke/MethodHandle" ∧ y.cls ≠ "java/lang/invoke/VarHandle" ∧ (parseMethodDescriptor y.desc).map (fun d => d.parameters.length) = some n) ∧ mL ≤ 21 ∧ y.name = "<init>"
theorem ac_call (X : CC E lo Z A cc own nL D MC MS) (hl0 : lZ l Z) {idx b dN mL n mc ms : Nat} {y : MethodName} {c2 : ByteArray} {As stk : List Value} {wc wr : va_W} {post : va_W → Prop} (isC isR : List Nat) (d : decode cc pc = .ok (.invokespecial idx, 3)) (hv : YI y c2 mL n) (hk : Cond.methodLink own idx y ∈ gw) (hM : MtC E l lo y c2 mL dN (.ref b :: As) wc mc ms post) (hdp : dN + 1 ≤ D) (hn : As.length = n) (hs : stk = As.reverse ++ .ref b :: st) (hc : (st.map fun v => v.category).sum ≤ 8) (hC : isC.map (fun i => ws[i]?) = wc.map some) (hRr : isR.map (fun i => ws[i]?) = wr.map some) (hnc : va_nd isC = true) (hnd : va_nd isR = true) (hdis : ∀ i ∈ isR, i ∉ isC) (h1 : cs + mc ≤ MC) (h2 : ss + ms ≤ MS) (kk : ∀ w1, post w1 → AC E Z A nL (cs + mc) (ss + ms) Q (pc + 3) lv st (wr ++ w1)) : AC E Z A nL cs ss Q pc lv stk ws := by
  obtain ⟨l0, p, e, R, s, m, args, below, meth, c, c0, s0⟩ := Z
  cases hl0
  obtain ⟨hx, hb, hml, hown, hts, hK, hA, hlo, hR, hlk⟩ := X
  intro H locs ls hP hD hS hl
  have hPc := hP.sub (ws' := wc) isC (fm_of hC)
  have hDc := hD.sub (ws' := wc) isC hnc hC
  have hFc := va_free (wc := wc) hD hS hA isC hC
  have hlw : ∀ q ∈ wc, lo ≤ q.1 := fun q hq => by
    obtain ⟨k, hk⟩ := List.getElem?_of_mem hq
    exact hlo _ (hDc.2 k q hk)
  have hM := hM H.size (Nat.le_trans (hlo _ (hA _ (Nat.le_refl _))) hS.1) hlw
  have hRm : (rmC dN mc ms).frames + 1 ≤ R.frames ∧ 8 + (mL + 11) + (rmC dN mc ms).locals ≤ R.locals := by
    have := hv.2.2.2.2.1
    simp only [rmC]
    omega
  refine va_callv (va_runI (As := As) (rest := st) ⟨hx, hb, hml, hown, hts⟩ hM ⟨callB_of n hts (gw_in hv.2.2.1) rfl rfl rfl (hts _ hv.2.1) (hts _ hk) hv.2.2.2.1 hRm, hv.2.2.2.2.2, hts _ hv.1⟩ ⟨PcC_blind, fun U hU hW => ⟨rfl, by rw [hU], by rw [hU]; exact hPc, hDc.weaken (fun _ _ _ _ => trivial), hK.go hlo hS hU hW⟩⟩ rfl hn hl.1 hs (lv_room hc) d ⟨by omega, by omega⟩) hS (fun q _ h => hFc q h) hFc (fun w1 t H1 locs1 ht hvm hw hB hz1 hk1 hS1 => ?_)
  obtain ⟨hP1, hD1⟩ := hB
  rw [ht] at hP1
  obtain ⟨hP2, hD2⟩ := va_join (wr := wr) (w1 := w1) hP hD isC isR hC hRr hnd hdis hk1 hFc hP1 hD1
  exact kk w1 hw H1 locs1 ls hP2 hD2 hS1 hl
theorem ac_callN (X : CC E lo Z A cc own nL D MC MS) (hl0 : lZ l Z) {idx b dN mL n mc ms : Nat} {y : MethodName} {c2 : ByteArray} {As stk : List Value} {wc wr : va_W} {post : va_W → Prop} (isC isR : List Nat) (d : decode cc pc = .ok (.invokespecial idx, 3)) (hv : YI y c2 mL n) {host : String} (hk : (own, idx, y, host) ∈ nestW) (hM : MtC E l lo y c2 mL dN (.ref b :: As) wc mc ms post) (hdp : dN + 1 ≤ D) (hn : As.length = n) (hs : stk = As.reverse ++ .ref b :: st) (hc : (st.map fun v => v.category).sum ≤ 8) (hC : isC.map (fun i => ws[i]?) = wc.map some) (hRr : isR.map (fun i => ws[i]?) = wr.map some) (hnc : va_nd isC = true) (hnd : va_nd isR = true) (hdis : ∀ i ∈ isR, i ∉ isC) (h1 : cs + mc ≤ MC) (h2 : ss + ms ≤ MS) (kk : ∀ w1, post w1 → AC E Z A nL (cs + mc) (ss + ms) Q (pc + 3) lv st (wr ++ w1)) : AC E Z A nL cs ss Q pc lv stk ws := by
  obtain ⟨l0, p, e, R, s, m, args, below, meth, c, c0, s0⟩ := Z
  cases hl0
  obtain ⟨hx, hb, hml, hown, hts, hK, hA, hlo, hR, hlk⟩ := X
  intro H locs ls hP hD hS hl
  have hPc := hP.sub (ws' := wc) isC (fm_of hC)
  have hDc := hD.sub (ws' := wc) isC hnc hC
  have hFc := va_free (wc := wc) hD hS hA isC hC
  have hlw : ∀ q ∈ wc, lo ≤ q.1 := fun q hq => by
    obtain ⟨k, hk⟩ := List.getElem?_of_mem hq
    exact hlo _ (hDc.2 k q hk)
  have hM := hM H.size (Nat.le_trans (hlo _ (hA _ (Nat.le_refl _))) hS.1) hlw
  have hRm : (rmC dN mc ms).frames + 1 ≤ R.frames ∧ 8 + (mL + 11) + (rmC dN mc ms).locals ≤ R.locals := by
    have := hv.2.2.2.2.1
    simp only [rmC]
    omega
  refine va_callv (va_runIN (As := As) (rest := st) ⟨hx, hb, hml, hown, hts⟩ hM ⟨va_cnB n hts (gw_in hv.2.2.1) rfl rfl rfl (hK.2.2.2.2.1 _ hk) (hts _ hv.2.1) hv.2.2.2.1 hRm, hv.2.2.2.2.2, hts _ hv.1⟩ ⟨PcC_blind, fun U hU hW => ⟨rfl, by rw [hU], by rw [hU]; exact hPc, hDc.weaken (fun _ _ _ _ => trivial), hK.go hlo hS hU hW⟩⟩ rfl hn hl.1 hs (lv_room hc) d ⟨by omega, by omega⟩) hS (fun q _ h => hFc q h) hFc (fun w1 t H1 locs1 ht hvm hw hB hz1 hk1 hS1 => ?_)
  obtain ⟨hP1, hD1⟩ := hB
  rw [ht] at hP1
  obtain ⟨hP2, hD2⟩ := va_join (wr := wr) (w1 := w1) hP hD isC isR hC hRr hnd hdis hk1 hFc hP1 hD1
  exact kk w1 hw H1 locs1 ls hP2 hD2 hS1 hl
end RulesC2
/-! String.length of a constant, over any world -/
def MtN (E : En) (l : Launch) (lo : Nat) (y : MethodName) (cc : ByteArray) (maxL : Nat) (ret : Option FieldType) (d : Nat) (avs : List Value) (r : Int32) : Prop :=
  ∀ sz, lo ≤ sz → Met l y (.code y cc maxL ret :: gw) (rmC d 0 0) (PcC E lo avs [] sz) (va_Qi (fun r2 (_ : Unit) => r2 = r) (fun _ _ => True) (fun q => sz ≤ q)) 0 0 (fun q => sz ≤ q)
theorem k_coder {E : En} {l : Launch} {lo i : Nat} (hi : i < 12) : MtN E l lo yJ0_coder_7d493 cJ0_coder_7d493 1 (some .byte) 1 [.ref (eSk E i)] 0 := by
  intro sz hlo
  refine Met.ofW (cc := cJ0_coder_7d493) (maxL := 1) (ret := some .byte) (by decide) rfl ?_
  intro p e s m args below meth c s₁ B hml hv
  obtain ⟨rfl, hsz, hP, hD0, hK⟩ := hv
  subst hsz
  have hx := B.exec
  have hb := B.bytes
  have hr := B.returns
  have hts0 := atoms_spec (ws := .code yJ0_coder_7d493 cJ0_coder_7d493 1 (some .byte) :: gw) B.pre
  have hts : ∀ w ∈ gw, w.before _ s = true := fun w hw => hts0 w (List.mem_cons_of_mem _ hw)
  have hown : s.vm.findClass RJ0 = some m.cls := findClass_of_methodNamed B.named
  have hlocks := B.notSynchronized
  have hl := lv_entry ([.ref (eSk E i)]) (n := 1) (Nat.le_of_ble_eq_true rfl)
  rw [lg_entry_eq]
  generalize (lg_sl ([.ref (eSk E i)]) ++ List.replicate (1 - (lg_sl ([.ref (eSk E i)])).length) Slot.unset).toArray = ls at hl ⊢
  have hl : lv_has ls 1 [(0, .ref (eSk E i))] := hl
  have hS : va_S (fun q => s.heap.size ≤ q) s.heap s.heap [] := va_S.rf
  have hn : ∀ q, (fun q => s.heap.size ≤ q) q → (fun q => lo ≤ q) q := fun q h => Nat.le_trans hlo h
  refine va_gets hx hb (hK.2.2.1.narrow hn) hS hown (hts _ fs_RJ0_38) (fun _ h9 => h9) dJ0_coder_7d493_0 ?_
  refine lv_if_eq (tgt := 13) hx hb dJ0_coder_7d493_3 (by decide) (fun h => absurd h (by decide)) (fun _ => ?_)
  refine lv_aload_n hx hb dJ0_coder_7d493_6 rfl (lv_at hl 0 rfl) ?_
  refine vk_getf hx hb ((hK.2.1.narrow hn).1 i hi).2.1 hS hown (hts _ fs_RJ0_15) (fun _ h9 => h9) dJ0_coder_7d493_7 ?_
  refine lv_goto (tgt := 14) hx hb dJ0_coder_7d493_10 (by decide) ?_
  exact W.zret (v := 0) hx hb hr rfl (fun t ht hW => ⟨⟨0, (), rfl, rfl, trivial⟩, hS.F ht⟩) hS.2.2 dJ0_coder_7d493_14
theorem k_len {E : En} {l : Launch} {lo i : Nat} (hi : i < 12) : MtN E l lo yJ0_length_8abf5 cJ0_length_8abf5 1 (some .int) 2 [.ref (eSk E i)] (Int32.ofNat (strLen.getD i 0)) := by
  intro sz hlo
  refine Met.ofW (cc := cJ0_length_8abf5) (maxL := 1) (ret := some .int) (by decide) rfl ?_
  intro p e s m args below meth c s₁ B hml hv
  obtain ⟨rfl, hsz, hP, hD0, hK⟩ := hv
  subst hsz
  have hx := B.exec
  have hb := B.bytes
  have hr := B.returns
  have hts0 := atoms_spec (ws := .code yJ0_length_8abf5 cJ0_length_8abf5 1 (some .int) :: gw) B.pre
  have hts : ∀ w ∈ gw, w.before _ s = true := fun w hw => hts0 w (List.mem_cons_of_mem _ hw)
  have hown : s.vm.findClass RJ0 = some m.cls := findClass_of_methodNamed B.named
  have hlocks := B.notSynchronized
  have hl := lv_entry ([.ref (eSk E i)]) (n := 1) (Nat.le_of_ble_eq_true rfl)
  rw [lg_entry_eq]
  generalize (lg_sl ([.ref (eSk E i)]) ++ List.replicate (1 - (lg_sl ([.ref (eSk E i)])).length) Slot.unset).toArray = ls at hl ⊢
  have hl : lv_has ls 1 [(0, .ref (eSk E i))] := hl
  have hS : va_S (fun q => s.heap.size ≤ q) s.heap s.heap [] := va_S.rf
  have hn : ∀ q, (fun q => s.heap.size ≤ q) q → (fun q => lo ≤ q) q := fun q h => Nat.le_trans hlo h
  have hT := (hK.2.1.narrow hn).1 i hi
  refine lv_aload_n hx hb dJ0_length_8abf5_0 rfl (lv_at hl 0 rfl) ?_
  refine vk_getf hx hb hT.2.2.1 hS hown (hts _ fs_RJ0_9) (fun _ h9 => h9) dJ0_length_8abf5_1 ?_
  refine va_tlen hx hb hT.2.2.2 hS rfl dJ0_length_8abf5_4 ?_
  refine lv_aload_n hx hb dJ0_length_8abf5_5 rfl (lv_at hl 0 rfl) ?_
  have cwq := cwV (R := rmC 2 0 0) (rm := rmC 1 0 0) (mc := 0) (ms := 0) 0 hts (gw_V (own := RJ0) yv_J0_coder_7d493 ml_RJ0_335) rfl rfl rfl yv_J0_coder_7d493.2.2.2.2.1 ⟨Nat.le_of_ble_eq_true rfl, Nat.le_of_ble_eq_true rfl⟩
  refine va_calli (va_runV (As := []) (rest := [.int (Int32.ofNat (strLen.getD i 0))]) ⟨hx, hb, hml, hown, hts⟩ (k_coder hi s.heap.size hlo) cwq ⟨PcC_blind, vk_recv (hK.2.1.narrow hn) hi hS, fun U hU hW => ⟨rfl, by rw [hU], fun k q h => by simp at h, ⟨fun i j p q h => by simp at h, fun k q h => by simp at h⟩, hK.go (A := fun q => s.heap.size ≤ q) hn hS hU hW⟩⟩ rfl rfl hl.1 rfl (lv_room (Nat.le_of_ble_eq_true rfl)) dJ0_length_8abf5_6 ⟨Nat.le_refl _, Nat.le_refl _⟩) hS (fun q _ h9 => h9) (fun q h9 => h9) (fun r2 u t H1 locs1 ht hvm hw hB hz hk1 hS1 => ?_)
  cases hw
  refine lv_ishr hx hb dJ0_length_8abf5_9 ?_
  have e0 : Int32.ofNat (strLen.getD i 0) >>> ((0 : Int32) &&& 31) = Int32.ofNat (strLen.getD i 0) := by
    have h : ∀ x : Int32, x >>> ((0 : Int32) &&& 31) = x := by intro x; simp
    exact h _
  rw [e0]
  exact W.iret (v := Int32.ofNat (strLen.getD i 0)) hx hb hr (fun t ht hW => ⟨⟨_, (), rfl, rfl, trivial⟩, hS1.F ht⟩) hS1.2.2 dJ0_length_8abf5_10
theorem ac_slen {E : En} {l : Launch} {lo : Nat} {Z : Zt} {A : Nat → Prop} {cc : ByteArray} {own : String} {nL D MC MS cs ss : Nat} {Q : State → Prop} {pc : Nat} {lv : List (Nat × Value)} {st : List Value} {ws : va_W} (X : CC E lo Z A cc own nL D MC MS) (hl0 : lZ l Z) {idx i : Nat} {v : Int32} (d : decode cc pc = .ok (.invokevirtual idx, 3)) (hk : Cond.methodLink own idx yJ0_length_8abf5 ∈ gw) (hi : i < 12) (hD2 : 4 ≤ D) (hc : (st.map fun v => v.category).sum ≤ 8) (hv : Int32.ofNat (strLen.getD i 0) = v) (kk : AC E Z A nL cs ss Q (pc + 3) lv (.int v :: st) ws) (hcs : cs ≤ MC) (hss : ss ≤ MS) : AC E Z A nL cs ss Q pc lv (.ref (eSk E i) :: st) ws := by
  obtain ⟨l0, p, e, R, s, m, args, below, meth, c, c0, s0⟩ := Z
  cases hl0
  obtain ⟨hx, hb, hml, hown, hts, hK, hA, hlo, hR, hlk⟩ := X
  intro H locs ls hP hD hS hl
  have hlo2 : lo ≤ H.size := Nat.le_trans (hlo _ (hA _ (Nat.le_refl _))) hS.1
  have hRm : (rmC 2 0 0).frames + 1 ≤ R.frames ∧ 8 + (1 + 11) + (rmC 2 0 0).locals ≤ R.locals := by
    simp only [rmC]
    omega
  have cwq := cwV (R := R) (rm := rmC 2 0 0) (mc := 0) (ms := 0) 0 hts (gw_V yv_J0_length_8abf5 hk) rfl rfl rfl yv_J0_length_8abf5.2.2.2.2.1 hRm
  refine va_calli (va_runV (As := []) (rest := st) ⟨hx, hb, hml, hown, hts⟩ (k_len hi H.size hlo2) cwq ⟨PcC_blind, vk_recv (hK.2.1.narrow hlo) hi hS, fun U hU hW => ⟨rfl, by rw [hU], fun k q h => by simp at h, ⟨fun i j p q h => by simp at h, fun k q h => by simp at h⟩, hK.go hlo hS hU hW⟩⟩ rfl rfl hl.1 rfl (lv_room hc) d ⟨by omega, by omega⟩) hS (fun q hq h9 => absurd hq (Nat.not_lt.mpr h9)) (fun q h9 => hA q (Nat.le_trans hS.1 h9)) (fun r2 u t H1 locs1 ht hvm hw hB hz hk1 hS1 => ?_)
  rw [hw, hv]
  exact kk H1 locs1 ls (fun k q h => (hP k q h).kept (hk1 q.1 (vx_lt hP h) (Nat.not_le.mpr (vx_lt hP h)))) hD hS1 hl
