def Zl (l : Launch) (p : Program) (e : Env) (s : State) (m : MethodId) (b : Nat) (below : List Frame) (meth : Method) (c : Code) (cs ss : Nat) : Zt := (l, p, e, room_1, s, m, #[Value.ref b], below, meth, c, cs, ss)
/-- THE PURE STEP, of both functions over one memory: a call leads on, and the relation holds again -/
def PureStep (RR : Nat → Mem → Prop) (L : Nat) (xs : Nat → Int32) : Prop := ∀ i μ, RR i μ → i + 5 ≤ L → ∃ μ', RR (i + 5) μ' ∧ ∀ k : Int32 → Mem → Option (Unit × Mem), fLaw k L xs (nI i) μ = k (nI (i + 5)) μ'
theorem ao_any {E : En} {Z : Zt} {nL : Nat} {Q : State → Prop} {pc : Nat} {lv : List (Nat × Value)} {st : List Value} {μ a b : Mem} (h : AO E Z nL (fun (_ : Unit) (_ : Mem) => Q) pc lv st μ (some ((), a))) : AO E Z nL (fun (_ : Unit) (_ : Mem) => Q) pc lv st μ (some ((), b)) := by
  obtain ⟨l, p, e, R, s, m, args, below, meth, c, cs, ss⟩ := Z
  exact fun r μ' _ H locs ls hP hS hl => h () a rfl H locs ls hP hS hl
theorem nI_sub5 {L i : Nat} (hL : L ≤ 2560) (hi : i ≤ 2600) (h : L < i + 5) : nI L - 5 < nI i := by
  rw [Int32.lt_iff_toInt_lt]
  rw [show (5 : Int32) = nI 5 from rfl, pk_sub_toInt (by omega) (by omega), nI_toInt (by omega)]
  omega
theorem law_exit {k : Int32 → Mem → Option (Unit × Mem)} {L i : Nat} {xs : Nat → Int32} {μ : Mem} (hL : L ≤ 2560) (hi : i ≤ 2600) (h : L < i + 5) : fLaw k L xs (nI i) μ = some ((), μ) := by
  unfold fLaw
  rw [if_pos (nI_sub5 hL hi h)]
theorem law_end {E : En} {l : Launch} {p : Program} {e : Env} {s : State} {m : MethodId} {below : List Frame} {meth : Method} {c : Code} {b L : Nat} {xs : Nat → Int32} {cs ss : Nat} (C0 : lw_At p s m meth c b L xs) (hlo : ∀ k, k < NC → s.heap.size ≤ eAd E k) (h1 : cs ≤ 608190) (h2 : ss ≤ 7271534) (X : Cx E (Zl l p e s m b below meth c cs ss) cL_law RL 8 513) (μ : Mem) : AO E (Zl l p e s m b below meth c cs ss) 8 (fun (_ : Unit) (_ : Mem) => lw_Z below #[Value.ref b] s) 1645 [] [] μ (some ((), μ)) := by
  obtain ⟨hx, hb, hr, hml, hown, hts, hX, hbl, hlocks, hgv⟩ := C0
  refine ao_iconst (pc := 1645) X dL_law_1645 ic_1 ?_
  intro r μ' h H locs ls hP hS hl
  refine va_forget (fun q hq => ?_) ?_
  · rcases hS.2.2 q hq with ⟨k, hk, he⟩ | h
    · rw [← he]; exact hlo k hk
    · exact h
  · refine W.widen (k := 608190) (n := 7271534) h1 h2 ?_
    exact lw_ret hx hb hr hlocks dL_law_1646
theorem law_loop {E : En} {l : Launch} {p : Program} {e : Env} {s : State} {m : MethodId} {below : List Frame} {meth : Method} {c : Code} {b L : Nat} {xs : Nat → Int32} (hL : L ≤ 2560) (hI : Inj E) (hst : l.stackTraces = false) (C0 : lw_At p s m meth c b L xs) (hK : KX E s) (hT : KT E s) (hlo : ∀ k, k < NC → s.heap.size ≤ eAd E k) {RR : Nat → Mem → Prop} (hstep : PureStep RR L xs) :
    ∀ (n i cs ss : Nat) (μ u : Mem), L < i + 5 * n + 5 → i ≤ L + 5 → RR i μ → cs + n ≤ 1000 → ss + 6 * n ≤ 100000 → AO E (Zl l p e s m b below meth c cs ss) 8 (fun (_ : Unit) (_ : Mem) => lw_Z below #[Value.ref b] s) 23 [(0, .ref b), (1, .ref (eAd E 0)), (2, .ref (eAd E 122)), (3, .ref (eAd E 149)), (4, .int (nI i))] [] μ (some ((), u)) := by
  classical
  obtain ⟨hx, hb, hr, hml, hown, hts, hX, hbl, hlocks, hgv⟩ := id C0
  have hbA : ¬ Aw E s.heap.size b := fun h => by
    rcases h with ⟨k, hk, he⟩ | h
    · have := hlo k hk; omega
    · omega
  intro n
  induction n with
  | zero =>
    intro i cs ss μ u h1 h2 h3 h4 h5
    have X : Cx E (Zl l p e s m b below meth c cs ss) cL_law RL 8 513 := ⟨hx, hb, hml, hown, fun w hw => hts w (List.mem_filter.mp hw).1, hK, hI, ⟨by decide, by decide, by decide, by show cs ≤ 608190; omega, by show ss ≤ 7271534; omega⟩, hlocks⟩
    have B := law_body (k := fun _ _ => none) hI hst (show lZ l (Zl l p e s m b below meth c cs ss) from rfl) X hT ⟨by show cs + 1 ≤ 608190; omega, by show ss + 6 ≤ 7271534; omega⟩ (show zX (Zl l p e s m b below meth c cs ss) E b L xs from ⟨hX, hbl, hbA⟩) (fun _ _ => ao_none) (fun m9 => law_end C0 hlo (by omega) (by omega) X m9) (nI i) μ
    rw [law_exit hL (by omega) (by omega)] at B
    exact ao_any B
  | succ n ih =>
    intro i cs ss μ u h1 h2 h3 h4 h5
    have X : Cx E (Zl l p e s m b below meth c cs ss) cL_law RL 8 513 := ⟨hx, hb, hml, hown, fun w hw => hts w (List.mem_filter.mp hw).1, hK, hI, ⟨by decide, by decide, by decide, by show cs ≤ 608190; omega, by show ss ≤ 7271534; omega⟩, hlocks⟩
    by_cases hg : i + 5 ≤ L
    · obtain ⟨μ', hR, hf⟩ := hstep i μ h3 hg
      have B := law_body (k := fun p4 m9 => if p4 = nI (i + 5) ∧ m9 = μ' then some ((), u) else none) hI hst (show lZ l (Zl l p e s m b below meth c cs ss) from rfl) X hT ⟨by show cs + 1 ≤ 608190; omega, by show ss + 6 ≤ 7271534; omega⟩ (show zX (Zl l p e s m b below meth c cs ss) E b L xs from ⟨hX, hbl, hbA⟩) (fun p4 m9 => by
        by_cases hc : p4 = nI (i + 5) ∧ m9 = μ'
        · rw [if_pos hc, hc.1, hc.2]
          exact ih (i + 5) (cs + 1) (ss + 6) μ' u (by omega) (by omega) hR (by omega) (by omega)
        · rw [if_neg hc]
          exact ao_none) (fun m9 => law_end C0 hlo (by omega) (by omega) X m9) (nI i) μ
      rw [hf, if_pos ⟨rfl, rfl⟩] at B
      exact B
    · have B := law_body (k := fun _ _ => none) hI hst (show lZ l (Zl l p e s m b below meth c cs ss) from rfl) X hT ⟨by show cs + 1 ≤ 608190; omega, by show ss + 6 ≤ 7271534; omega⟩ (show zX (Zl l p e s m b below meth c cs ss) E b L xs from ⟨hX, hbl, hbA⟩) (fun _ _ => ao_none) (fun m9 => law_end C0 hlo (by omega) (by omega) X m9) (nI i) μ
      rw [law_exit hL (by omega) (by omega)] at B
      exact ao_any B
