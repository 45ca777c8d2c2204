section Pure26
variable {V : VT} {c b B : Nat} {μ ν : Mem}
theorem nI_bv (a : Nat) : (nI a).toBitVec = BitVec.ofNat 32 a := rfl
theorem nI_or (a b : Nat) : nI a ||| nI b = nI (a ||| b) := by
  apply Int32.toBitVec_inj.mp
  rw [Int32.toBitVec_or, nI_bv, nI_bv, nI_bv, BitVec.ofNat_or]
theorem nI_and (a b : Nat) : nI a &&& nI b = nI (a &&& b) := by
  apply Int32.toBitVec_inj.mp
  rw [Int32.toBitVec_and, nI_bv, nI_bv, nI_bv, BitVec.ofNat_and]
theorem nI_less (a b : Nat) : nI a &&& (nI b ^^^ -1) = nI (a &&& (a ^^^ b)) := by
  apply Int32.toBitVec_inj.mp
  rw [Int32.toBitVec_and, Int32.toBitVec_xor, nI_bv, nI_bv, nI_bv, show (-1 : Int32).toBitVec = BitVec.allOnes 32 from by decide, BitVec.xor_allOnes]
  apply BitVec.eq_of_getLsbD_eq
  intro i hi
  rw [BitVec.getLsbD_and, BitVec.getLsbD_not, BitVec.getLsbD_ofNat, BitVec.getLsbD_ofNat, BitVec.getLsbD_ofNat, Nat.testBit_and, Nat.testBit_xor]
  simp only [hi, decide_true, Bool.true_and]
  cases a.testBit i <;> cases b.testBit i <;> rfl
theorem shl1 : ∀ p, p < 8 → (1 : Int32) <<< (nI p &&& 31) = nI (2 ^ p) := by decide
def bN (d : Nat → Bool) : Nat → Nat
  | 0 => 0
  | m + 1 => bN d m ||| (if d m = true then 2 ^ m else 0)
theorem bN_cg {d d' : Nat → Bool} : ∀ m, (∀ i, i < m → d i = d' i) → bN d m = bN d' m
  | 0, _ => rfl
  | m + 1, h => by rw [bN, bN, bN_cg m (fun i hi => h i (by omega)), h m (by omega)]
theorem bN_bit (d : Nat → Bool) (i : Nat) : ∀ m, (bN d m).testBit i = (decide (i < m) && d i)
  | 0 => by
    rw [bN, Nat.zero_testBit]
    simp
  | m + 1 => by
    rw [bN, Nat.testBit_or, bN_bit d i m]
    by_cases e : i = m
    · subst e
      rw [decide_eq_false (Nat.lt_irrefl i), decide_eq_true (Nat.lt_succ_self i)]
      cases h : d i with
      | true => rw [if_pos rfl, Nat.testBit_two_pow_self]; rfl
      | false => rw [if_neg (by decide), Nat.zero_testBit]; rfl
    · have : (if d m = true then 2 ^ m else 0).testBit i = false := by
        cases h : d m with
        | true => rw [if_pos rfl, Nat.testBit_two_pow_of_ne (fun z => e z.symm)]
        | false => rw [if_neg (by decide), Nat.zero_testBit]
      rw [this, Bool.or_false]
      by_cases q : i < m
      · rw [decide_eq_true q, decide_eq_true (show i < m + 1 by omega)]
      · rw [decide_eq_false q, decide_eq_false (show ¬ i < m + 1 by omega)]
theorem bN_lt (d : Nat → Bool) (m : Nat) : bN d m < 2 ^ m := by
  apply Nat.lt_pow_two_of_testBit
  intro i hi
  rw [bN_bit, decide_eq_false (show ¬ i < m by omega)]
  rfl
theorem KDs_bN (st : Nat → Int32) (k : Int32) : ∀ (m p : Nat), p + m ≤ 8 → KDs st k p m (nI (bN (fun i => decide (st i = k)) p)) = nI (bN (fun i => decide (st i = k)) (p + m))
  | 0, _, _ => rfl
  | m + 1, p, h => by
    rw [KDs]
    have : nI (bN (fun i => decide (st i = k)) p) ||| (if st p = k then (1 : Int32) <<< (nI p &&& 31) else 0) = nI (bN (fun i => decide (st i = k)) (p + 1)) := by
      rw [bN]
      by_cases e : st p = k
      · rw [if_pos e, shl1 p (by omega), nI_or, if_pos (decide_eq_true e)]
      · rw [if_neg e, if_neg (by simp [e]), show (0 : Int32) = nI 0 from rfl, nI_or]
    rw [this, KDs_bN st k m (p + 1) (by omega)]
    congr 2
    omega
theorem KD_bN_33 (hc : c ≤ 6) (k : Int32) : KD_33 c μ k = nI (bN (fun i => decide (gI μ 34 i = k)) c) := by
  unfold KD_33
  have := KDs_bN (gI μ 34) k c 0 (by omega)
  rw [Nat.zero_add] at this
  exact this
theorem KD_bN_38 (hc : c ≤ 6) (k : Int32) : KD_38 c μ k = nI (bN (fun i => decide (gI μ 39 i = k)) c) := by
  unfold KD_38
  have := KDs_bN (gI μ 39) k c 0 (by omega)
  rw [Nat.zero_add] at this
  exact this
def Tr_33 (μ μ' : Mem) : Prop := ∀ i, i < 6 → gI μ' 34 i = gI μ 34 i ∨ ((gI μ 34 i = 0 ∨ gI μ 34 i = 1) ∧ (gI μ' 34 i = 2 ∨ gI μ' 34 i = 5))
def nw_33 (μ μ' : Mem) (k : Int32) (i : Nat) : Bool := decide (gI μ' 34 i = k) && !decide (gI μ 34 i = k)
theorem Tr_refl_33 : Tr_33 μ μ := fun _ _ => Or.inl rfl
theorem Tr_tr_33 {μ' μ'' : Mem} (h : Tr_33 μ μ') (h' : Tr_33 μ' μ'') : Tr_33 μ μ'' := fun i hi => by
  rcases h i hi with q | ⟨q1, q2⟩
  · rcases h' i hi with g | ⟨g1, g2⟩
    · exact Or.inl (g.trans q)
    · rw [q] at g1; exact Or.inr ⟨g1, g2⟩
  · rcases h' i hi with g | ⟨g1, g2⟩
    · rw [← g] at q2; exact Or.inr ⟨q1, q2⟩
    · exact Or.inr ⟨q1, g2⟩
theorem nw_tr_33 {μ' μ'' : Mem} (h : Tr_33 μ μ') (h' : Tr_33 μ' μ'') {k : Int32} (hk : k = 2 ∨ k = 5) {i : Nat} (hi : i < 6) : nw_33 μ μ'' k i = (nw_33 μ μ' k i || nw_33 μ' μ'' k i) := by
  have s : gI μ' 34 i = k → gI μ'' 34 i = k := fun e => by
    rcases h' i hi with g | ⟨g1, g2⟩
    · exact g.trans e
    · rw [e] at g1
      rcases hk with rfl | rfl <;> rcases g1 with g1 | g1 <;> exact absurd g1 (by decide)
  have s0 : gI μ 34 i = k → gI μ' 34 i = k := fun e => by
    rcases h i hi with g | ⟨g1, g2⟩
    · exact g.trans e
    · rw [e] at g1
      rcases hk with rfl | rfl <;> rcases g1 with g1 | g1 <;> exact absurd g1 (by decide)
  unfold nw_33
  by_cases e0 : gI μ 34 i = k
  · have e1 := s0 e0
    have e2 := s e1
    rw [decide_eq_true e0, decide_eq_true e1, decide_eq_true e2]; rfl
  · rw [decide_eq_false e0]
    by_cases e1 : gI μ' 34 i = k
    · have e2 := s e1
      rw [decide_eq_true e1, decide_eq_true e2]; rfl
    · rw [decide_eq_false e1]
      by_cases e2 : gI μ'' 34 i = k
      · rw [decide_eq_true e2]; rfl
      · rw [decide_eq_false e2]; rfl
def Tr_38 (μ μ' : Mem) : Prop := ∀ i, i < 6 → gI μ' 39 i = gI μ 39 i ∨ ((gI μ 39 i = 0 ∨ gI μ 39 i = 1) ∧ (gI μ' 39 i = 2 ∨ gI μ' 39 i = 5))
def nw_38 (μ μ' : Mem) (k : Int32) (i : Nat) : Bool := decide (gI μ' 39 i = k) && !decide (gI μ 39 i = k)
theorem Tr_refl_38 : Tr_38 μ μ := fun _ _ => Or.inl rfl
theorem Tr_tr_38 {μ' μ'' : Mem} (h : Tr_38 μ μ') (h' : Tr_38 μ' μ'') : Tr_38 μ μ'' := fun i hi => by
  rcases h i hi with q | ⟨q1, q2⟩
  · rcases h' i hi with g | ⟨g1, g2⟩
    · exact Or.inl (g.trans q)
    · rw [q] at g1; exact Or.inr ⟨g1, g2⟩
  · rcases h' i hi with g | ⟨g1, g2⟩
    · rw [← g] at q2; exact Or.inr ⟨q1, q2⟩
    · exact Or.inr ⟨q1, g2⟩
theorem nw_tr_38 {μ' μ'' : Mem} (h : Tr_38 μ μ') (h' : Tr_38 μ' μ'') {k : Int32} (hk : k = 2 ∨ k = 5) {i : Nat} (hi : i < 6) : nw_38 μ μ'' k i = (nw_38 μ μ' k i || nw_38 μ' μ'' k i) := by
  have s : gI μ' 39 i = k → gI μ'' 39 i = k := fun e => by
    rcases h' i hi with g | ⟨g1, g2⟩
    · exact g.trans e
    · rw [e] at g1
      rcases hk with rfl | rfl <;> rcases g1 with g1 | g1 <;> exact absurd g1 (by decide)
  have s0 : gI μ 39 i = k → gI μ' 39 i = k := fun e => by
    rcases h i hi with g | ⟨g1, g2⟩
    · exact g.trans e
    · rw [e] at g1
      rcases hk with rfl | rfl <;> rcases g1 with g1 | g1 <;> exact absurd g1 (by decide)
  unfold nw_38
  by_cases e0 : gI μ 39 i = k
  · have e1 := s0 e0
    have e2 := s e1
    rw [decide_eq_true e0, decide_eq_true e1, decide_eq_true e2]; rfl
  · rw [decide_eq_false e0]
    by_cases e1 : gI μ' 39 i = k
    · have e2 := s e1
      rw [decide_eq_true e1, decide_eq_true e2]; rfl
    · rw [decide_eq_false e1]
      by_cases e2 : gI μ'' 39 i = k
      · rw [decide_eq_true e2]; rfl
      · rw [decide_eq_false e2]; rfl
def wd (d o : Nat) : Int32 := nI (d ||| o * 256)
theorem wd_or (d o d' o' : Nat) : wd d o ||| wd d' o' = wd (d ||| d') (o ||| o') := by
  unfold wd
  rw [nI_or]
  congr 1
  apply Nat.eq_of_testBit_eq
  intro i
  have e : ∀ x : Nat, x * 256 = 2 ^ 8 * x := fun x => by omega
  rw [Nat.testBit_or, Nat.testBit_or, Nat.testBit_or, Nat.testBit_or, Nat.testBit_or, e o, e o', e (o ||| o'), Nat.testBit_two_pow_mul, Nat.testBit_two_pow_mul, Nat.testBit_two_pow_mul, Nat.testBit_or]
  cases d.testBit i <;> cases d'.testBit i <;> cases (decide (i ≥ 8)) <;> cases o.testBit (i - 8) <;> cases o'.testBit (i - 8) <;> rfl
theorem shl8 : ∀ o, o < 64 → nI o <<< ((8 : Int32) &&& 31) = nI (o * 256) := by decide
theorem wd_died : ∀ d, d < 64 → ∀ o, o < 64 → wd d o &&& 255 = nI d := by
  intro d hd o ho
  unfold wd
  rw [show (255 : Int32) = nI 255 from rfl, nI_and]
  congr 1
  apply Nat.eq_of_testBit_eq
  intro i
  have e : o * 256 = 2 ^ 8 * o := by omega
  rw [Nat.testBit_and, Nat.testBit_or, e, Nat.testBit_two_pow_mul, show 255 = 2 ^ 8 - 1 from rfl, Nat.testBit_two_pow_sub_one]
  by_cases q : i < 8
  · rw [decide_eq_true q, decide_eq_false (show ¬ i ≥ 8 by omega)]
    simp
  · have : d.testBit i = false := Nat.testBit_lt_two_pow (Nat.lt_of_lt_of_le hd (by
      have : 2 ^ 6 ≤ 2 ^ i := Nat.pow_le_pow_right (by decide) (by omega)
      omega))
    rw [decide_eq_false q, this]
    simp
theorem shr8n (n : Nat) (hn : n < 2 ^ 31) : nI n >>> ((8 : Int32) &&& 31) = nI (n / 256) := by
  rw [i_eq, nI_toInt (by omega), ← Int32.toInt_toBitVec, Int32.toBitVec_shiftRight, show ((8 : Int32) &&& 31).toBitVec.smod 32 = 8#32 from by decide]
  show (((nI n).toBitVec).sshiftRight (8#32).toNat).toInt = _
  rw [BitVec.toInt_sshiftRight, Int32.toInt_toBitVec, nI_toInt hn, show (8#32).toNat = 8 from rfl, Int.shiftRight_eq_div_pow]
  omega
theorem wd_over : ∀ d, d < 64 → ∀ o, o < 64 → wd d o >>> ((8 : Int32) &&& 31) = nI o := by
  intro d hd o ho
  unfold wd
  have hlt : d ||| o * 256 < 2 ^ 15 := by
    apply Nat.or_lt_two_pow <;> omega
  rw [shr8n _ (by omega)]
  congr 1
  rw [show (256 : Nat) = 2 ^ 8 from rfl, ← Nat.shiftRight_eq_div_pow, Nat.shiftRight_or_distrib, Nat.shiftRight_eq_div_pow, Nat.shiftRight_eq_div_pow, Nat.mul_div_cancel _ (by decide), Nat.div_eq_of_lt (by omega)]
  exact Nat.zero_or o
end Pure26
