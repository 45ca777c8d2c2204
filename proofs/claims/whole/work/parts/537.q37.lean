section Pure37
variable {V : VT} {c b B : Nat} {μ ν : Mem}
def wT (k j : Nat) : Bool := k == 118 || (k == 119 || (k == 31 && (j == 1 || (j == 2 || (j == 4 || j == 5)))))
def wU (k j : Nat) : Bool := k == 143 || (k == 144 || (k == 122 && (j == 37 || j == 38)))
theorem wT_sc {k j : Nat} (h : wT k j = true) : scC k j = true := by
  unfold wT at h
  simp only [Bool.or_eq_true, Bool.and_eq_true, beq_iff_eq] at h
  rcases h with rfl | rfl | ⟨rfl, rfl | rfl | rfl | rfl⟩ <;> rfl
theorem wU_sc {k j : Nat} (h : wU k j = true) : scM k j = true := by
  unfold wU at h
  simp only [Bool.or_eq_true, Bool.and_eq_true, beq_iff_eq] at h
  rcases h with rfl | rfl | ⟨rfl, rfl | rfl⟩ <;> rfl
def TS (fk : Bool) (D : Int32) (μ0 ν0 : Mem) (k : Nat) (μ ν : Mem) : Prop := Off wT μ0 μ ∧ Off wU ν0 ν ∧ gI μ 31 4 = D ∧ gI μ 31 5 = (if fk = true then 1 else 0) ∧ (∀ i, i < k → gI μ 119 i = gI ν 143 i) ∧ ∃ L, L ≤ 6 ∧ gI μ 31 1 = nI L ∧ gI ν 122 37 = nI L ∧ (∀ i, i < L → gI μ 118 i = gI ν 144 i) ∧ gI μ 31 2 = (if fk = true then gI ν 122 38 else nI L)
theorem TS.less {fk : Bool} {D : Int32} {μ0 ν0 μ ν : Mem} {k : Nat} (h : TS fk D μ0 ν0 (k + 1) μ ν) : TS fk D μ0 ν0 k μ ν := ⟨h.1, h.2.1, h.2.2.1, h.2.2.2.1, fun i hi => h.2.2.2.2.1 i (by omega), h.2.2.2.2.2⟩
theorem TS.turn {fk : Bool} {D : Int32} {μ0 ν0 μ ν : Mem} {k : Nat} (h : TS fk D μ0 ν0 k μ ν) (x : Int32) : TS fk D μ0 ν0 (k + 1) (sI μ 119 k x) (sI ν 143 k x) := by
  obtain ⟨h1, h2, h3, h4, h5, L, h6, h7, h8, h9, h10⟩ := h
  refine ⟨h1.sI rfl, h2.sI rfl, h3, h4, fun i hi => ?_, L, h6, h7, h8, h9, h10⟩
  rw [gI_sI, gI_sI]
  by_cases e : i = k
  · rw [if_pos ⟨rfl, e⟩, if_pos ⟨rfl, e⟩]
  · rw [if_neg (fun q => e q.2), if_neg (fun q => e q.2)]
    exact h5 i (by omega)
theorem cp66 : ∀ k, k < 7 → cpOK 0 0 (nI k) 6 6 = true := by decide
theorem mKeep : ∀ (m f i : Nat) (ν' : Mem), i + m ≤ 6 → m < f → ∃ ν'', fX12_keepLine_122_b7 f (nI (i + m)) (nI i) ν' = some ((), ν'') ∧ (∀ k j, k ≠ 144 → gI ν'' k j = gI ν' k j) ∧ (∀ k j, gL ν'' k j = gL ν' k j) ∧ (∀ j, gI ν'' 144 j = if i ≤ j ∧ j < i + m then gI ν' 143 j else gI ν' 144 j)
  | 0, f, i, ν', h1, h2 => by
    obtain ⟨f, rfl⟩ := Nat.exists_eq_succ_of_ne_zero (show f ≠ 0 by omega)
    refine ⟨ν', ?_, fun _ _ _ => rfl, fun _ _ => rfl, fun j => ?_⟩
    · rw [fX12_keepLine_122_b7, if_pos (nI_le (by omega) (by omega))]
    · rw [if_neg (by omega)]
  | m + 1, f, i, ν', h1, h2 => by
    obtain ⟨f, rfl⟩ := Nat.exists_eq_succ_of_ne_zero (show f ≠ 0 by omega)
    obtain ⟨ν'', a1, a2, a3, a4⟩ := mKeep m f (i + 1) (sI ν' 144 i (gI ν' 143 i)) (by omega) (by omega)
    refine ⟨ν'', ?_, fun k j hk => ?_, fun k j => a3 k j, fun j => ?_⟩
    · rw [fX12_keepLine_122_b7, if_neg (nI_ge (by omega) (by omega)), gd_in (by omega) (by decide), gd_in (by omega) (by decide), ix_nI (by omega), lt_e, nI_1, show i + (m + 1) = i + 1 + m by omega]
      exact a1
    · rw [a2 k j hk, gI_sI, if_neg (fun q => hk q.1)]
    · rw [a4 j, gI_sI, gI_sI]
      by_cases e : j = i
      · rw [if_neg (by omega), if_pos ⟨rfl, e⟩, if_pos (by omega), e]
      · rw [if_neg (show ¬ (144 = 144 ∧ j = i) from fun q => e q.2), if_neg (show ¬ (143 = 144 ∧ j = i) by omega)]
        by_cases g : i + 1 ≤ j ∧ j < i + 1 + m
        · rw [if_pos g, if_pos (by omega)]
        · rw [if_neg g, if_neg (by omega)]
theorem m_keepLine {k : Nat} (hk : k ≤ 6) (ν' : Mem) : ∃ ν'', fX12_keepLine_122 (nI k) ν' = some ((), ν'') ∧ Off wU ν' ν'' ∧ gI ν'' 122 37 = nI k ∧ (∀ j, gI ν'' 122 38 = gI ν' 122 38 ∧ gI ν'' 143 j = gI ν' 143 j) ∧ ∀ j, j < k → gI ν'' 144 j = gI ν' 143 j := by
  obtain ⟨ν'', a1, a2, a3, a4⟩ := mKeep k FU 0 (sI ν' 122 37 (nI k)) (by omega) (fu_lt (by omega))
  rw [Nat.zero_add] at a1
  refine ⟨ν'', a1, ⟨fun a j q => ?_, fun a j => a3 a j⟩, ?_, fun j => ⟨?_, ?_⟩, fun j hj => ?_⟩
  · have n1 : a ≠ 144 := by rintro rfl; exact Bool.noConfusion q
    rw [a2 a j n1, gI_sI, if_neg]
    rintro ⟨rfl, rfl⟩
    exact Bool.noConfusion q
  · rw [a2 _ _ (by decide), gI_sI, if_pos ⟨rfl, rfl⟩]
  · rw [a2 _ _ (by decide), gI_sI, if_neg (by decide)]
  · rw [a2 _ _ (by decide), gI_sI, if_neg (by omega)]
  · rw [a4 j, if_pos (by omega), gI_sI, if_neg (by omega)]
def keepC (μ : Mem) (k : Nat) (w : Int32) : Mem := sI (sI (sC μ 119 118 0 0 k) 31 1 (nI k)) 31 2 w
theorem c_keepC (rc : Int32 → Int32 → Int32 → Mem → Option (Unit × Mem)) {k : Nat} (hk : k ≤ 6) (u w : Int32) (μ' : Mem) : fX10_goOn_31_b24 rc (nI k) u w μ' = fX10_goOn_31_b48 rc (nI k) u w (keepC μ' k w) := by
  unfold fX10_goOn_31_b24 keepC
  rw [gd_of (cp66 k (by omega)), lt_e, lt_e, lt_e, show ix 0 = 0 from rfl, ix_nI (by omega)]
theorem keepC_off {μ0 : Mem} {k : Nat} {w : Int32} (o : Off wT μ0 μ) : Off wT μ0 (keepC μ k w) := by
  unfold keepC
  exact ((o.sC (fun _ => rfl)).sI rfl).sI rfl
theorem TS.keep {D : Int32} {μ0 ν0 μ ν ν' : Mem} {k : Nat} {fk : Bool} {w : Int32} (h : TS fk D μ0 ν0 k μ ν) (hk : k ≤ 6) (o : Off wU ν ν') (e1 : gI ν' 122 37 = nI k) (e2 : ∀ j, gI ν' 143 j = gI ν 143 j) (e3 : ∀ j, j < k → gI ν' 144 j = gI ν 143 j) (e4 : w = if fk = true then gI ν' 122 38 else nI k) : TS fk D μ0 ν0 k (keepC μ k w) ν' := by
  obtain ⟨h1, h2, h3, h4, h5, L, h6, h7, h8, h9, h10⟩ := h
  refine ⟨keepC_off h1, h2.tr o, ?_, ?_, fun i hi => ?_, k, hk, ?_, e1, fun i hi => ?_, ?_⟩
  · unfold keepC
    rw [gI_sI, if_neg (by decide), gI_sI, if_neg (by decide), gI_sC, if_neg (by decide), h3]
  · unfold keepC
    rw [gI_sI, if_neg (by decide), gI_sI, if_neg (by decide), gI_sC, if_neg (by decide), h4]
  · unfold keepC
    rw [gI_sI, if_neg (by omega), gI_sI, if_neg (by omega), gI_sC, if_neg (by decide), e2, h5 i hi]
  · unfold keepC
    rw [gI_sI, if_neg (by decide), gI_sI, if_pos ⟨rfl, rfl⟩]
  · unfold keepC
    rw [gI_sI, if_neg (by omega), gI_sI, if_neg (by omega), gI_sC, if_pos rfl, if_pos (by omega), e3 i hi, Nat.zero_add, Nat.sub_zero, h5 i hi]
  · unfold keepC
    rw [gI_sI, if_pos ⟨rfl, rfl⟩, e4]
def rm (d : Nat → Bool) (p i : Nat) : Bool := d i && !decide (i = p)
theorem CN_cg {d e : Nat → Bool} : ∀ m, (∀ i, i < m → d i = e i) → CN d m = CN e m
  | 0, _ => rfl
  | m + 1, h => by rw [CN, CN, CN_cg m (fun i hi => h i (by omega)), h m (by omega)]
theorem CN_rm {d : Nat → Bool} {p : Nat} (hd : d p = true) : ∀ m, p < m → CN (rm d p) m + 1 = CN d m
  | 0, h => by omega
  | m + 1, h => by
    rw [CN, CN]
    by_cases e : p = m
    · subst e
      have : CN (rm d p) p = CN d p := CN_cg p (fun i hi => by unfold rm; rw [decide_eq_false (show ¬ i = p by omega)]; simp)
      rw [this, hd, if_pos rfl, if_neg (by unfold rm; rw [decide_eq_true rfl]; simp)]
    · have := CN_rm hd m (by omega)
      have e2 : rm d p m = d m := by unfold rm; rw [decide_eq_false (show ¬ m = p by omega)]; simp
      rw [e2]
      omega
theorem CN_pos {d : Nat → Bool} {p : Nat} (hd : d p = true) {m : Nat} (h : p < m) : 0 < CN d m := by
  have := CN_rm hd m h
  omega
theorem bN_rm {d : Nat → Bool} {p : Nat} (hp : p < 8) (hc : c ≤ 8) : nI (bN d c) &&& (((1 : Int32) <<< (nI p &&& 31)) ^^^ -1) = nI (bN (rm d p) c) := by
  rw [shl1 p hp, nI_less]
  congr 1
  apply Nat.eq_of_testBit_eq
  intro i
  rw [Nat.testBit_and, Nat.testBit_xor, bN_bit, bN_bit, Nat.testBit_two_pow]
  unfold rm
  by_cases e : i = p
  · subst e
    cases (decide (i < c)) <;> cases d i <;> simp
  · rw [decide_eq_false e, decide_eq_false (show ¬ p = i by omega)]
    cases (decide (i < c)) <;> cases d i <;> simp
theorem has_bN {d : Nat → Bool} (hc : c ≤ 6) {p : Nat} (hp : p < c) : fX12_has (nI (bN d c)) (nI p) ν = some (if d p = true then 1 else 0, ν) := by
  have bl := bN_lt d c
  have p6 := pow6 hc
  rw [m_has]
  have := bit6 p (by omega) (bN d c) (by omega)
  rw [bN_bit, decide_eq_true hp, Bool.true_and] at this
  by_cases g : d p = true
  · rw [if_neg (fun z => by rw [this.mp z] at g; exact Bool.noConfusion g), if_pos g]
  · rw [if_pos (this.mpr (by simpa using g)), if_neg g]
def ULr (c : Nat) (pl : Nat → Bool) (u : Nat) (d : Nat → Bool) : Prop := u < 64 ∧ ∀ i, i < 6 → (pl i && !u.testBit i) = (decide (i < c) && d i)
theorem ULr.step {pl d : Nat → Bool} {u p : Nat} (h : ULr c pl u d) (hp : p < 6) : ULr c pl (u ||| 2 ^ p) (rm d p) := by
  refine ⟨Nat.or_lt_two_pow (n := 6) h.1 (Nat.pow_lt_pow_right (by decide) hp), fun i hi => ?_⟩
  have := h.2 i hi
  unfold rm
  rw [Nat.testBit_or, Nat.testBit_two_pow]
  by_cases e : i = p
  · subst e
    rw [decide_eq_true rfl]
    simp
  · rw [decide_eq_false e, decide_eq_false (show ¬ p = i by omega), Bool.or_false, this]
    simp
theorem PF_off {P : Nat → Nat → Bool} {μ' : Mem} (o : Off P μ μ') (hp : ∀ k j, P k j = true → scC k j = true) (x k : Int32) : PF_33 b μ' x k = PF_33 b μ x k := by
  have e : ∀ k j, cc k j ≠ 0 → gI μ' k j = gI μ k j := fun k j q => (o.mono hp).1 k j (by unfold scC; simp [q])
  unfold PF_33
  exact PFs_cg _ _ b 0 0 (fun i _ => ⟨e 12 i (show (2 : Nat) ≠ 0 by decide), e 37 i (show (4 : Nat) ≠ 0 by decide), e 14 i (show (2 : Nat) ≠ 0 by decide)⟩)
def dayL (d e : Nat) : Nat := if e ≤ d then 6 else if e - d < 6 then e - d else 6
theorem dayL_e {d e : Nat} (he : e ≤ 99) : imin (if e ≤ d then 1000 else nI (e - d)) 6 = nI (dayL d e) := by
  unfold imin dayL
  by_cases q : e ≤ d
  · rw [if_pos q, if_pos q, if_pos (by decide)]; rfl
  · rw [if_neg q, if_neg q]
    by_cases g : e - d < 6
    · rw [if_pos g, if_neg (show ¬ (6 : Int32) < nI (e - d) from nI_nlt (a := 6) (by omega) (by decide))]
    · rw [if_neg g]
      by_cases g2 : e - d = 6
      · rw [g2, if_neg (by decide)]
      · rw [if_pos (show (6 : Int32) < nI (e - d) from nI_lt (a := 6) (by omega) (by omega))]; rfl
theorem dayL_iff {d e k : Nat} (hk : k < 6) : k < dayL d e ↔ (e ≤ d ∨ d + k < e) := by
  unfold dayL
  by_cases q : e ≤ d
  · rw [if_pos q]; omega
  · rw [if_neg q]
    by_cases g : e - d < 6
    · rw [if_pos g]; omega
    · rw [if_neg g]; omega
theorem dayL_6 (d e : Nat) : dayL d e ≤ 6 := by
  unfold dayL
  by_cases q : e ≤ d
  · rw [if_pos q]; omega
  · rw [if_neg q]
    by_cases g : e - d < 6
    · rw [if_pos g]; omega
    · rw [if_neg g]; omega
theorem c_pass (h : Rel V c b B μ ν) (rc : Int32 → Int32 → Int32 → Mem → Option (Unit × Mem)) {u p f : Nat} {d : Nat → Bool} (hu : ULr c (fun i => decide (gI μ 34 i = 1)) u d) (hp : p < 6) (hn : (decide (p < c) && d p) = false) (k w : Int32) : fX10_goOn_31_b66 rc (f + 1) k (nI u) w (nI p) μ = fX10_goOn_31_b66 rc f k (nI u) w (nI (p + 1)) μ := by
  have q := hu.2 p hp
  rw [hn] at q
  rw [fX10_goOn_31_b66, if_neg (show ¬ (6 : Int32) ≤ nI p from nI_ge (b := 6) hp (by decide))]
  unfold fX10_isPleaded_31 fX10_goOn_31_b95 fX10_goOn_31_b96 fX10_goOn_31_b117
  rw [gd_in hp (by decide), ix_nI (by omega)]
  by_cases e : gI μ 34 p = 1
  · rw [if_pos e, bnd_e, if_neg n10]
    have t : u.testBit p = true := by
      simp only [decide_eq_true e, Bool.true_and] at q
      simpa using q
    rw [if_neg (fun z => by rw [(bit6 p hp u hu.1).mp z] at t; exact Bool.noConfusion t), if_pos rfl, if_pos rfl, nI_1]
  · rw [if_neg e, bnd_e, if_pos rfl, if_pos rfl, if_pos rfl, nI_1]
theorem c_free (h : Rel V c b B μ ν) (rc : Int32 → Int32 → Int32 → Mem → Option (Unit × Mem)) {u p f : Nat} {d : Nat → Bool} (hu : ULr c (fun i => decide (gI μ 34 i = 1)) u d) (hp : p < 6) (hn : (decide (p < c) && d p) = true) (k w : Int32) : fX10_goOn_31_b66 rc (f + 1) k (nI u) w (nI p) μ = fX10_goOn_31_b117 rc (fun p1 p2 p3 p4 m => fX10_goOn_31_b66 rc f p1 p2 p3 p4 m) k (nI u) w (nI p) 1 (if PF_33 b μ (nI p) k < 100 then 3 else 4) μ := by
  have q := hu.2 p hp
  rw [hn] at q
  rw [fX10_goOn_31_b66, if_neg (show ¬ (6 : Int32) ≤ nI p from nI_ge (b := 6) hp (by decide))]
  unfold fX10_isPleaded_31 fX10_goOn_31_b96
  rw [gd_in hp (by decide), ix_nI (by omega)]
  simp only [Bool.and_eq_true, decide_eq_true_eq] at q
  have t : u.testBit p = false := by simpa using q.2
  rw [if_pos q.1, bnd_e, if_neg n10, if_pos ((bit6 p hp u hu.1).mpr t), if_neg n10, c_verdict h, bnd_e]
theorem turns_tell (h : Rel V c b B μ ν) {fk : Bool} {D : Int32} {μ0 ν0 : Mem} {k L : Nat} (hL : L ≤ 6) (l1 : gI μ 31 1 = nI L) (l2 : gI ν 122 37 = nI L) (l3 : ∀ i, i < L → gI μ 118 i = gI ν 144 i) : ∀ (m f i : Nat) (μ3 ν3 : Mem) (l : List Int64), i + m = L → m < f → l.length = i → TC μ μ3 l → TM ν ν3 l → Sm (fun _ μ' _ ν' => ∃ l', l'.length ≤ 8 ∧ TC μ μ' l' ∧ TM ν ν' l') (fX11_tellTurns_0_b9 f (nI i) μ3) (fX12_tellLine_122_b7 f (nI i) ν3) := by
  intro m
  induction m with
  | zero =>
    intro f i μ3 ν3 l h1 h2 hl t1 t2
    obtain ⟨f, rfl⟩ := Nat.exists_eq_succ_of_ne_zero (show f ≠ 0 by omega)
    rw [fX11_tellTurns_0_b9, fX12_tellLine_122_b7, t1.1 31 1 rfl, t2.1 122 37 rfl, l1, l2, if_pos (nI_le (by omega) (by omega)), if_pos (nI_le (by omega) (by omega))]
    exact sm_end ⟨l, by omega, t1, t2⟩
  | succ m ih =>
    intro f i μ3 ν3 l h1 h2 hl t1 t2
    obtain ⟨f, rfl⟩ := Nat.exists_eq_succ_of_ne_zero (show f ≠ 0 by omega)
    rw [fX11_tellTurns_0_b9, fX12_tellLine_122_b7, t1.1 31 1 rfl, t2.1 122 37 rfl, l1, l2, if_neg (nI_ge (by omega) (by omega)), if_neg (nI_ge (by omega) (by omega)), gd_in (by omega) (by decide), gd_in (by omega) (by decide), ix_nI (by omega), t1.1 118 i rfl, t2.1 144 i rfl, l3 i (by omega)]
    refine sm_L (c_add t1 (by omega) _) (fun _ μ4 t3 => ?_)
    refine sm_R (m_tell t2 (by omega) _) (fun _ ν4 t4 => ?_)
    rw [nI_1]
    exact ih f (i + 1) μ4 ν4 _ (by omega) (by omega) (by rw [List.length_append, hl]; rfl) t3 t4
end Pure37
