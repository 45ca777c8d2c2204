section Pure36
variable {V : VT} {c b B : Nat} {μ ν : Mem}
theorem subOk {ok : Nat → Bool} {y : Nat} (hy : y < 2 ^ c) : sub8 y (bN ok c) = true ↔ ∀ i, i < c → y.testBit i = true → ok i = true := by
  unfold sub8
  rw [decide_eq_true_iff]
  constructor
  · intro e i hi hb
    have q : (y &&& (y ^^^ bN ok c)).testBit i = false := by rw [e, Nat.zero_testBit]
    rw [Nat.testBit_and, Nat.testBit_xor, bN_bit, hb, decide_eq_true hi] at q
    revert q
    cases ok i <;> simp
  · intro q
    apply Nat.eq_of_testBit_eq
    intro i
    rw [Nat.testBit_and, Nat.testBit_xor, bN_bit, Nat.zero_testBit]
    by_cases hi : i < c
    · rw [decide_eq_true hi]
      cases hb : y.testBit i with
      | false => rfl
      | true => rw [q i hi hb]; rfl
    · have : y.testBit i = false := Nat.testBit_lt_two_pow (Nat.lt_of_lt_of_le hy (Nat.pow_le_pow_right (by decide) (by omega)))
      rw [this]; rfl
section
variable {d : Nat} {μ2 ν2 : Mem}
theorem pow6 {c : Nat} (h : c ≤ 6) : 2 ^ c ≤ 64 := Nat.pow_le_pow_right (n := 2) (by decide) h
theorem vS_nat {y q : Nat} (hq : q < c) (ok : ∀ i, i < c → y.testBit i = true → okS V μ d i = true) : ∃ k, k ≤ 90 ∧ vS V μ d y q = nI k := by
  unfold vS
  by_cases g : y.testBit q = true
  · rw [if_pos g]
    obtain ⟨b1, b2⟩ := okS_nat (ok q hq g)
    exact ⟨_, b1, b2⟩
  · rw [if_neg g]
    exact ⟨0, by omega, rfl⟩
def RLn (V : VT) (μ : Mem) (d y z : Nat) : Nat → Nat → Int32
  | 0, _ => 0
  | m + 1, q => if vS V μ d y q = vS V μ d z q then RLn V μ d y z m (q + 1) else if vS V μ d z q ≤ vS V μ d y q then 0 else 1
theorem cRL (hm : gI μ2 5 5 = nI c) (hv : ∀ q, q < c → gI μ2 121 q = sS V μ d q) (h6 : c ≤ 6) {y z : Nat} (hy : y < 64) (hz : z < 64) (oky : ∀ i, i < c → y.testBit i = true → okS V μ d i = true) (okz : ∀ i, i < c → z.testBit i = true → okS V μ d i = true) : ∀ (m f q : Nat), q + m = c → m < f → fX11_isBetterLaid_0_b54 f (nI y) (nI z) (nI q) μ2 = some (RLn V μ d y z m q, μ2) := by
  intro m
  induction m with
  | zero =>
    intro f q h1 h2
    obtain ⟨f, rfl⟩ := Nat.exists_eq_succ_of_ne_zero (show f ≠ 0 by omega)
    rw [fX11_isBetterLaid_0_b54, hm, if_pos (nI_le (by omega) (by omega))]
    rfl
  | succ m ih =>
    intro f q h1 h2
    obtain ⟨f, rfl⟩ := Nat.exists_eq_succ_of_ne_zero (show f ≠ 0 by omega)
    rw [fX11_isBetterLaid_0_b54, hm, if_neg (nI_ge (by omega) (by omega)), c_one hv h6 (by omega) hy, bnd_e, c_one hv h6 (by omega) hz, bnd_e, lt_e, nI_1, RLn]
    obtain ⟨k1, a1, a2⟩ := vS_nat (V := V) (μ := μ) (d := d) (show q < c by omega) oky
    obtain ⟨k2, b1, b2⟩ := vS_nat (V := V) (μ := μ) (d := d) (show q < c by omega) okz
    rw [a2, b2]
    have t := sub_toInt (a := k1) (b := k2) (by omega) (by omega)
    by_cases e : k1 = k2
    · subst e
      rw [if_pos rfl, if_pos (by rw [i_eq, t, Int32.toInt_zero]; omega)]
      exact ih f (q + 1) (by omega) (by omega)
    · have n0 : ¬ nI k1 - nI k2 = 0 := by rw [i_eq, t, Int32.toInt_zero]; omega
      have n1 : ¬ nI k1 = nI k2 := by rw [nI_eq (by omega) (by omega)]; exact e
      rw [if_neg n0, if_neg n1]
      by_cases g : k2 ≤ k1
      · have n2 : 0 ≤ nI k1 - nI k2 := by rw [i_le, t, Int32.toInt_zero]; omega
        rw [if_pos n2, if_pos (nI_le g (by omega))]
      · have n2 : ¬ 0 ≤ nI k1 - nI k2 := by rw [i_le, t, Int32.toInt_zero]; omega
        rw [if_neg n2, if_neg (nI_ge (by omega) (by omega))]
theorem mRL (hm : gI ν2 122 1 = nI c) (hv : ∀ q, q < c → gI ν2 142 q = sS V μ d q) (h6 : c ≤ 6) {y z : Nat} (hy : y < 64) (hz : z < 64) : ∀ (m f q : Nat), q + m = c → m < f → fX12_isLessRow_122_b2 f (nI y) (nI z) (nI q) ν2 = some (RLn V μ d y z m q, ν2) := by
  intro m
  induction m with
  | zero =>
    intro f q h1 h2
    obtain ⟨f, rfl⟩ := Nat.exists_eq_succ_of_ne_zero (show f ≠ 0 by omega)
    rw [fX12_isLessRow_122_b2, hm, if_pos (nI_le (by omega) (by omega))]
    rfl
  | succ m ih =>
    intro f q h1 h2
    obtain ⟨f, rfl⟩ := Nat.exists_eq_succ_of_ne_zero (show f ≠ 0 by omega)
    have last : ∀ x w : Int32, x = vS V μ d y q → w = vS V μ d z q → fX12_isLessRow_122_b48 (fun p1 p2 p3 m => fX12_isLessRow_122_b2 f p1 p2 p3 m) (nI y) (nI z) (nI q) x w ν2 = some (RLn V μ d y z (m + 1) q, ν2) := by
      rintro x w rfl rfl
      unfold fX12_isLessRow_122_b48
      rw [RLn, nI_1]
      by_cases e : vS V μ d y q = vS V μ d z q
      · rw [if_pos e, if_pos e]
        exact ih f (q + 1) (by omega) (by omega)
      · rw [if_neg e, if_neg e]
        by_cases g : vS V μ d z q ≤ vS V μ d y q
        · rw [if_pos g, if_pos g]
        · rw [if_neg g, if_neg g]
    have mid : ∀ x : Int32, x = vS V μ d y q → fX12_isLessRow_122_b28 (fun p1 p2 p3 m => fX12_isLessRow_122_b2 f p1 p2 p3 m) (nI y) (nI z) (nI q) x ν2 = some (RLn V μ d y z (m + 1) q, ν2) := by
      intro x hx
      unfold fX12_isLessRow_122_b28
      rw [m_one hv h6 (by omega) hz, bnd_e]
      by_cases g : z.testBit q = true
      · rw [if_pos g, if_neg n10, gd_in (by omega) (by decide), ix_nI (by omega), hv q (by omega)]
        exact last x _ hx (by unfold vS; rw [if_pos g])
      · rw [if_neg g, if_pos rfl]
        exact last x _ hx (by unfold vS; rw [if_neg g])
    rw [fX12_isLessRow_122_b2, hm, if_neg (nI_ge (by omega) (by omega)), m_one hv h6 (by omega) hy, bnd_e]
    by_cases g : y.testBit q = true
    · rw [if_pos g, if_neg n10, gd_in (by omega) (by decide), ix_nI (by omega), hv q (by omega)]
      exact mid _ (by unfold vS; rw [if_pos g])
    · rw [if_neg g, if_pos rfl]
      exact mid _ (by unfold vS; rw [if_neg g])
theorem c_better (hm : gI μ2 5 5 = nI c) (hv : ∀ q, q < c → gI μ2 121 q = sS V μ d q) (h6 : c ≤ 6) {y z : Nat} (hy : y < 64) (hz : z < 64) (oky : ∀ i, i < c → y.testBit i = true → okS V μ d i = true) (okz : ∀ i, i < c → z.testBit i = true → okS V μ d i = true) : fX11_isBetterLaid_0 (nI y) (nI z) μ2 = some (if bc (nI y) - bc (nI z) = 0 then (if nI (SSn V μ d y c 0) - nI (SSn V μ d z c 0) = 0 then RLn V μ d y z c 0 else if 0 ≤ nI (SSn V μ d y c 0) - nI (SSn V μ d z c 0) then 0 else 1) else if 0 < bc (nI y) - bc (nI z) then 1 else 0, μ2) := by
  have s1 := cSum (a := 0) (f := FU) (q := 0) (m := c) hm hv h6 hy oky (by omega) (fu_lt (by omega))
  have s2 := cSum (a := 0) (f := FU) (q := 0) (m := c) hm hv h6 hz okz (by omega) (fu_lt (by omega))
  rw [Nat.zero_add] at s1 s2
  unfold fX11_isBetterLaid_0 fX11_stonesOn_0 fX11_isBetterLaid_0_b32
  rw [bc_e, bnd_e, bc_e, bnd_e, lt_e, show fX11_stonesOn_0_b4 FU (nI y) 0 0 μ2 = _ from s1, bnd_e, show fX11_stonesOn_0_b4 FU (nI z) 0 0 μ2 = _ from s2, bnd_e, lt_e]
  by_cases e : bc (nI y) - bc (nI z) = 0
  · simp only [if_pos e]
    by_cases e2 : nI (SSn V μ d y c 0) - nI (SSn V μ d z c 0) = 0
    · simp only [if_pos e2]
      exact cRL hm hv h6 hy hz oky okz c FU 0 (by omega) (fu_lt (by omega))
    · simp only [if_neg e2, e, if_neg (show ¬ (0 : Int32) < 0 by decide)]
      by_cases e3 : 0 ≤ nI (SSn V μ d y c 0) - nI (SSn V μ d z c 0)
      · simp only [if_pos e3]
      · simp only [if_neg e3]
  · simp only [if_neg e]
    by_cases e3 : 0 < bc (nI y) - bc (nI z)
    · simp only [if_pos e3]
    · simp only [if_neg e3]
theorem stones_tell (h : Rel V c b B μ2 ν2) {z : Nat} (hz : z < 64) (hv : ∀ q, q < c → gI μ2 121 q = sS V μ d q) (hw : ∀ q, q < c → gI ν2 142 q = sS V μ d q) : ∀ (m f q : Nat) (μ3 ν3 : Mem) (l : List Int64), q + m = c → m < f → l.length = q → TC μ2 μ3 l → TM ν2 ν3 l → Pr V c b B (fX11_stones_0_b104 f (nI z) (nI q) μ3) (fX12_stones_122_b211 f (nI z) (nI q) ν3) := by
  have h6 := h.c6
  intro m
  induction m with
  | zero =>
    intro f q μ3 ν3 l h1 h2 hl t1 t2
    obtain ⟨f, rfl⟩ := Nat.exists_eq_succ_of_ne_zero (show f ≠ 0 by omega)
    have h3 := h.tell t1 t2 (by omega)
    rw [fX11_stones_0_b104, fX12_stones_122_b211, h3.men, h3.menM, if_pos (nI_le (by omega) (by omega)), if_pos (nI_le (by omega) (by omega)), bc_e, bnd_e, bc_e, bnd_e]
    exact pr_end h3 _
  | succ m ih =>
    intro f q μ3 ν3 l h1 h2 hl t1 t2
    obtain ⟨f, rfl⟩ := Nat.exists_eq_succ_of_ne_zero (show f ≠ 0 by omega)
    have h3 := h.tell t1 t2 (by omega)
    have hv3 : ∀ q, q < c → gI μ3 121 q = sS V μ d q := fun q hq => (t1.1 121 q rfl).trans (hv q hq)
    have hw3 : ∀ q, q < c → gI ν3 142 q = sS V μ d q := fun q hq => (t2.1 142 q rfl).trans (hw q hq)
    rw [fX11_stones_0_b104, fX12_stones_122_b211, h3.men, h3.menM, if_neg (nI_ge (by omega) (by omega)), if_neg (nI_ge (by omega) (by omega)), c_one hv3 h6 (by omega) hz, bnd_e, m_one hw3 h6 (by omega) hz, bnd_e]
    refine sm_L (c_add t1 (by omega) _) (fun _ μ4 t3 => ?_)
    have go : ∀ x, x = Int32.toInt64 (vS V μ d z q) → Sm (fun r μ' r' ν' => r' = r ∧ Rel V c b B μ' ν') (fX11_stones_0_b104 f (nI z) (nI q + 1) μ4) (fX12_stones_122_b242 (fun p3 p4 m => fX12_stones_122_b211 f p3 p4 m) (nI z) (nI q) x ν3) := by
      rintro x rfl
      unfold fX12_stones_122_b242
      refine sm_R (m_tell t2 (by omega) _) (fun _ ν4 t4 => ?_)
      rw [nI_1]
      exact ih f (q + 1) μ4 ν4 _ (by omega) (by omega) (by rw [List.length_append, hl]; rfl) t3 t4
    by_cases g : z.testBit q = true
    · rw [if_pos g, if_neg n10, gd_in (by omega) (by decide), ix_nI (by omega), hw3 q (by omega)]
      exact go _ (by unfold vS; rw [if_pos g])
    · rw [if_neg g, if_pos rfl]
      exact go _ (by unfold vS; rw [if_neg g]; decide)
theorem stones_rest (hm : gI μ2 5 5 = nI c) (hv : ∀ q, q < c → gI μ2 121 q = sS V μ d q) (h6 : c ≤ 6) (p1 p2 : Int32) : ∀ (m f y : Nat), y + m = 2 ^ c → m < f → bN (okS V μ d) c < y → fX11_stones_0_b47 f p1 p2 (nI y) μ2 = bnd (fX7_clear_3 μ2) fun _ m6 => fX11_stones_0_b104 FU p2 0 m6 := by
  have p6 := pow6 h6
  intro m
  induction m with
  | zero =>
    intro f y h1 h2 h3
    obtain ⟨f, rfl⟩ := Nat.exists_eq_succ_of_ne_zero (show f ≠ 0 by omega)
    rw [fX11_stones_0_b47, hm, shl1 c (by omega), if_pos (nI_le (by omega) (by omega))]
  | succ m ih =>
    intro f y h1 h2 h3
    obtain ⟨f, rfl⟩ := Nat.exists_eq_succ_of_ne_zero (show f ≠ 0 by omega)
    have ne : ¬ sub8 y (bN (okS V μ d) c) = true := fun q => by have := sub8_le q; omega
    rw [subOk (by omega)] at ne
    simp only [Classical.not_forall] at ne
    obtain ⟨i, hi, hb, hn⟩ := ne
    have e := cSumNo hm hv h6 (show y < 64 by omega) hi hb (by simpa using hn) c FU 0 0 (by omega) (fu_lt (by omega)) (Nat.zero_le _)
    rw [fX11_stones_0_b47, hm, shl1 c (by omega), if_neg (nI_ge (by omega) (by omega))]
    unfold fX11_stonesOn_0
    rw [show fX11_stonesOn_0_b4 FU (nI y) 0 0 μ2 = _ from e, bnd_e, if_pos (by decide), nI_1]
    exact ih f (y + 1) (by omega) (by omega) (by omega)
theorem stones_in (h : Rel V c b B μ2 ν2) (hv : ∀ q, q < c → gI μ2 121 q = sS V μ d q) (hw : ∀ q, q < c → gI ν2 142 q = sS V μ d q) (p1 : Int32) : ∀ (m f f' y z : Nat), y + m = bN (okS V μ d) c + 1 → 64 < y + f → 64 < y + f' → z < 64 → (∀ i, i < c → z.testBit i = true → okS V μ d i = true) → Pr V c b B (fX11_stones_0_b47 f p1 (nI z) (nI y) μ2) (fX12_stones_122_b110 f' p1 (nI (bN (okS V μ d) c)) (nI z) (nI y) ν2) := by
  have h6 := h.c6
  have p6 := pow6 h6
  have bl := bN_lt (okS V μ d) c
  intro m
  induction m with
  | zero =>
    intro f f' y z h1 h2 h3 hz okz
    obtain ⟨f', rfl⟩ := Nat.exists_eq_succ_of_ne_zero (show f' ≠ 0 by omega)
    rw [stones_rest h.men hv h6 p1 (nI z) (2 ^ c - y) f y (by omega) (by omega) (by omega), fX12_stones_122_b110, if_pos (nI_lt (by omega) (by omega)), lt_e]
    refine sm_L c_clear (fun _ μ3 t => ?_)
    exact stones_tell h hz hv hw c FU 0 μ3 _ [] (by omega) (fu_lt (by omega)) rfl t (TM.nil _)
  | succ m ih =>
    intro f f' y z h1 h2 h3 hz okz
    obtain ⟨f, rfl⟩ := Nat.exists_eq_succ_of_ne_zero (show f ≠ 0 by omega)
    obtain ⟨f', rfl⟩ := Nat.exists_eq_succ_of_ne_zero (show f' ≠ 0 by omega)
    have skip := ih f f' (y + 1) z (by omega) (by omega) (by omega) hz okz
    rw [fX11_stones_0_b47, h.men, shl1 c (by omega), if_neg (nI_ge (by omega) (by omega)), fX12_stones_122_b110, if_neg (nI_nlt (by omega) (by omega)), nI_1]
    unfold fX11_stonesOn_0 fX12_stonesOf_122 fX12_isLessRow_122
    by_cases q : sub8 y (bN (okS V μ d) c) = true
    · have oky := (subOk (show y < 2 ^ c by omega)).mp q
      have take := ih f f' (y + 1) y (by omega) (by omega) (by omega) (by omega) oky
      have s1 := cSum (a := 0) (f := FU) (q := 0) (m := c) h.men hv h6 (show y < 64 by omega) oky (by omega) (fu_lt (by omega))
      have t1 := mSum (a := 0) (f := FU) (q := 0) (m := c) h.menM hw h6 (show y < 64 by omega) oky (by omega) (fu_lt (by omega))
      have t2 := mSum (a := 0) (f := FU) (q := 0) (m := c) h.menM hw h6 (show z < 64 by omega) okz (by omega) (fu_lt (by omega))
      have l1 := SSn_le (V := V) (μ := μ) oky c 0 (by omega)
      rw [Nat.zero_add] at s1 t1 t2
      rw [if_pos ((sub8_iff (show y < 2 ^ 20 by omega)).mpr q), show fX11_stonesOn_0_b4 FU (nI y) 0 0 μ2 = _ from s1, bnd_e, if_neg (nI_pos (by omega)), show fX12_stonesOf_122_b4 FU (nI y) 0 0 ν2 = _ from t1, bnd_e]
      by_cases g : p1 < nI (SSn V μ d y c 0)
      · rw [if_pos g, if_neg (fun z => i_nle.mpr g z)]
        exact skip
      · rw [if_neg g, if_pos (i_nlt.mp g), c_better h.men hv h6 (by omega) hz oky okz, bnd_e, bc_e, bnd_e, bc_e, bnd_e, lt_e, show fX12_stonesOf_122_b4 FU (nI y) 0 0 ν2 = _ from t1, bnd_e, show fX12_stonesOf_122_b4 FU (nI z) 0 0 ν2 = _ from t2, bnd_e, lt_e, show fX12_isLessRow_122_b2 FU (nI y) (nI z) 0 ν2 = _ from mRL h.menM hw h6 (by omega) hz c FU 0 (by omega) (fu_lt (by omega))]
        have z00 : ¬ (0 : Int32) < 0 := by decide
        by_cases e : bc (nI y) - bc (nI z) = 0
        · simp only [if_pos e]
          simp only [e, if_neg z00, if_true]
          by_cases e2 : nI (SSn V μ d y c 0) - nI (SSn V μ d z c 0) = 0
          · simp only [if_pos e2]
            simp only [e2, if_neg z00, if_true, bnd_e]
            by_cases e3 : RLn V μ d y z c 0 = 0
            · rw [if_pos e3, if_pos e3]; exact skip
            · rw [if_neg e3, if_neg e3]; exact take
          · simp only [if_neg e2]
            by_cases e3 : 0 ≤ nI (SSn V μ d y c 0) - nI (SSn V μ d z c 0)
            · simp only [if_pos e3, if_neg (i_nlt.mpr e3), if_true]; exact skip
            · simp only [if_neg e3, if_neg n10, if_pos (i_nle.mp e3)]; exact take
        · simp only [if_neg e]
          by_cases e3 : 0 < bc (nI y) - bc (nI z)
          · simp only [if_pos e3, if_neg n10]; exact take
          · simp only [if_neg e3, if_true]; exact skip
    · have ne := q
      rw [subOk (by omega)] at ne
      simp only [Classical.not_forall] at ne
      obtain ⟨i, hi, hb, hn⟩ := ne
      have e := cSumNo h.men hv h6 (show y < 64 by omega) hi hb (by simpa using hn) c FU 0 0 (by omega) (fu_lt (by omega)) (Nat.zero_le _)
      rw [if_neg (fun z => q ((sub8_iff (show y < 2 ^ 20 by omega)).mp z)), show fX11_stonesOn_0_b4 FU (nI y) 0 0 μ2 = _ from e, bnd_e, if_pos (by decide)]
      exact skip
end
theorem pr_stones (h : Rel V c b B μ ν) (hB : B + 1000 < 2 ^ 30) (v : Int32) : Pr V c b B (fX11_stones_0 v μ) (fX12_stones_122 v ν) := by
  have h1 := m17 h 0
  have h6 := h.c6
  obtain ⟨d, hdB, hd⟩ := dayB_33 h.hl0
  unfold fX11_stones_0 fX12_stones_122
  rw [lt_e, m_in, bnd_e]
  rcases rng_or v 0 400 (lo := 0) (hi := 400) rfl rfl (by decide) (by decide) with ⟨q1, q2⟩ | ⟨q1, q3, q2⟩ | ⟨n, -, hn, rfl, a1, a2, a3⟩
  · rw [if_pos q1, if_pos q2, if_pos rfl]
    exact pr_end h1 _
  · rw [if_neg q1, if_neg q3, if_pos q2, if_pos rfl]
    exact pr_end h1 _
  · rw [if_neg a1, if_pos a2, if_neg a3, if_neg n10]
    obtain ⟨μ2, e1, o1, v1⟩ := cOut h1 hd (by omega) (nI n) c FU 0 μ (by omega) (fu_lt (by omega)) (Off.refl _) (fun q hq => absurd hq (Nat.not_lt_zero _))
    obtain ⟨ν2, e2, o2, v2⟩ := mOut h1 hd (by omega) (nI n) c FU 0 (sI ν 122 17 0) (by omega) (fu_lt (by omega)) (Off.refl _) (fun q hq => absurd hq (Nat.not_lt_zero _))
    rw [show fX11_stones_0_b15 FU (nI n) 0 μ = _ from e1, show fX12_stones_122_b22 FU (nI n) 0 0 (sI ν 122 17 0) = _ from e2]
    have h2 := Off.rm (Off.rc h1 o1 (fun _ _ => w121_sc)) o2 (fun _ _ => w142_sc)
    have bl := bN_lt (okS V μ d) c
    exact stones_in h2 v1 v2 (nI n) (bN (okS V μ d) c) FU FU 1 0 (by omega) (by decide) (by decide) (by decide) (fun i _ hb => by rw [Nat.zero_testBit] at hb; exact Bool.noConfusion hb)
end Pure36
