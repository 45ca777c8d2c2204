section Pure35
variable {V : VT} {c b B : Nat} {μ ν : Mem}
theorem sS_or (d p : Nat) : sS V μ d p = -1 ∨ ∃ i, i ≤ 9 ∧ sS V μ d p = nI (10 * i) := by
  unfold sS
  by_cases q : gI μ 34 p = 0
  · rw [if_pos q]
    cases e : LSa V μ p d 10 0 with
    | none => exact Or.inl rfl
    | some i =>
      have := LSa_rng _ _ _ e
      exact Or.inr ⟨i, by omega, rfl⟩
  · rw [if_neg q]; exact Or.inl rfl
def okS (V : VT) (μ : Mem) (d p : Nat) : Bool := !decide (sS V μ d p = -1)
theorem okS_nat {d p : Nat} (h : okS V μ d p = true) : ix (sS V μ d p) ≤ 90 ∧ sS V μ d p = nI (ix (sS V μ d p)) := by
  unfold okS at h
  rw [Bool.not_eq_true', decide_eq_false_iff_not] at h
  obtain ⟨i, hi, e⟩ := (sS_or (V := V) (μ := μ) d p).resolve_left h
  rw [e, ix_nI (by omega)]
  exact ⟨by omega, rfl⟩
theorem okS_no {d p : Nat} (h : okS V μ d p = false) : sS V μ d p = -1 := by
  unfold okS at h
  rw [Bool.not_eq_false', decide_eq_true_iff] at h
  exact h
theorem cOut (h : Rel V c b B μ ν) {d : Nat} (hd : gI μ 33 4 = nI d) (hdB : d + 1000 < 2 ^ 30) (p1 : Int32) : ∀ (m f p : Nat) (μ' : Mem), p + m = c → m < f → Off w121 μ μ' → (∀ q, q < p → gI μ' 121 q = sS V μ d q) → ∃ μ'', fX11_stones_0_b15 f p1 (nI p) μ' = fX11_stones_0_b47 FU p1 0 1 μ'' ∧ Off w121 μ μ'' ∧ ∀ q, q < c → gI μ'' 121 q = sS V μ d q := by
  have h6 := h.c6
  intro m
  induction m with
  | zero =>
    intro f p μ' h1 h2 o hv
    obtain ⟨f, rfl⟩ := Nat.exists_eq_succ_of_ne_zero (show f ≠ 0 by omega)
    obtain rfl : p = c := by omega
    rw [fX11_stones_0_b15, (Off.rc h o (fun _ _ => w121_sc)).men, if_pos (nI_le (Nat.le_refl _) (by omega))]
    exact ⟨μ', rfl, o, hv⟩
  | succ m ih =>
    intro f p μ' h1 h2 o hv
    obtain ⟨f, rfl⟩ := Nat.exists_eq_succ_of_ne_zero (show f ≠ 0 by omega)
    have h' := Off.rc h o (fun _ _ => w121_sc)
    obtain ⟨r, μ1, e1, rfl, o1⟩ := c_least h' ((o.1 33 4 rfl).trans hd) hdB (show p < 6 by omega)
    rw [fX11_stones_0_b15, h'.men, if_neg (nI_ge (by omega) (by omega)), e1, bnd_e, gd_in (by omega) (by decide), ix_nI (by omega), lt_e, nI_1, sS_off o]
    refine ih f (p + 1) _ (by omega) (by omega) ((o.tr (o1.mono (fun _ _ => w22_121))).sI rfl) (fun q hq => ?_)
    rw [gI_sI]
    by_cases g : q = p
    · rw [if_pos ⟨rfl, g⟩, g]
    · rw [if_neg (fun z => g z.2), o1.1 121 q rfl]
      exact hv q (by omega)
theorem mOut (h : Rel V c b B μ ν) {d : Nat} (hd : gI μ 33 4 = nI d) (hdB : d + 1000 < 2 ^ 30) (p1 : Int32) : ∀ (m f p : Nat) (ν' : Mem), p + m = c → m < f → Off w142 ν ν' → (∀ q, q < p → gI ν' 142 q = sS V μ d q) → ∃ ν'', fX12_stones_122_b22 f p1 (nI (bN (okS V μ d) p)) (nI p) ν' = fX12_stones_122_b110 FU p1 (nI (bN (okS V μ d) c)) 0 1 ν'' ∧ Off w142 ν ν'' ∧ ∀ q, q < c → gI ν'' 142 q = sS V μ d q := by
  have h6 := h.c6
  intro m
  induction m with
  | zero =>
    intro f p ν' h1 h2 o hv
    obtain ⟨f, rfl⟩ := Nat.exists_eq_succ_of_ne_zero (show f ≠ 0 by omega)
    obtain rfl : p = c := by omega
    rw [fX12_stones_122_b22, (Off.rm h o (fun _ _ => w142_sc)).menM, if_pos (nI_le (Nat.le_refl _) (by omega))]
    exact ⟨ν', rfl, o, hv⟩
  | succ m ih =>
    intro f p ν' h1 h2 o hv
    obtain ⟨f, rfl⟩ := Nat.exists_eq_succ_of_ne_zero (show f ≠ 0 by omega)
    have h' := Off.rm h o (fun _ _ => w142_sc)
    rw [fX12_stones_122_b22, h'.menM, if_neg (nI_ge (by omega) (by omega)), gd_in (by omega) (by decide), ix_nI (by omega), lt_e]
    have e42 : gI (sI ν' 142 p (-1)) 142 p = (if gI μ 34 p = 0 then sv (LSa V μ p d (10 - 10) 10) else -1) := by
      rw [gI_sI, if_pos ⟨rfl, rfl⟩]
      by_cases g : gI μ 34 p = 0
      · rw [if_pos g]
        rfl
      · rw [if_neg g]
    obtain ⟨ν1, a1, a2, a3, a4⟩ := mLS h hd hdB (show p < c by omega) (fun p1 p2 p3 m => fX12_stones_122_b22 f p1 p2 p3 m) p1 (nI (bN (okS V μ d) p)) 10 FU (sI ν' 142 p (-1)) (by omega) (by decide) (o.sI rfl) e42
    rw [show fX12_stones_122_b41 (fun p1 p2 p3 m => fX12_stones_122_b22 f p1 p2 p3 m) FU p1 (nI (bN (okS V μ d) p)) (nI p) 90 (sI ν' 142 p (-1)) = _ from a4]
    have hv2 : ∀ q, q < p + 1 → gI ν1 142 q = sS V μ d q := fun q hq => by
      by_cases g : q = p
      · rw [g]; exact a2
      · rw [a3 q g, gI_sI, if_neg (fun z => g z.2)]
        exact hv q (by omega)
    by_cases g : sS V μ d p = -1
    · have ok : okS V μ d p = false := by unfold okS; rw [decide_eq_true g]; rfl
      rw [if_pos g, show (0 : Int32) = nI 0 from rfl, nI_or, Nat.or_zero, ← bN_skip ok]
      exact ih f (p + 1) ν1 (by omega) (by omega) a1 hv2
    · have ok : okS V μ d p = true := by unfold okS; rw [decide_eq_false g]; rfl
      rw [if_neg g, shl1 p (by omega), nI_or, ← bN_take ok]
      exact ih f (p + 1) ν1 (by omega) (by omega) a1 hv2
theorem bit6 : ∀ q, q < 6 → ∀ y, y < 64 → (((nI y >>> (nI q &&& 31)) &&& 1 = 0) ↔ y.testBit q = false) := by decide +kernel
def vS (V : VT) (μ : Mem) (d y q : Nat) : Int32 := if y.testBit q = true then sS V μ d q else 0
def SSn (V : VT) (μ : Mem) (d y : Nat) : Nat → Nat → Nat
  | 0, _ => 0
  | m + 1, q => (if y.testBit q = true then ix (sS V μ d q) else 0) + SSn V μ d y m (q + 1)
theorem SSn_le {d y : Nat} (ok : ∀ i, i < c → y.testBit i = true → okS V μ d i = true) : ∀ m q, q + m ≤ c → SSn V μ d y m q ≤ 90 * m
  | 0, _, _ => Nat.le_refl _
  | m + 1, q, h => by
    have := SSn_le ok m (q + 1) (by omega)
    rw [SSn]
    by_cases g : y.testBit q = true
    · rw [if_pos g]
      have := (okS_nat (ok q (by omega) g)).1
      omega
    · rw [if_neg g]; omega
section
variable {d : Nat} {μ2 ν2 : Mem}
theorem c_one (hv : ∀ q, q < c → gI μ2 121 q = sS V μ d q) (h6 : c ≤ 6) {q y : Nat} (hq : q < c) (hy : y < 64) : fX11_stonesOnOne_0 (nI q) (nI y) μ2 = some (vS V μ d y q, μ2) := by
  unfold fX11_stonesOnOne_0 vS
  by_cases g : y.testBit q = true
  · rw [if_neg (fun z => by rw [bit6 q (by omega) y hy] at z; rw [z] at g; exact Bool.noConfusion g), gd_in (by omega) (by decide), ix_nI (by omega), hv q hq, if_pos g]
  · rw [if_pos ((bit6 q (by omega) y hy).mpr (by simpa using g)), if_neg g]
theorem cSum (hm : gI μ2 5 5 = nI c) (hv : ∀ q, q < c → gI μ2 121 q = sS V μ d q) (h6 : c ≤ 6) {y : Nat} (hy : y < 64) (ok : ∀ i, i < c → y.testBit i = true → okS V μ d i = true) : ∀ (m f q a : Nat), q + m = c → m < f → fX11_stonesOn_0_b4 f (nI y) (nI a) (nI q) μ2 = some (nI (a + SSn V μ d y m q), μ2) := by
  intro m
  induction m with
  | zero =>
    intro f q a h1 h2
    obtain ⟨f, rfl⟩ := Nat.exists_eq_succ_of_ne_zero (show f ≠ 0 by omega)
    rw [fX11_stonesOn_0_b4, hm, if_pos (nI_le (by omega) (by omega))]
    rfl
  | succ m ih =>
    intro f q a h1 h2
    obtain ⟨f, rfl⟩ := Nat.exists_eq_succ_of_ne_zero (show f ≠ 0 by omega)
    rw [fX11_stonesOn_0_b4, hm, if_neg (nI_ge (by omega) (by omega)), c_one hv h6 (by omega) hy, bnd_e, c_one hv h6 (by omega) hy, bnd_e, lt_e, nI_1, SSn]
    unfold vS
    by_cases g : y.testBit q = true
    · obtain ⟨b1, b2⟩ := okS_nat (ok q (by omega) g)
      rw [if_pos g, if_pos g, b2, if_pos (nI_pos' (by omega)), nI_add, ih f (q + 1) _ (by omega) (by omega), ix_nI (by omega)]
      congr 3
      omega
    · rw [if_neg g, if_neg g, if_pos (by decide), Int32.add_zero, ih f (q + 1) _ (by omega) (by omega), Nat.zero_add]
theorem cSumNo (hm : gI μ2 5 5 = nI c) (hv : ∀ q, q < c → gI μ2 121 q = sS V μ d q) (h6 : c ≤ 6) {y : Nat} (hy : y < 64) {z : Nat} (hz : z < c) (zb : y.testBit z = true) (zn : okS V μ d z = false) : ∀ (m f q : Nat) (a : Int32), q + m = c → m < f → q ≤ z → fX11_stonesOn_0_b4 f (nI y) a (nI q) μ2 = some (-1, μ2) := by
  intro m
  induction m with
  | zero =>
    intro f q a h1 h2 h3
    omega
  | succ m ih =>
    intro f q a h1 h2 h3
    obtain ⟨f, rfl⟩ := Nat.exists_eq_succ_of_ne_zero (show f ≠ 0 by omega)
    rw [fX11_stonesOn_0_b4, hm, if_neg (nI_ge (by omega) (by omega)), c_one hv h6 (by omega) hy, bnd_e]
    by_cases g : 0 ≤ vS V μ d y q
    · rw [if_pos g, c_one hv h6 (by omega) hy, bnd_e, lt_e, nI_1]
      refine ih f (q + 1) _ (by omega) (by omega) ?_
      by_cases e : q = z
      · subst e
        unfold vS at g
        rw [if_pos zb, okS_no zn] at g
        exact absurd g (by decide)
      · omega
    · rw [if_neg g]
theorem m_one (hv : ∀ q, q < c → gI ν2 142 q = sS V μ d q) (h6 : c ≤ 6) {q y : Nat} (hq : q < c) (hy : y < 64) : fX12_has (nI y) (nI q) ν2 = some (if y.testBit q = true then 1 else 0, ν2) := by
  rw [m_has]
  by_cases g : y.testBit q = true
  · rw [if_neg (fun z => by rw [bit6 q (by omega) y hy] at z; rw [z] at g; exact Bool.noConfusion g), if_pos g]
  · rw [if_pos ((bit6 q (by omega) y hy).mpr (by simpa using g)), if_neg g]
theorem mSum (hm : gI ν2 122 1 = nI c) (hv : ∀ q, q < c → gI ν2 142 q = sS V μ d q) (h6 : c ≤ 6) {y : Nat} (hy : y < 64) (ok : ∀ i, i < c → y.testBit i = true → okS V μ d i = true) : ∀ (m f q a : Nat), q + m = c → m < f → fX12_stonesOf_122_b4 f (nI y) (nI a) (nI q) ν2 = some (nI (a + SSn V μ d y m q), ν2) := by
  intro m
  induction m with
  | zero =>
    intro f q a h1 h2
    obtain ⟨f, rfl⟩ := Nat.exists_eq_succ_of_ne_zero (show f ≠ 0 by omega)
    rw [fX12_stonesOf_122_b4, hm, if_pos (nI_le (by omega) (by omega))]
    rfl
  | succ m ih =>
    intro f q a h1 h2
    obtain ⟨f, rfl⟩ := Nat.exists_eq_succ_of_ne_zero (show f ≠ 0 by omega)
    rw [fX12_stonesOf_122_b4, hm, if_neg (nI_ge (by omega) (by omega)), m_one hv h6 (by omega) hy, bnd_e, nI_1, SSn]
    by_cases g : y.testBit q = true
    · obtain ⟨b1, b2⟩ := okS_nat (ok q (by omega) g)
      rw [if_pos g, if_pos g, if_neg n10, gd_in (by omega) (by decide), ix_nI (by omega), lt_e, hv q (by omega), b2, nI_add, ih f (q + 1) _ (by omega) (by omega), ix_nI (by omega)]
      congr 3
      omega
    · rw [if_neg g, if_neg g, if_pos rfl, lt_e, Int32.add_zero, ih f (q + 1) _ (by omega) (by omega), Nat.zero_add]
end
end Pure35
