section Pure42
variable {V : VT} {c b B : Nat} {μ ν : Mem}
def RT (V : VT) (c b B : Nat) (μ ν : Mem) : Prop := Rel V c b B (sI μ 1 1 0) ν
theorem RT.oc {μ' : Mem} {P : Nat → Nat → Bool} (h : RT V c b B μ ν) (o : Off P μ μ') (hp : ∀ k j, P k j = true → scC k j = true) : RT V c b B μ' ν := by
  refine Rel.sc h ⟨fun k j q => ?_, fun k j => o.2 k j⟩
  rw [gI_sI, gI_sI]
  by_cases e : k = 1 ∧ j = 1
  · rw [if_pos e, if_pos e]
  · rw [if_neg e, if_neg e]
    exact (o.mono hp).1 k j q
theorem RT.om {ν' : Mem} {P : Nat → Nat → Bool} (h : RT V c b B μ ν) (o : Off P ν ν') (hp : ∀ k j, P k j = true → scM k j = true) : RT V c b B μ ν' := Rel.sm h (o.mono hp)
theorem imin_nI {a b : Nat} (ha : a < 2 ^ 31) (hb : b < 2 ^ 31) : imin (nI a) (nI b) = nI (min a b) := by
  unfold imin
  by_cases q : b < a
  · rw [if_pos (nI_lt q ha), Nat.min_eq_right (by omega)]
  · rw [if_neg (nI_nlt (by omega) hb), Nat.min_eq_left (by omega)]
theorem open_both (h : Rel V c b B μ ν) {M : Nat} (hM : M ≤ 80) : ∃ s t μ1 ν1, t ≤ 80 ∧ OkT 133 s t M ∧ gI μ 1 1 = nI t ∧ gI ν 122 14 = nI t ∧ fX9_open_1 (nI M) μ = some ((), μ1) ∧ fX12_beginText_122 (nI M) ν = some ((), ν1) ∧ PC s t M 0 μ1 ∧ PM 133 s t M 0 ν1 ∧ RT V c b B μ1 ν1 ∧ Off scC μ μ1 ∧ (∀ k j, k ≠ 122 → gI ν1 k j = gI ν k j) := by
  obtain ⟨t, t1, t2, t3, t4⟩ := h.2.2.2.2.1
  have h4 : ∀ j, j < t → gI μ 2 j = nI (ix (gI μ 2 j)) ∧ ix (gI μ 2 j) < 256 ∧ gI ν 133 j = (nI (ix (gI μ 2 j))).toInt8.toInt32 := fun j hj => by
    obtain ⟨x, hx, e1, e2⟩ := t4 j hj
    rw [e1, ix_nI (by omega)]
    exact ⟨rfl, hx, e2⟩
  have oc : Off scC μ (sI (sI μ 1 2 0) 1 3 (nI (min t M))) := ((Off.refl μ).sI rfl).sI rfl
  refine ⟨fun j => ix (gI μ 2 j), t, sI (sI μ 1 2 0) 1 3 (nI (min t M)), sI (sI (sI (sI (sI (sI ν 122 18 133) 122 19 (nI t)) 122 20 (nI M)) 122 21 0) 122 22 (-1)) 122 14 0, t1, ⟨Or.inl ⟨rfl, t1⟩, hM, fun j hj => (h4 j hj).2.1⟩, t2, t3, ?_, ?_, ⟨t2, rfl, rfl, fun j hj => (h4 j hj).1⟩, ⟨rfl, rfl, rfl, rfl, rfl, fun j hj => ?_⟩, ?_, oc, fun k j hk => ?_⟩
  · unfold fX9_open_1
    rw [lt_e, lt_e, show gI (sI μ 1 2 0) 1 1 = gI μ 1 1 from rfl, t2, imin_nI (by omega) (by omega)]
  · unfold fX12_beginText_122 fX12_begin_122_133
    simp only [lt_e, bnd_e, t3]
  · exact (h4 j hj).2.2
  · have h0 : Rel V c b B (sI μ 1 1 0) (sI ν 122 14 0) := by
      refine h.text (fun k i q => ?_) (fun k i q => ?_) (fun _ => rfl) (fun _ => rfl) ⟨0, by omega, rfl, rfl, fun i hi => absurd hi (Nat.not_lt_zero _)⟩
      · rw [gI_sI, if_neg]
        rintro ⟨rfl, rfl⟩
        exact Bool.noConfusion q
      · rw [gI_sI, if_neg]
        rintro ⟨rfl, rfl⟩
        exact Bool.noConfusion q
    refine RT.oc (μ := μ) (P := scC) ?_ oc (fun _ _ z => z)
    refine Rel.sm h0 ⟨fun k j q => ?_, fun k j => rfl⟩
    rw [gI_sI, gI_sI ν 122 14 k j 0]
    by_cases e : k = 122 ∧ j = 14
    · rw [if_pos e, if_pos e]
    · rw [if_neg e, if_neg e, gI_sI, if_neg, gI_sI, if_neg, gI_sI, if_neg, gI_sI, if_neg, gI_sI, if_neg]
      all_goals
        rintro ⟨rfl, rfl⟩
        exact Bool.noConfusion q
  · rw [gI_sI, if_neg (fun z => hk z.1), gI_sI, if_neg (fun z => hk z.1), gI_sI, if_neg (fun z => hk z.1), gI_sI, if_neg (fun z => hk z.1), gI_sI, if_neg (fun z => hk z.1), gI_sI, if_neg (fun z => hk z.1)]
theorem so3_or (x : Nat) : so3 x = -1 ∨ ∃ v, v < 3 ∧ so3 x = nI v := by
  unfold so3
  by_cases q0 : x = 104
  · rw [if_pos q0]; exact Or.inr ⟨0, by decide, rfl⟩
  · rw [if_neg q0]
    by_cases q1 : x = 107
    · rw [if_pos q1]; exact Or.inr ⟨1, by decide, rfl⟩
    · rw [if_neg q1]
      by_cases q2 : x = 115
      · rw [if_pos q2]; exact Or.inr ⟨2, by decide, rfl⟩
      · rw [if_neg q2]; exact Or.inl rfl
theorem m_whoseBy {x : Nat} (hx : x < 256) : fX12_whoseBy (nI x) ν = some (so3 x, ν) := by
  have e : ∀ ch, ch < 256 → (nI x = nI ch) = (x = ch) := fun ch h => propext (nI_eq (by omega) (by omega))
  unfold fX12_whoseBy so3
  rw [show (104 : Int32) = nI 104 from rfl, show (107 : Int32) = nI 107 from rfl, show (115 : Int32) = nI 115 from rfl]
  simp only [e 104 (by decide), e 107 (by decide), e 115 (by decide)]
  by_cases q0 : x = 104
  · rw [if_pos q0, if_pos q0]
  · rw [if_neg q0, if_neg q0]
    by_cases q1 : x = 107
    · rw [if_pos q1, if_pos q1]
    · rw [if_neg q1, if_neg q1]
      by_cases q2 : x = 115
      · rw [if_pos q2, if_pos q2]
      · rw [if_neg q2, if_neg q2]
def lwD (s : Nat → Nat) (i : Nat) : Bool := decide (so3 (s i) = 1)
def LQ (V : VT) (c b B : Nat) (s : Nat → Nat) (r : Int32) (μ : Mem) (r' : Int32) (ν : Mem) : Prop := RT V c b B μ ν ∧ ((∃ w, w ≤ 80 ∧ r = -1 - nI w ∧ r' = 0 ∧ gI ν 122 22 = nI w) ∨ (r = nI (CN (lwD s) 4) ∧ r' = 1 ∧ ∀ k, k < 4 → gI μ 26 k = so3 (s k) ∧ gI ν 135 k = so3 (s k) ∧ ∃ v, v < 3 ∧ so3 (s k) = nI v))
theorem law_in {s : Nat → Nat} {t : Nat} (hk : OkT 133 s t 80) (ht : t ≤ 80) : ∀ (m f k : Nat) (μ ν : Mem), k + m = 4 → m < f → PC s t 80 k μ → PM 133 s t 80 k ν → RT V c b B μ ν → k ≤ t → (∀ i, i < k → gI μ 26 i = so3 (s i) ∧ gI ν 135 i = so3 (s i) ∧ ∃ v, v < 3 ∧ so3 (s i) = nI v) → Sm (LQ V c b B s) (fX2_readLaw_24_1_b10 f (nI (CN (lwD s) k)) (nI k) μ) (fX12_readLaw_122_b8 f (nI k) ν) := by
  intro m
  induction m with
  | zero =>
    intro f k μ ν h1 h2 pc pm rt hkt ha
    obtain ⟨f, rfl⟩ := Nat.exists_eq_succ_of_ne_zero (show f ≠ 0 by omega)
    obtain rfl : k = 4 := by omega
    rw [fX2_readLaw_24_1_b10, fX12_readLaw_122_b8, if_pos (by decide), if_pos (by decide)]
    unfold fX9_isRead_1 fX9_wrong_1 fX12_readLaw_122_b70
    rw [pc.1, pc.2.1, mRight pm (by omega) (by omega)]
    by_cases q : t = 4
    · rw [if_pos (by rw [q]), bnd_e, if_neg n10, if_pos (by omega), bnd_e, isZ1, gd_e]
      exact sm_end ⟨rt, Or.inr ⟨rfl, rfl, ha⟩⟩
    · rw [if_neg (by rw [nI_eq (by omega) (by omega)]; omega), bnd_e, if_pos rfl, pc.2.1, bnd_e, if_neg (by omega), bnd_e, isZ0, gd_e]
      exact sm_end ⟨rt.om (P := wB) ((Off.refl ν).sI rfl) (fun _ _ => wB_sc), Or.inl ⟨4, by omega, rfl, rfl, rfl⟩⟩
  | succ m ih =>
    intro f k μ ν h1 h2 pc pm rt hkt ha
    obtain ⟨f, rfl⟩ := Nat.exists_eq_succ_of_ne_zero (show f ≠ 0 by omega)
    rw [fX2_readLaw_24_1_b10, fX12_readLaw_122_b8, if_neg (show ¬ (4 : Int32) ≤ nI k from nI_ge (b := 4) (by omega) (by decide)), if_neg (show ¬ (4 : Int32) ≤ nI k from nI_ge (b := 4) (by omega) (by decide)), cOne_3 hk pc (by omega), mFine pm.2.2.2.2.1]
    by_cases q : k < min t 80 ∧ ¬ so3 (s k) = -1
    · obtain ⟨v, hv, ev⟩ := (so3_or (s k)).resolve_left q.2
      have hsk := hk.2.2 k (by omega)
      have c1 : Off scC μ (sI (sI μ 1 2 (nI (k + 1))) 26 k (so3 (s k))) := ((Off.refl μ).sI rfl).sI rfl
      have m1 : Off scM ν (sI (sI ν 135 k (so3 (s k))) 122 21 (nI (k + 1))) := ((Off.refl ν).sI rfl).sI rfl
      have pc' : PC s t 80 (k + 1) (sI (sI μ 1 2 (nI (k + 1))) 26 k (so3 (s k))) := (pc.to (k + 1)).off (P := fun a _ => a == 26) ((Off.refl _).sI rfl) (fun a j z => by rw [beq_iff_eq] at z; omega)
      have pm' : PM 133 s t 80 (k + 1) (sI (sI ν 135 k (so3 (s k))) 122 21 (nI (k + 1))) := (pm.off (P := fun a _ => a == 135) ((Off.refl _).sI rfl) (fun a j z => by rw [beq_iff_eq] at z; omega)).to hk (k + 1)
      have go := ih f (k + 1) _ _ (by omega) (by omega) pc' pm' ((rt.oc c1 (fun _ _ z => z)).om m1 (fun _ _ z => z)) (by omega) (fun i hi => by
        have z1 : gI (sI (sI μ 1 2 (nI (k + 1))) 26 k (so3 (s k))) 26 i = if i = k then so3 (s k) else gI μ 26 i := by
          rw [gI_sI]
          by_cases e : i = k
          · rw [if_pos ⟨rfl, e⟩, if_pos e]
          · rw [if_neg (fun z => e z.2), if_neg e]; rfl
        have z2 : gI (sI (sI ν 135 k (so3 (s k))) 122 21 (nI (k + 1))) 135 i = if i = k then so3 (s k) else gI ν 135 i := by
          rw [gI_sI, if_neg (by omega), gI_sI]
          by_cases e : i = k
          · rw [if_pos ⟨rfl, e⟩, if_pos e]
          · rw [if_neg (fun z => e z.2), if_neg e]
        rw [z1, z2]
        by_cases e : i = k
        · rw [if_pos e, if_pos e, e]
          exact ⟨rfl, rfl, v, hv, ev⟩
        · rw [if_neg e, if_neg e]
          exact ha i (by omega))
      have n1 : ¬ so3 (s k) < 0 := by rw [ev]; exact nI_pos (by omega)
      have n2 : 0 ≤ so3 (s k) := by rw [ev]; exact nI_pos' (by omega)
      rw [if_pos q.1, if_neg n1, bnd_e, bnd_e, if_neg n10, mHere hk pm (by omega), if_pos q.1, bnd_e, m_whoseBy hsk, bnd_e]
      have g1 : gI (sI (sI μ 1 2 (nI (k + 1))) 26 k (so3 (s k))) 26 k = so3 (s k) := by rw [gI_sI, if_pos ⟨rfl, rfl⟩]
      have g2 : gI (sI ν 135 k (so3 (s k))) 135 k = so3 (s k) := by rw [gI_sI, if_pos ⟨rfl, rfl⟩]
      have g3 : gI (sI ν 135 k (so3 (s k))) 122 21 = nI k := pm.2.2.2.1
      simp (disch := omega) only [gd_in, ix_nI, lt_e, g1, g2, g3, if_pos n2, if_neg q.2, nI_1]
      have cn : CN (lwD s) (k + 1) = CN (lwD s) k + (if lwD s k = true then 1 else 0) := rfl
      rw [cn] at go
      unfold lwD at go ⊢
      by_cases e : so3 (s k) = 1
      · rw [if_pos (decide_eq_true e)] at go
        rw [if_pos e]
        exact go
      · rw [if_neg (show ¬ decide (so3 (s k) = 1) = true by simp [e]), Nat.add_zero] at go
        rw [if_neg e, Int32.add_zero]
        exact go
    · have bad : (if k < min t 80 then (if so3 (s k) < 0 then (so3 (s k), μ) else (so3 (s k), sI μ 1 2 (nI (k + 1)))) else (-1, μ)) = ((-1 : Int32), μ) := by
        by_cases g : k < min t 80
        · have : so3 (s k) = -1 := Classical.byContradiction (fun z => q ⟨g, z⟩)
          rw [if_pos g, this, if_pos (by decide)]
        · rw [if_neg g]
      have bad2 : fX12_whoseBy (if k < min t 80 then nI (s k) else -1) ν = some (-1, ν) := by
        by_cases g : k < min t 80
        · have : so3 (s k) = -1 := Classical.byContradiction (fun z => q ⟨g, z⟩)
          rw [if_pos g, m_whoseBy (hk.2.2 k (by omega)), this]
        · rw [if_neg g]; rfl
      have w1 : gI (sI (sI ν 135 k (-1)) 122 22 (nI k)) 122 22 = nI k := rfl
      have fin : fX12_readLaw_122_b8 f (nI (k + 1)) (sI (sI ν 135 k (-1)) 122 22 (nI k)) = some (0, sI (sI ν 135 k (-1)) 122 22 (nI k)) := by
        obtain ⟨f, rfl⟩ := Nat.exists_eq_succ_of_ne_zero (show f ≠ 0 by omega)
        rw [fX12_readLaw_122_b8]
        unfold fX12_readLaw_122_b70
        rw [xRight (w := k) (by omega) w1, bnd_e, isZ0, gd_e, xFine (w := k) (by omega) w1, bnd_e, if_pos rfl, xRight (w := k) (by omega) w1, bnd_e, isZ0, gd_e]
        by_cases g : (4 : Int32) ≤ nI (k + 1)
        · rw [if_pos g]
        · rw [if_neg g]
      have g1 : gI (sI μ 26 k (-1)) 26 k = -1 := by rw [gI_sI, if_pos ⟨rfl, rfl⟩]
      have g2 : gI (sI ν 135 k (-1)) 135 k = -1 := by rw [gI_sI, if_pos ⟨rfl, rfl⟩]
      have g3 : gI (sI ν 135 k (-1)) 122 21 = nI k := pm.2.2.2.1
      have g4 : gI (sI μ 26 k (-1)) 1 2 = nI k := pc.2.1
      have g5 : gI (sI ν 135 k (-1)) 122 22 = -1 := pm.2.2.2.2.1
      rw [bad, bnd_e, bnd_e, if_neg n10, mHere hk pm (by omega), bnd_e, bad2, bnd_e]
      unfold fX9_wrong_1
      simp (disch := omega) only [gd_in, ix_nI, lt_e, g1, g2, g3, g4, if_neg (show ¬ (0 : Int32) ≤ -1 by decide), if_true, mFault g5, bnd_e, nI_1, fin]
      exact sm_end ⟨(rt.oc (P := scC) ((Off.refl μ).sI rfl) (fun _ _ z => z)).om (P := scM) (((Off.refl ν).sI rfl).sI rfl) (fun _ _ z => z), Or.inl ⟨k, by omega, rfl, rfl, rfl⟩⟩
theorem readLaw_both (h : Rel V c b B μ ν) : ∃ s, Sm (LQ V c b B s) (fX2_readLaw_24_1 μ) (fX12_readLaw_122 ν) := by
  obtain ⟨s, t, μ1, ν1, ht, hk, -, -, e1, e2, pc, pm, rt, -, -⟩ := open_both h (show 80 ≤ 80 by omega)
  refine ⟨s, ?_⟩
  unfold fX2_readLaw_24_1 fX12_readLaw_122
  rw [show fX9_open_1 (80 : Int32) μ = _ from e1, bnd_e, show fX12_beginText_122 (80 : Int32) ν = _ from e2, bnd_e]
  exact law_in hk ht 4 FU 0 μ1 ν1 rfl (by decide) pc pm rt (by omega) (fun i hi => absurd hi (Nat.not_lt_zero _))
theorem neg1_sub {w : Nat} (hw : w ≤ 80) : (-1 - nI w : Int32) < 0 := by
  have : ∀ w, w < 81 → (-1 - nI w : Int32) < 0 := by decide
  exact this w (by omega)
theorem mEnact {s : Nat → Nat} : ∀ (m f k : Nat) (ν : Mem), k + m = 4 → m < f → (∀ i, i < 4 → gI ν 135 i = so3 (s i)) → ∃ ν', fX12_law_122_b23 f (nI (CN (lwD s) k)) (nI k) ν = some (nI (CN (lwD s) 4), ν') ∧ (∀ a j, a ≠ 132 → gI ν' a j = gI ν a j) ∧ (∀ a j, gL ν' a j = gL ν a j) ∧ ∀ i, gI ν' 132 i = if k ≤ i ∧ i < 4 then so3 (s i) else gI ν 132 i := by
  intro m
  induction m with
  | zero =>
    intro f k ν h1 h2 hs
    obtain ⟨f, rfl⟩ := Nat.exists_eq_succ_of_ne_zero (show f ≠ 0 by omega)
    obtain rfl : k = 4 := by omega
    rw [fX12_law_122_b23, if_pos (by decide)]
    exact ⟨ν, rfl, fun _ _ _ => rfl, fun _ _ => rfl, fun i => by rw [if_neg (by omega)]⟩
  | succ m ih =>
    intro f k ν h1 h2 hs
    obtain ⟨f, rfl⟩ := Nat.exists_eq_succ_of_ne_zero (show f ≠ 0 by omega)
    obtain ⟨ν', a1, a2, a3, a4⟩ := ih f (k + 1) (sI ν 132 k (so3 (s k))) (by omega) (by omega) (fun i hi => by rw [gI_sI, if_neg (by omega)]; exact hs i hi)
    refine ⟨ν', ?_, fun a j ha => ?_, fun a j => a3 a j, fun i => ?_⟩
    · rw [fX12_law_122_b23, if_neg (show ¬ (4 : Int32) ≤ nI k from nI_ge (b := 4) (by omega) (by decide)), gd_in (by omega) (by decide), gd_in (by omega) (by decide), ix_nI (by omega), hs k (by omega), lt_e, gd_in (by omega) (by decide), show gI (sI ν 132 k (so3 (s k))) 132 k = so3 (s k) from by rw [gI_sI, if_pos ⟨rfl, rfl⟩], nI_1, nI_1]
      have cn : CN (lwD s) (k + 1) = CN (lwD s) k + (if lwD s k = true then 1 else 0) := rfl
      rw [cn] at a1
      unfold lwD at a1 ⊢
      by_cases e : so3 (s k) = 1
      · rw [if_pos (decide_eq_true e)] at a1
        rw [if_pos e, lt_e]
        exact a1
      · rw [if_neg (show ¬ decide (so3 (s k) = 1) = true by simp [e]), Nat.add_zero] at a1
        rw [if_neg e, lt_e, Int32.add_zero]
        exact a1
    · rw [a2 a j ha, gI_sI, if_neg (fun z => ha z.1)]
    · rw [a4 i, gI_sI]
      by_cases e : i = k
      · rw [if_neg (by omega), if_pos ⟨rfl, e⟩, if_pos (by omega), e]
      · rw [if_neg (show ¬ (132 = 132 ∧ i = k) from fun z => e z.2)]
        by_cases g : k + 1 ≤ i ∧ i < 4
        · rw [if_pos g, if_pos (by omega)]
        · rw [if_neg g, if_neg (by omega)]
theorem cp44 : cpOK 0 0 4 4 4 = true := by decide
theorem cp88 : cpOK 0 0 8 8 8 = true := by decide
theorem pr_law (h : Rel V c b B μ ν) : Pr V c b B (fX11_law_0 μ) (fX12_law_122 ν) := by
  have h1 := m17 h 0
  obtain ⟨s, r, μ1, r', ν1, e1, e2, rt, q⟩ := readLaw_both h1
  unfold fX11_law_0 fX12_law_122 fX9_empty_1
  rw [lt_e, e1, e2, bnd_e, bnd_e, lt_e, bnd_e]
  rcases q with ⟨w, hw, rfl, rfl, w1⟩ | ⟨rfl, rfl, ha⟩
  · rw [if_pos (neg1_sub hw), if_pos rfl, w1]
    exact pr_end rt _
  · have cl := CN_le (lwD s) 4
    rw [if_neg (nI_pos (by omega)), if_neg n10]
    unfold fX2_enact_24
    rw [gd_of cp44, lt_e, bnd_e, show ix 0 = 0 from rfl, show ix 4 = 4 from rfl]
    obtain ⟨ν2, a1, a2, a3, a4⟩ := mEnact (s := s) 4 FU 0 ν1 rfl (by decide) (fun i hi => (ha i hi).2.1)
    rw [show fX12_law_122_b23 FU 0 0 ν1 = _ from a1]
    refine sm_end ⟨rfl, Rel.estate rt (fun k j q => ?_) (fun k j q => ?_) (fun _ => rfl) (fun j => a3 134 j) ⟨fun g hg => ?_, fun e he => ?_, ?_, ?_⟩⟩
    · rw [gI_sC, if_neg]
      rintro rfl
      exact Bool.noConfusion q
    · exact a2 k j (by rintro rfl; exact Bool.noConfusion q)
    · rw [gI_sC, if_neg (by decide), a2 129 g (by decide)]
      exact ⟨Rel.val rt hg, Rel.val99 rt hg⟩
    · rw [gI_sC, if_pos rfl, if_pos (by omega), a4 e, if_pos (by omega), Nat.zero_add, Nat.sub_zero, gI_sI, if_neg (by omega), (ha e he).1]
      exact ⟨rfl, (ha e he).2.2⟩
    · rw [gI_sC, if_neg (by decide), a2 122 12 (by decide)]
      exact Rel.endM rt
    · rw [gI_sC, if_neg (by decide)]
      exact Rel.end99 rt
theorem mOther {s : Nat → Nat} : ∀ (m f k : Nat) (ν : Mem), k + m = 4 → m < f → (∀ i, i < 4 → gI ν 135 i = so3 (s i)) → ∃ ν', fX12_reading_122_b23 f (nI k) ν = fX12_reading_122_b23 1 4 ν' ∧ (∀ a j, a ≠ 145 → gI ν' a j = gI ν a j) ∧ (∀ a j, gL ν' a j = gL ν a j) ∧ ∀ i, gI ν' 145 i = if k ≤ i ∧ i < 4 then so3 (s i) else gI ν 145 i := by
  intro m
  induction m with
  | zero =>
    intro f k ν h1 h2 hs
    obtain ⟨f, rfl⟩ := Nat.exists_eq_succ_of_ne_zero (show f ≠ 0 by omega)
    obtain rfl : k = 4 := by omega
    refine ⟨ν, ?_, fun _ _ _ => rfl, fun _ _ => rfl, fun i => by rw [if_neg (by omega)]⟩
    rw [fX12_reading_122_b23, if_pos (by decide), fX12_reading_122_b23, if_pos (by decide)]
  | succ m ih =>
    intro f k ν h1 h2 hs
    obtain ⟨f, rfl⟩ := Nat.exists_eq_succ_of_ne_zero (show f ≠ 0 by omega)
    obtain ⟨ν', a1, a2, a3, a4⟩ := ih f (k + 1) (sI ν 145 k (so3 (s k))) (by omega) (by omega) (fun i hi => by rw [gI_sI, if_neg (by omega)]; exact hs i hi)
    refine ⟨ν', ?_, fun a j ha => ?_, fun a j => a3 a j, fun i => ?_⟩
    · rw [← a1, fX12_reading_122_b23, if_neg (show ¬ (4 : Int32) ≤ nI k from nI_ge (b := 4) (by omega) (by decide)), gd_in (by omega) (by decide), gd_in (by omega) (by decide), ix_nI (by omega), hs k (by omega), lt_e, nI_1]
    · rw [a2 a j ha, gI_sI, if_neg (fun z => ha z.1)]
    · rw [a4 i, gI_sI]
      by_cases e : i = k
      · rw [if_neg (by omega), if_pos ⟨rfl, e⟩, if_pos (by omega), e]
      · rw [if_neg (show ¬ (145 = 145 ∧ i = k) from fun z => e z.2)]
        by_cases g : k + 1 ≤ i ∧ i < 4
        · rw [if_pos g, if_pos (by omega)]
        · rw [if_neg g, if_neg (by omega)]
theorem neg10000 : ∀ w, w < 81 → ((-10000 : Int32) - nI w) = (-1 - nI w) - 9999 := by decide
theorem pr_reading (h : Rel V c b B μ ν) : Pr V c b B (fX11_reading_0 μ) (fX12_reading_122 ν) := by
  have h1 := m17 h 0
  obtain ⟨s, r, μ1, r', ν1, e1, e2, rt, q⟩ := readLaw_both h1
  unfold fX11_reading_0 fX12_reading_122 fX9_empty_1
  rw [lt_e, e1, e2, bnd_e, bnd_e, lt_e, bnd_e]
  rcases q with ⟨w, hw, rfl, rfl, w1⟩ | ⟨rfl, rfl, ha⟩
  · rw [if_neg (i_nle.mpr (neg1_sub hw)), if_pos rfl, w1, neg10000 w (by omega)]
    exact pr_end rt _
  · have cl := CN_le (lwD s) 4
    rw [if_pos (nI_pos' (by omega)), if_neg n10]
    obtain ⟨ν2, a1, a2, a3, a4⟩ := mOther (s := s) 4 FU 0 ν1 rfl (by decide) (fun i hi => (ha i hi).2.1)
    have rt2 : Rel V c b B (sI μ1 1 1 0) ν2 := Rel.sm rt ⟨fun k j q => a2 k j (by rintro rfl; exact Bool.noConfusion q), a3⟩
    have hE : ∀ e, e < 4 → ∃ v, v < 3 ∧ gI (sI μ1 1 1 0) 26 e = nI v := fun e he => by
      rw [gI_sI, if_neg (by omega), (ha e he).1]
      exact (ha e he).2.2
    have hE2 : ∀ e, e < 4 → gI ν2 145 e = gI (sI μ1 1 1 0) 26 e := fun e he => by
      rw [gI_sI, if_neg (by omega), (ha e he).1, a4 e, if_pos (by omega)]
    rw [show fX12_reading_122_b23 FU 0 ν1 = _ from a1, fX12_reading_122_b23, if_pos (by decide), c_falls26 rt2 hE (Or.inr (Or.inl rfl)), bnd_e, c_falls rt2 (Or.inr (Or.inl rfl)), bnd_e, m_have145 rt2 hE2, bnd_e, m_have rt2 4 0 (fun _ => 0) (Or.inl ⟨rfl, fun _ => rfl⟩), bnd_e, tg1, lt_e]
    refine sm_L (c_tell2 _ _) (fun _ μ2 t => ?_)
    refine sm_R (m_tell (TM.nil _) (by decide) _) (fun _ ν3 t2 => ?_)
    refine sm_R (m_tell t2 (by simp) _) (fun _ ν4 t3 => ?_)
    exact pr_end (rt2.tell t t3 (by simp)) _
end Pure42
