section Pure6
variable {V : VT} {c b B : Nat} {μ ν : Mem}
theorem c_sil_33 {p : Nat} (hp : p < 6) : fX4_isSilent_33 (nI p) μ = some (if gI μ 34 p = 0 then 1 else 0, μ) := by
  unfold fX4_isSilent_33
  simp (disch := omega) only [gd_in, ix_nI]
  by_cases e : gI μ 34 p = 0
  · rw [if_pos e, if_pos e]
  · rw [if_neg e, if_neg e]
theorem c_sil_38 {p : Nat} (hp : p < 6) : fX4_isSilent_38 (nI p) μ = some (if gI μ 39 p = 0 then 1 else 0, μ) := by
  unfold fX4_isSilent_38
  simp (disch := omega) only [gd_in, ix_nI]
  by_cases e : gI μ 39 p = 0
  · rw [if_pos e, if_pos e]
  · rw [if_neg e, if_neg e]
theorem nI_le0 {n : Nat} (hn : n < 2 ^ 31) : nI n ≤ 0 ↔ n = 0 := by
  rw [show (0 : Int32) = nI 0 from rfl, nI_leI hn (by decide)]
  omega
theorem n10 : ¬ (1 : Int32) = 0 := by decide
theorem mDI0 (x w fl : Int32) {L : Nat} (hL : 1 ≤ L) (hL2 : L < 1000) (hw : ¬ 0 < w) : fX12_dieNight_122 x w (nI L) fl ν = some (0, ν) := by
  show fX12_dieNight_122_b3 (999 + 1) x w (nI L) fl (nI 1) ν = _
  rw [fX12_dieNight_122_b3, if_neg (nI_nlt hL (by omega)), if_pos (i_nlt.mp hw)]
theorem pr_dies (h : Rel V c b B μ ν) (hB : B + 1000 < 2 ^ 30) (v : Int32) : Pr V c b B (fX11_dies_0 v μ) (fX12_dies_122 v ν) := by
  unfold fX11_dies_0 fX12_dies_122
  have h1 := m17 h 0
  have h6 := h.c6
  rw [lt_e]
  rcases man_or h1 v with ⟨e1, e2, -, -⟩ | ⟨p, hp, rfl, e1, e2, -, -⟩
  · simp only [e1, e2, bnd_e, if_pos]
    exact pr_end h1 _
  · obtain ⟨d, hdB, hd⟩ := dayB_33 h.hl0
    simp (disch := omega) only [e1, e2, bnd_e, c_sil_33, gd_in, ix_nI, a6, st_33 h1.hl0, laid_33 h1.hl0, lt_e, n10, if_false]
    by_cases es : gI μ 34 p = 0
    · simp only [if_pos es, n10, if_false]
      by_cases ew : 0 < gI μ 35 p
      · unfold fX4_diesIn_33 fX12_dieNight_122
        simp only [if_pos ew]
        refine sm_L (cDI h hd (by omega) (show p < 6 by omega) (show 60 ≤ 60 by omega) (gI μ 35 p) (gI μ 0 14) 60 FU 1 μ (Off.refl _) rfl (by decide) (by decide)) (fun r μ' q => ?_)
        refine sm_R (mDI h1 hd (by omega) hp (show 60 ≤ 60 by omega) ew 1 60 FU 1 _ (Off.refl _) rfl (by decide) (by decide)) (fun r' ν' q' => ?_)
        obtain ⟨rfl, o⟩ := q
        obtain ⟨⟨rfl, q2⟩, o'⟩ := q'
        have hR : Rel V c b B μ' ν' := Off.rm (Off.rc h1 o (fun _ _ => w22_sc)) o' (fun _ _ => w137_sc)
        simp only [n10, if_false] at q2 ⊢
        cases hk : DIs (DIf V μ p d (gI μ 35 p)) (fun i => decide (nI (d + i) = gI μ 0 14)) 60 1 with
        | none =>
          simp only [Option.elim_none, if_pos (show (-2 : Int32) ≤ 0 by decide), if_true]
          exact pr_end hR _
        | some k =>
          have hr := DIs_rng _ _ _ hk
          have hne : ¬ nI k = 0 := nI_ne0 (by omega) (by omega)
          rw [hk, Option.elim_some] at q2
          obtain ⟨i, a1, a2, a3, a4⟩ := q2 hne
          rw [nI_eq (by omega) (by omega)] at a3
          subst a3
          rw [Option.elim_some, Option.elim_some, if_neg (fun q => by rw [nI_le0 (by omega)] at q; omega), if_neg hne]
          refine sm_L (c_dying h o hd (by omega) (show p < 6 by omega) (show 1 ≤ k by omega) (by omega) _) (fun r μ1 q => ?_)
          obtain ⟨rfl, o1⟩ := q
          have hR1 : Rel V c b B μ1 ν' := Off.rm (Off.rc h1 o1 (fun _ _ => w22_sc)) o' (fun _ _ => w137_sc)
          refine sm_L (c_tell1 _) (fun _ μ2 t => ?_)
          refine sm_R (m_tell (TM.nil ν') (by decide) _) (fun _ ν2 t2 => ?_)
          rw [gI_sI, if_neg (by decide), a4] at t2
          exact pr_end (hR1.tell t t2 (by simp)) _
      · rw [show (60 : Int32) = nI 60 from rfl, mDI0 _ _ _ (by omega) (by omega) ew]
        unfold fX4_diesIn_33
        simp only [if_neg ew, bnd_e, if_pos (show (-2 : Int32) ≤ 0 by decide), if_true]
        exact pr_end h1 _
    · simp only [if_neg es, if_true]
      exact pr_end h1 _
theorem nI_lt0 {n : Nat} (hn : n < 2 ^ 31) : ¬ nI n < 0 := nI_pos hn
theorem neg_ne {n : Nat} (hn : n < 2 ^ 31) : ¬ nI n = (-1 : Int32) := by
  rw [i_eq, nI_toInt hn, show (-1 : Int32).toInt = -1 from rfl]
  omega
theorem neg2_ne {n : Nat} (hn : n < 2 ^ 31) : ¬ nI n = (-2 : Int32) := by
  rw [i_eq, nI_toInt hn, show (-2 : Int32).toInt = -2 from rfl]
  omega
theorem nI_m1 (m : Nat) : nI (m + 1) + (-1 : Int32) = nI m := by
  have e := nI_pred m
  rw [← e, Int32.sub_eq_add_neg]
theorem rng_or (v lo' hi' : Int32) {lo hi : Nat} (e1 : lo' = nI lo) (e2 : hi' = nI hi) (hh : hi < 2 ^ 31) (hl : lo ≤ hi) : (v < lo' ∧ (v < lo' ∨ hi' < v)) ∨ (¬ v < lo' ∧ ¬ v ≤ hi' ∧ (v < lo' ∨ hi' < v)) ∨ ∃ n, lo ≤ n ∧ n ≤ hi ∧ v = nI n ∧ ¬ nI n < lo' ∧ nI n ≤ hi' ∧ ¬ (nI n < lo' ∨ hi' < nI n) := by
  subst e1 e2
  by_cases h0 : v < nI lo
  · exact Or.inl ⟨h0, Or.inl h0⟩
  · by_cases h1 : nI hi < v
    · exact Or.inr (Or.inl ⟨h0, i_nle.mpr h1, Or.inr h1⟩)
    · right; right
      have q : ¬ v < 0 := fun q => h0 (by rw [i_lt] at q ⊢; rw [nI_toInt (by omega)]; rw [Int32.toInt_zero] at q; omega)
      obtain ⟨j, hj, rfl⟩ := nI_of q
      have a0 := h0
      have a1 := h1
      rw [nI_ltI hj (by omega)] at a0
      rw [nI_ltI (by omega) hj] at a1
      exact ⟨j, by omega, by omega, rfl, h0, nI_le (by omega) (by omega), fun q => q.elim h0 h1⟩
theorem cMercy (h : Rel V c b B μ ν) {d : Nat} (hd : gI μ 33 4 = nI d) (hdB : d + 1000 < 2 ^ 30) {p L : Nat} (hp : p < c) (hL : L ≤ 60) (hL1 : 1 ≤ L) : ∀ (m f : Nat) (μ' ν' : Mem), Off w22 μ μ' → Off w137 ν ν' → m ≤ 99 → m < f → Pr V c b B (fX11_mercy_0_b38 f (nI p) (nI L) (nI m) μ') (fX12_mercy_122_b40 f (nI p) (nI L) (nI m) ν') := by
  have h6 := h.c6
  intro m
  induction m with
  | zero =>
    intro f μ' ν' o o' h1 h2
    obtain ⟨f, rfl⟩ := Nat.exists_eq_succ_of_ne_zero (show f ≠ 0 by omega)
    rw [fX11_mercy_0_b38, fX12_mercy_122_b40, if_pos (by decide), mDI0 _ _ _ (by omega) (by omega) (by decide), bnd_e, if_pos (by decide)]
    exact pr_end (Off.rm (Off.rc h o (fun _ _ => w22_sc)) o' (fun _ _ => w137_sc)) _
  | succ m ih =>
    intro f μ' ν' o o' h1 h2
    obtain ⟨f, rfl⟩ := Nat.exists_eq_succ_of_ne_zero (show f ≠ 0 by omega)
    have ew : 0 < nI (m + 1) := by rw [show (0 : Int32) = nI 0 from rfl, nI_ltI (by omega) (by omega)]; omega
    rw [fX11_mercy_0_b38, fX12_mercy_122_b40, if_neg (fun q => by rw [nI_le0 (by omega)] at q; omega)]
    unfold fX4_diesIn_33 fX12_dieNight_122
    rw [if_pos ew]
    refine sm_L (cDI h hd (by omega) (show p < 6 by omega) hL (nI (m + 1)) (-1) L FU 1 μ' o (by omega) (by decide) (fu_lt (by omega))) (fun r μ1 q => ?_)
    refine sm_R (mDI h hd (by omega) hp hL ew 0 L FU 1 _ o' (by omega) (by decide) (fu_lt (by omega))) (fun r' ν1 q' => ?_)
    obtain ⟨rfl, o1⟩ := q
    obtain ⟨⟨rfl, q2⟩, o1'⟩ := q'
    have hR : Rel V c b B μ1 ν1 := Off.rm (Off.rc h o1 (fun _ _ => w22_sc)) o1' (fun _ _ => w137_sc)
    have ed : DIs (DIf V μ p d (nI (m + 1))) (fun i => decide (nI (d + i) = -1)) L 1 = DIs (DIf V μ p d (nI (m + 1))) (fun i => if (0 : Int32) = 0 then false else decide (nI (d + i) = gI μ 0 14)) L 1 := DIs_cg L 1 (fun i hi => ⟨rfl, by
      rw [if_pos rfl]; exact decide_eq_false (neg_ne (by omega))⟩)
    rw [ed]
    cases hk : DIs (DIf V μ p d (nI (m + 1))) (fun i => if (0 : Int32) = 0 then false else decide (nI (d + i) = gI μ 0 14)) L 1 with
    | none =>
      rw [Option.elim_none, Option.elim_none, if_pos rfl, if_pos (by decide)]
      exact pr_end hR _
    | some k =>
      have hr := DIs_rng _ _ _ hk
      rw [Option.elim_some, Option.elim_some, if_neg (neg2_ne (by omega)), if_neg (fun q => by rw [nI_le0 (by omega)] at q; omega), nI_m1]
      exact ih f μ1 ν1 o1 o1' (by omega) (by omega)
theorem pr_mercy (h : Rel V c b B μ ν) (hB : B + 1000 < 2 ^ 30) (v v2 : Int32) : Pr V c b B (fX11_mercy_0 v v2 μ) (fX12_mercy_122 v v2 ν) := by
  unfold fX11_mercy_0 fX12_mercy_122
  have h1 := m17 h 0
  have h6 := h.c6
  rw [lt_e]
  rcases man_or h1 v with ⟨e1, e2, -, -⟩ | ⟨p, hp, rfl, e1, e2, -, -⟩
  · simp only [e1, e2, bnd_e, if_pos]
    exact pr_end h1 _
  · obtain ⟨d, hdB, hd⟩ := dayB_33 h.hl0
    simp (disch := omega) only [e1, e2, bnd_e, c_sil_33, gd_in, ix_nI, a6, st_33 h1.hl0, laid_33 h1.hl0, lt_e, n10, if_false, m_in]
    rcases rng_or v2 1 60 (lo := 1) (hi := 60) rfl rfl (by decide) (by decide) with ⟨q1, q2⟩ | ⟨q1, q3, q2⟩ | ⟨n, hn1, hn2, rfl, a1, a2, a3⟩
    · simp only [if_pos q1, if_pos q2, if_true]
      exact pr_end h1 _
    · simp only [if_neg q1, if_neg q3, if_pos q2, if_true]
      exact pr_end h1 _
    · simp only [if_neg a1, if_pos a2, if_neg a3, n10, if_false]
      by_cases es : gI μ 34 p = 0
      · simp only [if_pos es, n10, if_false]
        exact cMercy h1 hd (by omega) hp hn2 hn1 99 FU μ _ (Off.refl _) (Off.refl _) (by omega) (by decide)
      · simp only [if_neg es, if_true]
        exact pr_end h1 _
end Pure6
