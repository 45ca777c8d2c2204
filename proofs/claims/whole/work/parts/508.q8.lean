section Pure8
variable {V : VT} {c b B : Nat} {μ ν : Mem}
theorem both {μ' ν' : Mem} (h : Rel V c b B μ ν) (o : Off w22 μ μ') (o' : Off w137 ν ν') : Rel V c b B μ' ν' := Off.rm (Off.rc h o (fun _ _ => w22_sc)) o' (fun _ _ => w137_sc)
theorem pr_left (h : Rel V c b B μ ν) (hB : B + 1000 < 2 ^ 30) (v v2 : Int32) : Pr V c b B (fX11_left_0 v v2 μ) (fX12_left_122 v v2 ν) := by
  unfold fX11_left_0 fX12_left_122
  have h1 := m17 h 0
  have h6 := h.c6
  rw [lt_e]
  rcases man_or h1 v with ⟨e1, e2, -, -⟩ | ⟨p, hp, rfl, e1, e2, -, -⟩
  · simp only [e1, e2, bnd_e, if_pos]
    exact pr_end h1 _
  · obtain ⟨d, hdB, hd⟩ := dayB_33 h.hl0
    simp (disch := omega) only [e1, e2, bnd_e, gd_in, ix_nI, a6, a12, laid_33 h1.hl0, borne_33 h1.hl0, lt_e, n10, if_false, m_in]
    rcases rng_or v2 0 60 (lo := 0) (hi := 60) rfl rfl (by decide) (by decide) with ⟨q1, q2⟩ | ⟨q1, q3, q2⟩ | ⟨n, hn1, hn2, rfl, a1, a2, a3⟩
    · simp only [if_pos q1, if_pos q2, if_true]
      exact pr_end h1 _
    · simp only [if_neg q1, if_neg q3, if_pos q2, if_true]
      exact pr_end h1 _
    · simp only [if_neg a1, if_pos a2, if_neg a3, n10, if_false]
      refine sm_L (c_leftIn h (Off.refl μ) hd (by omega) (show p < 6 by omega) (show n < 1000 by omega) (gI μ 35 p)) (fun r μ' q => ?_)
      obtain ⟨rfl, o⟩ := q
      unfold fX12_left_122_b59
      simp only [in26, ix26, gd_e, day_33 h1.hl0, hd, nI_add]
      unfold lfN
      by_cases ew : gI μ 35 p ≤ 0
      · simp only [if_pos ew, Int32.add_zero]
        refine sm_R (m_left h1 hp (by omega) _ _) (fun r' ν' q' => ?_)
        obtain ⟨rfl, o'⟩ := q'
        exact pr_end (both h1 o o') _
      · simp only [if_neg ew]
        refine sm_R (m_left h1 hp (by omega) _ _) (fun r' ν' q' => ?_)
        obtain ⟨rfl, o'⟩ := q'
        exact pr_end (both h1 o o') _
theorem neg2_lt : (-2 : Int32) < 0 := by decide
theorem pr_speaks (h : Rel V c b B μ ν) (hB : B + 1000 < 2 ^ 30) (v v2 : Int32) : Pr V c b B (fX11_speaks_0 v v2 μ) (fX12_speaks_122 v v2 ν) := by
  unfold fX11_speaks_0 fX12_speaks_122
  have h1 := m17 h 0
  have h6 := h.c6
  rw [lt_e]
  rcases man_or h1 v with ⟨e1, e2, -, -⟩ | ⟨p, hp, rfl, e1, e2, -, -⟩
  · simp only [e1, e2, bnd_e, if_pos]
    exact pr_end h1 _
  · obtain ⟨d, hdB, hd⟩ := dayB_33 h.hl0
    simp (disch := omega) only [e1, e2, bnd_e, gd_in, ix_nI, a6, a12, c_sil_33, st_33 h1.hl0, lt_e, n10, if_false, m_in]
    rcases rng_or v2 0 99 (lo := 0) (hi := 99) rfl rfl (by decide) (by decide) with ⟨q1, q2⟩ | ⟨q1, q3, q2⟩ | ⟨n, hn1, hn2, rfl, a1, a2, a3⟩
    · simp only [if_pos q1, if_pos q2, if_true]
      exact pr_end h1 _
    · simp only [if_neg q1, if_neg q3, if_pos q2, if_true]
      exact pr_end h1 _
    · simp only [if_neg a1, if_pos a2, if_neg a3, n10, if_false]
      by_cases es : gI μ 34 p = 0
      · simp only [if_pos es, n10, if_false]
        refine sm_L (c_pleads h hd (by omega) (show p < 6 by omega) (nI n) (Off.refl μ) rfl) (fun r μ' q => ?_)
        refine sm_R (m_pleads h1 hd (by omega) hp (nI n) (Off.refl _)) (fun r' ν' q' => ?_)
        obtain ⟨rfl, o⟩ := q
        obtain ⟨⟨rfl, q2⟩, o'⟩ := q'
        cases hk : PL V μ p d (nI n) with
        | none =>
          rw [Option.elim_none, if_pos neg2_lt, if_neg (by decide)]
          exact pr_end (both h1 o o') _
        | some k =>
          have hr := PL_rng hk
          rw [Option.elim_some, if_neg (nI_pos (by omega)), if_pos (nI_pos' (by omega))]
          refine sm_L (c_leftIn h o hd (by omega) (show p < 6 by omega) (show k < 1000 by omega) (nI n)) (fun r μ1 q => ?_)
          obtain ⟨rfl, o1⟩ := q
          refine sm_L (c_tell1 _) (fun _ μ2 t => ?_)
          refine sm_R (m_tell (TM.nil ν') (by decide) _) (fun _ ν2 t2 => ?_)
          rw [gI_sI, if_neg (by decide), q2 k hk] at t2
          exact pr_end ((both h1 o1 o').tell t t2 (by simp)) _
      · simp only [if_neg es, if_true]
        exact pr_end h1 _
theorem cLeast (h : Rel V c b B μ ν) {d : Nat} (hd : gI μ 33 4 = nI d) (hdB : d + 1000 < 2 ^ 30) {p L : Nat} (hp : p < c) (hL : L ≤ 60) : ∀ (m f w : Nat) (μ' ν' : Mem), Off w22 μ μ' → Off w137 ν ν' → w + m = 100 → m < f → Pr V c b B (fX11_least_0_b36 f (nI p) (nI L) (nI w) μ') (fX12_least_122_b39 f (nI p) (nI L) (nI w) ν') := by
  have h6 := h.c6
  intro m
  induction m with
  | zero =>
    intro f w μ' ν' o o' h1 h2
    obtain ⟨f, rfl⟩ := Nat.exists_eq_succ_of_ne_zero (show f ≠ 0 by omega)
    have e : (99 : Int32) < nI w := nI_lt (a := 99) (by omega) (by omega)
    rw [fX11_least_0_b36, fX12_least_122_b39, if_pos e, if_pos e]
    exact pr_end (both h o o') _
  | succ m ih =>
    intro f w μ' ν' o o' h1 h2
    obtain ⟨f, rfl⟩ := Nat.exists_eq_succ_of_ne_zero (show f ≠ 0 by omega)
    have e : ¬ (99 : Int32) < nI w := nI_nlt (a := 99) (by omega) (by omega)
    rw [fX11_least_0_b36, fX12_least_122_b39, if_neg e, if_neg e]
    refine sm_L (c_pleads h hd hdB (show p < 6 by omega) (nI w) o (o.1 0 14 rfl)) (fun r μ1 q => ?_)
    refine sm_R (m_pleads h hd hdB hp (nI w) o') (fun r' ν1 q' => ?_)
    obtain ⟨rfl, o1⟩ := q
    obtain ⟨⟨rfl, -⟩, o1'⟩ := q'
    simp only [m_in, bnd_e, lt_e, nI_1]
    cases hk : PL V μ p d (nI w) with
    | none =>
      simp only [Option.elim_none, if_pos neg2_lt, if_pos (show (-2 : Int32) < 0 ∨ nI L < -2 from Or.inl neg2_lt), if_true]
      exact ih f (w + 1) μ1 ν1 o1 o1' (by omega) (by omega)
    | some k =>
      have hr := PL_rng hk
      have k0 : ¬ nI k < 0 := nI_pos (by omega)
      by_cases e2 : nI L < nI k
      · have e3 : nI k < 0 ∨ nI L < nI k := Or.inr e2
        rw [Option.elim_some, if_neg k0, if_pos e2, if_pos e3, if_pos rfl]
        exact ih f (w + 1) μ1 ν1 o1 o1' (by omega) (by omega)
      · have e3 : ¬ (nI k < 0 ∨ nI L < nI k) := fun q => q.elim k0 e2
        rw [Option.elim_some, if_neg k0, if_neg e2, if_neg e3, if_neg n10]
        refine sm_L (c_tell1 _) (fun _ μ2 t => ?_)
        refine sm_R (m_tell (TM.nil ν1) (by decide) _) (fun _ ν2 t2 => ?_)
        exact pr_end ((both h o1 o1').tell t t2 (by simp)) _
theorem pr_least (h : Rel V c b B μ ν) (hB : B + 1000 < 2 ^ 30) (v v2 : Int32) : Pr V c b B (fX11_least_0 v v2 μ) (fX12_least_122 v v2 ν) := by
  unfold fX11_least_0 fX12_least_122
  have h1 := m17 h 0
  have h6 := h.c6
  rw [lt_e]
  rcases man_or h1 v with ⟨e1, e2, -, -⟩ | ⟨p, hp, rfl, e1, e2, -, -⟩
  · simp only [e1, e2, bnd_e, if_pos]
    exact pr_end h1 _
  · obtain ⟨d, hdB, hd⟩ := dayB_33 h.hl0
    simp (disch := omega) only [e1, e2, bnd_e, gd_in, ix_nI, a6, a12, c_sil_33, st_33 h1.hl0, lt_e, n10, if_false, m_in]
    rcases rng_or v2 0 60 (lo := 0) (hi := 60) rfl rfl (by decide) (by decide) with ⟨q1, q2⟩ | ⟨q1, q3, q2⟩ | ⟨n, hn1, hn2, rfl, a1, a2, a3⟩
    · simp only [if_pos q1, if_pos q2, if_true]
      exact pr_end h1 _
    · simp only [if_neg q1, if_neg q3, if_pos q2, if_true]
      exact pr_end h1 _
    · simp only [if_neg a1, if_pos a2, if_neg a3, n10, if_false]
      by_cases es : gI μ 34 p = 0
      · simp only [if_pos es, n10, if_false]
        exact cLeast h1 hd (by omega) hp hn2 100 FU 0 μ _ (Off.refl _) (Off.refl _) (by omega) (by decide)
      · simp only [if_neg es, if_true]
        exact pr_end h1 _
theorem cLong (h : Rel V c b B μ ν) {d : Nat} (hd : gI μ 33 4 = nI d) (hdB : d + 1000 < 2 ^ 30) {p : Nat} (hp : p < c) : ∀ (m f w : Nat) (x y y' : Int32) (μ' ν' : Mem), Off w22 μ μ' → Off w137 ν ν' → w + m = 100 → m < f → ((x = -2 ∧ y = -2 ∧ y' = -1) ∨ ∃ i k, i ≤ 100 ∧ k ≤ 100 ∧ x = nI i ∧ y = nI k ∧ y' = nI k) → Pr V c b B (fX11_longest_0_b33 f (nI p) x y (nI w) μ') (fX12_longest_122_b35 f (nI p) x y' (nI w) ν') := by
  have h6 := h.c6
  intro m
  induction m with
  | zero =>
    intro f w x y y' μ' ν' o o' h1 h2 hx
    obtain ⟨f, rfl⟩ := Nat.exists_eq_succ_of_ne_zero (show f ≠ 0 by omega)
    have e : (99 : Int32) < nI w := nI_lt (a := 99) (by omega) (by omega)
    rw [fX11_longest_0_b33, fX12_longest_122_b35, if_pos e, if_pos e]
    rcases hx with ⟨rfl, rfl, rfl⟩ | ⟨i, k, hi, hk, rfl, rfl, rfl⟩
    · rw [if_pos neg2_lt, if_pos rfl]
      exact pr_end (both h o o') _
    · rw [if_neg (nI_pos (by omega)), if_neg (neg2_ne (by omega)), lt_e]
      refine sm_L (c_tell1 _) (fun _ μ2 t => ?_)
      refine sm_R (m_tell (TM.nil ν') (by decide) _) (fun _ ν2 t2 => ?_)
      exact pr_end ((both h o o').tell t t2 (by simp)) _
  | succ m ih =>
    intro f w x y y' μ' ν' o o' h1 h2 hx
    obtain ⟨f, rfl⟩ := Nat.exists_eq_succ_of_ne_zero (show f ≠ 0 by omega)
    have e : ¬ (99 : Int32) < nI w := nI_nlt (a := 99) (by omega) (by omega)
    rw [fX11_longest_0_b33, fX12_longest_122_b35, if_neg e, if_neg e]
    refine sm_L (c_pleads h hd hdB (show p < 6 by omega) (nI w) o (o.1 0 14 rfl)) (fun r μ1 q => ?_)
    refine sm_R (m_pleads h hd hdB hp (nI w) o') (fun r' ν1 q' => ?_)
    obtain ⟨rfl, o1⟩ := q
    obtain ⟨⟨rfl, -⟩, o1'⟩ := q'
    rw [nI_1]
    cases hk : PL V μ p d (nI w) with
    | none =>
      have a1 : (-2 : Int32) ≤ y ∧ ¬ y' < -2 := by
        rcases hx with ⟨rfl, rfl, rfl⟩ | ⟨i, k, hi, hk, rfl, rfl, rfl⟩
        · decide
        · rw [i_le, i_lt, nI_toInt (by omega), show (-2 : Int32).toInt = -2 from rfl]
          omega
      rw [Option.elim_none, if_pos a1.1, if_neg a1.2]
      exact ih f (w + 1) x y y' μ1 ν1 o1 o1' (by omega) (by omega) hx
    | some j =>
      have hr := PL_rng hk
      rw [Option.elim_some]
      by_cases e2 : nI j ≤ y
      · have a1 : ¬ y' < nI j := by
          rcases hx with ⟨rfl, rfl, rfl⟩ | ⟨i, k, hi, hk, rfl, rfl, rfl⟩
          · rw [i_le, nI_toInt (by omega), show (-2 : Int32).toInt = -2 from rfl] at e2
            omega
          · exact i_nlt.mpr e2
        rw [if_pos e2, if_neg a1]
        exact ih f (w + 1) x y y' μ1 ν1 o1 o1' (by omega) (by omega) hx
      · have a1 : y' < nI j := by
          rcases hx with ⟨rfl, rfl, rfl⟩ | ⟨i, k, hi, hk, rfl, rfl, rfl⟩
          · rw [i_lt, nI_toInt (by omega), show (-1 : Int32).toInt = -1 from rfl]
            omega
          · exact i_nle.mp e2
        rw [if_neg e2, if_pos a1]
        exact ih f (w + 1) (nI w) (nI j) (nI j) μ1 ν1 o1 o1' (by omega) (by omega) (Or.inr ⟨w, j, by omega, by omega, rfl, rfl, rfl⟩)
theorem pr_longest (h : Rel V c b B μ ν) (hB : B + 1000 < 2 ^ 30) (v : Int32) : Pr V c b B (fX11_longest_0 v μ) (fX12_longest_122 v ν) := by
  unfold fX11_longest_0 fX12_longest_122
  have h1 := m17 h 0
  have h6 := h.c6
  rw [lt_e]
  rcases man_or h1 v with ⟨e1, e2, -, -⟩ | ⟨p, hp, rfl, e1, e2, -, -⟩
  · simp only [e1, e2, bnd_e, if_pos]
    exact pr_end h1 _
  · obtain ⟨d, hdB, hd⟩ := dayB_33 h.hl0
    simp (disch := omega) only [e1, e2, bnd_e, gd_in, ix_nI, c_sil_33, st_33 h1.hl0, lt_e, n10, if_false]
    by_cases es : gI μ 34 p = 0
    · simp only [if_pos es, n10, if_false]
      exact cLong h1 hd (by omega) hp 100 FU 0 _ _ _ μ _ (Off.refl _) (Off.refl _) (by omega) (by decide) (Or.inl ⟨rfl, rfl, rfl⟩)
    · simp only [if_neg es, if_true]
      exact pr_end h1 _
theorem cAlike (h : Rel V c b B μ ν) {d : Nat} (hd : gI μ 33 4 = nI d) (hdB : d + 1000 < 2 ^ 30) {p p' : Nat} (hp : p < c) (hp' : p' < c) : ∀ (m f w : Nat) (x y : Int32) (μ' ν' : Mem), Off w22 μ μ' → Off w137 ν ν' → w + m = 100 → m < f → Pr V c b B (fX11_alike_0_b56 f (nI p) (nI p') x y (nI w) μ') (fX12_alike_122_b57 f (nI p) (nI p') x y (nI w) ν') := by
  have h6 := h.c6
  intro m
  induction m with
  | zero =>
    intro f w x y μ' ν' o o' h1 h2
    obtain ⟨f, rfl⟩ := Nat.exists_eq_succ_of_ne_zero (show f ≠ 0 by omega)
    have e : (99 : Int32) < nI w := nI_lt (a := 99) (by omega) (by omega)
    rw [fX11_alike_0_b56, fX12_alike_122_b57, if_pos e, if_pos e, lt_e]
    refine sm_L (c_tell1 _) (fun _ μ2 t => ?_)
    refine sm_R (m_tell (TM.nil ν') (by decide) _) (fun _ ν2 t2 => ?_)
    exact pr_end ((both h o o').tell t t2 (by simp)) _
  | succ m ih =>
    intro f w x y μ' ν' o o' h1 h2
    obtain ⟨f, rfl⟩ := Nat.exists_eq_succ_of_ne_zero (show f ≠ 0 by omega)
    have e : ¬ (99 : Int32) < nI w := nI_nlt (a := 99) (by omega) (by omega)
    rw [fX11_alike_0_b56, fX12_alike_122_b57, if_neg e, if_neg e]
    refine sm_L (c_pleads h hd hdB (show p < 6 by omega) (nI w) o (o.1 0 14 rfl)) (fun r μ1 q => ?_)
    refine sm_R (m_pleads h hd hdB hp (nI w) o') (fun r' ν1 q' => ?_)
    obtain ⟨rfl, o1⟩ := q
    obtain ⟨⟨rfl, -⟩, o1'⟩ := q'
    refine sm_L (c_pleads h hd hdB (show p' < 6 by omega) (nI w) o1 (o1.1 0 14 rfl)) (fun r μ2 q => ?_)
    refine sm_R (m_pleads h hd hdB hp' (nI w) o1') (fun r' ν2 q' => ?_)
    obtain ⟨rfl, o2⟩ := q
    obtain ⟨⟨rfl, -⟩, o2'⟩ := q'
    rw [nI_1]
    by_cases e2 : (PL V μ p d (nI w)).elim (-2) nI = (PL V μ p' d (nI w)).elim (-2) nI
    · rw [if_pos e2, if_pos e2]
      exact ih f (w + 1) _ _ μ2 ν2 o2 o2' (by omega) (by omega)
    · rw [if_neg e2, if_neg e2]
      by_cases e3 : x = 0
      · rw [if_pos e3, if_pos e3]
        exact ih f (w + 1) _ _ μ2 ν2 o2 o2' (by omega) (by omega)
      · rw [if_neg e3, if_neg e3]
        exact ih f (w + 1) _ _ μ2 ν2 o2 o2' (by omega) (by omega)
theorem pr_alike (h : Rel V c b B μ ν) (hB : B + 1000 < 2 ^ 30) (v v2 : Int32) : Pr V c b B (fX11_alike_0 v v2 μ) (fX12_alike_122 v v2 ν) := by
  unfold fX11_alike_0 fX12_alike_122
  have h1 := m17 h 0
  have h6 := h.c6
  rw [lt_e]
  rcases man_or h1 v with ⟨e1, e2, -, -⟩ | ⟨p, hp, rfl, e1, e2, -, -⟩
  · simp only [e1, e2, bnd_e, if_pos]
    exact pr_end h1 _
  · rcases man_or h1 v2 with ⟨f1, f2, -, -⟩ | ⟨p', hp', rfl, f1, f2, -, -⟩
    · simp only [e1, e2, f1, f2, bnd_e, if_pos, n10, if_false]
      exact pr_end h1 _
    · obtain ⟨d, hdB, hd⟩ := dayB_33 h.hl0
      simp (disch := omega) only [e1, e2, f1, f2, bnd_e, gd_in, ix_nI, c_sil_33, st_33 h1.hl0, n10, if_false]
      by_cases e3 : nI p = nI p'
      · rw [if_pos e3, if_pos e3]
        exact pr_end h1 _
      · rw [if_neg e3, if_neg e3]
        by_cases es : gI μ 34 p = 0
        · simp only [if_pos es, n10, if_false]
          by_cases es' : gI μ 34 p' = 0
          · simp only [if_pos es', n10, if_false]
            exact cAlike h1 hd (by omega) hp hp' 100 FU 0 _ _ μ _ (Off.refl _) (Off.refl _) (by omega) (by decide)
          · simp only [if_neg es', if_true]
            exact pr_end h1 _
        · simp only [if_neg es, if_true]
          exact pr_end h1 _
end Pure8
