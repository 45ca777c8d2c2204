section Pure11
variable {V : VT} {c b B : Nat} {μ ν : Mem}
theorem c_days (h : Rel V c b B μ ν) {d e : Nat} (hd : gI μ 33 4 = nI d) (he : gI μ 0 14 = nI e) (hdB : d < 2 ^ 30) (he9 : e ≤ 99) : fX11_daysLeft_0 μ = some (if e ≤ d then 1000 else nI (e - d), μ) := by
  unfold fX11_daysLeft_0
  rw [hd, he]
  by_cases q : e ≤ d
  · rw [if_pos (nI_le q (by omega)), if_pos q]
  · rw [if_neg (nI_ge (by omega) (by omega)), if_neg q, nI_sub (by omega) (by omega)]
theorem m_ahead (h : Rel V c b B μ ν) {d e n : Nat} (hd : gI μ 33 4 = nI d) (he : gI μ 0 14 = nI e) (hdB : d < 2 ^ 30) (he9 : e ≤ 99) (hn : n ≤ 1000) : fX12_isAhead_122 (nI n) ν = some (if e ≤ d ∨ d + n < e then 1 else 0, ν) := by
  unfold fX12_isAhead_122
  simp only [in26, ix26, gd_e, day_33 h.hl0, h.endM, hd, he, nI_add]
  by_cases q : e ≤ d
  · rw [if_pos (nI_le q (by omega)), if_pos (Or.inl q)]
  · rw [if_neg (nI_ge (by omega) (by omega))]
    by_cases q2 : d + n < e
    · rw [if_neg (nI_ge q2 (by omega)), if_pos (Or.inr q2)]
    · rw [if_pos (nI_le (by omega) (by omega)), if_neg (by omega)]
theorem best_end (h : Rel V c b B μ ν) {p : Nat} (hp : p < c) (x y : Int32) : Pr V c b B (fX11_best_0_b85 (nI p) x y μ) (lt (sI ν 122 16 (0 : Int32)) fun m4 => bnd (fX12_tell_122 (Int32.toInt64 y) m4) fun r5 m6 => bnd (fX12_theirs_122 (nI p) (5 : Int32) m6) fun r7 m8 => bnd (fX12_tell_122 (Int32.toInt64 r7) m8) fun r9 m10 => bnd (fX12_theirs_122 (nI p) (2 : Int32) m10) fun r11 m12 => bnd (fX12_tell_122 (Int32.toInt64 r11) m12) fun r13 m14 => some (x, m14)) := by
  have h6 := h.c6
  unfold fX11_best_0_b85
  rw [c_heir h (show p < 6 by omega) (show 3 < 4 by omega) (v := 5) rfl, bnd_e, c_heir h (show p < 6 by omega) (show 0 < 4 by omega) (v := 2) rfl, bnd_e, lt_e]
  refine sm_L (c_tell3 _ _ _) (fun _ μ2 t => ?_)
  refine sm_R (m_tell (TM.nil _) (by decide) _) (fun _ ν2 t2 => ?_)
  have th : ∀ (ν' : Mem) (l : List Int64), TM ν ν' l → ∀ k, k < 4 → fX12_theirs_122 (nI p) (nI (2 + k)) ν' = some (HH μ p k, ν') := by
    intro ν' l tl k hk
    unfold fX12_theirs_122 HH fX12_whose_122
    have e : nI (2 + k) - 2 = nI k := by rw [show (2 : Int32) = nI 2 from rfl, nI_sub (by omega) (by omega), show 2 + k - 2 = k by omega]
    rw [e, gd_in hk (by decide), ix_nI (by omega), tl.1 132 k rfl, h.ends hk, bnd_e]
    by_cases q : gI μ 25 k = 1
    · rw [if_pos q, if_pos q]
    · rw [if_neg q, if_neg q, gd_in (by omega) (by decide), ix_nI (by omega), tl.1 128 p rfl, h.goods hp]
      rw [show fX12_valuesOf_122 (gI μ 10 p) ν' = _ from mWO (gI μ 10 p) 8 FU 0 0 rfl (by decide), bnd_e]
      unfold WO
      rw [WOs_cg (gI μ 10 p) 8 0 0 (g' := gI μ 27)]
      intro i hi
      rw [tl.1 129 i rfl]
      exact h.val (by omega)
  rw [show fX12_theirs_122 (nI p) 5 ν2 = _ from th ν2 _ t2 3 (by omega), bnd_e]
  refine sm_R (m_tell t2 (by simp) _) (fun _ ν3 t3 => ?_)
  rw [show fX12_theirs_122 (nI p) 2 ν3 = _ from th ν3 _ t3 0 (by omega), bnd_e]
  refine sm_R (m_tell t3 (by simp) _) (fun _ ν4 t4 => ?_)
  exact pr_end (h.tell t t4 (by simp)) _
theorem mBestEnd (h : Rel V c b B μ ν) {d e : Nat} (hd : gI μ 33 4 = nI d) (he : gI μ 0 14 = nI e) (hdB : d < 2 ^ 30) (he9 : e ≤ 99) {p : Nat} (hp : p < c) (x y : Int32) : ∀ (m f n : Nat), n + m = 61 → m < f → d < e → e ≤ d + n → Pr V c b B (fX11_best_0_b85 (nI p) x y μ) (fX12_best_122_b34 f (nI p) x y (nI n) ν) := by
  intro m
  induction m with
  | zero =>
    intro f n h1 h2 _ _
    obtain ⟨f, rfl⟩ := Nat.exists_eq_succ_of_ne_zero (show f ≠ 0 by omega)
    rw [fX12_best_122_b34, if_pos (show (60 : Int32) < nI n from nI_lt (a := 60) (by omega) (by omega))]
    exact best_end h hp x y
  | succ m ih =>
    intro f n h1 h2 q1 q2
    obtain ⟨f, rfl⟩ := Nat.exists_eq_succ_of_ne_zero (show f ≠ 0 by omega)
    rw [fX12_best_122_b34, if_neg (show ¬ (60 : Int32) < nI n from nI_nlt (a := 60) (by omega) (by omega)), m_proof_123 h h.hl0, bnd_e, m_ending, bnd_e]
    have hv : ∃ k, k < 4 ∧ (if PF_33 b μ (nI p) (nI n) < 100 then (3 : Int32) else 4) = nI (2 + k) := by
      by_cases q : PF_33 b μ (nI p) (nI n) < 100
      · exact ⟨1, by omega, by rw [if_pos q]; rfl⟩
      · exact ⟨2, by omega, by rw [if_neg q]; rfl⟩
    obtain ⟨k, hk, hv⟩ := hv
    rw [m_theirs h hp hk hv, bnd_e, m_ahead h hd he hdB he9 (by omega), bnd_e, if_neg (show ¬ (e ≤ d ∨ d + n < e) by omega), if_pos rfl, nI_1]
    exact ih f (n + 1) (by omega) (by omega) q1 (by omega)
theorem cBest (h : Rel V c b B μ ν) {d e : Nat} (hd : gI μ 33 4 = nI d) (he : gI μ 0 14 = nI e) (hdB : d < 2 ^ 30) (he9 : e ≤ 99) {p : Nat} (hp : p < c) : ∀ (m f n : Nat) (x y : Int32), n + m = 61 → m < f → Pr V c b B (fX11_best_0_b31 f (nI p) x y (nI n) μ) (fX12_best_122_b34 f (nI p) x y (nI n) ν) := by
  have h6 := h.c6
  intro m
  induction m with
  | zero =>
    intro f n x y h1 h2
    obtain ⟨f, rfl⟩ := Nat.exists_eq_succ_of_ne_zero (show f ≠ 0 by omega)
    have q : (60 : Int32) < nI n := nI_lt (a := 60) (by omega) (by omega)
    rw [fX11_best_0_b31, fX12_best_122_b34, if_pos q, if_pos q]
    exact best_end h hp x y
  | succ m ih =>
    intro f n x y h1 h2
    obtain ⟨f, rfl⟩ := Nat.exists_eq_succ_of_ne_zero (show f ≠ 0 by omega)
    have q : ¬ (60 : Int32) < nI n := nI_nlt (a := 60) (by omega) (by omega)
    have hv : ∃ k, k < 4 ∧ (if PF_33 b μ (nI p) (nI n) < 100 then (3 : Int32) else 4) = nI (2 + k) := by
      by_cases q : PF_33 b μ (nI p) (nI n) < 100
      · exact ⟨1, by omega, by rw [if_pos q]; rfl⟩
      · exact ⟨2, by omega, by rw [if_neg q]; rfl⟩
    obtain ⟨k, hk, hv⟩ := hv
    by_cases qa : e ≤ d ∨ d + n < e
    · rw [fX11_best_0_b31, fX12_best_122_b34, if_neg q, if_neg q, c_days h hd he hdB he9, bnd_e, m_proof_123 h h.hl0, bnd_e, m_ending, bnd_e, m_theirs h hp hk hv, bnd_e, m_ahead h hd he hdB he9 (by omega), bnd_e, if_pos qa, if_neg n10, nI_1]
      have qd : ¬ (if e ≤ d then (1000 : Int32) else nI (e - d)) ≤ nI n := by
        by_cases q3 : e ≤ d
        · rw [if_pos q3]
          exact nI_ge (b := 1000) (by omega) (by decide)
        · rw [if_neg q3]
          exact nI_ge (by omega) (by omega)
      rw [if_neg qd, c_verdict h, bnd_e, c_heir h (show p < 6 by omega) hk hv, bnd_e]
      by_cases q4 : HH μ p k ≤ y
      · rw [if_pos q4, if_neg (i_nlt.mpr q4)]
        exact ih f (n + 1) _ _ (by omega) (by omega)
      · rw [if_neg q4, if_pos (i_nle.mp q4)]
        exact ih f (n + 1) _ _ (by omega) (by omega)
    · have qd : (if e ≤ d then (1000 : Int32) else nI (e - d)) ≤ nI n := by
        rw [if_neg (by omega)]
        exact nI_le (by omega) (by omega)
      rw [fX11_best_0_b31, if_neg q, c_days h hd he hdB he9, bnd_e, if_pos qd]
      exact mBestEnd h hd he hdB he9 hp x y (m + 1) (f + 1) n h1 h2 (by omega) (by omega)
theorem pr_best (h : Rel V c b B μ ν) (hB : B + 1000 < 2 ^ 30) (v : Int32) : Pr V c b B (fX11_best_0 v μ) (fX12_best_122 v ν) := by
  unfold fX11_best_0 fX12_best_122
  have h1 := m17 h 0
  have h6 := h.c6
  rw [lt_e]
  rcases man_or h1 v with ⟨e1, e2, -, -⟩ | ⟨p, hp, rfl, e1, e2, -, -⟩
  · simp only [e1, e2, bnd_e, if_pos]
    exact pr_end h1 _
  · obtain ⟨d, hdB, hd⟩ := dayB_33 h.hl0
    obtain ⟨e, -, he9, he⟩ := h.end99
    simp (disch := omega) only [e1, e2, bnd_e, gd_in, ix_nI, c_sil_33, st_33 h1.hl0, n10, if_false]
    by_cases es : gI μ 34 p = 0
    · simp only [if_pos es, n10, if_false]
      exact cBest h1 hd he (by omega) he9 hp 61 FU 0 _ _ (by omega) (by decide)
    · simp only [if_neg es, if_true]
      exact pr_end h1 _
theorem pr_count (h : Rel V c b B μ ν) (v : Int32) : Pr V c b B (fX11_count_0 v μ) (fX12_count_122 v ν) := by
  unfold fX11_count_0 fX12_count_122
  have h1 := m17 h 0
  rw [lt_e]
  obtain ⟨n, nx, -, -, -, hn, hnM, -⟩ := h1.2.2.2.2.2.2.1
  obtain ⟨k, -, hk, hkM, -⟩ := h1.2.2.2.2.2.1
  obtain ⟨t, -, ht, htM, -⟩ := h1.2.2.2.2.1
  simp only [h1.men, h1.menM, h1.wit, h1.witM, in26, ix26, gd_e, day_33 h1.hl0, h1.endM, c_kind_33 h1, m_kind_123 h1 h1.hl0, c_goods h1, m_goods h1, bnd_e, hn, hnM, hk, hkM, ht, htM]
  by_cases e0 : v = 0
  · subst e0; exact pr_end h1 _
  rw [if_neg e0, if_neg e0]
  by_cases e1 : v = 1
  · subst e1; exact pr_end h1 _
  rw [if_neg e1, if_neg e1]
  by_cases e2 : v = 2
  · subst e2; exact pr_end h1 _
  rw [if_neg e2, if_neg e2]
  by_cases e3 : v = 3
  · subst e3; exact pr_end h1 _
  rw [if_neg e3, if_neg e3]
  by_cases e4 : v = 4
  · subst e4; exact pr_end h1 _
  rw [if_neg e4, if_neg e4]
  by_cases e5 : v = 5
  · subst e5; exact pr_end h1 _
  rw [if_neg e5, if_neg e5]
  by_cases e6 : v = 6
  · subst e6; exact pr_end h1 _
  rw [if_neg e6, if_neg e6]
  by_cases e7 : v = 7
  · subst e7; exact pr_end h1 _
  rw [if_neg e7, if_neg e7]
  by_cases e8 : v = 8
  · subst e8; exact pr_end h1 _
  rw [if_neg e8, if_neg e8]
  by_cases e9 : v = 9
  · subst e9; exact pr_end h1 _
  rw [if_neg e9, if_neg e9]
  by_cases e10 : v = 10
  · subst e10; exact pr_end h1 _
  rw [if_neg e10, if_neg e10]
  by_cases e11 : v = 11
  · subst e11; exact pr_end h1 _
  rw [if_neg e11, if_neg e11]
  by_cases e12 : v = 12
  · subst e12; exact pr_end h1 _
  rw [if_neg e12, if_neg e12]
  by_cases e13 : v = 13
  · subst e13; exact pr_end h1 _
  rw [if_neg e13, if_neg e13]
  exact pr_end h1 _
end Pure11
