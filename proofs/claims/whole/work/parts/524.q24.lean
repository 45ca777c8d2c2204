section Pure24
variable {V : VT} {c b B : Nat} {μ ν : Mem}
theorem vb1 : vp_nar .boolean 1 = 1 := by decide
theorem vb0 : vp_nar .boolean 0 = 0 := by decide
theorem cc_k2 {k j Y : Nat} (h : cc k j = Y) (hY : Y ≠ 8) : (k < 108 ∨ 117 < k) ∧ k ≠ 120 := by
  refine ⟨?_, ?_⟩
  · by_cases q1 : 108 ≤ k
    · by_cases q2 : k ≤ 117
      · rw [cc_kept q1 q2] at h
        exact absurd h.symm hY
      · omega
    · omega
  · rintro rfl
    exact hY h.symm
theorem mc_k2 {k j Y : Nat} (h : mc k j = Y) (hY : Y ≠ 8) : k ≠ 146 ∧ k ≠ 147 ∧ k ≠ 148 := by
  refine ⟨?_, ?_, ?_⟩ <;> (rintro rfl; exact hY h.symm)
theorem keep_mem (h : Rel V c b B μ ν) {s : Nat} (hs : s < 2) {ν2 : Mem} (e2 : ∀ k i, k ≠ 146 → gI ν2 k i = gI (sI (sI ν 147 s 1) 148 s (gI ν 122 41)) k i) (e3 : ∀ k i, gL ν2 k i = gL ν k i) (e4 : ∀ i, gI ν2 146 i = if 27 * s + 0 ≤ i ∧ i < 27 * s + 27 then gI (sI (sI ν 147 s 1) 148 s (gI ν 122 41)) 123 (i - 27 * s) else gI (sI (sI ν 147 s 1) 148 s (gI ν 122 41)) 146 i) : Rel V c b B (sI (tkM μ 33 (108 + 5 * s)) 120 s 1) ν2 := by
  have f : ∀ Y, Y ≠ 8 → ∀ a j, cc a j = Y → gI (sI (tkM μ 33 (108 + 5 * s)) 120 s 1) a j = gI μ a j := fun Y h8 a j q => by
    obtain ⟨q1, q2⟩ := cc_k2 q h8
    rw [gne q2, tkM_o j (by omega)]
  have e : ∀ Y, Y ≠ 8 → ∀ a j, mc a j = Y → gI ν2 a j = gI ν a j := fun Y h8 a j q => by
    obtain ⟨q1, q2, q3⟩ := mc_k2 q h8
    rw [e2 a j q1, gne q3, gne q2]
  refine ⟨h.1.cg (f 1 (by decide)) (e 1 (by decide)), h.2.1.cg (f 2 (by decide)) (e 2 (by decide)), h.2.2.1.cg (f 3 (by decide)) (e 3 (by decide)), h.2.2.2.1.cg (f 4 (by decide)) (e 4 (by decide)), h.2.2.2.2.1.cg (f 5 (by decide)) (e 5 (by decide)), h.2.2.2.2.2.1.cg (f 6 (by decide)) (e 6 (by decide)) (fun _ => rfl) (fun j => e3 134 j), h.2.2.2.2.2.2.1.cg (f 7 (by decide)) (e 7 (by decide)), ?_, h.2.2.2.2.2.2.2.2.cg (f 9 (by decide)) (e 9 (by decide))⟩
  obtain ⟨⟨m, m1, m2, m3⟩, kk⟩ := h.2.2.2.2.2.2.2.1
  have e41 : gI ν2 122 41 = gI ν 122 41 := by rw [e2 122 41 (by decide), gne (by decide), gne (by decide)]
  have e148 : ∀ t, gI ν2 148 t = if t = s then gI ν 122 41 else gI ν 148 t := fun t => by
    rw [e2 148 t (by decide), gI_sI]
    by_cases q : t = s
    · rw [if_pos ⟨rfl, q⟩, if_pos q]
    · rw [if_neg (fun z => q z.2), if_neg q, gne (by decide)]
  have e147 : ∀ t, gI ν2 147 t = if t = s then 1 else gI ν 147 t := fun t => by
    rw [e2 147 t (by decide), gne (by decide), gI_sI]
    by_cases q : t = s
    · rw [if_pos ⟨rfl, q⟩, if_pos q]
    · rw [if_neg (fun z => q z.2), if_neg q]
  refine ⟨⟨m, m1, by rw [e41]; exact m2, fun t ht => ?_⟩, fun t ht => ?_⟩
  · rw [e148 t]
    by_cases q : t = s
    · rw [if_pos q]; exact ⟨m, Nat.le_refl _, m2⟩
    · rw [if_neg q]; exact m3 t ht
  · by_cases q : t = s
    · subst q
      right
      have hh : ∀ j, j < 27 → hl (sI (tkM μ 33 (108 + 5 * t)) 120 t 1) (108 + 5 * t) j = hl μ 33 j := fun j hj => by
        rw [hl_cg (μ := tkM μ 33 (108 + 5 * t)) (fun a j' ha _ => gne (by omega)) j]
        exact tkM_hl (by omega) hj
      refine ⟨by rw [gI_sI, if_pos ⟨rfl, rfl⟩], by rw [e147, if_pos rfl], by rw [e148, if_pos rfl, e41], fun j hj => ?_, HOk_cg h.hl0.2 hh⟩
      rw [hh j hj, e4, if_pos (by omega), gne (by decide), gne (by decide), show 27 * t + j - 27 * t = j by omega]
      exact h.hl0.1 j hj
    · have hq : ∀ j, hl (sI (tkM μ 33 (108 + 5 * s)) 120 s 1) (108 + 5 * t) j = hl μ (108 + 5 * t) j := fun j => hl_cg (fun a j' ha _ => by rw [gne (by omega), tkM_o j' (by omega)]) j
      rw [gI_sI, if_neg (fun z => q z.2), tkM_o t (by omega), e147, if_neg q, e148, if_neg q, e41, show hl (sI (tkM μ 33 (108 + 5 * s)) 120 s 1) (108 + 5 * t) = hl μ (108 + 5 * t) from funext hq]
      rcases kk t ht with g | ⟨g1, g2, g3, g4, g5⟩
      · exact Or.inl g
      · refine Or.inr ⟨g1, g2, g3, fun j hj => ?_, g5⟩
        rw [e4, if_neg (by omega), gne (by decide), gne (by decide)]
        exact g4 j hj
theorem pr_keep (h : Rel V c b B μ ν) (v : Int32) : Pr V c b B (fX11_keep_0 v μ) (fX12_keep_122 v ν) := by
  have h1 := m17 h 0
  unfold fX11_keep_0 fX12_keep_122
  rw [lt_e, m_in, bnd_e, vb1]
  rcases rng_or v 0 1 (lo := 0) (hi := 1) rfl rfl (by decide) (by decide) with ⟨q1, q2⟩ | ⟨q1, q3, q2⟩ | ⟨s, -, hs, rfl, a1, a2, a3⟩
  · rw [if_pos q1, if_pos q2, if_pos rfl]
    exact pr_end h1 _
  · rw [if_neg q1, if_neg (fun q => q3 (by rw [i_le]; rw [i_lt] at q; have e4 : (2 : Int32).toInt = 2 := rfl; have e3 : (1 : Int32).toInt = 1 := rfl; omega)), if_pos q2, if_pos rfl]
    exact pr_end h1 _
  · rw [if_neg a1, if_pos (show nI s < 2 from nI_lt (b := 2) (by omega) (by decide)), if_neg a3, if_neg n10]
    simp (disch := omega) only [gd_in, ix_nI, lt_e]
    unfold fX12_lay_123_146
    rw [show (27 : Int32) * nI s = nI (27 * s) from nI_mul 27 s]
    obtain ⟨ν2, e1, e2, e3, e4⟩ := mLay_123_146 (show 27 * s + 27 ≤ 54 by omega) 27 FU 0 (sI (sI (sI ν 122 17 0) 147 s 1) 148 s (gI (sI (sI ν 122 17 0) 147 s 1) 122 41)) rfl (by decide)
    rw [show fX12_lay_123_146_b2 FU (nI (27 * s)) 0 (sI (sI (sI ν 122 17 0) 147 s 1) 148 s (gI (sI (sI ν 122 17 0) 147 s 1) 122 41)) = _ from e1, bnd_e]
    have e5 : gI (sI (sI ν 122 17 0) 147 s 1) 122 41 = gI (sI ν 122 17 0) 122 41 := gne (by decide)
    rw [e5] at e2 e4
    have R := keep_mem h1 (show s < 2 by omega) e2 e3 e4
    obtain rfl | rfl : s = 0 ∨ s = 1 := by omega
    · rw [if_pos (show nI 0 = 0 from rfl), take_108_33, bnd_e]
      exact pr_end R _
    · rw [if_neg (show ¬ nI 1 = 0 by decide), if_pos (show nI 1 = 1 from rfl), take_113_33, bnd_e]
      exact pr_end R _
theorem mAgain {s : Nat} (hs : s < 2) : ∀ (m f j : Nat) (ν' : Mem), j + m = 27 → m < f → ∃ ν'', fX12_again_122_b40 f (nI s) (nI j) ν' = some (1, sI ν'' 122 29 0) ∧ (∀ k i, k ≠ 123 → gI ν'' k i = gI ν' k i) ∧ (∀ k i, gL ν'' k i = gL ν' k i) ∧ ∀ i, i < 27 → gI ν'' 123 i = if j ≤ i then gI ν' 146 (27 * s + i) else gI ν' 123 i := by
  intro m
  induction m with
  | zero =>
    intro f j ν' h1 h2
    obtain ⟨f, rfl⟩ := Nat.exists_eq_succ_of_ne_zero (show f ≠ 0 by omega)
    rw [fX12_again_122_b40, if_pos (show (27 : Int32) ≤ nI j from nI_le (a := 27) (by omega) (by omega))]
    refine ⟨ν', rfl, fun _ _ _ => rfl, fun _ _ => rfl, fun i hi => ?_⟩
    rw [if_neg (by omega)]
  | succ m ih =>
    intro f j ν' h1 h2
    obtain ⟨f, rfl⟩ := Nat.exists_eq_succ_of_ne_zero (show f ≠ 0 by omega)
    rw [fX12_again_122_b40, if_neg (show ¬ (27 : Int32) ≤ nI j from nI_ge (b := 27) (by omega) (by omega)), show (27 : Int32) * nI s = nI (27 * s) from nI_mul 27 s, nI_add, gd_in (by omega) (by decide), gd_in (by omega) (by decide), ix_nI (by omega), ix_nI (by omega), lt_e, nI_1]
    obtain ⟨ν'', e1, e2, e3, e4⟩ := ih f (j + 1) (sI ν' 123 j (gI ν' 146 (27 * s + j))) (by omega) (by omega)
    refine ⟨ν'', e1, fun k i hk => ?_, e3, fun i hi => ?_⟩
    · rw [e2 k i hk, gne hk]
    · rw [e4 i hi, gne (show 146 ≠ 123 by decide), gI_sI]
      by_cases q : i = j
      · subst q
        rw [if_neg (show ¬ i + 1 ≤ i by omega), if_pos (show 123 = 123 ∧ i = i from ⟨rfl, rfl⟩), if_pos (Nat.le_refl _)]
      · rw [if_neg (show ¬ (123 = 123 ∧ i = j) from fun z => q z.2)]
        by_cases q2 : j + 1 ≤ i
        · rw [if_pos q2, if_pos (by omega)]
        · rw [if_neg q2, if_neg (by omega)]
theorem again_mem (h : Rel V c b B μ ν) {s : Nat} (hs : s < 2) (hc : ∀ j, j < 27 → gI ν 146 (27 * s + j) = hl μ (108 + 5 * s) j) (ho : HOk c B (hl μ (108 + 5 * s))) {ν2 : Mem} (e2 : ∀ k i, k ≠ 123 → gI ν2 k i = gI ν k i) (e3 : ∀ k i, gL ν2 k i = gL ν k i) (e4 : ∀ i, i < 27 → gI ν2 123 i = if 0 ≤ i then gI ν 146 (27 * s + i) else gI ν 123 i) : Rel V c b B (sI (tkM μ (108 + 5 * s) 33) 29 2 0) (sI ν2 122 29 0) := by
  have f : ∀ Y, Y ≠ 4 → Y ≠ 7 → Y ≠ 0 → ∀ a j, cc a j = Y → gI (sI (tkM μ (108 + 5 * s) 33) 29 2 0) a j = gI μ a j := fun Y h4 h7 h0 a j q => by
    have h29 : ¬ (a = 29 ∧ j = 2) := fun z => cc29 q h7 (Or.inr z.2) z.1
    rw [gI_sI, if_neg h29]
    by_cases g : 33 ≤ a ∧ a ≤ 37
    · by_cases g3 : a = 33
      · subst g3
        by_cases g4 : j = 4
        · subst g4; exact absurd q.symm h4
        · have : cc 33 j = 0 := by
            show (bif j == 4 then 4 else 0) = 0
            rw [show (j == 4) = false by simpa using g4]
            rfl
          exact absurd (q.symm.trans this) h0
      · exact absurd (q.symm.trans (cc_hall (by omega) (fun e => absurd e g3))) h4
    · rw [tkM_o j (by omega)]
  have e : ∀ Y, Y ≠ 4 → Y ≠ 7 → ∀ a j, mc a j = Y → gI (sI ν2 122 29 0) a j = gI ν a j := fun Y h4 h7 a j q => by
    have g : a ≠ 123 := by
      rintro rfl
      exact h4 q.symm
    rw [gI_sI, if_neg (mc138 q h7).2, e2 a j g]
  have hh : ∀ j, j < 27 → hl (sI (tkM μ (108 + 5 * s) 33) 29 2 0) 33 j = hl μ (108 + 5 * s) j := fun j hj => by
    rw [hl_cg (μ := tkM μ (108 + 5 * s) 33) (fun a j' ha _ => gne (by omega)) j]
    exact tkM_hl (by omega) hj
  obtain ⟨n, nx, a1, a2, a3, a4, a5, a6⟩ := h.2.2.2.2.2.2.1
  refine ⟨h.1.cg (f 1 (by decide) (by decide) (by decide)) (e 1 (by decide) (by decide)), h.2.1.cg (f 2 (by decide) (by decide) (by decide)) (e 2 (by decide) (by decide)), h.2.2.1.cg (f 3 (by decide) (by decide) (by decide)) (e 3 (by decide) (by decide)), ⟨fun j hj => ?_, HOk_cg ho hh⟩, h.2.2.2.2.1.cg (f 5 (by decide) (by decide) (by decide)) (e 5 (by decide) (by decide)), h.2.2.2.2.2.1.cg (f 6 (by decide) (by decide) (by decide)) (e 6 (by decide) (by decide)) (fun _ => rfl) (fun j => e3 134 j), ⟨0, nx, by omega, a2, ?_, ?_, ?_, fun i hi => absurd hi (by omega)⟩, h.2.2.2.2.2.2.2.1.cg (f 8 (by decide) (by decide) (by decide)) (e 8 (by decide) (by decide)), h.2.2.2.2.2.2.2.2.cg (f 9 (by decide) (by decide) (by decide)) (e 9 (by decide) (by decide))⟩
  · rw [gne (by decide), e4 j hj, if_pos (by omega), hh j hj]
    exact hc j hj
  · rw [gI_sI, if_neg (by omega), tkM_o 1 (by omega)]
    exact a3
  · rw [gI_sI, if_pos ⟨rfl, rfl⟩]; rfl
  · rw [gI_sI, if_pos ⟨rfl, rfl⟩]; rfl
theorem pr_again (h : Rel V c b B μ ν) (v : Int32) : Pr V c b B (fX11_again_0 v μ) (fX12_again_122 v ν) := by
  have h1 := m17 h 0
  unfold fX11_again_0 fX12_again_122 fX6_forget_29
  rw [lt_e, m_in, bnd_e]
  rcases rng_or v 0 1 (lo := 0) (hi := 1) rfl rfl (by decide) (by decide) with ⟨q1, q2⟩ | ⟨q1, q3, q2⟩ | ⟨s, -, hs, rfl, a1, a2, a3⟩
  · rw [if_pos q1, if_pos q2, if_pos rfl]
    exact pr_end h1 _
  · rw [if_neg q1, if_pos (show (2 : Int32) ≤ v by rw [i_le]; rw [i_le] at q3; have e4 : (2 : Int32).toInt = 2 := rfl; have e3 : (1 : Int32).toInt = 1 := rfl; omega), if_pos q2, if_pos rfl]
    exact pr_end h1 _
  · rw [if_neg a1, if_neg (show ¬ (2 : Int32) ≤ nI s from nI_ge (b := 2) (by omega) (by decide)), if_neg a3, if_neg n10]
    simp (disch := omega) only [gd_in, ix_nI]
    rcases h1.2.2.2.2.2.2.2.1.2 s (by omega) with ⟨g1, g2⟩ | ⟨g1, g2, g3, g4, g5⟩
    · rw [if_pos g1]
      by_cases z : gI (sI ν 122 17 0) 147 s = 0
      · rw [if_pos z]; exact pr_end h1 _
      · rw [if_neg z, if_neg (g2.resolve_left z)]; exact pr_end h1 _
    · have n1 : ¬ gI μ 120 s = 0 := by rw [g1]; decide
      have n2 : ¬ gI (sI ν 122 17 0) 147 s = 0 := by rw [g2]; decide
      rw [if_neg n1, if_neg n2, if_pos g3]
      obtain ⟨ν2, e1, e2, e3, e4⟩ := mAgain (show s < 2 by omega) 27 FU 0 (sI ν 122 17 0) rfl (by decide)
      rw [show fX12_again_122_b40 FU (nI s) 0 (sI ν 122 17 0) = _ from e1]
      have R := again_mem h1 (show s < 2 by omega) g4 g5 e2 e3 e4
      obtain rfl | rfl : s = 0 ∨ s = 1 := by omega
      · rw [if_pos (show nI 0 = 0 from rfl), take_33_108, bnd_e, lt_e, bnd_e]
        exact pr_end R _
      · rw [if_neg (show ¬ nI 1 = 0 by decide), if_pos (show nI 1 = 1 from rfl), take_33_113, bnd_e, lt_e, bnd_e]
        exact pr_end R _
end Pure24
