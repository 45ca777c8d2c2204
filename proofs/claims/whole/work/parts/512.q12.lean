section Pure12
variable {V : VT} {c b B : Nat} {μ ν : Mem}
def PrH (V : VT) (c b B : Nat) (o1 o2 : Option (Int32 × Mem)) : Prop := Sm (fun r μ' r' ν' => gI ν' 122 17 = r ∧ (r = 0 ∨ r = 1) ∧ (r = 0 → gL μ' 149 0 = r'.toInt64) ∧ Rel V c b B μ' ν') o1 o2
theorem Rel.out (h : Rel V c b B μ ν) (v : Int64) : Rel V c b B (sL μ 149 0 v) ν := by
  refine ⟨h.1, h.2.1, h.2.2.1, h.2.2.2.1, h.2.2.2.2.1, ?_, h.2.2.2.2.2.2.1, h.2.2.2.2.2.2.2.1, h.2.2.2.2.2.2.2.2⟩
  exact h.2.2.2.2.2.1
theorem prh_lost (h : Rel V c b B μ ν) : PrH V c b B (some (1, μ)) (bnd (fX12_lost_122 ν) fun r m => some (r, m)) := by
  unfold fX12_lost_122
  exact sm_end ⟨rfl, Or.inr rfl, fun q => absurd q n10, m17 h 1⟩
theorem prh_end (h : Rel V c b B μ ν) (h0 : gI ν 122 17 = 0) (r : Int32) : PrH V c b B (some (0, sL μ 149 0 r.toInt64)) (some (r, ν)) := sm_end ⟨h0, Or.inl rfl, fun _ => by rw [gL_sL, if_pos ⟨rfl, rfl⟩], h.out _⟩
theorem pr_witness (h : Rel V c b B μ ν) (v v2 : Int32) : PrH V c b B (fH_witness v v2 μ) (fX12_witness_122 v v2 ν) := by
  have h1 := m17 h 0
  have h8 := h.b8
  have z : gI (sI ν 122 17 0) 122 17 = 0 := by rw [gI_sI, if_pos ⟨rfl, rfl⟩]
  unfold fH_witness fX11_witness_0 fX12_witness_122 fX12_witness_122_b28
  rw [lt_e, h.wit, h1.witM, m_in, bnd_e]
  by_cases q0 : v < 0
  · rw [if_pos q0, if_pos (Or.inl q0), if_pos rfl]
    exact prh_lost h1
  · obtain ⟨j, hj, rfl⟩ := nI_of q0
    by_cases q1 : j < b
    · have e1 : nI j < nI b := nI_lt q1 (by omega)
      have e2 : ¬ (nI j < 0 ∨ nI b - 1 < nI j) := by
        rintro (q | q)
        · exact q0 q
        · obtain ⟨b, rfl⟩ := Nat.exists_eq_succ_of_ne_zero (show b ≠ 0 by omega)
          rw [nI_pred] at q
          exact (nI_nlt (by omega) (by omega)) q
      rw [if_neg q0, if_pos e1, if_neg e2, if_neg n10, m_in, bnd_e]
      simp (disch := omega) only [gd_in, ix_nI, a18, h1.who, h1.fade, word_33 h1.hl0]
      by_cases e0 : v2 = 0
      · subst e0
        rw [if_pos rfl, if_neg (by decide), if_pos rfl]
        exact prh_end h1 z _
      · rw [if_neg e0]
        by_cases e3 : v2 = 1
        · subst e3
          rw [if_pos rfl, if_neg (by decide), if_neg n10, if_pos rfl]
          exact prh_end h1 z _
        · rw [if_neg e3]
          by_cases e4 : v2 = 2
          · subst e4
            rw [if_pos rfl, if_neg (by decide), if_neg (by decide), if_neg (by decide)]
            exact prh_end h1 z _
          · rw [if_neg e4]
            have e5 : v2 < 0 ∨ 2 < v2 := by
              rcases rng_or v2 0 2 (lo := 0) (hi := 2) rfl rfl (by decide) (by decide) with ⟨-, q⟩ | ⟨-, -, q⟩ | ⟨n, -, hn, rfl, -⟩
              · exact q
              · exact q
              · obtain rfl | rfl | rfl : n = 0 ∨ n = 1 ∨ n = 2 := by omega
                · exact absurd rfl e0
                · exact absurd rfl e3
                · exact absurd rfl e4
            rw [if_pos e5, if_pos rfl]
            exact prh_lost h1
    · have e1 : ¬ nI j < nI b := nI_nlt (by omega) (by omega)
      have e2 : nI j < 0 ∨ nI b - 1 < nI j := by
        right
        by_cases hc : b = 0
        · subst hc
          rw [i_lt, nI_toInt hj]
          have : (nI 0 - 1 : Int32).toInt = -1 := by decide
          omega
        · obtain ⟨b, rfl⟩ := Nat.exists_eq_succ_of_ne_zero hc
          rw [nI_pred]
          exact nI_lt (by omega) hj
      rw [if_neg q0, if_neg e1, if_pos e2, if_pos rfl]
      exact prh_lost h1
theorem lt_v {v : Int32} {n : Nat} (hn : n < 2 ^ 31) (e : ∀ i, i < n → ¬ v = nI i) : v < 0 ∨ nI n ≤ v := by
  by_cases q : v < 0
  · exact Or.inl q
  · obtain ⟨j, hj, rfl⟩ := nI_of q
    right
    refine nI_le ?_ hj
    by_cases q : j < n
    · exact absurd rfl (e j q)
    · omega
theorem pr_prisoner (h : Rel V c b B μ ν) (hB : B + 1000 < 2 ^ 30) (v v2 : Int32) : PrH V c b B (fH_prisoner v v2 μ) (fX12_prisoner_122 v v2 ν) := by
  have h1 := m17 h 0
  have h6 := h.c6
  have z : gI (sI ν 122 17 0) 122 17 = 0 := by rw [gI_sI, if_pos ⟨rfl, rfl⟩]
  obtain ⟨d, hdB, hd⟩ := dayB_33 h.hl0
  unfold fH_prisoner fX11_prisoner_0 fX12_prisoner_122 fX12_prisoner_122_b23
  rw [lt_e]
  rcases man_or h1 v with ⟨e1, e2, -, -⟩ | ⟨p, hp, rfl, e1, e2, -, -⟩
  · rw [e1, e2, bnd_e, bnd_e, if_pos rfl, if_pos rfl]
    exact prh_lost h1
  · rw [e1, e2, bnd_e, bnd_e, if_neg n10, if_neg n10, m_in, bnd_e]
    have i6 : p < 6 := by omega
    by_cases f0 : v2 = 0
    · subst f0
      rw [if_pos rfl, if_neg (show ¬ ((0 : Int32) < 0 ∨ (10 : Int32) < (0 : Int32)) by decide), if_neg n10, if_pos rfl]
      simp (disch := omega) only [gd_in, ix_nI, h1.bears hp]
      exact prh_end h1 z _
    by_cases f1 : v2 = 1
    · subst f1
      rw [if_neg f0, if_pos rfl, if_neg (show ¬ ((1 : Int32) < 0 ∨ (10 : Int32) < (1 : Int32)) by decide), if_neg n10, if_neg f0, if_pos rfl]
      simp (disch := omega) only [gd_in, ix_nI, h1.fear hp]
      exact prh_end h1 z _
    by_cases f2 : v2 = 2
    · subst f2
      rw [if_neg f0, if_neg f1, if_pos rfl, if_neg (show ¬ ((2 : Int32) < 0 ∨ (10 : Int32) < (2 : Int32)) by decide), if_neg n10, if_neg f0, if_neg f1, if_pos rfl]
      simp (disch := omega) only [gd_in, ix_nI, h1.dumb hp]
      by_cases q : gI μ 8 p = 0
      · rw [if_pos q, if_pos q]
        exact prh_end h1 z _
      · rw [if_neg q, if_neg q]
        exact prh_end h1 z _
    by_cases f3 : v2 = 3
    · subst f3
      rw [if_neg f0, if_neg f1, if_neg f2, if_pos rfl, if_neg (show ¬ ((3 : Int32) < 0 ∨ (10 : Int32) < (3 : Int32)) by decide), if_neg n10, if_neg f0, if_neg f1, if_neg f2, if_pos rfl]
      simp (disch := omega) only [gd_in, ix_nI, h1.heir hp]
      exact prh_end h1 z _
    by_cases f4 : v2 = 4
    · subst f4
      rw [if_neg f0, if_neg f1, if_neg f2, if_neg f3, if_pos rfl, if_neg (show ¬ ((4 : Int32) < 0 ∨ (10 : Int32) < (4 : Int32)) by decide), if_neg n10, if_neg f0, if_neg f1, if_neg f2, if_neg f3, if_pos rfl]
      simp (disch := omega) only [gd_in, ix_nI, h1.goods hp]
      exact prh_end h1 z _
    by_cases f5 : v2 = 5
    · subst f5
      rw [if_neg f0, if_neg f1, if_neg f2, if_neg f3, if_neg f4, if_pos rfl, if_neg (show ¬ ((5 : Int32) < 0 ∨ (10 : Int32) < (5 : Int32)) by decide), if_neg n10, if_neg f0, if_neg f1, if_neg f2, if_neg f3, if_neg f4, if_pos rfl]
      simp (disch := omega) only [gd_in, ix_nI, st_33 h1.hl0]
      exact prh_end h1 z _
    by_cases f6 : v2 = 6
    · subst f6
      rw [if_neg f0, if_neg f1, if_neg f2, if_neg f3, if_neg f4, if_neg f5, if_pos rfl, if_neg (show ¬ ((6 : Int32) < 0 ∨ (10 : Int32) < (6 : Int32)) by decide), if_neg n10, if_neg f0, if_neg f1, if_neg f2, if_neg f3, if_neg f4, if_neg f5, if_pos rfl]
      simp (disch := omega) only [gd_in, ix_nI, a6, laid_33 h1.hl0]
      exact prh_end h1 z _
    by_cases f7 : v2 = 7
    · subst f7
      rw [if_neg f0, if_neg f1, if_neg f2, if_neg f3, if_neg f4, if_neg f5, if_neg f6, if_pos rfl, if_neg (show ¬ ((7 : Int32) < 0 ∨ (10 : Int32) < (7 : Int32)) by decide), if_neg n10, if_neg f0, if_neg f1, if_neg f2, if_neg f3, if_neg f4, if_neg f5, if_neg f6, if_pos rfl]
      simp (disch := omega) only [gd_in, ix_nI, a12, borne_33 h1.hl0]
      exact prh_end h1 z _
    by_cases f8 : v2 = 8
    · subst f8
      rw [if_neg f0, if_neg f1, if_neg f2, if_neg f3, if_neg f4, if_neg f5, if_neg f6, if_neg f7, if_pos rfl, if_neg (show ¬ ((8 : Int32) < 0 ∨ (10 : Int32) < (8 : Int32)) by decide), if_neg n10, if_neg f0, if_neg f1, if_neg f2, if_neg f3, if_neg f4, if_neg f5, if_neg f6, if_neg f7, if_pos rfl]
      obtain ⟨r, μ', q1, rfl, o⟩ := c_leftNow_33 h h.hl0 (by omega) i6 hd hdB
      obtain ⟨r', ν', q2, rfl, o'⟩ := m_leftNow_123 h1 h1.hl0 (by omega) hp hd hdB
      have z' : gI ν' 122 17 = 0 := (o'.1 122 17 rfl).trans z
      rw [q1, q2, bnd_e, bnd_e]
      exact prh_end (both h1 o o') z' _
    by_cases f9 : v2 = 9
    · subst f9
      rw [if_neg f0, if_neg f1, if_neg f2, if_neg f3, if_neg f4, if_neg f5, if_neg f6, if_neg f7, if_neg f8, if_pos rfl, if_neg (show ¬ ((9 : Int32) < 0 ∨ (10 : Int32) < (9 : Int32)) by decide), if_neg n10, if_neg f0, if_neg f1, if_neg f2, if_neg f3, if_neg f4, if_neg f5, if_neg f6, if_neg f7, if_neg f8, if_pos rfl, c_proof_33 h, m_proof_123 h1 h1.hl0, bnd_e, bnd_e]
      exact prh_end h1 z _
    by_cases f10 : v2 = 10
    · subst f10
      rw [if_neg f0, if_neg f1, if_neg f2, if_neg f3, if_neg f4, if_neg f5, if_neg f6, if_neg f7, if_neg f8, if_neg f9, if_pos rfl, if_neg (show ¬ ((10 : Int32) < 0 ∨ (10 : Int32) < (10 : Int32)) by decide), if_neg n10, if_neg f0, if_neg f1, if_neg f2, if_neg f3, if_neg f4, if_neg f5, if_neg f6, if_neg f7, if_neg f8, if_neg f9]
      simp (disch := omega) only [gd_in, ix_nI, h1.goods hp, c_worth, m_worth h1, bnd_e]
      exact prh_end h1 z _
    rw [if_neg f0, if_neg f1, if_neg f2, if_neg f3, if_neg f4, if_neg f5, if_neg f6, if_neg f7, if_neg f8, if_neg f9, if_neg f10]
    have a9 : v2 < 0 ∨ 10 < v2 := by
      rcases rng_or v2 0 10 (lo := 0) (hi := 10) rfl rfl (by decide) (by decide) with ⟨-, q⟩ | ⟨-, -, q⟩ | ⟨n, -, hn, rfl, -⟩
      · exact q
      · exact q
      · obtain rfl | rfl | rfl | rfl | rfl | rfl | rfl | rfl | rfl | rfl | rfl : n = 0 ∨ n = 1 ∨ n = 2 ∨ n = 3 ∨ n = 4 ∨ n = 5 ∨ n = 6 ∨ n = 7 ∨ n = 8 ∨ n = 9 ∨ n = 10 := by omega
        · exact absurd rfl f0
        · exact absurd rfl f1
        · exact absurd rfl f2
        · exact absurd rfl f3
        · exact absurd rfl f4
        · exact absurd rfl f5
        · exact absurd rfl f6
        · exact absurd rfl f7
        · exact absurd rfl f8
        · exact absurd rfl f9
        · exact absurd rfl f10
    rw [if_pos a9, if_pos rfl]
    exact prh_lost h1
end Pure12
