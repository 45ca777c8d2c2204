section Pure47
variable {V : VT} {c b B : Nat} {μ ν μ' ν' : Mem}
theorem Rel.forget (h : Rel V c b B μ ν) (o : ∀ k j, (k = 29 ∧ j = 2) ∨ (k = 120 ∧ j < 2) ∨ gI μ' k j = gI μ k j) (l : ∀ k j, gL μ' k j = gL μ k j) (o' : ∀ k j, (k = 122 ∧ (j = 29 ∨ j = 41)) ∨ gI ν' k j = gI ν k j) (l' : ∀ k j, gL ν' k j = gL ν k j) (e1 : gI μ' 29 2 = 0) (e2 : gI μ' 120 0 = 0) (e3 : gI μ' 120 1 = 0) (e4 : gI ν' 122 29 = 0) (e5 : gI ν' 122 41 = gI ν 122 41 + 1) (hB : B < 2 ^ 30) : Rel V c b (B + 1) μ' ν' := by
  have f : ∀ Y, Y ≠ 0 → Y ≠ 7 → Y ≠ 8 → ∀ k j, cc k j = Y → gI μ' k j = gI μ k j := fun Y h0 h7 h8 k j q => by
    rcases o k j with ⟨rfl, rfl⟩ | ⟨rfl, -⟩ | e
    · exact absurd q.symm h7
    · exact absurd q.symm h8
    · exact e
  have e : ∀ Y, Y ≠ 0 → Y ≠ 7 → Y ≠ 8 → ∀ k j, mc k j = Y → gI ν' k j = gI ν k j := fun Y h0 h7 h8 k j q => by
    rcases o' k j with ⟨rfl, rfl | rfl⟩ | e
    · exact absurd q.symm h7
    · exact absurd q.symm h8
    · exact e
  have g := h.mono (show B ≤ B + 1 by omega)
  obtain ⟨n, nx, p1, p2, p3, -, -, -⟩ := g.2.2.2.2.2.2.1
  obtain ⟨⟨m, k1, k2, k3⟩, -⟩ := h.2.2.2.2.2.2.2.1
  have e48 : ∀ s, gI ν' 148 s = gI ν 148 s := fun s => by
    rcases o' 148 s with ⟨z, -⟩ | e
    · omega
    · exact e
  have e91 : gI μ' 29 1 = nI nx := by
    rcases o 29 1 with ⟨-, z⟩ | ⟨z, -⟩ | e
    · omega
    · omega
    · exact e.trans p3
  have e41 : gI ν' 122 41 = nI (m + 1) := by rw [e5, k2, nI_1]
  refine ⟨g.1.cg (f 1 (by decide) (by decide) (by decide)) (e 1 (by decide) (by decide) (by decide)), g.2.1.cg (f 2 (by decide) (by decide) (by decide)) (e 2 (by decide) (by decide) (by decide)), g.2.2.1.cg (f 3 (by decide) (by decide) (by decide)) (e 3 (by decide) (by decide) (by decide)), g.2.2.2.1.cg (f 4 (by decide) (by decide) (by decide)) (e 4 (by decide) (by decide) (by decide)), g.2.2.2.2.1.cg (f 5 (by decide) (by decide) (by decide)) (e 5 (by decide) (by decide) (by decide)), g.2.2.2.2.2.1.cg (f 6 (by decide) (by decide) (by decide)) (e 6 (by decide) (by decide) (by decide)) (fun j => l 4 j) (fun j => l' 134 j), ⟨0, nx, by omega, p2, e91, e1, e4, fun i hi => absurd hi (Nat.not_lt_zero _)⟩, ⟨⟨m + 1, by omega, e41, fun s hs => ?_⟩, fun s hs => Or.inl ⟨?_, Or.inr ?_⟩⟩, g.2.2.2.2.2.2.2.2.cg (f 9 (by decide) (by decide) (by decide)) (e 9 (by decide) (by decide) (by decide))⟩
  · obtain ⟨m', q1, q2⟩ := k3 s hs
    exact ⟨m', by omega, (e48 s).trans q2⟩
  · obtain rfl | rfl : s = 0 ∨ s = 1 := by omega
    · exact e2
    · exact e3
  · obtain ⟨m', q1, q2⟩ := k3 s hs
    rw [e48, q2, e41]
    intro z
    rw [nI_eq (by omega) (by omega)] at z
    omega
theorem c_forget : ∃ μ', fX11_forgetWhatWas_0 μ = some ((), μ') ∧ (∀ k j, (k = 29 ∧ j = 2) ∨ (k = 120 ∧ j < 2) ∨ gI μ' k j = gI μ k j) ∧ (∀ k j, gL μ' k j = gL μ k j) ∧ gI μ' 29 2 = 0 ∧ gI μ' 120 0 = 0 ∧ gI μ' 120 1 = 0 := by
  refine ⟨sI (sI (sI μ 29 2 0) 120 0 0) 120 1 0, ?_, fun k j => ?_, fun _ _ => rfl, rfl, rfl, rfl⟩
  · unfold fX11_forgetWhatWas_0 fX6_forget_29
    rw [lt_e, bnd_e]
    show fX11_forgetWhatWas_0_b9 (997 + 1 + 1 + 1) (nI 0) _ = _
    rw [fX11_forgetWhatWas_0_b9, if_neg (by decide), gd_of (by decide), lt_e, fX11_forgetWhatWas_0_b9, if_neg (by decide), gd_of (by decide), lt_e, fX11_forgetWhatWas_0_b9, if_pos (by decide)]
    rfl
  · rw [gI_sI, gI_sI, gI_sI]
    by_cases q1 : k = 120 ∧ j = 1
    · exact Or.inr (Or.inl (by omega))
    · by_cases q2 : k = 120 ∧ j = 0
      · exact Or.inr (Or.inl (by omega))
      · by_cases q3 : k = 29 ∧ j = 2
        · exact Or.inl q3
        · rw [if_neg q1, if_neg q2, if_neg q3]
          exact Or.inr (Or.inr rfl)
theorem Rel.newWit {n : Nat} (h : Rel V c b B μ ν) (hn : b + n ≤ 8) (wd : WD c b n μ ν) (o : ∀ k j, (k = 37 ∧ b ≤ j) ∨ (k = 11 ∧ j = 3) ∨ gI μ' k j = gI μ k j) (l : ∀ k j, gL μ' k j = gL μ k j) (a1 : ∀ j, gI μ' 37 j = if b ≤ j ∧ j < b + n then gI μ 13 j else gI μ 37 j) (a2 : gI μ' 11 3 = nI (b + n)) (o' : ∀ k j, k = 130 ∨ k = 131 ∨ k = 123 ∨ (k = 122 ∧ j = 8) ∨ gI ν' k j = gI ν k j) (l' : ∀ k j, gL ν' k j = gL ν k j) (b1 : ∀ j, gI ν' 130 j = if b ≤ j ∧ j < b + n then gI ν 135 (3 * (j - b)) else gI ν 130 j) (b2 : ∀ j, gI ν' 131 j = if b ≤ j ∧ j < b + n then gI ν 135 (3 * (j - b) + 2) else gI ν 131 j) (b3 : ∀ j, gI ν' 123 j = if 18 + b ≤ j ∧ j < 18 + b + n then gI ν 135 (3 * (j - (18 + b)) + 1) else gI ν 123 j) (b4 : gI ν' 122 8 = nI (b + n)) : Rel V c (b + n) B μ' ν' := by
  have f : ∀ Y, Y ≠ 0 → Y ≠ 2 → Y ≠ 4 → ∀ k j, cc k j = Y → gI μ' k j = gI μ k j := fun Y h0 h7 h8 k j q => by
    rcases o k j with ⟨rfl, -⟩ | ⟨rfl, rfl⟩ | e
    · exact absurd q.symm h8
    · exact absurd q.symm h7
    · exact e
  have e : ∀ Y, Y ≠ 0 → Y ≠ 2 → Y ≠ 4 → ∀ k j, mc k j = Y → gI ν' k j = gI ν k j := fun Y h0 h7 h8 k j q => by
    rcases o' k j with rfl | rfl | rfl | ⟨rfl, rfl⟩ | e
    · exact absurd q.symm h7
    · exact absurd q.symm h7
    · exact absurd q.symm h8
    · exact absurd q.symm h7
    · exact e
  have s : ∀ k j, k ≠ 37 → k ≠ 11 → gI μ' k j = gI μ k j := fun k j h1 h2 => by
    rcases o k j with ⟨z, -⟩ | ⟨z, -⟩ | e
    · exact absurd z h1
    · exact absurd z h2
    · exact e
  have hh := h.hl0
  have hle : ∀ j, j < 27 → hl μ' 33 j = if 18 + b ≤ j ∧ j < 18 + b + n then gI μ 13 (j - 18) else hl μ 33 j := fun j hj => by
    unfold hl
    rw [s 34 _ (by decide) (by decide), s 35 _ (by decide) (by decide), s 36 _ (by decide) (by decide), s 33 _ (by decide) (by decide), a1]
    by_cases q : 18 + b ≤ j ∧ j < 18 + b + n
    · rw [if_neg (show ¬ j < 6 by omega), if_neg (show ¬ j < 12 by omega), if_neg (show ¬ j < 18 by omega), if_pos (show j < 26 by omega), if_pos (by omega), if_pos q]
    · rw [if_neg q]
      by_cases q1 : j < 18
      · by_cases q2 : j < 12
        · by_cases q3 : j < 6
          · rw [if_pos q3, if_pos q3]
          · rw [if_neg q3, if_neg q3, if_pos q2, if_pos q2]
        · rw [if_neg (show ¬ j < 6 by omega), if_neg (show ¬ j < 6 by omega), if_neg q2, if_neg q2, if_pos q1, if_pos q1]
      · by_cases q2 : j < 26
        · rw [if_neg (show ¬ (b ≤ j - 18 ∧ j - 18 < b + n) by omega)]
        · rw [if_neg (show ¬ j < 6 by omega), if_neg (show ¬ j < 6 by omega), if_neg (show ¬ j < 12 by omega), if_neg (show ¬ j < 12 by omega), if_neg q1, if_neg q1, if_neg q2, if_neg q2]
  refine ⟨h.1.cg (f 1 (by decide) (by decide) (by decide)) (e 1 (by decide) (by decide) (by decide)), ⟨hn, a2, b4, fun w hw => ?_⟩, h.2.2.1.cg (f 3 (by decide) (by decide) (by decide)) (e 3 (by decide) (by decide) (by decide)), ⟨fun j hj => ?_, ?_⟩, h.2.2.2.2.1.cg (f 5 (by decide) (by decide) (by decide)) (e 5 (by decide) (by decide) (by decide)), h.2.2.2.2.2.1.cg (f 6 (by decide) (by decide) (by decide)) (e 6 (by decide) (by decide) (by decide)) (fun j => l 4 j) (fun j => l' 134 j), h.2.2.2.2.2.2.1.cg (f 7 (by decide) (by decide) (by decide)) (e 7 (by decide) (by decide) (by decide)), h.2.2.2.2.2.2.2.1.cg (f 8 (by decide) (by decide) (by decide)) (e 8 (by decide) (by decide) (by decide)), h.2.2.2.2.2.2.2.2.cg (f 9 (by decide) (by decide) (by decide)) (e 9 (by decide) (by decide) (by decide))⟩
  · rw [b1, b2, s 12 w (by decide) (by decide), s 14 w (by decide) (by decide)]
    by_cases q : w < b
    · rw [if_neg (by omega), if_neg (by omega)]
      exact h.2.1.2.2.2 w q
    · rw [if_pos (by omega), if_pos (by omega)]
      obtain ⟨⟨v1, -, x1, x2⟩, -, v3, x5, x6, x7⟩ := wd (w - b) (by omega)
      rw [show b + (w - b) = w by omega] at x1 x6
      exact ⟨x2.trans x1.symm, x7.trans x6.symm, v3, x5, x6⟩
  · rw [b3, hle j hj]
    by_cases q : 18 + b ≤ j ∧ j < 18 + b + n
    · rw [if_pos q, if_pos q]
      obtain ⟨-, ⟨v2, -, x3, x4⟩, -⟩ := wd (j - (18 + b)) (by omega)
      rw [show b + (j - (18 + b)) = j - 18 by omega] at x3
      exact x4.trans x3.symm
    · rw [if_neg q, if_neg q]
      exact hh.1 j hj
  · obtain ⟨h1, h2, h3, h4, d, h5, h6⟩ := hh.2
    refine ⟨fun p hp => ?_, fun p hp => ?_, fun p hc hp => ?_, fun w hw => ?_, d, h5, ?_⟩
    · rw [hle _ (by omega), if_neg (by omega)]; exact h1 p hp
    · rw [hle _ (by omega), if_neg (by omega)]; exact h2 p hp
    · rw [hle _ (by omega), if_neg (by omega)]; exact h3 p hc hp
    · rw [hle _ (by omega)]
      by_cases q : 18 + b ≤ 18 + w ∧ 18 + w < 18 + b + n
      · rw [if_pos q]
        obtain ⟨-, ⟨v2, x2, x3, x4⟩, -⟩ := wd (w - b) (by omega)
        rw [show b + (w - b) = 18 + w - 18 by omega] at x3
        exact ⟨v2, x2, x3⟩
      · rw [if_neg q]; exact h4 w hw
    · rw [hle _ (by omega), if_neg (by omega)]; exact h6
end Pure47
