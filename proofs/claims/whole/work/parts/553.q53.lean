section Pure53
variable {V : VT} {c b B : Nat} {μ ν μ' ν' : Mem}
theorem HOk.cm {f : Nat → Int32} {c' : Nat} (h : HOk c B f) (hc : c ≤ c') : HOk c' B f := ⟨h.1, h.2.1, fun p h1 h2 => h.2.2.1 p (by omega) h2, h.2.2.2.1, h.2.2.2.2⟩
theorem Rp.cm {c' : Nat} (h : Rp c B μ ν) (hc : c ≤ c') : Rp c' B μ ν := by
  obtain ⟨n, nx, a1, a2, a3, a4, a5, a6⟩ := h
  exact ⟨n, nx, a1, a2, a3, a4, a5, fun i hi => ⟨(a6 i hi).1, (a6 i hi).2.cm hc⟩⟩
theorem Rk.cm {c' : Nat} (h : Rk c B μ ν) (hc : c ≤ c') : Rk c' B μ ν := by
  obtain ⟨a1, a2⟩ := h
  refine ⟨a1, fun s hs => ?_⟩
  rcases a2 s hs with q | ⟨q1, q2, q3, q4, q5⟩
  · exact Or.inl q
  · exact Or.inr ⟨q1, q2, q3, q4, q5.cm hc⟩
theorem Rel.newMen {n : Nat} (h : Rel V c b B μ ν) (hn : c + n ≤ 6) (md : MD c n μ ν) (o : ∀ k j, (34 ≤ k ∧ k ≤ 36) ∨ (k = 5 ∧ j = 5) ∨ gI μ' k j = gI μ k j) (l : ∀ k j, gL μ' k j = gL μ k j) (a1 : ∀ k, 34 ≤ k → k ≤ 36 → ∀ j, gI μ' k j = if c ≤ j ∧ j < c + n then 0 else gI μ k j) (a2 : gI μ' 5 5 = nI (c + n)) (o' : ∀ k j, (123 ≤ k ∧ k ≤ 128) ∨ (k = 122 ∧ j = 1) ∨ gI ν' k j = gI ν k j) (l' : ∀ k j, gL ν' k j = gL ν k j) (b1 : ∀ d, d < 5 → ∀ j, gI ν' (124 + d) j = if c ≤ j ∧ j < c + n then gI ν 135 (5 * (j - c) + d) else gI ν (124 + d) j) (b3 : ∀ j, gI ν' 123 j = if (c ≤ j ∧ j < c + n) ∨ (6 + c ≤ j ∧ j < 6 + c + n) ∨ (12 + c ≤ j ∧ j < 12 + c + n) then 0 else gI ν 123 j) (b4 : gI ν' 122 1 = nI (c + n)) : Rel V (c + n) b B μ' ν' := by
  have f : ∀ Y, Y ≠ 0 → Y ≠ 1 → Y ≠ 4 → ∀ k j, cc k j = Y → gI μ' k j = gI μ k j := fun Y h0 h7 h8 k j q => by
    rcases o k j with ⟨z1, z2⟩ | ⟨rfl, rfl⟩ | e
    · obtain rfl | rfl | rfl : k = 34 ∨ k = 35 ∨ k = 36 := by omega
      all_goals exact absurd q.symm h8
    · exact absurd q.symm h7
    · exact e
  have e : ∀ Y, Y ≠ 0 → Y ≠ 1 → Y ≠ 4 → ∀ k j, mc k j = Y → gI ν' k j = gI ν k j := fun Y h0 h7 h8 k j q => by
    rcases o' k j with ⟨z1, z2⟩ | ⟨rfl, rfl⟩ | e
    · by_cases z : k = 123
      · subst z; exact absurd q.symm h8
      · obtain rfl | rfl | rfl | rfl | rfl : k = 124 ∨ k = 125 ∨ k = 126 ∨ k = 127 ∨ k = 128 := by omega
        · exact absurd q.symm h7
        · exact absurd q.symm h7
        · exact absurd q.symm h7
        · exact absurd q.symm h7
        · exact absurd q.symm h7
    · exact absurd q.symm h7
    · exact e
  have s : ∀ k j, (k < 34 ∨ 36 < k) → k ≠ 5 → gI μ' k j = gI μ k j := fun k j h1 h2 => by
    rcases o k j with ⟨z, z2⟩ | ⟨z, -⟩ | e
    · omega
    · exact absurd z h2
    · exact e
  have hh := h.hl0
  have hle : ∀ j, j < 27 → hl μ' 33 j = if (c ≤ j ∧ j < c + n) ∨ (6 + c ≤ j ∧ j < 6 + c + n) ∨ (12 + c ≤ j ∧ j < 12 + c + n) then 0 else hl μ 33 j := fun j hj => by
    unfold hl
    rw [a1 34 (by omega) (by omega), a1 35 (by omega) (by omega), a1 36 (by omega) (by omega), s 37 _ (by omega) (by omega), s 33 _ (by omega) (by omega)]
    by_cases q1 : j < 18
    · by_cases q2 : j < 12
      · by_cases q3 : j < 6
        · rw [if_pos q3, if_pos q3]
          by_cases q : c ≤ j ∧ j < c + n
          · rw [if_pos q, if_pos (Or.inl q)]
          · rw [if_neg q, if_neg (by omega)]
        · rw [if_neg q3, if_pos q2, if_neg q3, if_pos q2]
          by_cases q : c ≤ j - 6 ∧ j - 6 < c + n
          · rw [if_pos q, if_pos (by omega)]
          · rw [if_neg q, if_neg (by omega)]
      · rw [if_neg (show ¬ j < 6 by omega), if_neg q2, if_pos q1, if_neg (show ¬ j < 6 by omega), if_neg q2, if_pos q1]
        by_cases q : c ≤ j - 12 ∧ j - 12 < c + n
        · rw [if_pos q, if_pos (by omega)]
        · rw [if_neg q, if_neg (by omega)]
    · rw [if_neg (show ¬ j < 6 by omega), if_neg (show ¬ j < 12 by omega), if_neg q1, if_neg (show ¬ j < 6 by omega), if_neg (show ¬ j < 12 by omega), if_neg q1, if_neg (show ¬ ((c ≤ j ∧ j < c + n) ∨ (6 + c ≤ j ∧ j < 6 + c + n) ∨ (12 + c ≤ j ∧ j < 12 + c + n)) by omega)]
  refine ⟨⟨hn, a2, b4, fun p hp => ?_⟩, h.2.1.cg (f 2 (by decide) (by decide) (by decide)) (e 2 (by decide) (by decide) (by decide)), h.2.2.1.cg (f 3 (by decide) (by decide) (by decide)) (e 3 (by decide) (by decide) (by decide)), ⟨fun j hj => ?_, ?_⟩, h.2.2.2.2.1.cg (f 5 (by decide) (by decide) (by decide)) (e 5 (by decide) (by decide) (by decide)), h.2.2.2.2.2.1.cg (f 6 (by decide) (by decide) (by decide)) (e 6 (by decide) (by decide) (by decide)) (fun j => l 4 j) (fun j => l' 134 j), (h.2.2.2.2.2.2.1.cg (f 7 (by decide) (by decide) (by decide)) (e 7 (by decide) (by decide) (by decide))).cm (by omega), (h.2.2.2.2.2.2.2.1.cg (f 8 (by decide) (by decide) (by decide)) (e 8 (by decide) (by decide) (by decide))).cm (by omega), h.2.2.2.2.2.2.2.2.cg (f 9 (by decide) (by decide) (by decide)) (e 9 (by decide) (by decide) (by decide))⟩
  · rw [s 6 p (by omega) (by omega), s 7 p (by omega) (by omega), s 8 p (by omega) (by omega), s 9 p (by omega) (by omega), s 10 p (by omega) (by omega), b1 0 (by omega) p, b1 1 (by omega) p, b1 2 (by omega) p, b1 3 (by omega) p, b1 4 (by omega) p]
    by_cases q : p < c
    · have q' : ¬ (c ≤ p ∧ p < c + n) := by omega
      rw [if_neg q', if_neg q', if_neg q', if_neg q', if_neg q']
      exact h.1.2.2.2 p q
    · have q' : c ≤ p ∧ p < c + n := by omega
      rw [if_pos q', if_pos q', if_pos q', if_pos q', if_pos q']
      obtain ⟨x1, x2, ⟨v3, -, x3, x3'⟩, ⟨v4, h4, x4, x4'⟩, v5, h5, x5, x5'⟩ := md (p - c) (by omega)
      rw [show c + (p - c) = p by omega] at x1 x2 x3 x4 x5
      exact ⟨x1.symm, x2.symm, x3'.trans x3.symm, x4'.trans x4.symm, x5'.trans x5.symm, ⟨v4, h4, x4⟩, v5, h5, x5⟩
  · rw [b3, hle j hj]
    by_cases q : (c ≤ j ∧ j < c + n) ∨ (6 + c ≤ j ∧ j < 6 + c + n) ∨ (12 + c ≤ j ∧ j < 12 + c + n)
    · rw [if_pos q, if_pos q]
    · rw [if_neg q, if_neg q]
      exact hh.1 j hj
  · obtain ⟨h1, h2, h3, h4, d, h5, h6⟩ := hh.2
    refine ⟨fun p hp => ?_, fun p hp => ?_, fun p hc hp => ?_, fun w hw => ?_, d, h5, ?_⟩
    · rw [hle _ (by omega)]
      by_cases q : (c ≤ p ∧ p < c + n) ∨ (6 + c ≤ p ∧ p < 6 + c + n) ∨ (12 + c ≤ p ∧ p < 12 + c + n)
      · rw [if_pos q]; exact ⟨0, by omega, rfl⟩
      · rw [if_neg q]; exact h1 p hp
    · rw [hle _ (by omega)]
      by_cases q : (c ≤ 6 + p ∧ 6 + p < c + n) ∨ (6 + c ≤ 6 + p ∧ 6 + p < 6 + c + n) ∨ (12 + c ≤ 6 + p ∧ 6 + p < 12 + c + n)
      · rw [if_pos q]; exact ⟨0, by omega, rfl⟩
      · rw [if_neg q]; exact h2 p hp
    · rw [hle _ (by omega), if_neg (by omega)]; exact h3 p (by omega) hp
    · rw [hle _ (by omega), if_neg (by omega)]; exact h4 w hw
    · rw [hle _ (by omega), if_neg (by omega)]; exact h6
theorem cReceive : ∀ (m f k : Nat) (μ : Mem), k + m ≤ 6 → m < f → ∃ μ', fX4_receive_33_b2 f (nI (k + m)) (nI k) μ = some ((), μ') ∧ (∀ a j, (34 ≤ a ∧ a ≤ 36) ∨ gI μ' a j = gI μ a j) ∧ (∀ a j, gL μ' a j = gL μ a j) ∧ ∀ a, 34 ≤ a → a ≤ 36 → ∀ j, gI μ' a j = if k ≤ j ∧ j < k + m then 0 else gI μ a j := by
  intro m
  induction m with
  | zero =>
    intro f k μ h1 h2
    obtain ⟨f, rfl⟩ := Nat.exists_eq_succ_of_ne_zero (show f ≠ 0 by omega)
    rw [fX4_receive_33_b2, if_pos (nI_le (by omega) (by omega))]
    exact ⟨μ, rfl, fun _ _ => Or.inr rfl, fun _ _ => rfl, fun a _ _ j => by rw [if_neg (by omega)]⟩
  | succ m ih =>
    intro f k μ h1 h2
    obtain ⟨f, rfl⟩ := Nat.exists_eq_succ_of_ne_zero (show f ≠ 0 by omega)
    obtain ⟨μ', a1, a2, a3, a4⟩ := ih f (k + 1) (sI (sI (sI μ 34 k 0) 35 k 0) 36 k 0) (by omega) (by omega)
    refine ⟨μ', ?_, fun a j => ?_, fun a j => a3 a j, fun a ha1 ha2 j => ?_⟩
    · rw [fX4_receive_33_b2, if_neg (nI_ge (by omega) (by omega)), if_neg (show ¬ (6 : Int32) ≤ nI k from nI_ge (b := 6) (by omega) (by decide))]
      simp (disch := omega) only [gd_in, ix_nI, lt_e, nI_1]
      rw [show k + (m + 1) = k + 1 + m by omega]
      exact a1
    · rcases a2 a j with z | z
      · exact Or.inl z
      · by_cases q : 34 ≤ a ∧ a ≤ 36
        · exact Or.inl q
        · rw [z, gI_sI, if_neg (by omega), gI_sI, if_neg (by omega), gI_sI, if_neg (by omega)]; exact Or.inr rfl
    · rw [a4 a ha1 ha2 j, gI_sI, gI_sI, gI_sI]
      by_cases e : j = k
      · rw [if_neg (by omega), if_pos (show k ≤ j ∧ j < k + (m + 1) by omega)]
        obtain rfl | rfl | rfl : a = 34 ∨ a = 35 ∨ a = 36 := by omega
        · rw [if_neg (by omega), if_neg (by omega), if_pos ⟨rfl, e⟩]
        · rw [if_neg (by omega), if_pos ⟨rfl, e⟩]
        · rw [if_pos ⟨rfl, e⟩]
      · rw [if_neg (show ¬ (a = 36 ∧ j = k) from fun z => e z.2), if_neg (show ¬ (a = 35 ∧ j = k) from fun z => e z.2), if_neg (show ¬ (a = 34 ∧ j = k) from fun z => e z.2)]
        by_cases g : k + 1 ≤ j ∧ j < k + 1 + m
        · rw [if_pos g, if_pos (by omega)]
        · rw [if_neg g, if_neg (by omega)]
end Pure53
