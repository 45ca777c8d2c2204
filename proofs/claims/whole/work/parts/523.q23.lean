section Pure23
variable {V : VT} {c b B : Nat} {μ ν : Mem}
theorem mUndo {n : Nat} (hn : n ≤ 11) : ∀ (m f j : Nat) (ν' : Mem), j + m = 27 → m < f → gI ν' 122 29 = nI n → ∃ ν'', fX12_undo_122_b26 f (nI j) ν' = some (nI n, ν'') ∧ (∀ k i, k ≠ 123 → gI ν'' k i = gI ν' k i) ∧ (∀ k i, gL ν'' k i = gL ν' k i) ∧ ∀ i, i < 27 → gI ν'' 123 i = if j ≤ i then gI ν' 138 (27 * n + i) else gI ν' 123 i := by
  intro m
  induction m with
  | zero =>
    intro f j ν' h1 h2 h3
    obtain ⟨f, rfl⟩ := Nat.exists_eq_succ_of_ne_zero (show f ≠ 0 by omega)
    rw [fX12_undo_122_b26, if_pos (show (27 : Int32) ≤ nI j from nI_le (a := 27) (by omega) (by omega)), h3]
    refine ⟨ν', rfl, fun _ _ _ => rfl, fun _ _ => rfl, fun i hi => ?_⟩
    rw [if_neg (by omega)]
  | succ m ih =>
    intro f j ν' h1 h2 h3
    obtain ⟨f, rfl⟩ := Nat.exists_eq_succ_of_ne_zero (show f ≠ 0 by omega)
    rw [fX12_undo_122_b26, if_neg (show ¬ (27 : Int32) ≤ nI j from nI_ge (b := 27) (by omega) (by omega)), h3, show (27 : Int32) * nI n = nI (27 * n) from nI_mul 27 n, nI_add, gd_in (by omega) (by decide), gd_in (by omega) (by decide), ix_nI (by omega), ix_nI (by omega), lt_e, nI_1]
    obtain ⟨ν'', e1, e2, e3, e4⟩ := ih f (j + 1) (sI ν' 123 j (gI ν' 138 (27 * n + j))) (by omega) (by omega) (by rw [gne (by decide)]; exact h3)
    refine ⟨ν'', e1, fun k i hk => ?_, e3, fun i hi => ?_⟩
    · rw [e2 k i hk, gne hk]
    · rw [e4 i hi, gne (show 138 ≠ 123 by decide), gI_sI]
      by_cases q : i = j
      · subst q
        rw [if_neg (show ¬ i + 1 ≤ i by omega), if_pos (show 123 = 123 ∧ i = i from ⟨rfl, rfl⟩), if_pos (Nat.le_refl _)]
      · rw [if_neg (show ¬ (123 = 123 ∧ i = j) from fun z => q z.2)]
        by_cases q2 : j + 1 ≤ i
        · rw [if_pos q2, if_pos (by omega)]
        · rw [if_neg q2, if_neg (by omega)]
theorem pr_undo (h : Rel V c b B μ ν) : Pr V c b B (fX11_undo_0 μ) (fX12_undo_122 ν) := by
  have h1 := m17 h 0
  obtain ⟨n, nx, a1, a2, a3, a4, a5, a6⟩ := h1.2.2.2.2.2.2.1
  unfold fX11_undo_0 fX12_undo_122
  rw [lt_e, a5]
  by_cases z : n = 0
  · subst z
    unfold fX6_restore_29_33
    rw [a4, if_pos (show nI 0 = 0 from rfl), bnd_e, if_pos rfl, if_pos (show nI 0 = 0 from rfl)]
    exact pr_end h1 _
  · obtain ⟨k, rfl⟩ := Nat.exists_eq_succ_of_ne_zero z
    have hz : ¬ nI (k + 1) = 0 := nI_ne0 (by omega) (by omega)
    rw [c_restore (by omega) a1 a2 a3 a4, bnd_e, if_neg n10, if_neg hz, lt_e, show nI (Nat.succ k) - 1 = nI k from nI_pred k]
    obtain ⟨ν2, e1, e2, e3, e4⟩ := mUndo (show k ≤ 11 by omega) 27 FU 0 (sI (sI ν 122 17 0) 122 29 (nI k)) rfl (by decide) (by rw [gI_sI, if_pos ⟨rfl, rfl⟩])
    rw [show fX12_undo_122_b26 FU 0 (sI (sI ν 122 17 0) 122 29 (nI k)) = _ from e1]
    obtain ⟨y, hy⟩ : ∃ y, y = (nx + 12) % 13 := ⟨_, rfl⟩
    rw [← hy, show Nat.succ k - 1 = k from rfl]
    have hy13 : y < 13 := by omega
    have q2 : gI (tkM (sI (sI μ 29 1 (nI y)) 29 2 (nI k)) (43 + 5 * y) 33) 29 2 = nI k := by rw [tkM_o 2 (by omega), gI_sI, if_pos ⟨rfl, rfl⟩]
    have q1 : gI (tkM (sI (sI μ 29 1 (nI y)) 29 2 (nI k)) (43 + 5 * y) 33) 29 1 = nI y := by rw [tkM_o 1 (by omega), gI_sI, if_neg (by omega), gI_sI, if_pos ⟨rfl, rfl⟩]
    rw [q2]
    obtain ⟨b1, b2⟩ := a6 k (by omega)
    have ey : (nx + 13 - (k + 1) + k) % 13 = y := by omega
    rw [show Nat.succ k = k + 1 from rfl, ey] at b1 b2
    have hs : ∀ x, x < 13 → ∀ j, hl (sI (sI μ 29 1 (nI y)) 29 2 (nI k)) (43 + 5 * x) j = hl μ (43 + 5 * x) j := fun x hx j => hl_cg (fun a j' ha _ => by rw [gne (by omega), gne (by omega)]) j
    have hh : ∀ j, j < 27 → hl (tkM (sI (sI μ 29 1 (nI y)) 29 2 (nI k)) (43 + 5 * y) 33) 33 j = hl μ (43 + 5 * y) j := fun j hj => by
      rw [tkM_hl (by omega) hj]
      exact hs y hy13 j
    have f : ∀ Y, Y ≠ 4 → Y ≠ 7 → Y ≠ 0 → ∀ a j, cc a j = Y → gI (tkM (sI (sI μ 29 1 (nI y)) 29 2 (nI k)) (43 + 5 * y) 33) a j = gI μ a j := fun Y h4 h7 h0 a j q => by
      by_cases g : 33 ≤ a ∧ a ≤ 37
      · by_cases g3 : a = 33
        · subst g3
          by_cases g4 : j = 4
          · subst g4; exact absurd q.symm h4
          · have : cc 33 j = 0 := by
              show (bif j == 4 then 4 else 0) = 0
              rw [show (j == 4) = false by simpa using g4]
              rfl
            exact absurd (q.symm.trans this) h0
        · exact absurd (q.symm.trans (cc_hall (by omega) (fun e => absurd e g3))) h4
      · rw [tkM_o j (by omega)]
        have h29 : ¬ (a = 29 ∧ (j = 1 ∨ j = 2)) := fun z => cc29 q h7 z.2 z.1
        rw [gI_sI, if_neg (by omega), gI_sI, if_neg (by omega)]
    have e : ∀ Y, Y ≠ 4 → Y ≠ 7 → ∀ a j, mc a j = Y → gI ν2 a j = gI (sI ν 122 17 0) a j := fun Y h4 h7 a j q => by
      have g : a ≠ 123 := by
        rintro rfl
        exact h4 q.symm
      rw [e2 a j g, gI_sI, if_neg (mc138 q h7).2]
    refine sm_end (Q := fun r μ' r' ν' => r' = r ∧ Rel V c b B μ' ν') ⟨rfl, h1.1.cg (f 1 (by decide) (by decide) (by decide)) (e 1 (by decide) (by decide)), h1.2.1.cg (f 2 (by decide) (by decide) (by decide)) (e 2 (by decide) (by decide)), h1.2.2.1.cg (f 3 (by decide) (by decide) (by decide)) (e 3 (by decide) (by decide)), ⟨fun j hj => ?_, HOk_cg b2 hh⟩, h1.2.2.2.2.1.cg (f 5 (by decide) (by decide) (by decide)) (e 5 (by decide) (by decide)), h1.2.2.2.2.2.1.cg (f 6 (by decide) (by decide) (by decide)) (e 6 (by decide) (by decide)) (fun _ => rfl) (fun j => e3 134 j), ⟨k, y, by omega, hy13, q1, q2, ?_, fun i hi => ?_⟩, h1.2.2.2.2.2.2.2.1.cg (f 8 (by decide) (by decide) (by decide)) (e 8 (by decide) (by decide)), h1.2.2.2.2.2.2.2.2.cg (f 9 (by decide) (by decide) (by decide)) (e 9 (by decide) (by decide))⟩
    · rw [e4 j hj, if_pos (by omega), hh j hj, gne (by decide)]
      exact b1 j hj
    · rw [e2 122 29 (by decide), gI_sI, if_pos ⟨rfl, rfl⟩]
    · have ei : (y + 13 - k + i) % 13 = (nx + 13 - (k + 1) + i) % 13 := by omega
      obtain ⟨c1, c2⟩ := a6 i (by omega)
      rw [show Nat.succ k = k + 1 from rfl] at c1 c2
      have hq : ∀ j, hl (tkM (sI (sI μ 29 1 (nI y)) 29 2 (nI k)) (43 + 5 * y) 33) (43 + 5 * ((nx + 13 - (k + 1) + i) % 13)) j = hl μ (43 + 5 * ((nx + 13 - (k + 1) + i) % 13)) j := fun j => by
        rw [← hs _ (by omega) j]
        exact hl_cg (fun a j' ha _ => tkM_o j' (by omega)) j
      rw [ei, show hl (tkM (sI (sI μ 29 1 (nI y)) 29 2 (nI k)) (43 + 5 * y) 33) (43 + 5 * ((nx + 13 - (k + 1) + i) % 13)) = hl μ (43 + 5 * ((nx + 13 - (k + 1) + i) % 13)) from funext hq]
      refine ⟨fun j hj => ?_, c2⟩
      rw [e2 138 _ (by decide), gne (by decide)]
      exact c1 j hj
end Pure23
