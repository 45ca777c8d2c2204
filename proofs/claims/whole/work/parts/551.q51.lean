section Pure51
variable {V : VT} {c b B : Nat} {μ ν : Mem} {s : Nat → Nat} {t a : Nat}
def voM (q p3 : Int32) (ν : Mem) : Option (Int32 × Mem) := bnd (fX12_passes_122 (45 : Int32) ν) fun r13 m14 => if r13 = 0 then (fX12_readMan_122_b79 q p3 (0 : Int32) (q + (2 : Int32)) m14) else fX12_readMan_122_b79 q p3 (1 : Int32) (q + (2 : Int32)) m14
theorem so2_e (x : Nat) : so2 x = if x = 45 then 0 else if x = 43 then 1 else -1 := rfl
theorem man_voice (hk : OkT 133 s t 76) {n T : Nat} (hn : c + n < 6) (hT : T < 256) (pc : PC s t 76 a μ) (pm : PM 133 s t 76 a ν) (hat : a ≤ 76) (e56 : gI μ 5 6 = nI T) :
    (∃ w μ' ν', w ≤ 80 ∧ fX3_readsRest_5_1 (nI (c + n)) μ = some (0, μ') ∧ gI μ' 1 2 = nI w ∧ Off (gP c n) μ μ' ∧ voM (nI (5 * n)) (nI T) ν = some (nI T, ν') ∧ gI ν' 122 22 = nI w ∧ Off scM ν ν') ∨
    (∃ a' T' u v4 v5 μ' ν', u < 2 ∧ v4 < 4 ∧ v5 < 256 ∧ T' < 256 ∧ a' ≤ min t 76 ∧ fX3_readsRest_5_1 (nI (c + n)) μ = some (1, μ') ∧ voM (nI (5 * n)) (nI T) ν = some (nI T', ν') ∧ PC s t 76 a' μ' ∧ Off (gP c n) μ μ' ∧ Off (gQ n) ν ν' ∧ gI μ' 5 6 = nI T' ∧ (∀ k, 6 ≤ k → k < 8 → gI μ' k (c + n) = gI μ k (c + n)) ∧ gI μ' 8 (c + n) = nI u ∧ gI μ' 9 (c + n) = nI v4 ∧ gI μ' 10 (c + n) = nI v5 ∧ (∀ j, j < 5 * n + 2 → gI ν' 135 j = gI ν 135 j) ∧ gI ν' 135 (5 * n + 2) = nI u ∧ gI ν' 135 (5 * n + 3) = nI v4 ∧ gI ν' 135 (5 * n + 4) = nI v5 ∧ (PM 133 s t 76 a' ν' ∨ (gI ν' 122 22 = nI a' ∧ a' < min t 76 ∧ s a' ≠ 59))) := by
  unfold fX3_readsRest_5_1 voM fX12_readMan_122_b79
  rw [show nI (5 * n) + 2 = nI (5 * n + 2) from nI_add _ 2, cOne_2 hk pc (by omega), show fX12_passes_122 45 ν = _ from mPass hk pm (x := 45) (by omega) (by decide), so2_e]
  have wr : ∀ (u : Nat) (N : Mem), gI (sI N 135 (5 * n + 2) (nI u)) 135 (5 * n + 2) = nI u := fun u N => by rw [gI_sI, if_pos ⟨rfl, rfl⟩]
  have use : ∀ (u : Nat) (N : Mem), u < 2 → PM 133 s t 76 (a + 1) N → a < min t 76 → Off (gQ n) ν N → (∀ j, j < 5 * n + 2 → gI N 135 j = gI ν 135 j) → gI N 135 (5 * n + 2) = nI u →
      (∃ w μ' ν', w ≤ 80 ∧ fX3_readsRest_5_1_b27 (nI (c + n)) (nI u) (nI (c + n)) (sI μ 1 2 (nI (a + 1))) = some (0, μ') ∧ gI μ' 1 2 = nI w ∧ Off (gP c n) μ μ' ∧ fX12_readMan_122_b97 (nI (5 * n)) (nI T) N = some (nI T, ν') ∧ gI ν' 122 22 = nI w ∧ Off scM ν ν') ∨
      (∃ a' T' v4 v5 μ' ν', v4 < 4 ∧ v5 < 256 ∧ T' < 256 ∧ a' ≤ min t 76 ∧ fX3_readsRest_5_1_b27 (nI (c + n)) (nI u) (nI (c + n)) (sI μ 1 2 (nI (a + 1))) = some (1, μ') ∧ fX12_readMan_122_b97 (nI (5 * n)) (nI T) N = some (nI T', ν') ∧ PC s t 76 a' μ' ∧ Off (gP c n) μ μ' ∧ Off (gQ n) ν ν' ∧ gI μ' 5 6 = nI T' ∧ (∀ k, 6 ≤ k → k < 8 → gI μ' k (c + n) = gI μ k (c + n)) ∧ gI μ' 8 (c + n) = nI u ∧ gI μ' 9 (c + n) = nI v4 ∧ gI μ' 10 (c + n) = nI v5 ∧ (∀ j, j < 5 * n + 2 → gI ν' 135 j = gI ν 135 j) ∧ gI ν' 135 (5 * n + 2) = nI u ∧ gI ν' 135 (5 * n + 3) = nI v4 ∧ gI ν' 135 (5 * n + 4) = nI v5 ∧ (PM 133 s t 76 a' ν' ∨ (gI ν' 122 22 = nI a' ∧ a' < min t 76 ∧ s a' ≠ 59))) := by
    intro u N hu pm' hlt oN n1 n2
    rcases man_rest hk hn hT (pc.to (a + 1)) pm' (by omega) e56 hu with ⟨w, μ', ν', q1, q2, q3, q4, q5, q6, q7⟩ | ⟨a', T', v4, v5, μ', ν', q1, q2, q3, q4, q5, q6, q7, q8, q9, q10, q11, q12, q13, q14, q15, q16, q17, q18⟩
    · exact Or.inl ⟨w, μ', ν', q1, q2, q3, ((Off.refl μ).sI rfl).tr q4, q5, q6, (oN.mono (fun _ _ z => gQ_sc z)).tr q7⟩
    · refine Or.inr ⟨a', T', v4, v5, μ', ν', q1, q2, q3, q4, q5, q6, q7, ((Off.refl μ).sI rfl).tr q8, oN.tr q9, q10, fun k h1 h2 => ?_, q12, q13, q14, fun j hj => (q15 j (by omega)).trans (n1 j hj), (q15 _ (by omega)).trans n2, q16, q17, q18⟩
      rw [q11 k h1 h2, gI_sI, if_neg (by omega)]
  have miss : ¬ (a < min t 76 ∧ s a = 45) → ¬ (a < min t 76 ∧ s a = 43) → ∃ ν', (bnd (some (if a < min t 76 ∧ s a = 45 then ((1 : Int32), sI ν 122 21 (nI (a + 1))) else (0, ν))) fun r13 m14 => if r13 = 0 then gd (inb (nI (5 * n + 2)) 40) (lt (sI m14 135 (ix (nI (5 * n + 2))) 0) fun m15 => gd (inb (nI (5 * n + 2)) 40) (if (gI m15 135 (ix (nI (5 * n + 2)))) = 0 then (bnd (fX12_need_122 (43 : Int32) m15) fun r16 m17 => fX12_readMan_122_b97 (nI (5 * n)) (nI T) m17) else fX12_readMan_122_b97 (nI (5 * n)) (nI T) m15)) else gd (inb (nI (5 * n + 2)) 40) (lt (sI m14 135 (ix (nI (5 * n + 2))) 1) fun m15 => gd (inb (nI (5 * n + 2)) 40) (if (gI m15 135 (ix (nI (5 * n + 2)))) = 0 then (bnd (fX12_need_122 (43 : Int32) m15) fun r16 m17 => fX12_readMan_122_b97 (nI (5 * n)) (nI T) m17) else fX12_readMan_122_b97 (nI (5 * n)) (nI T) m15))) = some (nI T, ν') ∧ gI ν' 122 22 = nI a ∧ Off scM ν ν' := by
    intro h1 h2
    have pm' : PM 133 s t 76 a (sI ν 135 (5 * n + 2) 0) := pm.off (P := fun a _ => a == 135) ((Off.refl _).sI rfl) (fun a j z => by rw [beq_iff_eq] at z; omega)
    obtain ⟨ν', x1, x2, x3⟩ := xM97 (ν := sI (sI ν 135 (5 * n + 2) 0) 122 22 (nI a)) (w := a) (q := 5 * n) (by omega) rfl (by omega) (nI T)
    refine ⟨ν', ?_, x3, (((Off.refl ν).sI rfl).sI rfl).tr x2⟩
    rw [if_neg h1, bnd_e, if_pos rfl, gd_in (by omega) (by decide), ix_nI (by omega), lt_e, gd_in (by omega) (by decide), show gI (sI ν 135 (5 * n + 2) 0) 135 (5 * n + 2) = 0 from wr 0 _, if_pos rfl, show fX12_need_122 43 _ = _ from mNeed hk pm' (x := 43) (by omega) (by decide), if_neg h2, bnd_e]
    exact x1
  by_cases z : a < min t 76
  · rw [if_pos z]
    by_cases q : s a = 45
    · rw [if_pos q, if_neg (by decide), bnd_e, if_pos (by decide), if_pos rfl, if_pos ⟨z, q⟩, bnd_e, if_neg n10, gd_in (by omega) (by decide), ix_nI (by omega), lt_e, gd_in (by omega) (by decide), show gI (sI (sI ν 122 21 (nI (a + 1))) 135 (5 * n + 2) 1) 135 (5 * n + 2) = 1 from wr 1 _, if_neg n10]
      rcases use 1 (sI (sI ν 122 21 (nI (a + 1))) 135 (5 * n + 2) 1) (by omega) ((pm.to hk (a + 1)).off (P := fun a _ => a == 135) ((Off.refl _).sI rfl) (fun a j z => by rw [beq_iff_eq] at z; omega)) z (((Off.refl ν).sI rfl).sI (gQ_35 (by omega))) (fun j hj => by rw [gI_sI, if_neg (by omega)]; rfl) (wr 1 _) with x | ⟨a', T', v4, v5, μ', ν', x⟩
      · exact Or.inl x
      · exact Or.inr ⟨a', T', 1, v4, v5, μ', ν', by omega, x⟩
    · rw [if_neg q]
      by_cases q2 : s a = 43
      · have pm' : PM 133 s t 76 a (sI ν 135 (5 * n + 2) 0) := pm.off (P := fun a _ => a == 135) ((Off.refl _).sI rfl) (fun a j z => by rw [beq_iff_eq] at z; omega)
        rw [if_pos q2, if_neg (by decide), bnd_e, if_pos (by decide), if_neg n10, if_neg (fun y => q y.2), bnd_e, if_pos rfl, gd_in (by omega) (by decide), ix_nI (by omega), lt_e, gd_in (by omega) (by decide), show gI (sI ν 135 (5 * n + 2) 0) 135 (5 * n + 2) = 0 from wr 0 _, if_pos rfl, show fX12_need_122 43 _ = _ from mNeed hk pm' (x := 43) (by omega) (by decide), if_pos ⟨z, q2⟩, bnd_e]
        rcases use 0 (sI (sI ν 135 (5 * n + 2) 0) 122 21 (nI (a + 1))) (by omega) (pm'.to hk (a + 1)) z (((Off.refl ν).sI (gQ_35 (by omega))).sI rfl) (fun j hj => by rw [gI_sI, if_neg (by omega), gI_sI, if_neg (by omega)]) (by rw [gI_sI, if_neg (by omega)]; exact wr 0 _) with x | ⟨a', T', v4, v5, μ', ν', x⟩
        · exact Or.inl x
        · exact Or.inr ⟨a', T', 0, v4, v5, μ', ν', by omega, x⟩
      · obtain ⟨ν', x1, x2, x3⟩ := miss (fun y => q y.2) (fun y => q2 y.2)
        left
        rw [if_neg q2, if_pos (by decide), bnd_e, if_neg (by decide)]
        exact ⟨a, μ, ν', by omega, rfl, pc.2.1, Off.refl _, x1, x2, x3⟩
  · obtain ⟨ν', x1, x2, x3⟩ := miss (fun y => z y.1) (fun y => z y.1)
    left
    rw [if_neg z, bnd_e, if_neg (by decide)]
    exact ⟨a, μ, ν', by omega, rfl, pc.2.1, Off.refl _, x1, x2, x3⟩
end Pure51
