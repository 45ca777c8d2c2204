section Pure48
variable {V : VT} {c b B : Nat} {μ ν : Mem}
theorem cHear : ∀ (m f k : Nat) (μ : Mem), k + m ≤ 8 → m < f → ∃ μ', fX4_hear_33_b2 f (nI (k + m)) (nI k) μ = some ((), μ') ∧ (∀ a j, (a = 37 ∧ k ≤ j) ∨ gI μ' a j = gI μ a j) ∧ (∀ a j, gL μ' a j = gL μ a j) ∧ ∀ j, gI μ' 37 j = if k ≤ j ∧ j < k + m then gI μ 13 j else gI μ 37 j := by
  intro m
  induction m with
  | zero =>
    intro f k μ h1 h2
    obtain ⟨f, rfl⟩ := Nat.exists_eq_succ_of_ne_zero (show f ≠ 0 by omega)
    rw [fX4_hear_33_b2, if_pos (nI_le (by omega) (by omega))]
    exact ⟨μ, rfl, fun _ _ => Or.inr rfl, fun _ _ => rfl, fun j => by rw [if_neg (by omega)]⟩
  | succ m ih =>
    intro f k μ h1 h2
    obtain ⟨f, rfl⟩ := Nat.exists_eq_succ_of_ne_zero (show f ≠ 0 by omega)
    obtain ⟨μ', a1, a2, a3, a4⟩ := ih f (k + 1) (sI μ 37 k (gI μ 13 k)) (by omega) (by omega)
    refine ⟨μ', ?_, fun a j => ?_, fun a j => a3 a j, fun j => ?_⟩
    · rw [fX4_hear_33_b2, if_neg (nI_ge (by omega) (by omega)), if_neg (show ¬ (8 : Int32) ≤ nI k from nI_ge (b := 8) (by omega) (by decide)), gd_in (by omega) (by decide), gd_in (by omega) (by decide), ix_nI (by omega), lt_e, nI_1, show k + (m + 1) = k + 1 + m by omega]
      exact a1
    · rcases a2 a j with ⟨z1, z2⟩ | z
      · exact Or.inl ⟨z1, by omega⟩
      · by_cases q : a = 37 ∧ j = k
        · exact Or.inl ⟨q.1, by omega⟩
        · rw [z, gI_sI, if_neg q]; exact Or.inr rfl
    · have z : gI (sI μ 37 k (gI μ 13 k)) 13 j = gI μ 13 j := rfl
      rw [a4 j, z, gI_sI]
      by_cases e : j = k
      · rw [if_neg (by omega), if_pos ⟨rfl, e⟩, if_pos (by omega), e]
      · rw [if_neg (show ¬ (37 = 37 ∧ j = k) from fun z => e z.2)]
        by_cases g : k + 1 ≤ j ∧ j < k + 1 + m
        · rw [if_pos g, if_pos (by omega)]
        · rw [if_neg g, if_neg (by omega)]
theorem mWit {n : Nat} (hn : b + n ≤ 8) : ∀ (m f i : Nat) (ν : Mem), i + m = n → m < f → gI ν 122 8 = nI (b + i) → ∃ ν', fX12_witnesses_122_b149 f (nI n) (nI i) ν = some (nI n, sI (sI ν' 122 29 0) 122 41 (gI ν' 122 41 + 1)) ∧ (∀ k j, k = 130 ∨ k = 131 ∨ k = 123 ∨ (k = 122 ∧ j = 8) ∨ gI ν' k j = gI ν k j) ∧ (∀ k j, gL ν' k j = gL ν k j) ∧ (∀ j, gI ν' 130 j = if b + i ≤ j ∧ j < b + n then gI ν 135 (3 * (j - b)) else gI ν 130 j) ∧ (∀ j, gI ν' 131 j = if b + i ≤ j ∧ j < b + n then gI ν 135 (3 * (j - b) + 2) else gI ν 131 j) ∧ (∀ j, gI ν' 123 j = if 18 + (b + i) ≤ j ∧ j < 18 + b + n then gI ν 135 (3 * (j - (18 + b)) + 1) else gI ν 123 j) ∧ gI ν' 122 8 = nI (b + n) := by
  intro m
  induction m with
  | zero =>
    intro f i ν h1 h2 h
    obtain ⟨f, rfl⟩ := Nat.exists_eq_succ_of_ne_zero (show f ≠ 0 by omega)
    obtain rfl : i = n := by omega
    refine ⟨ν, ?_, fun _ _ => Or.inr (Or.inr (Or.inr (Or.inr rfl))), fun _ _ => rfl, fun j => by rw [if_neg (by omega)], fun j => by rw [if_neg (by omega)], fun j => by rw [if_neg (by omega)], h⟩
    rw [fX12_witnesses_122_b149, if_pos (nI_le (by omega) (by omega)), lt_e, lt_e]
    rfl
  | succ m ih =>
    intro f i ν h1 h2 h
    obtain ⟨f, rfl⟩ := Nat.exists_eq_succ_of_ne_zero (show f ≠ 0 by omega)
    obtain ⟨j1, j2, j3⟩ := i3 (n := i)
    obtain ⟨N, eN⟩ : ∃ N, N = sI (sI (sI (sI ν 130 (b + i) (gI ν 135 (3 * i))) 123 (18 + (b + i)) (gI ν 135 (3 * i + 1))) 131 (b + i) (gI ν 135 (3 * i + 2))) 122 8 (nI (b + (i + 1))) := ⟨_, rfl⟩
    obtain ⟨ν', a1, a2, a3, a4, a5, a6, a7⟩ := ih f (i + 1) N (by omega) (by omega) (by rw [eN]; rfl)
    have n35 : ∀ j, gI N 135 j = gI ν 135 j := fun j => by rw [eN]; rfl
    have n30 : ∀ j, gI N 130 j = if j = b + i then gI ν 135 (3 * i) else gI ν 130 j := fun j => by
      rw [eN]
      show gI (sI ν 130 (b + i) (gI ν 135 (3 * i))) 130 j = _
      rw [gI_sI]
      by_cases q : j = b + i
      · rw [if_pos ⟨rfl, q⟩, if_pos q]
      · rw [if_neg (fun z => q z.2), if_neg q]
    have n31 : ∀ j, gI N 131 j = if j = b + i then gI ν 135 (3 * i + 2) else gI ν 131 j := fun j => by
      rw [eN]
      show gI (sI (sI (sI ν 130 (b + i) (gI ν 135 (3 * i))) 123 (18 + (b + i)) (gI ν 135 (3 * i + 1))) 131 (b + i) (gI ν 135 (3 * i + 2))) 131 j = _
      rw [gI_sI]
      by_cases q : j = b + i
      · rw [if_pos ⟨rfl, q⟩, if_pos q]
      · rw [if_neg (fun z => q z.2), if_neg q]; rfl
    have n23 : ∀ j, gI N 123 j = if j = 18 + (b + i) then gI ν 135 (3 * i + 1) else gI ν 123 j := fun j => by
      rw [eN]
      show gI (sI (sI ν 130 (b + i) (gI ν 135 (3 * i))) 123 (18 + (b + i)) (gI ν 135 (3 * i + 1))) 123 j = _
      rw [gI_sI]
      by_cases q : j = 18 + (b + i)
      · rw [if_pos ⟨rfl, q⟩, if_pos q]
      · rw [if_neg (fun z => q z.2), if_neg q]; rfl
    refine ⟨ν', ?_, fun k j => ?_, fun k j => (a3 k j).trans (by rw [eN]; rfl), fun j => ?_, fun j => ?_, fun j => ?_, a7⟩
    · rw [fX12_witnesses_122_b149, if_neg (nI_ge (by omega) (by omega)), j1, j2, j3, h, gd_in (by omega) (by decide), gd_in (by omega) (by decide), ix_nI (by omega), ix_nI (by omega), lt_e]
      rw [show gI (sI ν 130 (b + i) (gI ν 135 (3 * i))) 122 8 = nI (b + i) from h, a18, gd_in (by omega) (by decide), gd_in (by omega) (by decide), ix_nI (by omega), ix_nI (by omega), lt_e]
      rw [show gI (sI (sI ν 130 (b + i) (gI ν 135 (3 * i))) 123 (18 + (b + i)) (gI (sI ν 130 (b + i) (gI ν 135 (3 * i))) 135 (3 * i + 1))) 122 8 = nI (b + i) from h, gd_in (by omega) (by decide), gd_in (by omega) (by decide), ix_nI (by omega), ix_nI (by omega), lt_e, lt_e, nI_1]
      rw [← a1, eN]
      congr 1
      show sI _ 122 8 (gI ν 122 8 + 1) = sI _ 122 8 (nI (b + (i + 1)))
      rw [h, nI_1]
      rfl
    · rcases a2 k j with z | z | z | z | z
      · exact Or.inl z
      · exact Or.inr (Or.inl z)
      · exact Or.inr (Or.inr (Or.inl z))
      · exact Or.inr (Or.inr (Or.inr (Or.inl z)))
      · rw [z, eN, gI_sI, gI_sI, gI_sI, gI_sI]
        by_cases q1 : k = 122 ∧ j = 8
        · exact Or.inr (Or.inr (Or.inr (Or.inl q1)))
        · by_cases q2 : k = 131
          · exact Or.inr (Or.inl q2)
          · by_cases q3 : k = 123
            · exact Or.inr (Or.inr (Or.inl q3))
            · by_cases q4 : k = 130
              · exact Or.inl q4
              · rw [if_neg q1, if_neg (fun z => q2 z.1), if_neg (fun z => q3 z.1), if_neg (fun z => q4 z.1)]
                exact Or.inr (Or.inr (Or.inr (Or.inr rfl)))
    · rw [a4 j, n35, n30]
      by_cases e : j = b + i
      · rw [if_neg (by omega), if_pos e, if_pos (by omega), e]
        congr 1
        omega
      · rw [if_neg e]
        by_cases g : b + (i + 1) ≤ j ∧ j < b + n
        · rw [if_pos g, if_pos (by omega)]
        · rw [if_neg g, if_neg (by omega)]
    · rw [a5 j, n35, n31]
      by_cases e : j = b + i
      · rw [if_neg (by omega), if_pos e, if_pos (by omega), e]
        congr 1
        omega
      · rw [if_neg e]
        by_cases g : b + (i + 1) ≤ j ∧ j < b + n
        · rw [if_pos g, if_pos (by omega)]
        · rw [if_neg g, if_neg (by omega)]
    · rw [a6 j, n35, n23]
      by_cases e : j = 18 + (b + i)
      · rw [if_neg (by omega), if_pos e, if_pos (by omega), e]
        congr 1
        omega
      · rw [if_neg e]
        by_cases g : 18 + (b + (i + 1)) ≤ j ∧ j < 18 + b + n
        · rw [if_pos g, if_pos (by omega)]
        · rw [if_neg g, if_neg (by omega)]
def PrN (V : VT) (B : Nat) (o1 o2 : Option (Int32 × Mem)) : Prop := Sm (fun r μ' r' ν' => r' = r ∧ ∃ c b, Rel V c b B μ' ν') o1 o2
theorem neg1_le {w : Nat} (hw : w ≤ 80) : (-1 - nI w : Int32) ≤ 0 := by
  have : ∀ w, w < 81 → (-1 - nI w : Int32) ≤ 0 := by decide
  exact this w (by omega)
theorem pr_witnesses (h : Rel V c b B μ ν) (hB : B < 2 ^ 30) : PrN V (B + 1) (fX11_witnesses_0 μ) (fX12_witnesses_122 ν) := by
  have h1 := m17 h 0
  obtain ⟨s, t, μ1, ν1, ht, hk, -, -, e1, e2, pc, pm, rt, -, -⟩ := open_both h1 (show 60 ≤ 80 by omega)
  unfold fX11_witnesses_0 fX5_readAll_11_1 fX12_witnesses_122 fX9_empty_1 fX9_isRead_1
  rw [lt_e, show fX9_open_1 (60 : Int32) μ = _ from e1, bnd_e, show fX12_beginText_122 (60 : Int32) (sI ν 122 17 0) = _ from e2, bnd_e, pc.1, pc.2.1, pm.2.1]
  by_cases q0 : t = 0
  · subst q0
    rw [if_pos rfl, bnd_e, if_neg n10, bnd_e, lt_e, bnd_e, if_pos (by decide), if_pos (show nI 0 = 0 from rfl)]
    exact sm_end ⟨rfl, c, b, Rel.mono rt (by omega)⟩
  · rw [if_neg (show ¬ nI 0 = nI t by rw [nI_eq (by omega) (by omega)]; omega), bnd_e, if_pos rfl, if_neg (nI_ne0 (by omega) (by omega))]
    rcases wit_in hk ht 9 FU 999 0 0 μ1 ν1 rfl (by decide) (by decide) (by have := rt.b8; omega) pc pm rt (by omega) (fun i hi => absurd hi (Nat.not_lt_zero _)) with ⟨w, μ2, ν2, hw, x1, x2, rt2⟩ | ⟨n, μ2, ν2, hn1, hn2, x1, x2, rt2, wd⟩
    · rw [show fX5_readAll_11_1_b16 FU 0 μ1 = _ from x1, show fX12_witnesses_122_b24 FU 0 1 ν1 = _ from x2, bnd_e, lt_e, bnd_e, if_pos (neg1_le hw)]
      exact sm_end ⟨rfl, c, b, Rel.mono rt2 (by omega)⟩
    · rw [show fX5_readAll_11_1_b16 FU 0 μ1 = _ from x1, show fX12_witnesses_122_b24 FU 0 1 ν1 = _ from x2, bnd_e, lt_e, bnd_e, if_neg (nI_nle (by omega) (by omega))]
      have w1 : gI (sI μ2 1 1 0) 11 3 = nI b := rt2.wit
      unfold fX4_hear_33
      rw [w1, nI_add]
      obtain ⟨μ3, y1, y2, y3, y4⟩ := cHear n FU b (sI μ2 1 1 0) (by omega) (fu_lt (by omega))
      obtain ⟨ν3, z1, z2, z3, z4, z5, z6, z7⟩ := mWit (b := b) hn2 n FU 0 ν2 (by omega) (fu_lt (by omega)) rt2.witM
      rw [y1, bnd_e, lt_e, show fX12_witnesses_122_b149 FU (nI n) 0 ν2 = _ from z1]
      have w3 : gI μ3 11 3 = nI b := by
        rcases y2 11 3 with ⟨z, -⟩ | z
        · omega
        · exact z.trans w1
      rw [w3, nI_add]
      have R := Rel.newWit (μ' := sI μ3 11 3 (nI (b + n))) (ν' := ν3) rt2 hn2 wd (fun k j => by
        by_cases q : k = 11 ∧ j = 3
        · exact Or.inr (Or.inl q)
        · rw [gI_sI, if_neg q]
          rcases y2 k j with z | z
          · exact Or.inl z
          · exact Or.inr (Or.inr z)) (fun k j => y3 k j) (fun j => (by rw [gI_sI, if_neg (by omega)]; exact y4 j)) rfl z2 z3 z4 z5 z6 z7
      obtain ⟨μ4, u1, u2, u3, u4, u5, u6⟩ := c_forget (μ := sI μ3 11 3 (nI (b + n)))
      rw [u1, bnd_e]
      refine sm_end ⟨rfl, c, b + n, R.forget u2 u3 (fun k j => ?_) (fun _ _ => rfl) u4 u5 u6 rfl rfl hB⟩
      rw [gI_sI, gI_sI]
      by_cases q1 : k = 122 ∧ j = 41
      · exact Or.inl ⟨q1.1, Or.inr q1.2⟩
      · by_cases q2 : k = 122 ∧ j = 29
        · exact Or.inl ⟨q2.1, Or.inl q2.2⟩
        · rw [if_neg q1, if_neg q2]; exact Or.inr rfl
end Pure48
