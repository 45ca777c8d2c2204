section Pure54
variable {V : VT} {c b B : Nat} {μ ν : Mem}
theorem g122 {m : Mem} {k j i : Nat} {v : Int32} (hk : k ≠ 122) : gI (sI m k j v) 122 i = gI m 122 i := by rw [gI_sI, if_neg (fun z => hk z.1.symm)]
theorem g135 {m : Mem} {k j i : Nat} {v : Int32} (hk : k ≠ 135) : gI (sI m k j v) 135 i = gI m 135 i := by rw [gI_sI, if_neg (fun z => hk z.1.symm)]
def manM (c i : Nat) (ν : Mem) : Mem := sI (sI (sI (sI (sI (sI (sI (sI (sI ν 124 (c + i) (gI ν 135 (5 * i))) 125 (c + i) (gI ν 135 (5 * i + 1))) 126 (c + i) (gI ν 135 (5 * i + 2))) 127 (c + i) (gI ν 135 (5 * i + 3))) 128 (c + i) (gI ν 135 (5 * i + 4))) 123 (c + i) 0) 123 (6 + (c + i)) 0) 123 (12 + (c + i)) 0) 122 1 (nI (c + i + 1))
theorem mMan {n i f : Nat} (hn : c + n ≤ 6) (hi : i < n) (h : gI ν 122 1 = nI (c + i)) (h2 : ∃ v, v < 2 ∧ gI ν 135 (5 * i + 2) = nI v) : fX12_prisoners_122_b101 (f + 1) (nI n) (nI i) ν = fX12_prisoners_122_b101 f (nI n) (nI (i + 1)) (manM c i ν) := by
  obtain ⟨v, hv, ev⟩ := h2
  have j2 : nI (5 * i) + 2 = nI (5 * i + 2) := nI_add _ 2
  have j3 : nI (5 * i) + 3 = nI (5 * i + 3) := nI_add _ 3
  have j4 : nI (5 * i) + 4 = nI (5 * i + 4) := nI_add _ 4
  have t1 : vp_nar .boolean 1 = nI 1 := vbt.1
  have t0 : vp_nar .boolean 0 = nI 0 := vbt.2
  rw [fX12_prisoners_122_b101, if_neg (nI_ge (by omega) (by omega))]
  unfold manM
  obtain rfl | rfl : v = 0 ∨ v = 1 := by omega
  · simp (disch := omega) only [i5, nI_1, j2, j3, j4, h, gd_in, ix_nI, lt_e, g122, g135, ev, a6, a12, if_neg (show ¬ nI 0 = 1 by decide), fX12_prisoners_122_b173, t0]
  · simp (disch := omega) only [i5, nI_1, j2, j3, j4, h, gd_in, ix_nI, lt_e, g122, g135, ev, a6, a12, if_pos (show nI 1 = 1 from rfl), fX12_prisoners_122_b173, t1]
theorem manM_a {i d : Nat} (hd : d < 5) (j : Nat) : gI (manM c i ν) (124 + d) j = if j = c + i then gI ν 135 (5 * i + d) else gI ν (124 + d) j := by
  unfold manM
  rw [gI_sI, if_neg (by omega), gI_sI, if_neg (by omega), gI_sI, if_neg (by omega), gI_sI, if_neg (by omega), gI_sI, gI_sI, gI_sI, gI_sI, gI_sI]
  by_cases e : j = c + i
  · rw [if_pos e]
    obtain rfl | rfl | rfl | rfl | rfl : d = 0 ∨ d = 1 ∨ d = 2 ∨ d = 3 ∨ d = 4 := by omega
    · rw [if_neg (by omega), if_neg (by omega), if_neg (by omega), if_neg (by omega), if_pos ⟨rfl, e⟩]; rfl
    · rw [if_neg (by omega), if_neg (by omega), if_neg (by omega), if_pos ⟨rfl, e⟩]
    · rw [if_neg (by omega), if_neg (by omega), if_pos ⟨rfl, e⟩]
    · rw [if_neg (by omega), if_pos ⟨rfl, e⟩]
    · rw [if_pos ⟨rfl, e⟩]
  · rw [if_neg e, if_neg (fun z => e z.2), if_neg (fun z => e z.2), if_neg (fun z => e z.2), if_neg (fun z => e z.2), if_neg (fun z => e z.2)]
theorem manM_h {i : Nat} (j : Nat) : gI (manM c i ν) 123 j = if j = c + i ∨ j = 6 + (c + i) ∨ j = 12 + (c + i) then 0 else gI ν 123 j := by
  unfold manM
  rw [gI_sI, if_neg (by omega), gI_sI]
  by_cases e1 : j = 12 + (c + i)
  · rw [if_pos ⟨rfl, e1⟩, if_pos (by omega)]
  · rw [if_neg (fun z => e1 z.2), gI_sI]
    by_cases e2 : j = 6 + (c + i)
    · rw [if_pos ⟨rfl, e2⟩, if_pos (by omega)]
    · rw [if_neg (fun z => e2 z.2), gI_sI]
      by_cases e3 : j = c + i
      · rw [if_pos ⟨rfl, e3⟩, if_pos (by omega)]
      · rw [if_neg (fun z => e3 z.2), if_neg (by omega)]
        rfl
theorem manM_o {i k : Nat} (j : Nat) : (123 ≤ k ∧ k ≤ 128) ∨ (k = 122 ∧ j = 1) ∨ gI (manM c i ν) k j = gI ν k j := by
  by_cases q : 123 ≤ k ∧ k ≤ 128
  · exact Or.inl q
  · by_cases q2 : k = 122 ∧ j = 1
    · exact Or.inr (Or.inl q2)
    · unfold manM
      rw [gI_sI, if_neg q2, gI_sI, if_neg (by omega), gI_sI, if_neg (by omega), gI_sI, if_neg (by omega), gI_sI, if_neg (by omega), gI_sI, if_neg (by omega), gI_sI, if_neg (by omega), gI_sI, if_neg (by omega), gI_sI, if_neg (by omega)]
      exact Or.inr (Or.inr rfl)
theorem mMen {n : Nat} (hn : c + n ≤ 6) : ∀ (m f i : Nat) (ν : Mem), i + m = n → m < f → gI ν 122 1 = nI (c + i) → (∀ x, x < n → ∃ v, v < 2 ∧ gI ν 135 (5 * x + 2) = nI v) → ∃ ν', fX12_prisoners_122_b101 f (nI n) (nI i) ν = some (nI n, sI (sI ν' 122 29 0) 122 41 (gI ν' 122 41 + 1)) ∧ (∀ k j, (123 ≤ k ∧ k ≤ 128) ∨ (k = 122 ∧ j = 1) ∨ gI ν' k j = gI ν k j) ∧ (∀ k j, gL ν' k j = gL ν k j) ∧ (∀ d, d < 5 → ∀ j, gI ν' (124 + d) j = if c + i ≤ j ∧ j < c + n then gI ν 135 (5 * (j - c) + d) else gI ν (124 + d) j) ∧ (∀ j, gI ν' 123 j = if (c + i ≤ j ∧ j < c + n) ∨ (6 + (c + i) ≤ j ∧ j < 6 + c + n) ∨ (12 + (c + i) ≤ j ∧ j < 12 + c + n) then 0 else gI ν 123 j) ∧ gI ν' 122 1 = nI (c + n) := by
  intro m
  induction m with
  | zero =>
    intro f i ν h1 h2 h hv
    obtain ⟨f, rfl⟩ := Nat.exists_eq_succ_of_ne_zero (show f ≠ 0 by omega)
    obtain rfl : i = n := by omega
    refine ⟨ν, ?_, fun _ _ => Or.inr (Or.inr rfl), fun _ _ => rfl, fun d _ j => by rw [if_neg (by omega)], fun j => by rw [if_neg (by omega)], h⟩
    rw [fX12_prisoners_122_b101, if_pos (nI_le (by omega) (by omega)), lt_e, lt_e]
    rfl
  | succ m ih =>
    intro f i ν h1 h2 h hv
    obtain ⟨f, rfl⟩ := Nat.exists_eq_succ_of_ne_zero (show f ≠ 0 by omega)
    have n35 : ∀ j, gI (manM c i ν) 135 j = gI ν 135 j := fun j => by
      rcases manM_o (c := c) (ν := ν) (i := i) (k := 135) j with z | z | z
      · omega
      · omega
      · exact z
    obtain ⟨ν', a1, a2, a3, a4, a5, a6⟩ := ih f (i + 1) (manM c i ν) (by omega) (by omega) (by unfold manM; rfl) (fun x hx => by rw [n35]; exact hv x hx)
    refine ⟨ν', ?_, fun k j => ?_, fun k j => (a3 k j).trans rfl, fun d hd j => ?_, fun j => ?_, a6⟩
    · rw [mMan hn (by omega) h (hv i (by omega))]
      exact a1
    · rcases a2 k j with z | z | z
      · exact Or.inl z
      · exact Or.inr (Or.inl z)
      · rw [z]; exact manM_o j
    · rw [a4 d hd j, n35, manM_a hd]
      by_cases e : j = c + i
      · rw [if_neg (by omega), if_pos e, if_pos (by omega), e]
        congr 1
        omega
      · rw [if_neg e]
        by_cases g : c + (i + 1) ≤ j ∧ j < c + n
        · rw [if_pos g, if_pos (by omega)]
        · rw [if_neg g, if_neg (by omega)]
    · rw [a5 j, manM_h]
      by_cases e : j = c + i ∨ j = 6 + (c + i) ∨ j = 12 + (c + i)
      · rw [if_pos e, if_pos (show (c + i ≤ j ∧ j < c + n) ∨ (6 + (c + i) ≤ j ∧ j < 6 + c + n) ∨ (12 + (c + i) ≤ j ∧ j < 12 + c + n) by omega)]
        by_cases g : (c + (i + 1) ≤ j ∧ j < c + n) ∨ (6 + (c + (i + 1)) ≤ j ∧ j < 6 + c + n) ∨ (12 + (c + (i + 1)) ≤ j ∧ j < 12 + c + n)
        · rw [if_pos g]
        · rw [if_neg g]
      · rw [if_neg e]
        by_cases g : (c + (i + 1) ≤ j ∧ j < c + n) ∨ (6 + (c + (i + 1)) ≤ j ∧ j < 6 + c + n) ∨ (12 + (c + (i + 1)) ≤ j ∧ j < 12 + c + n)
        · rw [if_pos g, if_pos (by omega)]
        · rw [if_neg g, if_neg (by omega)]
end Pure54
