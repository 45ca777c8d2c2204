section Pure18
variable {V : VT} {c b B : Nat} {μ ν : Mem}
def tkM (μ : Mem) (S D : Nat) : Mem := sI (sI (sC (sC (sC (sC μ (S + 1) (D + 1) 0 0 6) (S + 2) (D + 2) 0 0 6) (S + 3) (D + 3) 0 0 6) (S + 4) (D + 4) 0 0 8) D 4 (gI (sC (sC (sC (sC μ (S + 1) (D + 1) 0 0 6) (S + 2) (D + 2) 0 0 6) (S + 3) (D + 3) 0 0 6) (S + 4) (D + 4) 0 0 8) S 4)) D 5 0
theorem tkM_o {S D k : Nat} (j : Nat) (h : k < D ∨ D + 4 < k) : gI (tkM μ S D) k j = gI μ k j := by
  unfold tkM
  rw [gI_sI, if_neg (by omega), gI_sI, if_neg (by omega), gI_sC, if_neg (by omega), gI_sC, if_neg (by omega), gI_sC, if_neg (by omega), gI_sC, if_neg (by omega)]
theorem tkM_L {S D : Nat} (k j : Nat) : gL (tkM μ S D) k j = gL μ k j := rfl
theorem tkM_hl {S D : Nat} (h : S + 4 < D ∨ D + 4 < S) {j : Nat} (hj : j < 27) : hl (tkM μ S D) D j = hl μ S j := by
  unfold hl tkM
  by_cases q1 : j < 6
  · rw [if_pos q1, if_pos q1, gI_sI, if_neg (by omega), gI_sI, if_neg (by omega), gI_sC, if_neg (by omega), gI_sC, if_neg (by omega), gI_sC, if_neg (by omega), gI_sC, if_pos rfl, if_pos (by omega)]
    congr 1
    omega
  · rw [if_neg q1, if_neg q1]
    by_cases q2 : j < 12
    · rw [if_pos q2, if_pos q2, gI_sI, if_neg (by omega), gI_sI, if_neg (by omega), gI_sC, if_neg (by omega), gI_sC, if_neg (by omega), gI_sC, if_pos rfl, if_pos (by omega), gI_sC, if_neg (by omega)]
      congr 1
      omega
    · rw [if_neg q2, if_neg q2]
      by_cases q3 : j < 18
      · rw [if_pos q3, if_pos q3, gI_sI, if_neg (by omega), gI_sI, if_neg (by omega), gI_sC, if_neg (by omega), gI_sC, if_pos rfl, if_pos (by omega), gI_sC, if_neg (by omega), gI_sC, if_neg (by omega)]
        congr 1
        omega
      · rw [if_neg q3, if_neg q3]
        by_cases q4 : j < 26
        · rw [if_pos q4, if_pos q4, gI_sI, if_neg (by omega), gI_sI, if_neg (by omega), gI_sC, if_pos rfl, if_pos (by omega), gI_sC, if_neg (by omega), gI_sC, if_neg (by omega), gI_sC, if_neg (by omega)]
          congr 1
          omega
        · rw [if_neg q4, if_neg q4, gI_sI, if_neg (by omega), gI_sI, if_pos ⟨rfl, rfl⟩, gI_sC, if_neg (by omega), gI_sC, if_neg (by omega), gI_sC, if_neg (by omega), gI_sC, if_neg (by omega)]
theorem cp6 : cpOK 0 0 6 6 6 = true := by decide
theorem cp8 : cpOK 0 0 8 8 8 = true := by decide
theorem ix0 : ix (0 : Int32) = 0 := by decide
theorem ix6 : ix (6 : Int32) = 6 := by decide
theorem ix8 : ix (8 : Int32) = 8 := by decide
theorem take_43_33 : fX4_take_43_33 μ = some ((), tkM μ 33 43) := by
  unfold fX4_take_43_33
  rw [cp6, cp8, ix0, ix6, ix8]
  rfl
theorem take_48_33 : fX4_take_48_33 μ = some ((), tkM μ 33 48) := by
  unfold fX4_take_48_33
  rw [cp6, cp8, ix0, ix6, ix8]
  rfl
theorem take_53_33 : fX4_take_53_33 μ = some ((), tkM μ 33 53) := by
  unfold fX4_take_53_33
  rw [cp6, cp8, ix0, ix6, ix8]
  rfl
theorem take_58_33 : fX4_take_58_33 μ = some ((), tkM μ 33 58) := by
  unfold fX4_take_58_33
  rw [cp6, cp8, ix0, ix6, ix8]
  rfl
theorem take_63_33 : fX4_take_63_33 μ = some ((), tkM μ 33 63) := by
  unfold fX4_take_63_33
  rw [cp6, cp8, ix0, ix6, ix8]
  rfl
theorem take_68_33 : fX4_take_68_33 μ = some ((), tkM μ 33 68) := by
  unfold fX4_take_68_33
  rw [cp6, cp8, ix0, ix6, ix8]
  rfl
theorem take_73_33 : fX4_take_73_33 μ = some ((), tkM μ 33 73) := by
  unfold fX4_take_73_33
  rw [cp6, cp8, ix0, ix6, ix8]
  rfl
theorem take_78_33 : fX4_take_78_33 μ = some ((), tkM μ 33 78) := by
  unfold fX4_take_78_33
  rw [cp6, cp8, ix0, ix6, ix8]
  rfl
theorem take_83_33 : fX4_take_83_33 μ = some ((), tkM μ 33 83) := by
  unfold fX4_take_83_33
  rw [cp6, cp8, ix0, ix6, ix8]
  rfl
theorem take_88_33 : fX4_take_88_33 μ = some ((), tkM μ 33 88) := by
  unfold fX4_take_88_33
  rw [cp6, cp8, ix0, ix6, ix8]
  rfl
theorem take_93_33 : fX4_take_93_33 μ = some ((), tkM μ 33 93) := by
  unfold fX4_take_93_33
  rw [cp6, cp8, ix0, ix6, ix8]
  rfl
theorem take_98_33 : fX4_take_98_33 μ = some ((), tkM μ 33 98) := by
  unfold fX4_take_98_33
  rw [cp6, cp8, ix0, ix6, ix8]
  rfl
theorem take_103_33 : fX4_take_103_33 μ = some ((), tkM μ 33 103) := by
  unfold fX4_take_103_33
  rw [cp6, cp8, ix0, ix6, ix8]
  rfl
theorem take_108_33 : fX4_take_108_33 μ = some ((), tkM μ 33 108) := by
  unfold fX4_take_108_33
  rw [cp6, cp8, ix0, ix6, ix8]
  rfl
theorem take_113_33 : fX4_take_113_33 μ = some ((), tkM μ 33 113) := by
  unfold fX4_take_113_33
  rw [cp6, cp8, ix0, ix6, ix8]
  rfl
theorem take_38_33 : fX4_take_38_33 μ = some ((), tkM μ 33 38) := by
  unfold fX4_take_38_33
  rw [cp6, cp8, ix0, ix6, ix8]
  rfl
theorem take_33_43 : fX4_take_33_43 μ = some ((), tkM μ 43 33) := by
  unfold fX4_take_33_43
  rw [cp6, cp8, ix0, ix6, ix8]
  rfl
theorem take_33_48 : fX4_take_33_48 μ = some ((), tkM μ 48 33) := by
  unfold fX4_take_33_48
  rw [cp6, cp8, ix0, ix6, ix8]
  rfl
theorem take_33_53 : fX4_take_33_53 μ = some ((), tkM μ 53 33) := by
  unfold fX4_take_33_53
  rw [cp6, cp8, ix0, ix6, ix8]
  rfl
theorem take_33_58 : fX4_take_33_58 μ = some ((), tkM μ 58 33) := by
  unfold fX4_take_33_58
  rw [cp6, cp8, ix0, ix6, ix8]
  rfl
theorem take_33_63 : fX4_take_33_63 μ = some ((), tkM μ 63 33) := by
  unfold fX4_take_33_63
  rw [cp6, cp8, ix0, ix6, ix8]
  rfl
theorem take_33_68 : fX4_take_33_68 μ = some ((), tkM μ 68 33) := by
  unfold fX4_take_33_68
  rw [cp6, cp8, ix0, ix6, ix8]
  rfl
theorem take_33_73 : fX4_take_33_73 μ = some ((), tkM μ 73 33) := by
  unfold fX4_take_33_73
  rw [cp6, cp8, ix0, ix6, ix8]
  rfl
theorem take_33_78 : fX4_take_33_78 μ = some ((), tkM μ 78 33) := by
  unfold fX4_take_33_78
  rw [cp6, cp8, ix0, ix6, ix8]
  rfl
theorem take_33_83 : fX4_take_33_83 μ = some ((), tkM μ 83 33) := by
  unfold fX4_take_33_83
  rw [cp6, cp8, ix0, ix6, ix8]
  rfl
theorem take_33_88 : fX4_take_33_88 μ = some ((), tkM μ 88 33) := by
  unfold fX4_take_33_88
  rw [cp6, cp8, ix0, ix6, ix8]
  rfl
theorem take_33_93 : fX4_take_33_93 μ = some ((), tkM μ 93 33) := by
  unfold fX4_take_33_93
  rw [cp6, cp8, ix0, ix6, ix8]
  rfl
theorem take_33_98 : fX4_take_33_98 μ = some ((), tkM μ 98 33) := by
  unfold fX4_take_33_98
  rw [cp6, cp8, ix0, ix6, ix8]
  rfl
theorem take_33_103 : fX4_take_33_103 μ = some ((), tkM μ 103 33) := by
  unfold fX4_take_33_103
  rw [cp6, cp8, ix0, ix6, ix8]
  rfl
theorem take_33_108 : fX4_take_33_108 μ = some ((), tkM μ 108 33) := by
  unfold fX4_take_33_108
  rw [cp6, cp8, ix0, ix6, ix8]
  rfl
theorem take_33_113 : fX4_take_33_113 μ = some ((), tkM μ 113 33) := by
  unfold fX4_take_33_113
  rw [cp6, cp8, ix0, ix6, ix8]
  rfl
theorem c_note {x : Nat} (hx : x < 13) (h : gI μ 29 1 = nI x) : fX6_note_29_33 μ = some ((), tkM μ 33 (43 + 5 * x)) := by
  unfold fX6_note_29_33
  rw [h]
  obtain rfl | rfl | rfl | rfl | rfl | rfl | rfl | rfl | rfl | rfl | rfl | rfl | rfl : x = 0 ∨ x = 1 ∨ x = 2 ∨ x = 3 ∨ x = 4 ∨ x = 5 ∨ x = 6 ∨ x = 7 ∨ x = 8 ∨ x = 9 ∨ x = 10 ∨ x = 11 ∨ x = 12 := by omega
  · rw [if_pos (show nI 0 = 0 from rfl), take_43_33, bnd_e]
  · rw [if_neg (show ¬ nI 1 = 0 by decide), if_pos (show nI 1 = 1 from rfl), take_48_33, bnd_e]
  · rw [if_neg (show ¬ nI 2 = 0 by decide), if_neg (show ¬ nI 2 = 1 by decide), if_pos (show nI 2 = 2 from rfl), take_53_33, bnd_e]
  · rw [if_neg (show ¬ nI 3 = 0 by decide), if_neg (show ¬ nI 3 = 1 by decide), if_neg (show ¬ nI 3 = 2 by decide), if_pos (show nI 3 = 3 from rfl), take_58_33, bnd_e]
  · rw [if_neg (show ¬ nI 4 = 0 by decide), if_neg (show ¬ nI 4 = 1 by decide), if_neg (show ¬ nI 4 = 2 by decide), if_neg (show ¬ nI 4 = 3 by decide), if_pos (show nI 4 = 4 from rfl), take_63_33, bnd_e]
  · rw [if_neg (show ¬ nI 5 = 0 by decide), if_neg (show ¬ nI 5 = 1 by decide), if_neg (show ¬ nI 5 = 2 by decide), if_neg (show ¬ nI 5 = 3 by decide), if_neg (show ¬ nI 5 = 4 by decide), if_pos (show nI 5 = 5 from rfl), take_68_33, bnd_e]
  · rw [if_neg (show ¬ nI 6 = 0 by decide), if_neg (show ¬ nI 6 = 1 by decide), if_neg (show ¬ nI 6 = 2 by decide), if_neg (show ¬ nI 6 = 3 by decide), if_neg (show ¬ nI 6 = 4 by decide), if_neg (show ¬ nI 6 = 5 by decide), if_pos (show nI 6 = 6 from rfl), take_73_33, bnd_e]
  · rw [if_neg (show ¬ nI 7 = 0 by decide), if_neg (show ¬ nI 7 = 1 by decide), if_neg (show ¬ nI 7 = 2 by decide), if_neg (show ¬ nI 7 = 3 by decide), if_neg (show ¬ nI 7 = 4 by decide), if_neg (show ¬ nI 7 = 5 by decide), if_neg (show ¬ nI 7 = 6 by decide), if_pos (show nI 7 = 7 from rfl), take_78_33, bnd_e]
  · rw [if_neg (show ¬ nI 8 = 0 by decide), if_neg (show ¬ nI 8 = 1 by decide), if_neg (show ¬ nI 8 = 2 by decide), if_neg (show ¬ nI 8 = 3 by decide), if_neg (show ¬ nI 8 = 4 by decide), if_neg (show ¬ nI 8 = 5 by decide), if_neg (show ¬ nI 8 = 6 by decide), if_neg (show ¬ nI 8 = 7 by decide), if_pos (show nI 8 = 8 from rfl), take_83_33, bnd_e]
  · rw [if_neg (show ¬ nI 9 = 0 by decide), if_neg (show ¬ nI 9 = 1 by decide), if_neg (show ¬ nI 9 = 2 by decide), if_neg (show ¬ nI 9 = 3 by decide), if_neg (show ¬ nI 9 = 4 by decide), if_neg (show ¬ nI 9 = 5 by decide), if_neg (show ¬ nI 9 = 6 by decide), if_neg (show ¬ nI 9 = 7 by decide), if_neg (show ¬ nI 9 = 8 by decide), if_pos (show nI 9 = 9 from rfl), take_88_33, bnd_e]
  · rw [if_neg (show ¬ nI 10 = 0 by decide), if_neg (show ¬ nI 10 = 1 by decide), if_neg (show ¬ nI 10 = 2 by decide), if_neg (show ¬ nI 10 = 3 by decide), if_neg (show ¬ nI 10 = 4 by decide), if_neg (show ¬ nI 10 = 5 by decide), if_neg (show ¬ nI 10 = 6 by decide), if_neg (show ¬ nI 10 = 7 by decide), if_neg (show ¬ nI 10 = 8 by decide), if_neg (show ¬ nI 10 = 9 by decide), if_pos (show nI 10 = 10 from rfl), take_93_33, bnd_e]
  · rw [if_neg (show ¬ nI 11 = 0 by decide), if_neg (show ¬ nI 11 = 1 by decide), if_neg (show ¬ nI 11 = 2 by decide), if_neg (show ¬ nI 11 = 3 by decide), if_neg (show ¬ nI 11 = 4 by decide), if_neg (show ¬ nI 11 = 5 by decide), if_neg (show ¬ nI 11 = 6 by decide), if_neg (show ¬ nI 11 = 7 by decide), if_neg (show ¬ nI 11 = 8 by decide), if_neg (show ¬ nI 11 = 9 by decide), if_neg (show ¬ nI 11 = 10 by decide), if_pos (show nI 11 = 11 from rfl), take_98_33, bnd_e]
  · rw [if_neg (show ¬ nI 12 = 0 by decide), if_neg (show ¬ nI 12 = 1 by decide), if_neg (show ¬ nI 12 = 2 by decide), if_neg (show ¬ nI 12 = 3 by decide), if_neg (show ¬ nI 12 = 4 by decide), if_neg (show ¬ nI 12 = 5 by decide), if_neg (show ¬ nI 12 = 6 by decide), if_neg (show ¬ nI 12 = 7 by decide), if_neg (show ¬ nI 12 = 8 by decide), if_neg (show ¬ nI 12 = 9 by decide), if_neg (show ¬ nI 12 = 10 by decide), if_neg (show ¬ nI 12 = 11 by decide), if_pos (show nI 12 = 12 from rfl), take_103_33, bnd_e]
theorem nz13 : (!((13 : Int32) == 0)) = true := by decide
theorem c_seal {n x : Nat} (hn : n ≤ 12) (hx : x < 13) (h1 : gI μ 29 1 = nI x) (h2 : gI μ 29 2 = nI n) : fX6_seal_29 μ = some ((), sI (sI μ 29 1 (nI ((x + 1) % 13))) 29 2 (nI (min 12 (n + 1)))) := by
  unfold fX6_seal_29
  rw [nz13, gd_e, lt_e, lt_e, h1, nI_1, show (13 : Int32) = nI 13 from rfl, nI_mod (by omega) (by decide) (by decide), gI_sI, if_neg (by omega), h2, nI_1]
  have e : imin 12 (nI (n + 1)) = nI (min 12 (n + 1)) := by
    unfold imin
    by_cases q : n + 1 < 12
    · rw [if_pos (show nI (n + 1) < 12 from nI_lt (b := 12) q (by decide)), Nat.min_eq_right (by omega)]
    · rw [if_neg (show ¬ nI (n + 1) < 12 from nI_nlt (b := 12) (by omega) (by omega)), Nat.min_eq_left (by omega)]
      rfl
  rw [e]
theorem c_restore {n x : Nat} (hn0 : 0 < n) (hn : n ≤ 12) (hx : x < 13) (h1 : gI μ 29 1 = nI x) (h2 : gI μ 29 2 = nI n) : fX6_restore_29_33 μ = some (1, tkM (sI (sI μ 29 1 (nI ((x + 12) % 13))) 29 2 (nI (n - 1))) (43 + 5 * ((x + 12) % 13)) 33) := by
  unfold fX6_restore_29_33
  obtain ⟨y, hy⟩ : ∃ y, y = (x + 12) % 13 := ⟨_, rfl⟩
  have hy13 : y < 13 := by omega
  have e1 : nI x + 13 - 1 = nI (x + 12) := by rw [show (13 : Int32) = nI 13 from rfl, nI_add]; exact nI_pred (x + 12)
  have e2 : nI n - 1 = nI (n - 1) := by
    obtain ⟨n, rfl⟩ := Nat.exists_eq_succ_of_ne_zero (show n ≠ 0 by omega)
    exact nI_pred n
  have e3 : gI (sI μ 29 1 (nI y)) 29 2 = nI n := by rw [gI_sI, if_neg (by omega), h2]
  have e4 : gI (sI (sI μ 29 1 (nI y)) 29 2 (nI (n - 1))) 29 1 = nI y := by rw [gI_sI, if_neg (by omega), gI_sI, if_pos ⟨rfl, rfl⟩]
  rw [h2, if_neg (nI_ne0 hn0 (by omega)), nz13, gd_e, lt_e, lt_e, h1, e1, show (13 : Int32) = nI 13 from rfl, nI_mod (by omega) (by decide) (by decide), ← hy, e3, e2, e4]
  clear hy e3 e4
  obtain rfl | rfl | rfl | rfl | rfl | rfl | rfl | rfl | rfl | rfl | rfl | rfl | rfl : y = 0 ∨ y = 1 ∨ y = 2 ∨ y = 3 ∨ y = 4 ∨ y = 5 ∨ y = 6 ∨ y = 7 ∨ y = 8 ∨ y = 9 ∨ y = 10 ∨ y = 11 ∨ y = 12 := by omega
  · rw [if_pos (show nI 0 = 0 from rfl), take_33_43, bnd_e]
  · rw [if_neg (show ¬ nI 1 = 0 by decide), if_pos (show nI 1 = 1 from rfl), take_33_48, bnd_e]
  · rw [if_neg (show ¬ nI 2 = 0 by decide), if_neg (show ¬ nI 2 = 1 by decide), if_pos (show nI 2 = 2 from rfl), take_33_53, bnd_e]
  · rw [if_neg (show ¬ nI 3 = 0 by decide), if_neg (show ¬ nI 3 = 1 by decide), if_neg (show ¬ nI 3 = 2 by decide), if_pos (show nI 3 = 3 from rfl), take_33_58, bnd_e]
  · rw [if_neg (show ¬ nI 4 = 0 by decide), if_neg (show ¬ nI 4 = 1 by decide), if_neg (show ¬ nI 4 = 2 by decide), if_neg (show ¬ nI 4 = 3 by decide), if_pos (show nI 4 = 4 from rfl), take_33_63, bnd_e]
  · rw [if_neg (show ¬ nI 5 = 0 by decide), if_neg (show ¬ nI 5 = 1 by decide), if_neg (show ¬ nI 5 = 2 by decide), if_neg (show ¬ nI 5 = 3 by decide), if_neg (show ¬ nI 5 = 4 by decide), if_pos (show nI 5 = 5 from rfl), take_33_68, bnd_e]
  · rw [if_neg (show ¬ nI 6 = 0 by decide), if_neg (show ¬ nI 6 = 1 by decide), if_neg (show ¬ nI 6 = 2 by decide), if_neg (show ¬ nI 6 = 3 by decide), if_neg (show ¬ nI 6 = 4 by decide), if_neg (show ¬ nI 6 = 5 by decide), if_pos (show nI 6 = 6 from rfl), take_33_73, bnd_e]
  · rw [if_neg (show ¬ nI 7 = 0 by decide), if_neg (show ¬ nI 7 = 1 by decide), if_neg (show ¬ nI 7 = 2 by decide), if_neg (show ¬ nI 7 = 3 by decide), if_neg (show ¬ nI 7 = 4 by decide), if_neg (show ¬ nI 7 = 5 by decide), if_neg (show ¬ nI 7 = 6 by decide), if_pos (show nI 7 = 7 from rfl), take_33_78, bnd_e]
  · rw [if_neg (show ¬ nI 8 = 0 by decide), if_neg (show ¬ nI 8 = 1 by decide), if_neg (show ¬ nI 8 = 2 by decide), if_neg (show ¬ nI 8 = 3 by decide), if_neg (show ¬ nI 8 = 4 by decide), if_neg (show ¬ nI 8 = 5 by decide), if_neg (show ¬ nI 8 = 6 by decide), if_neg (show ¬ nI 8 = 7 by decide), if_pos (show nI 8 = 8 from rfl), take_33_83, bnd_e]
  · rw [if_neg (show ¬ nI 9 = 0 by decide), if_neg (show ¬ nI 9 = 1 by decide), if_neg (show ¬ nI 9 = 2 by decide), if_neg (show ¬ nI 9 = 3 by decide), if_neg (show ¬ nI 9 = 4 by decide), if_neg (show ¬ nI 9 = 5 by decide), if_neg (show ¬ nI 9 = 6 by decide), if_neg (show ¬ nI 9 = 7 by decide), if_neg (show ¬ nI 9 = 8 by decide), if_pos (show nI 9 = 9 from rfl), take_33_88, bnd_e]
  · rw [if_neg (show ¬ nI 10 = 0 by decide), if_neg (show ¬ nI 10 = 1 by decide), if_neg (show ¬ nI 10 = 2 by decide), if_neg (show ¬ nI 10 = 3 by decide), if_neg (show ¬ nI 10 = 4 by decide), if_neg (show ¬ nI 10 = 5 by decide), if_neg (show ¬ nI 10 = 6 by decide), if_neg (show ¬ nI 10 = 7 by decide), if_neg (show ¬ nI 10 = 8 by decide), if_neg (show ¬ nI 10 = 9 by decide), if_pos (show nI 10 = 10 from rfl), take_33_93, bnd_e]
  · rw [if_neg (show ¬ nI 11 = 0 by decide), if_neg (show ¬ nI 11 = 1 by decide), if_neg (show ¬ nI 11 = 2 by decide), if_neg (show ¬ nI 11 = 3 by decide), if_neg (show ¬ nI 11 = 4 by decide), if_neg (show ¬ nI 11 = 5 by decide), if_neg (show ¬ nI 11 = 6 by decide), if_neg (show ¬ nI 11 = 7 by decide), if_neg (show ¬ nI 11 = 8 by decide), if_neg (show ¬ nI 11 = 9 by decide), if_neg (show ¬ nI 11 = 10 by decide), if_pos (show nI 11 = 11 from rfl), take_33_98, bnd_e]
  · rw [if_neg (show ¬ nI 12 = 0 by decide), if_neg (show ¬ nI 12 = 1 by decide), if_neg (show ¬ nI 12 = 2 by decide), if_neg (show ¬ nI 12 = 3 by decide), if_neg (show ¬ nI 12 = 4 by decide), if_neg (show ¬ nI 12 = 5 by decide), if_neg (show ¬ nI 12 = 6 by decide), if_neg (show ¬ nI 12 = 7 by decide), if_neg (show ¬ nI 12 = 8 by decide), if_neg (show ¬ nI 12 = 9 by decide), if_neg (show ¬ nI 12 = 10 by decide), if_neg (show ¬ nI 12 = 11 by decide), if_pos (show nI 12 = 12 from rfl), take_33_103, bnd_e]
end Pure18
