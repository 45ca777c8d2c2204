section Pure57
variable {V : VT} {c b B : Nat} {μ ν : Mem} {s : Nat → Nat} {t a : Nat}
def ltr (k : Nat) : Nat := if k = 0 then 108 else if k = 1 then 111 else if k = 2 then 97 else if k = 3 then 106 else 110
def AD (n : Nat) (μ ν : Mem) : Prop := ∀ i, i < n → ∃ k w v, k ≤ 4 ∧ w ≤ 9 ∧ v ≤ 99 ∧ gI μ 16 i = nI k ∧ gI μ 17 i = nI w ∧ gI μ 18 i = nI v ∧ gI ν 141 (3 * i) = nI (ltr k) ∧ (k ≠ 4 → gI ν 141 (3 * i + 1) = nI w) ∧ (k = 4 → gI ν 141 (3 * i + 1) = nI v) ∧ (k ≤ 1 → gI ν 141 (3 * i + 2) = nI v)
theorem so1_or (x : Nat) : (so1 x = -1 ∧ x ≠ 108 ∧ x ≠ 111 ∧ x ≠ 97 ∧ x ≠ 106 ∧ x ≠ 110) ∨ ∃ k, k ≤ 4 ∧ x = ltr k ∧ so1 x = nI k := by
  unfold so1
  by_cases q0 : x = 108
  · rw [if_pos q0]; exact Or.inr ⟨0, by omega, q0, rfl⟩
  · by_cases q1 : x = 111
    · rw [if_neg q0, if_pos q1]; exact Or.inr ⟨1, by omega, q1, rfl⟩
    · by_cases q2 : x = 97
      · rw [if_neg q0, if_neg q1, if_pos q2]; exact Or.inr ⟨2, by omega, q2, rfl⟩
      · by_cases q3 : x = 106
        · rw [if_neg q0, if_neg q1, if_neg q2, if_pos q3]; exact Or.inr ⟨3, by omega, q3, rfl⟩
        · by_cases q4 : x = 110
          · rw [if_neg q0, if_neg q1, if_neg q2, if_neg q3, if_pos q4]; exact Or.inr ⟨4, by omega, q4, rfl⟩
          · rw [if_neg q0, if_neg q1, if_neg q2, if_neg q3, if_neg q4]; exact Or.inl ⟨rfl, q0, q1, q2, q3, q4⟩
def oP (n k j : Nat) : Bool := (k == 1 && j == 2) || ((Nat.ble 16 k && Nat.ble k 18) && j == n)
def oQ (n k j : Nat) : Bool := wB k j || (k == 141 && Nat.ble (3 * n) j)
theorem oP_sc {n k j : Nat} (h : oP n k j = true) : scC k j = true := by
  unfold oP at h
  simp only [Bool.or_eq_true, Bool.and_eq_true, beq_iff_eq] at h
  rcases h with ⟨rfl, rfl⟩ | ⟨⟨h1, h2⟩, -⟩
  · rfl
  · have l1 := Nat.le_of_ble_eq_true h1
    have l2 := Nat.le_of_ble_eq_true h2
    obtain rfl | rfl | rfl : k = 16 ∨ k = 17 ∨ k = 18 := by omega
    all_goals rfl
theorem oQ_sc {n k j : Nat} (h : oQ n k j = true) : scM k j = true := by
  unfold oQ at h
  rw [Bool.or_eq_true, Bool.and_eq_true, beq_iff_eq] at h
  rcases h with h | ⟨rfl, -⟩
  · exact wB_sc h
  · rfl
theorem oP_k {n k : Nat} (h : 16 ≤ k ∧ k ≤ 18) : oP n k n = true := by
  unfold oP; rw [Nat.ble_eq_true_of_le h.1, Nat.ble_eq_true_of_le h.2]; simp
theorem oQ_k {n j : Nat} (h : 3 * n ≤ j) : oQ n 141 j = true := by unfold oQ wB; rw [Nat.ble_eq_true_of_le h]; rfl
theorem oP_old {n k j : Nat} (h : 16 ≤ k) (hj : j ≠ n) : oP n k j = false := by
  unfold oP
  rw [show (k == 1) = false from by simp; omega, show (j == n) = false from by simpa using hj]
  simp
theorem oQ_old {n j : Nat} (h : j < 3 * n) : oQ n 141 j = false := by unfold oQ wB; rw [nble h]; rfl
theorem AD.next {n k w v : Nat} {μ' ν' : Mem} (ad : AD n μ ν) (oc : Off (oP n) μ μ') (om : Off (oQ n) ν ν') (hk : k ≤ 4) (hw : w ≤ 9) (hv : v ≤ 99) (e1 : gI μ' 16 n = nI k) (e2 : gI μ' 17 n = nI w) (e3 : gI μ' 18 n = nI v) (f1 : gI ν' 141 (3 * n) = nI (ltr k)) (f2 : k ≠ 4 → gI ν' 141 (3 * n + 1) = nI w) (f3 : k = 4 → gI ν' 141 (3 * n + 1) = nI v) (f4 : k ≤ 1 → gI ν' 141 (3 * n + 2) = nI v) : AD (n + 1) μ' ν' := by
  intro i hi
  by_cases e : i = n
  · subst e
    exact ⟨k, w, v, hk, hw, hv, e1, e2, e3, f1, f2, f3, f4⟩
  · rw [oc.1 16 i (oP_old (by omega) e), oc.1 17 i (oP_old (by omega) e), oc.1 18 i (oP_old (by omega) e), om.1 141 _ (oQ_old (by omega)), om.1 141 _ (oQ_old (by omega)), om.1 141 _ (oQ_old (by omega))]
    exact ad i (by omega)
theorem act_rest (hk : OkT 133 s t 60) {n k : Nat} (hn : n < 20) (hkk : k ≤ 4) (pc : PC s t 60 a μ) (pm : PM 133 s t 60 a ν) (hat : a ≤ 60) (e16 : gI μ 16 n = nI k) (e41 : gI ν 141 (3 * n) = nI (ltr k)) :
    (∃ w μ' ν', w ≤ 80 ∧ (if nI k = 4 then (fX0_readsOne_15_1_b60 (nI n) (0 : Int32) (nI n) μ) else bnd (fX9_digit_1 (10 : Int32) μ) fun r4 m5 => fX0_readsOne_15_1_b60 (nI n) r4 (nI n) m5) = some (0, μ') ∧ gI μ' 1 2 = nI w ∧ Off (oP n) μ μ' ∧ (if nI (ltr k) = (110 : Int32) then (bnd (fX12_number_122 (2 : Int32) ν) fun r9 m10 => fX12_readAct_122_b89 (nI (3 * n)) (nI (ltr k)) r9 (nI (3 * n + 1)) m10) else bnd (fX12_oneOf_122 (48 : Int32) (10 : Int32) ν) fun r7 m8 => fX12_readAct_122_b89 (nI (3 * n)) (nI (ltr k)) r7 (nI (3 * n + 1)) m8) = some ((), ν') ∧ gI ν' 122 22 = nI w ∧ Off scM ν ν') ∨
    (∃ a' w v μ' ν', a < a' ∧ a' ≤ min t 60 ∧ w ≤ 9 ∧ v ≤ 99 ∧ (if nI k = 4 then (fX0_readsOne_15_1_b60 (nI n) (0 : Int32) (nI n) μ) else bnd (fX9_digit_1 (10 : Int32) μ) fun r4 m5 => fX0_readsOne_15_1_b60 (nI n) r4 (nI n) m5) = some (1, μ') ∧ (if nI (ltr k) = (110 : Int32) then (bnd (fX12_number_122 (2 : Int32) ν) fun r9 m10 => fX12_readAct_122_b89 (nI (3 * n)) (nI (ltr k)) r9 (nI (3 * n + 1)) m10) else bnd (fX12_oneOf_122 (48 : Int32) (10 : Int32) ν) fun r7 m8 => fX12_readAct_122_b89 (nI (3 * n)) (nI (ltr k)) r7 (nI (3 * n + 1)) m8) = some ((), ν') ∧ PC s t 60 a' μ' ∧ PM 133 s t 60 a' ν' ∧ Off (oP n) μ μ' ∧ Off (oQ n) ν ν' ∧ gI μ' 16 n = nI k ∧ gI μ' 17 n = nI w ∧ gI μ' 18 n = nI v ∧ gI ν' 141 (3 * n) = nI (ltr k) ∧ (k ≠ 4 → gI ν' 141 (3 * n + 1) = nI w) ∧ (k = 4 → gI ν' 141 (3 * n + 1) = nI v) ∧ (k ≤ 1 → gI ν' 141 (3 * n + 2) = nI v)) := by
  have lk : nI (ltr k) = 110 ↔ k = 4 := by
    obtain rfl | rfl | rfl | rfl | rfl : k = 0 ∨ k = 1 ∨ k = 2 ∨ k = 3 ∨ k = 4 := by omega
    all_goals decide
  have lk8 : (nI (ltr k) = 108 ↔ k = 0) ∧ (nI (ltr k) = 111 ↔ k = 1) := by
    obtain rfl | rfl | rfl | rfl | rfl : k = 0 ∨ k = 1 ∨ k = 2 ∨ k = 3 ∨ k = 4 := by omega
    all_goals decide
  have ck : (nI k = 4 ↔ k = 4) ∧ (nI k = 2 ↔ k = 2) ∧ (nI k = 3 ↔ k = 3) := by
    obtain rfl | rfl | rfl | rfl | rfl : k = 0 ∨ k = 1 ∨ k = 2 ∨ k = 3 ∨ k = 4 := by omega
    all_goals decide
  have wap : ∀ k j, wA k j = true → oP n k j = true := fun k j z => by unfold wA at z; unfold oP; rw [z]; rfl
  have wbq : ∀ k j, wB k j = true → oQ n k j = true := fun k j z => by unfold oQ; rw [z]; rfl
  by_cases k4 : k = 4
  · -- nights
    have l8 : ¬ nI (ltr k) = 108 := fun z => by have := lk8.1.mp z; omega
    have l1 : ¬ nI (ltr k) = 111 := fun z => by have := lk8.2.mp z; omega
    rw [if_pos (ck.1.mpr k4), if_pos (lk.mpr k4)]
    unfold fX0_readsOne_15_1_b60 fX0_readsOne_15_1_b97 fX12_readAct_122_b89
    rw [gd_in (by omega) (by decide), ix_nI (by omega), lt_e, gd_in (by omega) (by decide), gd_in (by omega) (by decide), gd_in (by omega) (by decide), show gI (sI μ 17 n 0) 17 n = 0 from by rw [gI_sI, if_pos ⟨rfl, rfl⟩], if_pos (by decide), show gI (sI μ 17 n 0) 16 n = nI k from e16, if_neg (fun z => by have := ck.2.1.mp z; omega), if_neg (fun z => by have := ck.2.2.mp z; omega), if_neg n10]
    have pc1 : PC s t 60 a (sI μ 17 n 0) := pc.off (P := fun a _ => a == 17) ((Off.refl _).sI rfl) (fun a j z => by rw [beq_iff_eq] at z; omega)
    rcases num_both hk pc1 pm (by omega) (show 1 ≤ 2 by decide) (by decide) with ⟨v, a', M1, N1, e1, e2, hv, l1', l2', pc2, pm2, o1, o2⟩ | ⟨e1, e2⟩
    · right
      unfold fX0_readsOne_15_1_b116
      rw [show fX9_number_1 2 _ = _ from e1, show fX12_number_122 2 _ = _ from e2, bnd_e, bnd_e]
      simp (disch := omega) only [gd_in, ix_nI, lt_e]
      rw [show gI (sI M1 18 n (nI v)) 18 n = nI v from by rw [gI_sI, if_pos ⟨rfl, rfl⟩], if_neg (nI_pos (by omega)), if_neg l8, if_neg l1]
      refine ⟨a', 0, v, _, _, l1', l2', by omega, by omega, rfl, rfl, ?_, ?_, ?_, ?_, (o1.1 16 n rfl).trans e16, (o1.1 17 n rfl).trans (by rw [gI_sI, if_pos ⟨rfl, rfl⟩]; rfl), by rw [gI_sI, if_pos ⟨rfl, rfl⟩], ?_, fun z => absurd k4 z, fun _ => by rw [gI_sI, if_pos ⟨rfl, rfl⟩], fun z => by omega⟩
      · exact pc2.off (P := fun a _ => a == 18) ((Off.refl _).sI rfl) (fun a j z => by rw [beq_iff_eq] at z; omega)
      · exact pm2.off (P := fun a _ => a == 141) ((Off.refl _).sI rfl) (fun a j z => by rw [beq_iff_eq] at z; omega)
      · exact (((Off.refl μ).sI (oP_k (by omega))).tr (o1.mono wap)).sI (oP_k (by omega))
      · exact ((Off.refl ν).tr (o2.mono wbq)).sI (oQ_k (by omega))
      · rw [gI_sI, if_neg (by omega)]
        exact (o2.1 141 _ rfl).trans e41
    · left
      unfold fX0_readsOne_15_1_b116
      rw [show fX9_number_1 2 _ = _ from e1, show fX12_number_122 2 _ = _ from e2, bnd_e, bnd_e]
      simp (disch := omega) only [gd_in, ix_nI, lt_e]
      rw [show gI (sI (sI μ 17 n 0) 18 n (-1)) 18 n = -1 from by rw [gI_sI, if_pos ⟨rfl, rfl⟩], if_pos (by decide), if_neg l8, if_neg l1]
      exact ⟨a, _, _, by omega, rfl, pc.2.1, ((Off.refl μ).sI (oP_k (by omega))).sI (oP_k (by omega)), rfl, rfl, ((Off.refl ν).sI rfl).sI rfl⟩
  · rw [if_neg (fun z => k4 (ck.1.mp z)), if_neg (fun z => k4 (lk.mp z))]
    rcases dig_both hk pc pm (by omega) (m := 10) (by omega) with ⟨l1, w, hw, e1, e2⟩ | ⟨e1, e2⟩
    · rw [show fX9_digit_1 10 μ = _ from e1, show fX12_oneOf_122 48 10 ν = _ from e2, bnd_e, bnd_e]
      unfold fX0_readsOne_15_1_b60 fX0_readsOne_15_1_b96 fX0_readsOne_15_1_b97 fX12_readAct_122_b89 fX12_readAct_122_b102
      simp (disch := omega) only [gd_in, ix_nI, lt_e]
      obtain ⟨M1, eM1⟩ : ∃ M, M = sI (sI μ 1 2 (nI (a + 1))) 17 n (nI w) := ⟨_, rfl⟩
      obtain ⟨N1, eN1⟩ : ∃ M, M = sI (sI ν 122 21 (nI (a + 1))) 141 (3 * n + 1) (nI w) := ⟨_, rfl⟩
      have z17 : gI M1 17 n = nI w := by rw [eM1, gI_sI, if_pos ⟨rfl, rfl⟩]
      have z16 : gI M1 16 n = nI k := by rw [eM1]; exact e16
      have y1 : gI N1 141 (3 * n + 1) = nI w := by rw [eN1, gI_sI, if_pos ⟨rfl, rfl⟩]
      have y0 : gI N1 141 (3 * n) = nI (ltr k) := by rw [eN1, gI_sI, if_neg (by omega)]; exact e41
      have oM1 : Off (oP n) μ M1 := by rw [eM1]; exact ((Off.refl μ).sI rfl).sI (oP_k (by omega))
      have oN1 : Off (oQ n) ν N1 := by rw [eN1]; exact ((Off.refl ν).sI rfl).sI (oQ_k (by omega))
      have pc1 : PC s t 60 (a + 1) M1 := by rw [eM1]; exact (pc.to (a + 1)).off (P := fun a _ => a == 17) ((Off.refl _).sI rfl) (fun a j z => by rw [beq_iff_eq] at z; omega)
      have pm1 : PM 133 s t 60 (a + 1) N1 := by rw [eN1]; exact (pm.to hk (a + 1)).off (P := fun a _ => a == 141) ((Off.refl _).sI rfl) (fun a j z => by rw [beq_iff_eq] at z; omega)
      rw [← eM1, ← eN1, z17, z16, if_pos (nI_pos' (by omega))]
      clear eM1 eN1
      by_cases k23 : k = 2 ∨ k = 3
      · right
        unfold fX0_readsOne_15_1_b116
        have e0 : (if nI k = 2 then (if (0 : Int32) = 0 then gd (inb (nI n) 20) (lt (sI M1 18 (ix (nI n)) 0) fun m9 => gd (inb (nI n) 20) (if gI m9 18 (ix (nI n)) < 0 then some ((0 : Int32), m9) else some (1, m9))) else bnd (fX9_number_1 2 M1) fun r7 m8 => gd (inb (nI n) 20) (lt (sI m8 18 (ix (nI n)) r7) fun m9 => gd (inb (nI n) 20) (if gI m9 18 (ix (nI n)) < 0 then some (0, m9) else some (1, m9)))) else if nI k = 3 then (if (0 : Int32) = 0 then gd (inb (nI n) 20) (lt (sI M1 18 (ix (nI n)) 0) fun m9 => gd (inb (nI n) 20) (if gI m9 18 (ix (nI n)) < 0 then some ((0 : Int32), m9) else some (1, m9))) else bnd (fX9_number_1 2 M1) fun r7 m8 => gd (inb (nI n) 20) (lt (sI m8 18 (ix (nI n)) r7) fun m9 => gd (inb (nI n) 20) (if gI m9 18 (ix (nI n)) < 0 then some (0, m9) else some (1, m9)))) else if (1 : Int32) = 0 then gd (inb (nI n) 20) (lt (sI M1 18 (ix (nI n)) 0) fun m9 => gd (inb (nI n) 20) (if gI m9 18 (ix (nI n)) < 0 then some ((0 : Int32), m9) else some (1, m9))) else bnd (fX9_number_1 2 M1) fun r7 m8 => gd (inb (nI n) 20) (lt (sI m8 18 (ix (nI n)) r7) fun m9 => gd (inb (nI n) 20) (if gI m9 18 (ix (nI n)) < 0 then some (0, m9) else some (1, m9)))) = some (1, sI M1 18 n 0) := by
          simp (disch := omega) only [gd_in, ix_nI, lt_e, if_true]
          rw [show gI (sI M1 18 n 0) 18 n = 0 from by rw [gI_sI, if_pos ⟨rfl, rfl⟩], if_neg (show ¬ (0 : Int32) < 0 by decide)]
          rcases k23 with z | z
          · rw [if_pos (ck.2.1.mpr z)]
          · rw [if_neg (fun y => by have := ck.2.1.mp y; omega), if_pos (ck.2.2.mpr z)]
        refine ⟨a + 1, w, 0, sI M1 18 n 0, N1, by omega, by omega, by omega, by omega, e0, ?_, ?_, pm1, oM1.sI (oP_k (by omega)), oN1, z16, z17, by rw [gI_sI, if_pos ⟨rfl, rfl⟩]; rfl, y0, fun _ => y1, fun z => absurd z k4, fun z => by omega⟩
        · rw [if_neg (fun z => by have := lk8.1.mp z; omega), if_neg (fun z => by have := lk8.2.mp z; omega)]
        · exact pc1.off (P := fun a _ => a == 18) ((Off.refl _).sI rfl) (fun a j z => by rw [beq_iff_eq] at z; omega)
      · rw [if_neg (fun z => by have := ck.2.1.mp z; omega), if_neg (fun z => by have := ck.2.2.mp z; omega), if_neg n10]
        have eR : (if nI (ltr k) = 108 then bnd (fX12_number_122 2 N1) fun r12 m13 => gd (inb (nI (3 * n) + 2) 240) (some ((), sI m13 141 (ix (nI (3 * n) + 2)) r12)) else if nI (ltr k) = 111 then bnd (fX12_number_122 2 N1) fun r12 m13 => gd (inb (nI (3 * n) + 2) 240) (some ((), sI m13 141 (ix (nI (3 * n) + 2)) r12)) else some ((), N1)) = bnd (fX12_number_122 2 N1) fun r12 m13 => some ((), sI m13 141 (3 * n + 2) r12) := by
          have j2 : nI (3 * n) + 2 = nI (3 * n + 2) := nI_add _ 2
          simp (disch := omega) only [j2, gd_in, ix_nI, lt_e]
          by_cases z : k = 0
          · rw [if_pos (lk8.1.mpr z)]
          · rw [if_neg (fun y => z (lk8.1.mp y)), if_pos (lk8.2.mpr (by omega))]
        rw [eR]
        rcases num_both hk pc1 pm1 (by omega) (show 1 ≤ 2 by decide) (by decide) with ⟨v, a', M2, N2, e1, e2, hv, l1', l2', pc2, pm2, o1, o2⟩ | ⟨e1, e2⟩
        · right
          unfold fX0_readsOne_15_1_b116
          rw [show fX9_number_1 2 _ = _ from e1, show fX12_number_122 2 _ = _ from e2, bnd_e, bnd_e]
          simp (disch := omega) only [gd_in, ix_nI, lt_e]
          rw [show gI (sI M2 18 n (nI v)) 18 n = nI v from by rw [gI_sI, if_pos ⟨rfl, rfl⟩], if_neg (nI_pos (by omega))]
          refine ⟨a', w, v, _, _, by omega, l2', by omega, by omega, rfl, rfl, ?_, ?_, ?_, ?_, (o1.1 16 n rfl).trans z16, (o1.1 17 n rfl).trans z17, by rw [gI_sI, if_pos ⟨rfl, rfl⟩], ?_, fun _ => ?_, fun z => absurd z k4, fun _ => by rw [gI_sI, if_pos ⟨rfl, rfl⟩]⟩
          · exact pc2.off (P := fun a _ => a == 18) ((Off.refl _).sI rfl) (fun a j z => by rw [beq_iff_eq] at z; omega)
          · exact pm2.off (P := fun a _ => a == 141) ((Off.refl _).sI rfl) (fun a j z => by rw [beq_iff_eq] at z; omega)
          · exact (oM1.tr (o1.mono wap)).sI (oP_k (by omega))
          · exact (oN1.tr (o2.mono wbq)).sI (oQ_k (by omega))
          · rw [gI_sI, if_neg (by omega)]
            exact (o2.1 141 _ rfl).trans y0
          · rw [gI_sI, if_neg (by omega)]
            exact (o2.1 141 _ rfl).trans y1
        · left
          unfold fX0_readsOne_15_1_b116
          rw [show fX9_number_1 2 _ = _ from e1, show fX12_number_122 2 _ = _ from e2, bnd_e, bnd_e]
          simp (disch := omega) only [gd_in, ix_nI, lt_e]
          rw [show gI (sI M1 18 n (-1)) 18 n = -1 from by rw [gI_sI, if_pos ⟨rfl, rfl⟩], if_pos (by decide)]
          exact ⟨a + 1, _, _, by omega, rfl, pc1.2.1, oM1.sI (oP_k (by omega)), rfl, rfl, ((oN1.mono (fun _ _ z => oQ_sc z)).sI rfl).sI rfl⟩
    · left
      rw [show fX9_digit_1 10 μ = _ from e1, show fX12_oneOf_122 48 10 ν = _ from e2, bnd_e, bnd_e]
      unfold fX0_readsOne_15_1_b60 fX12_readAct_122_b89 fX12_readAct_122_b102
      have j2 : nI (3 * n) + 2 = nI (3 * n + 2) := nI_add _ 2
      simp (disch := omega) only [j2, gd_in, ix_nI, lt_e]
      rw [show gI (sI μ 17 n (-1)) 17 n = -1 from by rw [gI_sI, if_pos ⟨rfl, rfl⟩], if_neg (by decide), xNum (w := a) (by omega) (by rfl), bnd_e]
      have oc : Off (oP n) μ (sI μ 17 n (-1)) := (Off.refl μ).sI (oP_k (by omega))
      by_cases z1 : nI (ltr k) = 108
      · rw [if_pos z1]
        exact ⟨a, _, _, by omega, rfl, pc.2.1, oc, rfl, rfl, (((Off.refl ν).sI rfl).sI rfl).sI rfl⟩
      · rw [if_neg z1]
        by_cases z2 : nI (ltr k) = 111
        · rw [if_pos z2]
          exact ⟨a, _, _, by omega, rfl, pc.2.1, oc, rfl, rfl, (((Off.refl ν).sI rfl).sI rfl).sI rfl⟩
        · rw [if_neg z2]
          exact ⟨a, _, _, by omega, rfl, pc.2.1, oc, rfl, rfl, ((Off.refl ν).sI rfl).sI rfl⟩
end Pure57
