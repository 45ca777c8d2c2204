section Pure50
variable {V : VT} {c b B : Nat} {μ ν : Mem}
def MD (c n : Nat) (μ ν : Mem) : Prop := ∀ i, i < n → (gI μ 6 (c + i) = gI ν 135 (5 * i)) ∧ (gI μ 7 (c + i) = gI ν 135 (5 * i + 1)) ∧ (∃ v, v < 2 ∧ gI μ 8 (c + i) = nI v ∧ gI ν 135 (5 * i + 2) = nI v) ∧ (∃ v, v < 4 ∧ gI μ 9 (c + i) = nI v ∧ gI ν 135 (5 * i + 3) = nI v) ∧ ∃ v, v < 256 ∧ gI μ 10 (c + i) = nI v ∧ gI ν 135 (5 * i + 4) = nI v
def pLine (k : Int32 → Int32 → Int32 → Mem → Option (Int32 × Mem)) (p1 p2 : Int32) (m7 : Mem) : Option (Int32 × Mem) :=
  bnd (fX12_readMan_122 ((5 : Int32) * p1) p2 m7) fun r8 m9 => fX12_prisoners_122_b71 k p1 r8 m9
def gP (c n k j : Nat) : Bool := (k == 1 && j == 2) || ((k == 5 && j == 6) || ((Nat.ble 6 k && Nat.ble k 10) && j == c + n))
def gQ (n k j : Nat) : Bool := wB k j || (k == 135 && Nat.ble (5 * n) j)
theorem gP_k {n k : Nat} (h : 6 ≤ k ∧ k ≤ 10) : gP c n k (c + n) = true := by
  unfold gP; rw [Nat.ble_eq_true_of_le h.1, Nat.ble_eq_true_of_le h.2]; simp
theorem gP_G {n k j : Nat} (h : gP c n k j = true) : wGn c k j = true := by
  unfold gP at h
  simp only [Bool.or_eq_true, Bool.and_eq_true, beq_iff_eq] at h
  rcases h with ⟨rfl, rfl⟩ | ⟨rfl, rfl⟩ | ⟨⟨h1, h2⟩, rfl⟩
  · rfl
  · rfl
  · exact wGn_k ⟨Nat.le_of_ble_eq_true h1, Nat.le_of_ble_eq_true h2⟩ (by omega)
theorem gQ_sc {n k j : Nat} (h : gQ n k j = true) : scM k j = true := by
  unfold gQ at h
  rw [Bool.or_eq_true, Bool.and_eq_true, beq_iff_eq] at h
  rcases h with h | ⟨rfl, -⟩
  · exact wB_sc h
  · rfl
theorem gQ_35 {n j : Nat} (h : 5 * n ≤ j) : gQ n 135 j = true := by unfold gQ wB; rw [Nat.ble_eq_true_of_le h]; rfl
theorem gP_old {n k j : Nat} (h : 6 ≤ k) (hj : j ≠ c + n) : gP c n k j = false := by
  unfold gP
  rw [show (k == 1) = false from by simp; omega, show (k == 5) = false from by simp; omega, show (j == c + n) = false from by simpa using hj]
  simp
theorem gQ_old {n j : Nat} (h : j < 5 * n) : gQ n 135 j = false := by unfold gQ wB; rw [nble h]; rfl
theorem xP71 {w : Nat} (hw : w < 2 ^ 30) (h : gI ν 122 22 = nI w) (f : Nat) (p1 p2 : Int32) : fX12_prisoners_122_b71 (fun p1 p2 p3 m => fX12_prisoners_122_b29 (f + 1) p1 p2 p3 m) p1 p2 ν = some (-1 - nI w, ν) := by
  unfold fX12_prisoners_122_b71
  rw [xPass hw h, bnd_e]
  show fX12_prisoners_122_b29 (f + 1) (p1 + 1) p2 0 ν = _
  rw [fX12_prisoners_122_b29, if_pos rfl]
  unfold fX12_prisoners_122_b84
  rw [xRight hw h, bnd_e, if_pos rfl, h]
theorem xM97 {w q : Nat} (hw : w < 2 ^ 30) (h : gI ν 122 22 = nI w) (hq : q + 4 < 40) (p3 : Int32) : ∃ ν', fX12_readMan_122_b97 (nI q) p3 ν = some (p3, ν') ∧ Off scM ν ν' ∧ gI ν' 122 22 = nI w := by
  refine ⟨sI (sI ν 135 (q + 3) 0) 135 (q + 4) 0, ?_, ((Off.refl ν).sI rfl).sI rfl, h⟩
  unfold fX12_readMan_122_b97
  rw [xOne hw h, bnd_e, show nI q + 3 = nI (q + 3) from nI_add q 3, show nI q + 4 = nI (q + 4) from nI_add q 4, gd_in (by omega) (by decide), ix_nI (by omega), lt_e, gd_in (by omega) (by decide), ix_nI (by omega), lt_e]
  show fX12_readMan_122_b124 (999 + 1) _ _ _ _ = _
  rw [fX12_readMan_122_b124, xFine hw (show gI (sI (sI ν 135 (q + 3) 0) 135 (q + 4) 0) 122 22 = nI w from h), bnd_e, if_pos rfl]
theorem xM79 {w q : Nat} (hw : w < 2 ^ 30) (h : gI ν 122 22 = nI w) (hq : q + 4 < 40) (p3 : Int32) : ∃ ν', fX12_readMan_122_b79 (nI q) p3 0 (nI (q + 2)) ν = some (p3, ν') ∧ Off scM ν ν' ∧ gI ν' 122 22 = nI w := by
  have h' : gI (sI ν 135 (q + 2) 0) 122 22 = nI w := h
  obtain ⟨ν', e1, e2, e3⟩ := xM97 hw h' hq p3
  refine ⟨ν', ?_, ((Off.refl ν).sI rfl).tr e2, e3⟩
  unfold fX12_readMan_122_b79
  rw [show nI q + 2 = nI (q + 2) from nI_add q 2, gd_in (by omega) (by decide), ix_nI (by omega), lt_e, gd_in (by omega) (by decide), show gI (sI ν 135 (q + 2) 0) 135 (q + 2) = 0 from by rw [gI_sI, if_pos ⟨rfl, rfl⟩], if_pos rfl, xNeed hw h', bnd_e]
  exact e1
theorem xM39 {w q : Nat} (hw : w < 2 ^ 30) (h : gI ν 122 22 = nI w) (hq : q + 4 < 40) (p3 : Int32) : ∃ ν', fX12_readMan_122_b39 (nI q) p3 ν = some (p3, ν') ∧ Off scM ν ν' ∧ gI ν' 122 22 = nI w := by
  have h' : gI (sI ν 135 (q + 1) 0) 122 22 = nI w := h
  obtain ⟨ν', e1, e2, e3⟩ := xM79 hw h' hq p3
  refine ⟨ν', ?_, ((Off.refl ν).sI rfl).tr e2, e3⟩
  unfold fX12_readMan_122_b39
  rw [xNeed hw h, bnd_e, xNum hw h, bnd_e, show nI q + 1 = nI (q + 1) from nI_add q 1, show nI q + 2 = nI (q + 2) from nI_add q 2, gd_in (by omega) (by decide), ix_nI (by omega), lt_e, xPass hw h', bnd_e, if_pos rfl]
  exact e1
theorem vbt : vp_nar .boolean 1 = 1 ∧ vp_nar .boolean 0 = 0 := by decide
section
variable {s : Nat → Nat} {t a : Nat}
theorem man_rest (hk : OkT 133 s t 76) {n T : Nat} (hn : c + n < 6) (hT : T < 256) (pc : PC s t 76 a μ) (pm : PM 133 s t 76 a ν) (hat : a ≤ 76) (e56 : gI μ 5 6 = nI T) {u : Nat} (hu : u < 2) :
    (∃ w μ' ν', w ≤ 80 ∧ fX3_readsRest_5_1_b27 (nI (c + n)) (nI u) (nI (c + n)) μ = some (0, μ') ∧ gI μ' 1 2 = nI w ∧ Off (gP c n) μ μ' ∧ fX12_readMan_122_b97 (nI (5 * n)) (nI T) ν = some (nI T, ν') ∧ gI ν' 122 22 = nI w ∧ Off scM ν ν') ∨
    (∃ a' T' v4 v5 μ' ν', v4 < 4 ∧ v5 < 256 ∧ T' < 256 ∧ a' ≤ min t 76 ∧ fX3_readsRest_5_1_b27 (nI (c + n)) (nI u) (nI (c + n)) μ = some (1, μ') ∧ fX12_readMan_122_b97 (nI (5 * n)) (nI T) ν = some (nI T', ν') ∧ PC s t 76 a' μ' ∧ Off (gP c n) μ μ' ∧ Off (gQ n) ν ν' ∧ gI μ' 5 6 = nI T' ∧ (∀ k, 6 ≤ k → k < 8 → gI μ' k (c + n) = gI μ k (c + n)) ∧ gI μ' 8 (c + n) = nI u ∧ gI μ' 9 (c + n) = nI v4 ∧ gI μ' 10 (c + n) = nI v5 ∧ (∀ j, j < 5 * n + 3 → gI ν' 135 j = gI ν 135 j) ∧ gI ν' 135 (5 * n + 3) = nI v4 ∧ gI ν' 135 (5 * n + 4) = nI v5 ∧ (PM 133 s t 76 a' ν' ∨ (gI ν' 122 22 = nI a' ∧ a' < min t 76 ∧ s a' ≠ 59))) := by
  have hub : vp_nar .boolean (nI u) = nI u := by
    obtain rfl | rfl : u = 0 ∨ u = 1 := by omega
    · exact vbt.2
    · exact vbt.1
  unfold fX3_readsRest_5_1_b27 fX12_readMan_122_b97
  rw [gd_in (by omega) (by decide), ix_nI (by omega), lt_e, hub, show nI (5 * n) + 3 = nI (5 * n + 3) from nI_add _ 3, show nI (5 * n) + 4 = nI (5 * n + 4) from nI_add _ 4]
  obtain ⟨M1, eM1⟩ : ∃ M, M = sI μ 8 (c + n) (nI u) := ⟨_, rfl⟩
  rw [← eM1]
  have oM1 : Off (gP c n) μ M1 := by rw [eM1]; exact (Off.refl μ).sI (gP_k (by omega))
  have pc1 : PC s t 76 a M1 := by rw [eM1]; exact pc.off (P := fun a _ => a == 8) ((Off.refl _).sI rfl) (fun a j z => by rw [beq_iff_eq] at z; omega)
  have d8 : gI M1 8 (c + n) = nI u := by rw [eM1, gI_sI, if_pos ⟨rfl, rfl⟩]
  have d67 : ∀ k, 6 ≤ k → k < 8 → gI M1 k (c + n) = gI μ k (c + n) := fun k h1 h2 => by rw [eM1, gI_sI, if_neg (by omega)]
  have e56' : gI M1 5 6 = nI T := by rw [eM1]; exact e56
  clear eM1
  rcases dig_both hk pc1 pm (by omega) (m := 4) (by omega) with ⟨l1, v4, hv4, e1, e2⟩ | ⟨e1, e2⟩
  · right
    rw [show fX9_digit_1 4 M1 = _ from e1, show fX12_oneOf_122 48 4 ν = _ from e2, bnd_e, bnd_e]
    simp (disch := omega) only [gd_in, ix_nI, lt_e]
    have z1 : gI (sI (sI M1 1 2 (nI (a + 1))) 9 (c + n) (nI v4)) 9 (c + n) = nI v4 := by rw [gI_sI, if_pos ⟨rfl, rfl⟩]
    rw [z1, if_pos (nI_pos' (by omega))]
    have pc2 : PC s t 76 (a + 1) (sI (sI M1 1 2 (nI (a + 1))) 9 (c + n) (nI v4)) := (pc1.to (a + 1)).off (P := fun a _ => a == 9) ((Off.refl _).sI rfl) (fun a j z => by rw [beq_iff_eq] at z; omega)
    have pm2 : PM 133 s t 76 (a + 1) (sI (sI (sI ν 122 21 (nI (a + 1))) 135 (5 * n + 3) (nI v4)) 135 (5 * n + 4) 0) := (pm.to hk (a + 1)).off (P := fun a _ => a == 135) (((Off.refl _).sI rfl).sI rfl) (fun a j z => by rw [beq_iff_eq] at z; omega)
    have y0 : gI (sI (sI (sI ν 122 21 (nI (a + 1))) 135 (5 * n + 3) (nI v4)) 135 (5 * n + 4) 0) 135 (5 * n + 4) = nI 0 := by rw [gI_sI, if_pos ⟨rfl, rfl⟩]; rfl
    obtain ⟨a', v5, M3, N3, r1, r2, r3, r4, r5, r6, r7, r8, r9, r10⟩ := goods_in hk hT (q := 5 * n) (by omega) 8 FU 999 0 (a + 1) 0 0 _ _ rfl (by decide) (by decide) (by omega) (by decide) (Nat.le_refl _) pc2 pm2 e56' y0 (fun i _ _ => Nat.zero_testBit i) (fun x _ hx => absurd hx (Nat.not_lt_zero _))
    unfold fX3_readGoods_5_1
    rw [show fX3_readGoods_5_1_b4 FU 0 0 _ = _ from r4, bnd_e]
    rw [Nat.or_zero] at r8
    have z5 : gI (sI M3 10 (c + n) (nI v5)) 10 (c + n) = nI v5 := by rw [gI_sI, if_pos ⟨rfl, rfl⟩]
    have z6 : gI (sI M3 10 (c + n) (nI v5)) 5 6 = nI T := (r6.1 5 6 rfl).trans e56'
    rw [z5, z6, nI_or]
    have g9 : gI M3 9 (c + n) = nI v4 := (r6.1 9 (c + n) rfl).trans z1
    have g8 : gI M3 8 (c + n) = nI u := (r6.1 8 (c + n) rfl).trans d8
    have g67 : ∀ k, 6 ≤ k → k < 8 → gI M3 k (c + n) = gI μ k (c + n) := fun k h1 h2 => by
      have w1 : wA k (c + n) = false := by
        unfold wA
        rw [show (k == 1) = false from by simp; omega]
        rfl
      rw [r6.1 k _ w1, gI_sI, if_neg (by omega), gI_sI, if_neg (by omega)]
      exact d67 k h1 h2
    have n35 : ∀ j, j ≠ 5 * n + 4 → gI N3 135 j = gI (sI (sI (sI ν 122 21 (nI (a + 1))) 135 (5 * n + 3) (nI v4)) 135 (5 * n + 4) 0) 135 j := fun j hj => r7.1 135 j (by
      show (wB 135 j || (135 == 135 && j == 5 * n + 4)) = false
      rw [show (j == 5 * n + 4) = false from by simpa using hj]
      rfl)
    refine ⟨a', T ||| v5, v4, v5, _, N3, hv4, r1, Nat.or_lt_two_pow (n := 8) hT r1, by omega, rfl, r8, ?_, ?_, ?_, rfl, fun k h1 h2 => ?_, g8, g9, z5, fun j hj => ?_, ?_, r9, ?_⟩
    · exact r5.off (P := fun a _ => a == 10 || a == 5) (((Off.refl _).sI rfl).sI rfl) (fun a j z => by rw [Bool.or_eq_true, beq_iff_eq, beq_iff_eq] at z; omega)
    · exact ((((oM1.sI (k := 1) (j := 2) rfl).sI (gP_k (k := 9) (by omega))).tr (r6.mono (fun k j z => by
        unfold wA at z
        unfold gP
        rw [z]; rfl))).sI (gP_k (k := 10) (by omega))).sI rfl
    · exact ((((Off.refl ν).sI rfl).sI (gQ_35 (by omega))).sI (gQ_35 (by omega))).tr (r7.mono (fun k j z => by
        rw [Bool.or_eq_true, Bool.and_eq_true, beq_iff_eq, beq_iff_eq] at z
        rcases z with z | ⟨rfl, rfl⟩
        · unfold gQ; rw [z]; rfl
        · exact gQ_35 (by omega)))
    · rw [gI_sI, if_neg (by omega), gI_sI, if_neg (by omega)]
      exact g67 k h1 h2
    · rw [n35 j (by omega), gI_sI, if_neg (by omega), gI_sI, if_neg (by omega)]
      rfl
    · rw [n35 _ (by omega), gI_sI, if_neg (by omega), gI_sI, if_pos ⟨rfl, rfl⟩]
    · rcases r10 with z | ⟨z1, x, z2, z3, z4⟩
      · exact Or.inl z
      · exact Or.inr ⟨z1, z2, by omega⟩
  · left
    rw [show fX9_digit_1 4 M1 = _ from e1, show fX12_oneOf_122 48 4 ν = _ from e2, bnd_e, bnd_e]
    simp (disch := omega) only [gd_in, ix_nI, lt_e]
    have z1 : gI (sI M1 9 (c + n) (-1)) 9 (c + n) = -1 := by rw [gI_sI, if_pos ⟨rfl, rfl⟩]
    rw [z1, if_neg (by decide)]
    refine ⟨a, _, sI (sI (sI ν 122 22 (nI a)) 135 (5 * n + 3) 0) 135 (5 * n + 4) 0, by omega, rfl, pc1.2.1, oM1.sI (gP_k (by omega)), ?_, rfl, (((Off.refl ν).sI rfl).sI rfl).sI rfl⟩
    show fX12_readMan_122_b124 (999 + 1) _ _ _ _ = _
    rw [fX12_readMan_122_b124, xFine (w := a) (by omega) (by rfl), bnd_e, if_pos rfl]
end
end Pure50
