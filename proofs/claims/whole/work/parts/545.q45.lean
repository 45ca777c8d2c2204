section Pure45
variable {V : VT} {c b B : Nat} {μ ν : Mem}
def WD (c b n : Nat) (μ ν : Mem) : Prop := ∀ i, i < n → (∃ v, v < c ∧ gI μ 12 (b + i) = nI v ∧ gI ν 135 (3 * i) = nI v) ∧ (∃ v, v ≤ 99 ∧ gI μ 13 (b + i) = nI v ∧ gI ν 135 (3 * i + 1) = nI v) ∧ ∃ v, v ≤ 9 ∧ gI μ 14 (b + i) = nI v ∧ gI ν 135 (3 * i + 2) = nI v
def wLine (k : Int32 → Int32 → Mem → Option (Int32 × Mem)) (p1 : Int32) (m5 : Mem) : Option (Int32 × Mem) :=
  bnd (fX12_oneOf_122 (48 : Int32) (gI m5 122 1) m5) fun r6 m7 =>
        gd (inb ((3 : Int32) * p1) 40) (lt (sI m7 135 (ix ((3 : Int32) * p1)) r6) fun m8 =>
        bnd (fX12_need_122 (44 : Int32) m8) fun r9 m10 =>
        bnd (fX12_number_122 (2 : Int32) m10) fun r11 m12 =>
        gd (inb (((3 : Int32) * p1) + (1 : Int32)) 40) (lt (sI m12 135 (ix (((3 : Int32) * p1) + (1 : Int32))) r11) fun m13 =>
        bnd (fX12_need_122 (44 : Int32) m13) fun r14 m15 =>
        bnd (fX12_oneOf_122 (48 : Int32) (10 : Int32) m15) fun r16 m17 =>
        gd (inb (((3 : Int32) * p1) + (2 : Int32)) 40) (lt (sI m17 135 (ix (((3 : Int32) * p1) + (2 : Int32))) r16) fun m18 =>
        fX12_witnesses_122_b120 k p1 m18)))
theorem i3 {n : Nat} : (3 : Int32) * nI n = nI (3 * n) ∧ nI (3 * n) + 1 = nI (3 * n + 1) ∧ nI (3 * n) + 2 = nI (3 * n + 2) := ⟨nI_mul 3 n, nI_add _ 1, nI_add _ 2⟩
theorem xW120 {w : Nat} (hw : w < 2 ^ 30) (h : gI ν 122 22 = nI w) (f : Nat) (p1 : Int32) : fX12_witnesses_122_b120 (fun p1 p2 m => fX12_witnesses_122_b24 (f + 1) p1 p2 m) p1 ν = some (-1 - nI w, ν) := by
  unfold fX12_witnesses_122_b120
  rw [xPass hw h, bnd_e]
  show fX12_witnesses_122_b24 (f + 1) (p1 + 1) 0 ν = _
  rw [fX12_witnesses_122_b24, if_pos rfl]
  unfold fX12_witnesses_122_b133
  rw [xRight hw h, bnd_e, if_pos rfl, h]
section
variable {s : Nat → Nat} {t a : Nat}
theorem wit_line (hk : OkT 133 s t 60) {n : Nat} (hn : b + n < 8) (pc : PC s t 60 a μ) (pm : PM 133 s t 60 a ν) (rt : RT V c b B μ ν) (hat : a ≤ 80) (wd : WD c b n μ ν) (f : Nat) :
    (∃ w μ' ν', w ≤ 80 ∧ fX1_readsOne_11_1 (nI n) μ = some (0, μ') ∧ gI μ' 1 2 = nI w ∧ Off (wBn b) μ μ' ∧ wLine (fun p1 p2 m => fX12_witnesses_122_b24 (f + 1) p1 p2 m) (nI n) ν = some (-1 - nI w, ν') ∧ Off scM ν ν') ∨
    (∃ a' μ' ν', fX1_readsOne_11_1 (nI n) μ = some (1, μ') ∧ wLine (fun p1 p2 m => fX12_witnesses_122_b24 (f + 1) p1 p2 m) (nI n) ν = fX12_witnesses_122_b120 (fun p1 p2 m => fX12_witnesses_122_b24 (f + 1) p1 p2 m) (nI n) ν' ∧ PC s t 60 a' μ' ∧ PM 133 s t 60 a' ν' ∧ Off (wBn b) μ μ' ∧ Off scM ν ν' ∧ a' ≤ min t 60 ∧ WD c b (n + 1) μ' ν') := by
  have h6 := rt.c6
  obtain ⟨j1, j2, j3⟩ := i3 (n := n)
  unfold fX1_readsOne_11_1 wLine
  rw [rt.wit, rt.men, rt.menM, nI_add, lt_e, if_neg (nI_pos (by omega)), if_pos (show nI (b + n) < (8 : Int32) from nI_lt (b := 8) hn (by decide)), j1, j2, j3]
  rcases dig_both hk pc pm hat (m := c) (by omega) with ⟨l1, v1, hv1, e1, e2⟩ | ⟨e1, e2⟩
  · rw [e1, e2, bnd_e, bnd_e]
    have z1 : gI (sI (sI μ 1 2 (nI (a + 1))) 12 (b + n) (nI v1)) 12 (b + n) = nI v1 := by rw [gI_sI, if_pos ⟨rfl, rfl⟩]
    simp (disch := omega) only [gd_in, ix_nI, lt_e]
    rw [z1, if_neg (nI_pos (by omega))]
    obtain ⟨M1, eM1⟩ : ∃ M1, M1 = sI (sI μ 1 2 (nI (a + 1))) 12 (b + n) (nI v1) := ⟨_, rfl⟩
    obtain ⟨N1, eN1⟩ : ∃ N1, N1 = sI (sI ν 122 21 (nI (a + 1))) 135 (3 * n) (nI v1) := ⟨_, rfl⟩
    rw [← eM1, ← eN1]
    have oM1 : Off (wBn b) μ M1 := by rw [eM1]; exact (((Off.refl μ).sI (P := wBn b) rfl).sI (wBn_12 (by omega)))
    have oN1 : Off scM ν N1 := by rw [eN1]; exact ((Off.refl ν).sI rfl).sI rfl
    have pc1 : PC s t 60 (a + 1) M1 := by rw [eM1]; exact (pc.to (a + 1)).off (P := fun a _ => a == 12) ((Off.refl _).sI rfl) (fun a j z => by rw [beq_iff_eq] at z; omega)
    have pm1 : PM 133 s t 60 (a + 1) N1 := by rw [eN1]; exact (pm.to hk (a + 1)).off (P := fun a _ => a == 135) ((Off.refl _).sI rfl) (fun a j z => by rw [beq_iff_eq] at z; omega)
    have k1 : (∀ j, j ≠ b + n → gI M1 12 j = gI μ 12 j) ∧ gI M1 12 (b + n) = nI v1 ∧ (∀ j, gI M1 13 j = gI μ 13 j) ∧ (∀ j, gI M1 14 j = gI μ 14 j) := by
      rw [eM1]
      exact ⟨fun j hj => by rw [gI_sI, if_neg (fun z => hj z.2)]; rfl, z1, fun j => rfl, fun j => rfl⟩
    have l1' : (∀ j, j ≠ 3 * n → gI N1 135 j = gI ν 135 j) ∧ gI N1 135 (3 * n) = nI v1 := by
      rw [eN1]
      exact ⟨fun j hj => by rw [gI_sI, if_neg (fun z => hj z.2)]; rfl, by rw [gI_sI, if_pos ⟨rfl, rfl⟩]⟩
    clear eM1 eN1
    rcases take_both hk pc1 pm1 (by omega) (x := 44) (by decide) with ⟨l2, e1, e2, -⟩ | ⟨-, e1, e2, -⟩
    · rw [show fX9_takes_1 44 M1 = _ from e1, show fX12_need_122 44 N1 = _ from e2, bnd_e, bnd_e, if_neg n10]
      have pc2 := pc1.to (a + 1 + 1)
      have pm2 := pm1.to hk (a + 1 + 1)
      rcases num_both hk pc2 pm2 (by omega) (show 1 ≤ 2 by decide) (by decide) with ⟨v2, a3, M3, N3, e1, e2, hv2, l3, l3', pc3, pm3, o1, o2⟩ | ⟨e1, e2⟩
      · rw [show fX9_number_1 2 _ = _ from e1, show fX12_number_122 2 _ = _ from e2, bnd_e, bnd_e]
        have z1 : gI (sI M3 13 (b + n) (nI v2)) 13 (b + n) = nI v2 := by rw [gI_sI, if_pos ⟨rfl, rfl⟩]
        rw [z1, if_neg (nI_pos (by omega))]
        obtain ⟨M4, eM4⟩ : ∃ M4, M4 = sI M3 13 (b + n) (nI v2) := ⟨_, rfl⟩
        obtain ⟨N4, eN4⟩ : ∃ N4, N4 = sI N3 135 (3 * n + 1) (nI v2) := ⟨_, rfl⟩
        rw [← eM4, ← eN4]
        have oM4 : Off (wBn b) μ M4 := by rw [eM4]; exact ((oM1.sI (P := wBn b) (k := 1) (j := 2) rfl).tr (o1.mono (fun _ _ z => wBn_sc (wA_sc z)))).sI rfl
        have oN4 : Off scM ν N4 := by rw [eN4]; exact ((oN1.sI (k := 122) (j := 21) rfl).tr (o2.mono (fun _ _ z => wB_sc z))).sI rfl
        have pc4 : PC s t 60 a3 M4 := by rw [eM4]; exact pc3.off (P := fun a _ => a == 13) ((Off.refl _).sI rfl) (fun a j z => by rw [beq_iff_eq] at z; omega)
        have pm4 : PM 133 s t 60 a3 N4 := by rw [eN4]; exact pm3.off (P := fun a _ => a == 135) ((Off.refl _).sI rfl) (fun a j z => by rw [beq_iff_eq] at z; omega)
        have k4 : (∀ j, j ≠ b + n → gI M4 12 j = gI μ 12 j) ∧ gI M4 12 (b + n) = nI v1 ∧ (∀ j, j ≠ b + n → gI M4 13 j = gI μ 13 j) ∧ gI M4 13 (b + n) = nI v2 ∧ (∀ j, gI M4 14 j = gI μ 14 j) := by
          rw [eM4]
          refine ⟨fun j hj => (o1.1 12 j rfl).trans (k1.1 j hj), (o1.1 12 (b + n) rfl).trans k1.2.1, fun j hj => ?_, z1, fun j => (o1.1 14 j rfl).trans (k1.2.2.2 j)⟩
          rw [gI_sI, if_neg (fun z => hj z.2)]
          exact (o1.1 13 j rfl).trans (k1.2.2.1 j)
        have l4' : (∀ j, j ≠ 3 * n → j ≠ 3 * n + 1 → gI N4 135 j = gI ν 135 j) ∧ gI N4 135 (3 * n) = nI v1 ∧ gI N4 135 (3 * n + 1) = nI v2 := by
          rw [eN4]
          refine ⟨fun j h1 h2 => ?_, ?_, by rw [gI_sI, if_pos ⟨rfl, rfl⟩]⟩
          · rw [gI_sI, if_neg (fun z => h2 z.2)]
            exact (o2.1 135 j rfl).trans (l1'.1 j h1)
          · rw [gI_sI, if_neg (by omega)]
            exact (o2.1 135 (3 * n) rfl).trans l1'.2
        clear eM4 eN4
        rcases take_both hk pc4 pm4 (by omega) (x := 44) (by decide) with ⟨l5, e1, e2, -⟩ | ⟨-, e1, e2, -⟩
        · rw [show fX9_takes_1 44 M4 = _ from e1, show fX12_need_122 44 N4 = _ from e2, bnd_e, bnd_e, if_neg n10]
          have pc5 := pc4.to (a3 + 1)
          have pm5 := pm4.to hk (a3 + 1)
          rcases dig_both hk pc5 pm5 (by omega) (m := 10) (by omega) with ⟨l6, v3, hv3, e1, e2⟩ | ⟨e1, e2⟩
          · rw [show fX9_digit_1 10 _ = _ from e1, show fX12_oneOf_122 48 10 _ = _ from e2, bnd_e, bnd_e]
            have z1 : gI (sI (sI (sI M4 1 2 (nI (a3 + 1))) 1 2 (nI (a3 + 1 + 1))) 14 (b + n) (nI v3)) 14 (b + n) = nI v3 := by rw [gI_sI, if_pos ⟨rfl, rfl⟩]
            rw [z1, if_neg (nI_pos (by omega))]
            right
            refine ⟨a3 + 1 + 1, _, _, rfl, rfl, ?_, ?_, ?_, ?_, by omega, ?_⟩
            · exact (pc5.to (a3 + 1 + 1)).off (P := fun a _ => a == 14) ((Off.refl _).sI rfl) (fun a j z => by rw [beq_iff_eq] at z; omega)
            · exact (pm5.to hk (a3 + 1 + 1)).off (P := fun a _ => a == 135) ((Off.refl _).sI rfl) (fun a j z => by rw [beq_iff_eq] at z; omega)
            · exact ((oM4.sI rfl).sI rfl).sI (wBn_14 (by omega))
            · exact ((oN4.sI rfl).sI rfl).sI rfl
            · intro i hi
              have y12 : ∀ j, gI (sI (sI (sI M4 1 2 (nI (a3 + 1))) 1 2 (nI (a3 + 1 + 1))) 14 (b + n) (nI v3)) 12 j = gI M4 12 j := fun j => rfl
              have y13 : ∀ j, gI (sI (sI (sI M4 1 2 (nI (a3 + 1))) 1 2 (nI (a3 + 1 + 1))) 14 (b + n) (nI v3)) 13 j = gI M4 13 j := fun j => rfl
              have y14 : ∀ j, j ≠ b + n → gI (sI (sI (sI M4 1 2 (nI (a3 + 1))) 1 2 (nI (a3 + 1 + 1))) 14 (b + n) (nI v3)) 14 j = gI M4 14 j := fun j hj => by rw [gI_sI, if_neg (fun z => hj z.2)]; rfl
              have y35 : ∀ j, j ≠ 3 * n + 2 → gI (sI (sI (sI N4 122 21 (nI (a3 + 1))) 122 21 (nI (a3 + 1 + 1))) 135 (3 * n + 2) (nI v3)) 135 j = gI N4 135 j := fun j hj => by rw [gI_sI, if_neg (fun z => hj z.2)]; rfl
              by_cases e : i = n
              · subst e
                rw [y12, y13, z1, y35 _ (by omega), y35 _ (by omega)]
                exact ⟨⟨v1, hv1, k4.2.1, l4'.2.1⟩, ⟨v2, by omega, k4.2.2.2.1, l4'.2.2⟩, v3, by omega, rfl, by rw [gI_sI, if_pos ⟨rfl, rfl⟩]⟩
              · rw [y12, y13, y14 _ (by omega), y35 _ (by omega), y35 _ (by omega), y35 _ (by omega), k4.1 _ (by omega), k4.2.2.1 _ (by omega), k4.2.2.2.2, l4'.1 _ (by omega) (by omega), l4'.1 _ (by omega) (by omega), l4'.1 _ (by omega) (by omega)]
                exact wd i (by omega)
          · left
            rw [show fX9_digit_1 10 _ = _ from e1, show fX12_oneOf_122 48 10 _ = _ from e2, bnd_e, bnd_e]
            have z1 : gI (sI (sI M4 1 2 (nI (a3 + 1))) 14 (b + n) (-1)) 14 (b + n) = -1 := by rw [gI_sI, if_pos ⟨rfl, rfl⟩]
            rw [z1, if_pos (by decide), xW120 (w := a3 + 1) (by omega) (by rfl)]
            exact ⟨a3 + 1, _, _, by omega, rfl, rfl, (oM4.sI rfl).sI (wBn_14 (by omega)), rfl, ((oN4.sI rfl).sI rfl).sI rfl⟩
        · left
          rw [show fX9_takes_1 44 M4 = _ from e1, show fX12_need_122 44 N4 = _ from e2, bnd_e, bnd_e, if_pos rfl, xOne (w := a3) (by omega) (by rfl), bnd_e, xW120 (w := a3) (by omega) (by rfl)]
          exact ⟨a3, _, _, by omega, rfl, pc4.2.1, oM4, rfl, (oN4.sI rfl).sI rfl⟩
      · left
        rw [show fX9_number_1 2 _ = _ from e1, show fX12_number_122 2 _ = _ from e2, bnd_e, bnd_e]
        have z1 : gI (sI (sI M1 1 2 (nI (a + 1 + 1))) 13 (b + n) (-1)) 13 (b + n) = -1 := by rw [gI_sI, if_pos ⟨rfl, rfl⟩]
        rw [z1, if_pos (by decide), xNeed (w := a + 1 + 1) (by omega) (by rfl), bnd_e, xOne (w := a + 1 + 1) (by omega) (by rfl), bnd_e, xW120 (w := a + 1 + 1) (by omega) (by rfl)]
        exact ⟨a + 1 + 1, _, _, by omega, rfl, rfl, (oM1.sI rfl).sI rfl, rfl, (((oN1.sI rfl).sI rfl).sI rfl).sI rfl⟩
    · left
      rw [show fX9_takes_1 44 M1 = _ from e1, show fX12_need_122 44 N1 = _ from e2, bnd_e, bnd_e, if_pos rfl, xNum (w := a + 1) (by omega) (by rfl), bnd_e, xNeed (w := a + 1) (by omega) (by rfl), bnd_e, xOne (w := a + 1) (by omega) (by rfl), bnd_e, xW120 (w := a + 1) (by omega) (by rfl)]
      exact ⟨a + 1, _, _, by omega, rfl, pc1.2.1, oM1, rfl, ((oN1.sI rfl).sI rfl).sI rfl⟩
  · left
    rw [e1, e2, bnd_e, bnd_e]
    have z1 : gI (sI μ 12 (b + n) (-1)) 12 (b + n) = -1 := by rw [gI_sI, if_pos ⟨rfl, rfl⟩]
    simp (disch := omega) only [gd_in, ix_nI, lt_e]
    rw [z1, if_pos (by decide), xNeed (w := a) (by omega) (by rfl), bnd_e, xNum (w := a) (by omega) (by rfl), bnd_e, xNeed (w := a) (by omega) (by rfl), bnd_e, xOne (w := a) (by omega) (by rfl), bnd_e, xW120 (w := a) (by omega) (by rfl)]
    exact ⟨a, _, _, by omega, rfl, pc.2.1, (Off.refl μ).sI (wBn_12 (by omega)), rfl, ((((Off.refl ν).sI rfl).sI rfl).sI rfl).sI rfl⟩
end
end Pure45
