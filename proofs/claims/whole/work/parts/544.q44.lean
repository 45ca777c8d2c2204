section Pure44
variable {V : VT} {c b B : Nat} {μ ν : Mem}
def wBn (b k j : Nat) : Bool := scC k j || ((k == 12 || k == 14) && Nat.ble b j)
def wGn (c k j : Nat) : Bool := scC k j || ((Nat.ble 6 k && Nat.ble k 10) && Nat.ble c j)
theorem nble {a b : Nat} (h : b < a) : Nat.ble a b = false := by
  cases e : Nat.ble a b with
  | false => rfl
  | true => exact absurd (Nat.le_of_ble_eq_true e) (by omega)
theorem wBn_at {X k j : Nat} (hX : X ≠ 0) (h2 : X ≠ 2) (h : cc k j = X) : wBn b k j = false := by
  unfold wBn scC
  rw [h]
  have : (k == 12 || k == 14) = false := by
    cases e : (k == 12 || k == 14) with
    | false => rfl
    | true =>
      rw [Bool.or_eq_true, beq_iff_eq, beq_iff_eq] at e
      rcases e with rfl | rfl <;> exact absurd h.symm h2
  rw [this]
  simp [hX]
theorem wGn_at {X k j : Nat} (hX : X ≠ 0) (h1 : X ≠ 1) (h : cc k j = X) : wGn c k j = false := by
  unfold wGn scC
  rw [h]
  have : (Nat.ble 6 k && Nat.ble k 10) = false := by
    cases e : (Nat.ble 6 k && Nat.ble k 10) with
    | false => rfl
    | true =>
      rw [Bool.and_eq_true] at e
      have l1 := Nat.le_of_ble_eq_true e.1
      have l2 := Nat.le_of_ble_eq_true e.2
      obtain rfl | rfl | rfl | rfl | rfl : k = 6 ∨ k = 7 ∨ k = 8 ∨ k = 9 ∨ k = 10 := by omega
      all_goals exact absurd h.symm h1
  rw [this]
  simp [hX]
theorem Rel.offB {μ' : Mem} (h : Rel V c b B μ ν) (o : Off (wBn b) μ μ') : Rel V c b B μ' ν :=
  have f : ∀ X, X ≠ 0 → X ≠ 2 → ∀ k j, cc k j = X → gI μ' k j = gI μ k j := fun X h0 h2 k j q => o.1 k j (wBn_at h0 h2 q)
  have e : ∀ X k j, mc k j = X → gI ν k j = gI ν k j := fun _ _ _ _ => rfl
  ⟨h.1.cg (f 1 (by decide) (by decide)) (e 1), by
    refine ⟨h.b8, (o.1 11 3 rfl).trans h.wit, h.witM, fun w hw => ?_⟩
    have e12 : gI μ' 12 w = gI μ 12 w := o.1 12 w (by unfold wBn scC; rw [nble hw]; rfl)
    have e14 : gI μ' 14 w = gI μ 14 w := o.1 14 w (by unfold wBn scC; rw [nble hw]; rfl)
    rw [e12, e14]
    exact h.2.1.2.2.2 w hw, h.2.2.1.cg (f 3 (by decide) (by decide)) (e 3), h.2.2.2.1.cg (f 4 (by decide) (by decide)) (e 4), h.2.2.2.2.1.cg (f 5 (by decide) (by decide)) (e 5), h.2.2.2.2.2.1.cg (f 6 (by decide) (by decide)) (e 6) (fun j => o.2 4 j) (fun _ => rfl), h.2.2.2.2.2.2.1.cg (f 7 (by decide) (by decide)) (e 7), h.2.2.2.2.2.2.2.1.cg (f 8 (by decide) (by decide)) (e 8), h.2.2.2.2.2.2.2.2.cg (f 9 (by decide) (by decide)) (e 9)⟩
theorem Rel.offG {μ' : Mem} (h : Rel V c b B μ ν) (o : Off (wGn c) μ μ') : Rel V c b B μ' ν :=
  have f : ∀ X, X ≠ 0 → X ≠ 1 → ∀ k j, cc k j = X → gI μ' k j = gI μ k j := fun X h0 h2 k j q => o.1 k j (wGn_at h0 h2 q)
  have e : ∀ X k j, mc k j = X → gI ν k j = gI ν k j := fun _ _ _ _ => rfl
  ⟨by
    refine ⟨h.c6, (o.1 5 5 rfl).trans h.men, h.menM, fun p hp => ?_⟩
    have e6 : gI μ' 6 p = gI μ 6 p := o.1 6 p (by unfold wGn scC; rw [nble hp]; rfl)
    have e7 : gI μ' 7 p = gI μ 7 p := o.1 7 p (by unfold wGn scC; rw [nble hp]; rfl)
    have e8 : gI μ' 8 p = gI μ 8 p := o.1 8 p (by unfold wGn scC; rw [nble hp]; rfl)
    have e9 : gI μ' 9 p = gI μ 9 p := o.1 9 p (by unfold wGn scC; rw [nble hp]; rfl)
    have e10 : gI μ' 10 p = gI μ 10 p := o.1 10 p (by unfold wGn scC; rw [nble hp]; rfl)
    rw [e6, e7, e8, e9, e10]
    exact h.1.2.2.2 p hp, h.2.1.cg (f 2 (by decide) (by decide)) (e 2), h.2.2.1.cg (f 3 (by decide) (by decide)) (e 3), h.2.2.2.1.cg (f 4 (by decide) (by decide)) (e 4), h.2.2.2.2.1.cg (f 5 (by decide) (by decide)) (e 5), h.2.2.2.2.2.1.cg (f 6 (by decide) (by decide)) (e 6) (fun j => o.2 4 j) (fun _ => rfl), h.2.2.2.2.2.2.1.cg (f 7 (by decide) (by decide)) (e 7), h.2.2.2.2.2.2.2.1.cg (f 8 (by decide) (by decide)) (e 8), h.2.2.2.2.2.2.2.2.cg (f 9 (by decide) (by decide)) (e 9)⟩
theorem RT.offB {μ' : Mem} (h : RT V c b B μ ν) (o : Off (wBn b) μ μ') : RT V c b B μ' ν := by
  refine Rel.offB (μ := sI μ 1 1 0) h ⟨fun k j q => ?_, fun k j => o.2 k j⟩
  rw [gI_sI, gI_sI]
  by_cases e : k = 1 ∧ j = 1
  · rw [if_pos e, if_pos e]
  · rw [if_neg e, if_neg e]
    exact o.1 k j q
theorem RT.offG {μ' : Mem} (h : RT V c b B μ ν) (o : Off (wGn c) μ μ') : RT V c b B μ' ν := by
  refine Rel.offG (μ := sI μ 1 1 0) h ⟨fun k j q => ?_, fun k j => o.2 k j⟩
  rw [gI_sI, gI_sI]
  by_cases e : k = 1 ∧ j = 1
  · rw [if_pos e, if_pos e]
  · rw [if_neg e, if_neg e]
    exact o.1 k j q
theorem wBn_sc {k j : Nat} (h : scC k j = true) : wBn b k j = true := by unfold wBn; rw [h]; rfl
theorem wGn_sc {k j : Nat} (h : scC k j = true) : wGn c k j = true := by unfold wGn; rw [h]; rfl
theorem wBn_12 {j : Nat} (h : b ≤ j) : wBn b 12 j = true := by unfold wBn scC; rw [Nat.ble_eq_true_of_le h]; rfl
theorem wBn_14 {j : Nat} (h : b ≤ j) : wBn b 14 j = true := by unfold wBn scC; rw [Nat.ble_eq_true_of_le h]; rfl
theorem wGn_k {k j : Nat} (hk : 6 ≤ k ∧ k ≤ 10) (h : c ≤ j) : wGn c k j = true := by unfold wGn scC; rw [Nat.ble_eq_true_of_le h, Nat.ble_eq_true_of_le hk.1, Nat.ble_eq_true_of_le hk.2]; simp
theorem RT.men (h : RT V c b B μ ν) : gI μ 5 5 = nI c := Rel.men (μ := sI μ 1 1 0) h
theorem RT.menM (h : RT V c b B μ ν) : gI ν 122 1 = nI c := Rel.menM (μ := sI μ 1 1 0) h
theorem RT.wit (h : RT V c b B μ ν) : gI μ 11 3 = nI b := Rel.wit (μ := sI μ 1 1 0) h
theorem RT.witM (h : RT V c b B μ ν) : gI ν 122 8 = nI b := Rel.witM (μ := sI μ 1 1 0) h
theorem RT.c6 (h : RT V c b B μ ν) : c ≤ 6 := Rel.c6 (μ := sI μ 1 1 0) h
theorem RT.b8 (h : RT V c b B μ ν) : b ≤ 8 := Rel.b8 (μ := sI μ 1 1 0) h
end Pure44
