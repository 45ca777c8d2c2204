section Pure67
variable {V : VT} {c b B : Nat} {μ ν μ' ν' : Mem}
theorem mc_out {k j : Nat} (h : ¬ (122 ≤ k ∧ k < 149)) : mc k j = 0 := by
  have f : ∀ n, k ≠ n → (k == n) = false := fun n h => by simpa using h
  have g : ∀ a b, (k < a ∨ b < k) → (Nat.ble a k && Nat.ble k b) = false := fun a b h => by
    rcases h with h | h
    · rw [nble h]; rfl
    · rw [nble h, Bool.and_false]
  unfold mc
  rw [f 122 (by omega), f 123 (by omega), g 124 128 (by omega), f 129 (by omega), f 130 (by omega), f 131 (by omega), f 132 (by omega), f 133 (by omega), f 136 (by omega), f 138 (by omega), g 146 148 (by omega)]
  rfl
theorem cc_out2 {k j : Nat} (h : 122 ≤ k) : cc k j = 0 := by
  have f : ∀ n, k ≠ n → (k == n) = false := fun n h => by simpa using h
  have g : ∀ a b, (k < a ∨ b < k) → (Nat.ble a k && Nat.ble k b) = false := fun a b h => by
    rcases h with h | h
    · rw [nble h]; rfl
    · rw [nble h, Bool.and_false]
  unfold cc
  rw [f 0 (by omega), f 1 (by omega), f 2 (by omega), f 3 (by omega), f 5 (by omega), g 6 10 (by omega), f 11 (by omega), f 12 (by omega), f 14 (by omega), f 19 (by omega), f 20 (by omega), f 25 (by omega), f 27 (by omega), f 29 (by omega), f 33 (by omega), g 34 37 (by omega), g 43 107 (by omega), g 108 117 (by omega), f 120 (by omega)]
  rfl
theorem aC_at {k : Nat} (h : 122 ≤ k ∧ k < 149) : aC k = false := by
  unfold aC
  rw [show (k == 149) = false from by simp; omega, Bool.or_false]
  cases e : Nat.blt k 122 with
  | false => rfl
  | true => exact absurd (Nat.le_of_ble_eq_true e) (by omega)
theorem aM_at {k : Nat} (h : k < 122 ∨ k = 149) : aM k = false := by
  unfold aM
  rcases h with h | rfl
  · rw [nble h]; rfl
  · rfl
theorem Rel.toM (h : Rel V c b B μ ν) (f : Fr aC ν ν') : Rel V c b B μ ν' :=
  have e : ∀ Y, Y ≠ 0 → ∀ k j, mc k j = Y → gI ν' k j = gI ν k j := fun Y hY k j q => by
    by_cases z : 122 ≤ k ∧ k < 149
    · exact (f k (aC_at z) j).1
    · rw [mc_out z] at q; exact absurd q.symm hY
  have g : ∀ Y k j, cc k j = Y → gI μ k j = gI μ k j := fun _ _ _ _ => rfl
  ⟨h.1.cg (g 1) (e 1 (by decide)), h.2.1.cg (g 2) (e 2 (by decide)), h.2.2.1.cg (g 3) (e 3 (by decide)), h.2.2.2.1.cg (g 4) (e 4 (by decide)), h.2.2.2.2.1.cg (g 5) (e 5 (by decide)), h.2.2.2.2.2.1.cg (g 6) (e 6 (by decide)) (fun _ => rfl) (fun j => (f 134 rfl j).2), h.2.2.2.2.2.2.1.cg (g 7) (e 7 (by decide)), h.2.2.2.2.2.2.2.1.cg (g 8) (e 8 (by decide)), h.2.2.2.2.2.2.2.2.cg (g 9) (e 9 (by decide))⟩
theorem Rel.toC (h : Rel V c b B μ ν) (f : Fr aM μ μ') : Rel V c b B μ' ν :=
  have e : ∀ Y k j, mc k j = Y → gI ν k j = gI ν k j := fun _ _ _ _ => rfl
  have g : ∀ Y, Y ≠ 0 → ∀ k j, cc k j = Y → gI μ' k j = gI μ k j := fun Y hY k j q => by
    by_cases z : k < 122
    · exact (f k (aM_at (Or.inl z)) j).1
    · rw [cc_out2 (by omega)] at q; exact absurd q.symm hY
  ⟨h.1.cg (g 1 (by decide)) (e 1), h.2.1.cg (g 2 (by decide)) (e 2), h.2.2.1.cg (g 3 (by decide)) (e 3), h.2.2.2.1.cg (g 4 (by decide)) (e 4), h.2.2.2.2.1.cg (g 5 (by decide)) (e 5), h.2.2.2.2.2.1.cg (g 6 (by decide)) (e 6) (fun j => (f 4 rfl j).2) (fun _ => rfl), h.2.2.2.2.2.2.1.cg (g 7 (by decide)) (e 7), h.2.2.2.2.2.2.2.1.cg (g 8 (by decide)) (e 8), h.2.2.2.2.2.2.2.2.cg (g 9 (by decide)) (e 9)⟩
def RRB (B : Nat) (μ : Mem) : Prop := ∃ V c b, Rel V c b B μ μ
theorem law_two {α β : Type} {B' : Nat} {F1 : Mem → Option (α × Mem)} {F2 : Mem → Option (β × Mem)} {Q : α → Mem → β → Mem → Prop} (h : Rel V c b B μ μ) (c1 : Fm aC μ (F1 μ)) (c2 : ∀ m, Fm aM m (F2 m)) (P : ∀ ν, Rel V c b B μ ν → Sm (fun r μ' r' ν' => Q r μ' r' ν' ∧ ∃ V c b, Rel V c b B' μ' ν') (F1 μ) (F2 ν)) : ∃ r μ1 r' ν1, F1 μ = some (r, μ1) ∧ F2 μ1 = some (r', ν1) ∧ Q r μ1 r' ν1 ∧ RRB B' ν1 ∧ Fr aM μ1 ν1 := by
  obtain ⟨r, μ1, r', ν0, e1, -, -⟩ := P μ h
  have f1 := c1 r μ1 e1
  obtain ⟨r2, μ2, r3, ν2, e2, e3, q, V', c', b', R⟩ := P μ1 (h.toM f1)
  rw [e1] at e2
  cases e2
  have f2 := c2 μ1 r3 ν2 e3
  exact ⟨r, μ1, r3, ν2, e1, e3, q, ⟨V', c', b', R.toC f2⟩, f2⟩
theorem law_eq {B' : Nat} {F1 F2 : Mem → Option (Int32 × Mem)} (h : Rel V c b B μ μ) (c1 : Fm aC μ (F1 μ)) (c2 : ∀ m, Fm aM m (F2 m)) (P : ∀ ν, Rel V c b B μ ν → Sm (fun r μ' r' ν' => r' = r ∧ ∃ V c b, Rel V c b B' μ' ν') (F1 μ) (F2 ν)) : ∃ μ', RRB B' μ' ∧ ∀ K : Mem → Option (Unit × Mem), (bnd (F1 μ) fun r3 m4 => bnd (F2 m4) fun r5 m6 => if r3 = r5 then K m6 else none) = K μ' := by
  obtain ⟨r, μ1, r', ν1, e1, e2, q, R, -⟩ := law_two h c1 c2 P
  refine ⟨ν1, R, fun K => ?_⟩
  rw [e1, bnd_e, e2, bnd_e, if_pos q.symm]
theorem prx {B' : Nat} {o1 o2 : Option (Int32 × Mem)} (h : Pr V c b B' o1 o2) {B2 : Nat} (hB : B' ≤ B2) : Sm (fun r μ' r' ν' => r' = r ∧ ∃ V c b, Rel V c b B2 μ' ν') o1 o2 := sm_Q h (fun _ _ _ _ q => ⟨q.1, V, c, b, q.2.mono hB⟩)
theorem prnx {B' : Nat} {o1 o2 : Option (Int32 × Mem)} (h : PrN V B' o1 o2) {B2 : Nat} (hB : B' ≤ B2) : Sm (fun r μ' r' ν' => r' = r ∧ ∃ V c b, Rel V c b B2 μ' ν') o1 o2 := sm_Q h (fun _ _ _ _ q => by
  obtain ⟨q1, c, b, q2⟩ := q
  exact ⟨q1, V, c, b, q2.mono hB⟩)
theorem prrx {B' : Nat} {o1 o2 : Option (Int32 × Mem)} (h : PrR c b B' o1 o2) {B2 : Nat} (hB : B' ≤ B2) : Sm (fun r μ' r' ν' => r' = r ∧ ∃ V c b, Rel V c b B2 μ' ν') o1 o2 := sm_Q h (fun _ _ _ _ q => by
  obtain ⟨q1, V, q2⟩ := q
  exact ⟨q1, V, c, b, q2.mono hB⟩)
theorem cmp_self (x : Int64) : lg_cmp x x = 0 := by
  unfold lg_cmp
  simp
theorem fm_H {α : Type} {o : Option (Option α × Mem)} {g : α → Int64} (h : Fm aC μ o) : Fm aC μ (match o with
  | none => none
  | some (none, μ1) => some ((1 : Int32), μ1)
  | some (some v, μ1) => some (0, sL μ1 149 0 (g v))) := by
  cases o with
  | none => exact fm_none
  | some q =>
    obtain ⟨v, m⟩ := q
    cases v with
    | none => exact fm_some (h _ _ rfl)
    | some v => exact fm_some (fr_sL (h _ _ rfl) rfl)
theorem fr_fH_prisoner (v1 v2 : Int32) (μ : Mem) : Fm aC μ (fH_prisoner v1 v2 μ) := by
  unfold fH_prisoner
  have h : Fm aC μ (fX11_prisoner_0 v1 v2 μ) := fr_fX11_prisoner_0 v1 v2 μ
  generalize fX11_prisoner_0 v1 v2 μ = o at h ⊢
  cases o with
  | none => exact fm_none
  | some q =>
    obtain ⟨v, m⟩ := q
    cases v with
    | none => exact fm_some (h _ _ rfl)
    | some v => exact fm_some (fr_sL (h _ _ rfl) rfl)
theorem fr_fH_witness (v1 v2 : Int32) (μ : Mem) : Fm aC μ (fH_witness v1 v2 μ) := by
  unfold fH_witness
  have h : Fm aC μ (fX11_witness_0 v1 v2 μ) := fr_fX11_witness_0 v1 v2 μ
  generalize fX11_witness_0 v1 v2 μ = o at h ⊢
  cases o with
  | none => exact fm_none
  | some q =>
    obtain ⟨v, m⟩ := q
    cases v with
    | none => exact fm_some (h _ _ rfl)
    | some v => exact fm_some (fr_sL (h _ _ rfl) rfl)
theorem fr_fH_row (v1 : Int32) (μ : Mem) : Fm aC μ (fH_row v1 μ) := by
  unfold fH_row
  have h : Fm aC μ (fX11_row_0 v1 μ) := fr_fX11_row_0 v1 μ
  generalize fX11_row_0 v1 μ = o at h ⊢
  cases o with
  | none => exact fm_none
  | some q =>
    obtain ⟨v, m⟩ := q
    cases v with
    | none => exact fm_some (h _ _ rfl)
    | some v => exact fm_some (fr_sL (h _ _ rfl) rfl)
theorem law_thr {B' : Nat} {F1 : Mem → Option (Int32 × Mem)} {F2 : Mem → Option (Int32 × Mem)} (h : Rel V c b B μ μ) (c1 : Fm aC μ (F1 μ)) (c2 : ∀ m, Fm aM m (F2 m)) (P : ∀ ν, Rel V c b B μ ν → PrH V c b B (F1 μ) (F2 ν)) (hB : B ≤ B') : ∃ μ', RRB B' μ' ∧ ∀ K : Mem → Option (Unit × Mem), (bnd (F1 μ) fun r45 m46 => bnd (F2 m46) fun r47 m48 => bnd (fX12_thrown_122 m48) fun r49 m50 => if r49 = r45 then (if r45 = 0 then (gd (inb (0 : Int32) 1) (if (lg_cmp (gL m50 149 (ix (0 : Int32))) (Int32.toInt64 r47)) = 0 then (K m50) else none)) else K m50) else none) = K μ' := by
  obtain ⟨r, μ1, r', ν1, e1, e2, ⟨q1, q2, q3⟩, R, f⟩ := law_two (B' := B') (Q := fun r μ' r' ν' => gI ν' 122 17 = r ∧ (r = 0 ∨ r = 1) ∧ (r = 0 → gL μ' 149 0 = r'.toInt64)) h c1 c2 (fun ν hν => sm_Q (P ν hν) (fun _ _ _ _ q => ⟨⟨q.1, q.2.1, q.2.2.1⟩, V, c, b, q.2.2.2.mono hB⟩))
  refine ⟨ν1, R, fun K => ?_⟩
  unfold fX12_thrown_122
  rw [e1, bnd_e, e2, bnd_e, bnd_e, if_pos q1]
  by_cases z : r = 0
  · rw [if_pos z, gd_of (by decide), show ix (0 : Int32) = 0 from rfl, (f 149 rfl 0).2, q3 z, if_pos (cmp_self _)]
  · rw [if_neg z]
theorem law_thrL {B' : Nat} {F1 : Mem → Option (Int32 × Mem)} {F2 : Mem → Option (Int64 × Mem)} (h : Rel V c b B μ μ) (c1 : Fm aC μ (F1 μ)) (c2 : ∀ m, Fm aM m (F2 m)) (P : ∀ ν, Rel V c b B μ ν → PrL V c b B (F1 μ) (F2 ν)) (hB : B ≤ B') : ∃ μ', RRB B' μ' ∧ ∀ K : Mem → Option (Unit × Mem), (bnd (F1 μ) fun r45 m46 => bnd (F2 m46) fun r47 m48 => bnd (fX12_thrown_122 m48) fun r49 m50 => if r49 = r45 then (if r45 = 0 then (gd (inb (0 : Int32) 1) (if (lg_cmp (gL m50 149 (ix (0 : Int32))) r47) = 0 then (K m50) else none)) else K m50) else none) = K μ' := by
  obtain ⟨r, μ1, r', ν1, e1, e2, ⟨q1, q2, q3⟩, R, f⟩ := law_two (B' := B') (Q := fun r μ' r' ν' => gI ν' 122 17 = r ∧ (r = 0 ∨ r = 1) ∧ (r = 0 → gL μ' 149 0 = r')) h c1 c2 (fun ν hν => sm_Q (P ν hν) (fun _ _ _ _ q => ⟨⟨q.1, q.2.1, q.2.2.1⟩, V, c, b, q.2.2.2.mono hB⟩))
  refine ⟨ν1, R, fun K => ?_⟩
  unfold fX12_thrown_122
  rw [e1, bnd_e, e2, bnd_e, bnd_e, if_pos q1]
  by_cases z : r = 0
  · rw [if_pos z, gd_of (by decide), show ix (0 : Int32) = 0 from rfl, (f 149 rfl 0).2, q3 z, if_pos (cmp_self _)]
  · rw [if_neg z]
def RRi (i : Nat) (μ : Mem) : Prop := RRB (300 * i) μ
def fLawX (k : Int32 → Mem → Option (Unit × Mem)) (L : Nat) (xs : Nat → Int32) (p4 x1 : Int32) (μ : Mem) : Option (Unit × Mem) :=
    if x1 = (0 : Int32) then (gd (inb (p4 + (1 : Int32)) L) (bnd (fX11_sign_0 (xs (ix (p4 + (1 : Int32)))) μ) fun r3 m4 =>
      gd (inb (p4 + (1 : Int32)) L) (bnd (fX12_sign_122 (xs (ix (p4 + (1 : Int32)))) m4) fun r5 m6 =>
      if r3 = r5 then (k (p4 + (5 : Int32)) m6)
      else none)))
    else if x1 = (1 : Int32) then (gd (inb (p4 + (1 : Int32)) L) (bnd (fX11_end_0 (xs (ix (p4 + (1 : Int32)))) μ) fun r9 m10 =>
      gd (inb (p4 + (1 : Int32)) L) (bnd (fX12_end_122 (xs (ix (p4 + (1 : Int32)))) m10) fun r11 m12 =>
      if r9 = r11 then (k (p4 + (5 : Int32)) m12)
      else none)))
    else if x1 = (2 : Int32) then (bnd (fX11_prisoners_0 μ) fun r15 m16 =>
      bnd (fX12_prisoners_122 m16) fun r17 m18 =>
      if r15 = r17 then (k (p4 + (5 : Int32)) m18)
      else none)
    else if x1 = (3 : Int32) then (bnd (fX11_values_0 μ) fun r21 m22 =>
      bnd (fX12_values_122 m22) fun r23 m24 =>
      if r21 = r23 then (k (p4 + (5 : Int32)) m24)
      else none)
    else if x1 = (4 : Int32) then (bnd (fX11_witnesses_0 μ) fun r27 m28 =>
      bnd (fX12_witnesses_122 m28) fun r29 m30 =>
      if r27 = r29 then (k (p4 + (5 : Int32)) m30)
      else none)
    else if x1 = (5 : Int32) then (bnd (fX11_law_0 μ) fun r33 m34 =>
      bnd (fX12_law_122 m34) fun r35 m36 =>
      if r33 = r35 then (k (p4 + (5 : Int32)) m36)
      else none)
    else if x1 = (6 : Int32) then (bnd (fX11_rule_0 μ) fun r39 m40 =>
      bnd (fX12_rule_122 m40) fun r41 m42 =>
      if r39 = r41 then (k (p4 + (5 : Int32)) m42)
      else none)
    else if x1 = (7 : Int32) then (gd (inb (p4 + (1 : Int32)) L) (gd (inb (p4 + (2 : Int32)) L) (bnd (fH_prisoner (xs (ix (p4 + (1 : Int32)))) (xs (ix (p4 + (2 : Int32)))) μ) fun r45 m46 =>
      gd (inb (p4 + (1 : Int32)) L) (gd (inb (p4 + (2 : Int32)) L) (bnd (fX12_prisoner_122 (xs (ix (p4 + (1 : Int32)))) (xs (ix (p4 + (2 : Int32)))) m46) fun r47 m48 =>
      bnd (fX12_thrown_122 m48) fun r49 m50 =>
      if r49 = r45 then (if r45 = 0 then (gd (inb (0 : Int32) 1) (if (lg_cmp (gL m50 149 (ix (0 : Int32))) (Int32.toInt64 r47)) = 0 then (k (p4 + (5 : Int32)) m50)
          else none))
        else k (p4 + (5 : Int32)) m50)
      else none)))))
    else if x1 = (8 : Int32) then (gd (inb (p4 + (1 : Int32)) L) (gd (inb (p4 + (2 : Int32)) L) (bnd (fH_witness (xs (ix (p4 + (1 : Int32)))) (xs (ix (p4 + (2 : Int32)))) μ) fun r54 m55 =>
      gd (inb (p4 + (1 : Int32)) L) (gd (inb (p4 + (2 : Int32)) L) (bnd (fX12_witness_122 (xs (ix (p4 + (1 : Int32)))) (xs (ix (p4 + (2 : Int32)))) m55) fun r56 m57 =>
      bnd (fX12_thrown_122 m57) fun r58 m59 =>
      if r58 = r54 then (if r54 = 0 then (gd (inb (0 : Int32) 1) (if (lg_cmp (gL m59 149 (ix (0 : Int32))) (Int32.toInt64 r56)) = 0 then (k (p4 + (5 : Int32)) m59)
          else none))
        else k (p4 + (5 : Int32)) m59)
      else none)))))
    else if x1 = (9 : Int32) then (gd (inb (p4 + (1 : Int32)) L) (bnd (fX11_ends_0 (xs (ix (p4 + (1 : Int32)))) μ) fun r63 m64 =>
      gd (inb (p4 + (1 : Int32)) L) (bnd (fX12_ends_122 (xs (ix (p4 + (1 : Int32)))) m64) fun r65 m66 =>
      if r63 = r65 then (k (p4 + (5 : Int32)) m66)
      else none)))
    else if x1 = (10 : Int32) then (gd (inb (p4 + (1 : Int32)) L) (gd (inb (p4 + (2 : Int32)) L) (gd (inb (p4 + (3 : Int32)) L) (gd (inb (p4 + (4 : Int32)) L) (bnd (fX11_sheet_0 (xs (ix (p4 + (1 : Int32)))) (xs (ix (p4 + (2 : Int32)))) (xs (ix (p4 + (3 : Int32)))) (xs (ix (p4 + (4 : Int32)))) μ) fun r69 m70 =>
      gd (inb (p4 + (1 : Int32)) L) (gd (inb (p4 + (2 : Int32)) L) (gd (inb (p4 + (3 : Int32)) L) (gd (inb (p4 + (4 : Int32)) L) (bnd (fX12_sheet_122 (xs (ix (p4 + (1 : Int32)))) (xs (ix (p4 + (2 : Int32)))) (xs (ix (p4 + (3 : Int32)))) (xs (ix (p4 + (4 : Int32)))) m70) fun r71 m72 =>
      if r69 = r71 then (k (p4 + (5 : Int32)) m72)
      else none)))))))))
    else if x1 = (11 : Int32) then (gd (inb (p4 + (1 : Int32)) L) (gd (inb (p4 + (2 : Int32)) L) (bnd (fX11_lay_0 (xs (ix (p4 + (1 : Int32)))) (xs (ix (p4 + (2 : Int32)))) μ) fun r75 m76 =>
      gd (inb (p4 + (1 : Int32)) L) (gd (inb (p4 + (2 : Int32)) L) (bnd (fX12_lay__122 (xs (ix (p4 + (1 : Int32)))) (xs (ix (p4 + (2 : Int32)))) m76) fun r77 m78 =>
      if r75 = r77 then (k (p4 + (5 : Int32)) m78)
      else none)))))
    else if x1 = (12 : Int32) then (gd (inb (p4 + (1 : Int32)) L) (bnd (fX11_ask_0 (xs (ix (p4 + (1 : Int32)))) μ) fun r81 m82 =>
      gd (inb (p4 + (1 : Int32)) L) (bnd (fX12_ask_122 (xs (ix (p4 + (1 : Int32)))) m82) fun r83 m84 =>
      if r81 = r83 then (k (p4 + (5 : Int32)) m84)
      else none)))
    else if x1 = (13 : Int32) then (gd (inb (p4 + (1 : Int32)) L) (bnd (fX11_judge_0 (xs (ix (p4 + (1 : Int32)))) μ) fun r87 m88 =>
      gd (inb (p4 + (1 : Int32)) L) (bnd (fX12_judge_122 (xs (ix (p4 + (1 : Int32)))) m88) fun r89 m90 =>
      if r87 = r89 then (k (p4 + (5 : Int32)) m90)
      else none)))
    else if x1 = (14 : Int32) then (gd (inb (p4 + (1 : Int32)) L) (bnd (fX11_nights_0 (xs (ix (p4 + (1 : Int32)))) μ) fun r93 m94 =>
      gd (inb (p4 + (1 : Int32)) L) (bnd (fX12_nights_122 (xs (ix (p4 + (1 : Int32)))) m94) fun r95 m96 =>
      if r93 = r95 then (k (p4 + (5 : Int32)) m96)
      else none)))
    else if x1 = (15 : Int32) then (bnd (fX11_assize_0 μ) fun r99 m100 =>
      bnd (fX12_assize_122 m100) fun r101 m102 =>
      if r99 = r101 then (k (p4 + (5 : Int32)) m102)
      else none)
    else if x1 = (16 : Int32) then (bnd (fX11_undo_0 μ) fun r105 m106 =>
      bnd (fX12_undo_122 m106) fun r107 m108 =>
      if r105 = r107 then (k (p4 + (5 : Int32)) m108)
      else none)
    else if x1 = (17 : Int32) then (gd (inb (p4 + (1 : Int32)) L) (gd (inb (p4 + (2 : Int32)) L) (bnd (fX11_left_0 (xs (ix (p4 + (1 : Int32)))) (xs (ix (p4 + (2 : Int32)))) μ) fun r111 m112 =>
      gd (inb (p4 + (1 : Int32)) L) (gd (inb (p4 + (2 : Int32)) L) (bnd (fX12_left_122 (xs (ix (p4 + (1 : Int32)))) (xs (ix (p4 + (2 : Int32)))) m112) fun r113 m114 =>
      if r111 = r113 then (k (p4 + (5 : Int32)) m114)
      else none)))))
    else if x1 = (18 : Int32) then (gd (inb (p4 + (1 : Int32)) L) (bnd (fX11_dies_0 (xs (ix (p4 + (1 : Int32)))) μ) fun r117 m118 =>
      gd (inb (p4 + (1 : Int32)) L) (bnd (fX12_dies_122 (xs (ix (p4 + (1 : Int32)))) m118) fun r119 m120 =>
      if r117 = r119 then (k (p4 + (5 : Int32)) m120)
      else none)))
    else if x1 = (19 : Int32) then (gd (inb (p4 + (1 : Int32)) L) (gd (inb (p4 + (2 : Int32)) L) (bnd (fX11_speaks_0 (xs (ix (p4 + (1 : Int32)))) (xs (ix (p4 + (2 : Int32)))) μ) fun r123 m124 =>
      gd (inb (p4 + (1 : Int32)) L) (gd (inb (p4 + (2 : Int32)) L) (bnd (fX12_speaks_122 (xs (ix (p4 + (1 : Int32)))) (xs (ix (p4 + (2 : Int32)))) m124) fun r125 m126 =>
      if r123 = r125 then (k (p4 + (5 : Int32)) m126)
      else none)))))
    else if x1 = (20 : Int32) then (gd (inb (p4 + (1 : Int32)) L) (gd (inb (p4 + (2 : Int32)) L) (bnd (fX11_least_0 (xs (ix (p4 + (1 : Int32)))) (xs (ix (p4 + (2 : Int32)))) μ) fun r129 m130 =>
      gd (inb (p4 + (1 : Int32)) L) (gd (inb (p4 + (2 : Int32)) L) (bnd (fX12_least_122 (xs (ix (p4 + (1 : Int32)))) (xs (ix (p4 + (2 : Int32)))) m130) fun r131 m132 =>
      if r129 = r131 then (k (p4 + (5 : Int32)) m132)
      else none)))))
    else if x1 = (21 : Int32) then (gd (inb (p4 + (1 : Int32)) L) (gd (inb (p4 + (2 : Int32)) L) (bnd (fX11_mercy_0 (xs (ix (p4 + (1 : Int32)))) (xs (ix (p4 + (2 : Int32)))) μ) fun r135 m136 =>
      gd (inb (p4 + (1 : Int32)) L) (gd (inb (p4 + (2 : Int32)) L) (bnd (fX12_mercy_122 (xs (ix (p4 + (1 : Int32)))) (xs (ix (p4 + (2 : Int32)))) m136) fun r137 m138 =>
      if r135 = r137 then (k (p4 + (5 : Int32)) m138)
      else none)))))
    else if x1 = (22 : Int32) then (gd (inb (p4 + (1 : Int32)) L) (bnd (fX11_longest_0 (xs (ix (p4 + (1 : Int32)))) μ) fun r141 m142 =>
      gd (inb (p4 + (1 : Int32)) L) (bnd (fX12_longest_122 (xs (ix (p4 + (1 : Int32)))) m142) fun r143 m144 =>
      if r141 = r143 then (k (p4 + (5 : Int32)) m144)
      else none)))
    else if x1 = (23 : Int32) then (gd (inb (p4 + (1 : Int32)) L) (gd (inb (p4 + (2 : Int32)) L) (bnd (fX11_alike_0 (xs (ix (p4 + (1 : Int32)))) (xs (ix (p4 + (2 : Int32)))) μ) fun r147 m148 =>
      gd (inb (p4 + (1 : Int32)) L) (gd (inb (p4 + (2 : Int32)) L) (bnd (fX12_alike_122 (xs (ix (p4 + (1 : Int32)))) (xs (ix (p4 + (2 : Int32)))) m148) fun r149 m150 =>
      if r147 = r149 then (k (p4 + (5 : Int32)) m150)
      else none)))))
    else if x1 = (24 : Int32) then (gd (inb (p4 + (1 : Int32)) L) (bnd (fX11_stones_0 (xs (ix (p4 + (1 : Int32)))) μ) fun r153 m154 =>
      gd (inb (p4 + (1 : Int32)) L) (bnd (fX12_stones_122 (xs (ix (p4 + (1 : Int32)))) m154) fun r155 m156 =>
      if r153 = r155 then (k (p4 + (5 : Int32)) m156)
      else none)))
    else if x1 = (25 : Int32) then (gd (inb (p4 + (1 : Int32)) L) (bnd (fX11_silent_0 (xs (ix (p4 + (1 : Int32)))) μ) fun r159 m160 =>
      gd (inb (p4 + (1 : Int32)) L) (bnd (fX12_silent_122 (xs (ix (p4 + (1 : Int32)))) m160) fun r161 m162 =>
      if r159 = r161 then (k (p4 + (5 : Int32)) m162)
      else none)))
    else if x1 = (26 : Int32) then (gd (inb (p4 + (1 : Int32)) L) (gd (inb (p4 + (2 : Int32)) L) (bnd (fX11_proof_0 (xs (ix (p4 + (1 : Int32)))) (xs (ix (p4 + (2 : Int32)))) μ) fun r165 m166 =>
      gd (inb (p4 + (1 : Int32)) L) (gd (inb (p4 + (2 : Int32)) L) (bnd (fX12_proof_122 (xs (ix (p4 + (1 : Int32)))) (xs (ix (p4 + (2 : Int32)))) m166) fun r167 m168 =>
      if r165 = r167 then (k (p4 + (5 : Int32)) m168)
      else none)))))
    else if x1 = (27 : Int32) then (gd (inb (p4 + (1 : Int32)) L) (bnd (fX11_till_0 (xs (ix (p4 + (1 : Int32)))) μ) fun r171 m172 =>
      gd (inb (p4 + (1 : Int32)) L) (bnd (fX12_till_122 (xs (ix (p4 + (1 : Int32)))) m172) fun r173 m174 =>
      if r171 = r173 then (k (p4 + (5 : Int32)) m174)
      else none)))
    else if x1 = (28 : Int32) then (gd (inb (p4 + (1 : Int32)) L) (gd (inb (p4 + (2 : Int32)) L) (bnd (fX11_gains_0 (xs (ix (p4 + (1 : Int32)))) (xs (ix (p4 + (2 : Int32)))) μ) fun r177 m178 =>
      gd (inb (p4 + (1 : Int32)) L) (gd (inb (p4 + (2 : Int32)) L) (bnd (fX12_gains_122 (xs (ix (p4 + (1 : Int32)))) (xs (ix (p4 + (2 : Int32)))) m178) fun r179 m180 =>
      if r177 = r179 then (k (p4 + (5 : Int32)) m180)
      else none)))))
    else if x1 = (29 : Int32) then (gd (inb (p4 + (1 : Int32)) L) (gd (inb (p4 + (2 : Int32)) L) (bnd (fX11_lacks_0 (xs (ix (p4 + (1 : Int32)))) (xs (ix (p4 + (2 : Int32)))) μ) fun r183 m184 =>
      gd (inb (p4 + (1 : Int32)) L) (gd (inb (p4 + (2 : Int32)) L) (bnd (fX12_lacks_122 (xs (ix (p4 + (1 : Int32)))) (xs (ix (p4 + (2 : Int32)))) m184) fun r185 m186 =>
      if r183 = r185 then (k (p4 + (5 : Int32)) m186)
      else none)))))
    else if x1 = (30 : Int32) then (gd (inb (p4 + (1 : Int32)) L) (bnd (fX11_best_0 (xs (ix (p4 + (1 : Int32)))) μ) fun r189 m190 =>
      gd (inb (p4 + (1 : Int32)) L) (bnd (fX12_best_122 (xs (ix (p4 + (1 : Int32)))) m190) fun r191 m192 =>
      if r189 = r191 then (k (p4 + (5 : Int32)) m192)
      else none)))
    else if x1 = (31 : Int32) then (bnd (fX11_trials_0 μ) fun r195 m196 =>
      bnd (fX12_trials_122 m196) fun r197 m198 =>
      if r195 = r197 then (k (p4 + (5 : Int32)) m198)
      else none)
    else if x1 = (32 : Int32) then (bnd (fX11_docket_0 μ) fun r201 m202 =>
      bnd (fX12_docket_122 m202) fun r203 m204 =>
      if r201 = r203 then (k (p4 + (5 : Int32)) m204)
      else none)
    else if x1 = (33 : Int32) then (bnd (fX11_parts_0 μ) fun r207 m208 =>
      bnd (fX12_parts_122 m208) fun r209 m210 =>
      if r207 = r209 then (k (p4 + (5 : Int32)) m210)
      else none)
    else if x1 = (34 : Int32) then (gd (inb (p4 + (1 : Int32)) L) (bnd (fX11_hopes_0 (xs (ix (p4 + (1 : Int32)))) μ) fun r213 m214 =>
      gd (inb (p4 + (1 : Int32)) L) (bnd (fX12_hopes_122 (xs (ix (p4 + (1 : Int32)))) m214) fun r215 m216 =>
      if r213 = r215 then (k (p4 + (5 : Int32)) m216)
      else none)))
    else if x1 = (35 : Int32) then (bnd (fX11_reading_0 μ) fun r219 m220 =>
      bnd (fX12_reading_122 m220) fun r221 m222 =>
      if r219 = r221 then (k (p4 + (5 : Int32)) m222)
      else none)
    else if x1 = (36 : Int32) then (gd (inb (p4 + (1 : Int32)) L) (bnd (fX11_wants_0 (xs (ix (p4 + (1 : Int32)))) μ) fun r225 m226 =>
      gd (inb (p4 + (1 : Int32)) L) (bnd (fX12_wants_122 (xs (ix (p4 + (1 : Int32)))) m226) fun r227 m228 =>
      if r225 = r227 then (k (p4 + (5 : Int32)) m228)
      else none)))
    else if x1 = (37 : Int32) then (gd (inb (p4 + (1 : Int32)) L) (gd (inb (p4 + (2 : Int32)) L) (gd (inb (p4 + (3 : Int32)) L) (bnd (fX11_dumb_0 (xs (ix (p4 + (1 : Int32)))) (xs (ix (p4 + (2 : Int32)))) (xs (ix (p4 + (3 : Int32)))) μ) fun r231 m232 =>
      gd (inb (p4 + (1 : Int32)) L) (gd (inb (p4 + (2 : Int32)) L) (gd (inb (p4 + (3 : Int32)) L) (bnd (fX12_dumb_122 (xs (ix (p4 + (1 : Int32)))) (xs (ix (p4 + (2 : Int32)))) (xs (ix (p4 + (3 : Int32)))) m232) fun r233 m234 =>
      if r231 = r233 then (k (p4 + (5 : Int32)) m234)
      else none)))))))
    else if x1 = (38 : Int32) then (gd (inb (p4 + (1 : Int32)) L) (gd (inb (p4 + (2 : Int32)) L) (gd (inb (p4 + (3 : Int32)) L) (bnd (fX11_sure_0 (xs (ix (p4 + (1 : Int32)))) (xs (ix (p4 + (2 : Int32)))) (xs (ix (p4 + (3 : Int32)))) μ) fun r237 m238 =>
      gd (inb (p4 + (1 : Int32)) L) (gd (inb (p4 + (2 : Int32)) L) (gd (inb (p4 + (3 : Int32)) L) (bnd (fX12_sure_122 (xs (ix (p4 + (1 : Int32)))) (xs (ix (p4 + (2 : Int32)))) (xs (ix (p4 + (3 : Int32)))) m238) fun r239 m240 =>
      if r237 = r239 then (k (p4 + (5 : Int32)) m240)
      else none)))))))
    else if x1 = (39 : Int32) then (gd (inb (p4 + (1 : Int32)) L) (gd (inb (p4 + (2 : Int32)) L) (bnd (fX11_house_0 (xs (ix (p4 + (1 : Int32)))) (xs (ix (p4 + (2 : Int32)))) μ) fun r243 m244 =>
      gd (inb (p4 + (1 : Int32)) L) (gd (inb (p4 + (2 : Int32)) L) (bnd (fX12_house_122 (xs (ix (p4 + (1 : Int32)))) (xs (ix (p4 + (2 : Int32)))) m244) fun r245 m246 =>
      if r243 = r245 then (k (p4 + (5 : Int32)) m246)
      else none)))))
    else if x1 = (40 : Int32) then (gd (inb (p4 + (1 : Int32)) L) (gd (inb (p4 + (2 : Int32)) L) (bnd (fX11_search_0 (xs (ix (p4 + (1 : Int32)))) (xs (ix (p4 + (2 : Int32)))) μ) fun r249 m250 =>
      gd (inb (p4 + (1 : Int32)) L) (gd (inb (p4 + (2 : Int32)) L) (bnd (fX12_search_122 (xs (ix (p4 + (1 : Int32)))) (xs (ix (p4 + (2 : Int32)))) m250) fun r251 m252 =>
      if r249 = r251 then (k (p4 + (5 : Int32)) m252)
      else none)))))
    else if x1 = (41 : Int32) then (gd (inb (p4 + (1 : Int32)) L) (gd (inb (p4 + (2 : Int32)) L) (bnd (fX11_rests_0 (xs (ix (p4 + (1 : Int32)))) (xs (ix (p4 + (2 : Int32)))) μ) fun r255 m256 =>
      gd (inb (p4 + (1 : Int32)) L) (gd (inb (p4 + (2 : Int32)) L) (bnd (fX12_rests_122 (xs (ix (p4 + (1 : Int32)))) (xs (ix (p4 + (2 : Int32)))) m256) fun r257 m258 =>
      if r255 = r257 then (k (p4 + (5 : Int32)) m258)
      else none)))))
    else if x1 = (42 : Int32) then (gd (inb (p4 + (1 : Int32)) L) (gd (inb (p4 + (2 : Int32)) L) (bnd (fX11_years_0 (xs (ix (p4 + (1 : Int32)))) (xs (ix (p4 + (2 : Int32)))) μ) fun r261 m262 =>
      gd (inb (p4 + (1 : Int32)) L) (gd (inb (p4 + (2 : Int32)) L) (bnd (fX12_years_122 (xs (ix (p4 + (1 : Int32)))) (xs (ix (p4 + (2 : Int32)))) m262) fun r263 m264 =>
      if r261 = r263 then (k (p4 + (5 : Int32)) m264)
      else none)))))
    else if x1 = (43 : Int32) then (gd (inb (p4 + (1 : Int32)) L) (bnd (fX11_keep_0 (xs (ix (p4 + (1 : Int32)))) μ) fun r267 m268 =>
      gd (inb (p4 + (1 : Int32)) L) (bnd (fX12_keep_122 (xs (ix (p4 + (1 : Int32)))) m268) fun r269 m270 =>
      if r267 = r269 then (k (p4 + (5 : Int32)) m270)
      else none)))
    else if x1 = (44 : Int32) then (gd (inb (p4 + (1 : Int32)) L) (bnd (fX11_again_0 (xs (ix (p4 + (1 : Int32)))) μ) fun r273 m274 =>
      gd (inb (p4 + (1 : Int32)) L) (bnd (fX12_again_122 (xs (ix (p4 + (1 : Int32)))) m274) fun r275 m276 =>
      if r273 = r275 then (k (p4 + (5 : Int32)) m276)
      else none)))
    else if x1 = (45 : Int32) then (gd (inb (p4 + (1 : Int32)) L) (bnd (fX11_count_0 (xs (ix (p4 + (1 : Int32)))) μ) fun r279 m280 =>
      gd (inb (p4 + (1 : Int32)) L) (bnd (fX12_count_122 (xs (ix (p4 + (1 : Int32)))) m280) fun r281 m282 =>
      if r279 = r281 then (k (p4 + (5 : Int32)) m282)
      else none)))
    else if x1 = (46 : Int32) then (gd (inb (p4 + (1 : Int32)) L) (bnd (fH_row (xs (ix (p4 + (1 : Int32)))) μ) fun r285 m286 =>
      gd (inb (p4 + (1 : Int32)) L) (bnd (fX12_row_122 (xs (ix (p4 + (1 : Int32)))) m286) fun r287 m288 =>
      bnd (fX12_thrown_122 m288) fun r289 m290 =>
      if r289 = r285 then (if r285 = 0 then (gd (inb (0 : Int32) 1) (if (lg_cmp (gL m290 149 (ix (0 : Int32))) r287) = 0 then (k (p4 + (5 : Int32)) m290)
          else none))
        else k (p4 + (5 : Int32)) m290)
      else none)))
    else k (p4 + (5 : Int32)) μ
theorem fLaw_x {k : Int32 → Mem → Option (Unit × Mem)} {L : Nat} {xs : Nat → Int32} {p4 : Int32} {μ : Mem} (h : ¬ nI L - 5 < p4) (h2 : inb p4 L = true) : fLaw k L xs p4 μ = fLawX k L xs p4 (xs (ix p4) &&& 63) μ := by
  unfold fLaw fLawX
  rw [if_neg h, gd_of h2, lt_e]
theorem fLX_0 {k : Int32 → Mem → Option (Unit × Mem)} {L : Nat} {xs : Nat → Int32} {p4 : Int32} {μ : Mem} : fLawX k L xs p4 (0 : Int32) μ = (gd (inb (p4 + (1 : Int32)) L) (bnd (fX11_sign_0 (xs (ix (p4 + (1 : Int32)))) μ) fun r3 m4 =>
      gd (inb (p4 + (1 : Int32)) L) (bnd (fX12_sign_122 (xs (ix (p4 + (1 : Int32)))) m4) fun r5 m6 =>
      if r3 = r5 then (k (p4 + (5 : Int32)) m6)
      else none))) := by
  unfold fLawX
  rw [if_pos (show (0 : Int32) = 0 from rfl)]
theorem fLX_1 {k : Int32 → Mem → Option (Unit × Mem)} {L : Nat} {xs : Nat → Int32} {p4 : Int32} {μ : Mem} : fLawX k L xs p4 (1 : Int32) μ = (gd (inb (p4 + (1 : Int32)) L) (bnd (fX11_end_0 (xs (ix (p4 + (1 : Int32)))) μ) fun r9 m10 =>
      gd (inb (p4 + (1 : Int32)) L) (bnd (fX12_end_122 (xs (ix (p4 + (1 : Int32)))) m10) fun r11 m12 =>
      if r9 = r11 then (k (p4 + (5 : Int32)) m12)
      else none))) := by
  unfold fLawX
  rw [if_neg (show ¬ (1 : Int32) = 0 by decide), if_pos (show (1 : Int32) = 1 from rfl)]
theorem fLX_2 {k : Int32 → Mem → Option (Unit × Mem)} {L : Nat} {xs : Nat → Int32} {p4 : Int32} {μ : Mem} : fLawX k L xs p4 (2 : Int32) μ = (bnd (fX11_prisoners_0 μ) fun r15 m16 =>
      bnd (fX12_prisoners_122 m16) fun r17 m18 =>
      if r15 = r17 then (k (p4 + (5 : Int32)) m18)
      else none) := by
  unfold fLawX
  rw [if_neg (show ¬ (2 : Int32) = 0 by decide), if_neg (show ¬ (2 : Int32) = 1 by decide), if_pos (show (2 : Int32) = 2 from rfl)]
theorem fLX_3 {k : Int32 → Mem → Option (Unit × Mem)} {L : Nat} {xs : Nat → Int32} {p4 : Int32} {μ : Mem} : fLawX k L xs p4 (3 : Int32) μ = (bnd (fX11_values_0 μ) fun r21 m22 =>
      bnd (fX12_values_122 m22) fun r23 m24 =>
      if r21 = r23 then (k (p4 + (5 : Int32)) m24)
      else none) := by
  unfold fLawX
  rw [if_neg (show ¬ (3 : Int32) = 0 by decide), if_neg (show ¬ (3 : Int32) = 1 by decide), if_neg (show ¬ (3 : Int32) = 2 by decide), if_pos (show (3 : Int32) = 3 from rfl)]
theorem fLX_4 {k : Int32 → Mem → Option (Unit × Mem)} {L : Nat} {xs : Nat → Int32} {p4 : Int32} {μ : Mem} : fLawX k L xs p4 (4 : Int32) μ = (bnd (fX11_witnesses_0 μ) fun r27 m28 =>
      bnd (fX12_witnesses_122 m28) fun r29 m30 =>
      if r27 = r29 then (k (p4 + (5 : Int32)) m30)
      else none) := by
  unfold fLawX
  rw [if_neg (show ¬ (4 : Int32) = 0 by decide), if_neg (show ¬ (4 : Int32) = 1 by decide), if_neg (show ¬ (4 : Int32) = 2 by decide), if_neg (show ¬ (4 : Int32) = 3 by decide), if_pos (show (4 : Int32) = 4 from rfl)]
theorem fLX_5 {k : Int32 → Mem → Option (Unit × Mem)} {L : Nat} {xs : Nat → Int32} {p4 : Int32} {μ : Mem} : fLawX k L xs p4 (5 : Int32) μ = (bnd (fX11_law_0 μ) fun r33 m34 =>
      bnd (fX12_law_122 m34) fun r35 m36 =>
      if r33 = r35 then (k (p4 + (5 : Int32)) m36)
      else none) := by
  unfold fLawX
  rw [if_neg (show ¬ (5 : Int32) = 0 by decide), if_neg (show ¬ (5 : Int32) = 1 by decide), if_neg (show ¬ (5 : Int32) = 2 by decide), if_neg (show ¬ (5 : Int32) = 3 by decide), if_neg (show ¬ (5 : Int32) = 4 by decide), if_pos (show (5 : Int32) = 5 from rfl)]
theorem fLX_6 {k : Int32 → Mem → Option (Unit × Mem)} {L : Nat} {xs : Nat → Int32} {p4 : Int32} {μ : Mem} : fLawX k L xs p4 (6 : Int32) μ = (bnd (fX11_rule_0 μ) fun r39 m40 =>
      bnd (fX12_rule_122 m40) fun r41 m42 =>
      if r39 = r41 then (k (p4 + (5 : Int32)) m42)
      else none) := by
  unfold fLawX
  rw [if_neg (show ¬ (6 : Int32) = 0 by decide), if_neg (show ¬ (6 : Int32) = 1 by decide), if_neg (show ¬ (6 : Int32) = 2 by decide), if_neg (show ¬ (6 : Int32) = 3 by decide), if_neg (show ¬ (6 : Int32) = 4 by decide), if_neg (show ¬ (6 : Int32) = 5 by decide), if_pos (show (6 : Int32) = 6 from rfl)]
theorem fLX_7 {k : Int32 → Mem → Option (Unit × Mem)} {L : Nat} {xs : Nat → Int32} {p4 : Int32} {μ : Mem} : fLawX k L xs p4 (7 : Int32) μ = (gd (inb (p4 + (1 : Int32)) L) (gd (inb (p4 + (2 : Int32)) L) (bnd (fH_prisoner (xs (ix (p4 + (1 : Int32)))) (xs (ix (p4 + (2 : Int32)))) μ) fun r45 m46 =>
      gd (inb (p4 + (1 : Int32)) L) (gd (inb (p4 + (2 : Int32)) L) (bnd (fX12_prisoner_122 (xs (ix (p4 + (1 : Int32)))) (xs (ix (p4 + (2 : Int32)))) m46) fun r47 m48 =>
      bnd (fX12_thrown_122 m48) fun r49 m50 =>
      if r49 = r45 then (if r45 = 0 then (gd (inb (0 : Int32) 1) (if (lg_cmp (gL m50 149 (ix (0 : Int32))) (Int32.toInt64 r47)) = 0 then (k (p4 + (5 : Int32)) m50)
          else none))
        else k (p4 + (5 : Int32)) m50)
      else none))))) := by
  unfold fLawX
  rw [if_neg (show ¬ (7 : Int32) = 0 by decide), if_neg (show ¬ (7 : Int32) = 1 by decide), if_neg (show ¬ (7 : Int32) = 2 by decide), if_neg (show ¬ (7 : Int32) = 3 by decide), if_neg (show ¬ (7 : Int32) = 4 by decide), if_neg (show ¬ (7 : Int32) = 5 by decide), if_neg (show ¬ (7 : Int32) = 6 by decide), if_pos (show (7 : Int32) = 7 from rfl)]
theorem fLX_8 {k : Int32 → Mem → Option (Unit × Mem)} {L : Nat} {xs : Nat → Int32} {p4 : Int32} {μ : Mem} : fLawX k L xs p4 (8 : Int32) μ = (gd (inb (p4 + (1 : Int32)) L) (gd (inb (p4 + (2 : Int32)) L) (bnd (fH_witness (xs (ix (p4 + (1 : Int32)))) (xs (ix (p4 + (2 : Int32)))) μ) fun r54 m55 =>
      gd (inb (p4 + (1 : Int32)) L) (gd (inb (p4 + (2 : Int32)) L) (bnd (fX12_witness_122 (xs (ix (p4 + (1 : Int32)))) (xs (ix (p4 + (2 : Int32)))) m55) fun r56 m57 =>
      bnd (fX12_thrown_122 m57) fun r58 m59 =>
      if r58 = r54 then (if r54 = 0 then (gd (inb (0 : Int32) 1) (if (lg_cmp (gL m59 149 (ix (0 : Int32))) (Int32.toInt64 r56)) = 0 then (k (p4 + (5 : Int32)) m59)
          else none))
        else k (p4 + (5 : Int32)) m59)
      else none))))) := by
  unfold fLawX
  rw [if_neg (show ¬ (8 : Int32) = 0 by decide), if_neg (show ¬ (8 : Int32) = 1 by decide), if_neg (show ¬ (8 : Int32) = 2 by decide), if_neg (show ¬ (8 : Int32) = 3 by decide), if_neg (show ¬ (8 : Int32) = 4 by decide), if_neg (show ¬ (8 : Int32) = 5 by decide), if_neg (show ¬ (8 : Int32) = 6 by decide), if_neg (show ¬ (8 : Int32) = 7 by decide), if_pos (show (8 : Int32) = 8 from rfl)]
theorem fLX_9 {k : Int32 → Mem → Option (Unit × Mem)} {L : Nat} {xs : Nat → Int32} {p4 : Int32} {μ : Mem} : fLawX k L xs p4 (9 : Int32) μ = (gd (inb (p4 + (1 : Int32)) L) (bnd (fX11_ends_0 (xs (ix (p4 + (1 : Int32)))) μ) fun r63 m64 =>
      gd (inb (p4 + (1 : Int32)) L) (bnd (fX12_ends_122 (xs (ix (p4 + (1 : Int32)))) m64) fun r65 m66 =>
      if r63 = r65 then (k (p4 + (5 : Int32)) m66)
      else none))) := by
  unfold fLawX
  rw [if_neg (show ¬ (9 : Int32) = 0 by decide), if_neg (show ¬ (9 : Int32) = 1 by decide), if_neg (show ¬ (9 : Int32) = 2 by decide), if_neg (show ¬ (9 : Int32) = 3 by decide), if_neg (show ¬ (9 : Int32) = 4 by decide), if_neg (show ¬ (9 : Int32) = 5 by decide), if_neg (show ¬ (9 : Int32) = 6 by decide), if_neg (show ¬ (9 : Int32) = 7 by decide), if_neg (show ¬ (9 : Int32) = 8 by decide), if_pos (show (9 : Int32) = 9 from rfl)]
theorem fLX_10 {k : Int32 → Mem → Option (Unit × Mem)} {L : Nat} {xs : Nat → Int32} {p4 : Int32} {μ : Mem} : fLawX k L xs p4 (10 : Int32) μ = (gd (inb (p4 + (1 : Int32)) L) (gd (inb (p4 + (2 : Int32)) L) (gd (inb (p4 + (3 : Int32)) L) (gd (inb (p4 + (4 : Int32)) L) (bnd (fX11_sheet_0 (xs (ix (p4 + (1 : Int32)))) (xs (ix (p4 + (2 : Int32)))) (xs (ix (p4 + (3 : Int32)))) (xs (ix (p4 + (4 : Int32)))) μ) fun r69 m70 =>
      gd (inb (p4 + (1 : Int32)) L) (gd (inb (p4 + (2 : Int32)) L) (gd (inb (p4 + (3 : Int32)) L) (gd (inb (p4 + (4 : Int32)) L) (bnd (fX12_sheet_122 (xs (ix (p4 + (1 : Int32)))) (xs (ix (p4 + (2 : Int32)))) (xs (ix (p4 + (3 : Int32)))) (xs (ix (p4 + (4 : Int32)))) m70) fun r71 m72 =>
      if r69 = r71 then (k (p4 + (5 : Int32)) m72)
      else none))))))))) := by
  unfold fLawX
  rw [if_neg (show ¬ (10 : Int32) = 0 by decide), if_neg (show ¬ (10 : Int32) = 1 by decide), if_neg (show ¬ (10 : Int32) = 2 by decide), if_neg (show ¬ (10 : Int32) = 3 by decide), if_neg (show ¬ (10 : Int32) = 4 by decide), if_neg (show ¬ (10 : Int32) = 5 by decide), if_neg (show ¬ (10 : Int32) = 6 by decide), if_neg (show ¬ (10 : Int32) = 7 by decide), if_neg (show ¬ (10 : Int32) = 8 by decide), if_neg (show ¬ (10 : Int32) = 9 by decide), if_pos (show (10 : Int32) = 10 from rfl)]
theorem fLX_11 {k : Int32 → Mem → Option (Unit × Mem)} {L : Nat} {xs : Nat → Int32} {p4 : Int32} {μ : Mem} : fLawX k L xs p4 (11 : Int32) μ = (gd (inb (p4 + (1 : Int32)) L) (gd (inb (p4 + (2 : Int32)) L) (bnd (fX11_lay_0 (xs (ix (p4 + (1 : Int32)))) (xs (ix (p4 + (2 : Int32)))) μ) fun r75 m76 =>
      gd (inb (p4 + (1 : Int32)) L) (gd (inb (p4 + (2 : Int32)) L) (bnd (fX12_lay__122 (xs (ix (p4 + (1 : Int32)))) (xs (ix (p4 + (2 : Int32)))) m76) fun r77 m78 =>
      if r75 = r77 then (k (p4 + (5 : Int32)) m78)
      else none))))) := by
  unfold fLawX
  rw [if_neg (show ¬ (11 : Int32) = 0 by decide), if_neg (show ¬ (11 : Int32) = 1 by decide), if_neg (show ¬ (11 : Int32) = 2 by decide), if_neg (show ¬ (11 : Int32) = 3 by decide), if_neg (show ¬ (11 : Int32) = 4 by decide), if_neg (show ¬ (11 : Int32) = 5 by decide), if_neg (show ¬ (11 : Int32) = 6 by decide), if_neg (show ¬ (11 : Int32) = 7 by decide), if_neg (show ¬ (11 : Int32) = 8 by decide), if_neg (show ¬ (11 : Int32) = 9 by decide), if_neg (show ¬ (11 : Int32) = 10 by decide), if_pos (show (11 : Int32) = 11 from rfl)]
theorem fLX_12 {k : Int32 → Mem → Option (Unit × Mem)} {L : Nat} {xs : Nat → Int32} {p4 : Int32} {μ : Mem} : fLawX k L xs p4 (12 : Int32) μ = (gd (inb (p4 + (1 : Int32)) L) (bnd (fX11_ask_0 (xs (ix (p4 + (1 : Int32)))) μ) fun r81 m82 =>
      gd (inb (p4 + (1 : Int32)) L) (bnd (fX12_ask_122 (xs (ix (p4 + (1 : Int32)))) m82) fun r83 m84 =>
      if r81 = r83 then (k (p4 + (5 : Int32)) m84)
      else none))) := by
  unfold fLawX
  rw [if_neg (show ¬ (12 : Int32) = 0 by decide), if_neg (show ¬ (12 : Int32) = 1 by decide), if_neg (show ¬ (12 : Int32) = 2 by decide), if_neg (show ¬ (12 : Int32) = 3 by decide), if_neg (show ¬ (12 : Int32) = 4 by decide), if_neg (show ¬ (12 : Int32) = 5 by decide), if_neg (show ¬ (12 : Int32) = 6 by decide), if_neg (show ¬ (12 : Int32) = 7 by decide), if_neg (show ¬ (12 : Int32) = 8 by decide), if_neg (show ¬ (12 : Int32) = 9 by decide), if_neg (show ¬ (12 : Int32) = 10 by decide), if_neg (show ¬ (12 : Int32) = 11 by decide), if_pos (show (12 : Int32) = 12 from rfl)]
theorem fLX_13 {k : Int32 → Mem → Option (Unit × Mem)} {L : Nat} {xs : Nat → Int32} {p4 : Int32} {μ : Mem} : fLawX k L xs p4 (13 : Int32) μ = (gd (inb (p4 + (1 : Int32)) L) (bnd (fX11_judge_0 (xs (ix (p4 + (1 : Int32)))) μ) fun r87 m88 =>
      gd (inb (p4 + (1 : Int32)) L) (bnd (fX12_judge_122 (xs (ix (p4 + (1 : Int32)))) m88) fun r89 m90 =>
      if r87 = r89 then (k (p4 + (5 : Int32)) m90)
      else none))) := by
  unfold fLawX
  rw [if_neg (show ¬ (13 : Int32) = 0 by decide), if_neg (show ¬ (13 : Int32) = 1 by decide), if_neg (show ¬ (13 : Int32) = 2 by decide), if_neg (show ¬ (13 : Int32) = 3 by decide), if_neg (show ¬ (13 : Int32) = 4 by decide), if_neg (show ¬ (13 : Int32) = 5 by decide), if_neg (show ¬ (13 : Int32) = 6 by decide), if_neg (show ¬ (13 : Int32) = 7 by decide), if_neg (show ¬ (13 : Int32) = 8 by decide), if_neg (show ¬ (13 : Int32) = 9 by decide), if_neg (show ¬ (13 : Int32) = 10 by decide), if_neg (show ¬ (13 : Int32) = 11 by decide), if_neg (show ¬ (13 : Int32) = 12 by decide), if_pos (show (13 : Int32) = 13 from rfl)]
theorem fLX_14 {k : Int32 → Mem → Option (Unit × Mem)} {L : Nat} {xs : Nat → Int32} {p4 : Int32} {μ : Mem} : fLawX k L xs p4 (14 : Int32) μ = (gd (inb (p4 + (1 : Int32)) L) (bnd (fX11_nights_0 (xs (ix (p4 + (1 : Int32)))) μ) fun r93 m94 =>
      gd (inb (p4 + (1 : Int32)) L) (bnd (fX12_nights_122 (xs (ix (p4 + (1 : Int32)))) m94) fun r95 m96 =>
      if r93 = r95 then (k (p4 + (5 : Int32)) m96)
      else none))) := by
  unfold fLawX
  rw [if_neg (show ¬ (14 : Int32) = 0 by decide), if_neg (show ¬ (14 : Int32) = 1 by decide), if_neg (show ¬ (14 : Int32) = 2 by decide), if_neg (show ¬ (14 : Int32) = 3 by decide), if_neg (show ¬ (14 : Int32) = 4 by decide), if_neg (show ¬ (14 : Int32) = 5 by decide), if_neg (show ¬ (14 : Int32) = 6 by decide), if_neg (show ¬ (14 : Int32) = 7 by decide), if_neg (show ¬ (14 : Int32) = 8 by decide), if_neg (show ¬ (14 : Int32) = 9 by decide), if_neg (show ¬ (14 : Int32) = 10 by decide), if_neg (show ¬ (14 : Int32) = 11 by decide), if_neg (show ¬ (14 : Int32) = 12 by decide), if_neg (show ¬ (14 : Int32) = 13 by decide), if_pos (show (14 : Int32) = 14 from rfl)]
theorem fLX_15 {k : Int32 → Mem → Option (Unit × Mem)} {L : Nat} {xs : Nat → Int32} {p4 : Int32} {μ : Mem} : fLawX k L xs p4 (15 : Int32) μ = (bnd (fX11_assize_0 μ) fun r99 m100 =>
      bnd (fX12_assize_122 m100) fun r101 m102 =>
      if r99 = r101 then (k (p4 + (5 : Int32)) m102)
      else none) := by
  unfold fLawX
  rw [if_neg (show ¬ (15 : Int32) = 0 by decide), if_neg (show ¬ (15 : Int32) = 1 by decide), if_neg (show ¬ (15 : Int32) = 2 by decide), if_neg (show ¬ (15 : Int32) = 3 by decide), if_neg (show ¬ (15 : Int32) = 4 by decide), if_neg (show ¬ (15 : Int32) = 5 by decide), if_neg (show ¬ (15 : Int32) = 6 by decide), if_neg (show ¬ (15 : Int32) = 7 by decide), if_neg (show ¬ (15 : Int32) = 8 by decide), if_neg (show ¬ (15 : Int32) = 9 by decide), if_neg (show ¬ (15 : Int32) = 10 by decide), if_neg (show ¬ (15 : Int32) = 11 by decide), if_neg (show ¬ (15 : Int32) = 12 by decide), if_neg (show ¬ (15 : Int32) = 13 by decide), if_neg (show ¬ (15 : Int32) = 14 by decide), if_pos (show (15 : Int32) = 15 from rfl)]
theorem fLX_16 {k : Int32 → Mem → Option (Unit × Mem)} {L : Nat} {xs : Nat → Int32} {p4 : Int32} {μ : Mem} : fLawX k L xs p4 (16 : Int32) μ = (bnd (fX11_undo_0 μ) fun r105 m106 =>
      bnd (fX12_undo_122 m106) fun r107 m108 =>
      if r105 = r107 then (k (p4 + (5 : Int32)) m108)
      else none) := by
  unfold fLawX
  rw [if_neg (show ¬ (16 : Int32) = 0 by decide), if_neg (show ¬ (16 : Int32) = 1 by decide), if_neg (show ¬ (16 : Int32) = 2 by decide), if_neg (show ¬ (16 : Int32) = 3 by decide), if_neg (show ¬ (16 : Int32) = 4 by decide), if_neg (show ¬ (16 : Int32) = 5 by decide), if_neg (show ¬ (16 : Int32) = 6 by decide), if_neg (show ¬ (16 : Int32) = 7 by decide), if_neg (show ¬ (16 : Int32) = 8 by decide), if_neg (show ¬ (16 : Int32) = 9 by decide), if_neg (show ¬ (16 : Int32) = 10 by decide), if_neg (show ¬ (16 : Int32) = 11 by decide), if_neg (show ¬ (16 : Int32) = 12 by decide), if_neg (show ¬ (16 : Int32) = 13 by decide), if_neg (show ¬ (16 : Int32) = 14 by decide), if_neg (show ¬ (16 : Int32) = 15 by decide), if_pos (show (16 : Int32) = 16 from rfl)]
theorem fLX_17 {k : Int32 → Mem → Option (Unit × Mem)} {L : Nat} {xs : Nat → Int32} {p4 : Int32} {μ : Mem} : fLawX k L xs p4 (17 : Int32) μ = (gd (inb (p4 + (1 : Int32)) L) (gd (inb (p4 + (2 : Int32)) L) (bnd (fX11_left_0 (xs (ix (p4 + (1 : Int32)))) (xs (ix (p4 + (2 : Int32)))) μ) fun r111 m112 =>
      gd (inb (p4 + (1 : Int32)) L) (gd (inb (p4 + (2 : Int32)) L) (bnd (fX12_left_122 (xs (ix (p4 + (1 : Int32)))) (xs (ix (p4 + (2 : Int32)))) m112) fun r113 m114 =>
      if r111 = r113 then (k (p4 + (5 : Int32)) m114)
      else none))))) := by
  unfold fLawX
  rw [if_neg (show ¬ (17 : Int32) = 0 by decide), if_neg (show ¬ (17 : Int32) = 1 by decide), if_neg (show ¬ (17 : Int32) = 2 by decide), if_neg (show ¬ (17 : Int32) = 3 by decide), if_neg (show ¬ (17 : Int32) = 4 by decide), if_neg (show ¬ (17 : Int32) = 5 by decide), if_neg (show ¬ (17 : Int32) = 6 by decide), if_neg (show ¬ (17 : Int32) = 7 by decide), if_neg (show ¬ (17 : Int32) = 8 by decide), if_neg (show ¬ (17 : Int32) = 9 by decide), if_neg (show ¬ (17 : Int32) = 10 by decide), if_neg (show ¬ (17 : Int32) = 11 by decide), if_neg (show ¬ (17 : Int32) = 12 by decide), if_neg (show ¬ (17 : Int32) = 13 by decide), if_neg (show ¬ (17 : Int32) = 14 by decide), if_neg (show ¬ (17 : Int32) = 15 by decide), if_neg (show ¬ (17 : Int32) = 16 by decide), if_pos (show (17 : Int32) = 17 from rfl)]
theorem fLX_18 {k : Int32 → Mem → Option (Unit × Mem)} {L : Nat} {xs : Nat → Int32} {p4 : Int32} {μ : Mem} : fLawX k L xs p4 (18 : Int32) μ = (gd (inb (p4 + (1 : Int32)) L) (bnd (fX11_dies_0 (xs (ix (p4 + (1 : Int32)))) μ) fun r117 m118 =>
      gd (inb (p4 + (1 : Int32)) L) (bnd (fX12_dies_122 (xs (ix (p4 + (1 : Int32)))) m118) fun r119 m120 =>
      if r117 = r119 then (k (p4 + (5 : Int32)) m120)
      else none))) := by
  unfold fLawX
  rw [if_neg (show ¬ (18 : Int32) = 0 by decide), if_neg (show ¬ (18 : Int32) = 1 by decide), if_neg (show ¬ (18 : Int32) = 2 by decide), if_neg (show ¬ (18 : Int32) = 3 by decide), if_neg (show ¬ (18 : Int32) = 4 by decide), if_neg (show ¬ (18 : Int32) = 5 by decide), if_neg (show ¬ (18 : Int32) = 6 by decide), if_neg (show ¬ (18 : Int32) = 7 by decide), if_neg (show ¬ (18 : Int32) = 8 by decide), if_neg (show ¬ (18 : Int32) = 9 by decide), if_neg (show ¬ (18 : Int32) = 10 by decide), if_neg (show ¬ (18 : Int32) = 11 by decide), if_neg (show ¬ (18 : Int32) = 12 by decide), if_neg (show ¬ (18 : Int32) = 13 by decide), if_neg (show ¬ (18 : Int32) = 14 by decide), if_neg (show ¬ (18 : Int32) = 15 by decide), if_neg (show ¬ (18 : Int32) = 16 by decide), if_neg (show ¬ (18 : Int32) = 17 by decide), if_pos (show (18 : Int32) = 18 from rfl)]
theorem fLX_19 {k : Int32 → Mem → Option (Unit × Mem)} {L : Nat} {xs : Nat → Int32} {p4 : Int32} {μ : Mem} : fLawX k L xs p4 (19 : Int32) μ = (gd (inb (p4 + (1 : Int32)) L) (gd (inb (p4 + (2 : Int32)) L) (bnd (fX11_speaks_0 (xs (ix (p4 + (1 : Int32)))) (xs (ix (p4 + (2 : Int32)))) μ) fun r123 m124 =>
      gd (inb (p4 + (1 : Int32)) L) (gd (inb (p4 + (2 : Int32)) L) (bnd (fX12_speaks_122 (xs (ix (p4 + (1 : Int32)))) (xs (ix (p4 + (2 : Int32)))) m124) fun r125 m126 =>
      if r123 = r125 then (k (p4 + (5 : Int32)) m126)
      else none))))) := by
  unfold fLawX
  rw [if_neg (show ¬ (19 : Int32) = 0 by decide), if_neg (show ¬ (19 : Int32) = 1 by decide), if_neg (show ¬ (19 : Int32) = 2 by decide), if_neg (show ¬ (19 : Int32) = 3 by decide), if_neg (show ¬ (19 : Int32) = 4 by decide), if_neg (show ¬ (19 : Int32) = 5 by decide), if_neg (show ¬ (19 : Int32) = 6 by decide), if_neg (show ¬ (19 : Int32) = 7 by decide), if_neg (show ¬ (19 : Int32) = 8 by decide), if_neg (show ¬ (19 : Int32) = 9 by decide), if_neg (show ¬ (19 : Int32) = 10 by decide), if_neg (show ¬ (19 : Int32) = 11 by decide), if_neg (show ¬ (19 : Int32) = 12 by decide), if_neg (show ¬ (19 : Int32) = 13 by decide), if_neg (show ¬ (19 : Int32) = 14 by decide), if_neg (show ¬ (19 : Int32) = 15 by decide), if_neg (show ¬ (19 : Int32) = 16 by decide), if_neg (show ¬ (19 : Int32) = 17 by decide), if_neg (show ¬ (19 : Int32) = 18 by decide), if_pos (show (19 : Int32) = 19 from rfl)]
theorem fLX_20 {k : Int32 → Mem → Option (Unit × Mem)} {L : Nat} {xs : Nat → Int32} {p4 : Int32} {μ : Mem} : fLawX k L xs p4 (20 : Int32) μ = (gd (inb (p4 + (1 : Int32)) L) (gd (inb (p4 + (2 : Int32)) L) (bnd (fX11_least_0 (xs (ix (p4 + (1 : Int32)))) (xs (ix (p4 + (2 : Int32)))) μ) fun r129 m130 =>
      gd (inb (p4 + (1 : Int32)) L) (gd (inb (p4 + (2 : Int32)) L) (bnd (fX12_least_122 (xs (ix (p4 + (1 : Int32)))) (xs (ix (p4 + (2 : Int32)))) m130) fun r131 m132 =>
      if r129 = r131 then (k (p4 + (5 : Int32)) m132)
      else none))))) := by
  unfold fLawX
  rw [if_neg (show ¬ (20 : Int32) = 0 by decide), if_neg (show ¬ (20 : Int32) = 1 by decide), if_neg (show ¬ (20 : Int32) = 2 by decide), if_neg (show ¬ (20 : Int32) = 3 by decide), if_neg (show ¬ (20 : Int32) = 4 by decide), if_neg (show ¬ (20 : Int32) = 5 by decide), if_neg (show ¬ (20 : Int32) = 6 by decide), if_neg (show ¬ (20 : Int32) = 7 by decide), if_neg (show ¬ (20 : Int32) = 8 by decide), if_neg (show ¬ (20 : Int32) = 9 by decide), if_neg (show ¬ (20 : Int32) = 10 by decide), if_neg (show ¬ (20 : Int32) = 11 by decide), if_neg (show ¬ (20 : Int32) = 12 by decide), if_neg (show ¬ (20 : Int32) = 13 by decide), if_neg (show ¬ (20 : Int32) = 14 by decide), if_neg (show ¬ (20 : Int32) = 15 by decide), if_neg (show ¬ (20 : Int32) = 16 by decide), if_neg (show ¬ (20 : Int32) = 17 by decide), if_neg (show ¬ (20 : Int32) = 18 by decide), if_neg (show ¬ (20 : Int32) = 19 by decide), if_pos (show (20 : Int32) = 20 from rfl)]
theorem fLX_21 {k : Int32 → Mem → Option (Unit × Mem)} {L : Nat} {xs : Nat → Int32} {p4 : Int32} {μ : Mem} : fLawX k L xs p4 (21 : Int32) μ = (gd (inb (p4 + (1 : Int32)) L) (gd (inb (p4 + (2 : Int32)) L) (bnd (fX11_mercy_0 (xs (ix (p4 + (1 : Int32)))) (xs (ix (p4 + (2 : Int32)))) μ) fun r135 m136 =>
      gd (inb (p4 + (1 : Int32)) L) (gd (inb (p4 + (2 : Int32)) L) (bnd (fX12_mercy_122 (xs (ix (p4 + (1 : Int32)))) (xs (ix (p4 + (2 : Int32)))) m136) fun r137 m138 =>
      if r135 = r137 then (k (p4 + (5 : Int32)) m138)
      else none))))) := by
  unfold fLawX
  rw [if_neg (show ¬ (21 : Int32) = 0 by decide), if_neg (show ¬ (21 : Int32) = 1 by decide), if_neg (show ¬ (21 : Int32) = 2 by decide), if_neg (show ¬ (21 : Int32) = 3 by decide), if_neg (show ¬ (21 : Int32) = 4 by decide), if_neg (show ¬ (21 : Int32) = 5 by decide), if_neg (show ¬ (21 : Int32) = 6 by decide), if_neg (show ¬ (21 : Int32) = 7 by decide), if_neg (show ¬ (21 : Int32) = 8 by decide), if_neg (show ¬ (21 : Int32) = 9 by decide), if_neg (show ¬ (21 : Int32) = 10 by decide), if_neg (show ¬ (21 : Int32) = 11 by decide), if_neg (show ¬ (21 : Int32) = 12 by decide), if_neg (show ¬ (21 : Int32) = 13 by decide), if_neg (show ¬ (21 : Int32) = 14 by decide), if_neg (show ¬ (21 : Int32) = 15 by decide), if_neg (show ¬ (21 : Int32) = 16 by decide), if_neg (show ¬ (21 : Int32) = 17 by decide), if_neg (show ¬ (21 : Int32) = 18 by decide), if_neg (show ¬ (21 : Int32) = 19 by decide), if_neg (show ¬ (21 : Int32) = 20 by decide), if_pos (show (21 : Int32) = 21 from rfl)]
theorem fLX_22 {k : Int32 → Mem → Option (Unit × Mem)} {L : Nat} {xs : Nat → Int32} {p4 : Int32} {μ : Mem} : fLawX k L xs p4 (22 : Int32) μ = (gd (inb (p4 + (1 : Int32)) L) (bnd (fX11_longest_0 (xs (ix (p4 + (1 : Int32)))) μ) fun r141 m142 =>
      gd (inb (p4 + (1 : Int32)) L) (bnd (fX12_longest_122 (xs (ix (p4 + (1 : Int32)))) m142) fun r143 m144 =>
      if r141 = r143 then (k (p4 + (5 : Int32)) m144)
      else none))) := by
  unfold fLawX
  rw [if_neg (show ¬ (22 : Int32) = 0 by decide), if_neg (show ¬ (22 : Int32) = 1 by decide), if_neg (show ¬ (22 : Int32) = 2 by decide), if_neg (show ¬ (22 : Int32) = 3 by decide), if_neg (show ¬ (22 : Int32) = 4 by decide), if_neg (show ¬ (22 : Int32) = 5 by decide), if_neg (show ¬ (22 : Int32) = 6 by decide), if_neg (show ¬ (22 : Int32) = 7 by decide), if_neg (show ¬ (22 : Int32) = 8 by decide), if_neg (show ¬ (22 : Int32) = 9 by decide), if_neg (show ¬ (22 : Int32) = 10 by decide), if_neg (show ¬ (22 : Int32) = 11 by decide), if_neg (show ¬ (22 : Int32) = 12 by decide), if_neg (show ¬ (22 : Int32) = 13 by decide), if_neg (show ¬ (22 : Int32) = 14 by decide), if_neg (show ¬ (22 : Int32) = 15 by decide), if_neg (show ¬ (22 : Int32) = 16 by decide), if_neg (show ¬ (22 : Int32) = 17 by decide), if_neg (show ¬ (22 : Int32) = 18 by decide), if_neg (show ¬ (22 : Int32) = 19 by decide), if_neg (show ¬ (22 : Int32) = 20 by decide), if_neg (show ¬ (22 : Int32) = 21 by decide), if_pos (show (22 : Int32) = 22 from rfl)]
theorem fLX_23 {k : Int32 → Mem → Option (Unit × Mem)} {L : Nat} {xs : Nat → Int32} {p4 : Int32} {μ : Mem} : fLawX k L xs p4 (23 : Int32) μ = (gd (inb (p4 + (1 : Int32)) L) (gd (inb (p4 + (2 : Int32)) L) (bnd (fX11_alike_0 (xs (ix (p4 + (1 : Int32)))) (xs (ix (p4 + (2 : Int32)))) μ) fun r147 m148 =>
      gd (inb (p4 + (1 : Int32)) L) (gd (inb (p4 + (2 : Int32)) L) (bnd (fX12_alike_122 (xs (ix (p4 + (1 : Int32)))) (xs (ix (p4 + (2 : Int32)))) m148) fun r149 m150 =>
      if r147 = r149 then (k (p4 + (5 : Int32)) m150)
      else none))))) := by
  unfold fLawX
  rw [if_neg (show ¬ (23 : Int32) = 0 by decide), if_neg (show ¬ (23 : Int32) = 1 by decide), if_neg (show ¬ (23 : Int32) = 2 by decide), if_neg (show ¬ (23 : Int32) = 3 by decide), if_neg (show ¬ (23 : Int32) = 4 by decide), if_neg (show ¬ (23 : Int32) = 5 by decide), if_neg (show ¬ (23 : Int32) = 6 by decide), if_neg (show ¬ (23 : Int32) = 7 by decide), if_neg (show ¬ (23 : Int32) = 8 by decide), if_neg (show ¬ (23 : Int32) = 9 by decide), if_neg (show ¬ (23 : Int32) = 10 by decide), if_neg (show ¬ (23 : Int32) = 11 by decide), if_neg (show ¬ (23 : Int32) = 12 by decide), if_neg (show ¬ (23 : Int32) = 13 by decide), if_neg (show ¬ (23 : Int32) = 14 by decide), if_neg (show ¬ (23 : Int32) = 15 by decide), if_neg (show ¬ (23 : Int32) = 16 by decide), if_neg (show ¬ (23 : Int32) = 17 by decide), if_neg (show ¬ (23 : Int32) = 18 by decide), if_neg (show ¬ (23 : Int32) = 19 by decide), if_neg (show ¬ (23 : Int32) = 20 by decide), if_neg (show ¬ (23 : Int32) = 21 by decide), if_neg (show ¬ (23 : Int32) = 22 by decide), if_pos (show (23 : Int32) = 23 from rfl)]
theorem fLX_24 {k : Int32 → Mem → Option (Unit × Mem)} {L : Nat} {xs : Nat → Int32} {p4 : Int32} {μ : Mem} : fLawX k L xs p4 (24 : Int32) μ = (gd (inb (p4 + (1 : Int32)) L) (bnd (fX11_stones_0 (xs (ix (p4 + (1 : Int32)))) μ) fun r153 m154 =>
      gd (inb (p4 + (1 : Int32)) L) (bnd (fX12_stones_122 (xs (ix (p4 + (1 : Int32)))) m154) fun r155 m156 =>
      if r153 = r155 then (k (p4 + (5 : Int32)) m156)
      else none))) := by
  unfold fLawX
  rw [if_neg (show ¬ (24 : Int32) = 0 by decide), if_neg (show ¬ (24 : Int32) = 1 by decide), if_neg (show ¬ (24 : Int32) = 2 by decide), if_neg (show ¬ (24 : Int32) = 3 by decide), if_neg (show ¬ (24 : Int32) = 4 by decide), if_neg (show ¬ (24 : Int32) = 5 by decide), if_neg (show ¬ (24 : Int32) = 6 by decide), if_neg (show ¬ (24 : Int32) = 7 by decide), if_neg (show ¬ (24 : Int32) = 8 by decide), if_neg (show ¬ (24 : Int32) = 9 by decide), if_neg (show ¬ (24 : Int32) = 10 by decide), if_neg (show ¬ (24 : Int32) = 11 by decide), if_neg (show ¬ (24 : Int32) = 12 by decide), if_neg (show ¬ (24 : Int32) = 13 by decide), if_neg (show ¬ (24 : Int32) = 14 by decide), if_neg (show ¬ (24 : Int32) = 15 by decide), if_neg (show ¬ (24 : Int32) = 16 by decide), if_neg (show ¬ (24 : Int32) = 17 by decide), if_neg (show ¬ (24 : Int32) = 18 by decide), if_neg (show ¬ (24 : Int32) = 19 by decide), if_neg (show ¬ (24 : Int32) = 20 by decide), if_neg (show ¬ (24 : Int32) = 21 by decide), if_neg (show ¬ (24 : Int32) = 22 by decide), if_neg (show ¬ (24 : Int32) = 23 by decide), if_pos (show (24 : Int32) = 24 from rfl)]
theorem fLX_25 {k : Int32 → Mem → Option (Unit × Mem)} {L : Nat} {xs : Nat → Int32} {p4 : Int32} {μ : Mem} : fLawX k L xs p4 (25 : Int32) μ = (gd (inb (p4 + (1 : Int32)) L) (bnd (fX11_silent_0 (xs (ix (p4 + (1 : Int32)))) μ) fun r159 m160 =>
      gd (inb (p4 + (1 : Int32)) L) (bnd (fX12_silent_122 (xs (ix (p4 + (1 : Int32)))) m160) fun r161 m162 =>
      if r159 = r161 then (k (p4 + (5 : Int32)) m162)
      else none))) := by
  unfold fLawX
  rw [if_neg (show ¬ (25 : Int32) = 0 by decide), if_neg (show ¬ (25 : Int32) = 1 by decide), if_neg (show ¬ (25 : Int32) = 2 by decide), if_neg (show ¬ (25 : Int32) = 3 by decide), if_neg (show ¬ (25 : Int32) = 4 by decide), if_neg (show ¬ (25 : Int32) = 5 by decide), if_neg (show ¬ (25 : Int32) = 6 by decide), if_neg (show ¬ (25 : Int32) = 7 by decide), if_neg (show ¬ (25 : Int32) = 8 by decide), if_neg (show ¬ (25 : Int32) = 9 by decide), if_neg (show ¬ (25 : Int32) = 10 by decide), if_neg (show ¬ (25 : Int32) = 11 by decide), if_neg (show ¬ (25 : Int32) = 12 by decide), if_neg (show ¬ (25 : Int32) = 13 by decide), if_neg (show ¬ (25 : Int32) = 14 by decide), if_neg (show ¬ (25 : Int32) = 15 by decide), if_neg (show ¬ (25 : Int32) = 16 by decide), if_neg (show ¬ (25 : Int32) = 17 by decide), if_neg (show ¬ (25 : Int32) = 18 by decide), if_neg (show ¬ (25 : Int32) = 19 by decide), if_neg (show ¬ (25 : Int32) = 20 by decide), if_neg (show ¬ (25 : Int32) = 21 by decide), if_neg (show ¬ (25 : Int32) = 22 by decide), if_neg (show ¬ (25 : Int32) = 23 by decide), if_neg (show ¬ (25 : Int32) = 24 by decide), if_pos (show (25 : Int32) = 25 from rfl)]
theorem fLX_26 {k : Int32 → Mem → Option (Unit × Mem)} {L : Nat} {xs : Nat → Int32} {p4 : Int32} {μ : Mem} : fLawX k L xs p4 (26 : Int32) μ = (gd (inb (p4 + (1 : Int32)) L) (gd (inb (p4 + (2 : Int32)) L) (bnd (fX11_proof_0 (xs (ix (p4 + (1 : Int32)))) (xs (ix (p4 + (2 : Int32)))) μ) fun r165 m166 =>
      gd (inb (p4 + (1 : Int32)) L) (gd (inb (p4 + (2 : Int32)) L) (bnd (fX12_proof_122 (xs (ix (p4 + (1 : Int32)))) (xs (ix (p4 + (2 : Int32)))) m166) fun r167 m168 =>
      if r165 = r167 then (k (p4 + (5 : Int32)) m168)
      else none))))) := by
  unfold fLawX
  rw [if_neg (show ¬ (26 : Int32) = 0 by decide), if_neg (show ¬ (26 : Int32) = 1 by decide), if_neg (show ¬ (26 : Int32) = 2 by decide), if_neg (show ¬ (26 : Int32) = 3 by decide), if_neg (show ¬ (26 : Int32) = 4 by decide), if_neg (show ¬ (26 : Int32) = 5 by decide), if_neg (show ¬ (26 : Int32) = 6 by decide), if_neg (show ¬ (26 : Int32) = 7 by decide), if_neg (show ¬ (26 : Int32) = 8 by decide), if_neg (show ¬ (26 : Int32) = 9 by decide), if_neg (show ¬ (26 : Int32) = 10 by decide), if_neg (show ¬ (26 : Int32) = 11 by decide), if_neg (show ¬ (26 : Int32) = 12 by decide), if_neg (show ¬ (26 : Int32) = 13 by decide), if_neg (show ¬ (26 : Int32) = 14 by decide), if_neg (show ¬ (26 : Int32) = 15 by decide), if_neg (show ¬ (26 : Int32) = 16 by decide), if_neg (show ¬ (26 : Int32) = 17 by decide), if_neg (show ¬ (26 : Int32) = 18 by decide), if_neg (show ¬ (26 : Int32) = 19 by decide), if_neg (show ¬ (26 : Int32) = 20 by decide), if_neg (show ¬ (26 : Int32) = 21 by decide), if_neg (show ¬ (26 : Int32) = 22 by decide), if_neg (show ¬ (26 : Int32) = 23 by decide), if_neg (show ¬ (26 : Int32) = 24 by decide), if_neg (show ¬ (26 : Int32) = 25 by decide), if_pos (show (26 : Int32) = 26 from rfl)]
theorem fLX_27 {k : Int32 → Mem → Option (Unit × Mem)} {L : Nat} {xs : Nat → Int32} {p4 : Int32} {μ : Mem} : fLawX k L xs p4 (27 : Int32) μ = (gd (inb (p4 + (1 : Int32)) L) (bnd (fX11_till_0 (xs (ix (p4 + (1 : Int32)))) μ) fun r171 m172 =>
      gd (inb (p4 + (1 : Int32)) L) (bnd (fX12_till_122 (xs (ix (p4 + (1 : Int32)))) m172) fun r173 m174 =>
      if r171 = r173 then (k (p4 + (5 : Int32)) m174)
      else none))) := by
  unfold fLawX
  rw [if_neg (show ¬ (27 : Int32) = 0 by decide), if_neg (show ¬ (27 : Int32) = 1 by decide), if_neg (show ¬ (27 : Int32) = 2 by decide), if_neg (show ¬ (27 : Int32) = 3 by decide), if_neg (show ¬ (27 : Int32) = 4 by decide), if_neg (show ¬ (27 : Int32) = 5 by decide), if_neg (show ¬ (27 : Int32) = 6 by decide), if_neg (show ¬ (27 : Int32) = 7 by decide), if_neg (show ¬ (27 : Int32) = 8 by decide), if_neg (show ¬ (27 : Int32) = 9 by decide), if_neg (show ¬ (27 : Int32) = 10 by decide), if_neg (show ¬ (27 : Int32) = 11 by decide), if_neg (show ¬ (27 : Int32) = 12 by decide), if_neg (show ¬ (27 : Int32) = 13 by decide), if_neg (show ¬ (27 : Int32) = 14 by decide), if_neg (show ¬ (27 : Int32) = 15 by decide), if_neg (show ¬ (27 : Int32) = 16 by decide), if_neg (show ¬ (27 : Int32) = 17 by decide), if_neg (show ¬ (27 : Int32) = 18 by decide), if_neg (show ¬ (27 : Int32) = 19 by decide), if_neg (show ¬ (27 : Int32) = 20 by decide), if_neg (show ¬ (27 : Int32) = 21 by decide), if_neg (show ¬ (27 : Int32) = 22 by decide), if_neg (show ¬ (27 : Int32) = 23 by decide), if_neg (show ¬ (27 : Int32) = 24 by decide), if_neg (show ¬ (27 : Int32) = 25 by decide), if_neg (show ¬ (27 : Int32) = 26 by decide), if_pos (show (27 : Int32) = 27 from rfl)]
theorem fLX_28 {k : Int32 → Mem → Option (Unit × Mem)} {L : Nat} {xs : Nat → Int32} {p4 : Int32} {μ : Mem} : fLawX k L xs p4 (28 : Int32) μ = (gd (inb (p4 + (1 : Int32)) L) (gd (inb (p4 + (2 : Int32)) L) (bnd (fX11_gains_0 (xs (ix (p4 + (1 : Int32)))) (xs (ix (p4 + (2 : Int32)))) μ) fun r177 m178 =>
      gd (inb (p4 + (1 : Int32)) L) (gd (inb (p4 + (2 : Int32)) L) (bnd (fX12_gains_122 (xs (ix (p4 + (1 : Int32)))) (xs (ix (p4 + (2 : Int32)))) m178) fun r179 m180 =>
      if r177 = r179 then (k (p4 + (5 : Int32)) m180)
      else none))))) := by
  unfold fLawX
  rw [if_neg (show ¬ (28 : Int32) = 0 by decide), if_neg (show ¬ (28 : Int32) = 1 by decide), if_neg (show ¬ (28 : Int32) = 2 by decide), if_neg (show ¬ (28 : Int32) = 3 by decide), if_neg (show ¬ (28 : Int32) = 4 by decide), if_neg (show ¬ (28 : Int32) = 5 by decide), if_neg (show ¬ (28 : Int32) = 6 by decide), if_neg (show ¬ (28 : Int32) = 7 by decide), if_neg (show ¬ (28 : Int32) = 8 by decide), if_neg (show ¬ (28 : Int32) = 9 by decide), if_neg (show ¬ (28 : Int32) = 10 by decide), if_neg (show ¬ (28 : Int32) = 11 by decide), if_neg (show ¬ (28 : Int32) = 12 by decide), if_neg (show ¬ (28 : Int32) = 13 by decide), if_neg (show ¬ (28 : Int32) = 14 by decide), if_neg (show ¬ (28 : Int32) = 15 by decide), if_neg (show ¬ (28 : Int32) = 16 by decide), if_neg (show ¬ (28 : Int32) = 17 by decide), if_neg (show ¬ (28 : Int32) = 18 by decide), if_neg (show ¬ (28 : Int32) = 19 by decide), if_neg (show ¬ (28 : Int32) = 20 by decide), if_neg (show ¬ (28 : Int32) = 21 by decide), if_neg (show ¬ (28 : Int32) = 22 by decide), if_neg (show ¬ (28 : Int32) = 23 by decide), if_neg (show ¬ (28 : Int32) = 24 by decide), if_neg (show ¬ (28 : Int32) = 25 by decide), if_neg (show ¬ (28 : Int32) = 26 by decide), if_neg (show ¬ (28 : Int32) = 27 by decide), if_pos (show (28 : Int32) = 28 from rfl)]
theorem fLX_29 {k : Int32 → Mem → Option (Unit × Mem)} {L : Nat} {xs : Nat → Int32} {p4 : Int32} {μ : Mem} : fLawX k L xs p4 (29 : Int32) μ = (gd (inb (p4 + (1 : Int32)) L) (gd (inb (p4 + (2 : Int32)) L) (bnd (fX11_lacks_0 (xs (ix (p4 + (1 : Int32)))) (xs (ix (p4 + (2 : Int32)))) μ) fun r183 m184 =>
      gd (inb (p4 + (1 : Int32)) L) (gd (inb (p4 + (2 : Int32)) L) (bnd (fX12_lacks_122 (xs (ix (p4 + (1 : Int32)))) (xs (ix (p4 + (2 : Int32)))) m184) fun r185 m186 =>
      if r183 = r185 then (k (p4 + (5 : Int32)) m186)
      else none))))) := by
  unfold fLawX
  rw [if_neg (show ¬ (29 : Int32) = 0 by decide), if_neg (show ¬ (29 : Int32) = 1 by decide), if_neg (show ¬ (29 : Int32) = 2 by decide), if_neg (show ¬ (29 : Int32) = 3 by decide), if_neg (show ¬ (29 : Int32) = 4 by decide), if_neg (show ¬ (29 : Int32) = 5 by decide), if_neg (show ¬ (29 : Int32) = 6 by decide), if_neg (show ¬ (29 : Int32) = 7 by decide), if_neg (show ¬ (29 : Int32) = 8 by decide), if_neg (show ¬ (29 : Int32) = 9 by decide), if_neg (show ¬ (29 : Int32) = 10 by decide), if_neg (show ¬ (29 : Int32) = 11 by decide), if_neg (show ¬ (29 : Int32) = 12 by decide), if_neg (show ¬ (29 : Int32) = 13 by decide), if_neg (show ¬ (29 : Int32) = 14 by decide), if_neg (show ¬ (29 : Int32) = 15 by decide), if_neg (show ¬ (29 : Int32) = 16 by decide), if_neg (show ¬ (29 : Int32) = 17 by decide), if_neg (show ¬ (29 : Int32) = 18 by decide), if_neg (show ¬ (29 : Int32) = 19 by decide), if_neg (show ¬ (29 : Int32) = 20 by decide), if_neg (show ¬ (29 : Int32) = 21 by decide), if_neg (show ¬ (29 : Int32) = 22 by decide), if_neg (show ¬ (29 : Int32) = 23 by decide), if_neg (show ¬ (29 : Int32) = 24 by decide), if_neg (show ¬ (29 : Int32) = 25 by decide), if_neg (show ¬ (29 : Int32) = 26 by decide), if_neg (show ¬ (29 : Int32) = 27 by decide), if_neg (show ¬ (29 : Int32) = 28 by decide), if_pos (show (29 : Int32) = 29 from rfl)]
theorem fLX_30 {k : Int32 → Mem → Option (Unit × Mem)} {L : Nat} {xs : Nat → Int32} {p4 : Int32} {μ : Mem} : fLawX k L xs p4 (30 : Int32) μ = (gd (inb (p4 + (1 : Int32)) L) (bnd (fX11_best_0 (xs (ix (p4 + (1 : Int32)))) μ) fun r189 m190 =>
      gd (inb (p4 + (1 : Int32)) L) (bnd (fX12_best_122 (xs (ix (p4 + (1 : Int32)))) m190) fun r191 m192 =>
      if r189 = r191 then (k (p4 + (5 : Int32)) m192)
      else none))) := by
  unfold fLawX
  rw [if_neg (show ¬ (30 : Int32) = 0 by decide), if_neg (show ¬ (30 : Int32) = 1 by decide), if_neg (show ¬ (30 : Int32) = 2 by decide), if_neg (show ¬ (30 : Int32) = 3 by decide), if_neg (show ¬ (30 : Int32) = 4 by decide), if_neg (show ¬ (30 : Int32) = 5 by decide), if_neg (show ¬ (30 : Int32) = 6 by decide), if_neg (show ¬ (30 : Int32) = 7 by decide), if_neg (show ¬ (30 : Int32) = 8 by decide), if_neg (show ¬ (30 : Int32) = 9 by decide), if_neg (show ¬ (30 : Int32) = 10 by decide), if_neg (show ¬ (30 : Int32) = 11 by decide), if_neg (show ¬ (30 : Int32) = 12 by decide), if_neg (show ¬ (30 : Int32) = 13 by decide), if_neg (show ¬ (30 : Int32) = 14 by decide), if_neg (show ¬ (30 : Int32) = 15 by decide), if_neg (show ¬ (30 : Int32) = 16 by decide), if_neg (show ¬ (30 : Int32) = 17 by decide), if_neg (show ¬ (30 : Int32) = 18 by decide), if_neg (show ¬ (30 : Int32) = 19 by decide), if_neg (show ¬ (30 : Int32) = 20 by decide), if_neg (show ¬ (30 : Int32) = 21 by decide), if_neg (show ¬ (30 : Int32) = 22 by decide), if_neg (show ¬ (30 : Int32) = 23 by decide), if_neg (show ¬ (30 : Int32) = 24 by decide), if_neg (show ¬ (30 : Int32) = 25 by decide), if_neg (show ¬ (30 : Int32) = 26 by decide), if_neg (show ¬ (30 : Int32) = 27 by decide), if_neg (show ¬ (30 : Int32) = 28 by decide), if_neg (show ¬ (30 : Int32) = 29 by decide), if_pos (show (30 : Int32) = 30 from rfl)]
theorem fLX_31 {k : Int32 → Mem → Option (Unit × Mem)} {L : Nat} {xs : Nat → Int32} {p4 : Int32} {μ : Mem} : fLawX k L xs p4 (31 : Int32) μ = (bnd (fX11_trials_0 μ) fun r195 m196 =>
      bnd (fX12_trials_122 m196) fun r197 m198 =>
      if r195 = r197 then (k (p4 + (5 : Int32)) m198)
      else none) := by
  unfold fLawX
  rw [if_neg (show ¬ (31 : Int32) = 0 by decide), if_neg (show ¬ (31 : Int32) = 1 by decide), if_neg (show ¬ (31 : Int32) = 2 by decide), if_neg (show ¬ (31 : Int32) = 3 by decide), if_neg (show ¬ (31 : Int32) = 4 by decide), if_neg (show ¬ (31 : Int32) = 5 by decide), if_neg (show ¬ (31 : Int32) = 6 by decide), if_neg (show ¬ (31 : Int32) = 7 by decide), if_neg (show ¬ (31 : Int32) = 8 by decide), if_neg (show ¬ (31 : Int32) = 9 by decide), if_neg (show ¬ (31 : Int32) = 10 by decide), if_neg (show ¬ (31 : Int32) = 11 by decide), if_neg (show ¬ (31 : Int32) = 12 by decide), if_neg (show ¬ (31 : Int32) = 13 by decide), if_neg (show ¬ (31 : Int32) = 14 by decide), if_neg (show ¬ (31 : Int32) = 15 by decide), if_neg (show ¬ (31 : Int32) = 16 by decide), if_neg (show ¬ (31 : Int32) = 17 by decide), if_neg (show ¬ (31 : Int32) = 18 by decide), if_neg (show ¬ (31 : Int32) = 19 by decide), if_neg (show ¬ (31 : Int32) = 20 by decide), if_neg (show ¬ (31 : Int32) = 21 by decide), if_neg (show ¬ (31 : Int32) = 22 by decide), if_neg (show ¬ (31 : Int32) = 23 by decide), if_neg (show ¬ (31 : Int32) = 24 by decide), if_neg (show ¬ (31 : Int32) = 25 by decide), if_neg (show ¬ (31 : Int32) = 26 by decide), if_neg (show ¬ (31 : Int32) = 27 by decide), if_neg (show ¬ (31 : Int32) = 28 by decide), if_neg (show ¬ (31 : Int32) = 29 by decide), if_neg (show ¬ (31 : Int32) = 30 by decide), if_pos (show (31 : Int32) = 31 from rfl)]
theorem fLX_32 {k : Int32 → Mem → Option (Unit × Mem)} {L : Nat} {xs : Nat → Int32} {p4 : Int32} {μ : Mem} : fLawX k L xs p4 (32 : Int32) μ = (bnd (fX11_docket_0 μ) fun r201 m202 =>
      bnd (fX12_docket_122 m202) fun r203 m204 =>
      if r201 = r203 then (k (p4 + (5 : Int32)) m204)
      else none) := by
  unfold fLawX
  rw [if_neg (show ¬ (32 : Int32) = 0 by decide), if_neg (show ¬ (32 : Int32) = 1 by decide), if_neg (show ¬ (32 : Int32) = 2 by decide), if_neg (show ¬ (32 : Int32) = 3 by decide), if_neg (show ¬ (32 : Int32) = 4 by decide), if_neg (show ¬ (32 : Int32) = 5 by decide), if_neg (show ¬ (32 : Int32) = 6 by decide), if_neg (show ¬ (32 : Int32) = 7 by decide), if_neg (show ¬ (32 : Int32) = 8 by decide), if_neg (show ¬ (32 : Int32) = 9 by decide), if_neg (show ¬ (32 : Int32) = 10 by decide), if_neg (show ¬ (32 : Int32) = 11 by decide), if_neg (show ¬ (32 : Int32) = 12 by decide), if_neg (show ¬ (32 : Int32) = 13 by decide), if_neg (show ¬ (32 : Int32) = 14 by decide), if_neg (show ¬ (32 : Int32) = 15 by decide), if_neg (show ¬ (32 : Int32) = 16 by decide), if_neg (show ¬ (32 : Int32) = 17 by decide), if_neg (show ¬ (32 : Int32) = 18 by decide), if_neg (show ¬ (32 : Int32) = 19 by decide), if_neg (show ¬ (32 : Int32) = 20 by decide), if_neg (show ¬ (32 : Int32) = 21 by decide), if_neg (show ¬ (32 : Int32) = 22 by decide), if_neg (show ¬ (32 : Int32) = 23 by decide), if_neg (show ¬ (32 : Int32) = 24 by decide), if_neg (show ¬ (32 : Int32) = 25 by decide), if_neg (show ¬ (32 : Int32) = 26 by decide), if_neg (show ¬ (32 : Int32) = 27 by decide), if_neg (show ¬ (32 : Int32) = 28 by decide), if_neg (show ¬ (32 : Int32) = 29 by decide), if_neg (show ¬ (32 : Int32) = 30 by decide), if_neg (show ¬ (32 : Int32) = 31 by decide), if_pos (show (32 : Int32) = 32 from rfl)]
theorem fLX_33 {k : Int32 → Mem → Option (Unit × Mem)} {L : Nat} {xs : Nat → Int32} {p4 : Int32} {μ : Mem} : fLawX k L xs p4 (33 : Int32) μ = (bnd (fX11_parts_0 μ) fun r207 m208 =>
      bnd (fX12_parts_122 m208) fun r209 m210 =>
      if r207 = r209 then (k (p4 + (5 : Int32)) m210)
      else none) := by
  unfold fLawX
  rw [if_neg (show ¬ (33 : Int32) = 0 by decide), if_neg (show ¬ (33 : Int32) = 1 by decide), if_neg (show ¬ (33 : Int32) = 2 by decide), if_neg (show ¬ (33 : Int32) = 3 by decide), if_neg (show ¬ (33 : Int32) = 4 by decide), if_neg (show ¬ (33 : Int32) = 5 by decide), if_neg (show ¬ (33 : Int32) = 6 by decide), if_neg (show ¬ (33 : Int32) = 7 by decide), if_neg (show ¬ (33 : Int32) = 8 by decide), if_neg (show ¬ (33 : Int32) = 9 by decide), if_neg (show ¬ (33 : Int32) = 10 by decide), if_neg (show ¬ (33 : Int32) = 11 by decide), if_neg (show ¬ (33 : Int32) = 12 by decide), if_neg (show ¬ (33 : Int32) = 13 by decide), if_neg (show ¬ (33 : Int32) = 14 by decide), if_neg (show ¬ (33 : Int32) = 15 by decide), if_neg (show ¬ (33 : Int32) = 16 by decide), if_neg (show ¬ (33 : Int32) = 17 by decide), if_neg (show ¬ (33 : Int32) = 18 by decide), if_neg (show ¬ (33 : Int32) = 19 by decide), if_neg (show ¬ (33 : Int32) = 20 by decide), if_neg (show ¬ (33 : Int32) = 21 by decide), if_neg (show ¬ (33 : Int32) = 22 by decide), if_neg (show ¬ (33 : Int32) = 23 by decide), if_neg (show ¬ (33 : Int32) = 24 by decide), if_neg (show ¬ (33 : Int32) = 25 by decide), if_neg (show ¬ (33 : Int32) = 26 by decide), if_neg (show ¬ (33 : Int32) = 27 by decide), if_neg (show ¬ (33 : Int32) = 28 by decide), if_neg (show ¬ (33 : Int32) = 29 by decide), if_neg (show ¬ (33 : Int32) = 30 by decide), if_neg (show ¬ (33 : Int32) = 31 by decide), if_neg (show ¬ (33 : Int32) = 32 by decide), if_pos (show (33 : Int32) = 33 from rfl)]
theorem fLX_34 {k : Int32 → Mem → Option (Unit × Mem)} {L : Nat} {xs : Nat → Int32} {p4 : Int32} {μ : Mem} : fLawX k L xs p4 (34 : Int32) μ = (gd (inb (p4 + (1 : Int32)) L) (bnd (fX11_hopes_0 (xs (ix (p4 + (1 : Int32)))) μ) fun r213 m214 =>
      gd (inb (p4 + (1 : Int32)) L) (bnd (fX12_hopes_122 (xs (ix (p4 + (1 : Int32)))) m214) fun r215 m216 =>
      if r213 = r215 then (k (p4 + (5 : Int32)) m216)
      else none))) := by
  unfold fLawX
  rw [if_neg (show ¬ (34 : Int32) = 0 by decide), if_neg (show ¬ (34 : Int32) = 1 by decide), if_neg (show ¬ (34 : Int32) = 2 by decide), if_neg (show ¬ (34 : Int32) = 3 by decide), if_neg (show ¬ (34 : Int32) = 4 by decide), if_neg (show ¬ (34 : Int32) = 5 by decide), if_neg (show ¬ (34 : Int32) = 6 by decide), if_neg (show ¬ (34 : Int32) = 7 by decide), if_neg (show ¬ (34 : Int32) = 8 by decide), if_neg (show ¬ (34 : Int32) = 9 by decide), if_neg (show ¬ (34 : Int32) = 10 by decide), if_neg (show ¬ (34 : Int32) = 11 by decide), if_neg (show ¬ (34 : Int32) = 12 by decide), if_neg (show ¬ (34 : Int32) = 13 by decide), if_neg (show ¬ (34 : Int32) = 14 by decide), if_neg (show ¬ (34 : Int32) = 15 by decide), if_neg (show ¬ (34 : Int32) = 16 by decide), if_neg (show ¬ (34 : Int32) = 17 by decide), if_neg (show ¬ (34 : Int32) = 18 by decide), if_neg (show ¬ (34 : Int32) = 19 by decide), if_neg (show ¬ (34 : Int32) = 20 by decide), if_neg (show ¬ (34 : Int32) = 21 by decide), if_neg (show ¬ (34 : Int32) = 22 by decide), if_neg (show ¬ (34 : Int32) = 23 by decide), if_neg (show ¬ (34 : Int32) = 24 by decide), if_neg (show ¬ (34 : Int32) = 25 by decide), if_neg (show ¬ (34 : Int32) = 26 by decide), if_neg (show ¬ (34 : Int32) = 27 by decide), if_neg (show ¬ (34 : Int32) = 28 by decide), if_neg (show ¬ (34 : Int32) = 29 by decide), if_neg (show ¬ (34 : Int32) = 30 by decide), if_neg (show ¬ (34 : Int32) = 31 by decide), if_neg (show ¬ (34 : Int32) = 32 by decide), if_neg (show ¬ (34 : Int32) = 33 by decide), if_pos (show (34 : Int32) = 34 from rfl)]
theorem fLX_35 {k : Int32 → Mem → Option (Unit × Mem)} {L : Nat} {xs : Nat → Int32} {p4 : Int32} {μ : Mem} : fLawX k L xs p4 (35 : Int32) μ = (bnd (fX11_reading_0 μ) fun r219 m220 =>
      bnd (fX12_reading_122 m220) fun r221 m222 =>
      if r219 = r221 then (k (p4 + (5 : Int32)) m222)
      else none) := by
  unfold fLawX
  rw [if_neg (show ¬ (35 : Int32) = 0 by decide), if_neg (show ¬ (35 : Int32) = 1 by decide), if_neg (show ¬ (35 : Int32) = 2 by decide), if_neg (show ¬ (35 : Int32) = 3 by decide), if_neg (show ¬ (35 : Int32) = 4 by decide), if_neg (show ¬ (35 : Int32) = 5 by decide), if_neg (show ¬ (35 : Int32) = 6 by decide), if_neg (show ¬ (35 : Int32) = 7 by decide), if_neg (show ¬ (35 : Int32) = 8 by decide), if_neg (show ¬ (35 : Int32) = 9 by decide), if_neg (show ¬ (35 : Int32) = 10 by decide), if_neg (show ¬ (35 : Int32) = 11 by decide), if_neg (show ¬ (35 : Int32) = 12 by decide), if_neg (show ¬ (35 : Int32) = 13 by decide), if_neg (show ¬ (35 : Int32) = 14 by decide), if_neg (show ¬ (35 : Int32) = 15 by decide), if_neg (show ¬ (35 : Int32) = 16 by decide), if_neg (show ¬ (35 : Int32) = 17 by decide), if_neg (show ¬ (35 : Int32) = 18 by decide), if_neg (show ¬ (35 : Int32) = 19 by decide), if_neg (show ¬ (35 : Int32) = 20 by decide), if_neg (show ¬ (35 : Int32) = 21 by decide), if_neg (show ¬ (35 : Int32) = 22 by decide), if_neg (show ¬ (35 : Int32) = 23 by decide), if_neg (show ¬ (35 : Int32) = 24 by decide), if_neg (show ¬ (35 : Int32) = 25 by decide), if_neg (show ¬ (35 : Int32) = 26 by decide), if_neg (show ¬ (35 : Int32) = 27 by decide), if_neg (show ¬ (35 : Int32) = 28 by decide), if_neg (show ¬ (35 : Int32) = 29 by decide), if_neg (show ¬ (35 : Int32) = 30 by decide), if_neg (show ¬ (35 : Int32) = 31 by decide), if_neg (show ¬ (35 : Int32) = 32 by decide), if_neg (show ¬ (35 : Int32) = 33 by decide), if_neg (show ¬ (35 : Int32) = 34 by decide), if_pos (show (35 : Int32) = 35 from rfl)]
theorem fLX_36 {k : Int32 → Mem → Option (Unit × Mem)} {L : Nat} {xs : Nat → Int32} {p4 : Int32} {μ : Mem} : fLawX k L xs p4 (36 : Int32) μ = (gd (inb (p4 + (1 : Int32)) L) (bnd (fX11_wants_0 (xs (ix (p4 + (1 : Int32)))) μ) fun r225 m226 =>
      gd (inb (p4 + (1 : Int32)) L) (bnd (fX12_wants_122 (xs (ix (p4 + (1 : Int32)))) m226) fun r227 m228 =>
      if r225 = r227 then (k (p4 + (5 : Int32)) m228)
      else none))) := by
  unfold fLawX
  rw [if_neg (show ¬ (36 : Int32) = 0 by decide), if_neg (show ¬ (36 : Int32) = 1 by decide), if_neg (show ¬ (36 : Int32) = 2 by decide), if_neg (show ¬ (36 : Int32) = 3 by decide), if_neg (show ¬ (36 : Int32) = 4 by decide), if_neg (show ¬ (36 : Int32) = 5 by decide), if_neg (show ¬ (36 : Int32) = 6 by decide), if_neg (show ¬ (36 : Int32) = 7 by decide), if_neg (show ¬ (36 : Int32) = 8 by decide), if_neg (show ¬ (36 : Int32) = 9 by decide), if_neg (show ¬ (36 : Int32) = 10 by decide), if_neg (show ¬ (36 : Int32) = 11 by decide), if_neg (show ¬ (36 : Int32) = 12 by decide), if_neg (show ¬ (36 : Int32) = 13 by decide), if_neg (show ¬ (36 : Int32) = 14 by decide), if_neg (show ¬ (36 : Int32) = 15 by decide), if_neg (show ¬ (36 : Int32) = 16 by decide), if_neg (show ¬ (36 : Int32) = 17 by decide), if_neg (show ¬ (36 : Int32) = 18 by decide), if_neg (show ¬ (36 : Int32) = 19 by decide), if_neg (show ¬ (36 : Int32) = 20 by decide), if_neg (show ¬ (36 : Int32) = 21 by decide), if_neg (show ¬ (36 : Int32) = 22 by decide), if_neg (show ¬ (36 : Int32) = 23 by decide), if_neg (show ¬ (36 : Int32) = 24 by decide), if_neg (show ¬ (36 : Int32) = 25 by decide), if_neg (show ¬ (36 : Int32) = 26 by decide), if_neg (show ¬ (36 : Int32) = 27 by decide), if_neg (show ¬ (36 : Int32) = 28 by decide), if_neg (show ¬ (36 : Int32) = 29 by decide), if_neg (show ¬ (36 : Int32) = 30 by decide), if_neg (show ¬ (36 : Int32) = 31 by decide), if_neg (show ¬ (36 : Int32) = 32 by decide), if_neg (show ¬ (36 : Int32) = 33 by decide), if_neg (show ¬ (36 : Int32) = 34 by decide), if_neg (show ¬ (36 : Int32) = 35 by decide), if_pos (show (36 : Int32) = 36 from rfl)]
theorem fLX_37 {k : Int32 → Mem → Option (Unit × Mem)} {L : Nat} {xs : Nat → Int32} {p4 : Int32} {μ : Mem} : fLawX k L xs p4 (37 : Int32) μ = (gd (inb (p4 + (1 : Int32)) L) (gd (inb (p4 + (2 : Int32)) L) (gd (inb (p4 + (3 : Int32)) L) (bnd (fX11_dumb_0 (xs (ix (p4 + (1 : Int32)))) (xs (ix (p4 + (2 : Int32)))) (xs (ix (p4 + (3 : Int32)))) μ) fun r231 m232 =>
      gd (inb (p4 + (1 : Int32)) L) (gd (inb (p4 + (2 : Int32)) L) (gd (inb (p4 + (3 : Int32)) L) (bnd (fX12_dumb_122 (xs (ix (p4 + (1 : Int32)))) (xs (ix (p4 + (2 : Int32)))) (xs (ix (p4 + (3 : Int32)))) m232) fun r233 m234 =>
      if r231 = r233 then (k (p4 + (5 : Int32)) m234)
      else none))))))) := by
  unfold fLawX
  rw [if_neg (show ¬ (37 : Int32) = 0 by decide), if_neg (show ¬ (37 : Int32) = 1 by decide), if_neg (show ¬ (37 : Int32) = 2 by decide), if_neg (show ¬ (37 : Int32) = 3 by decide), if_neg (show ¬ (37 : Int32) = 4 by decide), if_neg (show ¬ (37 : Int32) = 5 by decide), if_neg (show ¬ (37 : Int32) = 6 by decide), if_neg (show ¬ (37 : Int32) = 7 by decide), if_neg (show ¬ (37 : Int32) = 8 by decide), if_neg (show ¬ (37 : Int32) = 9 by decide), if_neg (show ¬ (37 : Int32) = 10 by decide), if_neg (show ¬ (37 : Int32) = 11 by decide), if_neg (show ¬ (37 : Int32) = 12 by decide), if_neg (show ¬ (37 : Int32) = 13 by decide), if_neg (show ¬ (37 : Int32) = 14 by decide), if_neg (show ¬ (37 : Int32) = 15 by decide), if_neg (show ¬ (37 : Int32) = 16 by decide), if_neg (show ¬ (37 : Int32) = 17 by decide), if_neg (show ¬ (37 : Int32) = 18 by decide), if_neg (show ¬ (37 : Int32) = 19 by decide), if_neg (show ¬ (37 : Int32) = 20 by decide), if_neg (show ¬ (37 : Int32) = 21 by decide), if_neg (show ¬ (37 : Int32) = 22 by decide), if_neg (show ¬ (37 : Int32) = 23 by decide), if_neg (show ¬ (37 : Int32) = 24 by decide), if_neg (show ¬ (37 : Int32) = 25 by decide), if_neg (show ¬ (37 : Int32) = 26 by decide), if_neg (show ¬ (37 : Int32) = 27 by decide), if_neg (show ¬ (37 : Int32) = 28 by decide), if_neg (show ¬ (37 : Int32) = 29 by decide), if_neg (show ¬ (37 : Int32) = 30 by decide), if_neg (show ¬ (37 : Int32) = 31 by decide), if_neg (show ¬ (37 : Int32) = 32 by decide), if_neg (show ¬ (37 : Int32) = 33 by decide), if_neg (show ¬ (37 : Int32) = 34 by decide), if_neg (show ¬ (37 : Int32) = 35 by decide), if_neg (show ¬ (37 : Int32) = 36 by decide), if_pos (show (37 : Int32) = 37 from rfl)]
theorem fLX_38 {k : Int32 → Mem → Option (Unit × Mem)} {L : Nat} {xs : Nat → Int32} {p4 : Int32} {μ : Mem} : fLawX k L xs p4 (38 : Int32) μ = (gd (inb (p4 + (1 : Int32)) L) (gd (inb (p4 + (2 : Int32)) L) (gd (inb (p4 + (3 : Int32)) L) (bnd (fX11_sure_0 (xs (ix (p4 + (1 : Int32)))) (xs (ix (p4 + (2 : Int32)))) (xs (ix (p4 + (3 : Int32)))) μ) fun r237 m238 =>
      gd (inb (p4 + (1 : Int32)) L) (gd (inb (p4 + (2 : Int32)) L) (gd (inb (p4 + (3 : Int32)) L) (bnd (fX12_sure_122 (xs (ix (p4 + (1 : Int32)))) (xs (ix (p4 + (2 : Int32)))) (xs (ix (p4 + (3 : Int32)))) m238) fun r239 m240 =>
      if r237 = r239 then (k (p4 + (5 : Int32)) m240)
      else none))))))) := by
  unfold fLawX
  rw [if_neg (show ¬ (38 : Int32) = 0 by decide), if_neg (show ¬ (38 : Int32) = 1 by decide), if_neg (show ¬ (38 : Int32) = 2 by decide), if_neg (show ¬ (38 : Int32) = 3 by decide), if_neg (show ¬ (38 : Int32) = 4 by decide), if_neg (show ¬ (38 : Int32) = 5 by decide), if_neg (show ¬ (38 : Int32) = 6 by decide), if_neg (show ¬ (38 : Int32) = 7 by decide), if_neg (show ¬ (38 : Int32) = 8 by decide), if_neg (show ¬ (38 : Int32) = 9 by decide), if_neg (show ¬ (38 : Int32) = 10 by decide), if_neg (show ¬ (38 : Int32) = 11 by decide), if_neg (show ¬ (38 : Int32) = 12 by decide), if_neg (show ¬ (38 : Int32) = 13 by decide), if_neg (show ¬ (38 : Int32) = 14 by decide), if_neg (show ¬ (38 : Int32) = 15 by decide), if_neg (show ¬ (38 : Int32) = 16 by decide), if_neg (show ¬ (38 : Int32) = 17 by decide), if_neg (show ¬ (38 : Int32) = 18 by decide), if_neg (show ¬ (38 : Int32) = 19 by decide), if_neg (show ¬ (38 : Int32) = 20 by decide), if_neg (show ¬ (38 : Int32) = 21 by decide), if_neg (show ¬ (38 : Int32) = 22 by decide), if_neg (show ¬ (38 : Int32) = 23 by decide), if_neg (show ¬ (38 : Int32) = 24 by decide), if_neg (show ¬ (38 : Int32) = 25 by decide), if_neg (show ¬ (38 : Int32) = 26 by decide), if_neg (show ¬ (38 : Int32) = 27 by decide), if_neg (show ¬ (38 : Int32) = 28 by decide), if_neg (show ¬ (38 : Int32) = 29 by decide), if_neg (show ¬ (38 : Int32) = 30 by decide), if_neg (show ¬ (38 : Int32) = 31 by decide), if_neg (show ¬ (38 : Int32) = 32 by decide), if_neg (show ¬ (38 : Int32) = 33 by decide), if_neg (show ¬ (38 : Int32) = 34 by decide), if_neg (show ¬ (38 : Int32) = 35 by decide), if_neg (show ¬ (38 : Int32) = 36 by decide), if_neg (show ¬ (38 : Int32) = 37 by decide), if_pos (show (38 : Int32) = 38 from rfl)]
theorem fLX_39 {k : Int32 → Mem → Option (Unit × Mem)} {L : Nat} {xs : Nat → Int32} {p4 : Int32} {μ : Mem} : fLawX k L xs p4 (39 : Int32) μ = (gd (inb (p4 + (1 : Int32)) L) (gd (inb (p4 + (2 : Int32)) L) (bnd (fX11_house_0 (xs (ix (p4 + (1 : Int32)))) (xs (ix (p4 + (2 : Int32)))) μ) fun r243 m244 =>
      gd (inb (p4 + (1 : Int32)) L) (gd (inb (p4 + (2 : Int32)) L) (bnd (fX12_house_122 (xs (ix (p4 + (1 : Int32)))) (xs (ix (p4 + (2 : Int32)))) m244) fun r245 m246 =>
      if r243 = r245 then (k (p4 + (5 : Int32)) m246)
      else none))))) := by
  unfold fLawX
  rw [if_neg (show ¬ (39 : Int32) = 0 by decide), if_neg (show ¬ (39 : Int32) = 1 by decide), if_neg (show ¬ (39 : Int32) = 2 by decide), if_neg (show ¬ (39 : Int32) = 3 by decide), if_neg (show ¬ (39 : Int32) = 4 by decide), if_neg (show ¬ (39 : Int32) = 5 by decide), if_neg (show ¬ (39 : Int32) = 6 by decide), if_neg (show ¬ (39 : Int32) = 7 by decide), if_neg (show ¬ (39 : Int32) = 8 by decide), if_neg (show ¬ (39 : Int32) = 9 by decide), if_neg (show ¬ (39 : Int32) = 10 by decide), if_neg (show ¬ (39 : Int32) = 11 by decide), if_neg (show ¬ (39 : Int32) = 12 by decide), if_neg (show ¬ (39 : Int32) = 13 by decide), if_neg (show ¬ (39 : Int32) = 14 by decide), if_neg (show ¬ (39 : Int32) = 15 by decide), if_neg (show ¬ (39 : Int32) = 16 by decide), if_neg (show ¬ (39 : Int32) = 17 by decide), if_neg (show ¬ (39 : Int32) = 18 by decide), if_neg (show ¬ (39 : Int32) = 19 by decide), if_neg (show ¬ (39 : Int32) = 20 by decide), if_neg (show ¬ (39 : Int32) = 21 by decide), if_neg (show ¬ (39 : Int32) = 22 by decide), if_neg (show ¬ (39 : Int32) = 23 by decide), if_neg (show ¬ (39 : Int32) = 24 by decide), if_neg (show ¬ (39 : Int32) = 25 by decide), if_neg (show ¬ (39 : Int32) = 26 by decide), if_neg (show ¬ (39 : Int32) = 27 by decide), if_neg (show ¬ (39 : Int32) = 28 by decide), if_neg (show ¬ (39 : Int32) = 29 by decide), if_neg (show ¬ (39 : Int32) = 30 by decide), if_neg (show ¬ (39 : Int32) = 31 by decide), if_neg (show ¬ (39 : Int32) = 32 by decide), if_neg (show ¬ (39 : Int32) = 33 by decide), if_neg (show ¬ (39 : Int32) = 34 by decide), if_neg (show ¬ (39 : Int32) = 35 by decide), if_neg (show ¬ (39 : Int32) = 36 by decide), if_neg (show ¬ (39 : Int32) = 37 by decide), if_neg (show ¬ (39 : Int32) = 38 by decide), if_pos (show (39 : Int32) = 39 from rfl)]
theorem fLX_40 {k : Int32 → Mem → Option (Unit × Mem)} {L : Nat} {xs : Nat → Int32} {p4 : Int32} {μ : Mem} : fLawX k L xs p4 (40 : Int32) μ = (gd (inb (p4 + (1 : Int32)) L) (gd (inb (p4 + (2 : Int32)) L) (bnd (fX11_search_0 (xs (ix (p4 + (1 : Int32)))) (xs (ix (p4 + (2 : Int32)))) μ) fun r249 m250 =>
      gd (inb (p4 + (1 : Int32)) L) (gd (inb (p4 + (2 : Int32)) L) (bnd (fX12_search_122 (xs (ix (p4 + (1 : Int32)))) (xs (ix (p4 + (2 : Int32)))) m250) fun r251 m252 =>
      if r249 = r251 then (k (p4 + (5 : Int32)) m252)
      else none))))) := by
  unfold fLawX
  rw [if_neg (show ¬ (40 : Int32) = 0 by decide), if_neg (show ¬ (40 : Int32) = 1 by decide), if_neg (show ¬ (40 : Int32) = 2 by decide), if_neg (show ¬ (40 : Int32) = 3 by decide), if_neg (show ¬ (40 : Int32) = 4 by decide), if_neg (show ¬ (40 : Int32) = 5 by decide), if_neg (show ¬ (40 : Int32) = 6 by decide), if_neg (show ¬ (40 : Int32) = 7 by decide), if_neg (show ¬ (40 : Int32) = 8 by decide), if_neg (show ¬ (40 : Int32) = 9 by decide), if_neg (show ¬ (40 : Int32) = 10 by decide), if_neg (show ¬ (40 : Int32) = 11 by decide), if_neg (show ¬ (40 : Int32) = 12 by decide), if_neg (show ¬ (40 : Int32) = 13 by decide), if_neg (show ¬ (40 : Int32) = 14 by decide), if_neg (show ¬ (40 : Int32) = 15 by decide), if_neg (show ¬ (40 : Int32) = 16 by decide), if_neg (show ¬ (40 : Int32) = 17 by decide), if_neg (show ¬ (40 : Int32) = 18 by decide), if_neg (show ¬ (40 : Int32) = 19 by decide), if_neg (show ¬ (40 : Int32) = 20 by decide), if_neg (show ¬ (40 : Int32) = 21 by decide), if_neg (show ¬ (40 : Int32) = 22 by decide), if_neg (show ¬ (40 : Int32) = 23 by decide), if_neg (show ¬ (40 : Int32) = 24 by decide), if_neg (show ¬ (40 : Int32) = 25 by decide), if_neg (show ¬ (40 : Int32) = 26 by decide), if_neg (show ¬ (40 : Int32) = 27 by decide), if_neg (show ¬ (40 : Int32) = 28 by decide), if_neg (show ¬ (40 : Int32) = 29 by decide), if_neg (show ¬ (40 : Int32) = 30 by decide), if_neg (show ¬ (40 : Int32) = 31 by decide), if_neg (show ¬ (40 : Int32) = 32 by decide), if_neg (show ¬ (40 : Int32) = 33 by decide), if_neg (show ¬ (40 : Int32) = 34 by decide), if_neg (show ¬ (40 : Int32) = 35 by decide), if_neg (show ¬ (40 : Int32) = 36 by decide), if_neg (show ¬ (40 : Int32) = 37 by decide), if_neg (show ¬ (40 : Int32) = 38 by decide), if_neg (show ¬ (40 : Int32) = 39 by decide), if_pos (show (40 : Int32) = 40 from rfl)]
theorem fLX_41 {k : Int32 → Mem → Option (Unit × Mem)} {L : Nat} {xs : Nat → Int32} {p4 : Int32} {μ : Mem} : fLawX k L xs p4 (41 : Int32) μ = (gd (inb (p4 + (1 : Int32)) L) (gd (inb (p4 + (2 : Int32)) L) (bnd (fX11_rests_0 (xs (ix (p4 + (1 : Int32)))) (xs (ix (p4 + (2 : Int32)))) μ) fun r255 m256 =>
      gd (inb (p4 + (1 : Int32)) L) (gd (inb (p4 + (2 : Int32)) L) (bnd (fX12_rests_122 (xs (ix (p4 + (1 : Int32)))) (xs (ix (p4 + (2 : Int32)))) m256) fun r257 m258 =>
      if r255 = r257 then (k (p4 + (5 : Int32)) m258)
      else none))))) := by
  unfold fLawX
  rw [if_neg (show ¬ (41 : Int32) = 0 by decide), if_neg (show ¬ (41 : Int32) = 1 by decide), if_neg (show ¬ (41 : Int32) = 2 by decide), if_neg (show ¬ (41 : Int32) = 3 by decide), if_neg (show ¬ (41 : Int32) = 4 by decide), if_neg (show ¬ (41 : Int32) = 5 by decide), if_neg (show ¬ (41 : Int32) = 6 by decide), if_neg (show ¬ (41 : Int32) = 7 by decide), if_neg (show ¬ (41 : Int32) = 8 by decide), if_neg (show ¬ (41 : Int32) = 9 by decide), if_neg (show ¬ (41 : Int32) = 10 by decide), if_neg (show ¬ (41 : Int32) = 11 by decide), if_neg (show ¬ (41 : Int32) = 12 by decide), if_neg (show ¬ (41 : Int32) = 13 by decide), if_neg (show ¬ (41 : Int32) = 14 by decide), if_neg (show ¬ (41 : Int32) = 15 by decide), if_neg (show ¬ (41 : Int32) = 16 by decide), if_neg (show ¬ (41 : Int32) = 17 by decide), if_neg (show ¬ (41 : Int32) = 18 by decide), if_neg (show ¬ (41 : Int32) = 19 by decide), if_neg (show ¬ (41 : Int32) = 20 by decide), if_neg (show ¬ (41 : Int32) = 21 by decide), if_neg (show ¬ (41 : Int32) = 22 by decide), if_neg (show ¬ (41 : Int32) = 23 by decide), if_neg (show ¬ (41 : Int32) = 24 by decide), if_neg (show ¬ (41 : Int32) = 25 by decide), if_neg (show ¬ (41 : Int32) = 26 by decide), if_neg (show ¬ (41 : Int32) = 27 by decide), if_neg (show ¬ (41 : Int32) = 28 by decide), if_neg (show ¬ (41 : Int32) = 29 by decide), if_neg (show ¬ (41 : Int32) = 30 by decide), if_neg (show ¬ (41 : Int32) = 31 by decide), if_neg (show ¬ (41 : Int32) = 32 by decide), if_neg (show ¬ (41 : Int32) = 33 by decide), if_neg (show ¬ (41 : Int32) = 34 by decide), if_neg (show ¬ (41 : Int32) = 35 by decide), if_neg (show ¬ (41 : Int32) = 36 by decide), if_neg (show ¬ (41 : Int32) = 37 by decide), if_neg (show ¬ (41 : Int32) = 38 by decide), if_neg (show ¬ (41 : Int32) = 39 by decide), if_neg (show ¬ (41 : Int32) = 40 by decide), if_pos (show (41 : Int32) = 41 from rfl)]
theorem fLX_42 {k : Int32 → Mem → Option (Unit × Mem)} {L : Nat} {xs : Nat → Int32} {p4 : Int32} {μ : Mem} : fLawX k L xs p4 (42 : Int32) μ = (gd (inb (p4 + (1 : Int32)) L) (gd (inb (p4 + (2 : Int32)) L) (bnd (fX11_years_0 (xs (ix (p4 + (1 : Int32)))) (xs (ix (p4 + (2 : Int32)))) μ) fun r261 m262 =>
      gd (inb (p4 + (1 : Int32)) L) (gd (inb (p4 + (2 : Int32)) L) (bnd (fX12_years_122 (xs (ix (p4 + (1 : Int32)))) (xs (ix (p4 + (2 : Int32)))) m262) fun r263 m264 =>
      if r261 = r263 then (k (p4 + (5 : Int32)) m264)
      else none))))) := by
  unfold fLawX
  rw [if_neg (show ¬ (42 : Int32) = 0 by decide), if_neg (show ¬ (42 : Int32) = 1 by decide), if_neg (show ¬ (42 : Int32) = 2 by decide), if_neg (show ¬ (42 : Int32) = 3 by decide), if_neg (show ¬ (42 : Int32) = 4 by decide), if_neg (show ¬ (42 : Int32) = 5 by decide), if_neg (show ¬ (42 : Int32) = 6 by decide), if_neg (show ¬ (42 : Int32) = 7 by decide), if_neg (show ¬ (42 : Int32) = 8 by decide), if_neg (show ¬ (42 : Int32) = 9 by decide), if_neg (show ¬ (42 : Int32) = 10 by decide), if_neg (show ¬ (42 : Int32) = 11 by decide), if_neg (show ¬ (42 : Int32) = 12 by decide), if_neg (show ¬ (42 : Int32) = 13 by decide), if_neg (show ¬ (42 : Int32) = 14 by decide), if_neg (show ¬ (42 : Int32) = 15 by decide), if_neg (show ¬ (42 : Int32) = 16 by decide), if_neg (show ¬ (42 : Int32) = 17 by decide), if_neg (show ¬ (42 : Int32) = 18 by decide), if_neg (show ¬ (42 : Int32) = 19 by decide), if_neg (show ¬ (42 : Int32) = 20 by decide), if_neg (show ¬ (42 : Int32) = 21 by decide), if_neg (show ¬ (42 : Int32) = 22 by decide), if_neg (show ¬ (42 : Int32) = 23 by decide), if_neg (show ¬ (42 : Int32) = 24 by decide), if_neg (show ¬ (42 : Int32) = 25 by decide), if_neg (show ¬ (42 : Int32) = 26 by decide), if_neg (show ¬ (42 : Int32) = 27 by decide), if_neg (show ¬ (42 : Int32) = 28 by decide), if_neg (show ¬ (42 : Int32) = 29 by decide), if_neg (show ¬ (42 : Int32) = 30 by decide), if_neg (show ¬ (42 : Int32) = 31 by decide), if_neg (show ¬ (42 : Int32) = 32 by decide), if_neg (show ¬ (42 : Int32) = 33 by decide), if_neg (show ¬ (42 : Int32) = 34 by decide), if_neg (show ¬ (42 : Int32) = 35 by decide), if_neg (show ¬ (42 : Int32) = 36 by decide), if_neg (show ¬ (42 : Int32) = 37 by decide), if_neg (show ¬ (42 : Int32) = 38 by decide), if_neg (show ¬ (42 : Int32) = 39 by decide), if_neg (show ¬ (42 : Int32) = 40 by decide), if_neg (show ¬ (42 : Int32) = 41 by decide), if_pos (show (42 : Int32) = 42 from rfl)]
theorem fLX_43 {k : Int32 → Mem → Option (Unit × Mem)} {L : Nat} {xs : Nat → Int32} {p4 : Int32} {μ : Mem} : fLawX k L xs p4 (43 : Int32) μ = (gd (inb (p4 + (1 : Int32)) L) (bnd (fX11_keep_0 (xs (ix (p4 + (1 : Int32)))) μ) fun r267 m268 =>
      gd (inb (p4 + (1 : Int32)) L) (bnd (fX12_keep_122 (xs (ix (p4 + (1 : Int32)))) m268) fun r269 m270 =>
      if r267 = r269 then (k (p4 + (5 : Int32)) m270)
      else none))) := by
  unfold fLawX
  rw [if_neg (show ¬ (43 : Int32) = 0 by decide), if_neg (show ¬ (43 : Int32) = 1 by decide), if_neg (show ¬ (43 : Int32) = 2 by decide), if_neg (show ¬ (43 : Int32) = 3 by decide), if_neg (show ¬ (43 : Int32) = 4 by decide), if_neg (show ¬ (43 : Int32) = 5 by decide), if_neg (show ¬ (43 : Int32) = 6 by decide), if_neg (show ¬ (43 : Int32) = 7 by decide), if_neg (show ¬ (43 : Int32) = 8 by decide), if_neg (show ¬ (43 : Int32) = 9 by decide), if_neg (show ¬ (43 : Int32) = 10 by decide), if_neg (show ¬ (43 : Int32) = 11 by decide), if_neg (show ¬ (43 : Int32) = 12 by decide), if_neg (show ¬ (43 : Int32) = 13 by decide), if_neg (show ¬ (43 : Int32) = 14 by decide), if_neg (show ¬ (43 : Int32) = 15 by decide), if_neg (show ¬ (43 : Int32) = 16 by decide), if_neg (show ¬ (43 : Int32) = 17 by decide), if_neg (show ¬ (43 : Int32) = 18 by decide), if_neg (show ¬ (43 : Int32) = 19 by decide), if_neg (show ¬ (43 : Int32) = 20 by decide), if_neg (show ¬ (43 : Int32) = 21 by decide), if_neg (show ¬ (43 : Int32) = 22 by decide), if_neg (show ¬ (43 : Int32) = 23 by decide), if_neg (show ¬ (43 : Int32) = 24 by decide), if_neg (show ¬ (43 : Int32) = 25 by decide), if_neg (show ¬ (43 : Int32) = 26 by decide), if_neg (show ¬ (43 : Int32) = 27 by decide), if_neg (show ¬ (43 : Int32) = 28 by decide), if_neg (show ¬ (43 : Int32) = 29 by decide), if_neg (show ¬ (43 : Int32) = 30 by decide), if_neg (show ¬ (43 : Int32) = 31 by decide), if_neg (show ¬ (43 : Int32) = 32 by decide), if_neg (show ¬ (43 : Int32) = 33 by decide), if_neg (show ¬ (43 : Int32) = 34 by decide), if_neg (show ¬ (43 : Int32) = 35 by decide), if_neg (show ¬ (43 : Int32) = 36 by decide), if_neg (show ¬ (43 : Int32) = 37 by decide), if_neg (show ¬ (43 : Int32) = 38 by decide), if_neg (show ¬ (43 : Int32) = 39 by decide), if_neg (show ¬ (43 : Int32) = 40 by decide), if_neg (show ¬ (43 : Int32) = 41 by decide), if_neg (show ¬ (43 : Int32) = 42 by decide), if_pos (show (43 : Int32) = 43 from rfl)]
theorem fLX_44 {k : Int32 → Mem → Option (Unit × Mem)} {L : Nat} {xs : Nat → Int32} {p4 : Int32} {μ : Mem} : fLawX k L xs p4 (44 : Int32) μ = (gd (inb (p4 + (1 : Int32)) L) (bnd (fX11_again_0 (xs (ix (p4 + (1 : Int32)))) μ) fun r273 m274 =>
      gd (inb (p4 + (1 : Int32)) L) (bnd (fX12_again_122 (xs (ix (p4 + (1 : Int32)))) m274) fun r275 m276 =>
      if r273 = r275 then (k (p4 + (5 : Int32)) m276)
      else none))) := by
  unfold fLawX
  rw [if_neg (show ¬ (44 : Int32) = 0 by decide), if_neg (show ¬ (44 : Int32) = 1 by decide), if_neg (show ¬ (44 : Int32) = 2 by decide), if_neg (show ¬ (44 : Int32) = 3 by decide), if_neg (show ¬ (44 : Int32) = 4 by decide), if_neg (show ¬ (44 : Int32) = 5 by decide), if_neg (show ¬ (44 : Int32) = 6 by decide), if_neg (show ¬ (44 : Int32) = 7 by decide), if_neg (show ¬ (44 : Int32) = 8 by decide), if_neg (show ¬ (44 : Int32) = 9 by decide), if_neg (show ¬ (44 : Int32) = 10 by decide), if_neg (show ¬ (44 : Int32) = 11 by decide), if_neg (show ¬ (44 : Int32) = 12 by decide), if_neg (show ¬ (44 : Int32) = 13 by decide), if_neg (show ¬ (44 : Int32) = 14 by decide), if_neg (show ¬ (44 : Int32) = 15 by decide), if_neg (show ¬ (44 : Int32) = 16 by decide), if_neg (show ¬ (44 : Int32) = 17 by decide), if_neg (show ¬ (44 : Int32) = 18 by decide), if_neg (show ¬ (44 : Int32) = 19 by decide), if_neg (show ¬ (44 : Int32) = 20 by decide), if_neg (show ¬ (44 : Int32) = 21 by decide), if_neg (show ¬ (44 : Int32) = 22 by decide), if_neg (show ¬ (44 : Int32) = 23 by decide), if_neg (show ¬ (44 : Int32) = 24 by decide), if_neg (show ¬ (44 : Int32) = 25 by decide), if_neg (show ¬ (44 : Int32) = 26 by decide), if_neg (show ¬ (44 : Int32) = 27 by decide), if_neg (show ¬ (44 : Int32) = 28 by decide), if_neg (show ¬ (44 : Int32) = 29 by decide), if_neg (show ¬ (44 : Int32) = 30 by decide), if_neg (show ¬ (44 : Int32) = 31 by decide), if_neg (show ¬ (44 : Int32) = 32 by decide), if_neg (show ¬ (44 : Int32) = 33 by decide), if_neg (show ¬ (44 : Int32) = 34 by decide), if_neg (show ¬ (44 : Int32) = 35 by decide), if_neg (show ¬ (44 : Int32) = 36 by decide), if_neg (show ¬ (44 : Int32) = 37 by decide), if_neg (show ¬ (44 : Int32) = 38 by decide), if_neg (show ¬ (44 : Int32) = 39 by decide), if_neg (show ¬ (44 : Int32) = 40 by decide), if_neg (show ¬ (44 : Int32) = 41 by decide), if_neg (show ¬ (44 : Int32) = 42 by decide), if_neg (show ¬ (44 : Int32) = 43 by decide), if_pos (show (44 : Int32) = 44 from rfl)]
theorem fLX_45 {k : Int32 → Mem → Option (Unit × Mem)} {L : Nat} {xs : Nat → Int32} {p4 : Int32} {μ : Mem} : fLawX k L xs p4 (45 : Int32) μ = (gd (inb (p4 + (1 : Int32)) L) (bnd (fX11_count_0 (xs (ix (p4 + (1 : Int32)))) μ) fun r279 m280 =>
      gd (inb (p4 + (1 : Int32)) L) (bnd (fX12_count_122 (xs (ix (p4 + (1 : Int32)))) m280) fun r281 m282 =>
      if r279 = r281 then (k (p4 + (5 : Int32)) m282)
      else none))) := by
  unfold fLawX
  rw [if_neg (show ¬ (45 : Int32) = 0 by decide), if_neg (show ¬ (45 : Int32) = 1 by decide), if_neg (show ¬ (45 : Int32) = 2 by decide), if_neg (show ¬ (45 : Int32) = 3 by decide), if_neg (show ¬ (45 : Int32) = 4 by decide), if_neg (show ¬ (45 : Int32) = 5 by decide), if_neg (show ¬ (45 : Int32) = 6 by decide), if_neg (show ¬ (45 : Int32) = 7 by decide), if_neg (show ¬ (45 : Int32) = 8 by decide), if_neg (show ¬ (45 : Int32) = 9 by decide), if_neg (show ¬ (45 : Int32) = 10 by decide), if_neg (show ¬ (45 : Int32) = 11 by decide), if_neg (show ¬ (45 : Int32) = 12 by decide), if_neg (show ¬ (45 : Int32) = 13 by decide), if_neg (show ¬ (45 : Int32) = 14 by decide), if_neg (show ¬ (45 : Int32) = 15 by decide), if_neg (show ¬ (45 : Int32) = 16 by decide), if_neg (show ¬ (45 : Int32) = 17 by decide), if_neg (show ¬ (45 : Int32) = 18 by decide), if_neg (show ¬ (45 : Int32) = 19 by decide), if_neg (show ¬ (45 : Int32) = 20 by decide), if_neg (show ¬ (45 : Int32) = 21 by decide), if_neg (show ¬ (45 : Int32) = 22 by decide), if_neg (show ¬ (45 : Int32) = 23 by decide), if_neg (show ¬ (45 : Int32) = 24 by decide), if_neg (show ¬ (45 : Int32) = 25 by decide), if_neg (show ¬ (45 : Int32) = 26 by decide), if_neg (show ¬ (45 : Int32) = 27 by decide), if_neg (show ¬ (45 : Int32) = 28 by decide), if_neg (show ¬ (45 : Int32) = 29 by decide), if_neg (show ¬ (45 : Int32) = 30 by decide), if_neg (show ¬ (45 : Int32) = 31 by decide), if_neg (show ¬ (45 : Int32) = 32 by decide), if_neg (show ¬ (45 : Int32) = 33 by decide), if_neg (show ¬ (45 : Int32) = 34 by decide), if_neg (show ¬ (45 : Int32) = 35 by decide), if_neg (show ¬ (45 : Int32) = 36 by decide), if_neg (show ¬ (45 : Int32) = 37 by decide), if_neg (show ¬ (45 : Int32) = 38 by decide), if_neg (show ¬ (45 : Int32) = 39 by decide), if_neg (show ¬ (45 : Int32) = 40 by decide), if_neg (show ¬ (45 : Int32) = 41 by decide), if_neg (show ¬ (45 : Int32) = 42 by decide), if_neg (show ¬ (45 : Int32) = 43 by decide), if_neg (show ¬ (45 : Int32) = 44 by decide), if_pos (show (45 : Int32) = 45 from rfl)]
theorem fLX_46 {k : Int32 → Mem → Option (Unit × Mem)} {L : Nat} {xs : Nat → Int32} {p4 : Int32} {μ : Mem} : fLawX k L xs p4 (46 : Int32) μ = (gd (inb (p4 + (1 : Int32)) L) (bnd (fH_row (xs (ix (p4 + (1 : Int32)))) μ) fun r285 m286 =>
      gd (inb (p4 + (1 : Int32)) L) (bnd (fX12_row_122 (xs (ix (p4 + (1 : Int32)))) m286) fun r287 m288 =>
      bnd (fX12_thrown_122 m288) fun r289 m290 =>
      if r289 = r285 then (if r285 = 0 then (gd (inb (0 : Int32) 1) (if (lg_cmp (gL m290 149 (ix (0 : Int32))) r287) = 0 then (k (p4 + (5 : Int32)) m290)
          else none))
        else k (p4 + (5 : Int32)) m290)
      else none))) := by
  unfold fLawX
  rw [if_neg (show ¬ (46 : Int32) = 0 by decide), if_neg (show ¬ (46 : Int32) = 1 by decide), if_neg (show ¬ (46 : Int32) = 2 by decide), if_neg (show ¬ (46 : Int32) = 3 by decide), if_neg (show ¬ (46 : Int32) = 4 by decide), if_neg (show ¬ (46 : Int32) = 5 by decide), if_neg (show ¬ (46 : Int32) = 6 by decide), if_neg (show ¬ (46 : Int32) = 7 by decide), if_neg (show ¬ (46 : Int32) = 8 by decide), if_neg (show ¬ (46 : Int32) = 9 by decide), if_neg (show ¬ (46 : Int32) = 10 by decide), if_neg (show ¬ (46 : Int32) = 11 by decide), if_neg (show ¬ (46 : Int32) = 12 by decide), if_neg (show ¬ (46 : Int32) = 13 by decide), if_neg (show ¬ (46 : Int32) = 14 by decide), if_neg (show ¬ (46 : Int32) = 15 by decide), if_neg (show ¬ (46 : Int32) = 16 by decide), if_neg (show ¬ (46 : Int32) = 17 by decide), if_neg (show ¬ (46 : Int32) = 18 by decide), if_neg (show ¬ (46 : Int32) = 19 by decide), if_neg (show ¬ (46 : Int32) = 20 by decide), if_neg (show ¬ (46 : Int32) = 21 by decide), if_neg (show ¬ (46 : Int32) = 22 by decide), if_neg (show ¬ (46 : Int32) = 23 by decide), if_neg (show ¬ (46 : Int32) = 24 by decide), if_neg (show ¬ (46 : Int32) = 25 by decide), if_neg (show ¬ (46 : Int32) = 26 by decide), if_neg (show ¬ (46 : Int32) = 27 by decide), if_neg (show ¬ (46 : Int32) = 28 by decide), if_neg (show ¬ (46 : Int32) = 29 by decide), if_neg (show ¬ (46 : Int32) = 30 by decide), if_neg (show ¬ (46 : Int32) = 31 by decide), if_neg (show ¬ (46 : Int32) = 32 by decide), if_neg (show ¬ (46 : Int32) = 33 by decide), if_neg (show ¬ (46 : Int32) = 34 by decide), if_neg (show ¬ (46 : Int32) = 35 by decide), if_neg (show ¬ (46 : Int32) = 36 by decide), if_neg (show ¬ (46 : Int32) = 37 by decide), if_neg (show ¬ (46 : Int32) = 38 by decide), if_neg (show ¬ (46 : Int32) = 39 by decide), if_neg (show ¬ (46 : Int32) = 40 by decide), if_neg (show ¬ (46 : Int32) = 41 by decide), if_neg (show ¬ (46 : Int32) = 42 by decide), if_neg (show ¬ (46 : Int32) = 43 by decide), if_neg (show ¬ (46 : Int32) = 44 by decide), if_neg (show ¬ (46 : Int32) = 45 by decide), if_pos (show (46 : Int32) = 46 from rfl)]
theorem fl_nl {L i : Nat} (hL : L ≤ 2560) (hi : i + 5 ≤ L) : ¬ nI L - 5 < nI i := by
  rw [i_lt, show (5 : Int32) = nI 5 from rfl, sub_toInt (by omega) (by omega), nI_toInt (by omega)]
  omega
theorem fl_j (i k : Nat) : nI i + nI k = nI (i + k) := nI_add i k
theorem ps_0 {L : Nat} (hL : L ≤ 2560) (xs : Nat → Int32) {i : Nat} (hi : i + 5 ≤ L) (h : Rel V c b (300 * i) μ μ) (q : xs i &&& 63 = 0) : ∃ μ', RRi (i + 5) μ' ∧ ∀ k : Int32 → Mem → Option (Unit × Mem), fLaw k L xs (nI i) μ = k (nI (i + 5)) μ' := by
  have B3 : 300 * i + 3000 < 2 ^ 30 := by omega
  have B1 : 300 * i + 1000 < 2 ^ 30 := by omega
  have B0 : 300 * i < 2 ^ 30 := by omega
  have hb : 300 * i ≤ 300 * (i + 5) := by omega
  obtain ⟨μ', R, e⟩ := law_eq (B' := 300 * (i + 5)) (F1 := fun m => fX11_sign_0 (xs (i + 1)) m) (F2 := fun m => fX12_sign_122 (xs (i + 1)) m) h (fr_fX11_sign_0 (xs (i + 1)) μ) (fun m => fr_fX12_sign_122 (xs (i + 1)) m) (fun ν hν => prx (pr_sign hν  (xs (i + 1))) hb)
  refine ⟨μ', R, fun k => ?_⟩
  rw [fLaw_x (fl_nl hL hi) (inb_nI (by omega) (by omega)), ix_nI (show i < 2 ^ 31 by omega), q, fLX_0, show nI i + (5 : Int32) = nI (i + 5) from fl_j i 5, show nI i + (1 : Int32) = nI (i + 1) from fl_j i 1, show inb (nI (i + 1)) L = true from inb_nI (by omega) (by omega), ix_nI (show i + 1 < 2 ^ 31 by omega)]
  exact e (fun m => k (nI (i + 5)) m)
theorem ps_1 {L : Nat} (hL : L ≤ 2560) (xs : Nat → Int32) {i : Nat} (hi : i + 5 ≤ L) (h : Rel V c b (300 * i) μ μ) (q : xs i &&& 63 = 1) : ∃ μ', RRi (i + 5) μ' ∧ ∀ k : Int32 → Mem → Option (Unit × Mem), fLaw k L xs (nI i) μ = k (nI (i + 5)) μ' := by
  have B3 : 300 * i + 3000 < 2 ^ 30 := by omega
  have B1 : 300 * i + 1000 < 2 ^ 30 := by omega
  have B0 : 300 * i < 2 ^ 30 := by omega
  have hb : 300 * i ≤ 300 * (i + 5) := by omega
  obtain ⟨μ', R, e⟩ := law_eq (B' := 300 * (i + 5)) (F1 := fun m => fX11_end_0 (xs (i + 1)) m) (F2 := fun m => fX12_end_122 (xs (i + 1)) m) h (fr_fX11_end_0 (xs (i + 1)) μ) (fun m => fr_fX12_end_122 (xs (i + 1)) m) (fun ν hν => prx (pr_endT hν  (xs (i + 1))) hb)
  refine ⟨μ', R, fun k => ?_⟩
  rw [fLaw_x (fl_nl hL hi) (inb_nI (by omega) (by omega)), ix_nI (show i < 2 ^ 31 by omega), q, fLX_1, show nI i + (5 : Int32) = nI (i + 5) from fl_j i 5, show nI i + (1 : Int32) = nI (i + 1) from fl_j i 1, show inb (nI (i + 1)) L = true from inb_nI (by omega) (by omega), ix_nI (show i + 1 < 2 ^ 31 by omega)]
  exact e (fun m => k (nI (i + 5)) m)
theorem ps_2 {L : Nat} (hL : L ≤ 2560) (xs : Nat → Int32) {i : Nat} (hi : i + 5 ≤ L) (h : Rel V c b (300 * i) μ μ) (q : xs i &&& 63 = 2) : ∃ μ', RRi (i + 5) μ' ∧ ∀ k : Int32 → Mem → Option (Unit × Mem), fLaw k L xs (nI i) μ = k (nI (i + 5)) μ' := by
  have B3 : 300 * i + 3000 < 2 ^ 30 := by omega
  have B1 : 300 * i + 1000 < 2 ^ 30 := by omega
  have B0 : 300 * i < 2 ^ 30 := by omega
  have hb : 300 * i ≤ 300 * (i + 5) := by omega
  obtain ⟨μ', R, e⟩ := law_eq (B' := 300 * (i + 5)) (F1 := fun m => fX11_prisoners_0  m) (F2 := fun m => fX12_prisoners_122  m) h (fr_fX11_prisoners_0  μ) (fun m => fr_fX12_prisoners_122  m) (fun ν hν => prnx (pr_prisoners hν B0 ) (by omega))
  refine ⟨μ', R, fun k => ?_⟩
  rw [fLaw_x (fl_nl hL hi) (inb_nI (by omega) (by omega)), ix_nI (show i < 2 ^ 31 by omega), q, fLX_2, show nI i + (5 : Int32) = nI (i + 5) from fl_j i 5]
  exact e (fun m => k (nI (i + 5)) m)
theorem ps_3 {L : Nat} (hL : L ≤ 2560) (xs : Nat → Int32) {i : Nat} (hi : i + 5 ≤ L) (h : Rel V c b (300 * i) μ μ) (q : xs i &&& 63 = 3) : ∃ μ', RRi (i + 5) μ' ∧ ∀ k : Int32 → Mem → Option (Unit × Mem), fLaw k L xs (nI i) μ = k (nI (i + 5)) μ' := by
  have B3 : 300 * i + 3000 < 2 ^ 30 := by omega
  have B1 : 300 * i + 1000 < 2 ^ 30 := by omega
  have B0 : 300 * i < 2 ^ 30 := by omega
  have hb : 300 * i ≤ 300 * (i + 5) := by omega
  obtain ⟨μ', R, e⟩ := law_eq (B' := 300 * (i + 5)) (F1 := fun m => fX11_values_0  m) (F2 := fun m => fX12_values_122  m) h (fr_fX11_values_0  μ) (fun m => fr_fX12_values_122  m) (fun ν hν => prx (pr_values hν  ) hb)
  refine ⟨μ', R, fun k => ?_⟩
  rw [fLaw_x (fl_nl hL hi) (inb_nI (by omega) (by omega)), ix_nI (show i < 2 ^ 31 by omega), q, fLX_3, show nI i + (5 : Int32) = nI (i + 5) from fl_j i 5]
  exact e (fun m => k (nI (i + 5)) m)
theorem ps_4 {L : Nat} (hL : L ≤ 2560) (xs : Nat → Int32) {i : Nat} (hi : i + 5 ≤ L) (h : Rel V c b (300 * i) μ μ) (q : xs i &&& 63 = 4) : ∃ μ', RRi (i + 5) μ' ∧ ∀ k : Int32 → Mem → Option (Unit × Mem), fLaw k L xs (nI i) μ = k (nI (i + 5)) μ' := by
  have B3 : 300 * i + 3000 < 2 ^ 30 := by omega
  have B1 : 300 * i + 1000 < 2 ^ 30 := by omega
  have B0 : 300 * i < 2 ^ 30 := by omega
  have hb : 300 * i ≤ 300 * (i + 5) := by omega
  obtain ⟨μ', R, e⟩ := law_eq (B' := 300 * (i + 5)) (F1 := fun m => fX11_witnesses_0  m) (F2 := fun m => fX12_witnesses_122  m) h (fr_fX11_witnesses_0  μ) (fun m => fr_fX12_witnesses_122  m) (fun ν hν => prnx (pr_witnesses hν B0 ) (by omega))
  refine ⟨μ', R, fun k => ?_⟩
  rw [fLaw_x (fl_nl hL hi) (inb_nI (by omega) (by omega)), ix_nI (show i < 2 ^ 31 by omega), q, fLX_4, show nI i + (5 : Int32) = nI (i + 5) from fl_j i 5]
  exact e (fun m => k (nI (i + 5)) m)
theorem ps_5 {L : Nat} (hL : L ≤ 2560) (xs : Nat → Int32) {i : Nat} (hi : i + 5 ≤ L) (h : Rel V c b (300 * i) μ μ) (q : xs i &&& 63 = 5) : ∃ μ', RRi (i + 5) μ' ∧ ∀ k : Int32 → Mem → Option (Unit × Mem), fLaw k L xs (nI i) μ = k (nI (i + 5)) μ' := by
  have B3 : 300 * i + 3000 < 2 ^ 30 := by omega
  have B1 : 300 * i + 1000 < 2 ^ 30 := by omega
  have B0 : 300 * i < 2 ^ 30 := by omega
  have hb : 300 * i ≤ 300 * (i + 5) := by omega
  obtain ⟨μ', R, e⟩ := law_eq (B' := 300 * (i + 5)) (F1 := fun m => fX11_law_0  m) (F2 := fun m => fX12_law_122  m) h (fr_fX11_law_0  μ) (fun m => fr_fX12_law_122  m) (fun ν hν => prx (pr_law hν  ) hb)
  refine ⟨μ', R, fun k => ?_⟩
  rw [fLaw_x (fl_nl hL hi) (inb_nI (by omega) (by omega)), ix_nI (show i < 2 ^ 31 by omega), q, fLX_5, show nI i + (5 : Int32) = nI (i + 5) from fl_j i 5]
  exact e (fun m => k (nI (i + 5)) m)
theorem ps_6 {L : Nat} (hL : L ≤ 2560) (xs : Nat → Int32) {i : Nat} (hi : i + 5 ≤ L) (h : Rel V c b (300 * i) μ μ) (q : xs i &&& 63 = 6) : ∃ μ', RRi (i + 5) μ' ∧ ∀ k : Int32 → Mem → Option (Unit × Mem), fLaw k L xs (nI i) μ = k (nI (i + 5)) μ' := by
  have B3 : 300 * i + 3000 < 2 ^ 30 := by omega
  have B1 : 300 * i + 1000 < 2 ^ 30 := by omega
  have B0 : 300 * i < 2 ^ 30 := by omega
  have hb : 300 * i ≤ 300 * (i + 5) := by omega
  obtain ⟨μ', R, e⟩ := law_eq (B' := 300 * (i + 5)) (F1 := fun m => fX11_rule_0  m) (F2 := fun m => fX12_rule_122  m) h (fr_fX11_rule_0  μ) (fun m => fr_fX12_rule_122  m) (fun ν hν => prrx (pr_rule hν  ) hb)
  refine ⟨μ', R, fun k => ?_⟩
  rw [fLaw_x (fl_nl hL hi) (inb_nI (by omega) (by omega)), ix_nI (show i < 2 ^ 31 by omega), q, fLX_6, show nI i + (5 : Int32) = nI (i + 5) from fl_j i 5]
  exact e (fun m => k (nI (i + 5)) m)
theorem ps_7 {L : Nat} (hL : L ≤ 2560) (xs : Nat → Int32) {i : Nat} (hi : i + 5 ≤ L) (h : Rel V c b (300 * i) μ μ) (q : xs i &&& 63 = 7) : ∃ μ', RRi (i + 5) μ' ∧ ∀ k : Int32 → Mem → Option (Unit × Mem), fLaw k L xs (nI i) μ = k (nI (i + 5)) μ' := by
  have B3 : 300 * i + 3000 < 2 ^ 30 := by omega
  have B1 : 300 * i + 1000 < 2 ^ 30 := by omega
  have B0 : 300 * i < 2 ^ 30 := by omega
  have hb : 300 * i ≤ 300 * (i + 5) := by omega
  obtain ⟨μ', R, e⟩ := law_thr (B' := 300 * (i + 5)) (F1 := fun m => fH_prisoner (xs (i + 1)) (xs (i + 2)) m) (F2 := fun m => fX12_prisoner_122 (xs (i + 1)) (xs (i + 2)) m) h (fr_fH_prisoner (xs (i + 1)) (xs (i + 2)) μ) (fun m => fr_fX12_prisoner_122 (xs (i + 1)) (xs (i + 2)) m) (fun ν hν => pr_prisoner hν B1 (xs (i + 1)) (xs (i + 2))) hb
  refine ⟨μ', R, fun k => ?_⟩
  rw [fLaw_x (fl_nl hL hi) (inb_nI (by omega) (by omega)), ix_nI (show i < 2 ^ 31 by omega), q, fLX_7, show nI i + (5 : Int32) = nI (i + 5) from fl_j i 5, show nI i + (1 : Int32) = nI (i + 1) from fl_j i 1, show inb (nI (i + 1)) L = true from inb_nI (by omega) (by omega), ix_nI (show i + 1 < 2 ^ 31 by omega), show nI i + (2 : Int32) = nI (i + 2) from fl_j i 2, show inb (nI (i + 2)) L = true from inb_nI (by omega) (by omega), ix_nI (show i + 2 < 2 ^ 31 by omega)]
  exact e (fun m => k (nI (i + 5)) m)
theorem ps_8 {L : Nat} (hL : L ≤ 2560) (xs : Nat → Int32) {i : Nat} (hi : i + 5 ≤ L) (h : Rel V c b (300 * i) μ μ) (q : xs i &&& 63 = 8) : ∃ μ', RRi (i + 5) μ' ∧ ∀ k : Int32 → Mem → Option (Unit × Mem), fLaw k L xs (nI i) μ = k (nI (i + 5)) μ' := by
  have B3 : 300 * i + 3000 < 2 ^ 30 := by omega
  have B1 : 300 * i + 1000 < 2 ^ 30 := by omega
  have B0 : 300 * i < 2 ^ 30 := by omega
  have hb : 300 * i ≤ 300 * (i + 5) := by omega
  obtain ⟨μ', R, e⟩ := law_thr (B' := 300 * (i + 5)) (F1 := fun m => fH_witness (xs (i + 1)) (xs (i + 2)) m) (F2 := fun m => fX12_witness_122 (xs (i + 1)) (xs (i + 2)) m) h (fr_fH_witness (xs (i + 1)) (xs (i + 2)) μ) (fun m => fr_fX12_witness_122 (xs (i + 1)) (xs (i + 2)) m) (fun ν hν => pr_witness hν  (xs (i + 1)) (xs (i + 2))) hb
  refine ⟨μ', R, fun k => ?_⟩
  rw [fLaw_x (fl_nl hL hi) (inb_nI (by omega) (by omega)), ix_nI (show i < 2 ^ 31 by omega), q, fLX_8, show nI i + (5 : Int32) = nI (i + 5) from fl_j i 5, show nI i + (1 : Int32) = nI (i + 1) from fl_j i 1, show inb (nI (i + 1)) L = true from inb_nI (by omega) (by omega), ix_nI (show i + 1 < 2 ^ 31 by omega), show nI i + (2 : Int32) = nI (i + 2) from fl_j i 2, show inb (nI (i + 2)) L = true from inb_nI (by omega) (by omega), ix_nI (show i + 2 < 2 ^ 31 by omega)]
  exact e (fun m => k (nI (i + 5)) m)
theorem ps_9 {L : Nat} (hL : L ≤ 2560) (xs : Nat → Int32) {i : Nat} (hi : i + 5 ≤ L) (h : Rel V c b (300 * i) μ μ) (q : xs i &&& 63 = 9) : ∃ μ', RRi (i + 5) μ' ∧ ∀ k : Int32 → Mem → Option (Unit × Mem), fLaw k L xs (nI i) μ = k (nI (i + 5)) μ' := by
  have B3 : 300 * i + 3000 < 2 ^ 30 := by omega
  have B1 : 300 * i + 1000 < 2 ^ 30 := by omega
  have B0 : 300 * i < 2 ^ 30 := by omega
  have hb : 300 * i ≤ 300 * (i + 5) := by omega
  obtain ⟨μ', R, e⟩ := law_eq (B' := 300 * (i + 5)) (F1 := fun m => fX11_ends_0 (xs (i + 1)) m) (F2 := fun m => fX12_ends_122 (xs (i + 1)) m) h (fr_fX11_ends_0 (xs (i + 1)) μ) (fun m => fr_fX12_ends_122 (xs (i + 1)) m) (fun ν hν => prx (pr_ends hν B1 (xs (i + 1))) hb)
  refine ⟨μ', R, fun k => ?_⟩
  rw [fLaw_x (fl_nl hL hi) (inb_nI (by omega) (by omega)), ix_nI (show i < 2 ^ 31 by omega), q, fLX_9, show nI i + (5 : Int32) = nI (i + 5) from fl_j i 5, show nI i + (1 : Int32) = nI (i + 1) from fl_j i 1, show inb (nI (i + 1)) L = true from inb_nI (by omega) (by omega), ix_nI (show i + 1 < 2 ^ 31 by omega)]
  exact e (fun m => k (nI (i + 5)) m)
theorem ps_10 {L : Nat} (hL : L ≤ 2560) (xs : Nat → Int32) {i : Nat} (hi : i + 5 ≤ L) (h : Rel V c b (300 * i) μ μ) (q : xs i &&& 63 = 10) : ∃ μ', RRi (i + 5) μ' ∧ ∀ k : Int32 → Mem → Option (Unit × Mem), fLaw k L xs (nI i) μ = k (nI (i + 5)) μ' := by
  have B3 : 300 * i + 3000 < 2 ^ 30 := by omega
  have B1 : 300 * i + 1000 < 2 ^ 30 := by omega
  have B0 : 300 * i < 2 ^ 30 := by omega
  have hb : 300 * i ≤ 300 * (i + 5) := by omega
  obtain ⟨μ', R, e⟩ := law_eq (B' := 300 * (i + 5)) (F1 := fun m => fX11_sheet_0 (xs (i + 1)) (xs (i + 2)) (xs (i + 3)) (xs (i + 4)) m) (F2 := fun m => fX12_sheet_122 (xs (i + 1)) (xs (i + 2)) (xs (i + 3)) (xs (i + 4)) m) h (fr_fX11_sheet_0 (xs (i + 1)) (xs (i + 2)) (xs (i + 3)) (xs (i + 4)) μ) (fun m => fr_fX12_sheet_122 (xs (i + 1)) (xs (i + 2)) (xs (i + 3)) (xs (i + 4)) m) (fun ν hν => prx (pr_sheet hν  (xs (i + 1)) (xs (i + 2)) (xs (i + 3)) (xs (i + 4))) hb)
  refine ⟨μ', R, fun k => ?_⟩
  rw [fLaw_x (fl_nl hL hi) (inb_nI (by omega) (by omega)), ix_nI (show i < 2 ^ 31 by omega), q, fLX_10, show nI i + (5 : Int32) = nI (i + 5) from fl_j i 5, show nI i + (1 : Int32) = nI (i + 1) from fl_j i 1, show inb (nI (i + 1)) L = true from inb_nI (by omega) (by omega), ix_nI (show i + 1 < 2 ^ 31 by omega), show nI i + (2 : Int32) = nI (i + 2) from fl_j i 2, show inb (nI (i + 2)) L = true from inb_nI (by omega) (by omega), ix_nI (show i + 2 < 2 ^ 31 by omega), show nI i + (3 : Int32) = nI (i + 3) from fl_j i 3, show inb (nI (i + 3)) L = true from inb_nI (by omega) (by omega), ix_nI (show i + 3 < 2 ^ 31 by omega), show nI i + (4 : Int32) = nI (i + 4) from fl_j i 4, show inb (nI (i + 4)) L = true from inb_nI (by omega) (by omega), ix_nI (show i + 4 < 2 ^ 31 by omega)]
  exact e (fun m => k (nI (i + 5)) m)
theorem ps_11 {L : Nat} (hL : L ≤ 2560) (xs : Nat → Int32) {i : Nat} (hi : i + 5 ≤ L) (h : Rel V c b (300 * i) μ μ) (q : xs i &&& 63 = 11) : ∃ μ', RRi (i + 5) μ' ∧ ∀ k : Int32 → Mem → Option (Unit × Mem), fLaw k L xs (nI i) μ = k (nI (i + 5)) μ' := by
  have B3 : 300 * i + 3000 < 2 ^ 30 := by omega
  have B1 : 300 * i + 1000 < 2 ^ 30 := by omega
  have B0 : 300 * i < 2 ^ 30 := by omega
  have hb : 300 * i ≤ 300 * (i + 5) := by omega
  obtain ⟨μ', R, e⟩ := law_eq (B' := 300 * (i + 5)) (F1 := fun m => fX11_lay_0 (xs (i + 1)) (xs (i + 2)) m) (F2 := fun m => fX12_lay__122 (xs (i + 1)) (xs (i + 2)) m) h (fr_fX11_lay_0 (xs (i + 1)) (xs (i + 2)) μ) (fun m => fr_fX12_lay__122 (xs (i + 1)) (xs (i + 2)) m) (fun ν hν => prx (pr_lay hν  (xs (i + 1)) (xs (i + 2))) hb)
  refine ⟨μ', R, fun k => ?_⟩
  rw [fLaw_x (fl_nl hL hi) (inb_nI (by omega) (by omega)), ix_nI (show i < 2 ^ 31 by omega), q, fLX_11, show nI i + (5 : Int32) = nI (i + 5) from fl_j i 5, show nI i + (1 : Int32) = nI (i + 1) from fl_j i 1, show inb (nI (i + 1)) L = true from inb_nI (by omega) (by omega), ix_nI (show i + 1 < 2 ^ 31 by omega), show nI i + (2 : Int32) = nI (i + 2) from fl_j i 2, show inb (nI (i + 2)) L = true from inb_nI (by omega) (by omega), ix_nI (show i + 2 < 2 ^ 31 by omega)]
  exact e (fun m => k (nI (i + 5)) m)
theorem ps_12 {L : Nat} (hL : L ≤ 2560) (xs : Nat → Int32) {i : Nat} (hi : i + 5 ≤ L) (h : Rel V c b (300 * i) μ μ) (q : xs i &&& 63 = 12) : ∃ μ', RRi (i + 5) μ' ∧ ∀ k : Int32 → Mem → Option (Unit × Mem), fLaw k L xs (nI i) μ = k (nI (i + 5)) μ' := by
  have B3 : 300 * i + 3000 < 2 ^ 30 := by omega
  have B1 : 300 * i + 1000 < 2 ^ 30 := by omega
  have B0 : 300 * i < 2 ^ 30 := by omega
  have hb : 300 * i ≤ 300 * (i + 5) := by omega
  obtain ⟨μ', R, e⟩ := law_eq (B' := 300 * (i + 5)) (F1 := fun m => fX11_ask_0 (xs (i + 1)) m) (F2 := fun m => fX12_ask_122 (xs (i + 1)) m) h (fr_fX11_ask_0 (xs (i + 1)) μ) (fun m => fr_fX12_ask_122 (xs (i + 1)) m) (fun ν hν => prx (pr_ask hν B1 (xs (i + 1))) hb)
  refine ⟨μ', R, fun k => ?_⟩
  rw [fLaw_x (fl_nl hL hi) (inb_nI (by omega) (by omega)), ix_nI (show i < 2 ^ 31 by omega), q, fLX_12, show nI i + (5 : Int32) = nI (i + 5) from fl_j i 5, show nI i + (1 : Int32) = nI (i + 1) from fl_j i 1, show inb (nI (i + 1)) L = true from inb_nI (by omega) (by omega), ix_nI (show i + 1 < 2 ^ 31 by omega)]
  exact e (fun m => k (nI (i + 5)) m)
theorem ps_13 {L : Nat} (hL : L ≤ 2560) (xs : Nat → Int32) {i : Nat} (hi : i + 5 ≤ L) (h : Rel V c b (300 * i) μ μ) (q : xs i &&& 63 = 13) : ∃ μ', RRi (i + 5) μ' ∧ ∀ k : Int32 → Mem → Option (Unit × Mem), fLaw k L xs (nI i) μ = k (nI (i + 5)) μ' := by
  have B3 : 300 * i + 3000 < 2 ^ 30 := by omega
  have B1 : 300 * i + 1000 < 2 ^ 30 := by omega
  have B0 : 300 * i < 2 ^ 30 := by omega
  have hb : 300 * i ≤ 300 * (i + 5) := by omega
  obtain ⟨μ', R, e⟩ := law_eq (B' := 300 * (i + 5)) (F1 := fun m => fX11_judge_0 (xs (i + 1)) m) (F2 := fun m => fX12_judge_122 (xs (i + 1)) m) h (fr_fX11_judge_0 (xs (i + 1)) μ) (fun m => fr_fX12_judge_122 (xs (i + 1)) m) (fun ν hν => prx (pr_judge hν  (xs (i + 1))) hb)
  refine ⟨μ', R, fun k => ?_⟩
  rw [fLaw_x (fl_nl hL hi) (inb_nI (by omega) (by omega)), ix_nI (show i < 2 ^ 31 by omega), q, fLX_13, show nI i + (5 : Int32) = nI (i + 5) from fl_j i 5, show nI i + (1 : Int32) = nI (i + 1) from fl_j i 1, show inb (nI (i + 1)) L = true from inb_nI (by omega) (by omega), ix_nI (show i + 1 < 2 ^ 31 by omega)]
  exact e (fun m => k (nI (i + 5)) m)
theorem ps_14 {L : Nat} (hL : L ≤ 2560) (xs : Nat → Int32) {i : Nat} (hi : i + 5 ≤ L) (h : Rel V c b (300 * i) μ μ) (q : xs i &&& 63 = 14) : ∃ μ', RRi (i + 5) μ' ∧ ∀ k : Int32 → Mem → Option (Unit × Mem), fLaw k L xs (nI i) μ = k (nI (i + 5)) μ' := by
  have B3 : 300 * i + 3000 < 2 ^ 30 := by omega
  have B1 : 300 * i + 1000 < 2 ^ 30 := by omega
  have B0 : 300 * i < 2 ^ 30 := by omega
  have hb : 300 * i ≤ 300 * (i + 5) := by omega
  obtain ⟨μ', R, e⟩ := law_eq (B' := 300 * (i + 5)) (F1 := fun m => fX11_nights_0 (xs (i + 1)) m) (F2 := fun m => fX12_nights_122 (xs (i + 1)) m) h (fr_fX11_nights_0 (xs (i + 1)) μ) (fun m => fr_fX12_nights_122 (xs (i + 1)) m) (fun ν hν => prx (pr_nights hν B3 (xs (i + 1))) (by omega))
  refine ⟨μ', R, fun k => ?_⟩
  rw [fLaw_x (fl_nl hL hi) (inb_nI (by omega) (by omega)), ix_nI (show i < 2 ^ 31 by omega), q, fLX_14, show nI i + (5 : Int32) = nI (i + 5) from fl_j i 5, show nI i + (1 : Int32) = nI (i + 1) from fl_j i 1, show inb (nI (i + 1)) L = true from inb_nI (by omega) (by omega), ix_nI (show i + 1 < 2 ^ 31 by omega)]
  exact e (fun m => k (nI (i + 5)) m)
theorem ps_15 {L : Nat} (hL : L ≤ 2560) (xs : Nat → Int32) {i : Nat} (hi : i + 5 ≤ L) (h : Rel V c b (300 * i) μ μ) (q : xs i &&& 63 = 15) : ∃ μ', RRi (i + 5) μ' ∧ ∀ k : Int32 → Mem → Option (Unit × Mem), fLaw k L xs (nI i) μ = k (nI (i + 5)) μ' := by
  have B3 : 300 * i + 3000 < 2 ^ 30 := by omega
  have B1 : 300 * i + 1000 < 2 ^ 30 := by omega
  have B0 : 300 * i < 2 ^ 30 := by omega
  have hb : 300 * i ≤ 300 * (i + 5) := by omega
  obtain ⟨μ', R, e⟩ := law_eq (B' := 300 * (i + 5)) (F1 := fun m => fX11_assize_0  m) (F2 := fun m => fX12_assize_122  m) h (fr_fX11_assize_0  μ) (fun m => fr_fX12_assize_122  m) (fun ν hν => prx (pr_assize hν B3 ) (by omega))
  refine ⟨μ', R, fun k => ?_⟩
  rw [fLaw_x (fl_nl hL hi) (inb_nI (by omega) (by omega)), ix_nI (show i < 2 ^ 31 by omega), q, fLX_15, show nI i + (5 : Int32) = nI (i + 5) from fl_j i 5]
  exact e (fun m => k (nI (i + 5)) m)
theorem ps_16 {L : Nat} (hL : L ≤ 2560) (xs : Nat → Int32) {i : Nat} (hi : i + 5 ≤ L) (h : Rel V c b (300 * i) μ μ) (q : xs i &&& 63 = 16) : ∃ μ', RRi (i + 5) μ' ∧ ∀ k : Int32 → Mem → Option (Unit × Mem), fLaw k L xs (nI i) μ = k (nI (i + 5)) μ' := by
  have B3 : 300 * i + 3000 < 2 ^ 30 := by omega
  have B1 : 300 * i + 1000 < 2 ^ 30 := by omega
  have B0 : 300 * i < 2 ^ 30 := by omega
  have hb : 300 * i ≤ 300 * (i + 5) := by omega
  obtain ⟨μ', R, e⟩ := law_eq (B' := 300 * (i + 5)) (F1 := fun m => fX11_undo_0  m) (F2 := fun m => fX12_undo_122  m) h (fr_fX11_undo_0  μ) (fun m => fr_fX12_undo_122  m) (fun ν hν => prx (pr_undo hν  ) hb)
  refine ⟨μ', R, fun k => ?_⟩
  rw [fLaw_x (fl_nl hL hi) (inb_nI (by omega) (by omega)), ix_nI (show i < 2 ^ 31 by omega), q, fLX_16, show nI i + (5 : Int32) = nI (i + 5) from fl_j i 5]
  exact e (fun m => k (nI (i + 5)) m)
theorem ps_17 {L : Nat} (hL : L ≤ 2560) (xs : Nat → Int32) {i : Nat} (hi : i + 5 ≤ L) (h : Rel V c b (300 * i) μ μ) (q : xs i &&& 63 = 17) : ∃ μ', RRi (i + 5) μ' ∧ ∀ k : Int32 → Mem → Option (Unit × Mem), fLaw k L xs (nI i) μ = k (nI (i + 5)) μ' := by
  have B3 : 300 * i + 3000 < 2 ^ 30 := by omega
  have B1 : 300 * i + 1000 < 2 ^ 30 := by omega
  have B0 : 300 * i < 2 ^ 30 := by omega
  have hb : 300 * i ≤ 300 * (i + 5) := by omega
  obtain ⟨μ', R, e⟩ := law_eq (B' := 300 * (i + 5)) (F1 := fun m => fX11_left_0 (xs (i + 1)) (xs (i + 2)) m) (F2 := fun m => fX12_left_122 (xs (i + 1)) (xs (i + 2)) m) h (fr_fX11_left_0 (xs (i + 1)) (xs (i + 2)) μ) (fun m => fr_fX12_left_122 (xs (i + 1)) (xs (i + 2)) m) (fun ν hν => prx (pr_left hν B1 (xs (i + 1)) (xs (i + 2))) hb)
  refine ⟨μ', R, fun k => ?_⟩
  rw [fLaw_x (fl_nl hL hi) (inb_nI (by omega) (by omega)), ix_nI (show i < 2 ^ 31 by omega), q, fLX_17, show nI i + (5 : Int32) = nI (i + 5) from fl_j i 5, show nI i + (1 : Int32) = nI (i + 1) from fl_j i 1, show inb (nI (i + 1)) L = true from inb_nI (by omega) (by omega), ix_nI (show i + 1 < 2 ^ 31 by omega), show nI i + (2 : Int32) = nI (i + 2) from fl_j i 2, show inb (nI (i + 2)) L = true from inb_nI (by omega) (by omega), ix_nI (show i + 2 < 2 ^ 31 by omega)]
  exact e (fun m => k (nI (i + 5)) m)
theorem ps_18 {L : Nat} (hL : L ≤ 2560) (xs : Nat → Int32) {i : Nat} (hi : i + 5 ≤ L) (h : Rel V c b (300 * i) μ μ) (q : xs i &&& 63 = 18) : ∃ μ', RRi (i + 5) μ' ∧ ∀ k : Int32 → Mem → Option (Unit × Mem), fLaw k L xs (nI i) μ = k (nI (i + 5)) μ' := by
  have B3 : 300 * i + 3000 < 2 ^ 30 := by omega
  have B1 : 300 * i + 1000 < 2 ^ 30 := by omega
  have B0 : 300 * i < 2 ^ 30 := by omega
  have hb : 300 * i ≤ 300 * (i + 5) := by omega
  obtain ⟨μ', R, e⟩ := law_eq (B' := 300 * (i + 5)) (F1 := fun m => fX11_dies_0 (xs (i + 1)) m) (F2 := fun m => fX12_dies_122 (xs (i + 1)) m) h (fr_fX11_dies_0 (xs (i + 1)) μ) (fun m => fr_fX12_dies_122 (xs (i + 1)) m) (fun ν hν => prx (pr_dies hν B1 (xs (i + 1))) hb)
  refine ⟨μ', R, fun k => ?_⟩
  rw [fLaw_x (fl_nl hL hi) (inb_nI (by omega) (by omega)), ix_nI (show i < 2 ^ 31 by omega), q, fLX_18, show nI i + (5 : Int32) = nI (i + 5) from fl_j i 5, show nI i + (1 : Int32) = nI (i + 1) from fl_j i 1, show inb (nI (i + 1)) L = true from inb_nI (by omega) (by omega), ix_nI (show i + 1 < 2 ^ 31 by omega)]
  exact e (fun m => k (nI (i + 5)) m)
theorem ps_19 {L : Nat} (hL : L ≤ 2560) (xs : Nat → Int32) {i : Nat} (hi : i + 5 ≤ L) (h : Rel V c b (300 * i) μ μ) (q : xs i &&& 63 = 19) : ∃ μ', RRi (i + 5) μ' ∧ ∀ k : Int32 → Mem → Option (Unit × Mem), fLaw k L xs (nI i) μ = k (nI (i + 5)) μ' := by
  have B3 : 300 * i + 3000 < 2 ^ 30 := by omega
  have B1 : 300 * i + 1000 < 2 ^ 30 := by omega
  have B0 : 300 * i < 2 ^ 30 := by omega
  have hb : 300 * i ≤ 300 * (i + 5) := by omega
  obtain ⟨μ', R, e⟩ := law_eq (B' := 300 * (i + 5)) (F1 := fun m => fX11_speaks_0 (xs (i + 1)) (xs (i + 2)) m) (F2 := fun m => fX12_speaks_122 (xs (i + 1)) (xs (i + 2)) m) h (fr_fX11_speaks_0 (xs (i + 1)) (xs (i + 2)) μ) (fun m => fr_fX12_speaks_122 (xs (i + 1)) (xs (i + 2)) m) (fun ν hν => prx (pr_speaks hν B1 (xs (i + 1)) (xs (i + 2))) hb)
  refine ⟨μ', R, fun k => ?_⟩
  rw [fLaw_x (fl_nl hL hi) (inb_nI (by omega) (by omega)), ix_nI (show i < 2 ^ 31 by omega), q, fLX_19, show nI i + (5 : Int32) = nI (i + 5) from fl_j i 5, show nI i + (1 : Int32) = nI (i + 1) from fl_j i 1, show inb (nI (i + 1)) L = true from inb_nI (by omega) (by omega), ix_nI (show i + 1 < 2 ^ 31 by omega), show nI i + (2 : Int32) = nI (i + 2) from fl_j i 2, show inb (nI (i + 2)) L = true from inb_nI (by omega) (by omega), ix_nI (show i + 2 < 2 ^ 31 by omega)]
  exact e (fun m => k (nI (i + 5)) m)
theorem ps_20 {L : Nat} (hL : L ≤ 2560) (xs : Nat → Int32) {i : Nat} (hi : i + 5 ≤ L) (h : Rel V c b (300 * i) μ μ) (q : xs i &&& 63 = 20) : ∃ μ', RRi (i + 5) μ' ∧ ∀ k : Int32 → Mem → Option (Unit × Mem), fLaw k L xs (nI i) μ = k (nI (i + 5)) μ' := by
  have B3 : 300 * i + 3000 < 2 ^ 30 := by omega
  have B1 : 300 * i + 1000 < 2 ^ 30 := by omega
  have B0 : 300 * i < 2 ^ 30 := by omega
  have hb : 300 * i ≤ 300 * (i + 5) := by omega
  obtain ⟨μ', R, e⟩ := law_eq (B' := 300 * (i + 5)) (F1 := fun m => fX11_least_0 (xs (i + 1)) (xs (i + 2)) m) (F2 := fun m => fX12_least_122 (xs (i + 1)) (xs (i + 2)) m) h (fr_fX11_least_0 (xs (i + 1)) (xs (i + 2)) μ) (fun m => fr_fX12_least_122 (xs (i + 1)) (xs (i + 2)) m) (fun ν hν => prx (pr_least hν B1 (xs (i + 1)) (xs (i + 2))) hb)
  refine ⟨μ', R, fun k => ?_⟩
  rw [fLaw_x (fl_nl hL hi) (inb_nI (by omega) (by omega)), ix_nI (show i < 2 ^ 31 by omega), q, fLX_20, show nI i + (5 : Int32) = nI (i + 5) from fl_j i 5, show nI i + (1 : Int32) = nI (i + 1) from fl_j i 1, show inb (nI (i + 1)) L = true from inb_nI (by omega) (by omega), ix_nI (show i + 1 < 2 ^ 31 by omega), show nI i + (2 : Int32) = nI (i + 2) from fl_j i 2, show inb (nI (i + 2)) L = true from inb_nI (by omega) (by omega), ix_nI (show i + 2 < 2 ^ 31 by omega)]
  exact e (fun m => k (nI (i + 5)) m)
theorem ps_21 {L : Nat} (hL : L ≤ 2560) (xs : Nat → Int32) {i : Nat} (hi : i + 5 ≤ L) (h : Rel V c b (300 * i) μ μ) (q : xs i &&& 63 = 21) : ∃ μ', RRi (i + 5) μ' ∧ ∀ k : Int32 → Mem → Option (Unit × Mem), fLaw k L xs (nI i) μ = k (nI (i + 5)) μ' := by
  have B3 : 300 * i + 3000 < 2 ^ 30 := by omega
  have B1 : 300 * i + 1000 < 2 ^ 30 := by omega
  have B0 : 300 * i < 2 ^ 30 := by omega
  have hb : 300 * i ≤ 300 * (i + 5) := by omega
  obtain ⟨μ', R, e⟩ := law_eq (B' := 300 * (i + 5)) (F1 := fun m => fX11_mercy_0 (xs (i + 1)) (xs (i + 2)) m) (F2 := fun m => fX12_mercy_122 (xs (i + 1)) (xs (i + 2)) m) h (fr_fX11_mercy_0 (xs (i + 1)) (xs (i + 2)) μ) (fun m => fr_fX12_mercy_122 (xs (i + 1)) (xs (i + 2)) m) (fun ν hν => prx (pr_mercy hν B1 (xs (i + 1)) (xs (i + 2))) hb)
  refine ⟨μ', R, fun k => ?_⟩
  rw [fLaw_x (fl_nl hL hi) (inb_nI (by omega) (by omega)), ix_nI (show i < 2 ^ 31 by omega), q, fLX_21, show nI i + (5 : Int32) = nI (i + 5) from fl_j i 5, show nI i + (1 : Int32) = nI (i + 1) from fl_j i 1, show inb (nI (i + 1)) L = true from inb_nI (by omega) (by omega), ix_nI (show i + 1 < 2 ^ 31 by omega), show nI i + (2 : Int32) = nI (i + 2) from fl_j i 2, show inb (nI (i + 2)) L = true from inb_nI (by omega) (by omega), ix_nI (show i + 2 < 2 ^ 31 by omega)]
  exact e (fun m => k (nI (i + 5)) m)
theorem ps_22 {L : Nat} (hL : L ≤ 2560) (xs : Nat → Int32) {i : Nat} (hi : i + 5 ≤ L) (h : Rel V c b (300 * i) μ μ) (q : xs i &&& 63 = 22) : ∃ μ', RRi (i + 5) μ' ∧ ∀ k : Int32 → Mem → Option (Unit × Mem), fLaw k L xs (nI i) μ = k (nI (i + 5)) μ' := by
  have B3 : 300 * i + 3000 < 2 ^ 30 := by omega
  have B1 : 300 * i + 1000 < 2 ^ 30 := by omega
  have B0 : 300 * i < 2 ^ 30 := by omega
  have hb : 300 * i ≤ 300 * (i + 5) := by omega
  obtain ⟨μ', R, e⟩ := law_eq (B' := 300 * (i + 5)) (F1 := fun m => fX11_longest_0 (xs (i + 1)) m) (F2 := fun m => fX12_longest_122 (xs (i + 1)) m) h (fr_fX11_longest_0 (xs (i + 1)) μ) (fun m => fr_fX12_longest_122 (xs (i + 1)) m) (fun ν hν => prx (pr_longest hν B1 (xs (i + 1))) hb)
  refine ⟨μ', R, fun k => ?_⟩
  rw [fLaw_x (fl_nl hL hi) (inb_nI (by omega) (by omega)), ix_nI (show i < 2 ^ 31 by omega), q, fLX_22, show nI i + (5 : Int32) = nI (i + 5) from fl_j i 5, show nI i + (1 : Int32) = nI (i + 1) from fl_j i 1, show inb (nI (i + 1)) L = true from inb_nI (by omega) (by omega), ix_nI (show i + 1 < 2 ^ 31 by omega)]
  exact e (fun m => k (nI (i + 5)) m)
theorem ps_23 {L : Nat} (hL : L ≤ 2560) (xs : Nat → Int32) {i : Nat} (hi : i + 5 ≤ L) (h : Rel V c b (300 * i) μ μ) (q : xs i &&& 63 = 23) : ∃ μ', RRi (i + 5) μ' ∧ ∀ k : Int32 → Mem → Option (Unit × Mem), fLaw k L xs (nI i) μ = k (nI (i + 5)) μ' := by
  have B3 : 300 * i + 3000 < 2 ^ 30 := by omega
  have B1 : 300 * i + 1000 < 2 ^ 30 := by omega
  have B0 : 300 * i < 2 ^ 30 := by omega
  have hb : 300 * i ≤ 300 * (i + 5) := by omega
  obtain ⟨μ', R, e⟩ := law_eq (B' := 300 * (i + 5)) (F1 := fun m => fX11_alike_0 (xs (i + 1)) (xs (i + 2)) m) (F2 := fun m => fX12_alike_122 (xs (i + 1)) (xs (i + 2)) m) h (fr_fX11_alike_0 (xs (i + 1)) (xs (i + 2)) μ) (fun m => fr_fX12_alike_122 (xs (i + 1)) (xs (i + 2)) m) (fun ν hν => prx (pr_alike hν B1 (xs (i + 1)) (xs (i + 2))) hb)
  refine ⟨μ', R, fun k => ?_⟩
  rw [fLaw_x (fl_nl hL hi) (inb_nI (by omega) (by omega)), ix_nI (show i < 2 ^ 31 by omega), q, fLX_23, show nI i + (5 : Int32) = nI (i + 5) from fl_j i 5, show nI i + (1 : Int32) = nI (i + 1) from fl_j i 1, show inb (nI (i + 1)) L = true from inb_nI (by omega) (by omega), ix_nI (show i + 1 < 2 ^ 31 by omega), show nI i + (2 : Int32) = nI (i + 2) from fl_j i 2, show inb (nI (i + 2)) L = true from inb_nI (by omega) (by omega), ix_nI (show i + 2 < 2 ^ 31 by omega)]
  exact e (fun m => k (nI (i + 5)) m)
theorem ps_24 {L : Nat} (hL : L ≤ 2560) (xs : Nat → Int32) {i : Nat} (hi : i + 5 ≤ L) (h : Rel V c b (300 * i) μ μ) (q : xs i &&& 63 = 24) : ∃ μ', RRi (i + 5) μ' ∧ ∀ k : Int32 → Mem → Option (Unit × Mem), fLaw k L xs (nI i) μ = k (nI (i + 5)) μ' := by
  have B3 : 300 * i + 3000 < 2 ^ 30 := by omega
  have B1 : 300 * i + 1000 < 2 ^ 30 := by omega
  have B0 : 300 * i < 2 ^ 30 := by omega
  have hb : 300 * i ≤ 300 * (i + 5) := by omega
  obtain ⟨μ', R, e⟩ := law_eq (B' := 300 * (i + 5)) (F1 := fun m => fX11_stones_0 (xs (i + 1)) m) (F2 := fun m => fX12_stones_122 (xs (i + 1)) m) h (fr_fX11_stones_0 (xs (i + 1)) μ) (fun m => fr_fX12_stones_122 (xs (i + 1)) m) (fun ν hν => prx (pr_stones hν B1 (xs (i + 1))) hb)
  refine ⟨μ', R, fun k => ?_⟩
  rw [fLaw_x (fl_nl hL hi) (inb_nI (by omega) (by omega)), ix_nI (show i < 2 ^ 31 by omega), q, fLX_24, show nI i + (5 : Int32) = nI (i + 5) from fl_j i 5, show nI i + (1 : Int32) = nI (i + 1) from fl_j i 1, show inb (nI (i + 1)) L = true from inb_nI (by omega) (by omega), ix_nI (show i + 1 < 2 ^ 31 by omega)]
  exact e (fun m => k (nI (i + 5)) m)
theorem ps_25 {L : Nat} (hL : L ≤ 2560) (xs : Nat → Int32) {i : Nat} (hi : i + 5 ≤ L) (h : Rel V c b (300 * i) μ μ) (q : xs i &&& 63 = 25) : ∃ μ', RRi (i + 5) μ' ∧ ∀ k : Int32 → Mem → Option (Unit × Mem), fLaw k L xs (nI i) μ = k (nI (i + 5)) μ' := by
  have B3 : 300 * i + 3000 < 2 ^ 30 := by omega
  have B1 : 300 * i + 1000 < 2 ^ 30 := by omega
  have B0 : 300 * i < 2 ^ 30 := by omega
  have hb : 300 * i ≤ 300 * (i + 5) := by omega
  obtain ⟨μ', R, e⟩ := law_eq (B' := 300 * (i + 5)) (F1 := fun m => fX11_silent_0 (xs (i + 1)) m) (F2 := fun m => fX12_silent_122 (xs (i + 1)) m) h (fr_fX11_silent_0 (xs (i + 1)) μ) (fun m => fr_fX12_silent_122 (xs (i + 1)) m) (fun ν hν => prx (pr_silent hν B3 (xs (i + 1))) hb)
  refine ⟨μ', R, fun k => ?_⟩
  rw [fLaw_x (fl_nl hL hi) (inb_nI (by omega) (by omega)), ix_nI (show i < 2 ^ 31 by omega), q, fLX_25, show nI i + (5 : Int32) = nI (i + 5) from fl_j i 5, show nI i + (1 : Int32) = nI (i + 1) from fl_j i 1, show inb (nI (i + 1)) L = true from inb_nI (by omega) (by omega), ix_nI (show i + 1 < 2 ^ 31 by omega)]
  exact e (fun m => k (nI (i + 5)) m)
theorem ps_26 {L : Nat} (hL : L ≤ 2560) (xs : Nat → Int32) {i : Nat} (hi : i + 5 ≤ L) (h : Rel V c b (300 * i) μ μ) (q : xs i &&& 63 = 26) : ∃ μ', RRi (i + 5) μ' ∧ ∀ k : Int32 → Mem → Option (Unit × Mem), fLaw k L xs (nI i) μ = k (nI (i + 5)) μ' := by
  have B3 : 300 * i + 3000 < 2 ^ 30 := by omega
  have B1 : 300 * i + 1000 < 2 ^ 30 := by omega
  have B0 : 300 * i < 2 ^ 30 := by omega
  have hb : 300 * i ≤ 300 * (i + 5) := by omega
  obtain ⟨μ', R, e⟩ := law_eq (B' := 300 * (i + 5)) (F1 := fun m => fX11_proof_0 (xs (i + 1)) (xs (i + 2)) m) (F2 := fun m => fX12_proof_122 (xs (i + 1)) (xs (i + 2)) m) h (fr_fX11_proof_0 (xs (i + 1)) (xs (i + 2)) μ) (fun m => fr_fX12_proof_122 (xs (i + 1)) (xs (i + 2)) m) (fun ν hν => prx (pr_proof hν  (xs (i + 1)) (xs (i + 2))) hb)
  refine ⟨μ', R, fun k => ?_⟩
  rw [fLaw_x (fl_nl hL hi) (inb_nI (by omega) (by omega)), ix_nI (show i < 2 ^ 31 by omega), q, fLX_26, show nI i + (5 : Int32) = nI (i + 5) from fl_j i 5, show nI i + (1 : Int32) = nI (i + 1) from fl_j i 1, show inb (nI (i + 1)) L = true from inb_nI (by omega) (by omega), ix_nI (show i + 1 < 2 ^ 31 by omega), show nI i + (2 : Int32) = nI (i + 2) from fl_j i 2, show inb (nI (i + 2)) L = true from inb_nI (by omega) (by omega), ix_nI (show i + 2 < 2 ^ 31 by omega)]
  exact e (fun m => k (nI (i + 5)) m)
theorem ps_27 {L : Nat} (hL : L ≤ 2560) (xs : Nat → Int32) {i : Nat} (hi : i + 5 ≤ L) (h : Rel V c b (300 * i) μ μ) (q : xs i &&& 63 = 27) : ∃ μ', RRi (i + 5) μ' ∧ ∀ k : Int32 → Mem → Option (Unit × Mem), fLaw k L xs (nI i) μ = k (nI (i + 5)) μ' := by
  have B3 : 300 * i + 3000 < 2 ^ 30 := by omega
  have B1 : 300 * i + 1000 < 2 ^ 30 := by omega
  have B0 : 300 * i < 2 ^ 30 := by omega
  have hb : 300 * i ≤ 300 * (i + 5) := by omega
  obtain ⟨μ', R, e⟩ := law_eq (B' := 300 * (i + 5)) (F1 := fun m => fX11_till_0 (xs (i + 1)) m) (F2 := fun m => fX12_till_122 (xs (i + 1)) m) h (fr_fX11_till_0 (xs (i + 1)) μ) (fun m => fr_fX12_till_122 (xs (i + 1)) m) (fun ν hν => prx (pr_till hν  (xs (i + 1))) hb)
  refine ⟨μ', R, fun k => ?_⟩
  rw [fLaw_x (fl_nl hL hi) (inb_nI (by omega) (by omega)), ix_nI (show i < 2 ^ 31 by omega), q, fLX_27, show nI i + (5 : Int32) = nI (i + 5) from fl_j i 5, show nI i + (1 : Int32) = nI (i + 1) from fl_j i 1, show inb (nI (i + 1)) L = true from inb_nI (by omega) (by omega), ix_nI (show i + 1 < 2 ^ 31 by omega)]
  exact e (fun m => k (nI (i + 5)) m)
theorem ps_28 {L : Nat} (hL : L ≤ 2560) (xs : Nat → Int32) {i : Nat} (hi : i + 5 ≤ L) (h : Rel V c b (300 * i) μ μ) (q : xs i &&& 63 = 28) : ∃ μ', RRi (i + 5) μ' ∧ ∀ k : Int32 → Mem → Option (Unit × Mem), fLaw k L xs (nI i) μ = k (nI (i + 5)) μ' := by
  have B3 : 300 * i + 3000 < 2 ^ 30 := by omega
  have B1 : 300 * i + 1000 < 2 ^ 30 := by omega
  have B0 : 300 * i < 2 ^ 30 := by omega
  have hb : 300 * i ≤ 300 * (i + 5) := by omega
  obtain ⟨μ', R, e⟩ := law_eq (B' := 300 * (i + 5)) (F1 := fun m => fX11_gains_0 (xs (i + 1)) (xs (i + 2)) m) (F2 := fun m => fX12_gains_122 (xs (i + 1)) (xs (i + 2)) m) h (fr_fX11_gains_0 (xs (i + 1)) (xs (i + 2)) μ) (fun m => fr_fX12_gains_122 (xs (i + 1)) (xs (i + 2)) m) (fun ν hν => prx (pr_gains hν  (xs (i + 1)) (xs (i + 2))) hb)
  refine ⟨μ', R, fun k => ?_⟩
  rw [fLaw_x (fl_nl hL hi) (inb_nI (by omega) (by omega)), ix_nI (show i < 2 ^ 31 by omega), q, fLX_28, show nI i + (5 : Int32) = nI (i + 5) from fl_j i 5, show nI i + (1 : Int32) = nI (i + 1) from fl_j i 1, show inb (nI (i + 1)) L = true from inb_nI (by omega) (by omega), ix_nI (show i + 1 < 2 ^ 31 by omega), show nI i + (2 : Int32) = nI (i + 2) from fl_j i 2, show inb (nI (i + 2)) L = true from inb_nI (by omega) (by omega), ix_nI (show i + 2 < 2 ^ 31 by omega)]
  exact e (fun m => k (nI (i + 5)) m)
theorem ps_29 {L : Nat} (hL : L ≤ 2560) (xs : Nat → Int32) {i : Nat} (hi : i + 5 ≤ L) (h : Rel V c b (300 * i) μ μ) (q : xs i &&& 63 = 29) : ∃ μ', RRi (i + 5) μ' ∧ ∀ k : Int32 → Mem → Option (Unit × Mem), fLaw k L xs (nI i) μ = k (nI (i + 5)) μ' := by
  have B3 : 300 * i + 3000 < 2 ^ 30 := by omega
  have B1 : 300 * i + 1000 < 2 ^ 30 := by omega
  have B0 : 300 * i < 2 ^ 30 := by omega
  have hb : 300 * i ≤ 300 * (i + 5) := by omega
  obtain ⟨μ', R, e⟩ := law_eq (B' := 300 * (i + 5)) (F1 := fun m => fX11_lacks_0 (xs (i + 1)) (xs (i + 2)) m) (F2 := fun m => fX12_lacks_122 (xs (i + 1)) (xs (i + 2)) m) h (fr_fX11_lacks_0 (xs (i + 1)) (xs (i + 2)) μ) (fun m => fr_fX12_lacks_122 (xs (i + 1)) (xs (i + 2)) m) (fun ν hν => prx (pr_lacks hν  (xs (i + 1)) (xs (i + 2))) hb)
  refine ⟨μ', R, fun k => ?_⟩
  rw [fLaw_x (fl_nl hL hi) (inb_nI (by omega) (by omega)), ix_nI (show i < 2 ^ 31 by omega), q, fLX_29, show nI i + (5 : Int32) = nI (i + 5) from fl_j i 5, show nI i + (1 : Int32) = nI (i + 1) from fl_j i 1, show inb (nI (i + 1)) L = true from inb_nI (by omega) (by omega), ix_nI (show i + 1 < 2 ^ 31 by omega), show nI i + (2 : Int32) = nI (i + 2) from fl_j i 2, show inb (nI (i + 2)) L = true from inb_nI (by omega) (by omega), ix_nI (show i + 2 < 2 ^ 31 by omega)]
  exact e (fun m => k (nI (i + 5)) m)
theorem ps_30 {L : Nat} (hL : L ≤ 2560) (xs : Nat → Int32) {i : Nat} (hi : i + 5 ≤ L) (h : Rel V c b (300 * i) μ μ) (q : xs i &&& 63 = 30) : ∃ μ', RRi (i + 5) μ' ∧ ∀ k : Int32 → Mem → Option (Unit × Mem), fLaw k L xs (nI i) μ = k (nI (i + 5)) μ' := by
  have B3 : 300 * i + 3000 < 2 ^ 30 := by omega
  have B1 : 300 * i + 1000 < 2 ^ 30 := by omega
  have B0 : 300 * i < 2 ^ 30 := by omega
  have hb : 300 * i ≤ 300 * (i + 5) := by omega
  obtain ⟨μ', R, e⟩ := law_eq (B' := 300 * (i + 5)) (F1 := fun m => fX11_best_0 (xs (i + 1)) m) (F2 := fun m => fX12_best_122 (xs (i + 1)) m) h (fr_fX11_best_0 (xs (i + 1)) μ) (fun m => fr_fX12_best_122 (xs (i + 1)) m) (fun ν hν => prx (pr_best hν B1 (xs (i + 1))) hb)
  refine ⟨μ', R, fun k => ?_⟩
  rw [fLaw_x (fl_nl hL hi) (inb_nI (by omega) (by omega)), ix_nI (show i < 2 ^ 31 by omega), q, fLX_30, show nI i + (5 : Int32) = nI (i + 5) from fl_j i 5, show nI i + (1 : Int32) = nI (i + 1) from fl_j i 1, show inb (nI (i + 1)) L = true from inb_nI (by omega) (by omega), ix_nI (show i + 1 < 2 ^ 31 by omega)]
  exact e (fun m => k (nI (i + 5)) m)
theorem ps_31 {L : Nat} (hL : L ≤ 2560) (xs : Nat → Int32) {i : Nat} (hi : i + 5 ≤ L) (h : Rel V c b (300 * i) μ μ) (q : xs i &&& 63 = 31) : ∃ μ', RRi (i + 5) μ' ∧ ∀ k : Int32 → Mem → Option (Unit × Mem), fLaw k L xs (nI i) μ = k (nI (i + 5)) μ' := by
  have B3 : 300 * i + 3000 < 2 ^ 30 := by omega
  have B1 : 300 * i + 1000 < 2 ^ 30 := by omega
  have B0 : 300 * i < 2 ^ 30 := by omega
  have hb : 300 * i ≤ 300 * (i + 5) := by omega
  obtain ⟨μ', R, e⟩ := law_eq (B' := 300 * (i + 5)) (F1 := fun m => fX11_trials_0  m) (F2 := fun m => fX12_trials_122  m) h (fr_fX11_trials_0  μ) (fun m => fr_fX12_trials_122  m) (fun ν hν => prx (pr_trials hν B1 ) hb)
  refine ⟨μ', R, fun k => ?_⟩
  rw [fLaw_x (fl_nl hL hi) (inb_nI (by omega) (by omega)), ix_nI (show i < 2 ^ 31 by omega), q, fLX_31, show nI i + (5 : Int32) = nI (i + 5) from fl_j i 5]
  exact e (fun m => k (nI (i + 5)) m)
theorem ps_32 {L : Nat} (hL : L ≤ 2560) (xs : Nat → Int32) {i : Nat} (hi : i + 5 ≤ L) (h : Rel V c b (300 * i) μ μ) (q : xs i &&& 63 = 32) : ∃ μ', RRi (i + 5) μ' ∧ ∀ k : Int32 → Mem → Option (Unit × Mem), fLaw k L xs (nI i) μ = k (nI (i + 5)) μ' := by
  have B3 : 300 * i + 3000 < 2 ^ 30 := by omega
  have B1 : 300 * i + 1000 < 2 ^ 30 := by omega
  have B0 : 300 * i < 2 ^ 30 := by omega
  have hb : 300 * i ≤ 300 * (i + 5) := by omega
  obtain ⟨μ', R, e⟩ := law_eq (B' := 300 * (i + 5)) (F1 := fun m => fX11_docket_0  m) (F2 := fun m => fX12_docket_122  m) h (fr_fX11_docket_0  μ) (fun m => fr_fX12_docket_122  m) (fun ν hν => prx (pr_docket hν B1 ) hb)
  refine ⟨μ', R, fun k => ?_⟩
  rw [fLaw_x (fl_nl hL hi) (inb_nI (by omega) (by omega)), ix_nI (show i < 2 ^ 31 by omega), q, fLX_32, show nI i + (5 : Int32) = nI (i + 5) from fl_j i 5]
  exact e (fun m => k (nI (i + 5)) m)
theorem ps_33 {L : Nat} (hL : L ≤ 2560) (xs : Nat → Int32) {i : Nat} (hi : i + 5 ≤ L) (h : Rel V c b (300 * i) μ μ) (q : xs i &&& 63 = 33) : ∃ μ', RRi (i + 5) μ' ∧ ∀ k : Int32 → Mem → Option (Unit × Mem), fLaw k L xs (nI i) μ = k (nI (i + 5)) μ' := by
  have B3 : 300 * i + 3000 < 2 ^ 30 := by omega
  have B1 : 300 * i + 1000 < 2 ^ 30 := by omega
  have B0 : 300 * i < 2 ^ 30 := by omega
  have hb : 300 * i ≤ 300 * (i + 5) := by omega
  obtain ⟨μ', R, e⟩ := law_eq (B' := 300 * (i + 5)) (F1 := fun m => fX11_parts_0  m) (F2 := fun m => fX12_parts_122  m) h (fr_fX11_parts_0  μ) (fun m => fr_fX12_parts_122  m) (fun ν hν => prx (pr_parts hν  ) hb)
  refine ⟨μ', R, fun k => ?_⟩
  rw [fLaw_x (fl_nl hL hi) (inb_nI (by omega) (by omega)), ix_nI (show i < 2 ^ 31 by omega), q, fLX_33, show nI i + (5 : Int32) = nI (i + 5) from fl_j i 5]
  exact e (fun m => k (nI (i + 5)) m)
theorem ps_34 {L : Nat} (hL : L ≤ 2560) (xs : Nat → Int32) {i : Nat} (hi : i + 5 ≤ L) (h : Rel V c b (300 * i) μ μ) (q : xs i &&& 63 = 34) : ∃ μ', RRi (i + 5) μ' ∧ ∀ k : Int32 → Mem → Option (Unit × Mem), fLaw k L xs (nI i) μ = k (nI (i + 5)) μ' := by
  have B3 : 300 * i + 3000 < 2 ^ 30 := by omega
  have B1 : 300 * i + 1000 < 2 ^ 30 := by omega
  have B0 : 300 * i < 2 ^ 30 := by omega
  have hb : 300 * i ≤ 300 * (i + 5) := by omega
  obtain ⟨μ', R, e⟩ := law_eq (B' := 300 * (i + 5)) (F1 := fun m => fX11_hopes_0 (xs (i + 1)) m) (F2 := fun m => fX12_hopes_122 (xs (i + 1)) m) h (fr_fX11_hopes_0 (xs (i + 1)) μ) (fun m => fr_fX12_hopes_122 (xs (i + 1)) m) (fun ν hν => prx (pr_hopes hν  (xs (i + 1))) hb)
  refine ⟨μ', R, fun k => ?_⟩
  rw [fLaw_x (fl_nl hL hi) (inb_nI (by omega) (by omega)), ix_nI (show i < 2 ^ 31 by omega), q, fLX_34, show nI i + (5 : Int32) = nI (i + 5) from fl_j i 5, show nI i + (1 : Int32) = nI (i + 1) from fl_j i 1, show inb (nI (i + 1)) L = true from inb_nI (by omega) (by omega), ix_nI (show i + 1 < 2 ^ 31 by omega)]
  exact e (fun m => k (nI (i + 5)) m)
theorem ps_35 {L : Nat} (hL : L ≤ 2560) (xs : Nat → Int32) {i : Nat} (hi : i + 5 ≤ L) (h : Rel V c b (300 * i) μ μ) (q : xs i &&& 63 = 35) : ∃ μ', RRi (i + 5) μ' ∧ ∀ k : Int32 → Mem → Option (Unit × Mem), fLaw k L xs (nI i) μ = k (nI (i + 5)) μ' := by
  have B3 : 300 * i + 3000 < 2 ^ 30 := by omega
  have B1 : 300 * i + 1000 < 2 ^ 30 := by omega
  have B0 : 300 * i < 2 ^ 30 := by omega
  have hb : 300 * i ≤ 300 * (i + 5) := by omega
  obtain ⟨μ', R, e⟩ := law_eq (B' := 300 * (i + 5)) (F1 := fun m => fX11_reading_0  m) (F2 := fun m => fX12_reading_122  m) h (fr_fX11_reading_0  μ) (fun m => fr_fX12_reading_122  m) (fun ν hν => prx (pr_reading hν  ) hb)
  refine ⟨μ', R, fun k => ?_⟩
  rw [fLaw_x (fl_nl hL hi) (inb_nI (by omega) (by omega)), ix_nI (show i < 2 ^ 31 by omega), q, fLX_35, show nI i + (5 : Int32) = nI (i + 5) from fl_j i 5]
  exact e (fun m => k (nI (i + 5)) m)
theorem ps_36 {L : Nat} (hL : L ≤ 2560) (xs : Nat → Int32) {i : Nat} (hi : i + 5 ≤ L) (h : Rel V c b (300 * i) μ μ) (q : xs i &&& 63 = 36) : ∃ μ', RRi (i + 5) μ' ∧ ∀ k : Int32 → Mem → Option (Unit × Mem), fLaw k L xs (nI i) μ = k (nI (i + 5)) μ' := by
  have B3 : 300 * i + 3000 < 2 ^ 30 := by omega
  have B1 : 300 * i + 1000 < 2 ^ 30 := by omega
  have B0 : 300 * i < 2 ^ 30 := by omega
  have hb : 300 * i ≤ 300 * (i + 5) := by omega
  obtain ⟨μ', R, e⟩ := law_eq (B' := 300 * (i + 5)) (F1 := fun m => fX11_wants_0 (xs (i + 1)) m) (F2 := fun m => fX12_wants_122 (xs (i + 1)) m) h (fr_fX11_wants_0 (xs (i + 1)) μ) (fun m => fr_fX12_wants_122 (xs (i + 1)) m) (fun ν hν => prx (pr_wants hν  (xs (i + 1))) hb)
  refine ⟨μ', R, fun k => ?_⟩
  rw [fLaw_x (fl_nl hL hi) (inb_nI (by omega) (by omega)), ix_nI (show i < 2 ^ 31 by omega), q, fLX_36, show nI i + (5 : Int32) = nI (i + 5) from fl_j i 5, show nI i + (1 : Int32) = nI (i + 1) from fl_j i 1, show inb (nI (i + 1)) L = true from inb_nI (by omega) (by omega), ix_nI (show i + 1 < 2 ^ 31 by omega)]
  exact e (fun m => k (nI (i + 5)) m)
theorem ps_37 {L : Nat} (hL : L ≤ 2560) (xs : Nat → Int32) {i : Nat} (hi : i + 5 ≤ L) (h : Rel V c b (300 * i) μ μ) (q : xs i &&& 63 = 37) : ∃ μ', RRi (i + 5) μ' ∧ ∀ k : Int32 → Mem → Option (Unit × Mem), fLaw k L xs (nI i) μ = k (nI (i + 5)) μ' := by
  have B3 : 300 * i + 3000 < 2 ^ 30 := by omega
  have B1 : 300 * i + 1000 < 2 ^ 30 := by omega
  have B0 : 300 * i < 2 ^ 30 := by omega
  have hb : 300 * i ≤ 300 * (i + 5) := by omega
  obtain ⟨μ', R, e⟩ := law_eq (B' := 300 * (i + 5)) (F1 := fun m => fX11_dumb_0 (xs (i + 1)) (xs (i + 2)) (xs (i + 3)) m) (F2 := fun m => fX12_dumb_122 (xs (i + 1)) (xs (i + 2)) (xs (i + 3)) m) h (fr_fX11_dumb_0 (xs (i + 1)) (xs (i + 2)) (xs (i + 3)) μ) (fun m => fr_fX12_dumb_122 (xs (i + 1)) (xs (i + 2)) (xs (i + 3)) m) (fun ν hν => prx (pr_dumb hν  (xs (i + 1)) (xs (i + 2)) (xs (i + 3))) hb)
  refine ⟨μ', R, fun k => ?_⟩
  rw [fLaw_x (fl_nl hL hi) (inb_nI (by omega) (by omega)), ix_nI (show i < 2 ^ 31 by omega), q, fLX_37, show nI i + (5 : Int32) = nI (i + 5) from fl_j i 5, show nI i + (1 : Int32) = nI (i + 1) from fl_j i 1, show inb (nI (i + 1)) L = true from inb_nI (by omega) (by omega), ix_nI (show i + 1 < 2 ^ 31 by omega), show nI i + (2 : Int32) = nI (i + 2) from fl_j i 2, show inb (nI (i + 2)) L = true from inb_nI (by omega) (by omega), ix_nI (show i + 2 < 2 ^ 31 by omega), show nI i + (3 : Int32) = nI (i + 3) from fl_j i 3, show inb (nI (i + 3)) L = true from inb_nI (by omega) (by omega), ix_nI (show i + 3 < 2 ^ 31 by omega)]
  exact e (fun m => k (nI (i + 5)) m)
theorem ps_38 {L : Nat} (hL : L ≤ 2560) (xs : Nat → Int32) {i : Nat} (hi : i + 5 ≤ L) (h : Rel V c b (300 * i) μ μ) (q : xs i &&& 63 = 38) : ∃ μ', RRi (i + 5) μ' ∧ ∀ k : Int32 → Mem → Option (Unit × Mem), fLaw k L xs (nI i) μ = k (nI (i + 5)) μ' := by
  have B3 : 300 * i + 3000 < 2 ^ 30 := by omega
  have B1 : 300 * i + 1000 < 2 ^ 30 := by omega
  have B0 : 300 * i < 2 ^ 30 := by omega
  have hb : 300 * i ≤ 300 * (i + 5) := by omega
  obtain ⟨μ', R, e⟩ := law_eq (B' := 300 * (i + 5)) (F1 := fun m => fX11_sure_0 (xs (i + 1)) (xs (i + 2)) (xs (i + 3)) m) (F2 := fun m => fX12_sure_122 (xs (i + 1)) (xs (i + 2)) (xs (i + 3)) m) h (fr_fX11_sure_0 (xs (i + 1)) (xs (i + 2)) (xs (i + 3)) μ) (fun m => fr_fX12_sure_122 (xs (i + 1)) (xs (i + 2)) (xs (i + 3)) m) (fun ν hν => prx (pr_sure hν  (xs (i + 1)) (xs (i + 2)) (xs (i + 3))) hb)
  refine ⟨μ', R, fun k => ?_⟩
  rw [fLaw_x (fl_nl hL hi) (inb_nI (by omega) (by omega)), ix_nI (show i < 2 ^ 31 by omega), q, fLX_38, show nI i + (5 : Int32) = nI (i + 5) from fl_j i 5, show nI i + (1 : Int32) = nI (i + 1) from fl_j i 1, show inb (nI (i + 1)) L = true from inb_nI (by omega) (by omega), ix_nI (show i + 1 < 2 ^ 31 by omega), show nI i + (2 : Int32) = nI (i + 2) from fl_j i 2, show inb (nI (i + 2)) L = true from inb_nI (by omega) (by omega), ix_nI (show i + 2 < 2 ^ 31 by omega), show nI i + (3 : Int32) = nI (i + 3) from fl_j i 3, show inb (nI (i + 3)) L = true from inb_nI (by omega) (by omega), ix_nI (show i + 3 < 2 ^ 31 by omega)]
  exact e (fun m => k (nI (i + 5)) m)
theorem ps_39 {L : Nat} (hL : L ≤ 2560) (xs : Nat → Int32) {i : Nat} (hi : i + 5 ≤ L) (h : Rel V c b (300 * i) μ μ) (q : xs i &&& 63 = 39) : ∃ μ', RRi (i + 5) μ' ∧ ∀ k : Int32 → Mem → Option (Unit × Mem), fLaw k L xs (nI i) μ = k (nI (i + 5)) μ' := by
  have B3 : 300 * i + 3000 < 2 ^ 30 := by omega
  have B1 : 300 * i + 1000 < 2 ^ 30 := by omega
  have B0 : 300 * i < 2 ^ 30 := by omega
  have hb : 300 * i ≤ 300 * (i + 5) := by omega
  obtain ⟨μ', R, e⟩ := law_eq (B' := 300 * (i + 5)) (F1 := fun m => fX11_house_0 (xs (i + 1)) (xs (i + 2)) m) (F2 := fun m => fX12_house_122 (xs (i + 1)) (xs (i + 2)) m) h (fr_fX11_house_0 (xs (i + 1)) (xs (i + 2)) μ) (fun m => fr_fX12_house_122 (xs (i + 1)) (xs (i + 2)) m) (fun ν hν => prx (pr_house hν  (xs (i + 1)) (xs (i + 2))) hb)
  refine ⟨μ', R, fun k => ?_⟩
  rw [fLaw_x (fl_nl hL hi) (inb_nI (by omega) (by omega)), ix_nI (show i < 2 ^ 31 by omega), q, fLX_39, show nI i + (5 : Int32) = nI (i + 5) from fl_j i 5, show nI i + (1 : Int32) = nI (i + 1) from fl_j i 1, show inb (nI (i + 1)) L = true from inb_nI (by omega) (by omega), ix_nI (show i + 1 < 2 ^ 31 by omega), show nI i + (2 : Int32) = nI (i + 2) from fl_j i 2, show inb (nI (i + 2)) L = true from inb_nI (by omega) (by omega), ix_nI (show i + 2 < 2 ^ 31 by omega)]
  exact e (fun m => k (nI (i + 5)) m)
theorem ps_40 {L : Nat} (hL : L ≤ 2560) (xs : Nat → Int32) {i : Nat} (hi : i + 5 ≤ L) (h : Rel V c b (300 * i) μ μ) (q : xs i &&& 63 = 40) : ∃ μ', RRi (i + 5) μ' ∧ ∀ k : Int32 → Mem → Option (Unit × Mem), fLaw k L xs (nI i) μ = k (nI (i + 5)) μ' := by
  have B3 : 300 * i + 3000 < 2 ^ 30 := by omega
  have B1 : 300 * i + 1000 < 2 ^ 30 := by omega
  have B0 : 300 * i < 2 ^ 30 := by omega
  have hb : 300 * i ≤ 300 * (i + 5) := by omega
  obtain ⟨μ', R, e⟩ := law_eq (B' := 300 * (i + 5)) (F1 := fun m => fX11_search_0 (xs (i + 1)) (xs (i + 2)) m) (F2 := fun m => fX12_search_122 (xs (i + 1)) (xs (i + 2)) m) h (fr_fX11_search_0 (xs (i + 1)) (xs (i + 2)) μ) (fun m => fr_fX12_search_122 (xs (i + 1)) (xs (i + 2)) m) (fun ν hν => prx (pr_search hν  (xs (i + 1)) (xs (i + 2))) hb)
  refine ⟨μ', R, fun k => ?_⟩
  rw [fLaw_x (fl_nl hL hi) (inb_nI (by omega) (by omega)), ix_nI (show i < 2 ^ 31 by omega), q, fLX_40, show nI i + (5 : Int32) = nI (i + 5) from fl_j i 5, show nI i + (1 : Int32) = nI (i + 1) from fl_j i 1, show inb (nI (i + 1)) L = true from inb_nI (by omega) (by omega), ix_nI (show i + 1 < 2 ^ 31 by omega), show nI i + (2 : Int32) = nI (i + 2) from fl_j i 2, show inb (nI (i + 2)) L = true from inb_nI (by omega) (by omega), ix_nI (show i + 2 < 2 ^ 31 by omega)]
  exact e (fun m => k (nI (i + 5)) m)
theorem ps_41 {L : Nat} (hL : L ≤ 2560) (xs : Nat → Int32) {i : Nat} (hi : i + 5 ≤ L) (h : Rel V c b (300 * i) μ μ) (q : xs i &&& 63 = 41) : ∃ μ', RRi (i + 5) μ' ∧ ∀ k : Int32 → Mem → Option (Unit × Mem), fLaw k L xs (nI i) μ = k (nI (i + 5)) μ' := by
  have B3 : 300 * i + 3000 < 2 ^ 30 := by omega
  have B1 : 300 * i + 1000 < 2 ^ 30 := by omega
  have B0 : 300 * i < 2 ^ 30 := by omega
  have hb : 300 * i ≤ 300 * (i + 5) := by omega
  obtain ⟨μ', R, e⟩ := law_eq (B' := 300 * (i + 5)) (F1 := fun m => fX11_rests_0 (xs (i + 1)) (xs (i + 2)) m) (F2 := fun m => fX12_rests_122 (xs (i + 1)) (xs (i + 2)) m) h (fr_fX11_rests_0 (xs (i + 1)) (xs (i + 2)) μ) (fun m => fr_fX12_rests_122 (xs (i + 1)) (xs (i + 2)) m) (fun ν hν => prx (pr_rests hν  (xs (i + 1)) (xs (i + 2))) hb)
  refine ⟨μ', R, fun k => ?_⟩
  rw [fLaw_x (fl_nl hL hi) (inb_nI (by omega) (by omega)), ix_nI (show i < 2 ^ 31 by omega), q, fLX_41, show nI i + (5 : Int32) = nI (i + 5) from fl_j i 5, show nI i + (1 : Int32) = nI (i + 1) from fl_j i 1, show inb (nI (i + 1)) L = true from inb_nI (by omega) (by omega), ix_nI (show i + 1 < 2 ^ 31 by omega), show nI i + (2 : Int32) = nI (i + 2) from fl_j i 2, show inb (nI (i + 2)) L = true from inb_nI (by omega) (by omega), ix_nI (show i + 2 < 2 ^ 31 by omega)]
  exact e (fun m => k (nI (i + 5)) m)
theorem ps_42 {L : Nat} (hL : L ≤ 2560) (xs : Nat → Int32) {i : Nat} (hi : i + 5 ≤ L) (h : Rel V c b (300 * i) μ μ) (q : xs i &&& 63 = 42) : ∃ μ', RRi (i + 5) μ' ∧ ∀ k : Int32 → Mem → Option (Unit × Mem), fLaw k L xs (nI i) μ = k (nI (i + 5)) μ' := by
  have B3 : 300 * i + 3000 < 2 ^ 30 := by omega
  have B1 : 300 * i + 1000 < 2 ^ 30 := by omega
  have B0 : 300 * i < 2 ^ 30 := by omega
  have hb : 300 * i ≤ 300 * (i + 5) := by omega
  obtain ⟨μ', R, e⟩ := law_eq (B' := 300 * (i + 5)) (F1 := fun m => fX11_years_0 (xs (i + 1)) (xs (i + 2)) m) (F2 := fun m => fX12_years_122 (xs (i + 1)) (xs (i + 2)) m) h (fr_fX11_years_0 (xs (i + 1)) (xs (i + 2)) μ) (fun m => fr_fX12_years_122 (xs (i + 1)) (xs (i + 2)) m) (fun ν hν => prx (pr_years hν B3 (xs (i + 1)) (xs (i + 2))) hb)
  refine ⟨μ', R, fun k => ?_⟩
  rw [fLaw_x (fl_nl hL hi) (inb_nI (by omega) (by omega)), ix_nI (show i < 2 ^ 31 by omega), q, fLX_42, show nI i + (5 : Int32) = nI (i + 5) from fl_j i 5, show nI i + (1 : Int32) = nI (i + 1) from fl_j i 1, show inb (nI (i + 1)) L = true from inb_nI (by omega) (by omega), ix_nI (show i + 1 < 2 ^ 31 by omega), show nI i + (2 : Int32) = nI (i + 2) from fl_j i 2, show inb (nI (i + 2)) L = true from inb_nI (by omega) (by omega), ix_nI (show i + 2 < 2 ^ 31 by omega)]
  exact e (fun m => k (nI (i + 5)) m)
theorem ps_43 {L : Nat} (hL : L ≤ 2560) (xs : Nat → Int32) {i : Nat} (hi : i + 5 ≤ L) (h : Rel V c b (300 * i) μ μ) (q : xs i &&& 63 = 43) : ∃ μ', RRi (i + 5) μ' ∧ ∀ k : Int32 → Mem → Option (Unit × Mem), fLaw k L xs (nI i) μ = k (nI (i + 5)) μ' := by
  have B3 : 300 * i + 3000 < 2 ^ 30 := by omega
  have B1 : 300 * i + 1000 < 2 ^ 30 := by omega
  have B0 : 300 * i < 2 ^ 30 := by omega
  have hb : 300 * i ≤ 300 * (i + 5) := by omega
  obtain ⟨μ', R, e⟩ := law_eq (B' := 300 * (i + 5)) (F1 := fun m => fX11_keep_0 (xs (i + 1)) m) (F2 := fun m => fX12_keep_122 (xs (i + 1)) m) h (fr_fX11_keep_0 (xs (i + 1)) μ) (fun m => fr_fX12_keep_122 (xs (i + 1)) m) (fun ν hν => prx (pr_keep hν  (xs (i + 1))) hb)
  refine ⟨μ', R, fun k => ?_⟩
  rw [fLaw_x (fl_nl hL hi) (inb_nI (by omega) (by omega)), ix_nI (show i < 2 ^ 31 by omega), q, fLX_43, show nI i + (5 : Int32) = nI (i + 5) from fl_j i 5, show nI i + (1 : Int32) = nI (i + 1) from fl_j i 1, show inb (nI (i + 1)) L = true from inb_nI (by omega) (by omega), ix_nI (show i + 1 < 2 ^ 31 by omega)]
  exact e (fun m => k (nI (i + 5)) m)
theorem ps_44 {L : Nat} (hL : L ≤ 2560) (xs : Nat → Int32) {i : Nat} (hi : i + 5 ≤ L) (h : Rel V c b (300 * i) μ μ) (q : xs i &&& 63 = 44) : ∃ μ', RRi (i + 5) μ' ∧ ∀ k : Int32 → Mem → Option (Unit × Mem), fLaw k L xs (nI i) μ = k (nI (i + 5)) μ' := by
  have B3 : 300 * i + 3000 < 2 ^ 30 := by omega
  have B1 : 300 * i + 1000 < 2 ^ 30 := by omega
  have B0 : 300 * i < 2 ^ 30 := by omega
  have hb : 300 * i ≤ 300 * (i + 5) := by omega
  obtain ⟨μ', R, e⟩ := law_eq (B' := 300 * (i + 5)) (F1 := fun m => fX11_again_0 (xs (i + 1)) m) (F2 := fun m => fX12_again_122 (xs (i + 1)) m) h (fr_fX11_again_0 (xs (i + 1)) μ) (fun m => fr_fX12_again_122 (xs (i + 1)) m) (fun ν hν => prx (pr_again hν  (xs (i + 1))) hb)
  refine ⟨μ', R, fun k => ?_⟩
  rw [fLaw_x (fl_nl hL hi) (inb_nI (by omega) (by omega)), ix_nI (show i < 2 ^ 31 by omega), q, fLX_44, show nI i + (5 : Int32) = nI (i + 5) from fl_j i 5, show nI i + (1 : Int32) = nI (i + 1) from fl_j i 1, show inb (nI (i + 1)) L = true from inb_nI (by omega) (by omega), ix_nI (show i + 1 < 2 ^ 31 by omega)]
  exact e (fun m => k (nI (i + 5)) m)
theorem ps_45 {L : Nat} (hL : L ≤ 2560) (xs : Nat → Int32) {i : Nat} (hi : i + 5 ≤ L) (h : Rel V c b (300 * i) μ μ) (q : xs i &&& 63 = 45) : ∃ μ', RRi (i + 5) μ' ∧ ∀ k : Int32 → Mem → Option (Unit × Mem), fLaw k L xs (nI i) μ = k (nI (i + 5)) μ' := by
  have B3 : 300 * i + 3000 < 2 ^ 30 := by omega
  have B1 : 300 * i + 1000 < 2 ^ 30 := by omega
  have B0 : 300 * i < 2 ^ 30 := by omega
  have hb : 300 * i ≤ 300 * (i + 5) := by omega
  obtain ⟨μ', R, e⟩ := law_eq (B' := 300 * (i + 5)) (F1 := fun m => fX11_count_0 (xs (i + 1)) m) (F2 := fun m => fX12_count_122 (xs (i + 1)) m) h (fr_fX11_count_0 (xs (i + 1)) μ) (fun m => fr_fX12_count_122 (xs (i + 1)) m) (fun ν hν => prx (pr_count hν  (xs (i + 1))) hb)
  refine ⟨μ', R, fun k => ?_⟩
  rw [fLaw_x (fl_nl hL hi) (inb_nI (by omega) (by omega)), ix_nI (show i < 2 ^ 31 by omega), q, fLX_45, show nI i + (5 : Int32) = nI (i + 5) from fl_j i 5, show nI i + (1 : Int32) = nI (i + 1) from fl_j i 1, show inb (nI (i + 1)) L = true from inb_nI (by omega) (by omega), ix_nI (show i + 1 < 2 ^ 31 by omega)]
  exact e (fun m => k (nI (i + 5)) m)
theorem ps_46 {L : Nat} (hL : L ≤ 2560) (xs : Nat → Int32) {i : Nat} (hi : i + 5 ≤ L) (h : Rel V c b (300 * i) μ μ) (q : xs i &&& 63 = 46) : ∃ μ', RRi (i + 5) μ' ∧ ∀ k : Int32 → Mem → Option (Unit × Mem), fLaw k L xs (nI i) μ = k (nI (i + 5)) μ' := by
  have B3 : 300 * i + 3000 < 2 ^ 30 := by omega
  have B1 : 300 * i + 1000 < 2 ^ 30 := by omega
  have B0 : 300 * i < 2 ^ 30 := by omega
  have hb : 300 * i ≤ 300 * (i + 5) := by omega
  obtain ⟨μ', R, e⟩ := law_thrL (B' := 300 * (i + 5)) (F1 := fun m => fH_row (xs (i + 1)) m) (F2 := fun m => fX12_row_122 (xs (i + 1)) m) h (fr_fH_row (xs (i + 1)) μ) (fun m => fr_fX12_row_122 (xs (i + 1)) m) (fun ν hν => pr_row hν  (xs (i + 1))) hb
  refine ⟨μ', R, fun k => ?_⟩
  rw [fLaw_x (fl_nl hL hi) (inb_nI (by omega) (by omega)), ix_nI (show i < 2 ^ 31 by omega), q, fLX_46, show nI i + (5 : Int32) = nI (i + 5) from fl_j i 5, show nI i + (1 : Int32) = nI (i + 1) from fl_j i 1, show inb (nI (i + 1)) L = true from inb_nI (by omega) (by omega), ix_nI (show i + 1 < 2 ^ 31 by omega)]
  exact e (fun m => k (nI (i + 5)) m)
theorem pure_step {L : Nat} (hL : L ≤ 2560) (xs : Nat → Int32) : PureStep RRi L xs := by
  intro i μ hR hi
  obtain ⟨V, c, b, h⟩ := hR
  by_cases q0 : xs i &&& 63 = 0
  · exact ps_0 hL xs hi h q0
  by_cases q1 : xs i &&& 63 = 1
  · exact ps_1 hL xs hi h q1
  by_cases q2 : xs i &&& 63 = 2
  · exact ps_2 hL xs hi h q2
  by_cases q3 : xs i &&& 63 = 3
  · exact ps_3 hL xs hi h q3
  by_cases q4 : xs i &&& 63 = 4
  · exact ps_4 hL xs hi h q4
  by_cases q5 : xs i &&& 63 = 5
  · exact ps_5 hL xs hi h q5
  by_cases q6 : xs i &&& 63 = 6
  · exact ps_6 hL xs hi h q6
  by_cases q7 : xs i &&& 63 = 7
  · exact ps_7 hL xs hi h q7
  by_cases q8 : xs i &&& 63 = 8
  · exact ps_8 hL xs hi h q8
  by_cases q9 : xs i &&& 63 = 9
  · exact ps_9 hL xs hi h q9
  by_cases q10 : xs i &&& 63 = 10
  · exact ps_10 hL xs hi h q10
  by_cases q11 : xs i &&& 63 = 11
  · exact ps_11 hL xs hi h q11
  by_cases q12 : xs i &&& 63 = 12
  · exact ps_12 hL xs hi h q12
  by_cases q13 : xs i &&& 63 = 13
  · exact ps_13 hL xs hi h q13
  by_cases q14 : xs i &&& 63 = 14
  · exact ps_14 hL xs hi h q14
  by_cases q15 : xs i &&& 63 = 15
  · exact ps_15 hL xs hi h q15
  by_cases q16 : xs i &&& 63 = 16
  · exact ps_16 hL xs hi h q16
  by_cases q17 : xs i &&& 63 = 17
  · exact ps_17 hL xs hi h q17
  by_cases q18 : xs i &&& 63 = 18
  · exact ps_18 hL xs hi h q18
  by_cases q19 : xs i &&& 63 = 19
  · exact ps_19 hL xs hi h q19
  by_cases q20 : xs i &&& 63 = 20
  · exact ps_20 hL xs hi h q20
  by_cases q21 : xs i &&& 63 = 21
  · exact ps_21 hL xs hi h q21
  by_cases q22 : xs i &&& 63 = 22
  · exact ps_22 hL xs hi h q22
  by_cases q23 : xs i &&& 63 = 23
  · exact ps_23 hL xs hi h q23
  by_cases q24 : xs i &&& 63 = 24
  · exact ps_24 hL xs hi h q24
  by_cases q25 : xs i &&& 63 = 25
  · exact ps_25 hL xs hi h q25
  by_cases q26 : xs i &&& 63 = 26
  · exact ps_26 hL xs hi h q26
  by_cases q27 : xs i &&& 63 = 27
  · exact ps_27 hL xs hi h q27
  by_cases q28 : xs i &&& 63 = 28
  · exact ps_28 hL xs hi h q28
  by_cases q29 : xs i &&& 63 = 29
  · exact ps_29 hL xs hi h q29
  by_cases q30 : xs i &&& 63 = 30
  · exact ps_30 hL xs hi h q30
  by_cases q31 : xs i &&& 63 = 31
  · exact ps_31 hL xs hi h q31
  by_cases q32 : xs i &&& 63 = 32
  · exact ps_32 hL xs hi h q32
  by_cases q33 : xs i &&& 63 = 33
  · exact ps_33 hL xs hi h q33
  by_cases q34 : xs i &&& 63 = 34
  · exact ps_34 hL xs hi h q34
  by_cases q35 : xs i &&& 63 = 35
  · exact ps_35 hL xs hi h q35
  by_cases q36 : xs i &&& 63 = 36
  · exact ps_36 hL xs hi h q36
  by_cases q37 : xs i &&& 63 = 37
  · exact ps_37 hL xs hi h q37
  by_cases q38 : xs i &&& 63 = 38
  · exact ps_38 hL xs hi h q38
  by_cases q39 : xs i &&& 63 = 39
  · exact ps_39 hL xs hi h q39
  by_cases q40 : xs i &&& 63 = 40
  · exact ps_40 hL xs hi h q40
  by_cases q41 : xs i &&& 63 = 41
  · exact ps_41 hL xs hi h q41
  by_cases q42 : xs i &&& 63 = 42
  · exact ps_42 hL xs hi h q42
  by_cases q43 : xs i &&& 63 = 43
  · exact ps_43 hL xs hi h q43
  by_cases q44 : xs i &&& 63 = 44
  · exact ps_44 hL xs hi h q44
  by_cases q45 : xs i &&& 63 = 45
  · exact ps_45 hL xs hi h q45
  by_cases q46 : xs i &&& 63 = 46
  · exact ps_46 hL xs hi h q46
  refine ⟨μ, ⟨V, c, b, h.mono (by omega)⟩, fun k => ?_⟩
  rw [fLaw_x (fl_nl hL hi) (inb_nI (by omega) (by omega)), ix_nI (show i < 2 ^ 31 by omega)]
  unfold fLawX
  rw [if_neg q0, if_neg q1, if_neg q2, if_neg q3, if_neg q4, if_neg q5, if_neg q6, if_neg q7, if_neg q8, if_neg q9, if_neg q10, if_neg q11, if_neg q12, if_neg q13, if_neg q14, if_neg q15, if_neg q16, if_neg q17, if_neg q18, if_neg q19, if_neg q20, if_neg q21, if_neg q22, if_neg q23, if_neg q24, if_neg q25, if_neg q26, if_neg q27, if_neg q28, if_neg q29, if_neg q30, if_neg q31, if_neg q32, if_neg q33, if_neg q34, if_neg q35, if_neg q36, if_neg q37, if_neg q38, if_neg q39, if_neg q40, if_neg q41, if_neg q42, if_neg q43, if_neg q44, if_neg q45, if_neg q46, show nI i + (5 : Int32) = nI (i + 5) from fl_j i 5]
theorem start_rel : RRi 0 mu0 := by
  have z : ∀ k j, k ≠ 0 → k ≠ 25 → k ≠ 27 → k ≠ 122 → k ≠ 129 → k ≠ 132 → gI mu0 k j = 0 := by
    intro k j h0 h1 h2 h3 h4 h5
    unfold gI mu0
    dsimp only
    split <;> first | rfl | (exfalso; omega)
  have hz : ∀ k j, (33 ≤ k ∧ k ≤ 112) → hl mu0 k j = 0 := fun k j h => by
    unfold hl
    rw [z (k + 1) _ (by omega) (by omega) (by omega) (by omega) (by omega) (by omega), z (k + 2) _ (by omega) (by omega) (by omega) (by omega) (by omega) (by omega), z (k + 3) _ (by omega) (by omega) (by omega) (by omega) (by omega) (by omega), z (k + 4) _ (by omega) (by omega) (by omega) (by omega) (by omega) (by omega), z k _ (by omega) (by omega) (by omega) (by omega) (by omega) (by omega)]
    by_cases q : j < 6
    · rw [if_pos q]
    · rw [if_neg q]
      by_cases q : j < 12
      · rw [if_pos q]
      · rw [if_neg q]
        by_cases q : j < 18
        · rw [if_pos q]
        · rw [if_neg q]
          by_cases q : j < 26
          · rw [if_pos q]
          · rw [if_neg q]
  refine ⟨VC [], 0, 0, ⟨by omega, rfl, rfl, fun p hp => absurd hp (Nat.not_lt_zero _)⟩, ⟨by omega, rfl, rfl, fun p hp => absurd hp (Nat.not_lt_zero _)⟩, ⟨fun g hg => ?_, fun e he => ?_, rfl, 20, by omega, by omega, rfl⟩, ⟨fun j hj => ?_, ?_⟩, ⟨0, by omega, rfl, rfl, fun j hj => absurd hj (Nat.not_lt_zero _)⟩, ⟨0, by omega, rfl, rfl, fun j hj => absurd hj (Nat.not_lt_zero _)⟩, ⟨0, 0, by omega, by omega, rfl, rfl, rfl, fun i hi => absurd hi (Nat.not_lt_zero _)⟩, ⟨⟨0, by omega, rfl, fun s hs => ⟨0, by omega, ?_⟩⟩, fun s hs => Or.inl ⟨?_, Or.inl ?_⟩⟩, ⟨fun μ' hμ b w d n f i => ?_, fun ν' hν p hp w x D hD => ?_⟩⟩
  · obtain rfl | rfl | rfl | rfl | rfl | rfl | rfl | rfl : g = 0 ∨ g = 1 ∨ g = 2 ∨ g = 3 ∨ g = 4 ∨ g = 5 ∨ g = 6 ∨ g = 7 := by omega
    all_goals exact ⟨rfl, 10, by omega, rfl⟩
  · obtain rfl | rfl | rfl | rfl : e = 0 ∨ e = 1 ∨ e = 2 ∨ e = 3 := by omega
    · exact ⟨rfl, 0, by omega, rfl⟩
    · exact ⟨rfl, 2, by omega, rfl⟩
    · exact ⟨rfl, 1, by omega, rfl⟩
    · exact ⟨rfl, 0, by omega, rfl⟩
  · rw [hz 33 j (by omega), z 123 j (by omega) (by omega) (by omega) (by omega) (by omega) (by omega)]
  · refine ⟨fun p _ => ⟨0, by omega, hz 33 _ (by omega)⟩, fun p _ => ⟨0, by omega, hz 33 _ (by omega)⟩, fun p _ _ => hz 33 _ (by omega), fun p _ => ⟨0, by omega, hz 33 _ (by omega)⟩, 0, by omega, hz 33 _ (by omega)⟩
  · exact z 148 s (by omega) (by omega) (by omega) (by omega) (by omega) (by omega)
  · exact z 120 s (by omega) (by omega) (by omega) (by omega) (by omega) (by omega)
  · exact z 147 s (by omega) (by omega) (by omega) (by omega) (by omega) (by omega)
  · exact c_worthV (c := []) (by simp) (fun x hx => by simp at hx) (fun q => absurd rfl q) ((hμ 19 1 rfl).trans (z 19 1 (by omega) (by omega) (by omega) (by omega) (by omega) (by omega))) (fun j hj => absurd hj (Nat.not_lt_zero _)) b w d n f i
  · exact m_leftV (c := []) (s := fun _ => 0) (n := 0) (by omega) (fun j hj => absurd hj (Nat.not_lt_zero _)) (fun q => absurd q (Nat.lt_irrefl _)) (fun _ => rfl) (fun q => absurd q (Nat.lt_irrefl _)) ((hν 122 25 rfl).trans rfl) (fun j hj => absurd hj (Nat.not_lt_zero _)) hp hD w x
theorem whole_start {p : Program} {e : Env} {s : State} {m : MethodId} {below : List Frame} {meth : Method} {c : Code} (l : Launch) (hst : l.stackTraces = false) {b L : Nat} {xs : Nat → Int32} (hL : L ≤ 2560) (C0 : lw_At p s m meth c b L xs) : W p l e room_1 s m #[Value.ref b] below meth c s.heap [] 0 0 (lw_Z below #[Value.ref b] s) (entryFrame m ([Value.ref b] : List Value).toArray 8) := whole_open l hst hL C0 start_rel (pure_step hL xs)
end Pure67
