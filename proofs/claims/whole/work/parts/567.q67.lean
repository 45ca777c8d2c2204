section Pure67
variable {V : VT} {c b B : Nat} {μ ν μ' ν' : Mem}
theorem mc_out {k j : Nat} (h : ¬ (122 ≤ k ∧ k < 149)) : mc k j = 0 := by
  have f : ∀ n, k ≠ n → (k == n) = false := fun n h => by simpa using h
  have g : ∀ a b, (k < a ∨ b < k) → (Nat.ble a k && Nat.ble k b) = false := fun a b h => by
    rcases h with h | h
    · rw [nble h]; rfl
    · rw [nble h, Bool.and_false]
  unfold mc
  rw [f 122 (by omega), f 123 (by omega), g 124 128 (by omega), f 129 (by omega), f 130 (by omega), f 131 (by omega), f 132 (by omega), f 133 (by omega), f 136 (by omega), f 138 (by omega), g 146 148 (by omega)]
  rfl
theorem cc_out2 {k j : Nat} (h : 122 ≤ k) : cc k j = 0 := by
  have f : ∀ n, k ≠ n → (k == n) = false := fun n h => by simpa using h
  have g : ∀ a b, (k < a ∨ b < k) → (Nat.ble a k && Nat.ble k b) = false := fun a b h => by
    rcases h with h | h
    · rw [nble h]; rfl
    · rw [nble h, Bool.and_false]
  unfold cc
  rw [f 0 (by omega), f 1 (by omega), f 2 (by omega), f 3 (by omega), f 5 (by omega), g 6 10 (by omega), f 11 (by omega), f 12 (by omega), f 14 (by omega), f 19 (by omega), f 20 (by omega), f 25 (by omega), f 27 (by omega), f 29 (by omega), f 33 (by omega), g 34 37 (by omega), g 43 107 (by omega), g 108 117 (by omega), f 120 (by omega)]
  rfl
theorem aC_at {k : Nat} (h : 122 ≤ k ∧ k < 149) : aC k = false := by
  unfold aC
  rw [show (k == 149) = false from by simp; omega, Bool.or_false]
  cases e : Nat.blt k 122 with
  | false => rfl
  | true => exact absurd (Nat.le_of_ble_eq_true e) (by omega)
theorem aM_at {k : Nat} (h : k < 122 ∨ k = 149) : aM k = false := by
  unfold aM
  rcases h with h | rfl
  · rw [nble h]; rfl
  · rfl
theorem Rel.toM (h : Rel V c b B μ ν) (f : Fr aC ν ν') : Rel V c b B μ ν' :=
  have e : ∀ Y, Y ≠ 0 → ∀ k j, mc k j = Y → gI ν' k j = gI ν k j := fun Y hY k j q => by
    by_cases z : 122 ≤ k ∧ k < 149
    · exact (f k (aC_at z) j).1
    · rw [mc_out z] at q; exact absurd q.symm hY
  have g : ∀ Y k j, cc k j = Y → gI μ k j = gI μ k j := fun _ _ _ _ => rfl
  ⟨h.1.cg (g 1) (e 1 (by decide)), h.2.1.cg (g 2) (e 2 (by decide)), h.2.2.1.cg (g 3) (e 3 (by decide)), h.2.2.2.1.cg (g 4) (e 4 (by decide)), h.2.2.2.2.1.cg (g 5) (e 5 (by decide)), h.2.2.2.2.2.1.cg (g 6) (e 6 (by decide)) (fun _ => rfl) (fun j => (f 134 rfl j).2), h.2.2.2.2.2.2.1.cg (g 7) (e 7 (by decide)), h.2.2.2.2.2.2.2.1.cg (g 8) (e 8 (by decide)), h.2.2.2.2.2.2.2.2.cg (g 9) (e 9 (by decide))⟩
theorem Rel.toC (h : Rel V c b B μ ν) (f : Fr aM μ μ') : Rel V c b B μ' ν :=
  have e : ∀ Y k j, mc k j = Y → gI ν k j = gI ν k j := fun _ _ _ _ => rfl
  have g : ∀ Y, Y ≠ 0 → ∀ k j, cc k j = Y → gI μ' k j = gI μ k j := fun Y hY k j q => by
    by_cases z : k < 122
    · exact (f k (aM_at (Or.inl z)) j).1
    · rw [cc_out2 (by omega)] at q; exact absurd q.symm hY
  ⟨h.1.cg (g 1 (by decide)) (e 1), h.2.1.cg (g 2 (by decide)) (e 2), h.2.2.1.cg (g 3 (by decide)) (e 3), h.2.2.2.1.cg (g 4 (by decide)) (e 4), h.2.2.2.2.1.cg (g 5 (by decide)) (e 5), h.2.2.2.2.2.1.cg (g 6 (by decide)) (e 6) (fun j => (f 4 rfl j).2) (fun _ => rfl), h.2.2.2.2.2.2.1.cg (g 7 (by decide)) (e 7), h.2.2.2.2.2.2.2.1.cg (g 8 (by decide)) (e 8), h.2.2.2.2.2.2.2.2.cg (g 9 (by decide)) (e 9)⟩
def RRB (B : Nat) (μ : Mem) : Prop := ∃ V c b, Rel V c b B μ μ
theorem law_two {α β : Type} {B' : Nat} {F1 : Mem → Option (α × Mem)} {F2 : Mem → Option (β × Mem)} {Q : α → Mem → β → Mem → Prop} (h : Rel V c b B μ μ) (c1 : Fm aC μ (F1 μ)) (c2 : ∀ m, Fm aM m (F2 m)) (P : ∀ ν, Rel V c b B μ ν → Sm (fun r μ' r' ν' => Q r μ' r' ν' ∧ ∃ V c b, Rel V c b B' μ' ν') (F1 μ) (F2 ν)) : ∃ r μ1 r' ν1, F1 μ = some (r, μ1) ∧ F2 μ1 = some (r', ν1) ∧ Q r μ1 r' ν1 ∧ RRB B' ν1 ∧ Fr aM μ1 ν1 := by
  obtain ⟨r, μ1, r', ν0, e1, -, -⟩ := P μ h
  have f1 := c1 r μ1 e1
  obtain ⟨r2, μ2, r3, ν2, e2, e3, q, V', c', b', R⟩ := P μ1 (h.toM f1)
  rw [e1] at e2
  cases e2
  have f2 := c2 μ1 r3 ν2 e3
  exact ⟨r, μ1, r3, ν2, e1, e3, q, ⟨V', c', b', R.toC f2⟩, f2⟩
theorem law_eq {B' : Nat} {F1 F2 : Mem → Option (Int32 × Mem)} (h : Rel V c b B μ μ) (c1 : Fm aC μ (F1 μ)) (c2 : ∀ m, Fm aM m (F2 m)) (P : ∀ ν, Rel V c b B μ ν → Sm (fun r μ' r' ν' => r' = r ∧ ∃ V c b, Rel V c b B' μ' ν') (F1 μ) (F2 ν)) : ∃ μ', RRB B' μ' ∧ ∀ K : Mem → Option (Unit × Mem), (bnd (F1 μ) fun r3 m4 => bnd (F2 m4) fun r5 m6 => if r3 = r5 then K m6 else none) = K μ' := by
  obtain ⟨r, μ1, r', ν1, e1, e2, q, R, -⟩ := law_two h c1 c2 P
  refine ⟨ν1, R, fun K => ?_⟩
  rw [e1, bnd_e, e2, bnd_e, if_pos q.symm]
theorem prx {B' : Nat} {o1 o2 : Option (Int32 × Mem)} (h : Pr V c b B' o1 o2) {B2 : Nat} (hB : B' ≤ B2) : Sm (fun r μ' r' ν' => r' = r ∧ ∃ V c b, Rel V c b B2 μ' ν') o1 o2 := sm_Q h (fun _ _ _ _ q => ⟨q.1, V, c, b, q.2.mono hB⟩)
theorem prnx {B' : Nat} {o1 o2 : Option (Int32 × Mem)} (h : PrN V B' o1 o2) {B2 : Nat} (hB : B' ≤ B2) : Sm (fun r μ' r' ν' => r' = r ∧ ∃ V c b, Rel V c b B2 μ' ν') o1 o2 := sm_Q h (fun _ _ _ _ q => by
  obtain ⟨q1, c, b, q2⟩ := q
  exact ⟨q1, V, c, b, q2.mono hB⟩)
theorem prrx {B' : Nat} {o1 o2 : Option (Int32 × Mem)} (h : PrR c b B' o1 o2) {B2 : Nat} (hB : B' ≤ B2) : Sm (fun r μ' r' ν' => r' = r ∧ ∃ V c b, Rel V c b B2 μ' ν') o1 o2 := sm_Q h (fun _ _ _ _ q => by
  obtain ⟨q1, V, q2⟩ := q
  exact ⟨q1, V, c, b, q2.mono hB⟩)
theorem cmp_self (x : Int64) : lg_cmp x x = 0 := by
  unfold lg_cmp
  simp
theorem fm_H {α : Type} {o : Option (Option α × Mem)} {g : α → Int64} (h : Fm aC μ o) : Fm aC μ (match o with
  | none => none
  | some (none, μ1) => some ((1 : Int32), μ1)
  | some (some v, μ1) => some (0, sL μ1 149 0 (g v))) := by
  cases o with
  | none => exact fm_none
  | some q =>
    obtain ⟨v, m⟩ := q
    cases v with
    | none => exact fm_some (h _ _ rfl)
    | some v => exact fm_some (fr_sL (h _ _ rfl) rfl)
theorem law_thr {B' : Nat} {F1 : Mem → Option (Int32 × Mem)} {F2 : Mem → Option (Int32 × Mem)} (h : Rel V c b B μ μ) (c1 : Fm aC μ (F1 μ)) (c2 : ∀ m, Fm aM m (F2 m)) (P : ∀ ν, Rel V c b B μ ν → PrH V c b B (F1 μ) (F2 ν)) (hB : B ≤ B') : ∃ μ', RRB B' μ' ∧ ∀ K : Mem → Option (Unit × Mem), (bnd (F1 μ) fun r45 m46 => bnd (F2 m46) fun r47 m48 => bnd (fX12_thrown_122 m48) fun r49 m50 => if r49 = r45 then (if r45 = 0 then (gd (inb (0 : Int32) 1) (if (lg_cmp (gL m50 149 (ix (0 : Int32))) (Int32.toInt64 r47)) = 0 then (K m50) else none)) else K m50) else none) = K μ' := by
  obtain ⟨r, μ1, r', ν1, e1, e2, ⟨q1, q2, q3⟩, R, f⟩ := law_two (B' := B') (Q := fun r μ' r' ν' => gI ν' 122 17 = r ∧ (r = 0 ∨ r = 1) ∧ (r = 0 → gL μ' 149 0 = r'.toInt64)) h c1 c2 (fun ν hν => sm_Q (P ν hν) (fun _ _ _ _ q => ⟨⟨q.1, q.2.1, q.2.2.1⟩, V, c, b, q.2.2.2.mono hB⟩))
  refine ⟨ν1, R, fun K => ?_⟩
  unfold fX12_thrown_122
  rw [e1, bnd_e, e2, bnd_e, bnd_e, if_pos q1]
  by_cases z : r = 0
  · rw [if_pos z, gd_of (by decide), show ix (0 : Int32) = 0 from rfl, (f 149 rfl 0).2, q3 z, if_pos (cmp_self _)]
  · rw [if_neg z]
theorem law_thrL {B' : Nat} {F1 : Mem → Option (Int32 × Mem)} {F2 : Mem → Option (Int64 × Mem)} (h : Rel V c b B μ μ) (c1 : Fm aC μ (F1 μ)) (c2 : ∀ m, Fm aM m (F2 m)) (P : ∀ ν, Rel V c b B μ ν → PrL V c b B (F1 μ) (F2 ν)) (hB : B ≤ B') : ∃ μ', RRB B' μ' ∧ ∀ K : Mem → Option (Unit × Mem), (bnd (F1 μ) fun r45 m46 => bnd (F2 m46) fun r47 m48 => bnd (fX12_thrown_122 m48) fun r49 m50 => if r49 = r45 then (if r45 = 0 then (gd (inb (0 : Int32) 1) (if (lg_cmp (gL m50 149 (ix (0 : Int32))) r47) = 0 then (K m50) else none)) else K m50) else none) = K μ' := by
  obtain ⟨r, μ1, r', ν1, e1, e2, ⟨q1, q2, q3⟩, R, f⟩ := law_two (B' := B') (Q := fun r μ' r' ν' => gI ν' 122 17 = r ∧ (r = 0 ∨ r = 1) ∧ (r = 0 → gL μ' 149 0 = r')) h c1 c2 (fun ν hν => sm_Q (P ν hν) (fun _ _ _ _ q => ⟨⟨q.1, q.2.1, q.2.2.1⟩, V, c, b, q.2.2.2.mono hB⟩))
  refine ⟨ν1, R, fun K => ?_⟩
  unfold fX12_thrown_122
  rw [e1, bnd_e, e2, bnd_e, bnd_e, if_pos q1]
  by_cases z : r = 0
  · rw [if_pos z, gd_of (by decide), show ix (0 : Int32) = 0 from rfl, (f 149 rfl 0).2, q3 z, if_pos (cmp_self _)]
  · rw [if_neg z]
def RRi (i : Nat) (μ : Mem) : Prop := RRB (300 * i) μ
set_option maxRecDepth 100000 in
set_option maxHeartbeats 4000000 in
theorem pure_step {L : Nat} (hL : L ≤ 2560) (xs : Nat → Int32) : PureStep RRi L xs := by
  intro i μ hR hi
  obtain ⟨V, c, b, h⟩ := hR
  have j2 : nI i + 2 = nI (i + 2) := nI_add i 2
  have j3 : nI i + 3 = nI (i + 3) := nI_add i 3
  have j4 : nI i + 4 = nI (i + 4) := nI_add i 4
  have j5 : nI i + 5 = nI (i + 5) := nI_add i 5
  have B3 : 300 * i + 3000 < 2 ^ 30 := by omega
  have B1 : 300 * i + 1000 < 2 ^ 30 := by omega
  have B0 : 300 * i < 2 ^ 30 := by omega
  have hb : 300 * i ≤ 300 * (i + 5) := by omega
  unfold fLaw
  have nl : ¬ nI L - 5 < nI i := by
    rw [i_lt, show (5 : Int32) = nI 5 from rfl, sub_toInt (by omega) (by omega), nI_toInt (by omega)]
    omega
  simp (disch := omega) only [if_neg nl, gd_in, ix_nI, nI_1, j2, j3, j4, j5, lt_e]
  generalize xs i &&& 63 = x
  by_cases q0 : x = 0
  · obtain ⟨μ', R, e⟩ := law_eq (B' := 300 * (i + 5)) (F1 := fun m => fX11_sign_0 (xs (i + 1)) m) (F2 := fun m => fX12_sign_122 (xs (i + 1)) m) h (fr_fX11_sign_0 (xs (i + 1)) μ) (fun m => fr_fX12_sign_122 (xs (i + 1)) m) (fun ν hν => prx (pr_sign hν  (xs (i + 1))) hb)
    refine ⟨μ', R, fun k => ?_⟩
    rw [if_pos q0]
    exact e (fun m => k (nI (i + 5)) m)
  by_cases q1 : x = 1
  · obtain ⟨μ', R, e⟩ := law_eq (B' := 300 * (i + 5)) (F1 := fun m => fX11_end_0 (xs (i + 1)) m) (F2 := fun m => fX12_end_122 (xs (i + 1)) m) h (fr_fX11_end_0 (xs (i + 1)) μ) (fun m => fr_fX12_end_122 (xs (i + 1)) m) (fun ν hν => prx (pr_endT hν  (xs (i + 1))) hb)
    refine ⟨μ', R, fun k => ?_⟩
    rw [if_neg q0, if_pos q1]
    exact e (fun m => k (nI (i + 5)) m)
  by_cases q2 : x = 2
  · obtain ⟨μ', R, e⟩ := law_eq (B' := 300 * (i + 5)) (F1 := fun m => fX11_prisoners_0  m) (F2 := fun m => fX12_prisoners_122  m) h (fr_fX11_prisoners_0  μ) (fun m => fr_fX12_prisoners_122  m) (fun ν hν => prnx (pr_prisoners hν B0 ) (by omega))
    refine ⟨μ', R, fun k => ?_⟩
    rw [if_neg q0, if_neg q1, if_pos q2]
    exact e (fun m => k (nI (i + 5)) m)
  by_cases q3 : x = 3
  · obtain ⟨μ', R, e⟩ := law_eq (B' := 300 * (i + 5)) (F1 := fun m => fX11_values_0  m) (F2 := fun m => fX12_values_122  m) h (fr_fX11_values_0  μ) (fun m => fr_fX12_values_122  m) (fun ν hν => prx (pr_values hν  ) hb)
    refine ⟨μ', R, fun k => ?_⟩
    rw [if_neg q0, if_neg q1, if_neg q2, if_pos q3]
    exact e (fun m => k (nI (i + 5)) m)
  by_cases q4 : x = 4
  · obtain ⟨μ', R, e⟩ := law_eq (B' := 300 * (i + 5)) (F1 := fun m => fX11_witnesses_0  m) (F2 := fun m => fX12_witnesses_122  m) h (fr_fX11_witnesses_0  μ) (fun m => fr_fX12_witnesses_122  m) (fun ν hν => prnx (pr_witnesses hν B0 ) (by omega))
    refine ⟨μ', R, fun k => ?_⟩
    rw [if_neg q0, if_neg q1, if_neg q2, if_neg q3, if_pos q4]
    exact e (fun m => k (nI (i + 5)) m)
  by_cases q5 : x = 5
  · obtain ⟨μ', R, e⟩ := law_eq (B' := 300 * (i + 5)) (F1 := fun m => fX11_law_0  m) (F2 := fun m => fX12_law_122  m) h (fr_fX11_law_0  μ) (fun m => fr_fX12_law_122  m) (fun ν hν => prx (pr_law hν  ) hb)
    refine ⟨μ', R, fun k => ?_⟩
    rw [if_neg q0, if_neg q1, if_neg q2, if_neg q3, if_neg q4, if_pos q5]
    exact e (fun m => k (nI (i + 5)) m)
  by_cases q6 : x = 6
  · obtain ⟨μ', R, e⟩ := law_eq (B' := 300 * (i + 5)) (F1 := fun m => fX11_rule_0  m) (F2 := fun m => fX12_rule_122  m) h (fr_fX11_rule_0  μ) (fun m => fr_fX12_rule_122  m) (fun ν hν => prrx (pr_rule hν  ) hb)
    refine ⟨μ', R, fun k => ?_⟩
    rw [if_neg q0, if_neg q1, if_neg q2, if_neg q3, if_neg q4, if_neg q5, if_pos q6]
    exact e (fun m => k (nI (i + 5)) m)
  by_cases q7 : x = 7
  · obtain ⟨μ', R, e⟩ := law_thr (B' := 300 * (i + 5)) (F1 := fun m => fH_prisoner (xs (i + 1)) (xs (i + 2)) m) (F2 := fun m => fX12_prisoner_122 (xs (i + 1)) (xs (i + 2)) m) h (show Fm aC μ (fH_prisoner (xs (i + 1)) (xs (i + 2)) μ) from fm_H (fr_fX11_prisoner_0 (xs (i + 1)) (xs (i + 2)) μ)) (fun m => fr_fX12_prisoner_122 (xs (i + 1)) (xs (i + 2)) m) (fun ν hν => pr_prisoner hν B1 (xs (i + 1)) (xs (i + 2))) hb
    refine ⟨μ', R, fun k => ?_⟩
    rw [if_neg q0, if_neg q1, if_neg q2, if_neg q3, if_neg q4, if_neg q5, if_neg q6, if_pos q7]
    exact e (fun m => k (nI (i + 5)) m)
  by_cases q8 : x = 8
  · obtain ⟨μ', R, e⟩ := law_thr (B' := 300 * (i + 5)) (F1 := fun m => fH_witness (xs (i + 1)) (xs (i + 2)) m) (F2 := fun m => fX12_witness_122 (xs (i + 1)) (xs (i + 2)) m) h (show Fm aC μ (fH_witness (xs (i + 1)) (xs (i + 2)) μ) from fm_H (fr_fX11_witness_0 (xs (i + 1)) (xs (i + 2)) μ)) (fun m => fr_fX12_witness_122 (xs (i + 1)) (xs (i + 2)) m) (fun ν hν => pr_witness hν  (xs (i + 1)) (xs (i + 2))) hb
    refine ⟨μ', R, fun k => ?_⟩
    rw [if_neg q0, if_neg q1, if_neg q2, if_neg q3, if_neg q4, if_neg q5, if_neg q6, if_neg q7, if_pos q8]
    exact e (fun m => k (nI (i + 5)) m)
  by_cases q9 : x = 9
  · obtain ⟨μ', R, e⟩ := law_eq (B' := 300 * (i + 5)) (F1 := fun m => fX11_ends_0 (xs (i + 1)) m) (F2 := fun m => fX12_ends_122 (xs (i + 1)) m) h (fr_fX11_ends_0 (xs (i + 1)) μ) (fun m => fr_fX12_ends_122 (xs (i + 1)) m) (fun ν hν => prx (pr_ends hν B1 (xs (i + 1))) hb)
    refine ⟨μ', R, fun k => ?_⟩
    rw [if_neg q0, if_neg q1, if_neg q2, if_neg q3, if_neg q4, if_neg q5, if_neg q6, if_neg q7, if_neg q8, if_pos q9]
    exact e (fun m => k (nI (i + 5)) m)
  by_cases q10 : x = 10
  · obtain ⟨μ', R, e⟩ := law_eq (B' := 300 * (i + 5)) (F1 := fun m => fX11_sheet_0 (xs (i + 1)) (xs (i + 2)) (xs (i + 3)) (xs (i + 4)) m) (F2 := fun m => fX12_sheet_122 (xs (i + 1)) (xs (i + 2)) (xs (i + 3)) (xs (i + 4)) m) h (fr_fX11_sheet_0 (xs (i + 1)) (xs (i + 2)) (xs (i + 3)) (xs (i + 4)) μ) (fun m => fr_fX12_sheet_122 (xs (i + 1)) (xs (i + 2)) (xs (i + 3)) (xs (i + 4)) m) (fun ν hν => prx (pr_sheet hν  (xs (i + 1)) (xs (i + 2)) (xs (i + 3)) (xs (i + 4))) hb)
    refine ⟨μ', R, fun k => ?_⟩
    rw [if_neg q0, if_neg q1, if_neg q2, if_neg q3, if_neg q4, if_neg q5, if_neg q6, if_neg q7, if_neg q8, if_neg q9, if_pos q10]
    exact e (fun m => k (nI (i + 5)) m)
  by_cases q11 : x = 11
  · obtain ⟨μ', R, e⟩ := law_eq (B' := 300 * (i + 5)) (F1 := fun m => fX11_lay_0 (xs (i + 1)) (xs (i + 2)) m) (F2 := fun m => fX12_lay___122 (xs (i + 1)) (xs (i + 2)) m) h (fr_fX11_lay_0 (xs (i + 1)) (xs (i + 2)) μ) (fun m => fr_fX12_lay___122 (xs (i + 1)) (xs (i + 2)) m) (fun ν hν => prx (pr_lay hν  (xs (i + 1)) (xs (i + 2))) hb)
    refine ⟨μ', R, fun k => ?_⟩
    rw [if_neg q0, if_neg q1, if_neg q2, if_neg q3, if_neg q4, if_neg q5, if_neg q6, if_neg q7, if_neg q8, if_neg q9, if_neg q10, if_pos q11]
    exact e (fun m => k (nI (i + 5)) m)
  by_cases q12 : x = 12
  · obtain ⟨μ', R, e⟩ := law_eq (B' := 300 * (i + 5)) (F1 := fun m => fX11_ask_0 (xs (i + 1)) m) (F2 := fun m => fX12_ask_122 (xs (i + 1)) m) h (fr_fX11_ask_0 (xs (i + 1)) μ) (fun m => fr_fX12_ask_122 (xs (i + 1)) m) (fun ν hν => prx (pr_ask hν B1 (xs (i + 1))) hb)
    refine ⟨μ', R, fun k => ?_⟩
    rw [if_neg q0, if_neg q1, if_neg q2, if_neg q3, if_neg q4, if_neg q5, if_neg q6, if_neg q7, if_neg q8, if_neg q9, if_neg q10, if_neg q11, if_pos q12]
    exact e (fun m => k (nI (i + 5)) m)
  by_cases q13 : x = 13
  · obtain ⟨μ', R, e⟩ := law_eq (B' := 300 * (i + 5)) (F1 := fun m => fX11_judge_0 (xs (i + 1)) m) (F2 := fun m => fX12_judge_122 (xs (i + 1)) m) h (fr_fX11_judge_0 (xs (i + 1)) μ) (fun m => fr_fX12_judge_122 (xs (i + 1)) m) (fun ν hν => prx (pr_judge hν  (xs (i + 1))) hb)
    refine ⟨μ', R, fun k => ?_⟩
    rw [if_neg q0, if_neg q1, if_neg q2, if_neg q3, if_neg q4, if_neg q5, if_neg q6, if_neg q7, if_neg q8, if_neg q9, if_neg q10, if_neg q11, if_neg q12, if_pos q13]
    exact e (fun m => k (nI (i + 5)) m)
  by_cases q14 : x = 14
  · obtain ⟨μ', R, e⟩ := law_eq (B' := 300 * (i + 5)) (F1 := fun m => fX11_nights_0 (xs (i + 1)) m) (F2 := fun m => fX12_nights_122 (xs (i + 1)) m) h (fr_fX11_nights_0 (xs (i + 1)) μ) (fun m => fr_fX12_nights_122 (xs (i + 1)) m) (fun ν hν => prx (pr_nights hν B3 (xs (i + 1))) (by omega))
    refine ⟨μ', R, fun k => ?_⟩
    rw [if_neg q0, if_neg q1, if_neg q2, if_neg q3, if_neg q4, if_neg q5, if_neg q6, if_neg q7, if_neg q8, if_neg q9, if_neg q10, if_neg q11, if_neg q12, if_neg q13, if_pos q14]
    exact e (fun m => k (nI (i + 5)) m)
  by_cases q15 : x = 15
  · obtain ⟨μ', R, e⟩ := law_eq (B' := 300 * (i + 5)) (F1 := fun m => fX11_assize_0  m) (F2 := fun m => fX12_assize_122  m) h (fr_fX11_assize_0  μ) (fun m => fr_fX12_assize_122  m) (fun ν hν => prx (pr_assize hν B3 ) (by omega))
    refine ⟨μ', R, fun k => ?_⟩
    rw [if_neg q0, if_neg q1, if_neg q2, if_neg q3, if_neg q4, if_neg q5, if_neg q6, if_neg q7, if_neg q8, if_neg q9, if_neg q10, if_neg q11, if_neg q12, if_neg q13, if_neg q14, if_pos q15]
    exact e (fun m => k (nI (i + 5)) m)
  by_cases q16 : x = 16
  · obtain ⟨μ', R, e⟩ := law_eq (B' := 300 * (i + 5)) (F1 := fun m => fX11_undo_0  m) (F2 := fun m => fX12_undo_122  m) h (fr_fX11_undo_0  μ) (fun m => fr_fX12_undo_122  m) (fun ν hν => prx (pr_undo hν  ) hb)
    refine ⟨μ', R, fun k => ?_⟩
    rw [if_neg q0, if_neg q1, if_neg q2, if_neg q3, if_neg q4, if_neg q5, if_neg q6, if_neg q7, if_neg q8, if_neg q9, if_neg q10, if_neg q11, if_neg q12, if_neg q13, if_neg q14, if_neg q15, if_pos q16]
    exact e (fun m => k (nI (i + 5)) m)
  by_cases q17 : x = 17
  · obtain ⟨μ', R, e⟩ := law_eq (B' := 300 * (i + 5)) (F1 := fun m => fX11_left_0 (xs (i + 1)) (xs (i + 2)) m) (F2 := fun m => fX12_left_122 (xs (i + 1)) (xs (i + 2)) m) h (fr_fX11_left_0 (xs (i + 1)) (xs (i + 2)) μ) (fun m => fr_fX12_left_122 (xs (i + 1)) (xs (i + 2)) m) (fun ν hν => prx (pr_left hν B1 (xs (i + 1)) (xs (i + 2))) hb)
    refine ⟨μ', R, fun k => ?_⟩
    rw [if_neg q0, if_neg q1, if_neg q2, if_neg q3, if_neg q4, if_neg q5, if_neg q6, if_neg q7, if_neg q8, if_neg q9, if_neg q10, if_neg q11, if_neg q12, if_neg q13, if_neg q14, if_neg q15, if_neg q16, if_pos q17]
    exact e (fun m => k (nI (i + 5)) m)
  by_cases q18 : x = 18
  · obtain ⟨μ', R, e⟩ := law_eq (B' := 300 * (i + 5)) (F1 := fun m => fX11_dies_0 (xs (i + 1)) m) (F2 := fun m => fX12_dies_122 (xs (i + 1)) m) h (fr_fX11_dies_0 (xs (i + 1)) μ) (fun m => fr_fX12_dies_122 (xs (i + 1)) m) (fun ν hν => prx (pr_dies hν B1 (xs (i + 1))) hb)
    refine ⟨μ', R, fun k => ?_⟩
    rw [if_neg q0, if_neg q1, if_neg q2, if_neg q3, if_neg q4, if_neg q5, if_neg q6, if_neg q7, if_neg q8, if_neg q9, if_neg q10, if_neg q11, if_neg q12, if_neg q13, if_neg q14, if_neg q15, if_neg q16, if_neg q17, if_pos q18]
    exact e (fun m => k (nI (i + 5)) m)
  by_cases q19 : x = 19
  · obtain ⟨μ', R, e⟩ := law_eq (B' := 300 * (i + 5)) (F1 := fun m => fX11_speaks_0 (xs (i + 1)) (xs (i + 2)) m) (F2 := fun m => fX12_speaks_122 (xs (i + 1)) (xs (i + 2)) m) h (fr_fX11_speaks_0 (xs (i + 1)) (xs (i + 2)) μ) (fun m => fr_fX12_speaks_122 (xs (i + 1)) (xs (i + 2)) m) (fun ν hν => prx (pr_speaks hν B1 (xs (i + 1)) (xs (i + 2))) hb)
    refine ⟨μ', R, fun k => ?_⟩
    rw [if_neg q0, if_neg q1, if_neg q2, if_neg q3, if_neg q4, if_neg q5, if_neg q6, if_neg q7, if_neg q8, if_neg q9, if_neg q10, if_neg q11, if_neg q12, if_neg q13, if_neg q14, if_neg q15, if_neg q16, if_neg q17, if_neg q18, if_pos q19]
    exact e (fun m => k (nI (i + 5)) m)
  by_cases q20 : x = 20
  · obtain ⟨μ', R, e⟩ := law_eq (B' := 300 * (i + 5)) (F1 := fun m => fX11_least_0 (xs (i + 1)) (xs (i + 2)) m) (F2 := fun m => fX12_least_122 (xs (i + 1)) (xs (i + 2)) m) h (fr_fX11_least_0 (xs (i + 1)) (xs (i + 2)) μ) (fun m => fr_fX12_least_122 (xs (i + 1)) (xs (i + 2)) m) (fun ν hν => prx (pr_least hν B1 (xs (i + 1)) (xs (i + 2))) hb)
    refine ⟨μ', R, fun k => ?_⟩
    rw [if_neg q0, if_neg q1, if_neg q2, if_neg q3, if_neg q4, if_neg q5, if_neg q6, if_neg q7, if_neg q8, if_neg q9, if_neg q10, if_neg q11, if_neg q12, if_neg q13, if_neg q14, if_neg q15, if_neg q16, if_neg q17, if_neg q18, if_neg q19, if_pos q20]
    exact e (fun m => k (nI (i + 5)) m)
  by_cases q21 : x = 21
  · obtain ⟨μ', R, e⟩ := law_eq (B' := 300 * (i + 5)) (F1 := fun m => fX11_mercy_0 (xs (i + 1)) (xs (i + 2)) m) (F2 := fun m => fX12_mercy_122 (xs (i + 1)) (xs (i + 2)) m) h (fr_fX11_mercy_0 (xs (i + 1)) (xs (i + 2)) μ) (fun m => fr_fX12_mercy_122 (xs (i + 1)) (xs (i + 2)) m) (fun ν hν => prx (pr_mercy hν B1 (xs (i + 1)) (xs (i + 2))) hb)
    refine ⟨μ', R, fun k => ?_⟩
    rw [if_neg q0, if_neg q1, if_neg q2, if_neg q3, if_neg q4, if_neg q5, if_neg q6, if_neg q7, if_neg q8, if_neg q9, if_neg q10, if_neg q11, if_neg q12, if_neg q13, if_neg q14, if_neg q15, if_neg q16, if_neg q17, if_neg q18, if_neg q19, if_neg q20, if_pos q21]
    exact e (fun m => k (nI (i + 5)) m)
  by_cases q22 : x = 22
  · obtain ⟨μ', R, e⟩ := law_eq (B' := 300 * (i + 5)) (F1 := fun m => fX11_longest_0 (xs (i + 1)) m) (F2 := fun m => fX12_longest_122 (xs (i + 1)) m) h (fr_fX11_longest_0 (xs (i + 1)) μ) (fun m => fr_fX12_longest_122 (xs (i + 1)) m) (fun ν hν => prx (pr_longest hν B1 (xs (i + 1))) hb)
    refine ⟨μ', R, fun k => ?_⟩
    rw [if_neg q0, if_neg q1, if_neg q2, if_neg q3, if_neg q4, if_neg q5, if_neg q6, if_neg q7, if_neg q8, if_neg q9, if_neg q10, if_neg q11, if_neg q12, if_neg q13, if_neg q14, if_neg q15, if_neg q16, if_neg q17, if_neg q18, if_neg q19, if_neg q20, if_neg q21, if_pos q22]
    exact e (fun m => k (nI (i + 5)) m)
  by_cases q23 : x = 23
  · obtain ⟨μ', R, e⟩ := law_eq (B' := 300 * (i + 5)) (F1 := fun m => fX11_alike_0 (xs (i + 1)) (xs (i + 2)) m) (F2 := fun m => fX12_alike_122 (xs (i + 1)) (xs (i + 2)) m) h (fr_fX11_alike_0 (xs (i + 1)) (xs (i + 2)) μ) (fun m => fr_fX12_alike_122 (xs (i + 1)) (xs (i + 2)) m) (fun ν hν => prx (pr_alike hν B1 (xs (i + 1)) (xs (i + 2))) hb)
    refine ⟨μ', R, fun k => ?_⟩
    rw [if_neg q0, if_neg q1, if_neg q2, if_neg q3, if_neg q4, if_neg q5, if_neg q6, if_neg q7, if_neg q8, if_neg q9, if_neg q10, if_neg q11, if_neg q12, if_neg q13, if_neg q14, if_neg q15, if_neg q16, if_neg q17, if_neg q18, if_neg q19, if_neg q20, if_neg q21, if_neg q22, if_pos q23]
    exact e (fun m => k (nI (i + 5)) m)
  by_cases q24 : x = 24
  · obtain ⟨μ', R, e⟩ := law_eq (B' := 300 * (i + 5)) (F1 := fun m => fX11_stones_0 (xs (i + 1)) m) (F2 := fun m => fX12_stones_122 (xs (i + 1)) m) h (fr_fX11_stones_0 (xs (i + 1)) μ) (fun m => fr_fX12_stones_122 (xs (i + 1)) m) (fun ν hν => prx (pr_stones hν B1 (xs (i + 1))) hb)
    refine ⟨μ', R, fun k => ?_⟩
    rw [if_neg q0, if_neg q1, if_neg q2, if_neg q3, if_neg q4, if_neg q5, if_neg q6, if_neg q7, if_neg q8, if_neg q9, if_neg q10, if_neg q11, if_neg q12, if_neg q13, if_neg q14, if_neg q15, if_neg q16, if_neg q17, if_neg q18, if_neg q19, if_neg q20, if_neg q21, if_neg q22, if_neg q23, if_pos q24]
    exact e (fun m => k (nI (i + 5)) m)
  by_cases q25 : x = 25
  · obtain ⟨μ', R, e⟩ := law_eq (B' := 300 * (i + 5)) (F1 := fun m => fX11_silent_0 (xs (i + 1)) m) (F2 := fun m => fX12_silent_122 (xs (i + 1)) m) h (fr_fX11_silent_0 (xs (i + 1)) μ) (fun m => fr_fX12_silent_122 (xs (i + 1)) m) (fun ν hν => prx (pr_silent hν B3 (xs (i + 1))) hb)
    refine ⟨μ', R, fun k => ?_⟩
    rw [if_neg q0, if_neg q1, if_neg q2, if_neg q3, if_neg q4, if_neg q5, if_neg q6, if_neg q7, if_neg q8, if_neg q9, if_neg q10, if_neg q11, if_neg q12, if_neg q13, if_neg q14, if_neg q15, if_neg q16, if_neg q17, if_neg q18, if_neg q19, if_neg q20, if_neg q21, if_neg q22, if_neg q23, if_neg q24, if_pos q25]
    exact e (fun m => k (nI (i + 5)) m)
  by_cases q26 : x = 26
  · obtain ⟨μ', R, e⟩ := law_eq (B' := 300 * (i + 5)) (F1 := fun m => fX11_proof_0 (xs (i + 1)) (xs (i + 2)) m) (F2 := fun m => fX12_proof_122 (xs (i + 1)) (xs (i + 2)) m) h (fr_fX11_proof_0 (xs (i + 1)) (xs (i + 2)) μ) (fun m => fr_fX12_proof_122 (xs (i + 1)) (xs (i + 2)) m) (fun ν hν => prx (pr_proof hν  (xs (i + 1)) (xs (i + 2))) hb)
    refine ⟨μ', R, fun k => ?_⟩
    rw [if_neg q0, if_neg q1, if_neg q2, if_neg q3, if_neg q4, if_neg q5, if_neg q6, if_neg q7, if_neg q8, if_neg q9, if_neg q10, if_neg q11, if_neg q12, if_neg q13, if_neg q14, if_neg q15, if_neg q16, if_neg q17, if_neg q18, if_neg q19, if_neg q20, if_neg q21, if_neg q22, if_neg q23, if_neg q24, if_neg q25, if_pos q26]
    exact e (fun m => k (nI (i + 5)) m)
  by_cases q27 : x = 27
  · obtain ⟨μ', R, e⟩ := law_eq (B' := 300 * (i + 5)) (F1 := fun m => fX11_till_0 (xs (i + 1)) m) (F2 := fun m => fX12_till_122 (xs (i + 1)) m) h (fr_fX11_till_0 (xs (i + 1)) μ) (fun m => fr_fX12_till_122 (xs (i + 1)) m) (fun ν hν => prx (pr_till hν  (xs (i + 1))) hb)
    refine ⟨μ', R, fun k => ?_⟩
    rw [if_neg q0, if_neg q1, if_neg q2, if_neg q3, if_neg q4, if_neg q5, if_neg q6, if_neg q7, if_neg q8, if_neg q9, if_neg q10, if_neg q11, if_neg q12, if_neg q13, if_neg q14, if_neg q15, if_neg q16, if_neg q17, if_neg q18, if_neg q19, if_neg q20, if_neg q21, if_neg q22, if_neg q23, if_neg q24, if_neg q25, if_neg q26, if_pos q27]
    exact e (fun m => k (nI (i + 5)) m)
  by_cases q28 : x = 28
  · obtain ⟨μ', R, e⟩ := law_eq (B' := 300 * (i + 5)) (F1 := fun m => fX11_gains_0 (xs (i + 1)) (xs (i + 2)) m) (F2 := fun m => fX12_gains_122 (xs (i + 1)) (xs (i + 2)) m) h (fr_fX11_gains_0 (xs (i + 1)) (xs (i + 2)) μ) (fun m => fr_fX12_gains_122 (xs (i + 1)) (xs (i + 2)) m) (fun ν hν => prx (pr_gains hν  (xs (i + 1)) (xs (i + 2))) hb)
    refine ⟨μ', R, fun k => ?_⟩
    rw [if_neg q0, if_neg q1, if_neg q2, if_neg q3, if_neg q4, if_neg q5, if_neg q6, if_neg q7, if_neg q8, if_neg q9, if_neg q10, if_neg q11, if_neg q12, if_neg q13, if_neg q14, if_neg q15, if_neg q16, if_neg q17, if_neg q18, if_neg q19, if_neg q20, if_neg q21, if_neg q22, if_neg q23, if_neg q24, if_neg q25, if_neg q26, if_neg q27, if_pos q28]
    exact e (fun m => k (nI (i + 5)) m)
  by_cases q29 : x = 29
  · obtain ⟨μ', R, e⟩ := law_eq (B' := 300 * (i + 5)) (F1 := fun m => fX11_lacks_0 (xs (i + 1)) (xs (i + 2)) m) (F2 := fun m => fX12_lacks_122 (xs (i + 1)) (xs (i + 2)) m) h (fr_fX11_lacks_0 (xs (i + 1)) (xs (i + 2)) μ) (fun m => fr_fX12_lacks_122 (xs (i + 1)) (xs (i + 2)) m) (fun ν hν => prx (pr_lacks hν  (xs (i + 1)) (xs (i + 2))) hb)
    refine ⟨μ', R, fun k => ?_⟩
    rw [if_neg q0, if_neg q1, if_neg q2, if_neg q3, if_neg q4, if_neg q5, if_neg q6, if_neg q7, if_neg q8, if_neg q9, if_neg q10, if_neg q11, if_neg q12, if_neg q13, if_neg q14, if_neg q15, if_neg q16, if_neg q17, if_neg q18, if_neg q19, if_neg q20, if_neg q21, if_neg q22, if_neg q23, if_neg q24, if_neg q25, if_neg q26, if_neg q27, if_neg q28, if_pos q29]
    exact e (fun m => k (nI (i + 5)) m)
  by_cases q30 : x = 30
  · obtain ⟨μ', R, e⟩ := law_eq (B' := 300 * (i + 5)) (F1 := fun m => fX11_best_0 (xs (i + 1)) m) (F2 := fun m => fX12_best_122 (xs (i + 1)) m) h (fr_fX11_best_0 (xs (i + 1)) μ) (fun m => fr_fX12_best_122 (xs (i + 1)) m) (fun ν hν => prx (pr_best hν B1 (xs (i + 1))) hb)
    refine ⟨μ', R, fun k => ?_⟩
    rw [if_neg q0, if_neg q1, if_neg q2, if_neg q3, if_neg q4, if_neg q5, if_neg q6, if_neg q7, if_neg q8, if_neg q9, if_neg q10, if_neg q11, if_neg q12, if_neg q13, if_neg q14, if_neg q15, if_neg q16, if_neg q17, if_neg q18, if_neg q19, if_neg q20, if_neg q21, if_neg q22, if_neg q23, if_neg q24, if_neg q25, if_neg q26, if_neg q27, if_neg q28, if_neg q29, if_pos q30]
    exact e (fun m => k (nI (i + 5)) m)
  by_cases q31 : x = 31
  · obtain ⟨μ', R, e⟩ := law_eq (B' := 300 * (i + 5)) (F1 := fun m => fX11_trials_0  m) (F2 := fun m => fX12_trials_122  m) h (fr_fX11_trials_0  μ) (fun m => fr_fX12_trials_122  m) (fun ν hν => prx (pr_trials hν B1 ) hb)
    refine ⟨μ', R, fun k => ?_⟩
    rw [if_neg q0, if_neg q1, if_neg q2, if_neg q3, if_neg q4, if_neg q5, if_neg q6, if_neg q7, if_neg q8, if_neg q9, if_neg q10, if_neg q11, if_neg q12, if_neg q13, if_neg q14, if_neg q15, if_neg q16, if_neg q17, if_neg q18, if_neg q19, if_neg q20, if_neg q21, if_neg q22, if_neg q23, if_neg q24, if_neg q25, if_neg q26, if_neg q27, if_neg q28, if_neg q29, if_neg q30, if_pos q31]
    exact e (fun m => k (nI (i + 5)) m)
  by_cases q32 : x = 32
  · obtain ⟨μ', R, e⟩ := law_eq (B' := 300 * (i + 5)) (F1 := fun m => fX11_docket_0  m) (F2 := fun m => fX12_docket_122  m) h (fr_fX11_docket_0  μ) (fun m => fr_fX12_docket_122  m) (fun ν hν => prx (pr_docket hν B1 ) hb)
    refine ⟨μ', R, fun k => ?_⟩
    rw [if_neg q0, if_neg q1, if_neg q2, if_neg q3, if_neg q4, if_neg q5, if_neg q6, if_neg q7, if_neg q8, if_neg q9, if_neg q10, if_neg q11, if_neg q12, if_neg q13, if_neg q14, if_neg q15, if_neg q16, if_neg q17, if_neg q18, if_neg q19, if_neg q20, if_neg q21, if_neg q22, if_neg q23, if_neg q24, if_neg q25, if_neg q26, if_neg q27, if_neg q28, if_neg q29, if_neg q30, if_neg q31, if_pos q32]
    exact e (fun m => k (nI (i + 5)) m)
  by_cases q33 : x = 33
  · obtain ⟨μ', R, e⟩ := law_eq (B' := 300 * (i + 5)) (F1 := fun m => fX11_parts_0  m) (F2 := fun m => fX12_parts_122  m) h (fr_fX11_parts_0  μ) (fun m => fr_fX12_parts_122  m) (fun ν hν => prx (pr_parts hν  ) hb)
    refine ⟨μ', R, fun k => ?_⟩
    rw [if_neg q0, if_neg q1, if_neg q2, if_neg q3, if_neg q4, if_neg q5, if_neg q6, if_neg q7, if_neg q8, if_neg q9, if_neg q10, if_neg q11, if_neg q12, if_neg q13, if_neg q14, if_neg q15, if_neg q16, if_neg q17, if_neg q18, if_neg q19, if_neg q20, if_neg q21, if_neg q22, if_neg q23, if_neg q24, if_neg q25, if_neg q26, if_neg q27, if_neg q28, if_neg q29, if_neg q30, if_neg q31, if_neg q32, if_pos q33]
    exact e (fun m => k (nI (i + 5)) m)
  by_cases q34 : x = 34
  · obtain ⟨μ', R, e⟩ := law_eq (B' := 300 * (i + 5)) (F1 := fun m => fX11_hopes_0 (xs (i + 1)) m) (F2 := fun m => fX12_hopes_122 (xs (i + 1)) m) h (fr_fX11_hopes_0 (xs (i + 1)) μ) (fun m => fr_fX12_hopes_122 (xs (i + 1)) m) (fun ν hν => prx (pr_hopes hν  (xs (i + 1))) hb)
    refine ⟨μ', R, fun k => ?_⟩
    rw [if_neg q0, if_neg q1, if_neg q2, if_neg q3, if_neg q4, if_neg q5, if_neg q6, if_neg q7, if_neg q8, if_neg q9, if_neg q10, if_neg q11, if_neg q12, if_neg q13, if_neg q14, if_neg q15, if_neg q16, if_neg q17, if_neg q18, if_neg q19, if_neg q20, if_neg q21, if_neg q22, if_neg q23, if_neg q24, if_neg q25, if_neg q26, if_neg q27, if_neg q28, if_neg q29, if_neg q30, if_neg q31, if_neg q32, if_neg q33, if_pos q34]
    exact e (fun m => k (nI (i + 5)) m)
  by_cases q35 : x = 35
  · obtain ⟨μ', R, e⟩ := law_eq (B' := 300 * (i + 5)) (F1 := fun m => fX11_reading_0  m) (F2 := fun m => fX12_reading_122  m) h (fr_fX11_reading_0  μ) (fun m => fr_fX12_reading_122  m) (fun ν hν => prx (pr_reading hν  ) hb)
    refine ⟨μ', R, fun k => ?_⟩
    rw [if_neg q0, if_neg q1, if_neg q2, if_neg q3, if_neg q4, if_neg q5, if_neg q6, if_neg q7, if_neg q8, if_neg q9, if_neg q10, if_neg q11, if_neg q12, if_neg q13, if_neg q14, if_neg q15, if_neg q16, if_neg q17, if_neg q18, if_neg q19, if_neg q20, if_neg q21, if_neg q22, if_neg q23, if_neg q24, if_neg q25, if_neg q26, if_neg q27, if_neg q28, if_neg q29, if_neg q30, if_neg q31, if_neg q32, if_neg q33, if_neg q34, if_pos q35]
    exact e (fun m => k (nI (i + 5)) m)
  by_cases q36 : x = 36
  · obtain ⟨μ', R, e⟩ := law_eq (B' := 300 * (i + 5)) (F1 := fun m => fX11_wants_0 (xs (i + 1)) m) (F2 := fun m => fX12_wants_122 (xs (i + 1)) m) h (fr_fX11_wants_0 (xs (i + 1)) μ) (fun m => fr_fX12_wants_122 (xs (i + 1)) m) (fun ν hν => prx (pr_wants hν  (xs (i + 1))) hb)
    refine ⟨μ', R, fun k => ?_⟩
    rw [if_neg q0, if_neg q1, if_neg q2, if_neg q3, if_neg q4, if_neg q5, if_neg q6, if_neg q7, if_neg q8, if_neg q9, if_neg q10, if_neg q11, if_neg q12, if_neg q13, if_neg q14, if_neg q15, if_neg q16, if_neg q17, if_neg q18, if_neg q19, if_neg q20, if_neg q21, if_neg q22, if_neg q23, if_neg q24, if_neg q25, if_neg q26, if_neg q27, if_neg q28, if_neg q29, if_neg q30, if_neg q31, if_neg q32, if_neg q33, if_neg q34, if_neg q35, if_pos q36]
    exact e (fun m => k (nI (i + 5)) m)
  by_cases q37 : x = 37
  · obtain ⟨μ', R, e⟩ := law_eq (B' := 300 * (i + 5)) (F1 := fun m => fX11_dumb_0 (xs (i + 1)) (xs (i + 2)) (xs (i + 3)) m) (F2 := fun m => fX12_dumb_122 (xs (i + 1)) (xs (i + 2)) (xs (i + 3)) m) h (fr_fX11_dumb_0 (xs (i + 1)) (xs (i + 2)) (xs (i + 3)) μ) (fun m => fr_fX12_dumb_122 (xs (i + 1)) (xs (i + 2)) (xs (i + 3)) m) (fun ν hν => prx (pr_dumb hν  (xs (i + 1)) (xs (i + 2)) (xs (i + 3))) hb)
    refine ⟨μ', R, fun k => ?_⟩
    rw [if_neg q0, if_neg q1, if_neg q2, if_neg q3, if_neg q4, if_neg q5, if_neg q6, if_neg q7, if_neg q8, if_neg q9, if_neg q10, if_neg q11, if_neg q12, if_neg q13, if_neg q14, if_neg q15, if_neg q16, if_neg q17, if_neg q18, if_neg q19, if_neg q20, if_neg q21, if_neg q22, if_neg q23, if_neg q24, if_neg q25, if_neg q26, if_neg q27, if_neg q28, if_neg q29, if_neg q30, if_neg q31, if_neg q32, if_neg q33, if_neg q34, if_neg q35, if_neg q36, if_pos q37]
    exact e (fun m => k (nI (i + 5)) m)
  by_cases q38 : x = 38
  · obtain ⟨μ', R, e⟩ := law_eq (B' := 300 * (i + 5)) (F1 := fun m => fX11_sure_0 (xs (i + 1)) (xs (i + 2)) (xs (i + 3)) m) (F2 := fun m => fX12_sure_122 (xs (i + 1)) (xs (i + 2)) (xs (i + 3)) m) h (fr_fX11_sure_0 (xs (i + 1)) (xs (i + 2)) (xs (i + 3)) μ) (fun m => fr_fX12_sure_122 (xs (i + 1)) (xs (i + 2)) (xs (i + 3)) m) (fun ν hν => prx (pr_sure hν  (xs (i + 1)) (xs (i + 2)) (xs (i + 3))) hb)
    refine ⟨μ', R, fun k => ?_⟩
    rw [if_neg q0, if_neg q1, if_neg q2, if_neg q3, if_neg q4, if_neg q5, if_neg q6, if_neg q7, if_neg q8, if_neg q9, if_neg q10, if_neg q11, if_neg q12, if_neg q13, if_neg q14, if_neg q15, if_neg q16, if_neg q17, if_neg q18, if_neg q19, if_neg q20, if_neg q21, if_neg q22, if_neg q23, if_neg q24, if_neg q25, if_neg q26, if_neg q27, if_neg q28, if_neg q29, if_neg q30, if_neg q31, if_neg q32, if_neg q33, if_neg q34, if_neg q35, if_neg q36, if_neg q37, if_pos q38]
    exact e (fun m => k (nI (i + 5)) m)
  by_cases q39 : x = 39
  · obtain ⟨μ', R, e⟩ := law_eq (B' := 300 * (i + 5)) (F1 := fun m => fX11_house_0 (xs (i + 1)) (xs (i + 2)) m) (F2 := fun m => fX12_house_122 (xs (i + 1)) (xs (i + 2)) m) h (fr_fX11_house_0 (xs (i + 1)) (xs (i + 2)) μ) (fun m => fr_fX12_house_122 (xs (i + 1)) (xs (i + 2)) m) (fun ν hν => prx (pr_house hν  (xs (i + 1)) (xs (i + 2))) hb)
    refine ⟨μ', R, fun k => ?_⟩
    rw [if_neg q0, if_neg q1, if_neg q2, if_neg q3, if_neg q4, if_neg q5, if_neg q6, if_neg q7, if_neg q8, if_neg q9, if_neg q10, if_neg q11, if_neg q12, if_neg q13, if_neg q14, if_neg q15, if_neg q16, if_neg q17, if_neg q18, if_neg q19, if_neg q20, if_neg q21, if_neg q22, if_neg q23, if_neg q24, if_neg q25, if_neg q26, if_neg q27, if_neg q28, if_neg q29, if_neg q30, if_neg q31, if_neg q32, if_neg q33, if_neg q34, if_neg q35, if_neg q36, if_neg q37, if_neg q38, if_pos q39]
    exact e (fun m => k (nI (i + 5)) m)
  by_cases q40 : x = 40
  · obtain ⟨μ', R, e⟩ := law_eq (B' := 300 * (i + 5)) (F1 := fun m => fX11_search_0 (xs (i + 1)) (xs (i + 2)) m) (F2 := fun m => fX12_search_122 (xs (i + 1)) (xs (i + 2)) m) h (fr_fX11_search_0 (xs (i + 1)) (xs (i + 2)) μ) (fun m => fr_fX12_search_122 (xs (i + 1)) (xs (i + 2)) m) (fun ν hν => prx (pr_search hν  (xs (i + 1)) (xs (i + 2))) hb)
    refine ⟨μ', R, fun k => ?_⟩
    rw [if_neg q0, if_neg q1, if_neg q2, if_neg q3, if_neg q4, if_neg q5, if_neg q6, if_neg q7, if_neg q8, if_neg q9, if_neg q10, if_neg q11, if_neg q12, if_neg q13, if_neg q14, if_neg q15, if_neg q16, if_neg q17, if_neg q18, if_neg q19, if_neg q20, if_neg q21, if_neg q22, if_neg q23, if_neg q24, if_neg q25, if_neg q26, if_neg q27, if_neg q28, if_neg q29, if_neg q30, if_neg q31, if_neg q32, if_neg q33, if_neg q34, if_neg q35, if_neg q36, if_neg q37, if_neg q38, if_neg q39, if_pos q40]
    exact e (fun m => k (nI (i + 5)) m)
  by_cases q41 : x = 41
  · obtain ⟨μ', R, e⟩ := law_eq (B' := 300 * (i + 5)) (F1 := fun m => fX11_rests_0 (xs (i + 1)) (xs (i + 2)) m) (F2 := fun m => fX12_rests_122 (xs (i + 1)) (xs (i + 2)) m) h (fr_fX11_rests_0 (xs (i + 1)) (xs (i + 2)) μ) (fun m => fr_fX12_rests_122 (xs (i + 1)) (xs (i + 2)) m) (fun ν hν => prx (pr_rests hν  (xs (i + 1)) (xs (i + 2))) hb)
    refine ⟨μ', R, fun k => ?_⟩
    rw [if_neg q0, if_neg q1, if_neg q2, if_neg q3, if_neg q4, if_neg q5, if_neg q6, if_neg q7, if_neg q8, if_neg q9, if_neg q10, if_neg q11, if_neg q12, if_neg q13, if_neg q14, if_neg q15, if_neg q16, if_neg q17, if_neg q18, if_neg q19, if_neg q20, if_neg q21, if_neg q22, if_neg q23, if_neg q24, if_neg q25, if_neg q26, if_neg q27, if_neg q28, if_neg q29, if_neg q30, if_neg q31, if_neg q32, if_neg q33, if_neg q34, if_neg q35, if_neg q36, if_neg q37, if_neg q38, if_neg q39, if_neg q40, if_pos q41]
    exact e (fun m => k (nI (i + 5)) m)
  by_cases q42 : x = 42
  · obtain ⟨μ', R, e⟩ := law_eq (B' := 300 * (i + 5)) (F1 := fun m => fX11_years_0 (xs (i + 1)) (xs (i + 2)) m) (F2 := fun m => fX12_years_122 (xs (i + 1)) (xs (i + 2)) m) h (fr_fX11_years_0 (xs (i + 1)) (xs (i + 2)) μ) (fun m => fr_fX12_years_122 (xs (i + 1)) (xs (i + 2)) m) (fun ν hν => prx (pr_years hν B3 (xs (i + 1)) (xs (i + 2))) hb)
    refine ⟨μ', R, fun k => ?_⟩
    rw [if_neg q0, if_neg q1, if_neg q2, if_neg q3, if_neg q4, if_neg q5, if_neg q6, if_neg q7, if_neg q8, if_neg q9, if_neg q10, if_neg q11, if_neg q12, if_neg q13, if_neg q14, if_neg q15, if_neg q16, if_neg q17, if_neg q18, if_neg q19, if_neg q20, if_neg q21, if_neg q22, if_neg q23, if_neg q24, if_neg q25, if_neg q26, if_neg q27, if_neg q28, if_neg q29, if_neg q30, if_neg q31, if_neg q32, if_neg q33, if_neg q34, if_neg q35, if_neg q36, if_neg q37, if_neg q38, if_neg q39, if_neg q40, if_neg q41, if_pos q42]
    exact e (fun m => k (nI (i + 5)) m)
  by_cases q43 : x = 43
  · obtain ⟨μ', R, e⟩ := law_eq (B' := 300 * (i + 5)) (F1 := fun m => fX11_keep_0 (xs (i + 1)) m) (F2 := fun m => fX12_keep_122 (xs (i + 1)) m) h (fr_fX11_keep_0 (xs (i + 1)) μ) (fun m => fr_fX12_keep_122 (xs (i + 1)) m) (fun ν hν => prx (pr_keep hν  (xs (i + 1))) hb)
    refine ⟨μ', R, fun k => ?_⟩
    rw [if_neg q0, if_neg q1, if_neg q2, if_neg q3, if_neg q4, if_neg q5, if_neg q6, if_neg q7, if_neg q8, if_neg q9, if_neg q10, if_neg q11, if_neg q12, if_neg q13, if_neg q14, if_neg q15, if_neg q16, if_neg q17, if_neg q18, if_neg q19, if_neg q20, if_neg q21, if_neg q22, if_neg q23, if_neg q24, if_neg q25, if_neg q26, if_neg q27, if_neg q28, if_neg q29, if_neg q30, if_neg q31, if_neg q32, if_neg q33, if_neg q34, if_neg q35, if_neg q36, if_neg q37, if_neg q38, if_neg q39, if_neg q40, if_neg q41, if_neg q42, if_pos q43]
    exact e (fun m => k (nI (i + 5)) m)
  by_cases q44 : x = 44
  · obtain ⟨μ', R, e⟩ := law_eq (B' := 300 * (i + 5)) (F1 := fun m => fX11_again_0 (xs (i + 1)) m) (F2 := fun m => fX12_again_122 (xs (i + 1)) m) h (fr_fX11_again_0 (xs (i + 1)) μ) (fun m => fr_fX12_again_122 (xs (i + 1)) m) (fun ν hν => prx (pr_again hν  (xs (i + 1))) hb)
    refine ⟨μ', R, fun k => ?_⟩
    rw [if_neg q0, if_neg q1, if_neg q2, if_neg q3, if_neg q4, if_neg q5, if_neg q6, if_neg q7, if_neg q8, if_neg q9, if_neg q10, if_neg q11, if_neg q12, if_neg q13, if_neg q14, if_neg q15, if_neg q16, if_neg q17, if_neg q18, if_neg q19, if_neg q20, if_neg q21, if_neg q22, if_neg q23, if_neg q24, if_neg q25, if_neg q26, if_neg q27, if_neg q28, if_neg q29, if_neg q30, if_neg q31, if_neg q32, if_neg q33, if_neg q34, if_neg q35, if_neg q36, if_neg q37, if_neg q38, if_neg q39, if_neg q40, if_neg q41, if_neg q42, if_neg q43, if_pos q44]
    exact e (fun m => k (nI (i + 5)) m)
  by_cases q45 : x = 45
  · obtain ⟨μ', R, e⟩ := law_eq (B' := 300 * (i + 5)) (F1 := fun m => fX11_count_0 (xs (i + 1)) m) (F2 := fun m => fX12_count_122 (xs (i + 1)) m) h (fr_fX11_count_0 (xs (i + 1)) μ) (fun m => fr_fX12_count_122 (xs (i + 1)) m) (fun ν hν => prx (pr_count hν  (xs (i + 1))) hb)
    refine ⟨μ', R, fun k => ?_⟩
    rw [if_neg q0, if_neg q1, if_neg q2, if_neg q3, if_neg q4, if_neg q5, if_neg q6, if_neg q7, if_neg q8, if_neg q9, if_neg q10, if_neg q11, if_neg q12, if_neg q13, if_neg q14, if_neg q15, if_neg q16, if_neg q17, if_neg q18, if_neg q19, if_neg q20, if_neg q21, if_neg q22, if_neg q23, if_neg q24, if_neg q25, if_neg q26, if_neg q27, if_neg q28, if_neg q29, if_neg q30, if_neg q31, if_neg q32, if_neg q33, if_neg q34, if_neg q35, if_neg q36, if_neg q37, if_neg q38, if_neg q39, if_neg q40, if_neg q41, if_neg q42, if_neg q43, if_neg q44, if_pos q45]
    exact e (fun m => k (nI (i + 5)) m)
  by_cases q46 : x = 46
  · obtain ⟨μ', R, e⟩ := law_thrL (B' := 300 * (i + 5)) (F1 := fun m => fH_row (xs (i + 1)) m) (F2 := fun m => fX12_row_122 (xs (i + 1)) m) h (show Fm aC μ (fH_row (xs (i + 1)) μ) from fm_H (fr_fX11_row_0 (xs (i + 1)) μ)) (fun m => fr_fX12_row_122 (xs (i + 1)) m) (fun ν hν => pr_row hν  (xs (i + 1))) hb
    refine ⟨μ', R, fun k => ?_⟩
    rw [if_neg q0, if_neg q1, if_neg q2, if_neg q3, if_neg q4, if_neg q5, if_neg q6, if_neg q7, if_neg q8, if_neg q9, if_neg q10, if_neg q11, if_neg q12, if_neg q13, if_neg q14, if_neg q15, if_neg q16, if_neg q17, if_neg q18, if_neg q19, if_neg q20, if_neg q21, if_neg q22, if_neg q23, if_neg q24, if_neg q25, if_neg q26, if_neg q27, if_neg q28, if_neg q29, if_neg q30, if_neg q31, if_neg q32, if_neg q33, if_neg q34, if_neg q35, if_neg q36, if_neg q37, if_neg q38, if_neg q39, if_neg q40, if_neg q41, if_neg q42, if_neg q43, if_neg q44, if_neg q45, if_pos q46]
    exact e (fun m => k (nI (i + 5)) m)
  refine ⟨μ, ⟨V, c, b, h.mono hb⟩, fun k => ?_⟩
  rw [if_neg q0, if_neg q1, if_neg q2, if_neg q3, if_neg q4, if_neg q5, if_neg q6, if_neg q7, if_neg q8, if_neg q9, if_neg q10, if_neg q11, if_neg q12, if_neg q13, if_neg q14, if_neg q15, if_neg q16, if_neg q17, if_neg q18, if_neg q19, if_neg q20, if_neg q21, if_neg q22, if_neg q23, if_neg q24, if_neg q25, if_neg q26, if_neg q27, if_neg q28, if_neg q29, if_neg q30, if_neg q31, if_neg q32, if_neg q33, if_neg q34, if_neg q35, if_neg q36, if_neg q37, if_neg q38, if_neg q39, if_neg q40, if_neg q41, if_neg q42, if_neg q43, if_neg q44, if_neg q45, if_neg q46]
theorem start_rel : RRi 0 mu0 := by
  have z : ∀ k j, k ≠ 0 → k ≠ 25 → k ≠ 27 → k ≠ 122 → k ≠ 129 → k ≠ 132 → gI mu0 k j = 0 := by
    intro k j h0 h1 h2 h3 h4 h5
    unfold gI mu0
    dsimp only
    split <;> first | rfl | (exfalso; omega)
  have hz : ∀ k j, (33 ≤ k ∧ k ≤ 112) → hl mu0 k j = 0 := fun k j h => by
    unfold hl
    rw [z (k + 1) _ (by omega) (by omega) (by omega) (by omega) (by omega) (by omega), z (k + 2) _ (by omega) (by omega) (by omega) (by omega) (by omega) (by omega), z (k + 3) _ (by omega) (by omega) (by omega) (by omega) (by omega) (by omega), z (k + 4) _ (by omega) (by omega) (by omega) (by omega) (by omega) (by omega), z k _ (by omega) (by omega) (by omega) (by omega) (by omega) (by omega)]
    by_cases q : j < 6
    · rw [if_pos q]
    · rw [if_neg q]
      by_cases q : j < 12
      · rw [if_pos q]
      · rw [if_neg q]
        by_cases q : j < 18
        · rw [if_pos q]
        · rw [if_neg q]
          by_cases q : j < 26
          · rw [if_pos q]
          · rw [if_neg q]
  refine ⟨VC [], 0, 0, ⟨by omega, rfl, rfl, fun p hp => absurd hp (Nat.not_lt_zero _)⟩, ⟨by omega, rfl, rfl, fun p hp => absurd hp (Nat.not_lt_zero _)⟩, ⟨fun g hg => ?_, fun e he => ?_, rfl, 20, by omega, by omega, rfl⟩, ⟨fun j hj => ?_, ?_⟩, ⟨0, by omega, rfl, rfl, fun j hj => absurd hj (Nat.not_lt_zero _)⟩, ⟨0, by omega, rfl, rfl, fun j hj => absurd hj (Nat.not_lt_zero _)⟩, ⟨0, 0, by omega, by omega, rfl, rfl, rfl, fun i hi => absurd hi (Nat.not_lt_zero _)⟩, ⟨⟨0, by omega, rfl, fun s hs => ⟨0, by omega, ?_⟩⟩, fun s hs => Or.inl ⟨?_, Or.inl ?_⟩⟩, ⟨fun μ' hμ b w d n f i => ?_, fun ν' hν p hp w x D hD => ?_⟩⟩
  · obtain rfl | rfl | rfl | rfl | rfl | rfl | rfl | rfl : g = 0 ∨ g = 1 ∨ g = 2 ∨ g = 3 ∨ g = 4 ∨ g = 5 ∨ g = 6 ∨ g = 7 := by omega
    all_goals exact ⟨rfl, 10, by omega, rfl⟩
  · obtain rfl | rfl | rfl | rfl : e = 0 ∨ e = 1 ∨ e = 2 ∨ e = 3 := by omega
    · exact ⟨rfl, 0, by omega, rfl⟩
    · exact ⟨rfl, 2, by omega, rfl⟩
    · exact ⟨rfl, 1, by omega, rfl⟩
    · exact ⟨rfl, 0, by omega, rfl⟩
  · rw [hz 33 j (by omega), z 123 j (by omega) (by omega) (by omega) (by omega) (by omega) (by omega)]
  · refine ⟨fun p _ => ⟨0, by omega, hz 33 _ (by omega)⟩, fun p _ => ⟨0, by omega, hz 33 _ (by omega)⟩, fun p _ _ => hz 33 _ (by omega), fun p _ => ⟨0, by omega, hz 33 _ (by omega)⟩, 0, by omega, hz 33 _ (by omega)⟩
  · exact z 148 s (by omega) (by omega) (by omega) (by omega) (by omega) (by omega)
  · exact z 120 s (by omega) (by omega) (by omega) (by omega) (by omega) (by omega)
  · exact z 147 s (by omega) (by omega) (by omega) (by omega) (by omega) (by omega)
  · exact c_worthV (c := []) (by simp) (fun x hx => by simp at hx) (fun q => absurd rfl q) ((hμ 19 1 rfl).trans (z 19 1 (by omega) (by omega) (by omega) (by omega) (by omega) (by omega))) (fun j hj => absurd hj (Nat.not_lt_zero _)) b w d n f i
  · exact m_leftV (c := []) (s := fun _ => 0) (n := 0) (by omega) (fun j hj => absurd hj (Nat.not_lt_zero _)) (fun q => absurd q (Nat.lt_irrefl _)) (fun _ => rfl) (fun q => absurd q (Nat.lt_irrefl _)) ((hν 122 25 rfl).trans rfl) (fun j hj => absurd hj (Nat.not_lt_zero _)) hp hD w x
theorem whole_start {p : Program} {e : Env} {s : State} {m : MethodId} {below : List Frame} {meth : Method} {c : Code} (l : Launch) (hst : l.stackTraces = false) {b L : Nat} {xs : Nat → Int32} (hL : L ≤ 2560) (C0 : lw_At p s m meth c b L xs) : W p l e room_1 s m #[Value.ref b] below meth c s.heap [] 0 0 (lw_Z below #[Value.ref b] s) (entryFrame m ([Value.ref b] : List Value).toArray 8) := whole_open l hst hL C0 start_rel (pure_step hL xs)
end Pure67
