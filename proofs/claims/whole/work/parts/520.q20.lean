section Pure20
variable {V : VT} {c b B : Nat} {μ ν : Mem}
theorem HOk_cg {f g : Nat → Int32} (h : HOk c B f) (e : ∀ j, j < 27 → g j = f j) : HOk c B g := by
  obtain ⟨h1, h2, h3, h4, d, h5, h6⟩ := h
  refine ⟨fun p hp => ?_, fun p hp => ?_, fun p hc hp => ?_, fun w hw => ?_, d, h5, ?_⟩
  · rw [e p (by omega)]; exact h1 p hp
  · rw [e _ (by omega)]; exact h2 p hp
  · rw [e p (by omega)]; exact h3 p hc hp
  · rw [e _ (by omega)]; exact h4 w hw
  · rw [e 26 (by omega)]; exact h6
theorem HOk.mono {f : Nat → Int32} {B' : Nat} (h : HOk c B f) (hB : B ≤ B') : HOk c B' f := by
  obtain ⟨h1, h2, h3, h4, d, h5, h6⟩ := h
  exact ⟨h1, h2, h3, h4, d, by omega, h6⟩
def up (f : Nat → Int32) (q : Nat) (v : Int32) : Nat → Int32 := fun j => if j = q then v else f j
theorem up_eq {f : Nat → Int32} {q : Nat} {v : Int32} : up f q v q = v := by unfold up; rw [if_pos rfl]
theorem up_ne {f : Nat → Int32} {q j : Nat} {v : Int32} (h : j ≠ q) : up f q v j = f j := by unfold up; rw [if_neg h]
theorem HOk.st {f : Nat → Int32} (h : HOk c B f) {p s : Nat} (hp : p < 6) (hs : s ≤ 5) (hc : p < c) : HOk c B (up f p (nI s)) := by
  obtain ⟨h1, h2, h3, h4, d, h5, h6⟩ := h
  refine ⟨fun q hq => ?_, fun q hq => ?_, fun q hcq hq => ?_, fun w hw => ?_, d, h5, ?_⟩
  · by_cases e : q = p
    · subst e; rw [up_eq]; exact ⟨s, hs, rfl⟩
    · rw [up_ne e]; exact h1 q hq
  · rw [up_ne (by omega)]; exact h2 q hq
  · rw [up_ne (by omega)]; exact h3 q hcq hq
  · rw [up_ne (by omega)]; exact h4 w hw
  · rw [up_ne (by omega)]; exact h6
theorem HOk.laid {f : Nat → Int32} (h : HOk c B f) {p s : Nat} (hp : p < 6) (hs : s ≤ 99) : HOk c B (up f (6 + p) (nI s)) := by
  obtain ⟨h1, h2, h3, h4, d, h5, h6⟩ := h
  refine ⟨fun q hq => ?_, fun q hq => ?_, fun q hcq hq => ?_, fun w hw => ?_, d, h5, ?_⟩
  · rw [up_ne (by omega)]; exact h1 q hq
  · by_cases e : q = p
    · subst e; rw [up_eq]; exact ⟨s, hs, rfl⟩
    · rw [up_ne (by omega)]; exact h2 q hq
  · rw [up_ne (by omega)]; exact h3 q hcq hq
  · rw [up_ne (by omega)]; exact h4 w hw
  · rw [up_ne (by omega)]; exact h6
theorem HOk.borne {f : Nat → Int32} (h : HOk c B f) {p : Nat} (hp : p < 6) (v : Int32) : HOk c B (up f (12 + p) v) := by
  obtain ⟨h1, h2, h3, h4, d, h5, h6⟩ := h
  refine ⟨fun q hq => ?_, fun q hq => ?_, fun q hcq hq => ?_, fun w hw => ?_, d, h5, ?_⟩
  · rw [up_ne (by omega)]; exact h1 q hq
  · rw [up_ne (by omega)]; exact h2 q hq
  · rw [up_ne (by omega)]; exact h3 q hcq hq
  · rw [up_ne (by omega)]; exact h4 w hw
  · rw [up_ne (by omega)]; exact h6
theorem HOk.word {f : Nat → Int32} (h : HOk c B f) {p s : Nat} (hp : p < 8) (hs : s ≤ 99) : HOk c B (up f (18 + p) (nI s)) := by
  obtain ⟨h1, h2, h3, h4, d, h5, h6⟩ := h
  refine ⟨fun q hq => ?_, fun q hq => ?_, fun q hcq hq => ?_, fun w hw => ?_, d, h5, ?_⟩
  · rw [up_ne (by omega)]; exact h1 q hq
  · rw [up_ne (by omega)]; exact h2 q hq
  · rw [up_ne (by omega)]; exact h3 q hcq hq
  · by_cases e : w = p
    · subst e; rw [up_eq]; exact ⟨s, hs, rfl⟩
    · rw [up_ne (by omega)]; exact h4 w hw
  · rw [up_ne (by omega)]; exact h6
theorem HOk.day {f : Nat → Int32} (h : HOk c B f) {B' d : Nat} (hd : d ≤ B') : HOk c B' (up f 26 (nI d)) := by
  obtain ⟨h1, h2, h3, h4, d', h5, h6⟩ := h
  refine ⟨fun q hq => ?_, fun q hq => ?_, fun q hcq hq => ?_, fun w hw => ?_, d, hd, ?_⟩
  · rw [up_ne (by omega)]; exact h1 q hq
  · rw [up_ne (by omega)]; exact h2 q hq
  · rw [up_ne (by omega)]; exact h3 q hcq hq
  · rw [up_ne (by omega)]; exact h4 w hw
  · rw [up_eq]
theorem gne {k a p i : Nat} {v : Int32} (h : k ≠ a) : gI (sI μ a p v) k i = gI μ k i := by rw [gI_sI, if_neg (fun q => h q.1)]
theorem hs0 {h p : Nat} (hp : p < 6) (v : Int32) (j : Nat) : hl (sI μ (h + 1) p v) h j = up (hl μ h) (p) v j := by
  unfold hl up
  rw [gne (show h + 2 ≠ h + 1 by omega), gne (show h + 3 ≠ h + 1 by omega), gne (show h + 4 ≠ h + 1 by omega), gne (show h ≠ h + 1 by omega), gI_sI]
  by_cases e : j = p
  · subst e
    simp [hp]
  · have e2 : ¬ (j < 6 ∧ h + 1 = h + 1 ∧ j = p) := by omega
    simp only [if_neg e]
    by_cases q0 : j < 6
    · rw [if_pos q0, if_pos q0, if_neg (by omega)]
    · rw [if_neg q0, if_neg q0]
theorem hs1 {h p : Nat} (hp : p < 6) (v : Int32) (j : Nat) : hl (sI μ (h + 2) p v) h j = up (hl μ h) (6 + p) v j := by
  unfold hl up
  rw [gne (show h + 1 ≠ h + 2 by omega), gne (show h + 3 ≠ h + 2 by omega), gne (show h + 4 ≠ h + 2 by omega), gne (show h ≠ h + 2 by omega), gI_sI]
  by_cases e : j = 6 + p
  · subst e
    simp [hp, show ¬ 6 + p < 6 by omega, show 6 + p < 12 by omega]
  · have e2 : ¬ ((6 ≤ j ∧ j < 12) ∧ h + 2 = h + 2 ∧ j - 6 = p) := by omega
    simp only [if_neg e]
    by_cases q0 : j < 6
    · rw [if_pos q0, if_pos q0]
    rw [if_neg q0, if_neg q0]
    by_cases q1 : j < 12
    · rw [if_pos q1, if_pos q1, if_neg (by omega)]
    · rw [if_neg q1, if_neg q1]
theorem hs2 {h p : Nat} (hp : p < 6) (v : Int32) (j : Nat) : hl (sI μ (h + 3) p v) h j = up (hl μ h) (12 + p) v j := by
  unfold hl up
  rw [gne (show h + 1 ≠ h + 3 by omega), gne (show h + 2 ≠ h + 3 by omega), gne (show h + 4 ≠ h + 3 by omega), gne (show h ≠ h + 3 by omega), gI_sI]
  by_cases e : j = 12 + p
  · subst e
    simp [hp, show ¬ 12 + p < 6 by omega, show ¬ 12 + p < 12 by omega, show 12 + p < 18 by omega]
  · have e2 : ¬ ((12 ≤ j ∧ j < 18) ∧ h + 3 = h + 3 ∧ j - 12 = p) := by omega
    simp only [if_neg e]
    by_cases q0 : j < 6
    · rw [if_pos q0, if_pos q0]
    rw [if_neg q0, if_neg q0]
    by_cases q1 : j < 12
    · rw [if_pos q1, if_pos q1]
    rw [if_neg q1, if_neg q1]
    by_cases q2 : j < 18
    · rw [if_pos q2, if_pos q2, if_neg (by omega)]
    · rw [if_neg q2, if_neg q2]
theorem hs3 {h p : Nat} (hp : p < 8) (v : Int32) (j : Nat) : hl (sI μ (h + 4) p v) h j = up (hl μ h) (18 + p) v j := by
  unfold hl up
  rw [gne (show h + 1 ≠ h + 4 by omega), gne (show h + 2 ≠ h + 4 by omega), gne (show h + 3 ≠ h + 4 by omega), gne (show h ≠ h + 4 by omega), gI_sI]
  by_cases e : j = 18 + p
  · subst e
    simp [hp, show ¬ 18 + p < 6 by omega, show ¬ 18 + p < 12 by omega, show ¬ 18 + p < 18 by omega, show 18 + p < 26 by omega]
  · have e2 : ¬ ((18 ≤ j ∧ j < 26) ∧ h + 4 = h + 4 ∧ j - 18 = p) := by omega
    simp only [if_neg e]
    by_cases q0 : j < 6
    · rw [if_pos q0, if_pos q0]
    rw [if_neg q0, if_neg q0]
    by_cases q1 : j < 12
    · rw [if_pos q1, if_pos q1]
    rw [if_neg q1, if_neg q1]
    by_cases q2 : j < 18
    · rw [if_pos q2, if_pos q2]
    rw [if_neg q2, if_neg q2]
    by_cases q3 : j < 26
    · rw [if_pos q3, if_pos q3, if_neg (by omega)]
    · rw [if_neg q3, if_neg q3]
theorem hs4 {h : Nat} (v : Int32) {j : Nat} (hj : j < 27) : hl (sI μ h 4 v) h j = up (hl μ h) 26 v j := by
  unfold hl up
  rw [gne (show h + 1 ≠ h by omega), gne (show h + 2 ≠ h by omega), gne (show h + 3 ≠ h by omega), gne (show h + 4 ≠ h by omega), show gI (sI μ h 4 v) h 4 = v by rw [gI_sI, if_pos ⟨rfl, rfl⟩]]
  by_cases e : j = 26
  · subst e; rfl
  · simp only [if_neg e]
    by_cases q0 : j < 6
    · rw [if_pos q0, if_pos q0]
    rw [if_neg q0, if_neg q0]
    by_cases q1 : j < 12
    · rw [if_pos q1, if_pos q1]
    rw [if_neg q1, if_neg q1]
    by_cases q2 : j < 18
    · rw [if_pos q2, if_pos q2]
    rw [if_neg q2, if_neg q2, if_pos (show j < 26 by omega), if_pos (show j < 26 by omega)]
theorem Rh.set {μ' : Mem} {q B' : Nat} {v : Int32} (h : Rh c B μ ν) (hq : q < 27) (e : ∀ j, j < 27 → hl μ' 33 j = up (hl μ 33) q v j) (n : HOk c B' (up (hl μ 33) q v)) : Rh c B' μ' (sI ν 123 q v) := by
  refine ⟨fun j hj => ?_, HOk_cg n (fun j hj => e j hj)⟩
  rw [e j hj, gI_sI]
  unfold up
  by_cases g : j = q
  · rw [if_pos g, if_pos ⟨rfl, g⟩]
  · rw [if_neg g, if_neg (fun z => g z.2)]
    exact h.1 j hj
theorem Rh2.set {μ' : Mem} {q B' : Nat} {v : Int32} (h : Rh2 c B μ ν) (hq : q < 27) (e : ∀ j, j < 27 → hl μ' 38 j = up (hl μ 38) q v j) (n : HOk c B' (up (hl μ 38) q v)) : Rh2 c B' μ' (sI ν 140 q v) := by
  refine ⟨fun j hj => ?_, HOk_cg n (fun j hj => e j hj)⟩
  rw [e j hj, gI_sI]
  unfold up
  by_cases g : j = q
  · rw [if_pos g, if_pos ⟨rfl, g⟩]
  · rw [if_neg g, if_neg (fun z => g z.2)]
    exact h.1 j hj
theorem Rel0.hall {μ' ν' : Mem} {B' : Nat} (h : Rel0 V c b B μ ν) (o : Off (xC 4) μ μ') (o' : Off (xM 4) ν ν') (n : Rh c B' μ' ν') : Rel0 V c b B' μ' ν' :=
  have f : ∀ Y, Y ≠ 0 → Y ≠ 4 → ∀ k j, cc k j = Y → gI μ' k j = gI μ k j := fun Y hY hn => xC_at hY hn o.1
  have e : ∀ Y, Y ≠ 0 → Y ≠ 4 → ∀ k j, mc k j = Y → gI ν' k j = gI ν k j := fun Y hY hn => xM_at hY hn o'.1
  ⟨h.1.cg (f 1 (by decide) (by decide)) (e 1 (by decide) (by decide)), h.2.1.cg (f 2 (by decide) (by decide)) (e 2 (by decide) (by decide)), h.2.2.1.cg (f 3 (by decide) (by decide)) (e 3 (by decide) (by decide)), n, h.2.2.2.2.cg (f 9 (by decide) (by decide)) (e 9 (by decide) (by decide))⟩
theorem Rel.mono {B' : Nat} (h : Rel V c b B μ ν) (hB : B ≤ B') : Rel V c b B' μ ν := by
  obtain ⟨h1, h2, h3, h4, h5, h6, h7, h8, h9⟩ := h
  refine ⟨h1, h2, h3, ⟨h4.1, h4.2.mono hB⟩, h5, h6, ?_, ?_, h9⟩
  · obtain ⟨n, nx, a1, a2, a3, a4, a5, a6⟩ := h7
    exact ⟨n, nx, a1, a2, a3, a4, a5, fun i hi => ⟨(a6 i hi).1, (a6 i hi).2.mono hB⟩⟩
  · obtain ⟨⟨m, m1, m2⟩, m3⟩ := h8
    refine ⟨⟨m, by omega, m2⟩, fun s hs => ?_⟩
    rcases m3 s hs with q | ⟨q1, q2, q3, q4, q5⟩
    · exact Or.inl q
    · exact Or.inr ⟨q1, q2, q3, q4, q5.mono hB⟩
theorem mLay_123_138 {base : Nat} (hb : base + 27 ≤ 324) : ∀ (m f j : Nat) (ν' : Mem), j + m = 27 → m < f → ∃ ν'', fX12_lay_123_138_b2 f (nI base) (nI j) ν' = some ((), ν'') ∧ (∀ k i, k ≠ 138 → gI ν'' k i = gI ν' k i) ∧ (∀ k i, gL ν'' k i = gL ν' k i) ∧ ∀ i, gI ν'' 138 i = if base + j ≤ i ∧ i < base + 27 then gI ν' 123 (i - base) else gI ν' 138 i := by
  intro m
  induction m with
  | zero =>
    intro f j ν' h1 h2
    obtain ⟨f, rfl⟩ := Nat.exists_eq_succ_of_ne_zero (show f ≠ 0 by omega)
    rw [fX12_lay_123_138_b2, if_pos (show (27 : Int32) ≤ nI j from nI_le (a := 27) (by omega) (by omega))]
    refine ⟨ν', rfl, fun _ _ _ => rfl, fun _ _ => rfl, fun i => ?_⟩
    rw [if_neg (by omega)]
  | succ m ih =>
    intro f j ν' h1 h2
    obtain ⟨f, rfl⟩ := Nat.exists_eq_succ_of_ne_zero (show f ≠ 0 by omega)
    rw [fX12_lay_123_138_b2, if_neg (show ¬ (27 : Int32) ≤ nI j from nI_ge (b := 27) (by omega) (by omega)), gd_in (by omega) (by decide), nI_add, gd_in (by omega) (by decide), ix_nI (by omega), ix_nI (by omega), lt_e, nI_1]
    obtain ⟨ν'', e1, e2, e3, e4⟩ := ih f (j + 1) (sI ν' 138 (base + j) (gI ν' 123 j)) (by omega) (by omega)
    refine ⟨ν'', e1, fun k i hk => ?_, e3, fun i => ?_⟩
    · rw [e2 k i hk, gI_sI, if_neg (fun q => hk q.1)]
    · rw [e4 i, gne (show 123 ≠ 138 by decide), gI_sI]
      by_cases q : i = base + j
      · subst q
        rw [if_neg (show ¬ (base + (j + 1) ≤ base + j ∧ base + j < base + 27) by omega), if_pos (show 138 = 138 ∧ base + j = base + j from ⟨rfl, rfl⟩), if_pos (show base + j ≤ base + j ∧ base + j < base + 27 by omega), show base + j - base = j by omega]
      · rw [if_neg (show ¬ (138 = 138 ∧ i = base + j) from fun z => q z.2)]
        by_cases q2 : base + (j + 1) ≤ i ∧ i < base + 27
        · rw [if_pos q2, if_pos (show base + j ≤ i ∧ i < base + 27 by omega)]
        · rw [if_neg q2, if_neg (show ¬ (base + j ≤ i ∧ i < base + 27) by omega)]
theorem mLay_139_138 {base : Nat} (hb : base + 27 ≤ 324) : ∀ (m f j : Nat) (ν' : Mem), j + m = 27 → m < f → ∃ ν'', fX12_lay_139_138_b2 f (nI base) (nI j) ν' = some ((), ν'') ∧ (∀ k i, k ≠ 138 → gI ν'' k i = gI ν' k i) ∧ (∀ k i, gL ν'' k i = gL ν' k i) ∧ ∀ i, gI ν'' 138 i = if base + j ≤ i ∧ i < base + 27 then gI ν' 139 (i - base) else gI ν' 138 i := by
  intro m
  induction m with
  | zero =>
    intro f j ν' h1 h2
    obtain ⟨f, rfl⟩ := Nat.exists_eq_succ_of_ne_zero (show f ≠ 0 by omega)
    rw [fX12_lay_139_138_b2, if_pos (show (27 : Int32) ≤ nI j from nI_le (a := 27) (by omega) (by omega))]
    refine ⟨ν', rfl, fun _ _ _ => rfl, fun _ _ => rfl, fun i => ?_⟩
    rw [if_neg (by omega)]
  | succ m ih =>
    intro f j ν' h1 h2
    obtain ⟨f, rfl⟩ := Nat.exists_eq_succ_of_ne_zero (show f ≠ 0 by omega)
    rw [fX12_lay_139_138_b2, if_neg (show ¬ (27 : Int32) ≤ nI j from nI_ge (b := 27) (by omega) (by omega)), gd_in (by omega) (by decide), nI_add, gd_in (by omega) (by decide), ix_nI (by omega), ix_nI (by omega), lt_e, nI_1]
    obtain ⟨ν'', e1, e2, e3, e4⟩ := ih f (j + 1) (sI ν' 138 (base + j) (gI ν' 139 j)) (by omega) (by omega)
    refine ⟨ν'', e1, fun k i hk => ?_, e3, fun i => ?_⟩
    · rw [e2 k i hk, gI_sI, if_neg (fun q => hk q.1)]
    · rw [e4 i, gne (show 139 ≠ 138 by decide), gI_sI]
      by_cases q : i = base + j
      · subst q
        rw [if_neg (show ¬ (base + (j + 1) ≤ base + j ∧ base + j < base + 27) by omega), if_pos (show 138 = 138 ∧ base + j = base + j from ⟨rfl, rfl⟩), if_pos (show base + j ≤ base + j ∧ base + j < base + 27 by omega), show base + j - base = j by omega]
      · rw [if_neg (show ¬ (138 = 138 ∧ i = base + j) from fun z => q z.2)]
        by_cases q2 : base + (j + 1) ≤ i ∧ i < base + 27
        · rw [if_pos q2, if_pos (show base + j ≤ i ∧ i < base + 27 by omega)]
        · rw [if_neg q2, if_neg (show ¬ (base + j ≤ i ∧ i < base + 27) by omega)]
theorem mLay_123_139 {base : Nat} (hb : base + 27 ≤ 27) : ∀ (m f j : Nat) (ν' : Mem), j + m = 27 → m < f → ∃ ν'', fX12_lay_123_139_b2 f (nI base) (nI j) ν' = some ((), ν'') ∧ (∀ k i, k ≠ 139 → gI ν'' k i = gI ν' k i) ∧ (∀ k i, gL ν'' k i = gL ν' k i) ∧ ∀ i, gI ν'' 139 i = if base + j ≤ i ∧ i < base + 27 then gI ν' 123 (i - base) else gI ν' 139 i := by
  intro m
  induction m with
  | zero =>
    intro f j ν' h1 h2
    obtain ⟨f, rfl⟩ := Nat.exists_eq_succ_of_ne_zero (show f ≠ 0 by omega)
    rw [fX12_lay_123_139_b2, if_pos (show (27 : Int32) ≤ nI j from nI_le (a := 27) (by omega) (by omega))]
    refine ⟨ν', rfl, fun _ _ _ => rfl, fun _ _ => rfl, fun i => ?_⟩
    rw [if_neg (by omega)]
  | succ m ih =>
    intro f j ν' h1 h2
    obtain ⟨f, rfl⟩ := Nat.exists_eq_succ_of_ne_zero (show f ≠ 0 by omega)
    rw [fX12_lay_123_139_b2, if_neg (show ¬ (27 : Int32) ≤ nI j from nI_ge (b := 27) (by omega) (by omega)), gd_in (by omega) (by decide), nI_add, gd_in (by omega) (by decide), ix_nI (by omega), ix_nI (by omega), lt_e, nI_1]
    obtain ⟨ν'', e1, e2, e3, e4⟩ := ih f (j + 1) (sI ν' 139 (base + j) (gI ν' 123 j)) (by omega) (by omega)
    refine ⟨ν'', e1, fun k i hk => ?_, e3, fun i => ?_⟩
    · rw [e2 k i hk, gI_sI, if_neg (fun q => hk q.1)]
    · rw [e4 i, gne (show 123 ≠ 139 by decide), gI_sI]
      by_cases q : i = base + j
      · subst q
        rw [if_neg (show ¬ (base + (j + 1) ≤ base + j ∧ base + j < base + 27) by omega), if_pos (show 139 = 139 ∧ base + j = base + j from ⟨rfl, rfl⟩), if_pos (show base + j ≤ base + j ∧ base + j < base + 27 by omega), show base + j - base = j by omega]
      · rw [if_neg (show ¬ (139 = 139 ∧ i = base + j) from fun z => q z.2)]
        by_cases q2 : base + (j + 1) ≤ i ∧ i < base + 27
        · rw [if_pos q2, if_pos (show base + j ≤ i ∧ i < base + 27 by omega)]
        · rw [if_neg q2, if_neg (show ¬ (base + j ≤ i ∧ i < base + 27) by omega)]
theorem mLay_123_140 {base : Nat} (hb : base + 27 ≤ 27) : ∀ (m f j : Nat) (ν' : Mem), j + m = 27 → m < f → ∃ ν'', fX12_lay_123_140_b2 f (nI base) (nI j) ν' = some ((), ν'') ∧ (∀ k i, k ≠ 140 → gI ν'' k i = gI ν' k i) ∧ (∀ k i, gL ν'' k i = gL ν' k i) ∧ ∀ i, gI ν'' 140 i = if base + j ≤ i ∧ i < base + 27 then gI ν' 123 (i - base) else gI ν' 140 i := by
  intro m
  induction m with
  | zero =>
    intro f j ν' h1 h2
    obtain ⟨f, rfl⟩ := Nat.exists_eq_succ_of_ne_zero (show f ≠ 0 by omega)
    rw [fX12_lay_123_140_b2, if_pos (show (27 : Int32) ≤ nI j from nI_le (a := 27) (by omega) (by omega))]
    refine ⟨ν', rfl, fun _ _ _ => rfl, fun _ _ => rfl, fun i => ?_⟩
    rw [if_neg (by omega)]
  | succ m ih =>
    intro f j ν' h1 h2
    obtain ⟨f, rfl⟩ := Nat.exists_eq_succ_of_ne_zero (show f ≠ 0 by omega)
    rw [fX12_lay_123_140_b2, if_neg (show ¬ (27 : Int32) ≤ nI j from nI_ge (b := 27) (by omega) (by omega)), gd_in (by omega) (by decide), nI_add, gd_in (by omega) (by decide), ix_nI (by omega), ix_nI (by omega), lt_e, nI_1]
    obtain ⟨ν'', e1, e2, e3, e4⟩ := ih f (j + 1) (sI ν' 140 (base + j) (gI ν' 123 j)) (by omega) (by omega)
    refine ⟨ν'', e1, fun k i hk => ?_, e3, fun i => ?_⟩
    · rw [e2 k i hk, gI_sI, if_neg (fun q => hk q.1)]
    · rw [e4 i, gne (show 123 ≠ 140 by decide), gI_sI]
      by_cases q : i = base + j
      · subst q
        rw [if_neg (show ¬ (base + (j + 1) ≤ base + j ∧ base + j < base + 27) by omega), if_pos (show 140 = 140 ∧ base + j = base + j from ⟨rfl, rfl⟩), if_pos (show base + j ≤ base + j ∧ base + j < base + 27 by omega), show base + j - base = j by omega]
      · rw [if_neg (show ¬ (140 = 140 ∧ i = base + j) from fun z => q z.2)]
        by_cases q2 : base + (j + 1) ≤ i ∧ i < base + 27
        · rw [if_pos q2, if_pos (show base + j ≤ i ∧ i < base + 27 by omega)]
        · rw [if_neg q2, if_neg (show ¬ (base + j ≤ i ∧ i < base + 27) by omega)]
theorem mLay_123_146 {base : Nat} (hb : base + 27 ≤ 54) : ∀ (m f j : Nat) (ν' : Mem), j + m = 27 → m < f → ∃ ν'', fX12_lay_123_146_b2 f (nI base) (nI j) ν' = some ((), ν'') ∧ (∀ k i, k ≠ 146 → gI ν'' k i = gI ν' k i) ∧ (∀ k i, gL ν'' k i = gL ν' k i) ∧ ∀ i, gI ν'' 146 i = if base + j ≤ i ∧ i < base + 27 then gI ν' 123 (i - base) else gI ν' 146 i := by
  intro m
  induction m with
  | zero =>
    intro f j ν' h1 h2
    obtain ⟨f, rfl⟩ := Nat.exists_eq_succ_of_ne_zero (show f ≠ 0 by omega)
    rw [fX12_lay_123_146_b2, if_pos (show (27 : Int32) ≤ nI j from nI_le (a := 27) (by omega) (by omega))]
    refine ⟨ν', rfl, fun _ _ _ => rfl, fun _ _ => rfl, fun i => ?_⟩
    rw [if_neg (by omega)]
  | succ m ih =>
    intro f j ν' h1 h2
    obtain ⟨f, rfl⟩ := Nat.exists_eq_succ_of_ne_zero (show f ≠ 0 by omega)
    rw [fX12_lay_123_146_b2, if_neg (show ¬ (27 : Int32) ≤ nI j from nI_ge (b := 27) (by omega) (by omega)), gd_in (by omega) (by decide), nI_add, gd_in (by omega) (by decide), ix_nI (by omega), ix_nI (by omega), lt_e, nI_1]
    obtain ⟨ν'', e1, e2, e3, e4⟩ := ih f (j + 1) (sI ν' 146 (base + j) (gI ν' 123 j)) (by omega) (by omega)
    refine ⟨ν'', e1, fun k i hk => ?_, e3, fun i => ?_⟩
    · rw [e2 k i hk, gI_sI, if_neg (fun q => hk q.1)]
    · rw [e4 i, gne (show 123 ≠ 146 by decide), gI_sI]
      by_cases q : i = base + j
      · subst q
        rw [if_neg (show ¬ (base + (j + 1) ≤ base + j ∧ base + j < base + 27) by omega), if_pos (show 146 = 146 ∧ base + j = base + j from ⟨rfl, rfl⟩), if_pos (show base + j ≤ base + j ∧ base + j < base + 27 by omega), show base + j - base = j by omega]
      · rw [if_neg (show ¬ (146 = 146 ∧ i = base + j) from fun z => q z.2)]
        by_cases q2 : base + (j + 1) ≤ i ∧ i < base + 27
        · rw [if_pos q2, if_pos (show base + j ≤ i ∧ i < base + 27 by omega)]
        · rw [if_neg q2, if_neg (show ¬ (base + j ≤ i ∧ i < base + 27) by omega)]
theorem mShift_123 : ∀ (m f j : Nat) (ν' : Mem), j + m = 297 → m < f → ∃ ν'', fX12_remember_122_123_b11 f (nI j) ν' = (lt (sI ν'' 122 29 (gI ν'' 122 29 - 1)) fun m4 => fX12_remember_122_123_b49 m4) ∧ (∀ k i, k ≠ 138 → gI ν'' k i = gI ν' k i) ∧ (∀ k i, gL ν'' k i = gL ν' k i) ∧ ∀ i, gI ν'' 138 i = if j ≤ i ∧ i < 297 then gI ν' 138 (i + 27) else gI ν' 138 i := by
  intro m
  induction m with
  | zero =>
    intro f j ν' h1 h2
    obtain ⟨f, rfl⟩ := Nat.exists_eq_succ_of_ne_zero (show f ≠ 0 by omega)
    rw [fX12_remember_122_123_b11, if_pos (show (297 : Int32) ≤ nI j from nI_le (a := 297) (by omega) (by omega))]
    refine ⟨ν', rfl, fun _ _ _ => rfl, fun _ _ => rfl, fun i => ?_⟩
    rw [if_neg (by omega)]
  | succ m ih =>
    intro f j ν' h1 h2
    obtain ⟨f, rfl⟩ := Nat.exists_eq_succ_of_ne_zero (show f ≠ 0 by omega)
    rw [fX12_remember_122_123_b11, if_neg (show ¬ (297 : Int32) ≤ nI j from nI_ge (b := 297) (by omega) (by omega)), show nI j + 27 = nI (j + 27) from nI_add j 27, gd_in (by omega) (by decide), gd_in (by omega) (by decide), ix_nI (by omega), ix_nI (by omega), lt_e, nI_1]
    obtain ⟨ν'', e1, e2, e3, e4⟩ := ih f (j + 1) (sI ν' 138 j (gI ν' 138 (j + 27))) (by omega) (by omega)
    refine ⟨ν'', e1, fun k i hk => ?_, e3, fun i => ?_⟩
    · rw [e2 k i hk, gI_sI, if_neg (fun q => hk q.1)]
    · rw [e4 i, gI_sI, gI_sI]
      by_cases q : i = j
      · subst q
        rw [if_neg (show ¬ (i + 1 ≤ i ∧ i < 297) by omega), if_pos (show 138 = 138 ∧ i = i from ⟨rfl, rfl⟩), if_pos (show i ≤ i ∧ i < 297 by omega)]
      · by_cases q2 : j + 1 ≤ i ∧ i < 297
        · rw [if_pos q2, if_neg (show ¬ (138 = 138 ∧ i + 27 = j) by omega), if_pos (show j ≤ i ∧ i < 297 by omega)]
        · rw [if_neg q2, if_neg (show ¬ (138 = 138 ∧ i = j) from fun z => q z.2), if_neg (show ¬ (j ≤ i ∧ i < 297) by omega)]
theorem m_remember_123 {n : Nat} (hn : n ≤ 12) (h : gI ν 122 29 = nI n) : Ev (fun _ ν' => (∀ k i, k ≠ 138 → ¬ (k = 122 ∧ i = 29) → gI ν' k i = gI ν k i) ∧ (∀ k i, gL ν' k i = gL ν k i) ∧ gI ν' 122 29 = nI (min 12 (n + 1)) ∧ (∀ i, i + 1 < min 12 (n + 1) → ∀ j, j < 27 → gI ν' 138 (27 * i + j) = gI ν 138 (27 * (i + (n + 1 - min 12 (n + 1))) + j)) ∧ ∀ j, j < 27 → gI ν' 138 (27 * (min 12 (n + 1) - 1) + j) = gI ν 123 j) (fX12_remember_122_123 ν) := by
  have fin : ∀ (ν1 : Mem) (k : Nat), k ≤ 11 → gI ν1 122 29 = nI k → ∃ ν2, fX12_remember_122_123_b49 ν1 = some ((), ν2) ∧ (∀ a i, a ≠ 138 → ¬ (a = 122 ∧ i = 29) → gI ν2 a i = gI ν1 a i) ∧ (∀ a i, gL ν2 a i = gL ν1 a i) ∧ gI ν2 122 29 = nI (k + 1) ∧ ∀ i, gI ν2 138 i = if 27 * k ≤ i ∧ i < 27 * k + 27 then gI ν1 123 (i - 27 * k) else gI ν1 138 i := by
    intro ν1 k hk e
    unfold fX12_remember_122_123_b49 fX12_lay_123_138
    rw [e, show (27 : Int32) * nI k = nI (27 * k) from nI_mul 27 k]
    obtain ⟨ν2, e1, e2, e3, e4⟩ := mLay_123_138 (show 27 * k + 27 ≤ 324 by omega) 27 FU 0 ν1 rfl (by decide)
    rw [show fX12_lay_123_138_b2 FU (nI (27 * k)) 0 ν1 = _ from e1, bnd_e, lt_e, e2 122 29 (by decide), e, nI_1]
    refine ⟨_, rfl, fun a i ha hi => ?_, e3, ?_, fun i => ?_⟩
    · rw [gI_sI, if_neg hi, e2 a i ha]
    · rw [gI_sI, if_pos ⟨rfl, rfl⟩]
    · rw [gI_sI, if_neg (by omega), e4 i, Nat.add_zero]
  unfold fX12_remember_122_123
  rw [h]
  by_cases q : n = 12
  · subst q
    rw [if_pos (show nI 12 = 12 from rfl)]
    obtain ⟨ν1, e1, e2, e3, e4⟩ := mShift_123 297 FU 0 ν rfl (by decide)
    rw [show fX12_remember_122_123_b11 FU 0 ν = _ from e1, lt_e, e2 122 29 (by decide), h]
    obtain ⟨ν2, f1, f2, f3, f4, f5⟩ := fin (sI ν1 122 29 (nI 12 - 1)) 11 (by omega) (by rw [gI_sI, if_pos ⟨rfl, rfl⟩]; rfl)
    refine ⟨_, _, f1, fun a i ha hi => ?_, fun a i => (f3 a i).trans (e3 a i), f4, fun i hi j hj => ?_, fun j hj => ?_⟩
    · rw [f2 a i ha hi, gI_sI, if_neg hi, e2 a i ha]
    · have hm : min 12 (12 + 1) = 12 := rfl
      rw [hm] at hi ⊢
      rw [f5, if_neg (by omega), gI_sI, if_neg (by omega), e4, if_pos (by omega)]
      exact congrArg (gI ν 138) (by omega)
    · have hm : min 12 (12 + 1) = 12 := rfl
      rw [hm, f5, if_pos (by omega), gI_sI, if_neg (by omega), e2 _ _ (by decide)]
      exact congrArg (gI ν 123) (by omega)
  · rw [if_neg (fun z => q (by rw [show (12 : Int32) = nI 12 from rfl, nI_eq (by omega) (by decide)] at z; exact z))]
    obtain ⟨ν2, f1, f2, f3, f4, f5⟩ := fin ν n (by omega) h
    have hm : min 12 (n + 1) = n + 1 := by omega
    refine ⟨_, _, f1, f2, f3, by rw [hm]; exact f4, fun i hi j hj => ?_, fun j hj => ?_⟩
    · rw [hm] at hi ⊢
      rw [f5, if_neg (by omega)]
      exact congrArg (gI ν 138) (by omega)
    · rw [hm, f5, if_pos (by omega)]
      exact congrArg (gI ν 123) (by omega)
theorem mShift_139 : ∀ (m f j : Nat) (ν' : Mem), j + m = 297 → m < f → ∃ ν'', fX12_remember_122_139_b11 f (nI j) ν' = (lt (sI ν'' 122 29 (gI ν'' 122 29 - 1)) fun m4 => fX12_remember_122_139_b49 m4) ∧ (∀ k i, k ≠ 138 → gI ν'' k i = gI ν' k i) ∧ (∀ k i, gL ν'' k i = gL ν' k i) ∧ ∀ i, gI ν'' 138 i = if j ≤ i ∧ i < 297 then gI ν' 138 (i + 27) else gI ν' 138 i := by
  intro m
  induction m with
  | zero =>
    intro f j ν' h1 h2
    obtain ⟨f, rfl⟩ := Nat.exists_eq_succ_of_ne_zero (show f ≠ 0 by omega)
    rw [fX12_remember_122_139_b11, if_pos (show (297 : Int32) ≤ nI j from nI_le (a := 297) (by omega) (by omega))]
    refine ⟨ν', rfl, fun _ _ _ => rfl, fun _ _ => rfl, fun i => ?_⟩
    rw [if_neg (by omega)]
  | succ m ih =>
    intro f j ν' h1 h2
    obtain ⟨f, rfl⟩ := Nat.exists_eq_succ_of_ne_zero (show f ≠ 0 by omega)
    rw [fX12_remember_122_139_b11, if_neg (show ¬ (297 : Int32) ≤ nI j from nI_ge (b := 297) (by omega) (by omega)), show nI j + 27 = nI (j + 27) from nI_add j 27, gd_in (by omega) (by decide), gd_in (by omega) (by decide), ix_nI (by omega), ix_nI (by omega), lt_e, nI_1]
    obtain ⟨ν'', e1, e2, e3, e4⟩ := ih f (j + 1) (sI ν' 138 j (gI ν' 138 (j + 27))) (by omega) (by omega)
    refine ⟨ν'', e1, fun k i hk => ?_, e3, fun i => ?_⟩
    · rw [e2 k i hk, gI_sI, if_neg (fun q => hk q.1)]
    · rw [e4 i, gI_sI, gI_sI]
      by_cases q : i = j
      · subst q
        rw [if_neg (show ¬ (i + 1 ≤ i ∧ i < 297) by omega), if_pos (show 138 = 138 ∧ i = i from ⟨rfl, rfl⟩), if_pos (show i ≤ i ∧ i < 297 by omega)]
      · by_cases q2 : j + 1 ≤ i ∧ i < 297
        · rw [if_pos q2, if_neg (show ¬ (138 = 138 ∧ i + 27 = j) by omega), if_pos (show j ≤ i ∧ i < 297 by omega)]
        · rw [if_neg q2, if_neg (show ¬ (138 = 138 ∧ i = j) from fun z => q z.2), if_neg (show ¬ (j ≤ i ∧ i < 297) by omega)]
theorem m_remember_139 {n : Nat} (hn : n ≤ 12) (h : gI ν 122 29 = nI n) : Ev (fun _ ν' => (∀ k i, k ≠ 138 → ¬ (k = 122 ∧ i = 29) → gI ν' k i = gI ν k i) ∧ (∀ k i, gL ν' k i = gL ν k i) ∧ gI ν' 122 29 = nI (min 12 (n + 1)) ∧ (∀ i, i + 1 < min 12 (n + 1) → ∀ j, j < 27 → gI ν' 138 (27 * i + j) = gI ν 138 (27 * (i + (n + 1 - min 12 (n + 1))) + j)) ∧ ∀ j, j < 27 → gI ν' 138 (27 * (min 12 (n + 1) - 1) + j) = gI ν 139 j) (fX12_remember_122_139 ν) := by
  have fin : ∀ (ν1 : Mem) (k : Nat), k ≤ 11 → gI ν1 122 29 = nI k → ∃ ν2, fX12_remember_122_139_b49 ν1 = some ((), ν2) ∧ (∀ a i, a ≠ 138 → ¬ (a = 122 ∧ i = 29) → gI ν2 a i = gI ν1 a i) ∧ (∀ a i, gL ν2 a i = gL ν1 a i) ∧ gI ν2 122 29 = nI (k + 1) ∧ ∀ i, gI ν2 138 i = if 27 * k ≤ i ∧ i < 27 * k + 27 then gI ν1 139 (i - 27 * k) else gI ν1 138 i := by
    intro ν1 k hk e
    unfold fX12_remember_122_139_b49 fX12_lay_139_138
    rw [e, show (27 : Int32) * nI k = nI (27 * k) from nI_mul 27 k]
    obtain ⟨ν2, e1, e2, e3, e4⟩ := mLay_139_138 (show 27 * k + 27 ≤ 324 by omega) 27 FU 0 ν1 rfl (by decide)
    rw [show fX12_lay_139_138_b2 FU (nI (27 * k)) 0 ν1 = _ from e1, bnd_e, lt_e, e2 122 29 (by decide), e, nI_1]
    refine ⟨_, rfl, fun a i ha hi => ?_, e3, ?_, fun i => ?_⟩
    · rw [gI_sI, if_neg hi, e2 a i ha]
    · rw [gI_sI, if_pos ⟨rfl, rfl⟩]
    · rw [gI_sI, if_neg (by omega), e4 i, Nat.add_zero]
  unfold fX12_remember_122_139
  rw [h]
  by_cases q : n = 12
  · subst q
    rw [if_pos (show nI 12 = 12 from rfl)]
    obtain ⟨ν1, e1, e2, e3, e4⟩ := mShift_139 297 FU 0 ν rfl (by decide)
    rw [show fX12_remember_122_139_b11 FU 0 ν = _ from e1, lt_e, e2 122 29 (by decide), h]
    obtain ⟨ν2, f1, f2, f3, f4, f5⟩ := fin (sI ν1 122 29 (nI 12 - 1)) 11 (by omega) (by rw [gI_sI, if_pos ⟨rfl, rfl⟩]; rfl)
    refine ⟨_, _, f1, fun a i ha hi => ?_, fun a i => (f3 a i).trans (e3 a i), f4, fun i hi j hj => ?_, fun j hj => ?_⟩
    · rw [f2 a i ha hi, gI_sI, if_neg hi, e2 a i ha]
    · have hm : min 12 (12 + 1) = 12 := rfl
      rw [hm] at hi ⊢
      rw [f5, if_neg (by omega), gI_sI, if_neg (by omega), e4, if_pos (by omega)]
      exact congrArg (gI ν 138) (by omega)
    · have hm : min 12 (12 + 1) = 12 := rfl
      rw [hm, f5, if_pos (by omega), gI_sI, if_neg (by omega), e2 _ _ (by decide)]
      exact congrArg (gI ν 139) (by omega)
  · rw [if_neg (fun z => q (by rw [show (12 : Int32) = nI 12 from rfl, nI_eq (by omega) (by decide)] at z; exact z))]
    obtain ⟨ν2, f1, f2, f3, f4, f5⟩ := fin ν n (by omega) h
    have hm : min 12 (n + 1) = n + 1 := by omega
    refine ⟨_, _, f1, f2, f3, by rw [hm]; exact f4, fun i hi j hj => ?_, fun j hj => ?_⟩
    · rw [hm] at hi ⊢
      rw [f5, if_neg (by omega)]
      exact congrArg (gI ν 138) (by omega)
    · rw [hm, f5, if_pos (by omega)]
      exact congrArg (gI ν 139) (by omega)
end Pure20
