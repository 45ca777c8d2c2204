section Pure1
def Off (P : Nat → Nat → Bool) (μ μ' : Mem) : Prop := (∀ k j, P k j = false → gI μ' k j = gI μ k j) ∧ ∀ k j, gL μ' k j = gL μ k j
theorem Off.refl {P : Nat → Nat → Bool} (μ : Mem) : Off P μ μ := ⟨fun _ _ _ => rfl, fun _ _ => rfl⟩
theorem Off.tr {P : Nat → Nat → Bool} {μ μ' μ'' : Mem} (h : Off P μ μ') (h' : Off P μ' μ'') : Off P μ μ'' := ⟨fun k j q => (h'.1 k j q).trans (h.1 k j q), fun k j => (h'.2 k j).trans (h.2 k j)⟩
theorem Off.mono {P P' : Nat → Nat → Bool} {μ μ' : Mem} (h : Off P μ μ') (hp : ∀ k j, P k j = true → P' k j = true) : Off P' μ μ' := ⟨fun k j q => h.1 k j (by
  cases hb : P k j with
  | false => rfl
  | true =>
    rw [hp k j hb] at q
    exact Bool.noConfusion q), h.2⟩
theorem Off.sI {P : Nat → Nat → Bool} {μ μ' : Mem} {k j : Nat} {v : Int32} (h : Off P μ μ') (hp : P k j = true) : Off P μ (sI μ' k j v) := ⟨fun a b q => by
  rw [gI_sI, if_neg]
  · exact h.1 a b q
  · rintro ⟨rfl, rfl⟩
    rw [hp] at q
    exact Bool.noConfusion q, fun a b => h.2 a b⟩
theorem Off.sC {P : Nat → Nat → Bool} {μ μ' : Mem} {k k2 a b n : Nat} (h : Off P μ μ') (hp : ∀ j, P k2 j = true) : Off P μ (sC μ' k k2 a b n) := ⟨fun c d q => by
  rw [gI_sC, if_neg]
  · exact h.1 c d q
  · rintro rfl
    rw [hp] at q
    exact Bool.noConfusion q, fun a b => h.2 a b⟩
def cc (k j : Nat) : Nat := bif k == 0 then (bif j == 14 then 3 else 0) else bif k == 1 then (bif j == 1 then 5 else 0) else bif k == 2 then 5 else bif k == 3 then (bif j == 1 then 6 else 0) else bif k == 5 then (bif j == 5 then 1 else 0) else bif (Nat.ble 6 k && Nat.ble k 10) then 1 else bif k == 11 then (bif j == 3 then 2 else 0) else bif k == 12 then 2 else bif k == 14 then 2 else bif k == 19 then (bif j == 1 then 9 else 0) else bif k == 20 then 9 else bif k == 25 then 3 else bif k == 27 then 3 else bif k == 29 then (bif j == 1 then 7 else bif j == 2 then 7 else 0) else bif k == 33 then (bif j == 4 then 4 else 0) else bif (Nat.ble 34 k && Nat.ble k 37) then 4 else bif (Nat.ble 43 k && Nat.ble k 107) then 7 else bif (Nat.ble 108 k && Nat.ble k 117) then 8 else bif k == 120 then 8 else 0
def mc (k j : Nat) : Nat := bif k == 122 then (bif j == 1 then 1 else bif j == 8 then 2 else bif j == 12 then 3 else bif j == 14 then 5 else bif j == 16 then 6 else bif j == 25 then 9 else bif j == 29 then 7 else bif j == 41 then 8 else 0) else bif k == 123 then 4 else bif (Nat.ble 124 k && Nat.ble k 128) then 1 else bif k == 129 then 3 else bif k == 130 then 2 else bif k == 131 then 2 else bif k == 132 then 3 else bif k == 133 then 5 else bif k == 136 then 9 else bif k == 138 then 7 else bif (Nat.ble 146 k && Nat.ble k 148) then 8 else 0
theorem cc_hall {a j : Nat} (h : 33 ≤ a ∧ a ≤ 37) (hj : a = 33 → j = 4) : cc a j = 4 := by
  obtain e | e | e | e | e : a = 33 ∨ a = 34 ∨ a = 35 ∨ a = 36 ∨ a = 37 := by omega
  · subst e; rw [hj rfl]; rfl
  all_goals (subst e; rfl)
theorem cc_past {a j : Nat} (h1 : 43 ≤ a) (h2 : a ≤ 107) : cc a j = 7 := by
  have e1 := Nat.ble_eq_true_of_le h1
  have e2 := Nat.ble_eq_true_of_le h2
  have f : ∀ n, a ≠ n → (a == n) = false := fun n h => by simpa using h
  have g : ∀ n, n < a → Nat.ble a n = false := fun n h => by
    cases e : Nat.ble a n with
    | false => rfl
    | true => exact absurd (Nat.le_of_ble_eq_true e) (by omega)
  unfold cc
  rw [f 0 (by omega), f 1 (by omega), f 2 (by omega), f 3 (by omega), f 5 (by omega), g 10 (by omega), f 11 (by omega), f 12 (by omega), f 14 (by omega), f 19 (by omega), f 20 (by omega), f 25 (by omega), f 27 (by omega), f 29 (by omega), f 33 (by omega), g 37 (by omega), e1, e2]
  simp
theorem cc_kept {a j : Nat} (h1 : 108 ≤ a) (h2 : a ≤ 117) : cc a j = 8 := by
  obtain e | e | e | e | e | e | e | e | e | e : a = 108 ∨ a = 109 ∨ a = 110 ∨ a = 111 ∨ a = 112 ∨ a = 113 ∨ a = 114 ∨ a = 115 ∨ a = 116 ∨ a = 117 := by omega
  all_goals (subst e; rfl)
def hl (μ : Mem) (h j : Nat) : Int32 := if j < 6 then gI μ (h + 1) j else if j < 12 then gI μ (h + 2) (j - 6) else if j < 18 then gI μ (h + 3) (j - 12) else if j < 26 then gI μ (h + 4) (j - 18) else gI μ h 4
def HOk (c B : Nat) (f : Nat → Int32) : Prop := (∀ p, p < 6 → ∃ s, s ≤ 5 ∧ f p = nI s) ∧ (∀ p, p < 6 → ∃ s, s ≤ 99 ∧ f (6 + p) = nI s) ∧ (∀ p, c ≤ p → p < 6 → f p = 0) ∧ (∀ w, w < 8 → ∃ s, s ≤ 99 ∧ f (18 + w) = nI s) ∧ ∃ d, d ≤ B ∧ f 26 = nI d
def Rg (c : Nat) (μ ν : Mem) : Prop := c ≤ 6 ∧ gI μ 5 5 = nI c ∧ gI ν 122 1 = nI c ∧ ∀ p, p < c → gI ν 124 p = gI μ 6 p ∧ gI ν 125 p = gI μ 7 p ∧ gI ν 126 p = gI μ 8 p ∧ gI ν 127 p = gI μ 9 p ∧ gI ν 128 p = gI μ 10 p ∧ (∃ s, s < 4 ∧ gI μ 9 p = nI s) ∧ (∃ s, s < 256 ∧ gI μ 10 p = nI s)
def Rb (b : Nat) (μ ν : Mem) : Prop := b ≤ 8 ∧ gI μ 11 3 = nI b ∧ gI ν 122 8 = nI b ∧ ∀ w, w < b → gI ν 130 w = gI μ 12 w ∧ gI ν 131 w = gI μ 14 w ∧ (∃ s, s ≤ 9 ∧ gI μ 14 w = nI s)
def Re (μ ν : Mem) : Prop := (∀ g, g < 8 → gI ν 129 g = gI μ 27 g ∧ ∃ s, s ≤ 99 ∧ gI μ 27 g = nI s) ∧ (∀ e, e < 4 → gI ν 132 e = gI μ 25 e ∧ ∃ s, s < 3 ∧ gI μ 25 e = nI s) ∧ gI ν 122 12 = gI μ 0 14 ∧ ∃ e, 1 ≤ e ∧ e ≤ 99 ∧ gI μ 0 14 = nI e
def Rh (c B : Nat) (μ ν : Mem) : Prop := (∀ j, j < 27 → gI ν 123 j = hl μ 33 j) ∧ HOk c B (hl μ 33)
def Rt (μ ν : Mem) : Prop := ∃ t, t ≤ 80 ∧ gI μ 1 1 = nI t ∧ gI ν 122 14 = nI t ∧ ∀ j, j < t → ∃ x, x < 256 ∧ gI μ 2 j = nI x ∧ gI ν 133 j = (nI x).toInt8.toInt32
def Rr (μ ν : Mem) : Prop := ∃ k, k ≤ 8 ∧ gI μ 3 1 = nI k ∧ gI ν 122 16 = nI k ∧ ∀ i, i < k → gL ν 134 i = gL μ 4 i
def Rp (c B : Nat) (μ ν : Mem) : Prop := ∃ n nx, n ≤ 12 ∧ nx < 13 ∧ gI μ 29 1 = nI nx ∧ gI μ 29 2 = nI n ∧ gI ν 122 29 = nI n ∧ ∀ i, i < n → (∀ j, j < 27 → gI ν 138 (27 * i + j) = hl μ (43 + 5 * ((nx + 13 - n + i) % 13)) j) ∧ HOk c B (hl μ (43 + 5 * ((nx + 13 - n + i) % 13)))
def Rk (c B : Nat) (μ ν : Mem) : Prop := (∃ m, m ≤ B ∧ gI ν 122 41 = nI m ∧ ∀ s, s < 2 → ∃ m', m' ≤ m ∧ gI ν 148 s = nI m') ∧ ∀ s, s < 2 → (gI μ 120 s = 0 ∧ (gI ν 147 s = 0 ∨ gI ν 148 s ≠ gI ν 122 41)) ∨ (gI μ 120 s = 1 ∧ gI ν 147 s = 1 ∧ gI ν 148 s = gI ν 122 41 ∧ (∀ j, j < 27 → gI ν 146 (27 * s + j) = hl μ (108 + 5 * s) j) ∧ HOk c B (hl μ (108 + 5 * s)))
abbrev VT : Type := Int32 → Int32 → Int32 → Int32 → Int32 → Int32 → Int32
def clamp (x : Int32) : Int32 := imax (-999 : Int32) (imin (999 : Int32) x)
def w22 (k _j : Nat) : Bool := k == 22 || k == 23
def w137 (k j : Nat) : Bool := k == 137 || (k == 122 && ((Nat.ble 18 j && Nat.ble j 22) || j == 26 || j == 33))
def Ru (V : VT) (μ ν : Mem) : Prop := (∀ μ' : Mem, (∀ k j, cc k j = 9 → gI μ' k j = gI μ k j) → ∀ b w d n f i, Ev (fun r μ'' => r = V b w d n f i ∧ Off w22 μ' μ'') (fX8_worth_19 b w d n f i μ')) ∧ (∀ ν' : Mem, (∀ k j, mc k j = 9 → gI ν' k j = gI ν k j) → ∀ p, p < 6 → ∀ w x D, D < 2 ^ 30 → Ev (fun r ν'' => r = clamp (V (gI ν' 124 p) w x (nI (D % 2)) (gI ν' 125 p) (nI p)) ∧ Off w137 ν' ν'') (fX12_leftOf_122 (nI p) w x (nI D) ν'))
def Rel (V : VT) (c b B : Nat) (μ ν : Mem) : Prop := Rg c μ ν ∧ Rb b μ ν ∧ Re μ ν ∧ Rh c B μ ν ∧ Rt μ ν ∧ Rr μ ν ∧ Rp c B μ ν ∧ Rk c B μ ν ∧ Ru V μ ν
section
variable {V : VT} {c b B : Nat} {μ ν μ' ν' : Mem}
theorem Rg.cg (h : Rg c μ ν) (h1 : ∀ k j, cc k j = 1 → gI μ' k j = gI μ k j) (h2 : ∀ k j, mc k j = 1 → gI ν' k j = gI ν k j) : Rg c μ' ν' := by
  unfold Rg at h ⊢
  rw [h1 5 5 rfl, h2 122 1 rfl]
  refine ⟨h.1, h.2.1, h.2.2.1, fun p hp => ?_⟩
  rw [h1 6 p rfl, h1 7 p rfl, h1 8 p rfl, h1 9 p rfl, h1 10 p rfl, h2 124 p rfl, h2 125 p rfl, h2 126 p rfl, h2 127 p rfl, h2 128 p rfl]
  exact h.2.2.2 p hp
theorem Rb.cg (h : Rb b μ ν) (h1 : ∀ k j, cc k j = 2 → gI μ' k j = gI μ k j) (h2 : ∀ k j, mc k j = 2 → gI ν' k j = gI ν k j) : Rb b μ' ν' := by
  unfold Rb at h ⊢
  rw [h1 11 3 rfl, h2 122 8 rfl]
  refine ⟨h.1, h.2.1, h.2.2.1, fun p hp => ?_⟩
  rw [h1 12 p rfl, h1 14 p rfl, h2 130 p rfl, h2 131 p rfl]
  exact h.2.2.2 p hp
theorem Re.cg (h : Re μ ν) (h1 : ∀ k j, cc k j = 3 → gI μ' k j = gI μ k j) (h2 : ∀ k j, mc k j = 3 → gI ν' k j = gI ν k j) : Re μ' ν' := by
  unfold Re at h ⊢
  rw [h1 0 14 rfl, h2 122 12 rfl]
  refine ⟨fun p hp => ?_, fun p hp => ?_, h.2.2⟩
  · rw [h1 27 p rfl, h2 129 p rfl]
    exact h.1 p hp
  · rw [h1 25 p rfl, h2 132 p rfl]
    exact h.2.1 p hp
theorem hl_cg {k : Nat} (h : ∀ a j, (k ≤ a ∧ a ≤ k + 4) → (a = k → j = 4) → gI μ' a j = gI μ a j) (j : Nat) : hl μ' k j = hl μ k j := by
  unfold hl
  rw [h (k + 1) j (by omega) (by omega), h (k + 2) (j - 6) (by omega) (by omega), h (k + 3) (j - 12) (by omega) (by omega), h (k + 4) (j - 18) (by omega) (by omega), h k 4 (by omega) (by omega)]
theorem hl33 (h1 : ∀ k j, cc k j = 4 → gI μ' k j = gI μ k j) (j : Nat) : hl μ' 33 j = hl μ 33 j := hl_cg (fun a j ha hj => h1 a j (cc_hall (by omega) hj)) j
theorem Rh.cg (h : Rh c B μ ν) (h1 : ∀ k j, cc k j = 4 → gI μ' k j = gI μ k j) (h2 : ∀ k j, mc k j = 4 → gI ν' k j = gI ν k j) : Rh c B μ' ν' := by
  unfold Rh at h ⊢
  have e : hl μ' 33 = hl μ 33 := funext (hl33 h1)
  rw [e]
  refine ⟨fun j hj => ?_, h.2⟩
  rw [h2 123 j rfl]
  exact h.1 j hj
theorem Rt.cg (h : Rt μ ν) (h1 : ∀ k j, cc k j = 5 → gI μ' k j = gI μ k j) (h2 : ∀ k j, mc k j = 5 → gI ν' k j = gI ν k j) : Rt μ' ν' := by
  unfold Rt at h ⊢
  rw [h1 1 1 rfl, h2 122 14 rfl]
  obtain ⟨t, a1, a2, a3, a4⟩ := h
  refine ⟨t, a1, a2, a3, fun j hj => ?_⟩
  rw [h1 2 j rfl, h2 133 j rfl]
  exact a4 j hj
theorem Rr.cg (h : Rr μ ν) (h1 : ∀ k j, cc k j = 6 → gI μ' k j = gI μ k j) (h2 : ∀ k j, mc k j = 6 → gI ν' k j = gI ν k j) (h3 : ∀ j, gL μ' 4 j = gL μ 4 j) (h4 : ∀ j, gL ν' 134 j = gL ν 134 j) : Rr μ' ν' := by
  unfold Rr at h ⊢
  rw [h1 3 1 rfl, h2 122 16 rfl]
  obtain ⟨t, a1, a2, a3, a4⟩ := h
  refine ⟨t, a1, a2, a3, fun j hj => ?_⟩
  rw [h3, h4]
  exact a4 j hj
theorem hlp (h1 : ∀ k j, cc k j = 7 → gI μ' k j = gI μ k j) {x : Nat} (hx : x < 13) (j : Nat) : hl μ' (43 + 5 * x) j = hl μ (43 + 5 * x) j := hl_cg (fun a j ha hj => h1 a j (cc_past (by omega) (by omega))) j
theorem Rp.cg (h : Rp c B μ ν) (h1 : ∀ k j, cc k j = 7 → gI μ' k j = gI μ k j) (h2 : ∀ k j, mc k j = 7 → gI ν' k j = gI ν k j) : Rp c B μ' ν' := by
  unfold Rp at h ⊢
  rw [h1 29 1 rfl, h1 29 2 rfl, h2 122 29 rfl]
  obtain ⟨n, nx, a1, a2, a3, a4, a5, a6⟩ := h
  refine ⟨n, nx, a1, a2, a3, a4, a5, fun i hi => ?_⟩
  have e : hl μ' (43 + 5 * ((nx + 13 - n + i) % 13)) = hl μ (43 + 5 * ((nx + 13 - n + i) % 13)) := funext (hlp h1 (Nat.mod_lt _ (by decide)))
  rw [e]
  refine ⟨fun j hj => ?_, (a6 i hi).2⟩
  rw [h2 138 _ rfl]
  exact (a6 i hi).1 j hj
theorem hlk (h1 : ∀ k j, cc k j = 8 → gI μ' k j = gI μ k j) {x : Nat} (hx : x < 2) (j : Nat) : hl μ' (108 + 5 * x) j = hl μ (108 + 5 * x) j := hl_cg (fun a j ha hj => h1 a j (cc_kept (by omega) (by omega))) j
theorem Rk.cg (h : Rk c B μ ν) (h1 : ∀ k j, cc k j = 8 → gI μ' k j = gI μ k j) (h2 : ∀ k j, mc k j = 8 → gI ν' k j = gI ν k j) : Rk c B μ' ν' := by
  unfold Rk at h ⊢
  rw [h2 122 41 rfl]
  obtain ⟨a1, a2⟩ := h
  refine ⟨?_, fun s hs => ?_⟩
  · obtain ⟨m, q1, q2, q3⟩ := a1
    refine ⟨m, q1, q2, fun s hs => ?_⟩
    rw [h2 148 s rfl]
    exact q3 s hs
  · have e : hl μ' (108 + 5 * s) = hl μ (108 + 5 * s) := funext (hlk h1 hs)
    rw [h1 120 s rfl, h2 147 s rfl, h2 148 s rfl, e]
    rcases a2 s hs with q | ⟨q1, q2, q3, q4, q5⟩
    · exact Or.inl q
    · refine Or.inr ⟨q1, q2, q3, fun j hj => ?_, q5⟩
      rw [h2 146 _ rfl]
      exact q4 j hj
theorem Ru.cg (h : Ru V μ ν) (h1 : ∀ k j, cc k j = 9 → gI μ' k j = gI μ k j) (h2 : ∀ k j, mc k j = 9 → gI ν' k j = gI ν k j) : Ru V μ' ν' :=
  ⟨fun μ'' q => h.1 μ'' (fun k j e => (q k j e).trans (h1 k j e)), fun ν'' q => h.2 ν'' (fun k j e => (q k j e).trans (h2 k j e))⟩

def scC (k j : Nat) : Bool := cc k j == 0
def scM (k j : Nat) : Bool := mc k j == 0
def xC (X k j : Nat) : Bool := cc k j == 0 || cc k j == X
def xM (X k j : Nat) : Bool := mc k j == 0 || mc k j == X
theorem scC_x {k j X : Nat} (h : scC k j = true) : xC X k j = true := by
  unfold scC at h; unfold xC; rw [h]; rfl
theorem scM_x {k j X : Nat} (h : scM k j = true) : xM X k j = true := by
  unfold scM at h; unfold xM; rw [h]; rfl
theorem xC_at {X Y : Nat} (hY : Y ≠ 0) (hn : Y ≠ X) (o : ∀ k j, xC X k j = false → gI μ' k j = gI μ k j) : ∀ k j, cc k j = Y → gI μ' k j = gI μ k j := fun k j q => o k j (by
  unfold xC; rw [q]; simp [hY, hn])
theorem xM_at {X Y : Nat} (hY : Y ≠ 0) (hn : Y ≠ X) (o : ∀ k j, xM X k j = false → gI μ' k j = gI μ k j) : ∀ k j, mc k j = Y → gI μ' k j = gI μ k j := fun k j q => o k j (by
  unfold xM; rw [q]; simp [hY, hn])
theorem Rel.sc (h : Rel V c b B μ ν) (o : Off scC μ μ') : Rel V c b B μ' ν :=
  have e : ∀ Y k j, mc k j = Y → gI ν k j = gI ν k j := fun _ _ _ _ => rfl
  have f : ∀ Y, Y ≠ 0 → ∀ k j, cc k j = Y → gI μ' k j = gI μ k j := fun Y hY k j q => o.1 k j (by unfold scC; rw [q]; simp [hY])
  ⟨h.1.cg (f 1 (by decide)) (e 1), h.2.1.cg (f 2 (by decide)) (e 2), h.2.2.1.cg (f 3 (by decide)) (e 3), h.2.2.2.1.cg (f 4 (by decide)) (e 4), h.2.2.2.2.1.cg (f 5 (by decide)) (e 5), h.2.2.2.2.2.1.cg (f 6 (by decide)) (e 6) (fun j => o.2 4 j) (fun _ => rfl), h.2.2.2.2.2.2.1.cg (f 7 (by decide)) (e 7), h.2.2.2.2.2.2.2.1.cg (f 8 (by decide)) (e 8), h.2.2.2.2.2.2.2.2.cg (f 9 (by decide)) (e 9)⟩
theorem Rel.sm (h : Rel V c b B μ ν) (o : Off scM ν ν') : Rel V c b B μ ν' :=
  have e : ∀ Y k j, cc k j = Y → gI μ k j = gI μ k j := fun _ _ _ _ => rfl
  have f : ∀ Y, Y ≠ 0 → ∀ k j, mc k j = Y → gI ν' k j = gI ν k j := fun Y hY k j q => o.1 k j (by unfold scM; rw [q]; simp [hY])
  ⟨h.1.cg (e 1) (f 1 (by decide)), h.2.1.cg (e 2) (f 2 (by decide)), h.2.2.1.cg (e 3) (f 3 (by decide)), h.2.2.2.1.cg (e 4) (f 4 (by decide)), h.2.2.2.2.1.cg (e 5) (f 5 (by decide)), h.2.2.2.2.2.1.cg (e 6) (f 6 (by decide)) (fun _ => rfl) (fun j => o.2 134 j), h.2.2.2.2.2.2.1.cg (e 7) (f 7 (by decide)), h.2.2.2.2.2.2.2.1.cg (e 8) (f 8 (by decide)), h.2.2.2.2.2.2.2.2.cg (e 9) (f 9 (by decide))⟩
theorem Rel.estate (h : Rel V c b B μ ν) (o : ∀ k j, xC 3 k j = false → gI μ' k j = gI μ k j) (o' : ∀ k j, xM 3 k j = false → gI ν' k j = gI ν k j) (l : ∀ j, gL μ' 4 j = gL μ 4 j) (l' : ∀ j, gL ν' 134 j = gL ν 134 j) (n : Re μ' ν') : Rel V c b B μ' ν' :=
  have f : ∀ Y, Y ≠ 0 → Y ≠ 3 → ∀ k j, cc k j = Y → gI μ' k j = gI μ k j := fun Y hY hn => xC_at hY hn o
  have e : ∀ Y, Y ≠ 0 → Y ≠ 3 → ∀ k j, mc k j = Y → gI ν' k j = gI ν k j := fun Y hY hn => xM_at hY hn o'
  ⟨h.1.cg (f 1 (by decide) (by decide)) (e 1 (by decide) (by decide)), h.2.1.cg (f 2 (by decide) (by decide)) (e 2 (by decide) (by decide)), n, h.2.2.2.1.cg (f 4 (by decide) (by decide)) (e 4 (by decide) (by decide)), h.2.2.2.2.1.cg (f 5 (by decide) (by decide)) (e 5 (by decide) (by decide)), h.2.2.2.2.2.1.cg (f 6 (by decide) (by decide)) (e 6 (by decide) (by decide)) l l', h.2.2.2.2.2.2.1.cg (f 7 (by decide) (by decide)) (e 7 (by decide) (by decide)), h.2.2.2.2.2.2.2.1.cg (f 8 (by decide) (by decide)) (e 8 (by decide) (by decide)), h.2.2.2.2.2.2.2.2.cg (f 9 (by decide) (by decide)) (e 9 (by decide) (by decide))⟩
theorem Rel.hall (h : Rel V c b B μ ν) (o : ∀ k j, xC 4 k j = false → gI μ' k j = gI μ k j) (o' : ∀ k j, xM 4 k j = false → gI ν' k j = gI ν k j) (l : ∀ j, gL μ' 4 j = gL μ 4 j) (l' : ∀ j, gL ν' 134 j = gL ν 134 j) (n : Rh c B μ' ν') : Rel V c b B μ' ν' :=
  have f : ∀ Y, Y ≠ 0 → Y ≠ 4 → ∀ k j, cc k j = Y → gI μ' k j = gI μ k j := fun Y hY hn => xC_at hY hn o
  have e : ∀ Y, Y ≠ 0 → Y ≠ 4 → ∀ k j, mc k j = Y → gI ν' k j = gI ν k j := fun Y hY hn => xM_at hY hn o'
  ⟨h.1.cg (f 1 (by decide) (by decide)) (e 1 (by decide) (by decide)), h.2.1.cg (f 2 (by decide) (by decide)) (e 2 (by decide) (by decide)), h.2.2.1.cg (f 3 (by decide) (by decide)) (e 3 (by decide) (by decide)), n, h.2.2.2.2.1.cg (f 5 (by decide) (by decide)) (e 5 (by decide) (by decide)), h.2.2.2.2.2.1.cg (f 6 (by decide) (by decide)) (e 6 (by decide) (by decide)) l l', h.2.2.2.2.2.2.1.cg (f 7 (by decide) (by decide)) (e 7 (by decide) (by decide)), h.2.2.2.2.2.2.2.1.cg (f 8 (by decide) (by decide)) (e 8 (by decide) (by decide)), h.2.2.2.2.2.2.2.2.cg (f 9 (by decide) (by decide)) (e 9 (by decide) (by decide))⟩
theorem Rel.text (h : Rel V c b B μ ν) (o : ∀ k j, xC 5 k j = false → gI μ' k j = gI μ k j) (o' : ∀ k j, xM 5 k j = false → gI ν' k j = gI ν k j) (l : ∀ j, gL μ' 4 j = gL μ 4 j) (l' : ∀ j, gL ν' 134 j = gL ν 134 j) (n : Rt μ' ν') : Rel V c b B μ' ν' :=
  have f : ∀ Y, Y ≠ 0 → Y ≠ 5 → ∀ k j, cc k j = Y → gI μ' k j = gI μ k j := fun Y hY hn => xC_at hY hn o
  have e : ∀ Y, Y ≠ 0 → Y ≠ 5 → ∀ k j, mc k j = Y → gI ν' k j = gI ν k j := fun Y hY hn => xM_at hY hn o'
  ⟨h.1.cg (f 1 (by decide) (by decide)) (e 1 (by decide) (by decide)), h.2.1.cg (f 2 (by decide) (by decide)) (e 2 (by decide) (by decide)), h.2.2.1.cg (f 3 (by decide) (by decide)) (e 3 (by decide) (by decide)), h.2.2.2.1.cg (f 4 (by decide) (by decide)) (e 4 (by decide) (by decide)), n, h.2.2.2.2.2.1.cg (f 6 (by decide) (by decide)) (e 6 (by decide) (by decide)) l l', h.2.2.2.2.2.2.1.cg (f 7 (by decide) (by decide)) (e 7 (by decide) (by decide)), h.2.2.2.2.2.2.2.1.cg (f 8 (by decide) (by decide)) (e 8 (by decide) (by decide)), h.2.2.2.2.2.2.2.2.cg (f 9 (by decide) (by decide)) (e 9 (by decide) (by decide))⟩
theorem Rel.row (h : Rel V c b B μ ν) (o : ∀ k j, xC 6 k j = false → gI μ' k j = gI μ k j) (o' : ∀ k j, xM 6 k j = false → gI ν' k j = gI ν k j) (n : Rr μ' ν') : Rel V c b B μ' ν' :=
  have f : ∀ Y, Y ≠ 0 → Y ≠ 6 → ∀ k j, cc k j = Y → gI μ' k j = gI μ k j := fun Y hY hn => xC_at hY hn o
  have e : ∀ Y, Y ≠ 0 → Y ≠ 6 → ∀ k j, mc k j = Y → gI ν' k j = gI ν k j := fun Y hY hn => xM_at hY hn o'
  ⟨h.1.cg (f 1 (by decide) (by decide)) (e 1 (by decide) (by decide)), h.2.1.cg (f 2 (by decide) (by decide)) (e 2 (by decide) (by decide)), h.2.2.1.cg (f 3 (by decide) (by decide)) (e 3 (by decide) (by decide)), h.2.2.2.1.cg (f 4 (by decide) (by decide)) (e 4 (by decide) (by decide)), h.2.2.2.2.1.cg (f 5 (by decide) (by decide)) (e 5 (by decide) (by decide)), n, h.2.2.2.2.2.2.1.cg (f 7 (by decide) (by decide)) (e 7 (by decide) (by decide)), h.2.2.2.2.2.2.2.1.cg (f 8 (by decide) (by decide)) (e 8 (by decide) (by decide)), h.2.2.2.2.2.2.2.2.cg (f 9 (by decide) (by decide)) (e 9 (by decide) (by decide))⟩
theorem Rel.past (h : Rel V c b B μ ν) (o : ∀ k j, xC 7 k j = false → gI μ' k j = gI μ k j) (o' : ∀ k j, xM 7 k j = false → gI ν' k j = gI ν k j) (l : ∀ j, gL μ' 4 j = gL μ 4 j) (l' : ∀ j, gL ν' 134 j = gL ν 134 j) (n : Rp c B μ' ν') : Rel V c b B μ' ν' :=
  have f : ∀ Y, Y ≠ 0 → Y ≠ 7 → ∀ k j, cc k j = Y → gI μ' k j = gI μ k j := fun Y hY hn => xC_at hY hn o
  have e : ∀ Y, Y ≠ 0 → Y ≠ 7 → ∀ k j, mc k j = Y → gI ν' k j = gI ν k j := fun Y hY hn => xM_at hY hn o'
  ⟨h.1.cg (f 1 (by decide) (by decide)) (e 1 (by decide) (by decide)), h.2.1.cg (f 2 (by decide) (by decide)) (e 2 (by decide) (by decide)), h.2.2.1.cg (f 3 (by decide) (by decide)) (e 3 (by decide) (by decide)), h.2.2.2.1.cg (f 4 (by decide) (by decide)) (e 4 (by decide) (by decide)), h.2.2.2.2.1.cg (f 5 (by decide) (by decide)) (e 5 (by decide) (by decide)), h.2.2.2.2.2.1.cg (f 6 (by decide) (by decide)) (e 6 (by decide) (by decide)) l l', n, h.2.2.2.2.2.2.2.1.cg (f 8 (by decide) (by decide)) (e 8 (by decide) (by decide)), h.2.2.2.2.2.2.2.2.cg (f 9 (by decide) (by decide)) (e 9 (by decide) (by decide))⟩
theorem Rel.kept (h : Rel V c b B μ ν) (o : ∀ k j, xC 8 k j = false → gI μ' k j = gI μ k j) (o' : ∀ k j, xM 8 k j = false → gI ν' k j = gI ν k j) (l : ∀ j, gL μ' 4 j = gL μ 4 j) (l' : ∀ j, gL ν' 134 j = gL ν 134 j) (n : Rk c B μ' ν') : Rel V c b B μ' ν' :=
  have f : ∀ Y, Y ≠ 0 → Y ≠ 8 → ∀ k j, cc k j = Y → gI μ' k j = gI μ k j := fun Y hY hn => xC_at hY hn o
  have e : ∀ Y, Y ≠ 0 → Y ≠ 8 → ∀ k j, mc k j = Y → gI ν' k j = gI ν k j := fun Y hY hn => xM_at hY hn o'
  ⟨h.1.cg (f 1 (by decide) (by decide)) (e 1 (by decide) (by decide)), h.2.1.cg (f 2 (by decide) (by decide)) (e 2 (by decide) (by decide)), h.2.2.1.cg (f 3 (by decide) (by decide)) (e 3 (by decide) (by decide)), h.2.2.2.1.cg (f 4 (by decide) (by decide)) (e 4 (by decide) (by decide)), h.2.2.2.2.1.cg (f 5 (by decide) (by decide)) (e 5 (by decide) (by decide)), h.2.2.2.2.2.1.cg (f 6 (by decide) (by decide)) (e 6 (by decide) (by decide)) l l', h.2.2.2.2.2.2.1.cg (f 7 (by decide) (by decide)) (e 7 (by decide) (by decide)), n, h.2.2.2.2.2.2.2.2.cg (f 9 (by decide) (by decide)) (e 9 (by decide) (by decide))⟩
theorem w22_sc {k j : Nat} (h : w22 k j = true) : scC k j = true := by
  unfold w22 at h
  rw [Bool.or_eq_true] at h
  rcases h with h | h <;> (rw [beq_iff_eq] at h; subst h; rfl)
theorem w137_sc {k j : Nat} (h : w137 k j = true) : scM k j = true := by
  unfold w137 at h
  simp only [Bool.or_eq_true, Bool.and_eq_true, beq_iff_eq] at h
  rcases h with h | ⟨rfl, h⟩
  · subst h; rfl
  · rcases h with (⟨h1, h2⟩ | h) | h
    · have a := Nat.le_of_ble_eq_true h1
      have b := Nat.le_of_ble_eq_true h2
      obtain h | h | h | h | h : j = 18 ∨ j = 19 ∨ j = 20 ∨ j = 21 ∨ j = 22 := by omega
      all_goals (subst h; rfl)
    · subst h; rfl
    · subst h; rfl
end
end Pure1
