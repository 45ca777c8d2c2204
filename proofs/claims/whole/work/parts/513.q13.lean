section Pure13
variable {V : VT} {c b B : Nat} {μ ν : Mem}
def PrL (V : VT) (c b B : Nat) (o1 : Option (Int32 × Mem)) (o2 : Option (Int64 × Mem)) : Prop := Sm (fun r μ' r' ν' => gI ν' 122 17 = r ∧ (r = 0 ∨ r = 1) ∧ (r = 0 → gL μ' 149 0 = r') ∧ Rel V c b B μ' ν') o1 o2
theorem in_cnt {k : Nat} (hk : k < 2 ^ 30) {v : Int32} (hv : ¬ v < 0) : (¬ v < nI k ∧ (v < 0 ∨ nI k - 1 < v)) ∨ (∃ j, j < k ∧ v = nI j ∧ v < nI k ∧ ¬ (v < 0 ∨ nI k - 1 < v)) := by
  obtain ⟨j, hj, rfl⟩ := nI_of hv
  by_cases q1 : j < k
  · right
    refine ⟨j, q1, rfl, nI_lt q1 (by omega), ?_⟩
    rintro (q | q)
    · exact hv q
    · obtain ⟨k, rfl⟩ := Nat.exists_eq_succ_of_ne_zero (show k ≠ 0 by omega)
      rw [nI_pred] at q
      exact (nI_nlt (by omega) (by omega)) q
  · left
    refine ⟨nI_nlt (by omega) (by omega), Or.inr ?_⟩
    by_cases hc : k = 0
    · subst hc
      rw [i_lt, nI_toInt hj]
      have : (nI 0 - 1 : Int32).toInt = -1 := by decide
      omega
    · obtain ⟨k, rfl⟩ := Nat.exists_eq_succ_of_ne_zero hc
      rw [nI_pred]
      exact nI_lt (by omega) hj
theorem prl_lost (h : Rel V c b B μ ν) : PrL V c b B (some (1, μ)) (bnd (fX12_lost_122 ν) fun r m => some (Int32.toInt64 r, m)) := by
  unfold fX12_lost_122
  exact sm_end ⟨rfl, Or.inr rfl, fun q => absurd q n10, m17 h 1⟩
theorem pr_row (h : Rel V c b B μ ν) (v : Int32) : PrL V c b B (fH_row v μ) (fX12_row_122 v ν) := by
  have h1 := m17 h 0
  have z : gI (sI ν 122 17 0) 122 17 = 0 := by rw [gI_sI, if_pos ⟨rfl, rfl⟩]
  obtain ⟨k, hk8, hk, hkM, hr⟩ := h1.2.2.2.2.2.1
  unfold fH_row fX11_row_0 fX12_row_122
  rw [lt_e, hk, hkM, m_in, bnd_e]
  by_cases q0 : v < 0
  · rw [if_pos q0, if_pos (Or.inl q0), if_pos rfl]
    exact prl_lost h1
  · rw [if_neg q0]
    rcases in_cnt (show k < 2 ^ 30 by omega) q0 with ⟨a1, a2⟩ | ⟨j, hj, rfl, a1, a2⟩
    · rw [if_neg a1, if_pos a2, if_pos rfl]
      exact prl_lost h1
    · rw [if_pos a1, if_neg a2, if_neg n10, gd_in (by omega) (by decide), gd_in (by omega) (by decide), ix_nI (by omega), hr j hj]
      exact sm_end ⟨z, Or.inl rfl, fun _ => by rw [gL_sL, if_pos ⟨rfl, rfl⟩], h1.out _⟩
theorem pr_ends (h : Rel V c b B μ ν) (hB : B + 1000 < 2 ^ 30) (v : Int32) : Pr V c b B (fX11_ends_0 v μ) (fX12_ends_122 v ν) := by
  have h1 := m17 h 0
  obtain ⟨d, hdB, hd⟩ := dayB_33 h.hl0
  unfold fX11_ends_0 fX12_ends_122
  simp only [lt_e, in26, ix26, gd_e, day_33 h1.hl0, h1.endM, hd]
  by_cases q : v ≤ nI d
  · rw [if_pos q, if_pos q]
    exact pr_end h1 _
  · rw [if_neg q, if_neg q]
    by_cases q2 : v ≤ 99
    · rw [if_pos q2, if_pos q2]
      have q3 := q
      have q4 := q2
      rw [i_le, nI_toInt (by omega)] at q3
      rw [i_le, show (99 : Int32).toInt = 99 from rfl] at q4
      have hv : ¬ v < 0 := by rw [i_lt, Int32.toInt_zero]; omega
      obtain ⟨j, hj, rfl⟩ := nI_of hv
      rw [nI_toInt hj] at q3 q4
      refine sm_end ⟨rfl, h1.estate (fun k j q => ?_) (fun k j q => ?_) (fun _ => rfl) (fun _ => rfl) ⟨fun g hg => ?_, fun e he => ?_, ?_, j, by omega, by omega, ?_⟩⟩
      · rw [gI_sI, if_neg]
        rintro ⟨rfl, rfl⟩
        exact Bool.noConfusion q
      · rw [gI_sI, if_neg]
        rintro ⟨rfl, rfl⟩
        exact Bool.noConfusion q
      · exact h1.2.2.1.1 g hg
      · exact h1.2.2.1.2.1 e he
      · rw [gI_sI, if_pos ⟨rfl, rfl⟩, gI_sI, if_pos ⟨rfl, rfl⟩]
      · rw [gI_sI, if_pos ⟨rfl, rfl⟩]
    · rw [if_neg q2, if_neg q2]
      exact pr_end h1 _
def JG (a b x y : Int32) : Int32 := if a ≤ b then 0 - y * a else x - y * a
def PG (a b x y : Int32) : Int32 := if b < a then 0 - y * b else x - y * b
theorem c_J (a b x y : Int32) : fX11_ofJudge a b x y μ = some (JG a b x y, μ) := by
  unfold fX11_ofJudge JG
  by_cases q : a ≤ b
  · rw [if_pos q, if_pos q]
  · rw [if_neg q, if_neg q]
theorem m_J (a b x y : Int32) : fX12_judgeGets a b x y μ = some (JG a b x y, μ) := by
  unfold fX12_judgeGets JG
  by_cases q : a ≤ b
  · rw [if_neg (i_nlt.mpr q), if_pos q]
  · rw [if_pos (i_nle.mp q), if_neg q]
theorem c_P (a b x y : Int32) : fX11_ofPrisoner a b x y μ = some (PG a b x y, μ) := by
  unfold fX11_ofPrisoner PG
  by_cases q : b < a
  · rw [if_pos q, if_pos q]
  · rw [if_neg q, if_neg q]
theorem m_P (a b x y : Int32) : fX12_manGets a b x y μ = some (PG a b x y, μ) := by
  unfold fX12_manGets PG
  by_cases q : b < a
  · rw [if_pos q, if_pos q]
  · rw [if_neg q, if_neg q]
def RSs (a b x y : Int32) : Nat → Nat → Int32
  | _, 0 => 1
  | n, m + 1 => if JG a b x y < JG (nI n) b x y then 0 else if PG a (nI n) x y ≤ PG a b x y then RSs a b x y (n + 1) m else 0
theorem cRS (a b x y : Int32) : ∀ (m f n : Nat), n + m = 10 → m < f → fX11_isAtRest_b21 f a b x y (JG a b x y) (PG a b x y) (nI n) μ = some (RSs a b x y n m, μ) := by
  intro m
  induction m with
  | zero =>
    intro f n h1 h2
    obtain ⟨f, rfl⟩ := Nat.exists_eq_succ_of_ne_zero (show f ≠ 0 by omega)
    rw [fX11_isAtRest_b21, if_pos (show (10 : Int32) ≤ nI n from nI_le (a := 10) (by omega) (by omega))]
    rfl
  | succ m ih =>
    intro f n h1 h2
    obtain ⟨f, rfl⟩ := Nat.exists_eq_succ_of_ne_zero (show f ≠ 0 by omega)
    rw [fX11_isAtRest_b21, if_neg (show ¬ (10 : Int32) ≤ nI n from nI_ge (b := 10) (by omega) (by omega)), c_J, bnd_e, RSs]
    by_cases q : JG a b x y < JG (nI n) b x y
    · rw [if_pos q, if_pos q]
    · rw [if_neg q, if_neg q, c_P, bnd_e, nI_1]
      by_cases q2 : PG a (nI n) x y ≤ PG a b x y
      · rw [if_pos q2, if_pos q2]
        exact ih f (n + 1) (by omega) (by omega)
      · rw [if_neg q2, if_neg q2]
theorem mRS (a b x y : Int32) : ∀ (m f n : Nat), n + m = 10 → m < f → fX12_isRest_b3 f a b x y (nI n) μ = some (RSs a b x y n m, μ) := by
  intro m
  induction m with
  | zero =>
    intro f n h1 h2
    obtain ⟨f, rfl⟩ := Nat.exists_eq_succ_of_ne_zero (show f ≠ 0 by omega)
    rw [fX12_isRest_b3, if_pos (show (9 : Int32) < nI n from nI_lt (a := 9) (by omega) (by omega))]
    rfl
  | succ m ih =>
    intro f n h1 h2
    obtain ⟨f, rfl⟩ := Nat.exists_eq_succ_of_ne_zero (show f ≠ 0 by omega)
    rw [fX12_isRest_b3, if_neg (show ¬ (9 : Int32) < nI n from nI_nlt (a := 9) (by omega) (by omega)), m_J, bnd_e, m_J, bnd_e, RSs]
    by_cases q : JG a b x y < JG (nI n) b x y
    · rw [if_neg (i_nle.mpr q), if_pos q]
    · rw [if_pos (i_nlt.mp q), if_neg q, m_P, bnd_e, m_P, bnd_e, nI_1]
      by_cases q2 : PG a (nI n) x y ≤ PG a b x y
      · rw [if_pos q2, if_pos q2]
        exact ih f (n + 1) (by omega) (by omega)
      · rw [if_neg q2, if_neg q2]
def RS (a b x y : Int32) : Int32 := RSs a b x y 0 10
theorem c_rest (a b x y : Int32) : fX11_isAtRest a b x y μ = some (RS a b x y, μ) := by
  unfold fX11_isAtRest
  rw [c_J, bnd_e, c_P, bnd_e]
  exact cRS a b x y 10 FU 0 rfl (by decide)
theorem m_rest (a b x y : Int32) : fX12_isRest a b x y μ = some (RS a b x y, μ) := mRS a b x y 10 FU 0 rfl (by decide)
def RSt (x : Int32) (μ μ' ν ν' : Mem) : Prop := (x = 0 ∧ TC μ μ' [] ∧ TM ν ν' []) ∨ (∃ n, 1 ≤ n ∧ n ≤ 100 ∧ x = nI n ∧ ∃ l, l.length = 2 ∧ TC μ μ' l ∧ TM ν ν' l)
theorem rest_in (h : Rel V c b B μ ν) (p1 p2 : Int32) (i : Nat) (hi : i < 10) {k34 : Int32 → Int32 → Int32 → Int32 → Mem → Option (Int32 × Mem)} {k37 : Int32 → Int32 → Int32 → Int32 → Mem → Option (Int32 × Mem)} (K : ∀ (x : Int32) (μ' ν' : Mem), (∃ n, n ≤ 10 * i + 10 ∧ x = nI n) → RSt x μ μ' ν ν' → Pr V c b B (k34 p1 p2 x (nI (i + 1)) μ') (k37 p1 p2 x (nI (i + 1)) ν')) : ∀ (m f j : Nat) (x : Int32) (μ' ν' : Mem), j + m = 10 → m < f → (∃ n, n ≤ 10 * i + j ∧ x = nI n) → RSt x μ μ' ν ν' → Pr V c b B (fX11_rests_0_b44 k34 f p1 p2 x (nI i) (nI j) μ') (fX12_rests_122_b47 k37 f p1 p2 x (nI i) (nI j) ν') := by
  intro m
  induction m with
  | zero =>
    intro f j x μ' ν' h1 h2 hx hs
    obtain ⟨f, rfl⟩ := Nat.exists_eq_succ_of_ne_zero (show f ≠ 0 by omega)
    rw [fX11_rests_0_b44, fX12_rests_122_b47, if_pos (show (10 : Int32) ≤ nI j from nI_le (a := 10) (by omega) (by omega)), if_pos (show (9 : Int32) < nI j from nI_lt (a := 9) (by omega) (by omega)), nI_1]
    exact K x μ' ν' (by obtain ⟨n, q, e⟩ := hx; exact ⟨n, by omega, e⟩) hs
  | succ m ih =>
    intro f j x μ' ν' h1 h2 hx hs
    obtain ⟨f, rfl⟩ := Nat.exists_eq_succ_of_ne_zero (show f ≠ 0 by omega)
    rw [fX11_rests_0_b44, fX12_rests_122_b47, if_neg (show ¬ (10 : Int32) ≤ nI j from nI_ge (b := 10) (by omega) (by omega)), if_neg (show ¬ (9 : Int32) < nI j from nI_nlt (a := 9) (by omega) (by omega)), c_rest, m_rest, bnd_e, bnd_e, nI_1]
    obtain ⟨n, hn, rfl⟩ := hx
    by_cases q : RS (nI i) (nI j) p1 p2 = 0
    · rw [if_pos q, if_pos q]
      exact ih f (j + 1) _ μ' ν' (by omega) (by omega) ⟨n, by omega, rfl⟩ hs
    · rw [if_neg q, if_neg q, nI_1]
      by_cases q2 : nI n = 0
      · rw [if_pos q2, if_pos q2]
        rcases hs with ⟨-, t, t'⟩ | ⟨n', q3, q4, q5, -⟩
        · have hz : n = 0 := by
            rw [show (0 : Int32) = nI 0 from rfl, nI_eq (by omega) (by decide)] at q2
            exact q2
          refine sm_L (c_tell2 _ _) (fun _ μ2 t2 => ?_)
          refine sm_R (m_tell t' (by simp) _) (fun _ ν2 t3 => ?_)
          refine sm_R (m_tell t3 (by simp) _) (fun _ ν3 t4 => ?_)
          refine ih f (j + 1) _ μ2 ν3 (by omega) (by omega) ⟨n + 1, by omega, rfl⟩ (Or.inr ⟨n + 1, by omega, by omega, rfl, _, ?_, ⟨fun k j q => (t2.1 k j q).trans (t.1 k j q), t2.2⟩, t4⟩)
          rfl
        · rw [q5] at q2
          exact absurd q2 (nI_ne0 (by omega) (by omega))
      · rw [if_neg q2, if_neg q2]
        rcases hs with ⟨q3, -, -⟩ | ⟨n', q3, q4, q5, hl⟩
        · exact absurd q3 q2
        · rw [nI_eq (by omega) (by omega)] at q5
          subst q5
          exact ih f (j + 1) _ μ' ν' (by omega) (by omega) ⟨n + 1, by omega, rfl⟩ (Or.inr ⟨n + 1, by omega, by omega, rfl, hl⟩)
theorem rest_out (h : Rel V c b B μ ν) (p1 p2 : Int32) : ∀ (m f i : Nat) (x : Int32) (μ' ν' : Mem), i + m = 10 → m < f → (∃ n, n ≤ 10 * i ∧ x = nI n) → RSt x μ μ' ν ν' → Pr V c b B (fX11_rests_0_b34 f p1 p2 x (nI i) μ') (fX12_rests_122_b37 f p1 p2 x (nI i) ν') := by
  intro m
  induction m with
  | zero =>
    intro f i x μ' ν' h1 h2 hx hs
    obtain ⟨f, rfl⟩ := Nat.exists_eq_succ_of_ne_zero (show f ≠ 0 by omega)
    rw [fX11_rests_0_b34, fX12_rests_122_b37, if_pos (show (10 : Int32) ≤ nI i from nI_le (a := 10) (by omega) (by omega)), if_pos (show (9 : Int32) < nI i from nI_lt (a := 9) (by omega) (by omega))]
    rcases hs with ⟨-, t, t'⟩ | ⟨n', q3, q4, q5, l, hl, t, t'⟩
    · exact pr_end (h.tell t t' (by simp)) _
    · exact pr_end (h.tell t t' (by omega)) _
  | succ m ih =>
    intro f i x μ' ν' h1 h2 hx hs
    obtain ⟨f, rfl⟩ := Nat.exists_eq_succ_of_ne_zero (show f ≠ 0 by omega)
    rw [fX11_rests_0_b34, fX12_rests_122_b37, if_neg (show ¬ (10 : Int32) ≤ nI i from nI_ge (b := 10) (by omega) (by omega)), if_neg (show ¬ (9 : Int32) < nI i from nI_nlt (a := 9) (by omega) (by omega))]
    refine rest_in h p1 p2 i (by omega) (fun x μ' ν' hx hs => ih f (i + 1) x μ' ν' (by omega) (by omega) (by obtain ⟨n, q, e⟩ := hx; exact ⟨n, by omega, e⟩) hs) 10 FU 0 x μ' ν' rfl (by decide) (by obtain ⟨n, q, e⟩ := hx; exact ⟨n, by omega, e⟩) hs
theorem pr_rests (h : Rel V c b B μ ν) (v v2 : Int32) : Pr V c b B (fX11_rests_0 v v2 μ) (fX12_rests_122 v v2 ν) := by
  have h1 := m17 h 0
  unfold fX11_rests_0 fX12_rests_122
  rw [lt_e, m_in, bnd_e]
  rcases rng_or v 0 99 (lo := 0) (hi := 99) rfl rfl (by decide) (by decide) with ⟨q1, q2⟩ | ⟨q1, q3, q2⟩ | ⟨n, hn1, hn2, rfl, a1, a2, a3⟩
  · rw [if_pos q1, if_pos q2, if_pos rfl]
    exact pr_end h1 _
  · rw [if_neg q1, if_pos (i_nle.mp q3), if_pos q2, if_pos rfl]
    exact pr_end h1 _
  · rw [if_neg a1, if_neg (i_nlt.mpr a2), if_neg a3, if_neg n10, m_in, bnd_e]
    rcases rng_or v2 0 9 (lo := 0) (hi := 9) rfl rfl (by decide) (by decide) with ⟨q1, q2⟩ | ⟨q1, q3, q2⟩ | ⟨k, hk1, hk2, rfl, b1, b2, b3⟩
    · rw [if_pos q1, if_pos q2, if_pos rfl]
      exact pr_end h1 _
    · rw [if_neg q1, if_neg q3, if_pos q2, if_pos rfl]
      exact pr_end h1 _
    · rw [if_neg b1, if_pos b2, if_neg b3, if_neg n10, lt_e]
      refine sm_L c_clear (fun _ μ2 t => ?_)
      exact rest_out h1 _ _ 10 FU 0 _ μ2 _ rfl (by decide) ⟨0, by omega, rfl⟩ (Or.inl ⟨rfl, t, TM.nil _⟩)
end Pure13
