section Pure10
variable {V : VT} {c b B : Nat} {μ ν : Mem}
theorem lt100 {n : Nat} (hn : n < 2 ^ 31) : nI n < 100 ↔ n < 100 := by
  rw [show (100 : Int32) = nI 100 from rfl, nI_ltI hn (by decide)]
theorem PFN_lt (h : Rel V c b B μ ν) (x : Int32) (n : Nat) : PFN μ x n 0 b < 1000 := by
  have h8 := h.b8
  have := PFN_le h x n b 0 (by omega)
  omega
theorem cTill (h : Rel V c b B μ ν) (x : Int32) {k : Nat} (hk : k ≤ 99) (hk1 : ∀ i, i ≤ k → 100 ≤ PFN μ x i 0 b) (hk2 : PFN μ x (k + 1) 0 b < 100) : ∀ (m f n : Nat), n + m = 100 → m < f → fX11_till_0_b33 f x (if n = 0 then -2 else nI (min (n - 1) k)) (nI n) μ = some (nI k, μ) := by
  intro m
  induction m with
  | zero =>
    intro f n h1 h2
    obtain ⟨f, rfl⟩ := Nat.exists_eq_succ_of_ne_zero (show f ≠ 0 by omega)
    rw [fX11_till_0_b33, if_pos (show (99 : Int32) < nI n from nI_lt (a := 99) (by omega) (by omega)), if_neg (by omega), show min (n - 1) k = k by omega]
  | succ m ih =>
    intro f n h1 h2
    obtain ⟨f, rfl⟩ := Nat.exists_eq_succ_of_ne_zero (show f ≠ 0 by omega)
    have hl := PFN_lt h x n
    rw [fX11_till_0_b33, if_neg (show ¬ (99 : Int32) < nI n from nI_nlt (a := 99) (by omega) (by omega)), c_proof_33 h, bnd_e, PF_nat h x (show n ≤ 100 by omega), nI_1]
    by_cases q : n ≤ k
    · have a := hk1 n q
      rw [if_neg (fun e => by rw [lt100 (by omega)] at e; omega)]
      have := ih f (n + 1) (by omega) (by omega)
      rw [if_neg (by omega), show min (n + 1 - 1) k = n by omega] at this
      exact this
    · have a := PFN_anti (μ := μ) x (show k + 1 ≤ n by omega) b 0
      rw [if_pos ((lt100 (by omega)).mpr (by omega))]
      have := ih f (n + 1) (by omega) (by omega)
      rw [if_neg (by omega), show min (n + 1 - 1) k = k by omega] at this
      rw [if_neg (by omega), show min (n - 1) k = k by omega]
      exact this
theorem cTill2 (h : Rel V c b B μ ν) (x : Int32) (h0 : PFN μ x 0 0 b < 100) : ∀ (m f n : Nat), n + m = 100 → m < f → fX11_till_0_b33 f x (-2) (nI n) μ = some (-2, μ) := by
  intro m
  induction m with
  | zero =>
    intro f n h1 h2
    obtain ⟨f, rfl⟩ := Nat.exists_eq_succ_of_ne_zero (show f ≠ 0 by omega)
    rw [fX11_till_0_b33, if_pos (show (99 : Int32) < nI n from nI_lt (a := 99) (by omega) (by omega))]
  | succ m ih =>
    intro f n h1 h2
    obtain ⟨f, rfl⟩ := Nat.exists_eq_succ_of_ne_zero (show f ≠ 0 by omega)
    have a := PFN_anti (μ := μ) x (show 0 ≤ n by omega) b 0
    rw [fX11_till_0_b33, if_neg (show ¬ (99 : Int32) < nI n from nI_nlt (a := 99) (by omega) (by omega)), c_proof_33 h, bnd_e, PF_nat h x (show n ≤ 100 by omega), nI_1, if_pos ((lt100 (by omega)).mpr (by omega))]
    exact ih f (n + 1) (by omega) (by omega)
theorem mTill (h : Rel V c b B μ ν) (x : Int32) {k : Nat} (hk : k ≤ 99) (hk1 : ∀ i, i ≤ k → 100 ≤ PFN μ x i 0 b) (hk2 : PFN μ x (k + 1) 0 b < 100) : ∀ (m f n : Nat), n + m = k → m < f → fX12_till_122_b54 f x (nI n) ν = some (nI k, ν) := by
  intro m
  induction m with
  | zero =>
    intro f n h1 h2
    obtain ⟨f, rfl⟩ := Nat.exists_eq_succ_of_ne_zero (show f ≠ 0 by omega)
    obtain rfl : n = k := by omega
    rw [fX12_till_122_b54, nI_1, m_proof_123 h h.hl0, bnd_e, PF_nat h x (show n + 1 ≤ 100 by omega), if_pos ((lt100 (by omega)).mpr hk2)]
  | succ m ih =>
    intro f n h1 h2
    obtain ⟨f, rfl⟩ := Nat.exists_eq_succ_of_ne_zero (show f ≠ 0 by omega)
    have a := hk1 (n + 1) (by omega)
    have hl := PFN_lt h x (n + 1)
    rw [fX12_till_122_b54, nI_1, m_proof_123 h h.hl0, bnd_e, PF_nat h x (show n + 1 ≤ 100 by omega), if_neg (fun e => by rw [lt100 (by omega)] at e; omega)]
    exact ih f (n + 1) (by omega) (by omega)
theorem first_drop (f : Nat → Nat) (h0 : 100 ≤ f 0) : ∀ m, f m < 100 → (∀ i j, i ≤ j → f j ≤ f i) → ∃ k, k < m ∧ (∀ i, i ≤ k → 100 ≤ f i) ∧ f (k + 1) < 100
  | 0, h, _ => by omega
  | m + 1, h, ha => by
    by_cases q : f m < 100
    · obtain ⟨k, h1, h2⟩ := first_drop f h0 m q ha
      exact ⟨k, by omega, h2⟩
    · exact ⟨m, by omega, fun i hi => by have := ha i m hi; omega, h⟩
theorem pr_till (h : Rel V c b B μ ν) (v : Int32) : Pr V c b B (fX11_till_0 v μ) (fX12_till_122 v ν) := by
  unfold fX11_till_0 fX12_till_122
  have h1 := m17 h 0
  rw [lt_e]
  rcases man_or h1 v with ⟨e1, e2, -, -⟩ | ⟨p, hp, rfl, e1, e2, -, -⟩
  · simp only [e1, e2, bnd_e, if_pos]
    exact pr_end h1 _
  · rw [e1, e2, bnd_e, bnd_e, if_neg n10, if_neg n10, show fX12_proofIn_122_123 (nI p) 0 (sI ν 122 17 0) = _ from m_proof_123 h1 h1.hl0 (nI p) (nI 0), show (99 : Int32) = nI 99 from rfl, c_proof_33 h, bnd_e, bnd_e]
    rw [show fX12_proofIn_122_123 (nI p) 100 (sI ν 122 17 0) = _ from m_proof_123 h1 h1.hl0 (nI p) (nI 100), bnd_e, PF_nat h _ (show 99 ≤ 100 by omega), PF_nat h _ (show 0 ≤ 100 by omega), PF_nat h _ (show 100 ≤ 100 by omega), PFN_99 h _ b 0 (by omega)]
    have l0 := PFN_lt h (nI p) 0
    have l9 := PFN_lt h (nI p) 99
    have a9 := PFN_anti (μ := μ) (nI p) (show 0 ≤ 99 by omega) b 0
    by_cases q0 : PFN μ (nI p) 0 0 b < 100
    · have z9 : nI (PFN μ (nI p) 99 0 b) < 100 := (lt100 (by omega)).mpr (by omega)
      have z0 : ¬ 100 ≤ nI (PFN μ (nI p) 0 0 b) := i_nle.mpr ((lt100 (by omega)).mpr q0)
      rw [if_pos z9, if_neg z0, show fX11_till_0_b33 FU (nI p) (-2) 0 μ = _ from cTill2 h (nI p) q0 100 FU 0 rfl (by decide)]
      exact pr_end h1 _
    · have z0 : 100 ≤ nI (PFN μ (nI p) 0 0 b) := i_nlt.mp (fun e => q0 ((lt100 (by omega)).mp e))
      rw [if_pos z0]
      by_cases q9 : PFN μ (nI p) 99 0 b < 100
      · have z9 : nI (PFN μ (nI p) 99 0 b) < 100 := (lt100 (by omega)).mpr q9
        obtain ⟨k, k1, k2, k3⟩ := first_drop (fun n => PFN μ (nI p) n 0 b) (by omega) 99 q9 (fun i j hij => PFN_anti (nI p) hij b 0)
        rw [if_pos z9, if_pos z9, show fX11_till_0_b33 FU (nI p) (-2) 0 μ = _ from cTill h (nI p) (show k ≤ 99 by omega) k2 k3 100 FU 0 rfl (by decide), show fX12_till_122_b54 FU (nI p) 0 (sI ν 122 17 0) = _ from mTill h1 (nI p) (show k ≤ 99 by omega) k2 k3 k FU 0 (by omega) (fu_lt (by omega))]
        exact pr_end h1 _
      · have z9 : ¬ nI (PFN μ (nI p) 99 0 b) < 100 := fun e => q9 ((lt100 (by omega)).mp e)
        rw [if_neg z9, if_neg z9]
        exact pr_end h1 _
theorem c_has {p : Nat} (hp : p < 6) {k : Nat} (hk : k < 4) (who : Int32) : fX2_has_24 (nI p) (nI (2 + k)) who μ = some (if gI μ 25 k = who then WO μ (gI μ 10 p) else 0, μ) := by
  unfold fX2_has_24
  have e : nI (2 + k) - 2 = nI k := by rw [show (2 : Int32) = nI 2 from rfl, nI_sub (by omega) (by omega), show 2 + k - 2 = k by omega]
  rw [lt_e, e, if_neg (nI_pos (by omega)), if_neg (show ¬ (4 : Int32) ≤ nI k from nI_ge (b := 4) hk (by decide)), gd_in hk (by decide), ix_nI (by omega)]
  unfold fX2_has_24_b31 fX2_has_24_b32
  by_cases q : gI μ 25 k = who
  · rw [if_pos q, if_pos q, if_neg n10, gd_in hp (by decide), ix_nI (by omega), c_worth, bnd_e]
  · rw [if_neg q, if_neg q, if_pos rfl]
def HH (μ : Mem) (p k : Nat) : Int32 := if gI μ 25 k = 1 then 0 else WO μ (gI μ 10 p)
theorem c_heir (h : Rel V c b B μ ν) {p : Nat} (hp : p < 6) {k : Nat} (hk : k < 4) {v : Int32} (hv : v = nI (2 + k)) : fX2_heAndHeir_24 (nI p) v μ = some (HH μ p k, μ) := by
  subst hv
  unfold fX2_heAndHeir_24 HH
  rw [c_has hp hk, bnd_e, c_has hp hk, bnd_e]
  obtain ⟨s, hs, e⟩ := h.ends3 hk
  rw [e]
  obtain rfl | rfl | rfl : s = 0 ∨ s = 1 ∨ s = 2 := by omega
  · rw [if_pos (by decide), if_neg (by decide), if_neg (by decide), Int32.add_zero]
  · rw [if_neg (by decide), if_neg (by decide), if_pos (by decide), Int32.add_zero]
  · rw [if_neg (by decide), if_pos (by decide), if_neg (by decide), Int32.zero_add]
theorem m_whose (h : Rel V c b B μ ν) {k : Nat} (hk : k < 4) {v : Int32} (hv : v = nI (2 + k)) : fX12_whose_122 v ν = some (gI μ 25 k, ν) := by
  subst hv
  unfold fX12_whose_122
  have e : nI (2 + k) - 2 = nI k := by rw [show (2 : Int32) = nI 2 from rfl, nI_sub (by omega) (by omega), show 2 + k - 2 = k by omega]
  rw [e, gd_in hk (by decide), ix_nI (by omega), h.ends hk]
theorem m_theirs (h : Rel V c b B μ ν) {p : Nat} (hp : p < c) {k : Nat} (hk : k < 4) {v : Int32} (hv : v = nI (2 + k)) : fX12_theirs_122 (nI p) v ν = some (HH μ p k, ν) := by
  have h6 := h.c6
  unfold fX12_theirs_122 HH
  rw [m_whose h hk hv, bnd_e]
  by_cases q : gI μ 25 k = 1
  · rw [if_pos q, if_pos q]
  · rw [if_neg q, if_neg q, gd_in (by omega) (by decide), ix_nI (by omega), h.goods hp, m_worth h, bnd_e]
theorem pr_gains (h : Rel V c b B μ ν) (v v2 : Int32) : Pr V c b B (fX11_gains_0 v v2 μ) (fX12_gains_122 v v2 ν) := by
  unfold fX11_gains_0 fX12_gains_122
  have h1 := m17 h 0
  have h6 := h.c6
  rw [lt_e]
  rcases man_or h1 v with ⟨e1, e2, -, -⟩ | ⟨p, hp, rfl, e1, e2, -, -⟩
  · simp only [e1, e2, bnd_e, if_pos]
    exact pr_end h1 _
  · simp (disch := omega) only [e1, e2, bnd_e, gd_in, ix_nI, c_sil_33, st_33 h1.hl0, n10, if_false, m_in]
    rcases rng_or v2 0 60 (lo := 0) (hi := 60) rfl rfl (by decide) (by decide) with ⟨q1, q2⟩ | ⟨q1, q3, q2⟩ | ⟨n, hn1, hn2, rfl, a1, a2, a3⟩
    · simp only [if_pos q1, if_pos q2, if_true]
      exact pr_end h1 _
    · simp only [if_neg q1, if_neg q3, if_pos q2, if_true]
      exact pr_end h1 _
    · simp only [if_neg a1, if_pos a2, if_neg a3, n10, if_false]
      by_cases es : gI μ 34 p = 0
      · simp only [if_pos es, n10, if_false]
        rw [c_verdict h, bnd_e, m_proof_123 h1 h1.hl0, bnd_e, m_ending, bnd_e]
        have hv : ∃ k, k < 4 ∧ (if PF_33 b μ (nI p) (nI n) < 100 then (3 : Int32) else 4) = nI (2 + k) := by
          by_cases q : PF_33 b μ (nI p) (nI n) < 100
          · exact ⟨1, by omega, by rw [if_pos q]; rfl⟩
          · exact ⟨2, by omega, by rw [if_neg q]; rfl⟩
        obtain ⟨k, hk, hv⟩ := hv
        rw [c_heir h (show p < 6 by omega) hk hv, m_theirs h1 hp hk hv, bnd_e, bnd_e, c_heir h (show p < 6 by omega) (show 3 < 4 by omega) (v := 5) rfl, m_theirs h1 hp (show 3 < 4 by omega) (v := 5) rfl, bnd_e, bnd_e, lt_e]
        refine sm_L (c_tell2 _ _) (fun _ μ2 t => ?_)
        refine sm_R (m_tell (TM.nil _) (by decide) _) (fun _ ν2 t2 => ?_)
        refine sm_R (m_tell t2 (by simp) _) (fun _ ν3 t3 => ?_)
        exact pr_end (h1.tell t t3 (by simp)) _
      · simp only [if_neg es, if_true]
        exact pr_end h1 _
theorem c_lack (h : Rel V c b B μ ν) (x k : Int32) : fX4_lackIn_33 x k μ = some (imax 0 (100 - PF_33 b μ x k), μ) := by
  unfold fX4_lackIn_33
  rw [c_proof_33 h, bnd_e]
theorem m_lack (h : Rel V c b B μ ν) (x k : Int32) : fX12_lackOf_122 x k ν = some (imax 0 (100 - PF_33 b μ x k), ν) := by
  unfold fX12_lackOf_122
  rw [m_proof_123 h h.hl0, bnd_e]
theorem cLack (h : Rel V c b B μ ν) (k : Int32) {p : Nat} (hp : p < c) : ∀ (m f n : Nat) (a : Int32), n + m = c → m < f → Pr V c b B (fX11_lacks_0_b36 f k (imax 0 (100 - PF_33 b μ (nI p) k)) a (nI n) μ) (fX12_lacks_122_b30 f (nI p) k a (nI n) ν) := by
  have h6 := h.c6
  intro m
  induction m with
  | zero =>
    intro f n a h1 h2
    obtain ⟨f, rfl⟩ := Nat.exists_eq_succ_of_ne_zero (show f ≠ 0 by omega)
    have e : nI c ≤ nI n := nI_le (by omega) (by omega)
    rw [fX11_lacks_0_b36, fX12_lacks_122_b30, h.men, h.menM, if_pos e, if_pos e, lt_e]
    refine sm_L (c_tell1 _) (fun _ μ2 t => ?_)
    refine sm_R (m_tell (TM.nil _) (by decide) _) (fun _ ν2 t2 => ?_)
    have hR := h.tell t t2 (by simp)
    rw [m_lack hR, bnd_e]
    have : PF_33 b μ2 (nI p) k = PF_33 b μ (nI p) k := by
      unfold PF_33
      exact PFs_cg _ _ b 0 0 (fun i _ => ⟨t.1 12 i rfl, t.1 37 i rfl, t.1 14 i rfl⟩)
    rw [this]
    exact pr_end hR _
  | succ m ih =>
    intro f n a h1 h2
    obtain ⟨f, rfl⟩ := Nat.exists_eq_succ_of_ne_zero (show f ≠ 0 by omega)
    have e : ¬ nI c ≤ nI n := nI_ge (by omega) (by omega)
    rw [fX11_lacks_0_b36, fX12_lacks_122_b30, h.men, h.menM, if_neg e, if_neg e]
    simp (disch := omega) only [gd_in, ix_nI, st_33 h.hl0, c_lack h, m_lack h, bnd_e, lt_e, nI_1, Int32.add_zero]
    by_cases ep : nI n = nI p
    · rw [ep, if_pos rfl]
      have a1 : imax 0 (100 - PF_33 b μ (nI p) k) ≤ imax 0 (100 - PF_33 b μ (nI p) k) := by rw [i_le]; omega
      rw [if_pos a1]
      have := ih f (n + 1) a (by omega) (by omega)
      by_cases e2 : gI μ 34 n = 2
      · rw [if_pos e2]; exact this
      · rw [if_neg e2]; exact this
    · rw [if_neg ep]
      by_cases e2 : gI μ 34 n = 2
      · rw [if_pos e2, if_pos e2]
        exact ih f (n + 1) a (by omega) (by omega)
      · rw [if_neg e2, if_neg e2]
        by_cases e3 : imax 0 (100 - PF_33 b μ (nI n) k) ≤ imax 0 (100 - PF_33 b μ (nI p) k)
        · rw [if_pos e3, if_pos e3]
          exact ih f (n + 1) a (by omega) (by omega)
        · rw [if_neg e3, if_neg e3]
          exact ih f (n + 1) _ (by omega) (by omega)
theorem pr_lacks (h : Rel V c b B μ ν) (v v2 : Int32) : Pr V c b B (fX11_lacks_0 v v2 μ) (fX12_lacks_122 v v2 ν) := by
  unfold fX11_lacks_0 fX12_lacks_122
  have h1 := m17 h 0
  have h6 := h.c6
  rw [lt_e]
  rcases man_or h1 v with ⟨e1, e2, -, -⟩ | ⟨p, hp, rfl, e1, e2, -, -⟩
  · simp only [e1, e2, bnd_e, if_pos]
    exact pr_end h1 _
  · rw [e1, e2, bnd_e, bnd_e, if_neg n10, if_neg n10, m_in, bnd_e, c_lack h, bnd_e]
    rcases rng_or v2 0 99 (lo := 0) (hi := 99) rfl rfl (by decide) (by decide) with ⟨q1, q2⟩ | ⟨q1, q3, q2⟩ | ⟨n, hn1, hn2, rfl, a1, a2, a3⟩
    · rw [if_pos q1, if_pos q2, if_pos rfl]
      exact pr_end h1 _
    · rw [if_neg q1, if_neg q3, if_pos q2, if_pos rfl]
      exact pr_end h1 _
    · rw [if_neg a1, if_pos a2, if_neg a3, if_neg n10]
      exact cLack h1 (nI n) hp c FU 0 0 (by omega) (fu_lt (by omega))
end Pure10
