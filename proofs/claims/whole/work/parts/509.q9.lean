section Pure9
variable {V : VT} {c b B : Nat} {μ ν : Mem}
theorem nI_mul (a b : Nat) : nI a * nI b = nI (a * b) := (Int32.ofNat_mul a b).symm
theorem sub_toInt {a b : Nat} (ha : a < 2 ^ 30) (hb : b < 2 ^ 30) : (nI a - nI b).toInt = (a : Int) - b := by
  rw [Int32.toInt_sub, nI_toInt (by omega), nI_toInt (by omega)]
  apply Int.bmod_eq_of_le <;> omega
theorem word_nat {a s n : Nat} (ha : a ≤ 99) (hs : s ≤ 9) (hn : n ≤ 100) : imax 0 (nI a - nI s * nI n) = nI (a - s * n) := by
  have h1 : s * n ≤ 9 * 100 := Nat.mul_le_mul hs hn
  unfold imax
  rw [nI_mul]
  by_cases q : s * n < a
  · have e : nI a - nI (s * n) = nI (a - s * n) := nI_sub (by omega) (by omega)
    rw [e, if_pos]
    rw [show (0 : Int32) = nI 0 from rfl, nI_ltI (by omega) (by omega)]
    omega
  · rw [if_neg, show a - s * n = 0 by omega]
    · rfl
    · rw [i_lt, sub_toInt (by omega) (by omega), Int32.toInt_zero]
      omega
def PFN (μ : Mem) (x : Int32) (n : Nat) : Nat → Nat → Nat
  | _, 0 => 0
  | w, m + 1 => (if gI μ 12 w = x then ix (gI μ 37 w) - ix (gI μ 14 w) * n else 0) + PFN μ x n (w + 1) m
theorem nat_ix {x : Int32} {B : Nat} (hB : B < 2 ^ 31) (h : ∃ s, s ≤ B ∧ x = nI s) : ix x ≤ B ∧ x = nI (ix x) := by
  obtain ⟨s, hs, rfl⟩ := h
  rw [ix_nI (by omega)]
  exact ⟨hs, rfl⟩
theorem PFs_nat (h : Rel V c b B μ ν) (x : Int32) {n : Nat} (hn : n ≤ 100) : ∀ (m w a : Nat), w + m ≤ b → PFs (gI μ 12) (gI μ 37) (gI μ 14) x (nI n) w m (nI a) = nI (a + PFN μ x n w m)
  | 0, _, _, _ => rfl
  | m + 1, w, a, hw => by
    have h8 := h.b8
    obtain ⟨a1, a2⟩ := nat_ix (by decide) (word99_33 h.hl0 (show w < 8 by omega))
    obtain ⟨s1, s2⟩ := nat_ix (by decide) (h.fade9 (show w < b by omega))
    rw [PFs, PFN]
    by_cases e : gI μ 12 w = x
    · rw [if_pos e, if_pos e, a2, s2, word_nat a1 s1 hn, nI_add, PFs_nat h x hn m (w + 1) _ (by omega), ix_nI (by omega), ix_nI (by omega)]
      congr 1
      omega
    · rw [if_neg e, if_neg e, Int32.add_zero, PFs_nat h x hn m (w + 1) _ (by omega)]
      congr 1
      omega
theorem PF_nat (h : Rel V c b B μ ν) (x : Int32) {n : Nat} (hn : n ≤ 100) : PF_33 b μ x (nI n) = nI (PFN μ x n 0 b) := by
  unfold PF_33
  rw [show (0 : Int32) = nI 0 from rfl, PFs_nat h x hn b 0 0 (by omega), Nat.zero_add]
theorem PFN_le (h : Rel V c b B μ ν) (x : Int32) (n : Nat) : ∀ (m w : Nat), w + m ≤ b → PFN μ x n w m ≤ 99 * m
  | 0, _, _ => Nat.le_refl _
  | m + 1, w, hw => by
    have h8 := h.b8
    obtain ⟨a1, a2⟩ := nat_ix (by decide) (word99_33 h.hl0 (show w < 8 by omega))
    have := PFN_le h x n m (w + 1) (by omega)
    rw [PFN]
    by_cases e : gI μ 12 w = x
    · rw [if_pos e]; omega
    · rw [if_neg e]; omega
theorem PFN_anti (x : Int32) {n n' : Nat} (hn : n ≤ n') : ∀ (m w : Nat), PFN μ x n' w m ≤ PFN μ x n w m
  | 0, _ => Nat.le_refl _
  | m + 1, w => by
    have := PFN_anti x hn m (w + 1)
    have q := Nat.mul_le_mul_left (ix (gI μ 14 w)) hn
    rw [PFN, PFN]
    by_cases e : gI μ 12 w = x
    · rw [if_pos e, if_pos e]; omega
    · rw [if_neg e, if_neg e]; omega
theorem PFN_99 (h : Rel V c b B μ ν) (x : Int32) : ∀ (m w : Nat), w + m ≤ b → PFN μ x 100 w m = PFN μ x 99 w m
  | 0, _, _ => rfl
  | m + 1, w, hw => by
    have h8 := h.b8
    obtain ⟨a1, a2⟩ := nat_ix (by decide) (word99_33 h.hl0 (show w < 8 by omega))
    rw [PFN, PFN, PFN_99 h x m (w + 1) (by omega)]
    by_cases e : gI μ 12 w = x
    · rw [if_pos e, if_pos e]
      by_cases q : ix (gI μ 14 w) = 0
      · rw [q]
      · have : 1 * 99 ≤ ix (gI μ 14 w) * 99 := Nat.mul_le_mul_right 99 (by omega)
        omega
    · rw [if_neg e, if_neg e]
def SPs (μ : Mem) (x k : Int32) : Nat → Nat → Int32 → Int32
  | _, 0, a => a
  | w, m + 1, a => SPs μ x k (w + 1) m (a + (if gI μ 12 w = x then (if imax 0 (gI μ 37 w - gI μ 14 w * k) ≤ 0 then 0 else 1) else 0))
theorem cSP (hw : gI μ 11 3 = nI b) (hb : b ≤ 8) (x k : Int32) : ∀ (m n w : Nat) (a : Int32), w + m = b → m < n → fX4_speakersIn_33_b5 n x k a (nI w) μ = some (SPs μ x k w m a, μ) := by
  intro m
  induction m with
  | zero =>
    intro n w a h1 h2
    obtain ⟨n, rfl⟩ := Nat.exists_eq_succ_of_ne_zero (show n ≠ 0 by omega)
    rw [fX4_speakersIn_33_b5, hw, if_pos (nI_le (by omega) (by omega))]
    rfl
  | succ m ih =>
    intro n w a h1 h2
    obtain ⟨n, rfl⟩ := Nat.exists_eq_succ_of_ne_zero (show n ≠ 0 by omega)
    rw [fX4_speakersIn_33_b5, hw, if_neg (nI_ge (by omega) (by omega))]
    simp (disch := omega) only [gd_in, ix_nI, fX4_wordIn_33, bnd_e, lt_e, nI_1, SPs]
    rw [ih n (w + 1) _ (by omega) (by omega), ih n (w + 1) _ (by omega) (by omega)]
    by_cases e : gI μ 12 w = x
    · rw [if_pos e, if_pos e]
      by_cases e2 : imax 0 (gI μ 37 w - gI μ 14 w * k) ≤ 0
      · rw [if_pos e2, if_pos e2]
      · rw [if_neg e2, if_neg e2]
    · rw [if_neg e, if_neg e]
theorem m_ending (r : Int32) : fX12_ending_122 r ν = some (if r < 100 then 3 else 4, ν) := by
  unfold fX12_ending_122
  by_cases e : r < 100
  · rw [if_pos e, if_pos e]
  · rw [if_neg e, if_neg e]
theorem c_verdict (h : Rel V c b B μ ν) (x k : Int32) : fX4_verdictIn_33 x k μ = some (if PF_33 b μ x k < 100 then 3 else 4, μ) := by
  unfold fX4_verdictIn_33
  rw [c_proof_33 h, bnd_e]
  by_cases e : PF_33 b μ x k < 100
  · rw [if_pos e, if_pos e]
  · rw [if_neg e, if_neg e]
theorem mSP (h : Rel V c b B μ ν) (x : Int32) {k : Nat} (hk : k ≤ 99) : ∀ (m n w : Nat) (a : Int32), w + m = b → m < n → fX12_proof_122_b30 n x (nI k) a (nI w) ν = (lt (sI ν 122 16 0) fun m8 => if PF_33 b μ x (nI k) < 100 then fX12_proof_122_b116 (SPs μ x (nI k) w m a) (PF_33 b μ x (nI k)) 0 m8 else fX12_proof_122_b116 (SPs μ x (nI k) w m a) (PF_33 b μ x (nI k)) 1 m8) := by
  have hb := h.b8
  intro m
  induction m with
  | zero =>
    intro n w a h1 h2
    obtain ⟨n, rfl⟩ := Nat.exists_eq_succ_of_ne_zero (show n ≠ 0 by omega)
    rw [fX12_proof_122_b30, h.witM, if_pos (nI_le (by omega) (by omega)), m_proof_123 h h.hl0, bnd_e]
    rfl
  | succ m ih =>
    intro n w a h1 h2
    obtain ⟨n, rfl⟩ := Nat.exists_eq_succ_of_ne_zero (show n ≠ 0 by omega)
    rw [fX12_proof_122_b30, h.witM, if_neg (nI_ge (by omega) (by omega))]
    obtain ⟨a1, a2⟩ := nat_ix (by decide) (word99_33 h.hl0 (show w < 8 by omega))
    obtain ⟨s1, s2⟩ := nat_ix (by decide) (h.fade9 (show w < b by omega))
    have hm : ix (gI μ 14 w) * k ≤ 9 * 99 := Nat.mul_le_mul s1 hk
    have key : (gI μ 37 w ≤ nI k * gI μ 14 w) ↔ imax 0 (gI μ 37 w - gI μ 14 w * nI k) ≤ 0 := by
      rw [Int32.mul_comm (nI k), a2, s2, word_nat a1 s1 (by omega), nI_mul, nI_leI (by omega) (by omega), nI_le0 (by omega)]
      omega
    simp (disch := omega) only [gd_in, ix_nI, lt_e, nI_1, a18, SPs, h.who, h.fade, word_33 h.hl0]
    rw [ih n (w + 1) _ (by omega) (by omega), ih n (w + 1) _ (by omega) (by omega)]
    simp only [lt_e]
    by_cases e : gI μ 12 w = x
    · rw [if_pos e]
      simp only [if_pos e]
      by_cases e2 : gI μ 37 w ≤ nI k * gI μ 14 w
      · have e3 := key.mp e2
        rw [if_pos e2]
        simp only [if_pos e3]
      · have e3 := fun q => e2 (key.mpr q)
        rw [if_neg e2]
        simp only [if_neg e3]
    · rw [if_neg e]
      simp only [if_neg e]
theorem pr_proof (h : Rel V c b B μ ν) (v v2 : Int32) : Pr V c b B (fX11_proof_0 v v2 μ) (fX12_proof_122 v v2 ν) := by
  unfold fX11_proof_0 fX12_proof_122
  have h1 := m17 h 0
  have h6 := h.c6
  rw [lt_e]
  rcases man_or h1 v with ⟨e1, e2, -, -⟩ | ⟨p, hp, rfl, e1, e2, -, -⟩
  · simp only [e1, e2, bnd_e, if_pos]
    exact pr_end h1 _
  · simp (disch := omega) only [e1, e2, bnd_e, n10, if_false, m_in, c_proof_33 h]
    rcases rng_or v2 0 99 (lo := 0) (hi := 99) rfl rfl (by decide) (by decide) with ⟨q1, q2⟩ | ⟨q1, q3, q2⟩ | ⟨n, hn1, hn2, rfl, a1, a2, a3⟩
    · simp only [if_pos q1, if_pos q2, if_true]
      exact pr_end h1 _
    · simp only [if_neg q1, if_neg q3, if_pos q2, if_true]
      exact pr_end h1 _
    · simp only [if_neg a1, if_pos a2, if_neg a3, n10, if_false]
      rw [show fX12_proof_122_b30 FU (nI p) (nI n) 0 0 (sI ν 122 17 0) = _ from mSP h1 (nI p) hn2 b FU 0 0 (by omega) (fu_lt (Nat.lt_of_le_of_lt h.b8 (by decide))), lt_e]
      unfold fX11_proof_0_b45 fX12_proof_122_b116 fX4_speakersIn_33
      have hs : fX4_speakersIn_33_b5 FU (nI p) (nI n) 0 0 μ = _ := cSP h.wit h.b8 (nI p) (nI n) b FU 0 0 (by omega) (fu_lt (Nat.lt_of_le_of_lt h.b8 (by decide)))
      rw [hs, bnd_e, bnd_e]
      by_cases e : PF_33 b μ (nI p) (nI n) < 100
      · rw [if_pos e, if_pos e]
        refine sm_L (c_tell2 _ _) (fun _ μ2 t => ?_)
        refine sm_R (m_tell (TM.nil _) (by decide) _) (fun _ ν2 t2 => ?_)
        refine sm_R (m_tell t2 (by simp) _) (fun _ ν3 t3 => ?_)
        exact pr_end (h1.tell t t3 (by simp)) _
      · rw [if_neg e, if_neg e]
        refine sm_L (c_tell2 _ _) (fun _ μ2 t => ?_)
        refine sm_R (m_tell (TM.nil _) (by decide) _) (fun _ ν2 t2 => ?_)
        refine sm_R (m_tell t2 (by simp) _) (fun _ ν3 t3 => ?_)
        exact pr_end (h1.tell t t3 (by simp)) _
end Pure9
