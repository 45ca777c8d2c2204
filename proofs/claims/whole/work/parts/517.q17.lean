section Pure17
variable {V : VT} {c b B : Nat} {μ ν : Mem}
theorem lI {n : Nat} (h : n < 2 ^ 63) : (Int64.ofNat n).toInt = (n : Int) := Int64.toInt_ofNat_of_lt h
theorem lI_eq {a b : Nat} (ha : a < 2 ^ 63) (hb : b < 2 ^ 63) : Int64.ofNat a = Int64.ofNat b ↔ a = b := by
  rw [← Int64.toInt_inj, lI ha, lI hb]
  omega
theorem lI_mul (a b : Nat) : Int64.ofNat a * Int64.ofNat b = Int64.ofNat (a * b) := (Int64.ofNat_mul a b).symm
theorem lI_add (a b : Nat) : Int64.ofNat a + Int64.ofNat b = Int64.ofNat (a + b) := (Int64.ofNat_add a b).symm
theorem lI_sub {a b : Nat} (h : b ≤ a) : Int64.ofNat a - Int64.ofNat b = Int64.ofNat (a - b) := by
  have : Int64.ofNat a = Int64.ofNat (a - b) + Int64.ofNat b := by rw [lI_add, Nat.sub_add_cancel h]
  rw [this, Int64.add_sub_cancel]
theorem lI_div {n m : Nat} (hn : n < 2 ^ 63) (hm : m < 2 ^ 63) (h0 : 0 < m) : Int64.ofNat n / Int64.ofNat m = Int64.ofNat (n / m) := by
  have h : n / m ≤ n := Nat.div_le_self n m
  rw [← Int64.toInt_inj, Int64.toInt_div, lI hn, lI hm, lI (by omega), ← Int.ofNat_tdiv]
  have key : ∀ q : Nat, q ≤ n → (q : Int).bmod (2 ^ 64) = q := fun q hq => by
    apply Int.bmod_eq_of_le <;> omega
  exact key _ h
theorem lI_mod {n m : Nat} (hn : n < 2 ^ 63) (hm : m < 2 ^ 63) (h0 : 0 < m) : Int64.ofNat n - Int64.ofNat n / Int64.ofNat m * Int64.ofNat m = Int64.ofNat (n % m) := by
  rw [lI_div hn hm h0, lI_mul]
  have h := Nat.div_add_mod n m
  have h2 : n / m * m ≤ n := Nat.div_mul_le_self n m
  rw [lI_sub h2]
  congr 1
  rw [Nat.mul_comm] at h
  omega
theorem lg0 (x : Int64) : lg_cmp x 0 = 0 ↔ x = 0 := by
  unfold lg_cmp
  by_cases h : x > 0
  · rw [if_pos h]
    refine ⟨fun q => absurd q (by decide), fun q => ?_⟩
    subst q
    exact absurd h (by decide)
  · rw [if_neg h]
    by_cases e : x = 0
    · rw [if_pos e]; exact ⟨fun _ => e, fun _ => rfl⟩
    · rw [if_neg e]; exact ⟨fun q => absurd q (by decide), fun q => absurd q e⟩
theorem lI0 {n : Nat} (h : n < 2 ^ 63) : lg_cmp (Int64.ofNat n) 0 = 0 ↔ n = 0 := by
  rw [lg0, show (0 : Int64) = Int64.ofNat 0 from rfl, lI_eq h (by decide)]
theorem half {a b k : Nat} (hb : b < 2 ^ (k + 1)) (hb0 : 0 < b) (hr : a % b ≠ 0) : b % (a % b) < 2 ^ k := by
  have h1 : a % b < b := Nat.mod_lt _ hb0
  have h2 : b % (a % b) < a % b := Nat.mod_lt _ (by omega)
  have h3 : 2 ^ (k + 1) = 2 * 2 ^ k := by rw [Nat.pow_succ, Nat.mul_comm]
  by_cases q : 2 * (a % b) ≤ b
  · omega
  · have : b % (a % b) = b - a % b := by
      rw [Nat.mod_eq_sub_mod (by omega), Nat.mod_eq_of_lt (by omega)]
    omega
theorem gcd_st (a b : Nat) : Nat.gcd b (a % b) = Nat.gcd a b := by
  rw [Nat.gcd_comm a b, Nat.gcd_comm b (a % b), ← Nat.gcd_rec]
theorem nz64 {n : Nat} (h : n < 2 ^ 63) (h0 : n ≠ 0) : (!(Int64.ofNat n == 0)) = true := by
  rw [Bool.not_eq_true', beq_eq_false_iff_ne]
  intro q
  rw [show (0 : Int64) = Int64.ofNat 0 from rfl, lI_eq h (by decide)] at q
  exact h0 q
theorem cGcd : ∀ (k a b f i : Nat), a < 2 ^ 62 → b < 2 ^ 62 → b < 2 ^ k → 2 * k + 2 ≤ f → i + 2 * k + 2 ≤ 200 → fX11_commonDivisor_b9 f (Int64.ofNat a) (Int64.ofNat b) (nI i) μ = some (Int64.ofNat (Nat.gcd a b), μ) := by
  have z : ∀ (a f i : Nat), i < 200 → fX11_commonDivisor_b9 (f + 1) (Int64.ofNat a) (Int64.ofNat 0) (nI i) μ = some (Int64.ofNat a, μ) := by
    intro a f i hi
    rw [fX11_commonDivisor_b9, if_neg (show ¬ (200 : Int32) ≤ nI i from nI_ge (b := 200) hi (by decide)), if_pos ((lI0 (by decide)).mpr rfl)]
  have st : ∀ (a b f i : Nat), i < 200 → a < 2 ^ 62 → b < 2 ^ 62 → b ≠ 0 → fX11_commonDivisor_b9 (f + 1) (Int64.ofNat a) (Int64.ofNat b) (nI i) μ = fX11_commonDivisor_b9 f (Int64.ofNat b) (Int64.ofNat (a % b)) (nI (i + 1)) μ := by
    intro a b f i hi ha hb h0
    rw [fX11_commonDivisor_b9, if_neg (show ¬ (200 : Int32) ≤ nI i from nI_ge (b := 200) hi (by decide)), if_neg (fun q => h0 ((lI0 (by omega)).mp q)), gd_of (nz64 (by omega) h0), lt_e, lI_mod (by omega) (by omega) (by omega), nI_1]
  intro k
  induction k with
  | zero =>
    intro a b f i ha hb hk hf hi
    obtain ⟨f, rfl⟩ := Nat.exists_eq_succ_of_ne_zero (show f ≠ 0 by omega)
    obtain rfl : b = 0 := by rw [Nat.pow_zero] at hk; omega
    rw [z a f i (by omega), Nat.gcd_zero_right]
  | succ k ih =>
    intro a b f i ha hb hk hf hi
    obtain ⟨f, rfl⟩ : ∃ f', f = f' + 1 + 1 := ⟨f - 2, by omega⟩
    by_cases h0 : b = 0
    · subst h0
      rw [z a _ i (by omega), Nat.gcd_zero_right]
    · have h1 : a % b < b := Nat.mod_lt _ (by omega)
      rw [st a b _ i (by omega) ha hb h0]
      by_cases h2 : a % b = 0
      · rw [h2, z b _ (i + 1) (by omega), ← gcd_st, h2, Nat.gcd_zero_right]
      · rw [st b (a % b) f (i + 1) (by omega) hb (by omega) h2, ih (a % b) (b % (a % b)) f (i + 1 + 1) (by omega) (by have := Nat.mod_lt b (show a % b > 0 by omega); omega) (half hk (by omega) h2) (by omega) (by omega), gcd_st, gcd_st]
theorem mGcd : ∀ (k a b f : Nat), a < 2 ^ 62 → b < 2 ^ 62 → b < 2 ^ k → 2 * k + 2 ≤ f → fX12_common f (Int64.ofNat a) (Int64.ofNat b) ν = some (Int64.ofNat (Nat.gcd a b), ν) := by
  have z : ∀ (a f : Nat), fX12_common (f + 1) (Int64.ofNat a) (Int64.ofNat 0) ν = some (Int64.ofNat a, ν) := by
    intro a f
    rw [fX12_common]
    unfold fX12_common_r
    rw [if_pos ((lI0 (by decide)).mpr rfl)]
  have st : ∀ (a b f : Nat) (x : Int64), a < 2 ^ 62 → b < 2 ^ 62 → b ≠ 0 → fX12_common f (Int64.ofNat b) (Int64.ofNat (a % b)) ν = some (x, ν) → fX12_common (f + 1) (Int64.ofNat a) (Int64.ofNat b) ν = some (x, ν) := by
    intro a b f x ha hb h0 hx
    rw [fX12_common]
    unfold fX12_common_r
    rw [if_neg (fun q => h0 ((lI0 (by omega)).mp q)), gd_of (nz64 (by omega) h0), lI_mod (by omega) (by omega) (by omega)]
    show bnd (fX12_common f (Int64.ofNat b) (Int64.ofNat (a % b)) ν) _ = _
    rw [hx, bnd_e]
  intro k
  induction k with
  | zero =>
    intro a b f ha hb hk hf
    obtain ⟨f, rfl⟩ := Nat.exists_eq_succ_of_ne_zero (show f ≠ 0 by omega)
    obtain rfl : b = 0 := by rw [Nat.pow_zero] at hk; omega
    rw [z a f, Nat.gcd_zero_right]
  | succ k ih =>
    intro a b f ha hb hk hf
    obtain ⟨f, rfl⟩ : ∃ f', f = f' + 1 + 1 := ⟨f - 2, by omega⟩
    by_cases h0 : b = 0
    · subst h0
      rw [z a, Nat.gcd_zero_right]
    · have h1 : a % b < b := Nat.mod_lt _ (by omega)
      refine st a b _ _ ha hb h0 ?_
      by_cases h2 : a % b = 0
      · rw [h2, z b, ← gcd_st, h2, Nat.gcd_zero_right]
      · refine st b (a % b) f _ hb (by omega) h2 ?_
        rw [ih (a % b) (b % (a % b)) f (by omega) (by have := Nat.mod_lt b (show a % b > 0 by omega); omega) (half hk (by omega) h2) (by omega), gcd_st, gcd_st]
theorem cPow (v0 : Int32) (a : Nat) (ha : v0.toInt64 = Int64.ofNat a) {k : Nat} (hk : k ≤ 100) : ∀ (m f i x : Nat), i + m = k → m < f → fX11_power_b5 f v0 (nI k) (Int64.ofNat x) (nI i) μ = some (Int64.ofNat (x * a ^ m), μ) := by
  intro m
  induction m with
  | zero =>
    intro f i x h1 h2
    obtain ⟨f, rfl⟩ := Nat.exists_eq_succ_of_ne_zero (show f ≠ 0 by omega)
    rw [fX11_power_b5, if_pos (nI_le (by omega) (by omega)), Nat.pow_zero, Nat.mul_one]
  | succ m ih =>
    intro f i x h1 h2
    obtain ⟨f, rfl⟩ := Nat.exists_eq_succ_of_ne_zero (show f ≠ 0 by omega)
    rw [fX11_power_b5, if_neg (nI_ge (by omega) (by omega)), lt_e, ha, lI_mul, nI_1, ih f (i + 1) (x * a) (by omega) (by omega), Nat.pow_succ, Nat.mul_assoc, Nat.mul_comm a]
theorem mPow (v0 : Int64) (a : Nat) (ha : v0 = Int64.ofNat a) {k : Nat} (hk : k ≤ 100) : ∀ (m f i x : Nat), i + m = k → m < f → fX12_power_b5 f v0 (nI k) (Int64.ofNat x) (nI i) μ = some (Int64.ofNat (x * a ^ m), μ) := by
  subst ha
  intro m
  induction m with
  | zero =>
    intro f i x h1 h2
    obtain ⟨f, rfl⟩ := Nat.exists_eq_succ_of_ne_zero (show f ≠ 0 by omega)
    rw [fX12_power_b5, if_pos (nI_le (by omega) (by omega)), Nat.pow_zero, Nat.mul_one]
  | succ m ih =>
    intro f i x h1 h2
    obtain ⟨f, rfl⟩ := Nat.exists_eq_succ_of_ne_zero (show f ≠ 0 by omega)
    rw [fX12_power_b5, if_neg (nI_ge (by omega) (by omega)), lt_e, lI_mul, nI_1, ih f (i + 1) (x * a) (by omega) (by omega), Nat.pow_succ, Nat.mul_assoc, Nat.mul_comm a]
theorem toL (n : Nat) (h : n < 2 ^ 31) : (nI n).toInt64 = Int64.ofNat n := by
  rw [← Int64.toInt_inj, Int32.toInt_toInt64, nI_toInt h, lI (by omega)]
theorem ten_sub {n : Nat} (h : n ≤ 10) : (10 : Int32) - nI n = nI (10 - n) := nI_sub (a := 10) h (by decide)
theorem ten_sub64 {n : Nat} (h : n ≤ 10) : (10 : Int64) - (nI n).toInt64 = Int64.ofNat (10 - n) := by
  rw [toL n (by omega), show (10 : Int64) = Int64.ofNat 10 from rfl, lI_sub h]
def dbA (n k : Nat) : Nat := n * 10 ^ k
def dbM (n n2 k : Nat) : Nat := n * 10 ^ k + (10 - n) * (10 - n2) ^ k
theorem c_dumbP {n k : Nat} (hn : n ≤ 10) (hk : k ≤ 12) : fX11_likelyDumb (nI n) (nI k) μ = some (Int64.ofNat (dbA n k), μ) := by
  unfold fX11_likelyDumb
  rw [show fX11_power 10 (nI k) μ = _ from cPow 10 10 (by decide) (show k ≤ 100 by omega) k FU 0 1 (by omega) (fu_lt (by omega)), bnd_e, toL n (by omega), lI_mul, Nat.one_mul]
  rfl
theorem m_dumbP {n k : Nat} (hn : n ≤ 10) (hk : k ≤ 12) : fX12_dumbPart (nI n) (nI k) μ = some (Int64.ofNat (dbA n k), μ) := by
  unfold fX12_dumbPart
  rw [show fX12_power 10 (nI k) μ = _ from mPow 10 10 (by decide) (show k ≤ 100 by omega) k FU 0 1 (by omega) (fu_lt (by omega)), bnd_e, toL n (by omega), lI_mul, Nat.one_mul]
  rfl
theorem c_mute {n n2 k : Nat} (hn : n ≤ 10) (hn2 : n2 ≤ 10) (hk : k ≤ 12) : fX11_likelyMute (nI n) (nI n2) (nI k) μ = some (Int64.ofNat (dbM n n2 k), μ) := by
  unfold fX11_likelyMute
  rw [c_dumbP hn hk, bnd_e, ten_sub hn2, ten_sub hn, show fX11_power (nI (10 - n2)) (nI k) μ = _ from cPow (nI (10 - n2)) (10 - n2) (toL _ (by omega)) (show k ≤ 100 by omega) k FU 0 1 (by omega) (fu_lt (by omega)), bnd_e, toL _ (by omega), lI_mul, lI_add, Nat.one_mul]
  rfl
theorem m_mute {n n2 k : Nat} (hn : n ≤ 10) (hn2 : n2 ≤ 10) (hk : k ≤ 12) : fX12_wholePart (nI n) (nI n2) (nI k) μ = some (Int64.ofNat (dbM n n2 k), μ) := by
  unfold fX12_wholePart
  rw [m_dumbP hn hk, bnd_e, ten_sub hn, show fX12_power (10 - (nI n2).toInt64) (nI k) μ = _ from mPow _ (10 - n2) (ten_sub64 hn2) (show k ≤ 100 by omega) k FU 0 1 (by omega) (fu_lt (by omega)), bnd_e, toL _ (by omega), lI_mul, lI_add, Nat.one_mul]
  rfl
theorem p10 {k : Nat} (hk : k ≤ 12) : 10 ^ k ≤ 10 ^ 12 := Nat.pow_le_pow_right (by decide) hk
theorem dbA_lt {n k : Nat} (hn : n ≤ 10) (hk : k ≤ 12) : dbA n k < 2 ^ 45 := by
  unfold dbA
  have h1 := p10 hk
  have h2 : n * 10 ^ k ≤ 10 * 10 ^ 12 := Nat.mul_le_mul hn h1
  omega
theorem dbM_lt {n n2 k : Nat} (hn : n ≤ 10) (hk : k ≤ 12) : dbM n n2 k < 2 ^ 45 := by
  unfold dbM
  have h1 := p10 hk
  have h2 : n * 10 ^ k ≤ 10 * 10 ^ 12 := Nat.mul_le_mul hn h1
  have h3 : (10 - n2) ^ k ≤ 10 ^ k := Nat.pow_le_pow_left (by omega) k
  have h4 : (10 - n) * (10 - n2) ^ k ≤ 10 * 10 ^ 12 := Nat.mul_le_mul (by omega) (Nat.le_trans h3 h1)
  omega
theorem c_tenths (v : Int32) : (fX11_isTenths v μ = some (0, μ) ∧ (v < 0 ∨ 10 < v)) ∨ ∃ n, n ≤ 10 ∧ v = nI n ∧ fX11_isTenths v μ = some (1, μ) ∧ ¬ (v < 0 ∨ 10 < v) := by
  unfold fX11_isTenths
  rcases rng_or v 0 10 (lo := 0) (hi := 10) rfl rfl (by decide) (by decide) with ⟨q1, q2⟩ | ⟨q1, q3, q2⟩ | ⟨n, hn1, hn2, rfl, a1, a2, a3⟩
  · left; rw [if_pos q1]; exact ⟨rfl, q2⟩
  · left; rw [if_neg q1, if_pos (i_nle.mp q3)]; exact ⟨rfl, q2⟩
  · right
    refine ⟨n, hn2, rfl, ?_, a3⟩
    rw [if_neg a1, if_neg (i_nlt.mpr a2)]
theorem pr_dumb (h : Rel V c b B μ ν) (v1 v2 v3 : Int32) : Pr V c b B (fX11_dumb_0 v1 v2 v3 μ) (fX12_dumb_122 v1 v2 v3 ν) := by
  have h1 := m17 h 0
  unfold fX11_dumb_0 fX12_dumb_122
  rw [lt_e, m_in, bnd_e]
  rcases c_tenths (μ := μ) v1 with ⟨e1, e2⟩ | ⟨n1, hn1, rfl, e1, e2⟩
  · rw [e1, bnd_e, if_pos rfl, if_pos e2, if_pos rfl]
    exact pr_end h1 _
  · rw [e1, bnd_e, if_neg n10, if_neg e2, if_neg n10, m_in, bnd_e]
    rcases c_tenths (μ := μ) v2 with ⟨e3, e4⟩ | ⟨n2, hn2, rfl, e3, e4⟩
    · rw [e3, bnd_e, if_pos rfl, if_pos e4, if_pos rfl]
      exact pr_end h1 _
    · rw [e3, bnd_e, if_neg n10, if_neg e4, if_neg n10, m_in, bnd_e]
      rcases rng_or v3 0 12 (lo := 0) (hi := 12) rfl rfl (by decide) (by decide) with ⟨q1, q2⟩ | ⟨q1, q3, q2⟩ | ⟨k, hk1, hk2, rfl, a1, a2, a3⟩
      · rw [if_pos q1, if_pos q2, if_pos rfl]
        exact pr_end h1 _
      · rw [if_neg q1, if_neg q3, if_pos q2, if_pos rfl]
        exact pr_end h1 _
      · have lA := dbA_lt hn1 hk2
        have lM := dbM_lt (n2 := n2) hn1 hk2
        rw [if_neg a1, if_pos a2, if_neg a3, if_neg n10, c_dumbP hn1 hk2, bnd_e, c_mute hn1 hn2 hk2, bnd_e, m_dumbP hn1 hk2, bnd_e, m_mute hn1 hn2 hk2, bnd_e]
        by_cases z : dbM n1 n2 k = 0
        · have z' := (lI0 (show dbM n1 n2 k < 2 ^ 63 by omega)).mpr z
          rw [if_pos z', if_pos z']
          exact pr_end h1 _
        · have z' : ¬ lg_cmp (Int64.ofNat (dbM n1 n2 k)) 0 = 0 := fun q => z ((lI0 (show dbM n1 n2 k < 2 ^ 63 by omega)).mp q)
          have g0 : Nat.gcd (dbA n1 k) (dbM n1 n2 k) ≠ 0 := fun q => z (Nat.gcd_eq_zero_iff.mp q).2
          have gl : Nat.gcd (dbA n1 k) (dbM n1 n2 k) ≤ dbM n1 n2 k := Nat.gcd_le_right _ (by omega)
          have g1 : ¬ lg_cmp (Int64.ofNat (Nat.gcd (dbA n1 k) (dbM n1 n2 k))) 0 = 0 := fun q => g0 ((lI0 (by omega)).mp q)
          have ng := nz64 (show Nat.gcd (dbA n1 k) (dbM n1 n2 k) < 2 ^ 63 by omega) g0
          rw [if_neg z', if_neg z', show fX11_commonDivisor (Int64.ofNat (dbA n1 k)) (Int64.ofNat (dbM n1 n2 k)) μ = _ from cGcd 45 (dbA n1 k) (dbM n1 n2 k) FU 0 (by omega) (by omega) lM (by decide) (by decide), bnd_e, mGcd 45 (dbA n1 k) (dbM n1 n2 k) FR (by omega) (by omega) lM (by decide), bnd_e, if_neg g1, lt_e, ng, gd_e, gd_e, gd_e]
          refine sm_L (c_tell2 _ _) (fun _ μ2 t => ?_)
          refine sm_R (m_tell (TM.nil _) (by decide) _) (fun _ ν2 t2 => ?_)
          rw [gd_e]
          refine sm_R (m_tell t2 (by simp) _) (fun _ ν3 t3 => ?_)
          exact pr_end (h1.tell t t3 (by simp)) _
theorem sure_in (h : Rel V c b B μ ν) {n1 n2 : Nat} (hn1 : n1 ≤ 10) (hn2 : n2 ≤ 10) (v3 : Int32) : ∀ (m f i : Nat), i + m = 13 → m < f → Pr V c b B (fX11_sure_0_b29 f (nI n1) (nI n2) v3 (nI i) μ) (fX12_sure_122_b40 f (nI n1) (nI n2) v3 (nI i) ν) := by
  intro m
  induction m with
  | zero =>
    intro f i h1 h2
    obtain ⟨f, rfl⟩ := Nat.exists_eq_succ_of_ne_zero (show f ≠ 0 by omega)
    have e : (12 : Int32) < nI i := nI_lt (a := 12) (by omega) (by omega)
    rw [fX11_sure_0_b29, fX12_sure_122_b40, if_pos e, if_pos e]
    exact pr_end h _
  | succ m ih =>
    intro f i h1 h2
    obtain ⟨f, rfl⟩ := Nat.exists_eq_succ_of_ne_zero (show f ≠ 0 by omega)
    have e : ¬ (12 : Int32) < nI i := nI_nlt (a := 12) (by omega) (by omega)
    rw [fX11_sure_0_b29, fX12_sure_122_b40, if_neg e, if_neg e, c_mute hn1 hn2 (by omega), bnd_e, m_mute hn1 hn2 (by omega), bnd_e, nI_1]
    have go := ih f (i + 1) (by omega) (by omega)
    by_cases q : lg_cmp (Int64.ofNat (dbM n1 n2 i)) 0 ≤ 0
    · rw [if_pos q, if_pos q]; exact go
    · rw [if_neg q, if_neg q, c_dumbP hn1 (by omega), bnd_e, m_dumbP hn1 (by omega), bnd_e]
      by_cases q2 : lg_cmp (100 * Int64.ofNat (dbA n1 i)) (v3.toInt64 * Int64.ofNat (dbM n1 n2 i)) < 0
      · rw [if_pos q2, if_pos q2]; exact go
      · rw [if_neg q2, if_neg q2]; exact pr_end h _
theorem pr_sure (h : Rel V c b B μ ν) (v1 v2 v3 : Int32) : Pr V c b B (fX11_sure_0 v1 v2 v3 μ) (fX12_sure_122 v1 v2 v3 ν) := by
  have h1 := m17 h 0
  unfold fX11_sure_0 fX12_sure_122
  rw [lt_e, m_in, bnd_e]
  rcases c_tenths (μ := μ) v1 with ⟨e1, e2⟩ | ⟨n1, hn1, rfl, e1, e2⟩
  · rw [e1, bnd_e, if_pos rfl, if_pos e2, if_pos rfl]
    exact pr_end h1 _
  · rw [e1, bnd_e, if_neg n10, if_neg e2, if_neg n10, m_in, bnd_e]
    rcases c_tenths (μ := μ) v2 with ⟨e3, e4⟩ | ⟨n2, hn2, rfl, e3, e4⟩
    · rw [e3, bnd_e, if_pos rfl, if_pos e4, if_pos rfl]
      exact pr_end h1 _
    · rw [e3, bnd_e, if_neg n10, if_neg e4, if_neg n10, m_in, bnd_e]
      rcases rng_or v3 0 100 (lo := 0) (hi := 100) rfl rfl (by decide) (by decide) with ⟨q1, q2⟩ | ⟨q1, q3, q2⟩ | ⟨k, hk1, hk2, rfl, a1, a2, a3⟩
      · rw [if_pos q1, if_pos q2, if_pos rfl]
        exact pr_end h1 _
      · rw [if_neg q1, if_neg q3, if_pos q2, if_pos rfl]
        exact pr_end h1 _
      · rw [if_neg a1, if_pos a2, if_neg a3, if_neg n10]
        exact sure_in h1 hn1 hn2 _ 13 FU 0 rfl (by decide)
end Pure17
