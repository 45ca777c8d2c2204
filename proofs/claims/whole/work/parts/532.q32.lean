section Pure32
variable {V : VT} {c b B : Nat} {μ ν : Mem}
def sub8 (p g : Nat) : Bool := decide (p &&& (p ^^^ g) = 0)
theorem sub8_le {p g : Nat} (h : sub8 p g = true) : p ≤ g := by
  have e : p &&& (p ^^^ g) = 0 := of_decide_eq_true h
  have : p = p &&& g := by
    apply Nat.eq_of_testBit_eq
    intro i
    have q : (p &&& (p ^^^ g)).testBit i = false := by rw [e, Nat.zero_testBit]
    rw [Nat.testBit_and, Nat.testBit_xor] at q
    rw [Nat.testBit_and]
    revert q
    cases p.testBit i <;> cases g.testBit i <;> simp
  rw [this]
  exact Nat.and_le_right
theorem sub8_iff {p g : Nat} (hp : p < 2 ^ 20) : nI p &&& (nI g ^^^ -1) = 0 ↔ sub8 p g = true := by
  unfold sub8
  have : p &&& (p ^^^ g) ≤ p := Nat.and_le_left
  rw [nI_less, show (0 : Int32) = nI 0 from rfl, nI_eq (by omega) (by decide), decide_eq_true_iff]
def such (μ : Mem) (g : Nat) (x : Int32) (p : Nat) : Bool := sub8 p g && decide (WO μ (nI p) = x)
theorem c_such {p g : Nat} (hp : p < 2 ^ 20) (x : Int32) : fX11_isSuchPart_0 (nI p) (nI g) x μ = some (if such μ g x p = true then 1 else 0, μ) := by
  unfold fX11_isSuchPart_0 such
  by_cases q : sub8 p g = true
  · rw [if_pos ((sub8_iff hp).mpr q), c_worth, bnd_e, q, Bool.true_and]
    by_cases e : WO μ (nI p) = x
    · rw [if_pos e, if_pos (decide_eq_true e)]
    · rw [if_neg e, if_neg (by simp [e])]
  · rw [if_neg (fun z => q ((sub8_iff hp).mp z))]
    have : sub8 p g = false := by simpa using q
    rw [this, Bool.false_and, if_neg (by decide)]
theorem such_gt {g p : Nat} {x : Int32} (h : g < p) : such μ g x p = false := by
  unfold such
  cases e : sub8 p g with
  | false => rfl
  | true => exact absurd (sub8_le e) (by omega)
def house_end (cnt fst an : Int32) (μ : Mem) : Option (Int32 × Mem) := if cnt = 0 then (fX11_house_0_b111 cnt (0 : Int64) (Int32.toInt64 fst) μ) else fX11_house_0_b111 cnt (Int32.toInt64 an) (Int32.toInt64 fst) μ
theorem cHouse (x : Int32) {g : Nat} (cnt fst an : Int32) : ∀ (m f n : Nat), n + m = 256 → m < f → g < n → fX11_house_0_b43 f x (nI g) cnt fst an (nI n) μ = house_end cnt fst an μ := by
  intro m
  induction m with
  | zero =>
    intro f n h1 h2 h3
    obtain ⟨f, rfl⟩ := Nat.exists_eq_succ_of_ne_zero (show f ≠ 0 by omega)
    rw [fX11_house_0_b43, if_pos (show (256 : Int32) ≤ nI n from nI_le (a := 256) (by omega) (by omega))]
    rfl
  | succ m ih =>
    intro f n h1 h2 h3
    obtain ⟨f, rfl⟩ := Nat.exists_eq_succ_of_ne_zero (show f ≠ 0 by omega)
    rw [fX11_house_0_b43, if_neg (show ¬ (256 : Int32) ≤ nI n from nI_ge (b := 256) (by omega) (by omega)), c_such (by omega), bnd_e, such_gt h3, if_neg (show ¬ (false = true) by decide), if_pos rfl, nI_1]
    exact ih f (n + 1) (by omega) (by omega) (by omega)
theorem house_in (h : Rel V c b B μ ν) {p : Nat} (hp : p < c) (x : Int32) {g : Nat} (hg : g < 256) (eg : gI μ 10 p = nI g) : ∀ (m f n : Nat) (cnt fst an : Int32), n + m = g + 1 → 256 < n + f → Pr V c b B (fX11_house_0_b43 f x (nI g) cnt fst an (nI n) μ) (fX12_house_122_b42 f (nI p) x cnt fst an (nI n) ν) := by
  have h6 := h.c6
  intro m
  induction m with
  | zero =>
    intro f n cnt fst an h1 h2
    obtain ⟨f, rfl⟩ := Nat.exists_eq_succ_of_ne_zero (show f ≠ 0 by omega)
    rw [cHouse x cnt fst an (256 - n) (f + 1) n (by omega) (by omega) (by omega), fX12_house_122_b42, gd_in (by omega) (by decide), ix_nI (by omega), h.goods hp, eg, if_pos (nI_lt (by omega) (by omega)), lt_e]
    unfold house_end fX11_house_0_b111 fX12_house_122_b133
    by_cases z : cnt = 0
    · rw [if_pos z]
      refine sm_L (c_tell2 _ _) (fun _ μ2 t => ?_)
      refine sm_R (m_tell (TM.nil _) (by decide) _) (fun _ ν2 t2 => ?_)
      rw [if_pos z]
      refine sm_R (m_tell t2 (by simp) _) (fun _ ν3 t3 => ?_)
      exact pr_end (h.tell t t3 (by simp)) _
    · rw [if_neg z]
      refine sm_L (c_tell2 _ _) (fun _ μ2 t => ?_)
      refine sm_R (m_tell (TM.nil _) (by decide) _) (fun _ ν2 t2 => ?_)
      rw [if_neg z]
      refine sm_R (m_tell t2 (by simp) _) (fun _ ν3 t3 => ?_)
      exact pr_end (h.tell t t3 (by simp)) _
  | succ m ih =>
    intro f n cnt fst an h1 h2
    obtain ⟨f, rfl⟩ := Nat.exists_eq_succ_of_ne_zero (show f ≠ 0 by omega)
    rw [fX11_house_0_b43, if_neg (show ¬ (256 : Int32) ≤ nI n from nI_ge (b := 256) (by omega) (by omega)), c_such (by omega), bnd_e, fX12_house_122_b42, gd_in (by omega) (by decide), gd_in (by omega) (by decide), ix_nI (by omega), h.goods hp, eg, if_neg (nI_nlt (by omega) (by omega)), nI_1]
    unfold such
    have go : ∀ a1 a2 a3, Pr V c b B (fX11_house_0_b43 f x (nI g) a1 a2 a3 (nI (n + 1)) μ) (fX12_house_122_b42 f (nI p) x a1 a2 a3 (nI (n + 1)) ν) := fun a1 a2 a3 => ih f (n + 1) a1 a2 a3 (by omega) (by omega)
    by_cases q : sub8 n g = true
    · rw [if_pos ((sub8_iff (show n < 2 ^ 20 by omega)).mpr q), m_worth h, bnd_e, q, Bool.true_and]
      unfold fX11_house_0_b74 fX12_house_122_b91
      simp only [lt_e, nI_1]
      by_cases e : WO μ (nI n) = x
      · rw [if_pos (decide_eq_true e), if_neg n10, if_pos e]
        by_cases z : cnt = 0
        · rw [if_pos z, if_pos z]; exact go _ _ _
        · rw [if_neg z, if_neg z]; exact go _ _ _
      · rw [if_neg (show ¬ decide (WO μ (nI n) = x) = true by simp [e]), if_pos rfl, if_neg e]
        exact go _ _ _
    · have q' : sub8 n g = false := by simpa using q
      rw [if_neg (fun z => q ((sub8_iff (show n < 2 ^ 20 by omega)).mp z)), q', Bool.false_and, if_neg (show ¬ (false = true) by decide), if_pos rfl]
      exact go _ _ _
theorem pr_house (h : Rel V c b B μ ν) (v v2 : Int32) : Pr V c b B (fX11_house_0 v v2 μ) (fX12_house_122 v v2 ν) := by
  unfold fX11_house_0 fX12_house_122
  have h1 := m17 h 0
  have h6 := h.c6
  rw [lt_e]
  rcases man_or h1 v with ⟨e1, e2, -, -⟩ | ⟨p, hp, rfl, e1, e2, -, -⟩
  · rw [e1, e2, bnd_e, bnd_e, if_pos rfl, if_pos rfl]
    exact pr_end h1 _
  · rw [e1, e2, bnd_e, bnd_e, if_neg n10, if_neg n10, m_in, bnd_e]
    rcases rng_or v2 0 999 (lo := 0) (hi := 999) rfl rfl (by decide) (by decide) with ⟨q1, q2⟩ | ⟨q1, q3, q2⟩ | ⟨n, hn1, hn2, rfl, a1, a2, a3⟩
    · rw [if_pos q1, if_pos q2, if_pos rfl]
      exact pr_end h1 _
    · rw [if_neg q1, if_neg q3, if_pos q2, if_pos rfl]
      exact pr_end h1 _
    · obtain ⟨g, hg, eg⟩ := h1.goods8 hp
      rw [if_neg a1, if_pos a2, if_neg a3, if_neg n10, gd_in (by omega) (by decide), gd_in (by omega) (by decide), ix_nI (by omega), lt_e, lt_e, h1.goods hp, eg]
      exact house_in h1 hp (nI n) hg eg (g + 1) FU 0 0 (-1) (nI g) (by omega) (by decide)
def CN (d : Nat → Bool) : Nat → Nat
  | 0 => 0
  | m + 1 => CN d m + (if d m = true then 1 else 0)
theorem CN_le (d : Nat → Bool) : ∀ m, CN d m ≤ m
  | 0 => Nat.le_refl _
  | m + 1 => by
    have := CN_le d m
    rw [CN]
    by_cases q : d m = true
    · rw [if_pos q]; omega
    · rw [if_neg q]; omega
theorem CN_ext {d : Nat → Bool} {n : Nat} (h : ∀ i, n ≤ i → d i = false) : ∀ m, n ≤ m → CN d m = CN d n
  | 0, q => by
    obtain rfl : n = 0 := by omega
    rfl
  | m + 1, q => by
    by_cases e : n = m + 1
    · rw [e]
    · rw [CN, CN_ext h m (by omega), h m (by omega), if_neg (by decide), Nat.add_zero]
theorem CN_split (d e : Nat → Bool) : ∀ m, CN (fun i => d i && e i) m + CN (fun i => d i && !e i) m = CN d m
  | 0 => rfl
  | m + 1 => by
    have := CN_split d e m
    rw [CN, CN, CN]
    cases d m <;> cases e m <;> simp <;> omega
def hasB (k p : Nat) : Bool := decide (¬ ((nI p >>> (nI k &&& 31)) &&& 1 = 0))
theorem bit8 : ∀ k, k < 8 → ∀ p, p < 256 → ((nI p &&& ((1 : Int32) <<< (nI k &&& 31))) = ((1 : Int32) <<< (nI k &&& 31)) ↔ hasB k p = true) := by decide +kernel
theorem cParts (x : Int32) {g : Nat} {y : Int32} {t : Nat → Bool} (ht : ∀ i, i < 256 → (nI i &&& y = y ↔ t i = true)) : ∀ (m f n : Nat), n + m = 256 → m < f → fX11_partsWith_0_b6 f (nI g) y x (nI (CN (fun i => such μ g x i && t i) n)) (nI n) μ = some (nI (CN (fun i => such μ g x i && t i) 256), μ) := by
  intro m
  induction m with
  | zero =>
    intro f n h1 h2
    obtain ⟨f, rfl⟩ := Nat.exists_eq_succ_of_ne_zero (show f ≠ 0 by omega)
    obtain rfl : n = 256 := by omega
    rw [fX11_partsWith_0_b6, if_pos (show (256 : Int32) ≤ nI 256 by decide)]
  | succ m ih =>
    intro f n h1 h2
    obtain ⟨f, rfl⟩ := Nat.exists_eq_succ_of_ne_zero (show f ≠ 0 by omega)
    have := ih f (n + 1) (by omega) (by omega)
    rw [CN] at this
    rw [fX11_partsWith_0_b6, if_neg (show ¬ (256 : Int32) ≤ nI n from nI_ge (b := 256) (by omega) (by omega)), nI_1]
    by_cases q : t n = true
    · rw [if_pos ((ht n (by omega)).mpr q), c_such (by omega), bnd_e]
      rw [q, Bool.and_true] at this
      by_cases s : such μ g x n = true
      · rw [if_pos s, if_neg n10, nI_1]
        rw [if_pos s] at this
        exact this
      · rw [if_neg s, if_pos rfl]
        rw [if_neg s, Nat.add_zero] at this
        exact this
    · rw [if_neg (fun z => q ((ht n (by omega)).mp z))]
      have q' : t n = false := by simpa using q
      rw [q', Bool.and_false, if_neg (by decide), Nat.add_zero] at this
      exact this
theorem mParts (h : Rel V c b B μ ν) {p : Nat} (hp : p < c) (x : Int32) {g : Nat} (hg : g < 256) (eg : gI μ 10 p = nI g) (k36 : Int32 → Int32 → Int32 → Int32 → Int32 → Mem → Option (Int32 × Mem)) (p3 p4 : Int32) {k : Nat} (hk : k < 8) : ∀ (m f n : Nat), n + m = g + 1 → m < f → fX12_search_122_b69 k36 f (nI p) x p3 p4 (nI k) (nI (CN (fun i => such μ g x i && hasB k i) n)) (nI (CN (fun i => such μ g x i && !hasB k i) n)) (nI n) ν = (if (nI (CN (fun i => such μ g x i && hasB k i) (g + 1)) + nI (CN (fun i => such μ g x i && !hasB k i) (g + 1))) = 0 then (some ((-2 : Int32), ν)) else if (imax (nI (CN (fun i => such μ g x i && hasB k i) (g + 1))) (nI (CN (fun i => such μ g x i && !hasB k i) (g + 1)))) < p4 then (lt (imax (nI (CN (fun i => such μ g x i && hasB k i) (g + 1))) (nI (CN (fun i => such μ g x i && !hasB k i) (g + 1)))) fun x12 => k36 (nI p) x (nI k) x12 (nI k + (1 : Int32)) ν) else k36 (nI p) x p3 p4 (nI k + (1 : Int32)) ν) := by
  have h6 := h.c6
  intro m
  induction m with
  | zero =>
    intro f n h1 h2
    obtain ⟨f, rfl⟩ := Nat.exists_eq_succ_of_ne_zero (show f ≠ 0 by omega)
    obtain rfl : n = g + 1 := by omega
    rw [fX12_search_122_b69, gd_in (by omega) (by decide), ix_nI (by omega), h.goods hp, eg, if_pos (nI_lt (by omega) (by omega))]
  | succ m ih =>
    intro f n h1 h2
    obtain ⟨f, rfl⟩ := Nat.exists_eq_succ_of_ne_zero (show f ≠ 0 by omega)
    have go := ih f (n + 1) (by omega) (by omega)
    rw [CN.eq_2 _ n, CN.eq_2 _ n] at go
    rw [fX12_search_122_b69, gd_in (by omega) (by decide), gd_in (by omega) (by decide), ix_nI (by omega), h.goods hp, eg, if_neg (nI_nlt (by omega) (by omega))]
    by_cases q : sub8 n g = true
    · rw [if_pos ((sub8_iff (show n < 2 ^ 20 by omega)).mpr q), m_worth h, bnd_e, nI_1 n]
      by_cases e : WO μ (nI n) = x
      · have s : such μ g x n = true := by unfold such; rw [q, decide_eq_true e]; rfl
        rw [if_pos e, m_has, bnd_e]
        by_cases hb : (nI n >>> (nI k &&& 31)) &&& 1 = 0
        · have t : hasB k n = false := by unfold hasB; simp [hb]
          rw [if_pos hb, if_pos rfl, nI_1]
          rw [s, t] at go
          exact go
        · have t : hasB k n = true := by unfold hasB; simp [hb]
          rw [if_neg hb, if_neg n10, nI_1]
          rw [s, t] at go
          exact go
      · have s : such μ g x n = false := by unfold such; rw [q, decide_eq_false e]; rfl
        rw [if_neg e]
        rw [s] at go
        exact go
    · have s : such μ g x n = false := by
        unfold such
        have q' : sub8 n g = false := by simpa using q
        rw [q']; rfl
      rw [if_neg (fun z => q ((sub8_iff (show n < 2 ^ 20 by omega)).mp z)), nI_1 n]
      rw [s] at go
      exact go
end Pure32
