section Pure3
theorem a6 (p : Nat) : (6 : Int32) + nI p = nI (6 + p) := nI_add 6 p
theorem a12 (p : Nat) : (12 : Int32) + nI p = nI (12 + p) := nI_add 12 p
theorem a18 (p : Nat) : (18 : Int32) + nI p = nI (18 + p) := nI_add 18 p
theorem in26 : inb (26 : Int32) 27 = true := by decide
theorem ix26 : ix (26 : Int32) = 26 := by decide
theorem bv1 (y : BitVec 32) : y &&& 1#32 = BitVec.ofNat 32 (y.toNat % 2) := by
  apply BitVec.eq_of_toNat_eq
  rw [BitVec.toNat_and, BitVec.toNat_ofNat, BitVec.toNat_ofNat, show 1 % 2 ^ 32 = 1 from rfl, Nat.and_one_is_mod]
  omega
theorem and1_n (x : Int32) : x &&& 1 = nI (x.toBitVec.toNat % 2) := Int32.toBitVec_inj.mp (bv1 x.toBitVec)
theorem and1 (x : Int32) : x &&& 1 = 0 ∨ x &&& 1 = 1 := by
  rw [and1_n]
  rcases Nat.mod_two_eq_zero_or_one x.toBitVec.toNat with h | h <;> rw [h]
  · exact Or.inl rfl
  · exact Or.inr rfl
theorem nI_and1 {D : Nat} (h : D < 2 ^ 31) : nI D &&& 1 = nI (D % 2) := by
  rw [and1_n, show (nI D).toBitVec = BitVec.ofNat 32 D from rfl, BitVec.toNat_ofNat, Nat.mod_eq_of_lt (show D < 2 ^ 32 by omega)]
section
variable {V : VT} {c b B : Nat} {μ ν : Mem}
theorem Rel.c6 (h : Rel V c b B μ ν) : c ≤ 6 := h.1.1
theorem Rel.b8 (h : Rel V c b B μ ν) : b ≤ 8 := h.2.1.1
theorem Rel.men (h : Rel V c b B μ ν) : gI μ 5 5 = nI c := h.1.2.1
theorem Rel.menM (h : Rel V c b B μ ν) : gI ν 122 1 = nI c := h.1.2.2.1
theorem Rel.wit (h : Rel V c b B μ ν) : gI μ 11 3 = nI b := h.2.1.2.1
theorem Rel.witM (h : Rel V c b B μ ν) : gI ν 122 8 = nI b := h.2.1.2.2.1
theorem Rel.bears (h : Rel V c b B μ ν) {p : Nat} (hp : p < c) : gI ν 124 p = gI μ 6 p := (h.1.2.2.2 p hp).1
theorem Rel.fear (h : Rel V c b B μ ν) {p : Nat} (hp : p < c) : gI ν 125 p = gI μ 7 p := (h.1.2.2.2 p hp).2.1
theorem Rel.dumb (h : Rel V c b B μ ν) {p : Nat} (hp : p < c) : gI ν 126 p = gI μ 8 p := (h.1.2.2.2 p hp).2.2.1
theorem Rel.heir (h : Rel V c b B μ ν) {p : Nat} (hp : p < c) : gI ν 127 p = gI μ 9 p := (h.1.2.2.2 p hp).2.2.2.1
theorem Rel.goods (h : Rel V c b B μ ν) {p : Nat} (hp : p < c) : gI ν 128 p = gI μ 10 p := (h.1.2.2.2 p hp).2.2.2.2.1
theorem Rel.heir4 (h : Rel V c b B μ ν) {p : Nat} (hp : p < c) : ∃ s, s < 4 ∧ gI μ 9 p = nI s := (h.1.2.2.2 p hp).2.2.2.2.2.1
theorem Rel.goods8 (h : Rel V c b B μ ν) {p : Nat} (hp : p < c) : ∃ s, s < 256 ∧ gI μ 10 p = nI s := (h.1.2.2.2 p hp).2.2.2.2.2.2
theorem Rel.who (h : Rel V c b B μ ν) {w : Nat} (hw : w < b) : gI ν 130 w = gI μ 12 w := (h.2.1.2.2.2 w hw).1
theorem Rel.fade (h : Rel V c b B μ ν) {w : Nat} (hw : w < b) : gI ν 131 w = gI μ 14 w := (h.2.1.2.2.2 w hw).2.1
theorem Rel.fade9 (h : Rel V c b B μ ν) {w : Nat} (hw : w < b) : ∃ s, s ≤ 9 ∧ gI μ 14 w = nI s := (h.2.1.2.2.2 w hw).2.2
theorem Rel.val (h : Rel V c b B μ ν) {g : Nat} (hg : g < 8) : gI ν 129 g = gI μ 27 g := (h.2.2.1.1 g hg).1
theorem Rel.val99 (h : Rel V c b B μ ν) {g : Nat} (hg : g < 8) : ∃ s, s ≤ 99 ∧ gI μ 27 g = nI s := (h.2.2.1.1 g hg).2
theorem Rel.ends (h : Rel V c b B μ ν) {e : Nat} (he : e < 4) : gI ν 132 e = gI μ 25 e := (h.2.2.1.2.1 e he).1
theorem Rel.ends3 (h : Rel V c b B μ ν) {e : Nat} (he : e < 4) : ∃ s, s < 3 ∧ gI μ 25 e = nI s := (h.2.2.1.2.1 e he).2
theorem Rel.endM (h : Rel V c b B μ ν) : gI ν 122 12 = gI μ 0 14 := h.2.2.1.2.2.1
theorem Rel.end99 (h : Rel V c b B μ ν) : ∃ e, 1 ≤ e ∧ e ≤ 99 ∧ gI μ 0 14 = nI e := h.2.2.1.2.2.2
theorem Rel.hl0 (h : Rel V c b B μ ν) : Rh c B μ ν := h.2.2.2.1
def Rh2 (c B : Nat) (μ ν : Mem) : Prop := (∀ j, j < 27 → gI ν 140 j = hl μ 38 j) ∧ HOk c B (hl μ 38)
theorem hl_0 {h p : Nat} (hp : p < 6) : hl μ h p = gI μ (h + 1) p := by unfold hl; rw [if_pos hp]
theorem hl_1 {h p : Nat} (hp : p < 6) : hl μ h (6 + p) = gI μ (h + 2) p := by
  unfold hl; rw [if_neg (by omega), if_pos (by omega), show 6 + p - 6 = p by omega]
theorem hl_2 {h p : Nat} (hp : p < 6) : hl μ h (12 + p) = gI μ (h + 3) p := by
  unfold hl; rw [if_neg (by omega), if_neg (by omega), if_pos (by omega), show 12 + p - 12 = p by omega]
theorem hl_3 {h p : Nat} (hp : p < 8) : hl μ h (18 + p) = gI μ (h + 4) p := by
  unfold hl; rw [if_neg (by omega), if_neg (by omega), if_neg (by omega), if_pos (by omega), show 18 + p - 18 = p by omega]
theorem hl_4 {h : Nat} : hl μ h 26 = gI μ h 4 := rfl
theorem st_33 (h : Rh c B μ ν) {p : Nat} (hp : p < 6) : gI ν 123 p = gI μ 34 p := (h.1 p (by omega)).trans (hl_0 hp)
theorem laid_33 (h : Rh c B μ ν) {p : Nat} (hp : p < 6) : gI ν 123 (6 + p) = gI μ 35 p := (h.1 _ (by omega)).trans (hl_1 hp)
theorem borne_33 (h : Rh c B μ ν) {p : Nat} (hp : p < 6) : gI ν 123 (12 + p) = gI μ 36 p := (h.1 _ (by omega)).trans (hl_2 hp)
theorem word_33 (h : Rh c B μ ν) {p : Nat} (hp : p < 8) : gI ν 123 (18 + p) = gI μ 37 p := (h.1 _ (by omega)).trans (hl_3 hp)
theorem day_33 (h : Rh c B μ ν) : gI ν 123 26 = gI μ 33 4 := h.1 26 (by omega)
theorem st5_33 (h : Rh c B μ ν) {p : Nat} (hp : p < 6) : ∃ s, s ≤ 5 ∧ gI μ 34 p = nI s := by
  obtain ⟨s, h1, h2⟩ := h.2.1 p hp
  exact ⟨s, h1, (hl_0 hp).symm.trans h2⟩
theorem laid99_33 (h : Rh c B μ ν) {p : Nat} (hp : p < 6) : ∃ s, s ≤ 99 ∧ gI μ 35 p = nI s := by
  obtain ⟨s, h1, h2⟩ := h.2.2.1 p hp
  exact ⟨s, h1, (hl_1 hp).symm.trans h2⟩
theorem st0_33 (h : Rh c B μ ν) {p : Nat} (hc : c ≤ p) (hp : p < 6) : gI μ 34 p = 0 := (hl_0 hp).symm.trans (h.2.2.2.1 p hc hp)
theorem word99_33 (h : Rh c B μ ν) {p : Nat} (hp : p < 8) : ∃ s, s ≤ 99 ∧ gI μ 37 p = nI s := by
  obtain ⟨s, h1, h2⟩ := h.2.2.2.2.1 p hp
  exact ⟨s, h1, (hl_3 hp).symm.trans h2⟩
theorem dayB_33 (h : Rh c B μ ν) : ∃ d, d ≤ B ∧ gI μ 33 4 = nI d := h.2.2.2.2.2
theorem st_38 (h : Rh2 c B μ ν) {p : Nat} (hp : p < 6) : gI ν 140 p = gI μ 39 p := (h.1 p (by omega)).trans (hl_0 hp)
theorem laid_38 (h : Rh2 c B μ ν) {p : Nat} (hp : p < 6) : gI ν 140 (6 + p) = gI μ 40 p := (h.1 _ (by omega)).trans (hl_1 hp)
theorem borne_38 (h : Rh2 c B μ ν) {p : Nat} (hp : p < 6) : gI ν 140 (12 + p) = gI μ 41 p := (h.1 _ (by omega)).trans (hl_2 hp)
theorem word_38 (h : Rh2 c B μ ν) {p : Nat} (hp : p < 8) : gI ν 140 (18 + p) = gI μ 42 p := (h.1 _ (by omega)).trans (hl_3 hp)
theorem day_38 (h : Rh2 c B μ ν) : gI ν 140 26 = gI μ 38 4 := h.1 26 (by omega)
theorem st5_38 (h : Rh2 c B μ ν) {p : Nat} (hp : p < 6) : ∃ s, s ≤ 5 ∧ gI μ 39 p = nI s := by
  obtain ⟨s, h1, h2⟩ := h.2.1 p hp
  exact ⟨s, h1, (hl_0 hp).symm.trans h2⟩
theorem laid99_38 (h : Rh2 c B μ ν) {p : Nat} (hp : p < 6) : ∃ s, s ≤ 99 ∧ gI μ 40 p = nI s := by
  obtain ⟨s, h1, h2⟩ := h.2.2.1 p hp
  exact ⟨s, h1, (hl_1 hp).symm.trans h2⟩
theorem st0_38 (h : Rh2 c B μ ν) {p : Nat} (hc : c ≤ p) (hp : p < 6) : gI μ 39 p = 0 := (hl_0 hp).symm.trans (h.2.2.2.1 p hc hp)
theorem word99_38 (h : Rh2 c B μ ν) {p : Nat} (hp : p < 8) : ∃ s, s ≤ 99 ∧ gI μ 42 p = nI s := by
  obtain ⟨s, h1, h2⟩ := h.2.2.2.2.1 p hp
  exact ⟨s, h1, (hl_3 hp).symm.trans h2⟩
theorem dayB_38 (h : Rh2 c B μ ν) : ∃ d, d ≤ B ∧ gI μ 38 4 = nI d := h.2.2.2.2.2
def PFs (who word fade : Nat → Int32) (x n : Int32) : Nat → Nat → Int32 → Int32
  | _, 0, a => a
  | w, m + 1, a => PFs who word fade x n (w + 1) m (a + (if who w = x then imax 0 (word w - fade w * n) else 0))
theorem PFs_cg {who word fade who' word' fade' : Nat → Int32} (x n : Int32) : ∀ (m w : Nat) (a : Int32), (∀ i, i < w + m → who i = who' i ∧ word i = word' i ∧ fade i = fade' i) → PFs who word fade x n w m a = PFs who' word' fade' x n w m a
  | 0, _, _, _ => rfl
  | m + 1, w, a, h => by
    have q := h w (by omega)
    simp only [PFs, q.1, q.2.1, q.2.2]
    exact PFs_cg x n m (w + 1) _ (fun i hi => h i (by omega))
theorem cPF_33 (hw : gI μ 11 3 = nI b) (hb : b ≤ 8) (x k : Int32) : ∀ (m n w : Nat) (a : Int32), w + m = b → m < n → fX4_proofIn_33_b5 n x k a (nI w) μ = some (PFs (gI μ 12) (gI μ 37) (gI μ 14) x k w m a, μ) := by
  intro m
  induction m with
  | zero =>
    intro n w a h1 h2
    obtain ⟨n, rfl⟩ := Nat.exists_eq_succ_of_ne_zero (show n ≠ 0 by omega)
    rw [fX4_proofIn_33_b5, hw, if_pos (nI_le (by omega) (by omega))]
    rfl
  | succ m ih =>
    intro n w a h1 h2
    obtain ⟨n, rfl⟩ := Nat.exists_eq_succ_of_ne_zero (show n ≠ 0 by omega)
    rw [fX4_proofIn_33_b5, hw, if_neg (nI_ge (by omega) (by omega))]
    simp (disch := omega) only [gd_in, ix_nI, fX4_wordIn_33, bnd_e, lt_e, nI_1, PFs]
    rw [ih n (w + 1) _ (by omega) (by omega), ih n (w + 1) _ (by omega) (by omega)]
    by_cases e : gI μ 12 w = x
    · rw [if_pos e, if_pos e]
    · rw [if_neg e, if_neg e]
theorem mPF_123 (hw : gI ν 122 8 = nI b) (hb : b ≤ 8) (x k : Int32) : ∀ (m n w : Nat) (a : Int32), w + m = b → m < n → fX12_proofIn_122_123_b6 n x k a (nI w) ν = some (PFs (gI ν 130) (fun w => gI ν 123 (18 + w)) (gI ν 131) x k w m a, ν) := by
  intro m
  induction m with
  | zero =>
    intro n w a h1 h2
    obtain ⟨n, rfl⟩ := Nat.exists_eq_succ_of_ne_zero (show n ≠ 0 by omega)
    rw [fX12_proofIn_122_123_b6, hw, if_pos (nI_le (by omega) (by omega))]
    rfl
  | succ m ih =>
    intro n w a h1 h2
    obtain ⟨n, rfl⟩ := Nat.exists_eq_succ_of_ne_zero (show n ≠ 0 by omega)
    rw [fX12_proofIn_122_123_b6, hw, if_neg (nI_ge (by omega) (by omega))]
    simp (disch := omega) only [gd_in, ix_nI, bnd_e, lt_e, nI_1, PFs, a18]
    rw [ih n (w + 1) _ (by omega) (by omega), ih n (w + 1) _ (by omega) (by omega), Int32.mul_comm k]
    by_cases e : gI ν 130 w = x
    · rw [if_pos e, if_pos e]
    · rw [if_neg e, if_neg e]
def PF_33 (b : Nat) (μ : Mem) (x k : Int32) : Int32 := PFs (gI μ 12) (gI μ 37) (gI μ 14) x k 0 b 0
theorem c_proof_33 (h : Rel V c b B μ ν) (x k : Int32) : fX4_proofIn_33 x k μ = some (PF_33 b μ x k, μ) := cPF_33 h.wit h.b8 x k b FU 0 0 (by omega) (Nat.lt_of_le_of_lt h.b8 (by decide))
theorem m_proof_123 (h : Rel V c b B μ ν) (hh : Rh c B μ ν) (x k : Int32) : fX12_proofIn_122_123 x k ν = some (PF_33 b μ x k, ν) := by
  rw [show fX12_proofIn_122_123 x k ν = _ from mPF_123 h.witM h.b8 x k b FU 0 0 (by omega) (Nat.lt_of_le_of_lt h.b8 (by decide))]
  have hb := h.b8
  unfold PF_33
  rw [PFs_cg x k b 0 0 (who' := gI μ 12) (word' := gI μ 37) (fade' := gI μ 14)]
  intro i hi
  exact ⟨h.who (by omega), word_33 hh (by omega), h.fade (by omega)⟩
theorem cPF_38 (hw : gI μ 11 3 = nI b) (hb : b ≤ 8) (x k : Int32) : ∀ (m n w : Nat) (a : Int32), w + m = b → m < n → fX4_proofIn_38_b5 n x k a (nI w) μ = some (PFs (gI μ 12) (gI μ 42) (gI μ 14) x k w m a, μ) := by
  intro m
  induction m with
  | zero =>
    intro n w a h1 h2
    obtain ⟨n, rfl⟩ := Nat.exists_eq_succ_of_ne_zero (show n ≠ 0 by omega)
    rw [fX4_proofIn_38_b5, hw, if_pos (nI_le (by omega) (by omega))]
    rfl
  | succ m ih =>
    intro n w a h1 h2
    obtain ⟨n, rfl⟩ := Nat.exists_eq_succ_of_ne_zero (show n ≠ 0 by omega)
    rw [fX4_proofIn_38_b5, hw, if_neg (nI_ge (by omega) (by omega))]
    simp (disch := omega) only [gd_in, ix_nI, fX4_wordIn_38, bnd_e, lt_e, nI_1, PFs]
    rw [ih n (w + 1) _ (by omega) (by omega), ih n (w + 1) _ (by omega) (by omega)]
    by_cases e : gI μ 12 w = x
    · rw [if_pos e, if_pos e]
    · rw [if_neg e, if_neg e]
theorem mPF_140 (hw : gI ν 122 8 = nI b) (hb : b ≤ 8) (x k : Int32) : ∀ (m n w : Nat) (a : Int32), w + m = b → m < n → fX12_proofIn_122_140_b6 n x k a (nI w) ν = some (PFs (gI ν 130) (fun w => gI ν 140 (18 + w)) (gI ν 131) x k w m a, ν) := by
  intro m
  induction m with
  | zero =>
    intro n w a h1 h2
    obtain ⟨n, rfl⟩ := Nat.exists_eq_succ_of_ne_zero (show n ≠ 0 by omega)
    rw [fX12_proofIn_122_140_b6, hw, if_pos (nI_le (by omega) (by omega))]
    rfl
  | succ m ih =>
    intro n w a h1 h2
    obtain ⟨n, rfl⟩ := Nat.exists_eq_succ_of_ne_zero (show n ≠ 0 by omega)
    rw [fX12_proofIn_122_140_b6, hw, if_neg (nI_ge (by omega) (by omega))]
    simp (disch := omega) only [gd_in, ix_nI, bnd_e, lt_e, nI_1, PFs, a18]
    rw [ih n (w + 1) _ (by omega) (by omega), ih n (w + 1) _ (by omega) (by omega), Int32.mul_comm k]
    by_cases e : gI ν 130 w = x
    · rw [if_pos e, if_pos e]
    · rw [if_neg e, if_neg e]
def PF_38 (b : Nat) (μ : Mem) (x k : Int32) : Int32 := PFs (gI μ 12) (gI μ 42) (gI μ 14) x k 0 b 0
theorem c_proof_38 (h : Rel V c b B μ ν) (x k : Int32) : fX4_proofIn_38 x k μ = some (PF_38 b μ x k, μ) := cPF_38 h.wit h.b8 x k b FU 0 0 (by omega) (Nat.lt_of_le_of_lt h.b8 (by decide))
theorem m_proof_140 (h : Rel V c b B μ ν) (hh : Rh2 c B μ ν) (x k : Int32) : fX12_proofIn_122_140 x k ν = some (PF_38 b μ x k, ν) := by
  rw [show fX12_proofIn_122_140 x k ν = _ from mPF_140 h.witM h.b8 x k b FU 0 0 (by omega) (Nat.lt_of_le_of_lt h.b8 (by decide))]
  have hb := h.b8
  unfold PF_38
  rw [PFs_cg x k b 0 0 (who' := gI μ 12) (word' := gI μ 42) (fade' := gI μ 14)]
  intro i hi
  exact ⟨h.who (by omega), word_38 hh (by omega), h.fade (by omega)⟩
end
end Pure3
