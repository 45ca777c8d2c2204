section Pure4
variable {V : VT} {c b B : Nat} {μ ν : Mem}
theorem fu_lt {n : Nat} (h : n < 1000) : n < FU := h
def KDs (st : Nat → Int32) (k : Int32) : Nat → Nat → Int32 → Int32
  | _, 0, a => a
  | p, m + 1, a => KDs st k (p + 1) m (a ||| (if st p = k then (1 : Int32) <<< (nI p &&& 31) else 0))
theorem KDs_cg {st st' : Nat → Int32} (k : Int32) : ∀ (m p : Nat) (a : Int32), (∀ i, i < p + m → st i = st' i) → KDs st k p m a = KDs st' k p m a
  | 0, _, _, _ => rfl
  | m + 1, p, a, h => by
    simp only [KDs, h p (by omega)]
    exact KDs_cg k m (p + 1) _ (fun i hi => h i (by omega))
theorem cKD_33 (hc : gI μ 5 5 = nI c) (h6 : c ≤ 6) (k : Int32) : ∀ (m n p : Nat) (a : Int32), p + m = c → m < n → fX4_thoseWho_33_b4 n k a (nI p) μ = some (KDs (gI μ 34) k p m a, μ) := by
  intro m
  induction m with
  | zero =>
    intro n p a h1 h2
    obtain ⟨n, rfl⟩ := Nat.exists_eq_succ_of_ne_zero (show n ≠ 0 by omega)
    rw [fX4_thoseWho_33_b4, hc, if_pos (nI_le (by omega) (by omega))]
    rfl
  | succ m ih =>
    intro n p a h1 h2
    obtain ⟨n, rfl⟩ := Nat.exists_eq_succ_of_ne_zero (show n ≠ 0 by omega)
    rw [fX4_thoseWho_33_b4, hc, if_neg (nI_ge (by omega) (by omega))]
    simp (disch := omega) only [gd_in, ix_nI, lt_e, nI_1, KDs]
    rw [ih n (p + 1) _ (by omega) (by omega), ih n (p + 1) _ (by omega) (by omega)]
    by_cases e : gI μ 34 p = k
    · rw [if_pos e, if_pos e]
    · rw [if_neg e, if_neg e]
theorem mKD_123 (hc : gI ν 122 1 = nI c) (h6 : c ≤ 6) (k : Int32) : ∀ (m n p : Nat) (a : Int32), p + m = c → m < n → fX12_ofKind_122_123_b5 n k a (nI p) ν = some (KDs (gI ν 123) k p m a, ν) := by
  intro m
  induction m with
  | zero =>
    intro n p a h1 h2
    obtain ⟨n, rfl⟩ := Nat.exists_eq_succ_of_ne_zero (show n ≠ 0 by omega)
    rw [fX12_ofKind_122_123_b5, hc, if_pos (nI_le (by omega) (by omega))]
    rfl
  | succ m ih =>
    intro n p a h1 h2
    obtain ⟨n, rfl⟩ := Nat.exists_eq_succ_of_ne_zero (show n ≠ 0 by omega)
    rw [fX12_ofKind_122_123_b5, hc, if_neg (nI_ge (by omega) (by omega))]
    simp (disch := omega) only [gd_in, ix_nI, lt_e, nI_1, KDs]
    rw [ih n (p + 1) _ (by omega) (by omega), ih n (p + 1) _ (by omega) (by omega)]
    by_cases e : gI ν 123 p = k
    · rw [if_pos e, if_pos e]
    · rw [if_neg e, if_neg e]
def KD_33 (c : Nat) (μ : Mem) (k : Int32) : Int32 := KDs (gI μ 34) k 0 c 0
theorem c_kind_33 (h : Rel V c b B μ ν) (k : Int32) : fX4_thoseWho_33 k μ = some (KD_33 c μ k, μ) := cKD_33 h.men h.c6 k c FU 0 0 (by omega) (fu_lt (Nat.lt_of_le_of_lt h.c6 (by decide)))
theorem m_kind_123 (h : Rel V c b B μ ν) (hh : Rh c B μ ν) (k : Int32) : fX12_ofKind_122_123 k ν = some (KD_33 c μ k, ν) := by
  rw [show fX12_ofKind_122_123 k ν = _ from mKD_123 h.menM h.c6 k c FU 0 0 (by omega) (fu_lt (Nat.lt_of_le_of_lt h.c6 (by decide)))]
  have h6 := h.c6
  unfold KD_33
  rw [KDs_cg k c 0 0 (st' := gI μ 34)]
  intro i hi
  exact st_33 hh (by omega)
theorem cKD_38 (hc : gI μ 5 5 = nI c) (h6 : c ≤ 6) (k : Int32) : ∀ (m n p : Nat) (a : Int32), p + m = c → m < n → fX4_thoseWho_38_b4 n k a (nI p) μ = some (KDs (gI μ 39) k p m a, μ) := by
  intro m
  induction m with
  | zero =>
    intro n p a h1 h2
    obtain ⟨n, rfl⟩ := Nat.exists_eq_succ_of_ne_zero (show n ≠ 0 by omega)
    rw [fX4_thoseWho_38_b4, hc, if_pos (nI_le (by omega) (by omega))]
    rfl
  | succ m ih =>
    intro n p a h1 h2
    obtain ⟨n, rfl⟩ := Nat.exists_eq_succ_of_ne_zero (show n ≠ 0 by omega)
    rw [fX4_thoseWho_38_b4, hc, if_neg (nI_ge (by omega) (by omega))]
    simp (disch := omega) only [gd_in, ix_nI, lt_e, nI_1, KDs]
    rw [ih n (p + 1) _ (by omega) (by omega), ih n (p + 1) _ (by omega) (by omega)]
    by_cases e : gI μ 39 p = k
    · rw [if_pos e, if_pos e]
    · rw [if_neg e, if_neg e]
theorem mKD_140 (hc : gI ν 122 1 = nI c) (h6 : c ≤ 6) (k : Int32) : ∀ (m n p : Nat) (a : Int32), p + m = c → m < n → fX12_ofKind_122_140_b5 n k a (nI p) ν = some (KDs (gI ν 140) k p m a, ν) := by
  intro m
  induction m with
  | zero =>
    intro n p a h1 h2
    obtain ⟨n, rfl⟩ := Nat.exists_eq_succ_of_ne_zero (show n ≠ 0 by omega)
    rw [fX12_ofKind_122_140_b5, hc, if_pos (nI_le (by omega) (by omega))]
    rfl
  | succ m ih =>
    intro n p a h1 h2
    obtain ⟨n, rfl⟩ := Nat.exists_eq_succ_of_ne_zero (show n ≠ 0 by omega)
    rw [fX12_ofKind_122_140_b5, hc, if_neg (nI_ge (by omega) (by omega))]
    simp (disch := omega) only [gd_in, ix_nI, lt_e, nI_1, KDs]
    rw [ih n (p + 1) _ (by omega) (by omega), ih n (p + 1) _ (by omega) (by omega)]
    by_cases e : gI ν 140 p = k
    · rw [if_pos e, if_pos e]
    · rw [if_neg e, if_neg e]
def KD_38 (c : Nat) (μ : Mem) (k : Int32) : Int32 := KDs (gI μ 39) k 0 c 0
theorem c_kind_38 (h : Rel V c b B μ ν) (k : Int32) : fX4_thoseWho_38 k μ = some (KD_38 c μ k, μ) := cKD_38 h.men h.c6 k c FU 0 0 (by omega) (fu_lt (Nat.lt_of_le_of_lt h.c6 (by decide)))
theorem m_kind_140 (h : Rel V c b B μ ν) (hh : Rh2 c B μ ν) (k : Int32) : fX12_ofKind_122_140 k ν = some (KD_38 c μ k, ν) := by
  rw [show fX12_ofKind_122_140 k ν = _ from mKD_140 h.menM h.c6 k c FU 0 0 (by omega) (fu_lt (Nat.lt_of_le_of_lt h.c6 (by decide)))]
  have h6 := h.c6
  unfold KD_38
  rw [KDs_cg k c 0 0 (st' := gI μ 39)]
  intro i hi
  exact st_38 hh (by omega)
def AGs (g : Nat → Int32) : Nat → Nat → Int32 → Int32
  | _, 0, a => a
  | p, m + 1, a => AGs g (p + 1) m (a ||| g p)
theorem AGs_cg {g g' : Nat → Int32} : ∀ (m p : Nat) (a : Int32), (∀ i, i < p + m → g i = g' i) → AGs g p m a = AGs g' p m a
  | 0, _, _, _ => rfl
  | m + 1, p, a, h => by
    simp only [AGs, h p (by omega)]
    exact AGs_cg m (p + 1) _ (fun i hi => h i (by omega))
theorem cAG (hc : gI μ 5 5 = nI c) (h6 : c ≤ 6) : ∀ (m n p : Nat) (a : Int32), p + m = c → m < n → fX3_allGoods_5_b4 n a (nI p) μ = some (AGs (gI μ 10) p m a, μ) := by
  intro m
  induction m with
  | zero =>
    intro n p a h1 h2
    obtain ⟨n, rfl⟩ := Nat.exists_eq_succ_of_ne_zero (show n ≠ 0 by omega)
    rw [fX3_allGoods_5_b4, hc, if_pos (nI_le (by omega) (by omega))]
    rfl
  | succ m ih =>
    intro n p a h1 h2
    obtain ⟨n, rfl⟩ := Nat.exists_eq_succ_of_ne_zero (show n ≠ 0 by omega)
    rw [fX3_allGoods_5_b4, hc, if_neg (nI_ge (by omega) (by omega))]
    simp (disch := omega) only [gd_in, ix_nI, lt_e, nI_1, AGs]
    rw [ih n (p + 1) _ (by omega) (by omega)]
theorem mAG (hc : gI ν 122 1 = nI c) (h6 : c ≤ 6) : ∀ (m n p : Nat) (a : Int32), p + m = c → m < n → fX12_allGoods_122_b4 n a (nI p) ν = some (AGs (gI ν 128) p m a, ν) := by
  intro m
  induction m with
  | zero =>
    intro n p a h1 h2
    obtain ⟨n, rfl⟩ := Nat.exists_eq_succ_of_ne_zero (show n ≠ 0 by omega)
    rw [fX12_allGoods_122_b4, hc, if_pos (nI_le (by omega) (by omega))]
    rfl
  | succ m ih =>
    intro n p a h1 h2
    obtain ⟨n, rfl⟩ := Nat.exists_eq_succ_of_ne_zero (show n ≠ 0 by omega)
    rw [fX12_allGoods_122_b4, hc, if_neg (nI_ge (by omega) (by omega))]
    simp (disch := omega) only [gd_in, ix_nI, lt_e, nI_1, AGs]
    rw [ih n (p + 1) _ (by omega) (by omega)]
def AG (c : Nat) (μ : Mem) : Int32 := AGs (gI μ 10) 0 c 0
theorem c_goods' (hm : gI μ 5 5 = nI c) (h6 : c ≤ 6) : fX3_allGoods_5 μ = some (AG c μ, μ) := cAG hm h6 c FU 0 0 (by omega) (fu_lt (Nat.lt_of_le_of_lt h6 (by decide)))
theorem c_goods (h : Rel V c b B μ ν) : fX3_allGoods_5 μ = some (AG c μ, μ) := c_goods' h.men h.c6
theorem m_goods (h : Rel V c b B μ ν) : fX12_allGoods_122 ν = some (AG c μ, ν) := by
  rw [show fX12_allGoods_122 ν = _ from mAG h.menM h.c6 c FU 0 0 (by omega) (fu_lt (Nat.lt_of_le_of_lt h.c6 (by decide)))]
  unfold AG
  rw [AGs_cg c 0 0 (g' := gI μ 10)]
  intro i hi
  exact h.goods (by omega)
def WOs (val : Nat → Int32) (x : Int32) : Nat → Nat → Int32 → Int32
  | _, 0, a => a
  | g, m + 1, a => WOs val x (g + 1) m (a + (if (x >>> (nI g &&& 31)) &&& 1 = 0 then 0 else val g))
theorem WOs_cg {g g' : Nat → Int32} (x : Int32) : ∀ (m p : Nat) (a : Int32), (∀ i, i < p + m → g i = g' i) → WOs g x p m a = WOs g' x p m a
  | 0, _, _, _ => rfl
  | m + 1, p, a, h => by
    simp only [WOs, h p (by omega)]
    exact WOs_cg x m (p + 1) _ (fun i hi => h i (by omega))
theorem l8 : (8 : Int32) = nI 8 := rfl
theorem cWO (x : Int32) : ∀ (m n p : Nat) (a : Int32), p + m = 8 → m < n → fX2_worthOf_24_b4 n x a (nI p) μ = some (WOs (gI μ 27) x p m a, μ) := by
  intro m
  induction m with
  | zero =>
    intro n p a h1 h2
    obtain ⟨n, rfl⟩ := Nat.exists_eq_succ_of_ne_zero (show n ≠ 0 by omega)
    rw [fX2_worthOf_24_b4, l8, if_pos (nI_le (by omega) (by omega))]
    rfl
  | succ m ih =>
    intro n p a h1 h2
    obtain ⟨n, rfl⟩ := Nat.exists_eq_succ_of_ne_zero (show n ≠ 0 by omega)
    rw [fX2_worthOf_24_b4, l8, if_neg (nI_ge (by omega) (by omega))]
    simp (disch := omega) only [gd_in, ix_nI, lt_e, nI_1, WOs]
    rw [ih n (p + 1) _ (by omega) (by omega), ih n (p + 1) _ (by omega) (by omega)]
    by_cases e : (x >>> (nI p &&& 31)) &&& 1 = 0
    · rw [if_pos e, if_pos e]
    · rw [if_neg e, if_neg e]
theorem m_has (x y : Int32) : fX12_has x y ν = some (if (x >>> (y &&& 31)) &&& 1 = 0 then 0 else 1, ν) := by
  unfold fX12_has
  rcases and1 (x >>> (y &&& 31)) with e | e
  · rw [e]; rfl
  · rw [e]; rfl
theorem mWO (x : Int32) : ∀ (m n p : Nat) (a : Int32), p + m = 8 → m < n → fX12_valuesOf_122_b4 n x a (nI p) ν = some (WOs (gI ν 129) x p m a, ν) := by
  intro m
  induction m with
  | zero =>
    intro n p a h1 h2
    obtain ⟨n, rfl⟩ := Nat.exists_eq_succ_of_ne_zero (show n ≠ 0 by omega)
    rw [fX12_valuesOf_122_b4, l8, if_pos (nI_le (by omega) (by omega))]
    rfl
  | succ m ih =>
    intro n p a h1 h2
    obtain ⟨n, rfl⟩ := Nat.exists_eq_succ_of_ne_zero (show n ≠ 0 by omega)
    rw [fX12_valuesOf_122_b4, l8, if_neg (nI_ge (by omega) (by omega))]
    simp (disch := omega) only [gd_in, ix_nI, lt_e, nI_1, WOs, m_has, bnd_e]
    rw [ih n (p + 1) _ (by omega) (by omega), ih n (p + 1) _ (by omega) (by omega)]
    by_cases e : (x >>> (nI p &&& 31)) &&& 1 = 0
    · rw [if_pos e, if_pos rfl, if_pos e]
    · rw [if_neg e, if_neg (by decide), if_neg e]
def WO (μ : Mem) (x : Int32) : Int32 := WOs (gI μ 27) x 0 8 0
theorem c_worth (x : Int32) : fX2_worthOf_24 x μ = some (WO μ x, μ) := cWO x 8 FU 0 0 rfl (by decide)
theorem m_worth (h : Rel V c b B μ ν) (x : Int32) : fX12_valuesOf_122 x ν = some (WO μ x, ν) := by
  rw [show fX12_valuesOf_122 x ν = _ from mWO x 8 FU 0 0 rfl (by decide)]
  unfold WO
  rw [WOs_cg x 8 0 0 (g' := gI μ 27)]
  intro i hi
  exact h.val (by omega)
theorem m_in (v lo hi : Int32) : fX12_in v lo hi ν = some (if v < lo ∨ hi < v then 0 else 1, ν) := by
  unfold fX12_in
  by_cases h1 : v < lo
  · rw [if_pos h1, if_pos (Or.inl h1)]
  · rw [if_neg h1]
    by_cases h2 : hi < v
    · rw [if_pos h2, if_pos (Or.inr h2)]
    · rw [if_neg h2, if_neg (by rintro (h | h) <;> contradiction)]
theorem isZ0 : isZ 0 = true := by decide
theorem isZ1 : isZ 1 = true := by decide
theorem man_or (h : Rel V c b B μ ν) (v : Int32) : (fX11_isThere_0 v μ = some (0, μ) ∧ fX12_isMan_122 v ν = some (0, ν) ∧ fX4_has_33 v μ = some (0, μ) ∧ fX4_has_38 v μ = some (0, μ)) ∨ (∃ p, p < c ∧ v = nI p ∧ fX11_isThere_0 v μ = some (1, μ) ∧ fX12_isMan_122 v ν = some (1, ν) ∧ fX4_has_33 v μ = some (1, μ) ∧ fX4_has_38 v μ = some (1, μ)) := by
  have h6 := h.c6
  unfold fX11_isThere_0 fX12_isMan_122 fX4_has_33 fX4_has_38
  rw [h.men, h.menM, m_in]
  simp only [bnd_e]
  by_cases h1 : v < 0
  · left
    rw [if_pos h1, if_pos (Or.inl h1)]
    exact ⟨rfl, rfl, rfl, rfl⟩
  · obtain ⟨j, hj, rfl⟩ := nI_of h1
    by_cases h2 : j < c
    · right
      refine ⟨j, h2, rfl, ?_⟩
      have e1 : ¬ nI c ≤ nI j := nI_ge h2 (by omega)
      have e2 : ¬ (nI j < 0 ∨ nI c - 1 < nI j) := by
        rintro (q | q)
        · exact h1 q
        · obtain ⟨c, rfl⟩ := Nat.exists_eq_succ_of_ne_zero (show c ≠ 0 by omega)
          rw [nI_pred] at q
          exact (nI_nlt (by omega) (by omega)) q
      rw [if_neg h1, if_neg e1, if_neg e2]
      exact ⟨rfl, rfl, rfl, rfl⟩
    · left
      have e1 : nI c ≤ nI j := nI_le (by omega) hj
      have e2 : nI j < 0 ∨ nI c - 1 < nI j := by
        right
        by_cases hc : c = 0
        · subst hc
          rw [i_lt, nI_toInt hj]
          have : (nI 0 - 1 : Int32).toInt = -1 := by decide
          omega
        · obtain ⟨c, rfl⟩ := Nat.exists_eq_succ_of_ne_zero hc
          rw [nI_pred]
          exact nI_lt (by omega) hj
      rw [if_neg h1, if_pos e1, if_pos e2]
      exact ⟨rfl, rfl, rfl, rfl⟩
def LV (V : VT) (μ : Mem) (p : Nat) (w x : Int32) (D : Nat) : Int32 := clamp (V (gI μ 6 p) w x (nI (D % 2)) (gI μ 7 p) (nI p))
theorem c_left_33 (h : Rel V c b B μ ν) {p D : Nat} (hp : p < 6) (hD : D < 2 ^ 30) (w x : Int32) : Ev (fun r μ' => r = LV V μ p w x D ∧ Off w22 μ μ') (fX4_leftWith_33 (nI p) w x (nI D) μ) := by
  unfold fX4_leftWith_33
  simp (disch := omega) only [gd_in, ix_nI, nI_and1]
  obtain ⟨r, μ', e, rfl, o⟩ := h.2.2.2.2.2.2.2.2.1 μ (fun _ _ _ => rfl) (gI μ 6 p) w x (nI (D % 2)) (gI μ 7 p) (nI p)
  rw [e]
  exact ⟨_, _, rfl, rfl, o⟩
theorem c_left_38 (h : Rel V c b B μ ν) {p D : Nat} (hp : p < 6) (hD : D < 2 ^ 30) (w x : Int32) : Ev (fun r μ' => r = LV V μ p w x D ∧ Off w22 μ μ') (fX4_leftWith_38 (nI p) w x (nI D) μ) := by
  unfold fX4_leftWith_38
  simp (disch := omega) only [gd_in, ix_nI, nI_and1]
  obtain ⟨r, μ', e, rfl, o⟩ := h.2.2.2.2.2.2.2.2.1 μ (fun _ _ _ => rfl) (gI μ 6 p) w x (nI (D % 2)) (gI μ 7 p) (nI p)
  rw [e]
  exact ⟨_, _, rfl, rfl, o⟩
theorem m_left (h : Rel V c b B μ ν) {p D : Nat} (hp : p < c) (hD : D < 2 ^ 30) (w x : Int32) : Ev (fun r ν' => r = LV V μ p w x D ∧ Off w137 ν ν') (fX12_leftOf_122 (nI p) w x (nI D) ν) := by
  have h6 := h.c6
  obtain ⟨r, ν', e, rfl, o⟩ := h.2.2.2.2.2.2.2.2.2 ν (fun _ _ _ => rfl) p (by omega) w x D hD
  rw [e, h.bears hp, h.fear hp]
  exact ⟨_, _, rfl, rfl, o⟩
theorem Off.rc {P : Nat → Nat → Bool} {μ' : Mem} (h : Rel V c b B μ ν) (o : Off P μ μ') (hp : ∀ k j, P k j = true → scC k j = true) : Rel V c b B μ' ν := h.sc (o.mono hp)
theorem Off.rm {P : Nat → Nat → Bool} {ν' : Mem} (h : Rel V c b B μ ν) (o : Off P ν ν') (hp : ∀ k j, P k j = true → scM k j = true) : Rel V c b B μ ν' := h.sm (o.mono hp)
theorem c_leftNow_33 (h : Rel V c b B μ ν) (hh : Rh c B μ ν) (hB : B < 2 ^ 30) {p d : Nat} (hp : p < 6) (hd : gI μ 33 4 = nI d) (hdB : d ≤ B) : Ev (fun r μ' => r = LV V μ p (gI μ 35 p) (gI μ 36 p) d ∧ Off w22 μ μ') (fX4_leftNow_33 (nI p) μ) := by
  unfold fX4_leftNow_33
  simp (disch := omega) only [gd_in, ix_nI, hd]
  refine ev_bnd (c_left_33 h hp (by omega) _ _) (fun r μ' q => ev_end q)
theorem m_leftNow_123 (h : Rel V c b B μ ν) (hh : Rh c B μ ν) (hB : B < 2 ^ 30) {p d : Nat} (hp : p < c) (hd : gI μ 33 4 = nI d) (hdB : d ≤ B) : Ev (fun r ν' => r = LV V μ p (gI μ 35 p) (gI μ 36 p) d ∧ Off w137 ν ν') (fX12_leftNow_122_123 (nI p) ν) := by
  have h6 := h.c6
  unfold fX12_leftNow_122_123
  simp (disch := omega) only [gd_in, ix_nI, a6, a12, in26, ix26, gd_e, laid_33 hh, borne_33 hh, day_33 hh, hd]
  refine ev_bnd (m_left h hp (by omega) _ _) (fun r μ' q => ev_end q)
theorem c_leftNow_38 (h : Rel V c b B μ ν) (hh : Rh2 c B μ ν) (hB : B < 2 ^ 30) {p d : Nat} (hp : p < 6) (hd : gI μ 38 4 = nI d) (hdB : d ≤ B) : Ev (fun r μ' => r = LV V μ p (gI μ 40 p) (gI μ 41 p) d ∧ Off w22 μ μ') (fX4_leftNow_38 (nI p) μ) := by
  unfold fX4_leftNow_38
  simp (disch := omega) only [gd_in, ix_nI, hd]
  refine ev_bnd (c_left_38 h hp (by omega) _ _) (fun r μ' q => ev_end q)
theorem m_leftNow_140 (h : Rel V c b B μ ν) (hh : Rh2 c B μ ν) (hB : B < 2 ^ 30) {p d : Nat} (hp : p < c) (hd : gI μ 38 4 = nI d) (hdB : d ≤ B) : Ev (fun r ν' => r = LV V μ p (gI μ 40 p) (gI μ 41 p) d ∧ Off w137 ν ν') (fX12_leftNow_122_140 (nI p) ν) := by
  have h6 := h.c6
  unfold fX12_leftNow_122_140
  simp (disch := omega) only [gd_in, ix_nI, a6, a12, in26, ix26, gd_e, laid_38 hh, borne_38 hh, day_38 hh, hd]
  refine ev_bnd (m_left h hp (by omega) _ _) (fun r μ' q => ev_end q)
end Pure4
