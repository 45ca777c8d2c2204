section Pure43
variable {V : VT} {c b B : Nat} {μ ν : Mem} {s : Nat → Nat} {t M a : Nat}
theorem sI2_PC (pc : PC s t M a μ) (x : Nat) : Off wA μ (sI μ 1 2 (nI x)) := (Off.refl μ).sI rfl
theorem num_both (hk : OkT 133 s t M) (pc : PC s t M a μ) (pm : PM 133 s t M a ν) (ha : a ≤ 80) {d : Nat} (h1 : 1 ≤ d) (hd : d ≤ 3) : (∃ v a' μ' ν', fX9_number_1 (nI d) μ = some (nI v, μ') ∧ fX12_number_122 (nI d) ν = some (nI v, ν') ∧ v < 10 ^ d ∧ a < a' ∧ a' ≤ min t M ∧ PC s t M a' μ' ∧ PM 133 s t M a' ν' ∧ Off wA μ μ' ∧ Off wB ν ν') ∨ (fX9_number_1 (nI d) μ = some (-1, μ) ∧ fX12_number_122 (nI d) ν = some (0, sI ν 122 22 (nI a))) := by
  rcases cNum hk pc ha h1 hd with ⟨q1, q2, q3, μ', e1, e2, e3⟩ | ⟨q, e1⟩
  · left
    rcases mNum hk pm ha h1 hd with ⟨-, -, -, ν', f1, f2, f3⟩ | ⟨g, -⟩
    · obtain ⟨l1, l2, l3, l4⟩ := nmS_le (s := s) (st := min t M) (d - 1) (a + 1) (s a - 48)
      refine ⟨_, _, μ', ν', e1, f1, ?_, by omega, l2 (by omega), e2, f2, e3, f3⟩
      have : 10 ^ d = 10 * 10 ^ (d - 1) := by rw [Nat.mul_comm, ← Nat.pow_succ]; congr 1; omega
      have : (s a - 48 + 1) * 10 ^ (d - 1) ≤ 10 * 10 ^ (d - 1) := Nat.mul_le_mul_right _ (by omega)
      omega
    · exact absurd ⟨q1, q2, q3⟩ g
  · right
    rcases mNum hk pm ha h1 hd with ⟨g1, g2, g3, -⟩ | ⟨-, f1⟩
    · exact absurd ⟨g1, g2, g3⟩ q
    · exact ⟨e1, f1⟩
theorem take_both (hk : OkT 133 s t M) (pc : PC s t M a μ) (pm : PM 133 s t M a ν) (ha : a ≤ 80) {x : Nat} (hx : x < 2 ^ 30) : (a < min t M ∧ fX9_takes_1 (nI x) μ = some (1, sI μ 1 2 (nI (a + 1))) ∧ fX12_need_122 (nI x) ν = some ((), sI ν 122 21 (nI (a + 1))) ∧ fX12_passes_122 (nI x) ν = some (1, sI ν 122 21 (nI (a + 1)))) ∨ (¬ (a < min t M ∧ s a = x) ∧ fX9_takes_1 (nI x) μ = some (0, μ) ∧ fX12_need_122 (nI x) ν = some ((), sI ν 122 22 (nI a)) ∧ fX12_passes_122 (nI x) ν = some (0, ν)) := by
  rw [cTake hk pc (by omega) hx, mNeed hk pm (by omega) hx, mPass hk pm (by omega) hx]
  by_cases q : a < min t M ∧ s a = x
  · left
    rw [if_pos q, if_pos q, if_pos q]
    exact ⟨q.1, rfl, rfl, rfl⟩
  · right
    rw [if_neg q, if_neg q, if_neg q]
    exact ⟨q, rfl, rfl, rfl⟩
theorem dig_both (hk : OkT 133 s t M) (pc : PC s t M a μ) (pm : PM 133 s t M a ν) (ha : a ≤ 80) {m : Nat} (hm : m ≤ 10) : (a < min t M ∧ ∃ v, v < m ∧ fX9_digit_1 (nI m) μ = some (nI v, sI μ 1 2 (nI (a + 1))) ∧ fX12_oneOf_122 48 (nI m) ν = some (nI v, sI ν 122 21 (nI (a + 1)))) ∨ (fX9_digit_1 (nI m) μ = some (-1, μ) ∧ fX12_oneOf_122 48 (nI m) ν = some (0, sI ν 122 22 (nI a))) := by
  rw [cDigit hk pc (by omega) (by omega), show fX12_oneOf_122 48 (nI m) ν = _ from mOne (f := 48) (m := m) hk pm (by omega) (by decide) (by omega)]
  by_cases q : a < min t M ∧ 48 ≤ s a ∧ s a < 48 + m
  · left
    rw [if_pos q, if_pos q]
    exact ⟨q.1, s a - 48, by omega, rfl, rfl⟩
  · right
    rw [if_neg q, if_neg q]
    exact ⟨rfl, rfl⟩
theorem xValues {w : Nat} (hw : w < 2 ^ 30) : ∀ (m f g : Nat) (x : Int32) (ν : Mem), g + m = 8 → m < f → gI ν 122 22 = nI w → ∃ ν', fX12_values_122_b15 f x (nI g) ν = some (-1 - nI w, ν') ∧ Off scM ν ν' := by
  intro m
  induction m with
  | zero =>
    intro f g x ν h1 h2 h
    obtain ⟨f, rfl⟩ := Nat.exists_eq_succ_of_ne_zero (show f ≠ 0 by omega)
    rw [fX12_values_122_b15, l8, if_pos (nI_le (by omega) (by omega)), xRight hw h, bnd_e, if_pos rfl, h]
    exact ⟨ν, rfl, Off.refl _⟩
  | succ m ih =>
    intro f g x ν h1 h2 h
    obtain ⟨f, rfl⟩ := Nat.exists_eq_succ_of_ne_zero (show f ≠ 0 by omega)
    obtain ⟨ν', e1, e2⟩ := ih f (g + 1) (x + 0) (sI ν 135 g 0) (by omega) (by omega) h
    refine ⟨ν', ?_, ((Off.refl ν).sI rfl).tr e2⟩
    rw [fX12_values_122_b15, l8, if_neg (nI_ge (by omega) (by omega)), xNeed hw h, bnd_e]
    unfold fX12_values_122_b31
    rw [xNum hw h, bnd_e, gd_in (by omega) (by decide), ix_nI (by omega), lt_e, gd_in (by omega) (by decide), lt_e, show gI (sI ν 135 g 0) 135 g = 0 from by rw [gI_sI, if_pos ⟨rfl, rfl⟩], nI_1]
    by_cases q : nI g ≤ 0
    · rw [if_pos q]; exact e1
    · rw [if_neg q]; exact e1
theorem mValues : ∀ (m f k : Nat) (x : Int32) (ν : Mem), k + m = 8 → m < f → ∃ ν', fX12_values_122_b73 f x (nI k) ν = some (x, ν') ∧ (∀ a j, a ≠ 129 → gI ν' a j = gI ν a j) ∧ (∀ a j, gL ν' a j = gL ν a j) ∧ ∀ i, gI ν' 129 i = if k ≤ i ∧ i < 8 then gI ν 135 i else gI ν 129 i := by
  intro m
  induction m with
  | zero =>
    intro f k x ν h1 h2
    obtain ⟨f, rfl⟩ := Nat.exists_eq_succ_of_ne_zero (show f ≠ 0 by omega)
    rw [fX12_values_122_b73, l8, if_pos (nI_le (by omega) (by omega))]
    exact ⟨ν, rfl, fun _ _ _ => rfl, fun _ _ => rfl, fun i => by rw [if_neg (by omega)]⟩
  | succ m ih =>
    intro f k x ν h1 h2
    obtain ⟨f, rfl⟩ := Nat.exists_eq_succ_of_ne_zero (show f ≠ 0 by omega)
    obtain ⟨ν', a1, a2, a3, a4⟩ := ih f (k + 1) x (sI ν 129 k (gI ν 135 k)) (by omega) (by omega)
    refine ⟨ν', ?_, fun a j ha => ?_, fun a j => a3 a j, fun i => ?_⟩
    · rw [fX12_values_122_b73, l8, if_neg (nI_ge (by omega) (by omega)), gd_in (by omega) (by decide), gd_in (by omega) (by decide), ix_nI (by omega), lt_e, nI_1]
      exact a1
    · rw [a2 a j ha, gI_sI, if_neg (fun z => ha z.1)]
    · have z : gI (sI ν 129 k (gI ν 135 k)) 135 i = gI ν 135 i := by rw [gI_sI, if_neg (by omega)]
      rw [a4 i, z, gI_sI]
      by_cases e : i = k
      · rw [if_neg (by omega), if_pos ⟨rfl, e⟩, if_pos (by omega), e]
      · rw [if_neg (show ¬ (129 = 129 ∧ i = k) from fun z => e z.2)]
        by_cases g : k + 1 ≤ i ∧ i < 8
        · rw [if_pos g, if_pos (by omega)]
        · rw [if_neg g, if_neg (by omega)]
theorem values_in (hk : OkT 133 s t 80) (ht : t ≤ 80) : ∀ (m f f' g a : Nat) (x : Int32) (μ ν : Mem), g + m = 8 → m < f → m < f' → PC s t 80 a μ → PM 133 s t 80 a ν → RT V c b B μ ν → a ≤ t → (∀ i, i < g → gI μ 28 i = gI ν 135 i ∧ ∃ v, v ≤ 99 ∧ gI μ 28 i = nI v) → Sm (fun r μ' r' ν' => r' = r ∧ RT V c b B μ' ν') (fX2_readValues_24_1_b10 f x (nI g) μ) (fX12_values_122_b15 f' x (nI g) ν) := by
  intro m
  induction m with
  | zero =>
    intro f f' g a x μ ν h1 h2 h3 pc pm rt hat hv
    obtain ⟨f, rfl⟩ := Nat.exists_eq_succ_of_ne_zero (show f ≠ 0 by omega)
    obtain ⟨f', rfl⟩ := Nat.exists_eq_succ_of_ne_zero (show f' ≠ 0 by omega)
    obtain rfl : g = 8 := by omega
    rw [fX2_readValues_24_1_b10, fX12_values_122_b15, if_pos (by decide), if_pos (by decide)]
    unfold fX9_isRead_1 fX9_wrong_1
    rw [pc.1, pc.2.1, mRight pm (by omega) (by omega)]
    by_cases q : t = a
    · subst q
      rw [if_pos rfl, bnd_e, if_neg n10, if_pos (Nat.le_refl _), bnd_e, if_neg n10, gd_of cp88, lt_e, show ix 0 = 0 from rfl, show ix 8 = 8 from rfl]
      obtain ⟨ν2, a1, a2, a3, a4⟩ := mValues 8 FU 0 x ν rfl (by decide)
      rw [show fX12_values_122_b73 FU x 0 ν = _ from a1]
      refine sm_end ⟨rfl, Rel.estate rt (fun k j q => ?_) (fun k j q => ?_) (fun _ => rfl) (fun j => a3 134 j) ⟨fun g hg => ?_, fun e he => ?_, ?_, ?_⟩⟩
      · rw [gI_sI, gI_sI]
        by_cases e : k = 1 ∧ j = 1
        · rw [if_pos e, if_pos e]
        · rw [if_neg e, if_neg e, gI_sC, if_neg]
          rintro rfl
          exact Bool.noConfusion q
      · exact a2 k j (by rintro rfl; exact Bool.noConfusion q)
      · rw [gI_sI, if_neg (by omega), gI_sC, if_pos rfl, if_pos (by omega), a4 g, if_pos (by omega), Nat.zero_add, Nat.sub_zero]
        exact ⟨(hv g hg).1.symm, (hv g hg).2⟩
      · rw [gI_sI, if_neg (by omega), gI_sC, if_neg (by decide), a2 132 e (by decide)]
        exact ⟨Rel.ends rt he, Rel.ends3 rt he⟩
      · rw [gI_sI, if_neg (by decide), gI_sC, if_neg (by decide), a2 122 12 (by decide)]
        exact Rel.endM (μ := sI μ 1 1 0) rt
      · rw [gI_sI, if_neg (by decide), gI_sC, if_neg (by decide)]
        exact Rel.end99 (μ := sI μ 1 1 0) rt
    · rw [if_neg (by rw [nI_eq (by omega) (by omega)]; omega), bnd_e, if_pos rfl, pc.2.1, bnd_e, if_neg (by omega), bnd_e, if_pos rfl]
      exact sm_end ⟨rfl, rt.om (P := wB) ((Off.refl ν).sI rfl) (fun _ _ => wB_sc)⟩
  | succ m ih =>
    intro f f' g a x μ ν h1 h2 h3 pc pm rt hat hv
    obtain ⟨f, rfl⟩ := Nat.exists_eq_succ_of_ne_zero (show f ≠ 0 by omega)
    obtain ⟨f', rfl⟩ := Nat.exists_eq_succ_of_ne_zero (show f' ≠ 0 by omega)
    have num : ∀ (a : Nat) (μ ν : Mem), PC s t 80 a μ → PM 133 s t 80 a ν → RT V c b B μ ν → a ≤ t → (∀ i, i < g → gI μ 28 i = gI ν 135 i ∧ ∃ v, v ≤ 99 ∧ gI μ 28 i = nI v) → Sm (fun r μ' r' ν' => r' = r ∧ RT V c b B μ' ν') (fX2_readValues_24_1_b34 (fun p2 p3 m => fX2_readValues_24_1_b10 f p2 p3 m) x (nI g) μ) (fX12_values_122_b31 (fun p1 p2 m => fX12_values_122_b15 f' p1 p2 m) x (nI g) ν) := by
      intro a μ ν pc pm rt hat hv
      unfold fX2_readValues_24_1_b34 fX12_values_122_b31
      rcases num_both hk pc pm (by omega) (show 1 ≤ 2 by decide) (by decide) with ⟨v, a', μ1, ν1, e1, e2, hv9, ha1, ha2, pc1, pm1, o1, o2⟩ | ⟨e1, e2⟩
      · have g1 : gI (sI μ1 28 g (nI v)) 28 g = nI v := by rw [gI_sI, if_pos ⟨rfl, rfl⟩]
        have g2 : gI (sI ν1 135 g (nI v)) 135 g = nI v := by rw [gI_sI, if_pos ⟨rfl, rfl⟩]
        rw [show fX9_number_1 2 μ = _ from e1, show fX12_number_122 2 ν = _ from e2, bnd_e, bnd_e]
        simp (disch := omega) only [gd_in, ix_nI, lt_e, g1, g2, if_pos (nI_pos' (show v < 2 ^ 31 by omega)), nI_1]
        refine ih f f' (g + 1) a' _ _ _ (by omega) (by omega) (by omega) (pc1.off (P := fun a _ => a == 28) ((Off.refl _).sI rfl) (fun a j z => by rw [beq_iff_eq] at z; omega)) (pm1.off (P := fun a _ => a == 135) ((Off.refl _).sI rfl) (fun a j z => by rw [beq_iff_eq] at z; omega)) ((((rt.oc o1 (fun _ _ => wA_sc)).oc (P := scC) ((Off.refl _).sI rfl) (fun _ _ z => z)).om o2 (fun _ _ => wB_sc)).om (P := scM) ((Off.refl _).sI rfl) (fun _ _ z => z)) (by omega) (fun i hi => ?_)
        by_cases e : i = g
        · rw [e, g1, g2]
          exact ⟨rfl, v, by omega, rfl⟩
        · rw [gI_sI, if_neg (fun z => e z.2), gI_sI, if_neg (fun z => e z.2), o1.1 28 i rfl, o2.1 135 i rfl]
          exact hv i (by omega)
      · have g1 : gI (sI μ 28 g (-1)) 28 g = -1 := by rw [gI_sI, if_pos ⟨rfl, rfl⟩]
        have g4 : gI (sI μ 28 g (-1)) 1 2 = nI a := pc.2.1
        obtain ⟨ν', x1, x2⟩ := xValues (w := a) (by omega) m f' (g + 1) (x + 0) (sI (sI ν 122 22 (nI a)) 135 g 0) (by omega) (by omega) rfl
        rw [show fX9_number_1 2 μ = _ from e1, show fX12_number_122 2 ν = _ from e2, bnd_e, bnd_e]
        unfold fX9_wrong_1
        have g2 : gI (sI (sI ν 122 22 (nI a)) 135 g 0) 135 g = 0 := by rw [gI_sI, if_pos ⟨rfl, rfl⟩]
        simp (disch := omega) only [gd_in, ix_nI, lt_e, g1, g2, g4, if_neg (show ¬ (0 : Int32) ≤ -1 by decide), bnd_e, nI_1, x1]
        exact sm_end ⟨rfl, (rt.oc (P := scC) ((Off.refl μ).sI rfl) (fun _ _ z => z)).om (P := scM) ((((Off.refl ν).sI rfl).sI rfl).tr x2) (fun _ _ z => z)⟩
    rw [fX2_readValues_24_1_b10, fX12_values_122_b15, if_neg (show ¬ (8 : Int32) ≤ nI g from nI_ge (b := 8) (by omega) (by decide)), if_neg (show ¬ (8 : Int32) ≤ nI g from nI_ge (b := 8) (by omega) (by decide))]
    by_cases g0 : nI g ≤ 0
    · rw [if_pos g0, if_pos g0]
      exact num a μ ν pc pm rt hat hv
    · rw [if_neg g0, if_neg g0]
      rcases take_both hk pc pm (by omega) (x := 44) (by decide) with ⟨l, e1, e2, -⟩ | ⟨-, e1, e2, -⟩
      · rw [show fX9_takes_1 44 μ = _ from e1, show fX12_need_122 44 ν = _ from e2, bnd_e, bnd_e, if_neg n10]
        refine num (a + 1) _ _ (pc.to _) (pm.to hk _) ((rt.oc (P := wA) ((Off.refl _).sI rfl) (fun _ _ => wA_sc)).om (P := wB) ((Off.refl _).sI rfl) (fun _ _ => wB_sc)) (by omega) (fun i hi => ?_)
        rw [gI_sI, if_neg (by omega), gI_sI, if_neg (by omega)]
        exact hv i hi
      · rw [show fX9_takes_1 44 μ = _ from e1, show fX12_need_122 44 ν = _ from e2, bnd_e, bnd_e, if_pos rfl]
        have w1 : gI (sI ν 122 22 (nI a)) 122 22 = nI a := rfl
        obtain ⟨ν', x1, x2⟩ := xValues (w := a) (by omega) m f' (g + 1) (x + 0) (sI (sI ν 122 22 (nI a)) 135 g 0) (by omega) (by omega) rfl
        unfold fX9_wrong_1 fX12_values_122_b31
        have g2 : gI (sI (sI ν 122 22 (nI a)) 135 g 0) 135 g = 0 := by rw [gI_sI, if_pos ⟨rfl, rfl⟩]
        rw [bnd_e, pc.2.1, xNum (w := a) (by omega) w1, bnd_e]
        simp (disch := omega) only [gd_in, ix_nI, lt_e, g2, nI_1, x1]
        exact sm_end ⟨rfl, rt.om (P := scM) ((((Off.refl ν).sI rfl).sI rfl).tr x2) (fun _ _ z => z)⟩
theorem pr_values (h : Rel V c b B μ ν) : Pr V c b B (fX11_values_0 μ) (fX12_values_122 ν) := by
  have h1 := m17 h 0
  obtain ⟨s, t, μ1, ν1, ht, hk, -, -, e1, e2, pc, pm, rt, -, -⟩ := open_both h1 (show 80 ≤ 80 by omega)
  unfold fX11_values_0 fX2_readValues_24_1 fX12_values_122 fX9_empty_1
  rw [lt_e, show fX9_open_1 (80 : Int32) μ = _ from e1, bnd_e, show fX12_beginText_122 (80 : Int32) (sI ν 122 17 0) = _ from e2, bnd_e]
  obtain ⟨r, μ2, r', ν2, q1, q2, q3, q4⟩ := values_in hk ht 8 FU FU 0 0 0 μ1 ν1 rfl (by decide) (by decide) pc pm rt (by omega) (fun i hi => absurd hi (Nat.not_lt_zero _))
  rw [show fX2_readValues_24_1_b10 FU 0 0 μ1 = _ from q1, show fX12_values_122_b15 FU 0 0 ν1 = _ from q2, bnd_e, lt_e, bnd_e]
  exact sm_end ⟨q3, q4⟩
end Pure43
