section Pure64
variable {s : Nat → Nat} {t M : Nat}
def wR (k j : Nat) : Bool := (k == 1 && j == 2) || ((k == 19 && j == 3) || k == 21)
def Dl (l : List Nat) (μ : Mem) : Prop := gI μ 19 3 = nI l.length ∧ ∀ j, j < l.length → gI μ 21 j = nI (l.getD j 0)
theorem Dl.off {l : List Nat} {μ μ' : Mem} (h : Dl l μ) (o : Off wA μ μ') : Dl l μ' := ⟨(o.1 19 3 rfl).trans h.1, fun j hj => (o.1 21 j rfl).trans (h.2 j hj)⟩
theorem wA_R {k j : Nat} (h : wA k j = true) : wR k j = true := by unfold wA at h; unfold wR; rw [h]; rfl
theorem wR_sc {k j : Nat} (h : wR k j = true) : scC k j = true := by
  unfold wR at h
  simp only [Bool.or_eq_true, Bool.and_eq_true, beq_iff_eq] at h
  rcases h with ⟨rfl, rfl⟩ | ⟨rfl, rfl⟩ | rfl <;> rfl
theorem getD_app1 {l : List Nat} {x j : Nat} : (l ++ [x]).getD j 0 = if j = l.length then x else l.getD j 0 := by
  simp only [List.getD_eq_getElem?_getD]
  by_cases h : j < l.length
  · rw [List.getElem?_append_left h, if_neg (by omega)]
  · rw [List.getElem?_append_right (by omega)]
    by_cases e : j = l.length
    · subst e; simp
    · rw [if_neg e, List.getElem?_eq_none (by simp; omega), List.getElem?_eq_none (show l.length ≤ j by omega)]
theorem c_draft {l : List Nat} {μ : Mem} {a : Nat} (h : Dl l μ) (pc : PC s t M a μ) (hl : l.length < 40) (x : Nat) : ∃ μ', fX8_drafts_19 (nI x) μ = some (1, μ') ∧ Dl (l ++ [x]) μ' ∧ PC s t M a μ' ∧ Off wR μ μ' := by
  refine ⟨sI (sI μ 21 l.length (nI x)) 19 3 (nI (l.length + 1)), ?_, ⟨?_, fun j hj => ?_⟩, pc.off (P := fun a _ => a == 21 || a == 19) (((Off.refl _).sI rfl).sI rfl) (fun a j z => by rw [Bool.or_eq_true, beq_iff_eq, beq_iff_eq] at z; omega), ((Off.refl μ).sI rfl).sI rfl⟩
  · unfold fX8_drafts_19
    rw [h.1, if_pos (show nI l.length < (40 : Int32) from nI_lt (b := 40) hl (by decide)), gd_in hl (by decide), ix_nI (by omega), lt_e, show gI (sI μ 21 l.length (nI x)) 19 3 = nI l.length from h.1, nI_1, lt_e]
  · rw [gI_sI, if_pos ⟨rfl, rfl⟩, List.length_append, List.length_singleton]
  · rw [gI_sI, if_neg (by omega), gI_sI, getD_app1]
    by_cases e : j = l.length
    · rw [if_pos ⟨rfl, e⟩, if_pos e]
    · rw [if_neg (fun z => e z.2), if_neg e]
      rw [List.length_append, List.length_singleton] at hj
      exact h.2 j (by omega)
def CO (s : Nat → Nat) (t M : Nat) (l : List Nat) (μ : Mem) (o : Option (Int32 × Mem)) : RP → Prop
  | .inl w => ∃ μ', o = some (0, μ') ∧ gI μ' 1 2 = nI w ∧ Off wR μ μ'
  | .inr (a', c) => ∃ μ', o = some (1, μ') ∧ PC s t M a' μ' ∧ Dl (l ++ c) μ' ∧ Off wR μ μ'
def CS (s : Nat → Nat) (t M : Nat) (F : Mem → Option (Int32 × Mem)) (X : Nat → RP) : Prop := ∀ a μ l, a ≤ min t M → l.length ≤ a → PC s t M a μ → Dl l μ → CO s t M l μ (F μ) (X a)
theorem CO.off {l : List Nat} {μ μ1 : Mem} {o : Option (Int32 × Mem)} {r : RP} (h : CO s t M l μ1 o r) (f : Off wR μ μ1) : CO s t M l μ o r := by
  cases r with
  | inl w =>
    obtain ⟨μ', h1, h2, h3⟩ := h
    exact ⟨μ', h1, h2, f.tr h3⟩
  | inr q =>
    obtain ⟨a', c⟩ := q
    obtain ⟨μ', h1, h2, h3, h4⟩ := h
    exact ⟨μ', h1, h2, h3, f.tr h4⟩
theorem CO.bnd {l l' : List Nat} {μ : Mem} {o : Option (Int32 × Mem)} {r : RP} {f : Int32 → Mem → Option (Int32 × Mem)} {k : Nat → List Nat → RP} (h : CO s t M l' μ o r) (x : ∀ μ', f 0 μ' = some (0, μ')) (y : ∀ μ' a' c, r = .inr (a', c) → PC s t M a' μ' → Dl (l' ++ c) μ' → Off wR μ μ' → CO s t M l μ (f 1 μ') (k a' c)) : CO s t M l μ (bnd o f) (bindP r k) := by
  cases r with
  | inl w =>
    obtain ⟨μ', h1, h2, h3⟩ := h
    rw [h1, bnd_e, x]
    exact ⟨μ', rfl, h2, h3⟩
  | inr q =>
    obtain ⟨a', c⟩ := q
    obtain ⟨μ', h1, h2, h3, h4⟩ := h
    rw [h1, bnd_e]
    exact y μ' a' c rfl h2 h3 h4
theorem cs_b34 (rc : Int32 → Mem → Option (Int32 × Mem)) {j a : Nat} {l : List Nat} (hj : l.length + j ≤ 40) : ∀ (m f i : Nat) (μ : Mem), i + m = j → m < f → PC s t M a μ → Dl (l ++ List.replicate i 2007) μ → ∃ μ', fX8_readsSigned_19_1_b34 rc f (nI j) 1 (nI i) μ = some (1, μ') ∧ PC s t M a μ' ∧ Dl (l ++ List.replicate j 2007) μ' ∧ Off wR μ μ' := by
  intro m
  induction m with
  | zero =>
    intro f i μ h1 h2 pc dl
    obtain ⟨f, rfl⟩ := Nat.exists_eq_succ_of_ne_zero (show f ≠ 0 by omega)
    obtain rfl : i = j := by omega
    rw [fX8_readsSigned_19_1_b34, if_pos (nI_le (Nat.le_refl _) (by omega)), isZ1, gd_e]
    exact ⟨μ, rfl, pc, dl, Off.refl _⟩
  | succ m ih =>
    intro f i μ h1 h2 pc dl
    obtain ⟨f, rfl⟩ := Nat.exists_eq_succ_of_ne_zero (show f ≠ 0 by omega)
    obtain ⟨μ1, d1, d2, d3, d4⟩ := c_draft dl pc (by rw [List.length_append, List.length_replicate]; omega) 2007
    rw [fX8_readsSigned_19_1_b34, if_neg (nI_ge (by omega) (by omega)), if_neg n10, show fX8_drafts_19 2007 μ = _ from d1, bnd_e, nI_1]
    obtain ⟨μ2, e1, e2, e3, e4⟩ := ih f (i + 1) μ1 (by omega) (by omega) d3 (by rw [List.replicate_succ', ← List.append_assoc]; exact d2)
    exact ⟨μ2, e1, e2, e3, d4.tr e4⟩
theorem cs_b2 (hk : OkT 133 s t M) (hM : M ≤ 40) {dv : Int32} {rc : Int32 → Mem → Option (Int32 × Mem)} {T : Nat → RP} (hT : Good (min t M) T) (h : CS s t M (rc dv) T) : ∀ (k f j a : Nat) (μ : Mem) (l : List Nat), a ≤ min t M → min t M ≤ a + k → k < f → l.length + j ≤ a → PC s t M a μ → Dl l μ → CO s t M l μ (fX8_readsSigned_19_1_b2 rc f dv (nI j) μ) (bindP (pSg s (min t M) T a) fun a' c => .inr (a', c ++ List.replicate j 2007)) := by
  -- no minus here
  have stop : ∀ (j a : Nat) (μ : Mem) (l : List Nat), a ≤ min t M → l.length + j ≤ a → PC s t M a μ → Dl l μ → ¬ (a < min t M ∧ s a = 45) → CO s t M l μ (fX8_readsSigned_19_1_b23 rc dv (nI j) μ) (bindP (pSg s (min t M) T a) fun a' c => .inr (a', c ++ List.replicate j 2007)) := by
    intro j a μ l ha hl pc dl q
    rw [pSg_no q]
    unfold fX8_readsSigned_19_1_b23
    have gx := hT a ha
    refine CO.bnd (h a μ l ha (by omega) pc dl) (fun μ' => ?_) (fun μ' a' c e pc' dl' o' => ?_)
    · show fX8_readsSigned_19_1_b34 rc (999 + 1) (nI j) 0 0 μ' = _
      rw [fX8_readsSigned_19_1_b34, isZ0, gd_e, if_pos rfl]
      by_cases z : nI j ≤ 0
      · rw [if_pos z]
      · rw [if_neg z]
    · rw [e] at gx
      obtain ⟨g1, g2, g3, -, -⟩ := gx
      obtain ⟨μ2, e1, e2, e3, e4⟩ := cs_b34 (s := s) (t := t) (M := M) (a := a') rc (j := j) (l := l ++ c) (by rw [List.length_append]; omega) j FU 0 μ' (by omega) (fu_lt (by omega)) pc' (by rw [List.replicate_zero, List.append_nil]; exact dl')
      exact ⟨μ2, e1, e2, by rw [← List.append_assoc]; exact e3, o'.tr e4⟩
  intro k
  induction k with
  | zero =>
    intro f j a μ l ha hst hf hl pc dl
    obtain ⟨f, rfl⟩ := Nat.exists_eq_succ_of_ne_zero (show f ≠ 0 by omega)
    rw [fX8_readsSigned_19_1_b2, show fX9_takes_1 45 μ = _ from cTake hk pc (x := 45) (by omega) (by decide), if_neg (show ¬ (a < min t M ∧ s a = 45) by omega), bnd_e, if_pos rfl]
    have := stop j a μ l ha hl pc dl (by omega)
    by_cases z : (40 : Int32) ≤ nI j
    · rw [if_pos z]; exact this
    · rw [if_neg z]; exact this
  | succ k ih =>
    intro f j a μ l ha hst hf hl pc dl
    obtain ⟨f, rfl⟩ := Nat.exists_eq_succ_of_ne_zero (show f ≠ 0 by omega)
    rw [fX8_readsSigned_19_1_b2, show fX9_takes_1 45 μ = _ from cTake hk pc (x := 45) (by omega) (by decide)]
    by_cases q : a < min t M ∧ s a = 45
    · rw [if_neg (show ¬ (40 : Int32) ≤ nI j from nI_ge (b := 40) (by omega) (by decide)), if_pos q, bnd_e, if_neg n10, nI_1, pSg_yes q]
      have o1 : Off wA μ (sI μ 1 2 (nI (a + 1))) := (Off.refl μ).sI rfl
      have IH := (ih f (j + 1) (a + 1) _ l (by omega) (by omega) (by omega) (by omega) (pc.to (a + 1)) (dl.off o1)).off (o1.mono (fun _ _ => wA_R))
      cases e : pSg s (min t M) T (a + 1) with
      | inl w => rw [e] at IH; exact IH
      | inr z =>
        obtain ⟨a', c⟩ := z
        rw [e] at IH
        show CO s t M l μ _ (.inr (a', (c ++ [2007]) ++ List.replicate j 2007))
        rw [List.append_assoc, show [2007] ++ List.replicate j 2007 = List.replicate (j + 1) 2007 from (List.replicate_succ (n := j) (a := 2007)).symm]
        exact IH
    · have S := stop j a μ l ha hl pc dl q
      rw [if_neg q, bnd_e, if_pos rfl]
      by_cases z : (40 : Int32) ≤ nI j
      · rw [if_pos z]; exact S
      · rw [if_neg z]; exact S
theorem cs_signed (hk : OkT 133 s t M) (hM : M ≤ 40) {dv : Int32} {rc : Int32 → Mem → Option (Int32 × Mem)} {T : Nat → RP} (hT : Good (min t M) T) (h : CS s t M (rc dv) T) : CS s t M (fX8_readsSigned_19_1 rc dv) (pSg s (min t M) T) := by
  intro a μ l ha hl pc dl
  unfold fX8_readsSigned_19_1
  have := cs_b2 hk hM hT h (min t M - a) FU 0 a μ l ha (by omega) (fu_lt (by omega)) (by omega) pc dl
  cases e : pSg s (min t M) T a with
  | inl w => rw [e] at this; exact this
  | inr z =>
    obtain ⟨a', c⟩ := z
    rw [e] at this
    have t2 : CO s t M l μ (fX8_readsSigned_19_1_b2 rc FU dv (nI 0) μ) (.inr (a', c ++ List.replicate 0 2007)) := this
    rw [List.replicate_zero, List.append_nil] at t2
    exact t2
theorem so4_op (x : Nat) : (op4 x = none ∧ so4 x = -1) ∨ ∃ k, k < 2 ∧ op4 x = some (2005 + k) ∧ so4 x = nI k := by
  unfold op4 so4
  by_cases q : x = 42
  · rw [if_pos q, if_pos q]; exact Or.inr ⟨0, by omega, rfl, rfl⟩
  · rw [if_neg q, if_neg q]
    by_cases q2 : x = 47
    · rw [if_pos q2, if_pos q2]; exact Or.inr ⟨1, by omega, rfl, rfl⟩
    · rw [if_neg q2, if_neg q2]; exact Or.inl ⟨rfl, rfl⟩
theorem so5_op (x : Nat) : (op5 x = none ∧ so5 x = -1) ∨ ∃ k, k < 2 ∧ op5 x = some (2003 + k) ∧ so5 x = nI k := by
  unfold op5 so5
  by_cases q : x = 43
  · rw [if_pos q, if_pos q]; exact Or.inr ⟨0, by omega, rfl, rfl⟩
  · rw [if_neg q, if_neg q]
    by_cases q2 : x = 45
    · rw [if_pos q2, if_pos q2]; exact Or.inr ⟨1, by omega, rfl, rfl⟩
    · rw [if_neg q2, if_neg q2]; exact Or.inl ⟨rfl, rfl⟩
theorem so6_op (x : Nat) : (op6 x = none ∧ so6 x = -1) ∨ ∃ k, k < 3 ∧ op6 x = some (2000 + k) ∧ so6 x = nI k := by
  unfold op6 so6
  by_cases q : x = 60
  · rw [if_pos q, if_pos q]; exact Or.inr ⟨0, by omega, rfl, rfl⟩
  · rw [if_neg q, if_neg q]
    by_cases q2 : x = 62
    · rw [if_pos q2, if_pos q2]; exact Or.inr ⟨1, by omega, rfl, rfl⟩
    · rw [if_neg q2, if_neg q2]
      by_cases q3 : x = 61
      · rw [if_pos q3, if_pos q3]; exact Or.inr ⟨2, by omega, rfl, rfl⟩
      · rw [if_neg q3, if_neg q3]; exact Or.inl ⟨rfl, rfl⟩
theorem cs_prod_in (hk : OkT 133 s t M) (hM : M ≤ 40) {dv : Int32} {rc : Int32 → Mem → Option (Int32 × Mem)} {X : Nat → RP} (hX : Good (min t M) X) (h : CS s t M (fX8_readsSigned_19_1 rc dv) X) : ∀ (k f i a : Nat) (c l : List Nat) (μ : Mem), a ≤ min t M → min t M ≤ a + k → k + 1 < f → i < a → (l ++ c).length ≤ a → PC s t M a μ → Dl (l ++ c) μ → CO s t M l μ (bnd (fX9_takesOneOf_1_s4 μ) fun r3 m4 => fX8_readsProduct_19_1_b26 rc f dv 1 r3 (nI i) m4) (chL op4 s (min t M) X k a c) := by
  have e26 : ∀ (f : Nat) (x : Int32) (p5 : Int32) (μ : Mem), (x = 0 ∨ x = 1) → fX8_readsProduct_19_1_b26 rc (f + 1) dv x (-1) p5 μ = some (x, μ) := by
    intro f x p5 μ hx
    have hz : isZ x = true := by rcases hx with rfl | rfl <;> decide
    rw [fX8_readsProduct_19_1_b26, hz, gd_e, if_pos (show (-1 : Int32) < 0 by decide)]
    by_cases z : (40 : Int32) ≤ p5
    · rw [if_pos z]
    · rw [if_neg z]
  intro k
  induction k with
  | zero =>
    intro f i a c l μ ha hst hf hi hl pc dl
    obtain ⟨f, rfl⟩ := Nat.exists_eq_succ_of_ne_zero (show f ≠ 0 by omega)
    rw [cOne_4 hk pc (by omega), if_neg (by omega), bnd_e, e26 f 1 _ _ (Or.inr rfl)]
    exact ⟨μ, rfl, pc, dl, Off.refl _⟩
  | succ k ih =>
    intro f i a c l μ ha hst hf hi hl pc dl
    obtain ⟨f, rfl⟩ := Nat.exists_eq_succ_of_ne_zero (show f ≠ 0 by omega)
    rw [cOne_4 hk pc (by omega), chL]
    by_cases q : a < min t M
    · rw [if_pos q, if_pos q]
      rcases so4_op (s a) with ⟨z1, z2⟩ | ⟨kk, hkk, z1, z2⟩
      · rw [z1, z2, if_pos (by decide), bnd_e, e26 f 1 _ _ (Or.inr rfl)]
        exact ⟨μ, rfl, pc, dl, Off.refl _⟩
      · rw [z1, z2, if_neg (nI_pos (by omega)), bnd_e, fX8_readsProduct_19_1_b26, if_neg (show ¬ (40 : Int32) ≤ nI i from nI_ge (b := 40) (by omega) (by decide)), if_neg (nI_pos (by omega))]
        have o1 : Off wA μ (sI μ 1 2 (nI (a + 1))) := (Off.refl μ).sI rfl
        have gx := hX (a + 1) (by omega)
        show CO s t M l μ _ (bindP (X (a + 1)) fun a' c' => chL op4 s (min t M) X k a' (c ++ (c' ++ [2005 + kk])))
        refine CO.bnd ((h (a + 1) _ (l ++ c) (by omega) (by omega) (pc.to (a + 1)) (dl.off o1)).off (o1.mono (fun _ _ => wA_R))) (fun μ' => ?_) (fun μ' a' c' e pc' dl' o' => ?_)
        · rw [if_pos rfl]
          unfold fX8_readsProduct_19_1_b64 fX8_readsProduct_19_1_b65
          rw [if_pos rfl]
          obtain ⟨f, rfl⟩ := Nat.exists_eq_succ_of_ne_zero (show f ≠ 0 by omega)
          exact e26 f 0 _ _ (Or.inl rfl)
        · rw [e] at gx
          obtain ⟨g1, g2, g3, -, -⟩ := gx
          obtain ⟨μ2, d1, d2, d3, d4⟩ := c_draft dl' pc' (by rw [List.length_append]; omega) (2005 + kk)
          rw [if_neg n10, show (2005 : Int32) + nI kk = nI (2005 + kk) from nI_add 2005 kk, d1, bnd_e, if_neg n10]
          unfold fX8_readsProduct_19_1_b65
          rw [if_neg n10, nI_1]
          have dd : Dl (l ++ (c ++ (c' ++ [2005 + kk]))) μ2 := by rw [← List.append_assoc, ← List.append_assoc]; exact d2
          exact (ih f (i + 1) a' (c ++ (c' ++ [2005 + kk])) l μ2 g2 (by omega) (by omega) (by omega) (by simp only [List.length_append, List.length_singleton] at hl ⊢; omega) d3 dd).off (o'.tr d4)
    · rw [if_neg q, if_neg q, bnd_e, e26 f 1 _ _ (Or.inr rfl)]
      exact ⟨μ, rfl, pc, dl, Off.refl _⟩
theorem cs_prod (hk : OkT 133 s t M) (hM : M ≤ 40) {dv : Int32} {rc : Int32 → Mem → Option (Int32 × Mem)} {X : Nat → RP} (hX : Good (min t M) X) (h : CS s t M (fX8_readsSigned_19_1 rc dv) X) : CS s t M (fX8_readsProduct_19_1 rc dv) (chn op4 s (min t M) X) := by
  intro a μ l ha hl pc dl
  unfold fX8_readsProduct_19_1 chn
  have gx := hX a ha
  refine CO.bnd (h a μ l ha hl pc dl) (fun μ' => ?_) (fun μ' a' c e pc' dl' o' => ?_)
  · rw [if_pos rfl]
    show fX8_readsProduct_19_1_b26 rc (999 + 1) dv 0 (-1) 0 μ' = _
    rw [fX8_readsProduct_19_1_b26, isZ0, gd_e, if_neg (by decide), if_pos (show (-1 : Int32) < 0 by decide)]
  · rw [e] at gx
    obtain ⟨g1, g2, g3, -, -⟩ := gx
    rw [if_neg n10]
    exact (cs_prod_in hk hM hX h (min t M - a') FU 0 a' c l μ' g2 (by omega) (fu_lt (by omega)) (by omega) (by rw [List.length_append]; omega) pc' dl').off o'
theorem cs_sum_in (hk : OkT 133 s t M) (hM : M ≤ 40) {dv : Int32} {rc : Int32 → Mem → Option (Int32 × Mem)} {X : Nat → RP} (hX : Good (min t M) X) (h : CS s t M (fX8_readsProduct_19_1 rc dv) X) : ∀ (k f i a : Nat) (c l : List Nat) (μ : Mem), a ≤ min t M → min t M ≤ a + k → k + 1 < f → i < a → (l ++ c).length ≤ a → PC s t M a μ → Dl (l ++ c) μ → CO s t M l μ (bnd (fX9_takesOneOf_1_s5 μ) fun r3 m4 => fX8_readsSum_19_1_b26 rc f dv 1 r3 (nI i) m4) (chL op5 s (min t M) X k a c) := by
  have e26 : ∀ (f : Nat) (x : Int32) (p5 : Int32) (μ : Mem), (x = 0 ∨ x = 1) → fX8_readsSum_19_1_b26 rc (f + 1) dv x (-1) p5 μ = some (x, μ) := by
    intro f x p5 μ hx
    have hz : isZ x = true := by rcases hx with rfl | rfl <;> decide
    rw [fX8_readsSum_19_1_b26, hz, gd_e, if_pos (show (-1 : Int32) < 0 by decide)]
    by_cases z : (40 : Int32) ≤ p5
    · rw [if_pos z]
    · rw [if_neg z]
  intro k
  induction k with
  | zero =>
    intro f i a c l μ ha hst hf hi hl pc dl
    obtain ⟨f, rfl⟩ := Nat.exists_eq_succ_of_ne_zero (show f ≠ 0 by omega)
    rw [cOne_5 hk pc (by omega), if_neg (by omega), bnd_e, e26 f 1 _ _ (Or.inr rfl)]
    exact ⟨μ, rfl, pc, dl, Off.refl _⟩
  | succ k ih =>
    intro f i a c l μ ha hst hf hi hl pc dl
    obtain ⟨f, rfl⟩ := Nat.exists_eq_succ_of_ne_zero (show f ≠ 0 by omega)
    rw [cOne_5 hk pc (by omega), chL]
    by_cases q : a < min t M
    · rw [if_pos q, if_pos q]
      rcases so5_op (s a) with ⟨z1, z2⟩ | ⟨kk, hkk, z1, z2⟩
      · rw [z1, z2, if_pos (by decide), bnd_e, e26 f 1 _ _ (Or.inr rfl)]
        exact ⟨μ, rfl, pc, dl, Off.refl _⟩
      · rw [z1, z2, if_neg (nI_pos (by omega)), bnd_e, fX8_readsSum_19_1_b26, if_neg (show ¬ (40 : Int32) ≤ nI i from nI_ge (b := 40) (by omega) (by decide)), if_neg (nI_pos (by omega))]
        have o1 : Off wA μ (sI μ 1 2 (nI (a + 1))) := (Off.refl μ).sI rfl
        have gx := hX (a + 1) (by omega)
        show CO s t M l μ _ (bindP (X (a + 1)) fun a' c' => chL op5 s (min t M) X k a' (c ++ (c' ++ [2003 + kk])))
        refine CO.bnd ((h (a + 1) _ (l ++ c) (by omega) (by omega) (pc.to (a + 1)) (dl.off o1)).off (o1.mono (fun _ _ => wA_R))) (fun μ' => ?_) (fun μ' a' c' e pc' dl' o' => ?_)
        · rw [if_pos rfl]
          unfold fX8_readsSum_19_1_b64 fX8_readsSum_19_1_b65
          rw [if_pos rfl]
          obtain ⟨f, rfl⟩ := Nat.exists_eq_succ_of_ne_zero (show f ≠ 0 by omega)
          exact e26 f 0 _ _ (Or.inl rfl)
        · rw [e] at gx
          obtain ⟨g1, g2, g3, -, -⟩ := gx
          obtain ⟨μ2, d1, d2, d3, d4⟩ := c_draft dl' pc' (by rw [List.length_append]; omega) (2003 + kk)
          rw [if_neg n10, show (2003 : Int32) + nI kk = nI (2003 + kk) from nI_add 2003 kk, d1, bnd_e, if_neg n10]
          unfold fX8_readsSum_19_1_b65
          rw [if_neg n10, nI_1]
          have dd : Dl (l ++ (c ++ (c' ++ [2003 + kk]))) μ2 := by rw [← List.append_assoc, ← List.append_assoc]; exact d2
          exact (ih f (i + 1) a' (c ++ (c' ++ [2003 + kk])) l μ2 g2 (by omega) (by omega) (by omega) (by simp only [List.length_append, List.length_singleton] at hl ⊢; omega) d3 dd).off (o'.tr d4)
    · rw [if_neg q, if_neg q, bnd_e, e26 f 1 _ _ (Or.inr rfl)]
      exact ⟨μ, rfl, pc, dl, Off.refl _⟩
theorem cs_sum (hk : OkT 133 s t M) (hM : M ≤ 40) {dv : Int32} {rc : Int32 → Mem → Option (Int32 × Mem)} {X : Nat → RP} (hX : Good (min t M) X) (h : CS s t M (fX8_readsProduct_19_1 rc dv) X) : CS s t M (fX8_readsSum_19_1 rc dv) (chn op5 s (min t M) X) := by
  intro a μ l ha hl pc dl
  unfold fX8_readsSum_19_1 chn
  have gx := hX a ha
  refine CO.bnd (h a μ l ha hl pc dl) (fun μ' => ?_) (fun μ' a' c e pc' dl' o' => ?_)
  · rw [if_pos rfl]
    show fX8_readsSum_19_1_b26 rc (999 + 1) dv 0 (-1) 0 μ' = _
    rw [fX8_readsSum_19_1_b26, isZ0, gd_e, if_neg (by decide), if_pos (show (-1 : Int32) < 0 by decide)]
  · rw [e] at gx
    obtain ⟨g1, g2, g3, -, -⟩ := gx
    rw [if_neg n10]
    exact (cs_sum_in hk hM hX h (min t M - a') FU 0 a' c l μ' g2 (by omega) (fu_lt (by omega)) (by omega) (by rw [List.length_append]; omega) pc' dl').off o'
theorem cs_su (hk : OkT 133 s t M) (hM : M ≤ 40) {dv : Int32} {rc : Int32 → Mem → Option (Int32 × Mem)} {T : Nat → RP} (hT : Good (min t M) T) (h : CS s t M (rc dv) T) : CS s t M (fX8_readsSum_19_1 rc dv) (pSu s (min t M) T) := cs_sum hk hM (good_chn op4_ok (good_sg hT)) (cs_prod hk hM (good_sg hT) (cs_signed hk hM hT h))
theorem cs_ex (hk : OkT 133 s t M) (hM : M ≤ 40) {dv : Int32} {rc : Int32 → Mem → Option (Int32 × Mem)} {T : Nat → RP} (hT : Good (min t M) T) (h : CS s t M (rc dv) T) : CS s t M (fX8_readsExpression_19_1 rc dv) (pEx s (min t M) T) := by
  have hs := cs_su hk hM hT h
  have gs : Good (min t M) (pSu s (min t M) T) := good_su hT
  intro a μ l ha hl pc dl
  unfold fX8_readsExpression_19_1 pEx
  have gx := gs a ha
  refine CO.bnd (hs a μ l ha hl pc dl) (fun μ' => by rw [if_pos rfl]) (fun μ' a' c e pc' dl' o' => ?_)
  rw [e] at gx
  obtain ⟨g1, g2, g3, -, -⟩ := gx
  rw [if_neg n10, cOne_6 hk pc' (by omega)]
  by_cases q : a' < min t M
  · rw [if_pos q, if_pos q]
    rcases so6_op (s a') with ⟨z1, z2⟩ | ⟨kk, hkk, z1, z2⟩
    · rw [z1, z2, if_pos (by decide), bnd_e, if_neg (by decide)]
      exact ⟨μ', rfl, pc', dl', o'⟩
    · rw [z1, z2, if_neg (nI_pos (by omega)), bnd_e, if_pos (nI_pos' (by omega))]
      have o1 : Off wA μ' (sI μ' 1 2 (nI (a' + 1))) := (Off.refl μ').sI rfl
      have g2x := gs (a' + 1) (by omega)
      show CO s t M l μ _ (bindP (pSu s (min t M) T (a' + 1)) fun a2 c2 => .inr (a2, c ++ (c2 ++ [2000 + kk])))
      refine CO.bnd ((hs (a' + 1) _ (l ++ c) (by omega) (by rw [List.length_append]; omega) (pc'.to (a' + 1)) (dl'.off o1)).off (o'.tr (o1.mono (fun _ _ => wA_R)))) (fun μ2 => by rw [if_pos rfl]) (fun μ2 a2 c2 e2 pc2 dl2 o2 => ?_)
      rw [e2] at g2x
      obtain ⟨y1, y2, y3, -, -⟩ := g2x
      obtain ⟨μ3, d1, d2, d3, d4⟩ := c_draft dl2 pc2 (by simp only [List.length_append]; omega) (2000 + kk)
      rw [if_neg n10, show (2000 : Int32) + nI kk = nI (2000 + kk) from nI_add 2000 kk, d1, bnd_e, if_neg n10]
      exact ⟨μ3, rfl, d3, by rw [← List.append_assoc, ← List.append_assoc]; exact d2, o2.tr d4⟩
  · rw [if_neg q, if_neg q, bnd_e, if_neg (by decide)]
    exact ⟨μ', rfl, pc', dl', o'⟩
theorem cs_thing (hk : OkT 133 s t M) (hM : M ≤ 40) : ∀ (n fuel : Nat), n ≤ 4 → n < fuel → CS s t M (fX8_readsThing_19_1 fuel (nI (4 - n))) (pT s (min t M) n) := by
  -- a number, a letter, or what comes then
  have head : ∀ (n fuel : Nat) (a : Nat) (μ : Mem) (l : List Nat) (els : RP), a ≤ min t M → l.length ≤ a → PC s t M a μ → Dl l μ → (¬ (a < min t M ∧ 48 ≤ s a ∧ s a < 58) → ¬ (a < min t M ∧ ¬ so0 (s a) < 0) → CO s t M l μ (if (4 : Int32) ≤ nI (4 - n) then (some ((0 : Int32), μ)) else bnd (fX9_takes_1 (40 : Int32) μ) fun r5 m6 => if r5 = 0 then (some ((0 : Int32), m6)) else bnd (fX8_readsExpression_19_1 (fun v2 m => fX8_readsThing_19_1 fuel v2 m) (nI (4 - n) + (1 : Int32)) m6) fun r7 m8 => if r7 = 0 then (some ((0 : Int32), m8)) else bnd (fX9_takes_1 (41 : Int32) m8) fun r9 m10 => if r9 = 0 then (some ((0 : Int32), m10)) else some ((1 : Int32), m10)) els) → CO s t M l μ (fX8_readsThing_19_1 (fuel + 1) (nI (4 - n)) μ) (pA s (min t M) a els) := by
    intro n fuel a μ l els ha hl pc dl hels
    rw [fX8_readsThing_19_1]
    unfold fX8_readsThing_19_1_r pA
    rcases cNum hk pc (by omega) (show 1 ≤ 3 by decide) (by decide) with ⟨q1, q2, q3, μ1, e1, e2, e3⟩ | ⟨q, e1⟩
    · obtain ⟨l1, l2, l3, l4⟩ := nmS_le (s := s) (st := min t M) 2 (a + 1) (s a - 48)
      have : (s a - 48 + 1) * 10 ^ 2 ≤ 10 * 10 ^ 2 := Nat.mul_le_mul_right _ (by omega)
      have l5 := l2 (by omega)
      obtain ⟨μ2, d1, d2, d3, d4⟩ := c_draft (dl.off e3) e2 (by omega) (nmS s (min t M) 2 (a + 1) (s a - 48)).1
      rw [show fX9_number_1 3 μ = _ from e1, bnd_e, if_neg (nI_pos (by show (nmS s (min t M) 2 (a + 1) (s a - 48)).1 < _; omega)), if_pos ⟨q1, q2, q3⟩, show fX8_drafts_19 (nI (nmS s (min t M) (3 - 1) (a + 1) (s a - 48)).1) μ1 = _ from d1, bnd_e, isZ1, gd_e]
      exact ⟨μ2, rfl, d3, d2, (e3.mono (fun _ _ => wA_R)).tr d4⟩
    · rw [show fX9_number_1 3 μ = _ from e1, bnd_e, if_pos (by decide), if_neg q, cOne_0 hk pc (by omega)]
      by_cases q2 : a < min t M ∧ ¬ so0 (s a) < 0
      · rcases so0_or (s a) with z | ⟨k, hk6, z, -⟩
        · rw [z.1] at q2; exact absurd (by decide) q2.2
        · have o1 : Off wA μ (sI μ 1 2 (nI (a + 1))) := (Off.refl μ).sI rfl
          obtain ⟨μ2, d1, d2, d3, d4⟩ := c_draft (dl.off o1) (pc.to (a + 1)) (by omega) (1000 + k)
          rw [if_pos q2.1, if_neg q2.2, bnd_e, if_neg q2.2, if_pos q2, z, ix_nI (by omega), show (1000 : Int32) + nI k = nI (1000 + k) from nI_add 1000 k, d1, bnd_e, isZ1, gd_e]
          exact ⟨μ2, rfl, d3, d2, (o1.mono (fun _ _ => wA_R)).tr d4⟩
      · rw [if_neg q2]
        have e0 : (if a < min t M then (if so0 (s a) < 0 then (so0 (s a), μ) else (so0 (s a), sI μ 1 2 (nI (a + 1)))) else ((-1 : Int32), μ)) = ((-1 : Int32), μ) := by
          by_cases g : a < min t M
          · rcases so0_or (s a) with z | ⟨k, hk6, z, -⟩
            · rw [if_pos g, z.1, if_pos (by decide)]
            · exact absurd ⟨g, by rw [z]; exact nI_pos (by omega)⟩ q2
          · rw [if_neg g]
        rw [e0, bnd_e, if_pos (by decide)]
        exact hels q q2
  intro n
  induction n with
  | zero =>
    intro fuel hn hf a μ l ha hl pc dl
    obtain ⟨fuel, rfl⟩ := Nat.exists_eq_succ_of_ne_zero (show fuel ≠ 0 by omega)
    refine head 0 fuel a μ l (.inl a) ha hl pc dl (fun _ _ => ?_)
    rw [if_pos (show (4 : Int32) ≤ nI (4 - 0) by decide)]
    exact ⟨μ, rfl, pc.2.1, Off.refl _⟩
  | succ n ih =>
    intro fuel hn hf a μ l ha hl pc dl
    obtain ⟨fuel, rfl⟩ := Nat.exists_eq_succ_of_ne_zero (show fuel ≠ 0 by omega)
    rw [pT]
    refine head (n + 1) fuel a μ l _ ha hl pc dl (fun _ _ => ?_)
    rw [if_neg (show ¬ (4 : Int32) ≤ nI (4 - (n + 1)) from nI_ge (b := 4) (by omega) (by decide)), show fX9_takes_1 40 μ = _ from cTake hk pc (x := 40) (by omega) (by decide)]
    by_cases q : a < min t M ∧ s a = 40
    · rw [if_pos q, if_pos q, bnd_e, if_neg n10, nI_1, show 4 - (n + 1) + 1 = 4 - n by omega]
      have o1 : Off wA μ (sI μ 1 2 (nI (a + 1))) := (Off.refl μ).sI rfl
      have H := cs_ex hk hM (good_T (s := s) (st := min t M) n) (rc := fun v2 m => fX8_readsThing_19_1 fuel v2 m) (dv := nI (4 - n)) (ih fuel (by omega) (by omega))
      have gx := good_ex (s := s) (good_T (s := s) (st := min t M) n) (a + 1) (by omega)
      refine CO.bnd ((H (a + 1) _ l (by omega) (by omega) (pc.to (a + 1)) (dl.off o1)).off (o1.mono (fun _ _ => wA_R))) (fun μ' => by rw [if_pos rfl]) (fun μ' a' c e pc' dl' o' => ?_)
      rw [e] at gx
      obtain ⟨g1, g2, -, -, -⟩ := gx
      rw [if_neg n10, show fX9_takes_1 41 μ' = _ from cTake hk pc' (x := 41) (by omega) (by decide)]
      by_cases z : a' < min t M ∧ s a' = 41
      · rw [if_pos z, if_pos z, bnd_e, if_neg n10]
        have o2 : Off wA μ' (sI μ' 1 2 (nI (a' + 1))) := (Off.refl μ').sI rfl
        exact ⟨_, rfl, pc'.to _, dl'.off o2, o'.tr (o2.mono (fun _ _ => wA_R))⟩
      · rw [if_neg z, if_neg z, bnd_e, if_pos rfl]
        exact ⟨μ', rfl, pc'.2.1, o'⟩
    · rw [if_neg q, if_neg q, bnd_e, if_pos rfl]
      exact ⟨μ, rfl, pc.2.1, Off.refl _⟩
end Pure64
