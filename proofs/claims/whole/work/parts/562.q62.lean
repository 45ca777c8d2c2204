section Pure62
variable {cl : Nat} {s : Nat → Nat} {t M : Nat}
def rdTh (th : Nat → Int32) (ν : Mem) : Prop := ∀ k, k < 6 → (if gI ν 122 26 = 0 then 0 else gI ν 137 k) = th k
theorem rdTh.off {th : Nat → Int32} {ν ν' : Mem} (h : rdTh th ν) (o : Off wB ν ν') : rdTh th ν' := fun k hk => by
  rw [o.1 122 26 rfl, o.1 137 k rfl]
  exact h k hk
def RO (cl : Nat) (s : Nat → Nat) (t M : Nat) (th : Nat → Int32) (ν : Mem) (o : Option (Int32 × Mem)) : RP → Prop
  | .inl w => ∃ r ν', o = some (r, ν') ∧ gI ν' 122 22 = nI w ∧ Off wB ν ν'
  | .inr (a', c) => ∃ v ν', o = some (v, ν') ∧ PM cl s t M a' ν' ∧ Off wB ν ν' ∧ Vl th c v
def RSx (cl : Nat) (s : Nat → Nat) (t M lo : Nat) (F : Mem → Option (Int32 × Mem)) (X : Nat → RP) : Prop := ∀ a ν th, lo ≤ a → a ≤ min t M → PM cl s t M a ν → rdTh th ν → RO cl s t M th ν (F ν) (X a)
theorem RO.off {th : Nat → Int32} {ν ν1 : Mem} {o : Option (Int32 × Mem)} {r : RP} (h : RO cl s t M th ν1 o r) (f : Off wB ν ν1) : RO cl s t M th ν o r := by
  cases r with
  | inl w =>
    obtain ⟨r, ν', h1, h2, h3⟩ := h
    exact ⟨r, ν', h1, h2, f.tr h3⟩
  | inr q =>
    obtain ⟨a', c⟩ := q
    obtain ⟨v, ν', h1, h2, h3, h4⟩ := h
    exact ⟨v, ν', h1, h2, f.tr h3, h4⟩
theorem RO.bnd {th : Nat → Int32} {ν : Mem} {o : Option (Int32 × Mem)} {r : RP} {f : Int32 → Mem → Option (Int32 × Mem)} {k : Nat → List Nat → RP} (hst : min t M < 2 ^ 30) (h : RO cl s t M th ν o r) (hg : ∀ w, r = .inl w → w < 2 ^ 30) (x : ∀ r' ν' w, w < 2 ^ 30 → gI ν' 122 22 = nI w → ∃ r2, f r' ν' = some (r2, ν')) (y : ∀ v ν' a' c, r = .inr (a', c) → PM cl s t M a' ν' → Off wB ν ν' → Vl th c v → RO cl s t M th ν (f v ν') (k a' c)) : RO cl s t M th ν (bnd o f) (bindP r k) := by
  cases r with
  | inl w =>
    obtain ⟨r, ν', h1, h2, h3⟩ := h
    obtain ⟨r2, e⟩ := x r ν' w (hg w rfl) h2
    rw [h1, bnd_e, e]
    exact ⟨r2, ν', rfl, h2, h3⟩
  | inr q =>
    obtain ⟨a', c⟩ := q
    obtain ⟨v, ν', h1, h2, h3, h4⟩ := h
    rw [h1, bnd_e]
    exact y v ν' a' c rfl h2 h3 h4
theorem Gd.w {st a : Nat} {r : RP} (h : Gd st a r) (hs : st < 2 ^ 30) : ∀ w, r = .inl w → w < 2 ^ 30 := fun w e => by
  rw [e] at h
  have := h.2
  omega
theorem here_is (hk : OkT cl s t M) {a x : Nat} (hx : x < 2 ^ 30) : ((if a < min t M then nI (s a) else (-1 : Int32)) = nI x) = (a < min t M ∧ s a = x) := by
  apply propext
  by_cases q : a < min t M
  · have := hk.2.2 a (by omega)
    rw [if_pos q, nI_eq (by omega) (by omega)]
    exact ⟨fun z => ⟨q, z⟩, fun z => z.2⟩
  · rw [if_neg q]
    exact ⟨fun z => absurd z (neg1_nI hx), fun z => absurd z.1 q⟩
theorem prod_in (hk : OkT cl s t M) {lo : Nat} {dv : Int32} {rc : Int32 → Mem → Option (Int32 × Mem)} {X : Nat → RP} (hX : Good (min t M) X) (h : RSx cl s t M lo (rc dv) X) : ∀ (k f a : Nat) (c : List Nat) (v : Int32) (ν : Mem) (th : Nat → Int32), lo ≤ a → a ≤ min t M → min t M ≤ a + k → k < f → PM cl s t M a ν → rdTh th ν → Vl th c v → RO cl s t M th ν (fX12_product_122_b6 rc f dv v ν) (chL op4 s (min t M) X k a c) := by
  have hM := hk.2.1
  intro k
  induction k with
  | zero =>
    intro f a c v ν th hl ha hst hf pm rt vl
    obtain ⟨f, rfl⟩ := Nat.exists_eq_succ_of_ne_zero (show f ≠ 0 by omega)
    rw [fX12_product_122_b6, mFine pm.2.2.2.2.1, bnd_e, if_neg n10, mHere hk pm (by omega), bnd_e, mHere hk pm (by omega), bnd_e]
    simp only [show (42 : Int32) = nI 42 from rfl, show (47 : Int32) = nI 47 from rfl, here_is hk (show 42 < 2 ^ 30 by decide), here_is hk (show 47 < 2 ^ 30 by decide)]
    rw [if_neg (by omega), if_neg (by omega)]
    exact ⟨v, ν, rfl, pm, Off.refl _, vl⟩
  | succ k ih =>
    intro f a c v ν th hl ha hst hf pm rt vl
    obtain ⟨f, rfl⟩ := Nat.exists_eq_succ_of_ne_zero (show f ≠ 0 by omega)
    rw [fX12_product_122_b6, mFine pm.2.2.2.2.1, bnd_e, if_neg n10, mHere hk pm (by omega), bnd_e, mHere hk pm (by omega), bnd_e]
    unfold fX12_product_122_b31
    rw [mHere hk pm (by omega), bnd_e]
    simp only [show (42 : Int32) = nI 42 from rfl, show (47 : Int32) = nI 47 from rfl, here_is hk (show 42 < 2 ^ 30 by decide), here_is hk (show 47 < 2 ^ 30 by decide)]
    rw [chL]
    have go : ∀ (q0 : Int32) (kk : Nat), a < min t M → ((q0 = 1 ∧ kk = 5) ∨ (q0 = 0 ∧ kk = 6)) → RO cl s t M th ν (fX12_product_122_b45 rc (fun p1 p2 m => fX12_product_122_b6 rc f p1 p2 m) dv v q0 ν) (bindP (X (a + 1)) fun a' c' => chL op4 s (min t M) X k a' (c ++ (c' ++ [2000 + kk]))) := by
      intro q0 kk hq hkk
      unfold fX12_product_122_b45
      rw [pm.2.2.2.1, nI_1, lt_e]
      have o1 : Off wB ν (sI ν 122 21 (nI (a + 1))) := (Off.refl ν).sI rfl
      have gx := hX (a + 1) (by omega)
      refine RO.bnd (by omega) ((h (a + 1) _ th (by omega) (by omega) (pm.to hk (a + 1)) (rt.off o1)).off o1) (gx.w (by omega)) (fun r' ν' w hw hw2 => ?_) (fun v' ν' a' c' e' pm' o' vl' => ?_)
      · have stop : ∀ x : Int32, fX12_product_122_b6 rc f dv x ν' = some (x, ν') := fun x => by
          obtain ⟨f, rfl⟩ := Nat.exists_eq_succ_of_ne_zero (show f ≠ 0 by omega)
          rw [fX12_product_122_b6, xFine hw hw2, bnd_e, if_pos rfl]
        rcases hkk with ⟨rfl, rfl⟩ | ⟨rfl, rfl⟩
        · rw [if_neg n10, lt_e]; exact ⟨_, stop _⟩
        · rw [if_pos rfl]
          by_cases z : r' = 0
          · rw [if_pos z]; exact ⟨_, stop _⟩
          · rw [if_neg z, gd_of (by simpa using z), lt_e]; exact ⟨_, stop _⟩
      · rw [e'] at gx
        obtain ⟨g1, g2, -, -, -⟩ := gx
        have cont : ∀ x : Int32, x = jn kk v v' → RO cl s t M th ν (fX12_product_122_b6 rc f dv x ν') (chL op4 s (min t M) X k a' (c ++ (c' ++ [2000 + kk]))) := by
          rintro x rfl
          exact (ih f a' _ _ ν' th (by omega) g2 (by omega) (by omega) pm' (rt.off o') (vl.bin vl' (by omega))).off o'
        rcases hkk with ⟨rfl, rfl⟩ | ⟨rfl, rfl⟩
        · rw [if_neg n10, lt_e]; exact cont _ rfl
        · rw [if_pos rfl]
          by_cases z : v' = 0
          · rw [if_pos z]; exact cont _ (by show _ = (if v' = 0 then (0 : Int32) else v / v'); rw [if_pos z])
          · rw [if_neg z, gd_of (by simpa using z), lt_e]; exact cont _ (by show _ = (if v' = 0 then (0 : Int32) else v / v'); rw [if_neg z])
    by_cases q : a < min t M
    · rw [if_pos q]
      unfold op4
      by_cases q1 : s a = 42
      · rw [if_pos ⟨q, q1⟩, if_pos ⟨q, q1⟩, if_pos q1]
        exact go 1 5 q (Or.inl ⟨rfl, rfl⟩)
      · rw [if_neg (fun z => q1 z.2), if_neg q1]
        by_cases q2 : s a = 47
        · rw [if_pos ⟨q, q2⟩, if_neg (fun z => q1 z.2), if_pos q2]
          exact go 0 6 q (Or.inr ⟨rfl, rfl⟩)
        · rw [if_neg (fun z => q2 z.2), if_neg q2]
          exact ⟨v, ν, rfl, pm, Off.refl _, vl⟩
    · rw [if_neg q, if_neg (fun z => q z.1), if_neg (fun z => q z.1)]
      exact ⟨v, ν, rfl, pm, Off.refl _, vl⟩
theorem rs_prod (hk : OkT cl s t M) {lo : Nat} {dv : Int32} {rc : Int32 → Mem → Option (Int32 × Mem)} {X : Nat → RP} (hX : Good (min t M) X) (h : RSx cl s t M lo (rc dv) X) : RSx cl s t M lo (fX12_product_122 rc dv) (chn op4 s (min t M) X) := by
  have hM := hk.2.1
  intro a ν th hl ha pm rt
  unfold fX12_product_122 chn
  have gx := hX a ha
  refine RO.bnd (by omega) (h a ν th hl ha pm rt) (gx.w (by omega)) (fun r' ν' w hw hw2 => ⟨r', ?_⟩) (fun v ν' a' c e pm' o' vl => ?_)
  · show fX12_product_122_b6 rc (999 + 1) dv r' ν' = _
    rw [fX12_product_122_b6, xFine hw hw2, bnd_e, if_pos rfl]
  · rw [e] at gx
    obtain ⟨g1, g2, -, -, -⟩ := gx
    exact (prod_in hk hX h (min t M - a') FU a' c v ν' th (by omega) g2 (by omega) (fu_lt (by omega)) pm' (rt.off o') vl).off o'
theorem sum_in (hk : OkT cl s t M) {lo : Nat} {dv : Int32} {rc : Int32 → Mem → Option (Int32 × Mem)} {X : Nat → RP} (hX : Good (min t M) X) (h : RSx cl s t M lo (fX12_product_122 rc dv) X) : ∀ (k f a : Nat) (c : List Nat) (v : Int32) (ν : Mem) (th : Nat → Int32), lo ≤ a → a ≤ min t M → min t M ≤ a + k → k < f → PM cl s t M a ν → rdTh th ν → Vl th c v → RO cl s t M th ν (fX12_sum_122_b6 rc f dv v ν) (chL op5 s (min t M) X k a c) := by
  have hM := hk.2.1
  intro k
  induction k with
  | zero =>
    intro f a c v ν th hl ha hst hf pm rt vl
    obtain ⟨f, rfl⟩ := Nat.exists_eq_succ_of_ne_zero (show f ≠ 0 by omega)
    rw [fX12_sum_122_b6, mFine pm.2.2.2.2.1, bnd_e, if_neg n10, mHere hk pm (by omega), bnd_e, mHere hk pm (by omega), bnd_e]
    simp only [show (43 : Int32) = nI 43 from rfl, show (45 : Int32) = nI 45 from rfl, here_is hk (show 43 < 2 ^ 30 by decide), here_is hk (show 45 < 2 ^ 30 by decide)]
    rw [if_neg (by omega), if_neg (by omega)]
    exact ⟨v, ν, rfl, pm, Off.refl _, vl⟩
  | succ k ih =>
    intro f a c v ν th hl ha hst hf pm rt vl
    obtain ⟨f, rfl⟩ := Nat.exists_eq_succ_of_ne_zero (show f ≠ 0 by omega)
    rw [fX12_sum_122_b6, mFine pm.2.2.2.2.1, bnd_e, if_neg n10, mHere hk pm (by omega), bnd_e, mHere hk pm (by omega), bnd_e]
    unfold fX12_sum_122_b31
    rw [mHere hk pm (by omega), bnd_e]
    simp only [show (43 : Int32) = nI 43 from rfl, show (45 : Int32) = nI 45 from rfl, here_is hk (show 43 < 2 ^ 30 by decide), here_is hk (show 45 < 2 ^ 30 by decide)]
    rw [chL]
    have go : ∀ (q0 : Int32) (kk : Nat), a < min t M → ((q0 = 1 ∧ kk = 3) ∨ (q0 = 0 ∧ kk = 4)) → RO cl s t M th ν (fX12_sum_122_b45 rc (fun p1 p2 m => fX12_sum_122_b6 rc f p1 p2 m) dv v q0 ν) (bindP (X (a + 1)) fun a' c' => chL op5 s (min t M) X k a' (c ++ (c' ++ [2000 + kk]))) := by
      intro q0 kk hq hkk
      unfold fX12_sum_122_b45
      rw [pm.2.2.2.1, nI_1, lt_e]
      have o1 : Off wB ν (sI ν 122 21 (nI (a + 1))) := (Off.refl ν).sI rfl
      have gx := hX (a + 1) (by omega)
      refine RO.bnd (by omega) ((h (a + 1) _ th (by omega) (by omega) (pm.to hk (a + 1)) (rt.off o1)).off o1) (gx.w (by omega)) (fun r' ν' w hw hw2 => ?_) (fun v' ν' a' c' e' pm' o' vl' => ?_)
      · have stop : ∀ x : Int32, fX12_sum_122_b6 rc f dv x ν' = some (x, ν') := fun x => by
          obtain ⟨f, rfl⟩ := Nat.exists_eq_succ_of_ne_zero (show f ≠ 0 by omega)
          rw [fX12_sum_122_b6, xFine hw hw2, bnd_e, if_pos rfl]
        rcases hkk with ⟨rfl, rfl⟩ | ⟨rfl, rfl⟩
        · rw [if_neg n10, lt_e]; exact ⟨_, stop _⟩
        · rw [if_pos rfl, lt_e]; exact ⟨_, stop _⟩
      · rw [e'] at gx
        obtain ⟨g1, g2, -, -, -⟩ := gx
        have cont : ∀ x : Int32, x = jn kk v v' → RO cl s t M th ν (fX12_sum_122_b6 rc f dv x ν') (chL op5 s (min t M) X k a' (c ++ (c' ++ [2000 + kk]))) := by
          rintro x rfl
          exact (ih f a' _ _ ν' th (by omega) g2 (by omega) (by omega) pm' (rt.off o') (vl.bin vl' (by omega))).off o'
        rcases hkk with ⟨rfl, rfl⟩ | ⟨rfl, rfl⟩
        · rw [if_neg n10, lt_e]; exact cont _ rfl
        · rw [if_pos rfl, lt_e]; exact cont _ rfl
    by_cases q : a < min t M
    · rw [if_pos q]
      unfold op5
      by_cases q1 : s a = 43
      · rw [if_pos ⟨q, q1⟩, if_pos ⟨q, q1⟩, if_pos q1]
        exact go 1 3 q (Or.inl ⟨rfl, rfl⟩)
      · rw [if_neg (fun z => q1 z.2), if_neg q1]
        by_cases q2 : s a = 45
        · rw [if_pos ⟨q, q2⟩, if_neg (fun z => q1 z.2), if_pos q2]
          exact go 0 4 q (Or.inr ⟨rfl, rfl⟩)
        · rw [if_neg (fun z => q2 z.2), if_neg q2]
          exact ⟨v, ν, rfl, pm, Off.refl _, vl⟩
    · rw [if_neg q, if_neg (fun z => q z.1), if_neg (fun z => q z.1)]
      exact ⟨v, ν, rfl, pm, Off.refl _, vl⟩
theorem rs_sum (hk : OkT cl s t M) {lo : Nat} {dv : Int32} {rc : Int32 → Mem → Option (Int32 × Mem)} {T : Nat → RP} (hT : Good (min t M) T) (h : RSx cl s t M lo (rc dv) (pSg s (min t M) T)) : RSx cl s t M lo (fX12_sum_122 rc dv) (pSu s (min t M) T) := by
  have hM := hk.2.1
  have hX : Good (min t M) (chn op4 s (min t M) (pSg s (min t M) T)) := good_chn op4_ok (good_sg hT)
  have hp := rs_prod hk (good_sg hT) h
  intro a ν th hl ha pm rt
  unfold fX12_sum_122 pSu chn
  have gx := hX a ha
  refine RO.bnd (r := chn op4 s (min t M) (pSg s (min t M) T) a) (by omega) (hp a ν th hl ha pm rt) (gx.w (by omega)) (fun r' ν' w hw hw2 => ⟨r', ?_⟩) (fun v ν' a' c e pm' o' vl => ?_)
  · show fX12_sum_122_b6 rc (999 + 1) dv r' ν' = _
    rw [fX12_sum_122_b6, xFine hw hw2, bnd_e, if_pos rfl]
  · rw [e] at gx
    obtain ⟨g1, g2, -, -, -⟩ := gx
    exact (sum_in hk hX hp (min t M - a') FU a' c v ν' th (by omega) g2 (by omega) (fu_lt (by omega)) pm' (rt.off o') vl).off o'
end Pure62
