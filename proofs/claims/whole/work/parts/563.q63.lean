section Pure63
variable {cl : Nat} {s : Nat → Nat} {t M : Nat}
theorem rs_held (hk : OkT cl s t M) {lo : Nat} {dv : Int32} {rc : Int32 → Mem → Option (Int32 × Mem)} {T : Nat → RP} (hT : Good (min t M) T) (h : RSx cl s t M lo (rc dv) (pSg s (min t M) T)) : RSx cl s t M lo (fX12_held_122 rc dv) (pEx s (min t M) T) := by
  have hM := hk.2.1
  have hs := rs_sum hk hT h
  have gs : Good (min t M) (pSu s (min t M) T) := good_su hT
  intro a ν th hl ha pm rt
  unfold fX12_held_122 pEx
  have gx := gs a ha
  refine RO.bnd (by omega) (hs a ν th hl ha pm rt) (gx.w (by omega)) (fun r' ν' w hw hw2 => ⟨r', ?_⟩) (fun v ν' a' c e pm' o' vl => ?_)
  · rw [xPass hw hw2, bnd_e, if_pos rfl, xPass hw hw2, bnd_e, if_pos rfl, xPass hw hw2, bnd_e, if_pos rfl]
  · rw [e] at gx
    obtain ⟨g1, g2, -, -, -⟩ := gx
    have ps : ∀ x, x < 2 ^ 30 → fX12_passes_122 (nI x) ν' = some (if a' < min t M ∧ s a' = x then (1, sI ν' 122 21 (nI (a' + 1))) else (0, ν')) := fun x hx => mPass hk pm' (by omega) hx
    rw [show fX12_passes_122 60 ν' = _ from ps 60 (by decide)]
    -- the second sum
    have go : ∀ (k : Nat) (f : Int32 → Int32), k < 7 → (∀ x, f x = jn k v x) → a' < min t M → ∀ (F : Int32 → Mem → Option (Int32 × Mem)), (∀ r m, F r m = some (f r, m)) → RO cl s t M th ν (bnd (fX12_sum_122 rc dv (sI ν' 122 21 (nI (a' + 1)))) F) (bindP (pSu s (min t M) T (a' + 1)) fun a2 c2 => .inr (a2, c ++ (c2 ++ [2000 + k]))) := by
      intro k f hk7 hf hq F hF
      have o1 : Off wB ν (sI ν' 122 21 (nI (a' + 1))) := o'.sI rfl
      have g2x := gs (a' + 1) (by omega)
      refine RO.bnd (by omega) ((hs (a' + 1) _ th (by omega) (by omega) (pm'.to hk (a' + 1)) (rt.off o1)).off o1) (g2x.w (by omega)) (fun r' ν2 w hw hw2 => ⟨_, hF _ _⟩) (fun v2 ν2 a2 c2 e2 pm2 o2 vl2 => ?_)
      rw [hF, hf]
      exact ⟨_, ν2, rfl, pm2, o2, vl.bin vl2 hk7⟩
    by_cases q : a' < min t M
    · rw [if_pos q]
      unfold op6
      by_cases q1 : s a' = 60
      · rw [if_pos ⟨q, q1⟩, bnd_e, if_neg n10, if_pos q1]
        refine go 0 (fun x => if x ≤ v then 0 else 1) (by decide) (fun _ => rfl) q _ (fun r m => ?_)
        by_cases z : r ≤ v
        · rw [if_pos z, if_pos z]
        · rw [if_neg z, if_neg z]
      · rw [if_neg (fun z => q1 z.2), bnd_e, if_pos rfl, show fX12_passes_122 62 ν' = _ from ps 62 (by decide), if_neg q1]
        by_cases q2 : s a' = 62
        · rw [if_pos ⟨q, q2⟩, bnd_e, if_neg n10, if_pos q2]
          refine go 1 (fun x => if v ≤ x then 0 else 1) (by decide) (fun _ => rfl) q _ (fun r m => ?_)
          by_cases z : v ≤ r
          · rw [if_pos z, if_pos z]
          · rw [if_neg z, if_neg z]
        · rw [if_neg (fun z => q2 z.2), bnd_e, if_pos rfl, show fX12_passes_122 61 ν' = _ from ps 61 (by decide), if_neg q2]
          by_cases q3 : s a' = 61
          · rw [if_pos ⟨q, q3⟩, bnd_e, if_neg n10, if_pos q3]
            refine go 2 (fun x => if v = x then 1 else 0) (by decide) (fun _ => rfl) q _ (fun r m => ?_)
            by_cases z : v = r
            · rw [if_pos z, if_pos z]
            · rw [if_neg z, if_neg z]
          · rw [if_neg (fun z => q3 z.2), bnd_e, if_pos rfl, if_neg q3]
            exact ⟨v, ν', rfl, pm', o', vl⟩
    · rw [if_neg (fun z => q z.1), bnd_e, if_pos rfl, show fX12_passes_122 62 ν' = _ from ps 62 (by decide), if_neg (fun z => q z.1), bnd_e, if_pos rfl, show fX12_passes_122 61 ν' = _ from ps 61 (by decide), if_neg (fun z => q z.1), bnd_e, if_pos rfl, if_neg q]
      exact ⟨v, ν', rfl, pm', o', vl⟩
theorem m_letter {x : Nat} {ν : Mem} (hx : x < 256) : fX12_letterOf (nI x) ν = some (so0 x, ν) := by
  have e : ∀ ch, ch < 256 → (nI x = nI ch) = (x = ch) := fun ch h => propext (nI_eq (by omega) (by omega))
  unfold fX12_letterOf so0
  rw [show (98 : Int32) = nI 98 from rfl, show (119 : Int32) = nI 119 from rfl, show (100 : Int32) = nI 100 from rfl, show (110 : Int32) = nI 110 from rfl, show (102 : Int32) = nI 102 from rfl, show (105 : Int32) = nI 105 from rfl]
  simp only [e 98 (by decide), e 119 (by decide), e 100 (by decide), e 110 (by decide), e 102 (by decide), e 105 (by decide)]
  by_cases q0 : x = 98
  · simp only [if_pos q0]
  · simp only [if_neg q0]
    by_cases q1 : x = 119
    · simp only [if_pos q1]
    · simp only [if_neg q1]
      by_cases q2 : x = 100
      · simp only [if_pos q2]
      · simp only [if_neg q2]
        by_cases q3 : x = 110
        · simp only [if_pos q3]
        · simp only [if_neg q3]
          by_cases q4 : x = 102
          · simp only [if_pos q4]
          · simp only [if_neg q4]
            by_cases q5 : x = 105
            · simp only [if_pos q5]
            · simp only [if_neg q5]
theorem rs_b67 (hk : OkT cl s t M) {a : Nat} {ν : Mem} {th : Nat → Int32} (ha : a ≤ min t M) (pm : PM cl s t M a ν) (rt : rdTh th ν) (rc : Int32 → Mem → Option (Int32 × Mem)) : RO cl s t M th ν (fX12_thing_122_b67 rc (if a < min t M then nI (s a) else -1) ν) (pA s (min t M) a (.inl a)) := by
  have hM := hk.2.1
  unfold fX12_thing_122_b67 pA
  rw [show fX12_in (if a < min t M then nI (s a) else -1) (48 : Int32) (57 : Int32) ν = _ from mIn (f := 48) (m := 10) hk (by decide) (by decide), bnd_e]
  by_cases q : a < min t M ∧ 48 ≤ s a ∧ s a < 58
  · rw [if_pos (show a < min t M ∧ 48 ≤ s a ∧ s a < 48 + 10 from q), if_neg n10, if_pos q]
    rcases mNum hk pm (by omega) (show 1 ≤ 3 by decide) (by decide) with ⟨-, -, -, ν', e1, e2, e3⟩ | ⟨z, -⟩
    · rw [show fX12_number_122 3 ν = _ from e1, bnd_e]
      obtain ⟨l1, l2, l3, l4⟩ := nmS_le (s := s) (st := min t M) 2 (a + 1) (s a - 48)
      have : (s a - 48 + 1) * 10 ^ 2 ≤ 10 * 10 ^ 2 := Nat.mul_le_mul_right _ (by omega)
      exact ⟨_, ν', rfl, e2, e3, Vl.num (by omega)⟩
    · exact absurd q z
  · rw [if_neg (show ¬ (a < min t M ∧ 48 ≤ s a ∧ s a < 48 + 10) from q), if_pos rfl, if_neg q]
    by_cases q2 : a < min t M ∧ ¬ so0 (s a) < 0
    · have hs := hk.2.2 a (by omega)
      rcases so0_or (s a) with z | ⟨k, hk6, z, -⟩
      · rw [z.1] at q2; exact absurd (by decide) q2.2
      · rw [if_pos q2, if_pos q2.1, m_letter hs, bnd_e, z, if_neg (fun y => neg1_nI (by omega) y.symm), pm.2.2.2.1, nI_1, lt_e, ix_nI (by omega)]
        have o1 : Off wB ν (sI ν 122 21 (nI (a + 1))) := (Off.refl ν).sI rfl
        have tk := (rt.off o1) k hk6
        by_cases f : gI (sI ν 122 21 (nI (a + 1))) 122 26 = 0
        · rw [if_pos f] at tk
          rw [if_pos f, tk]
          exact ⟨_, _, rfl, pm.to hk _, o1, Vl.thing hk6⟩
        · rw [if_neg f] at tk
          rw [if_neg f, m_letter hs, bnd_e, z, gd_in hk6 (by decide), ix_nI (by omega), tk]
          exact ⟨_, _, rfl, pm.to hk _, o1, Vl.thing hk6⟩
    · rw [if_neg q2]
      have lt : fX12_letterOf (if a < min t M then nI (s a) else -1) ν = some (-1, ν) := by
        by_cases g : a < min t M
        · rw [if_pos g, m_letter (hk.2.2 a (by omega))]
          rcases so0_or (s a) with z | ⟨k, hk6, z, -⟩
          · rw [z.1]
          · exact absurd ⟨g, by rw [z]; exact nI_pos (by omega)⟩ q2
        · rw [if_neg g]; rfl
      rw [lt, bnd_e, if_pos rfl, mFault pm.2.2.2.2.1, bnd_e, pm.2.2.2.1]
      exact ⟨_, _, rfl, rfl, (Off.refl ν).sI rfl⟩
theorem pA_els {st a : Nat} {e e' : RP} (h : ¬ (a < st ∧ 48 ≤ s a ∧ s a < 58)) (h2 : ¬ (a < st ∧ ¬ so0 (s a) < 0)) : pA s st a e = e := by
  unfold pA
  rw [if_neg h, if_neg h2]
theorem pA_any {st a : Nat} {e e' : RP} (h : (a < st ∧ 48 ≤ s a ∧ s a < 58) ∨ (a < st ∧ ¬ so0 (s a) < 0)) : pA s st a e = pA s st a e' := by
  unfold pA
  by_cases q : a < st ∧ 48 ≤ s a ∧ s a < 58
  · rw [if_pos q, if_pos q]
  · rw [if_neg q, if_neg q, if_pos (h.resolve_left q), if_pos (h.resolve_left q)]
theorem rs_thing (hk : OkT cl s t M) : ∀ (fuel n lo : Nat), n ≤ 4 → min t M < lo + fuel → RSx cl s t M lo (fX12_thing_122 fuel (nI (4 - n))) (pSg s (min t M) (pT s (min t M) n)) := by
  have hM := hk.2.1
  intro fuel
  induction fuel with
  | zero =>
    intro n lo hn hf a ν th hl ha
    omega
  | succ fuel ih =>
    intro n lo hn hf a ν th hl ha pm rt
    rw [fX12_thing_122]
    unfold fX12_thing_122_r
    rw [show fX12_passes_122 45 ν = _ from mPass hk pm (x := 45) (by omega) (by decide)]
    by_cases q : a < min t M ∧ s a = 45
    · rw [if_pos q, bnd_e, if_neg n10, pSg_yes q]
      have o1 : Off wB ν (sI ν 122 21 (nI (a + 1))) := (Off.refl ν).sI rfl
      have gx := good_sg (s := s) (good_T (s := s) (st := min t M) n) (a + 1) (by omega)
      refine RO.bnd (by omega) ((ih n (a + 1) hn (by omega) (a + 1) _ th (Nat.le_refl _) (by omega) (pm.to hk (a + 1)) (rt.off o1)).off o1) (gx.w (by omega)) (fun r' ν' w hw hw2 => ⟨-r', rfl⟩) (fun v ν' a' c e pm' o' vl => ?_)
      exact ⟨_, ν', rfl, pm', o', vl.neg⟩
    · rw [if_neg q, bnd_e, if_pos rfl, mFine pm.2.2.2.2.1, bnd_e, if_neg n10, mHere hk pm (by omega), bnd_e, pSg_no q]
      simp only [show (40 : Int32) = nI 40 from rfl, here_is hk (show 40 < 2 ^ 30 by decide)]
      by_cases p : a < min t M ∧ s a = 40
      · have nd : ¬ (a < min t M ∧ 48 ≤ s a ∧ s a < 58) := by omega
        have nl : ¬ (a < min t M ∧ ¬ so0 (s a) < 0) := fun z => by
          rcases so0_or (s a) with y | ⟨k, hk6, y, y2⟩
          · rw [y.1] at z; exact z.2 (by decide)
          · omega
        rw [if_pos p]
        cases n with
        | zero =>
          rw [if_pos (show (4 : Int32) ≤ nI (4 - 0) by decide)]
          exact rs_b67 hk ha pm rt _
        | succ n =>
          rw [if_neg (show ¬ (4 : Int32) ≤ nI (4 - (n + 1)) from nI_ge (b := 4) (by omega) (by decide)), pT, pA_els (e' := .inl a) nd nl, if_pos p, pm.2.2.2.1, nI_1, lt_e, nI_1, show 4 - (n + 1) + 1 = 4 - n by omega]
          have o1 : Off wB ν (sI ν 122 21 (nI (a + 1))) := (Off.refl ν).sI rfl
          have H := rs_held hk (good_T (s := s) (st := min t M) n) (rc := fun v1 m => fX12_thing_122 fuel v1 m) (dv := nI (4 - n)) (ih n (a + 1) (by omega) (by omega))
          have gx := good_ex (s := s) (good_T (s := s) (st := min t M) n) (a + 1) (by omega)
          refine RO.bnd (by omega) ((H (a + 1) _ th (Nat.le_refl _) (by omega) (pm.to hk (a + 1)) (rt.off o1)).off o1) (gx.w (by omega)) (fun r' ν' w hw hw2 => ⟨r', ?_⟩) (fun v ν' a' c e pm' o' vl => ?_)
          · rw [xNeed hw hw2, bnd_e]
          · rw [e] at gx
            obtain ⟨g1, g2, -, -, -⟩ := gx
            rw [show fX12_need_122 41 ν' = _ from mNeed hk pm' (x := 41) (by omega) (by decide), bnd_e]
            by_cases z : a' < min t M ∧ s a' = 41
            · rw [if_pos z, if_pos z]
              exact ⟨v, _, rfl, pm'.to hk _, o'.sI rfl, vl⟩
            · rw [if_neg z, if_neg z]
              exact ⟨v, _, rfl, rfl, o'.sI rfl⟩
      · rw [if_neg p]
        have base := rs_b67 hk ha pm rt (fun v1 m => fX12_thing_122 fuel v1 m)
        cases n with
        | zero => exact base
        | succ n =>
          rw [pT, if_neg p]
          exact base
end Pure63
