section Pure49
variable {V : VT} {c b B : Nat} {μ ν : Mem} {s : Nat → Nat} {t M : Nat}
theorem bit8b : ∀ g, g < 8 → ∀ y, y < 256 → (((nI y >>> (nI g &&& 31)) &&& 1 = 0) ↔ y.testBit g = false) := by decide +kernel
theorem ch97 : ∀ g, g < 8 → toCh ((97 : Int32) + nI g) = nI (97 + g) := by decide
def letG (s : Nat → Nat) (st a x : Nat) : Prop := a < st ∧ s a = 97 + x ∧ x < 8
theorem or_bit {T y g i : Nat} : (T ||| (y ||| 2 ^ g)).testBit i = ((T ||| y).testBit i || decide (g = i)) := by
  rw [Nat.testBit_or, Nat.testBit_or, Nat.testBit_or, Nat.testBit_two_pow, Bool.or_assoc]
theorem goods_in (hk : OkT 133 s t M) {T : Nat} (hT : T < 256) {q : Nat} (hq : q + 4 < 40) : ∀ (m f f' g a y l : Nat) (μ ν : Mem), g + m = 8 → m < f → m < f' → a ≤ 80 → y < 2 ^ g → l ≤ g → PC s t M a μ → PM 133 s t M a ν → gI μ 5 6 = nI T → gI ν 135 (q + 4) = nI y → (∀ i, i < 8 → l ≤ i → y.testBit i = false) → (∀ x, letG s (min t M) a x → x < g → x < l ∨ T.testBit x = true) →
    ∃ a' y' μ' ν', y' < 256 ∧ a ≤ a' ∧ (a' ≤ min t M ∨ a' = a) ∧ fX3_readGoods_5_1_b4 f (nI y) (nI g) μ = some (nI y', μ') ∧ PC s t M a' μ' ∧ Off wA μ μ' ∧ Off (fun k j => wB k j || (k == 135 && j == q + 4)) ν ν' ∧ fX12_readMan_122_b124 (f' + 1) (nI q) (nI (T ||| y)) (nI l - 1) ν = some (nI (T ||| y'), ν') ∧ gI ν' 135 (q + 4) = nI y' ∧ ((PM 133 s t M a' ν') ∨ (gI ν' 122 22 = nI a' ∧ ∃ x, letG s (min t M) a' x)) := by
  have hM := hk.2.1
  intro m
  induction m with
  | zero =>
    intro f f' g a y l μ ν h1 h2 h3 ha hy hl pc pm e56 e35 hy2 hx
    obtain ⟨f, rfl⟩ := Nat.exists_eq_succ_of_ne_zero (show f ≠ 0 by omega)
    obtain rfl : g = 8 := by omega
    have hy' : y < 256 := hy
    have hin : fX12_in (if a < min t M then nI (s a) else -1) (97 : Int32) (104 : Int32) ν = _ := mIn (f := 97) (m := 8) hk (by decide) (by decide)
    rw [fX3_readGoods_5_1_b4, if_pos (by decide), fX12_readMan_122_b124, mFine pm.2.2.2.2.1, bnd_e, if_neg n10, mHere hk pm (by omega), bnd_e, hin, bnd_e]
    by_cases z : a < min t M ∧ 97 ≤ s a ∧ s a < 97 + 8
    · have lg : letG s (min t M) a (s a - 97) := ⟨z.1, by omega, by omega⟩
      have hs : nI (s a) - 97 = nI (s a - 97) := nI_sub (b := 97) z.2.1 (by omega)
      have fin : fX12_readMan_122_b170 (fun p1 p3 p4 m => fX12_readMan_122_b124 f' p1 p3 p4 m) (nI q) (nI (T ||| y)) (nI l - 1) ν = some (nI (T ||| y), sI ν 122 22 (nI a)) := by
        obtain ⟨f', rfl⟩ := Nat.exists_eq_succ_of_ne_zero (show f' ≠ 0 by omega)
        unfold fX12_readMan_122_b170
        rw [mFault pm.2.2.2.2.1, bnd_e, pm.2.2.2.1]
        show fX12_readMan_122_b124 (f' + 1) _ _ _ _ = _
        rw [fX12_readMan_122_b124, xFine (w := a) (by omega) (by rfl), bnd_e, if_pos rfl]
      refine ⟨a, y, μ, sI ν 122 22 (nI a), hy', Nat.le_refl _, Or.inr rfl, rfl, pc, Off.refl _, (Off.refl ν).sI rfl, ?_, e35, Or.inr ⟨rfl, _, lg⟩⟩
      rw [if_pos z, if_neg n10, mHere hk pm (by omega), if_pos z.1, bnd_e, hs, lt_e]
      rcases hx _ lg (by omega) with u | u
      · have : nI (s a - 97) ≤ nI l - 1 := by
          obtain ⟨l, rfl⟩ := Nat.exists_eq_succ_of_ne_zero (show l ≠ 0 by omega)
          rw [nI_pred]
          exact nI_le (by omega) (by omega)
        rw [if_pos this, fin]
      · by_cases u2 : nI (s a - 97) ≤ nI l - 1
        · rw [if_pos u2, fin]
        · have hTy : T ||| y < 256 := Nat.or_lt_two_pow (n := 8) hT hy'
          rw [if_neg u2, m_has, if_neg (fun v => by
            rw [bit8b (s a - 97) (by omega) (T ||| y) hTy, Nat.testBit_or, u] at v
            exact Bool.noConfusion v), bnd_e, if_neg n10, fin]
    · refine ⟨a, y, μ, ν, hy', Nat.le_refl _, Or.inr rfl, rfl, pc, Off.refl _, Off.refl _, ?_, e35, Or.inl pm⟩
      rw [if_neg z, if_pos rfl]
  | succ m ih =>
    intro f f' g a y l μ ν h1 h2 h3 ha hy hl pc pm e56 e35 hy2 hx
    obtain ⟨f, rfl⟩ := Nat.exists_eq_succ_of_ne_zero (show f ≠ 0 by omega)
    have g8 : g < 8 := by omega
    have p2 : 2 ^ (g + 1) = 2 * 2 ^ g := by rw [Nat.pow_succ, Nat.mul_comm]
    have p8 : 2 ^ (g + 1) ≤ 256 := Nat.pow_le_pow_right (n := 2) (by decide) (show g + 1 ≤ 8 by omega)
    rw [fX3_readGoods_5_1_b4, if_neg (show ¬ (8 : Int32) ≤ nI g from nI_ge (b := 8) g8 (by decide)), e56]
    by_cases u : T.testBit g = true
    · rw [if_neg (fun v => by rw [(bit8b g g8 T hT).mp v] at u; exact Bool.noConfusion u), nI_1]
      exact ih f f' (g + 1) a y l μ ν (by omega) (by omega) (by omega) ha (by omega) (by omega) pc pm e56 e35 hy2 (fun x lx hxg => by
        by_cases e : x = g
        · rw [e]; exact Or.inr u
        · exact hx x lx (by omega))
    · have u' : T.testBit g = false := by simpa using u
      rw [if_pos ((bit8b g g8 T hT).mpr u'), ch97 g g8, cTake hk pc (by omega) (by omega)]
      by_cases z : a < min t M ∧ s a = 97 + g
      · rw [if_pos z, bnd_e, if_neg n10, lt_e, shl1 g g8, nI_or, nI_1]
        obtain ⟨f', rfl⟩ := Nat.exists_eq_succ_of_ne_zero (show f' ≠ 0 by omega)
        have hTy : T ||| y < 256 := Nat.or_lt_two_pow (n := 8) hT (by omega)
        have yg : (T ||| y).testBit g = false := by rw [Nat.testBit_or, u', hy2 g g8 hl]; rfl
        have hin : fX12_in (if a < min t M then nI (s a) else -1) (97 : Int32) (104 : Int32) ν = _ := mIn (f := 97) (m := 8) hk (by decide) (by decide)
        have hs : nI (s a) - 97 = nI g := by rw [z.2, show (97 : Int32) = nI 97 from rfl, nI_sub (by omega) (by omega), show 97 + g - 97 = g by omega]
        have ngl : ¬ nI g ≤ nI l - 1 := by
          by_cases l0 : l = 0
          · subst l0
            rw [i_le, nI_toInt (by omega)]
            have : (nI 0 - 1 : Int32).toInt = -1 := by decide
            omega
          · obtain ⟨l, rfl⟩ := Nat.exists_eq_succ_of_ne_zero l0
            rw [nI_pred]
            exact nI_ge (by omega) (by omega)
        have oy : y ||| 2 ^ g < 2 ^ (g + 1) := Nat.or_lt_two_pow (by omega) (by omega)
        have e35' : gI (sI (sI ν 122 21 (nI (a + 1))) 135 (q + 4) (nI (y ||| 2 ^ g))) 135 (q + 4) = nI (y ||| 2 ^ g) := by rw [gI_sI, if_pos ⟨rfl, rfl⟩]
        obtain ⟨a', y', μ', ν', r1, r2, r3, r4, r5, r6, r7, r8, r9, r10⟩ := ih f f' (g + 1) (a + 1) (y ||| 2 ^ g) (g + 1) (sI μ 1 2 (nI (a + 1))) (sI (sI ν 122 21 (nI (a + 1))) 135 (q + 4) (nI (y ||| 2 ^ g))) (by omega) (by omega) (by omega) (by omega) oy (by omega) (pc.to _) ((pm.to hk (a + 1)).off (P := fun a _ => a == 135) ((Off.refl _).sI rfl) (fun a j z => by rw [beq_iff_eq] at z; omega)) e56 e35' (fun i hi hgi => by
          rw [Nat.testBit_or, Nat.testBit_two_pow, decide_eq_false (show ¬ g = i by omega), hy2 i hi (by omega)]; rfl) (fun x lx hxg => Or.inl (by omega))
        refine ⟨a', y', μ', ν', r1, by omega, by omega, r4, r5, ((Off.refl μ).sI rfl).tr r6, (((Off.refl ν).sI rfl).sI (by simp)).tr r7, ?_, r9, r10⟩
        rw [fX12_readMan_122_b124, mFine pm.2.2.2.2.1, bnd_e, if_neg n10, mHere hk pm (by omega), bnd_e, hin, bnd_e, if_pos (show a < min t M ∧ 97 ≤ s a ∧ s a < 97 + 8 by omega), if_neg n10, mHere hk pm (by omega), if_pos z.1, bnd_e, hs, lt_e, if_neg ngl, m_has, if_pos ((bit8b g g8 _ hTy).mpr yg), bnd_e, if_pos rfl, lt_e, pm.2.2.2.1, nI_1, show nI q + 4 = nI (q + 4) from nI_add q 4, gd_in (by omega) (by decide), gd_in (by omega) (by decide), ix_nI (by omega), lt_e, lt_e, shl1 g g8, show gI (sI ν 122 21 (nI (a + 1))) 135 (q + 4) = nI y from e35, nI_or, nI_or, Nat.or_assoc]
        have : nI (g + 1) - 1 = nI g := nI_pred g
        rw [this] at r8
        exact r8
      · rw [if_neg z, bnd_e, if_pos rfl, nI_1]
        exact ih f f' (g + 1) a y l μ ν (by omega) (by omega) (by omega) ha (by omega) (by omega) pc pm e56 e35 hy2 (fun x lx hxg => by
          by_cases e : x = g
          · subst e; exact absurd ⟨lx.1, lx.2.1⟩ z
          · exact hx x lx (by omega))
theorem AGs_nat {g : Nat → Int32} : ∀ (m p a : Nat), a < 256 → (∀ i, i < p + m → ∃ v, v < 256 ∧ g i = nI v) → ∃ T, T < 256 ∧ AGs g p m (nI a) = nI T
  | 0, _, a, ha, _ => ⟨a, ha, rfl⟩
  | m + 1, p, a, ha, h => by
    obtain ⟨v, hv, e⟩ := h p (by omega)
    rw [AGs, e, nI_or]
    exact AGs_nat m (p + 1) (a ||| v) (Nat.or_lt_two_pow (n := 8) ha hv) (fun i hi => h i (by omega))
end Pure49
