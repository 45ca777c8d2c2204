section Pure58
variable {V : VT} {c b B : Nat} {μ ν : Mem} {s : Nat → Nat} {t a : Nat}
theorem act_bad (hk : OkT 133 s t 60) {n : Nat} (hn : n ≤ 20) (pm : PM 133 s t 60 a ν) (hat : a ≤ 60) (hb : a < min t 60 → so1 (s a) = -1) : ∃ ν', fX12_readAct_122 (nI (3 * n)) ν = some ((), ν') ∧ gI ν' 122 22 = nI a ∧ Off scM ν ν' := by
  unfold fX12_readAct_122
  rw [mHere hk pm (by omega), bnd_e]
  have ne : ∀ x, (x = 108 ∨ x = 111 ∨ x = 97 ∨ x = 106 ∨ x = 110) → ¬ (if a < min t 60 then nI (s a) else -1) = nI x := by
    intro x hx
    by_cases q : a < min t 60
    · rw [if_pos q]
      have h1 := hk.2.2 a (by omega)
      rcases so1_or (s a) with ⟨-, q1, q2, q3, q4, q5⟩ | ⟨k, k1, -, k3⟩
      · rw [nI_eq (by omega) (by omega)]; omega
      · rw [hb q] at k3
        exact absurd k3 (neg1_nI (by omega))
    · rw [if_neg q]
      exact neg1_nI (by omega)
  generalize hr : (if a < min t 60 then nI (s a) else (-1 : Int32)) = r at ne ⊢
  have n108 : ¬ r = 108 := ne 108 (by omega)
  have n111 : ¬ r = 111 := ne 111 (by omega)
  have n97 : ¬ r = 97 := ne 97 (by omega)
  have n106 : ¬ r = 106 := ne 106 (by omega)
  have n110 : ¬ r = 110 := ne 110 (by omega)
  rw [if_neg n108, if_neg n111, if_neg n97, if_neg n106, if_neg n110, mFault pm.2.2.2.2.1, bnd_e, pm.2.2.2.1]
  unfold fX12_readAct_122_b43 fX12_readAct_122_b89
  rw [lt_e, gd_in (by omega) (by decide), ix_nI (by omega), lt_e, if_neg n110, xOne (w := a) (by omega) (by rfl), bnd_e, show nI (3 * n) + 1 = nI (3 * n + 1) from nI_add _ 1, gd_in (by omega) (by decide), ix_nI (by omega), lt_e, if_neg n108, if_neg n111]
  exact ⟨_, rfl, rfl, ((((Off.refl ν).sI rfl).sI rfl).sI rfl).sI rfl⟩
theorem act_line (hk : OkT 133 s t 60) {n : Nat} (hn : n ≤ 20) (h20 : n = 20 → ¬ a < min t 60) (pc : PC s t 60 a μ) (pm : PM 133 s t 60 a ν) (hat : a ≤ 60) (ad : AD n μ ν) :
    (∃ w μ' ν', w ≤ 80 ∧ fX0_readsOne_15_1 (nI n) μ = some (0, μ') ∧ gI μ' 1 2 = nI w ∧ Off scC μ μ' ∧ fX12_readAct_122 (nI (3 * n)) ν = some ((), ν') ∧ gI ν' 122 22 = nI w ∧ Off scM ν ν') ∨
    (∃ a' μ' ν', a + 2 ≤ a' ∧ a' ≤ min t 60 ∧ n < 20 ∧ fX0_readsOne_15_1 (nI n) μ = some (1, μ') ∧ fX12_readAct_122 (nI (3 * n)) ν = some ((), ν') ∧ PC s t 60 a' μ' ∧ PM 133 s t 60 a' ν' ∧ Off scC μ μ' ∧ Off scM ν ν' ∧ AD (n + 1) μ' ν') := by
  by_cases n20 : n = 20
  · left
    obtain ⟨ν', x1, x2, x3⟩ := act_bad hk hn pm hat (fun q => absurd q (h20 n20))
    refine ⟨a, μ, ν', by omega, ?_, pc.2.1, Off.refl _, x1, x2, x3⟩
    unfold fX0_readsOne_15_1
    rw [if_neg (nI_pos (by omega)), if_neg (show ¬ nI n < (20 : Int32) from nI_nlt (b := 20) (by omega) (by omega))]
  · have hn' : n < 20 := by omega
    by_cases q : a < min t 60 ∧ ¬ so1 (s a) = -1
    · have hs := hk.2.2 a (by omega)
      rcases so1_or (s a) with ⟨q1, -⟩ | ⟨k, hkk, hl, hs1⟩
      · exact absurd q1 q.2
      · have pc1 : PC s t 60 (a + 1) (sI (sI μ 1 2 (nI (a + 1))) 16 n (nI k)) := (pc.to (a + 1)).off (P := fun a _ => a == 16) ((Off.refl _).sI rfl) (fun a j z => by rw [beq_iff_eq] at z; omega)
        have pm1 : PM 133 s t 60 (a + 1) (sI (sI ν 122 21 (nI (a + 1))) 141 (3 * n) (nI (ltr k))) := (pm.to hk (a + 1)).off (P := fun a _ => a == 141) ((Off.refl _).sI rfl) (fun a j z => by rw [beq_iff_eq] at z; omega)
        have z16 : gI (sI (sI μ 1 2 (nI (a + 1))) 16 n (nI k)) 16 n = nI k := by rw [gI_sI, if_pos ⟨rfl, rfl⟩]
        have oM1 : Off (oP n) μ (sI (sI μ 1 2 (nI (a + 1))) 16 n (nI k)) := ((Off.refl μ).sI rfl).sI (oP_k (by omega))
        have oN1 : Off (oQ n) ν (sI (sI ν 122 21 (nI (a + 1))) 141 (3 * n) (nI (ltr k))) := ((Off.refl ν).sI rfl).sI (oQ_k (by omega))
        have AR := act_rest hk hn' hkk pc1 pm1 (by omega) z16 (by rw [gI_sI, if_pos ⟨rfl, rfl⟩])
        have eC : fX0_readsOne_15_1 (nI n) μ = if nI k = 4 then (fX0_readsOne_15_1_b60 (nI n) (0 : Int32) (nI n) (sI (sI μ 1 2 (nI (a + 1))) 16 n (nI k))) else bnd (fX9_digit_1 (10 : Int32) (sI (sI μ 1 2 (nI (a + 1))) 16 n (nI k))) fun r4 m5 => fX0_readsOne_15_1_b60 (nI n) r4 (nI n) m5 := by
          unfold fX0_readsOne_15_1
          rw [if_neg (nI_pos (by omega)), if_pos (show nI n < (20 : Int32) from nI_lt (b := 20) hn' (by decide)), cOne_1 hk pc (by omega), if_pos q.1, hs1, if_neg (nI_pos (by omega)), bnd_e]
          simp (disch := omega) only [gd_in, ix_nI, lt_e]
          rw [z16, if_pos (nI_pos' (by omega))]
        have eM : fX12_readAct_122 (nI (3 * n)) ν = if nI (ltr k) = (110 : Int32) then (bnd (fX12_number_122 (2 : Int32) (sI (sI ν 122 21 (nI (a + 1))) 141 (3 * n) (nI (ltr k)))) fun r9 m10 => fX12_readAct_122_b89 (nI (3 * n)) (nI (ltr k)) r9 (nI (3 * n + 1)) m10) else bnd (fX12_oneOf_122 (48 : Int32) (10 : Int32) (sI (sI ν 122 21 (nI (a + 1))) 141 (3 * n) (nI (ltr k)))) fun r7 m8 => fX12_readAct_122_b89 (nI (3 * n)) (nI (ltr k)) r7 (nI (3 * n + 1)) m8 := by
          unfold fX12_readAct_122
          rw [mHere hk pm (by omega), bnd_e, if_pos q.1, hl]
          have b43 : fX12_readAct_122_b43 (nI (3 * n)) (nI (ltr k)) ν = _ := rfl
          unfold fX12_readAct_122_b43 at b43 ⊢
          simp (disch := omega) only [lt_e, pm.2.2.2.1, nI_1, gd_in, ix_nI]
          obtain rfl | rfl | rfl | rfl | rfl : k = 0 ∨ k = 1 ∨ k = 2 ∨ k = 3 ∨ k = 4 := by omega
          · rw [if_pos (show nI (ltr 0) = 108 from rfl)]
          · rw [if_neg (show ¬ nI (ltr 1) = 108 by decide), if_pos (show nI (ltr 1) = 111 from rfl)]
          · rw [if_neg (show ¬ nI (ltr 2) = 108 by decide), if_neg (show ¬ nI (ltr 2) = 111 by decide), if_pos (show nI (ltr 2) = 97 from rfl)]
          · rw [if_neg (show ¬ nI (ltr 3) = 108 by decide), if_neg (show ¬ nI (ltr 3) = 111 by decide), if_neg (show ¬ nI (ltr 3) = 97 by decide), if_pos (show nI (ltr 3) = 106 from rfl)]
          · rw [if_neg (show ¬ nI (ltr 4) = 108 by decide), if_neg (show ¬ nI (ltr 4) = 111 by decide), if_neg (show ¬ nI (ltr 4) = 97 by decide), if_neg (show ¬ nI (ltr 4) = 106 by decide), if_pos (show nI (ltr 4) = 110 from rfl)]
        rcases AR with ⟨w, μ', ν', r1, r2, r3, r4, r5, r6, r7⟩ | ⟨a', w, v, μ', ν', r1, r2, r3, r4, r5, r6, r7, r8, r9, r10, r11, r12, r13, r14, r15, r16, r17⟩
        · exact Or.inl ⟨w, μ', ν', r1, eC.trans r2, r3, (oM1.tr r4).mono (fun _ _ z => oP_sc z), eM.trans r5, r6, (oN1.mono (fun _ _ z => oQ_sc z)).tr r7⟩
        · exact Or.inr ⟨a', μ', ν', by omega, r2, hn', eC.trans r5, eM.trans r6, r7, r8, (oM1.tr r9).mono (fun _ _ z => oP_sc z), (oN1.tr r10).mono (fun _ _ z => oQ_sc z), ad.next (oM1.tr r9) (oN1.tr r10) hkk r3 r4 r11 r12 r13 r14 r15 r16 r17⟩
    · left
      obtain ⟨ν', x1, x2, x3⟩ := act_bad hk hn pm hat (fun z => Classical.byContradiction (fun y => q ⟨z, y⟩))
      refine ⟨a, sI μ 16 n (-1), ν', by omega, ?_, pc.2.1, (Off.refl μ).sI rfl, x1, x2, x3⟩
      have bad : (if a < min t 60 then (if so1 (s a) < 0 then (so1 (s a), μ) else (so1 (s a), sI μ 1 2 (nI (a + 1)))) else (-1, μ)) = ((-1 : Int32), μ) := by
        by_cases g : a < min t 60
        · have : so1 (s a) = -1 := Classical.byContradiction (fun z => q ⟨g, z⟩)
          rw [if_pos g, this, if_pos (by decide)]
        · rw [if_neg g]
      unfold fX0_readsOne_15_1
      rw [if_neg (nI_pos (by omega)), if_pos (show nI n < (20 : Int32) from nI_lt (b := 20) hn' (by decide)), cOne_1 hk pc (by omega), bad, bnd_e]
      simp (disch := omega) only [gd_in, ix_nI, lt_e]
      rw [show gI (sI μ 16 n (-1)) 16 n = -1 from by rw [gI_sI, if_pos ⟨rfl, rfl⟩], if_neg (by decide)]
theorem act_in (hk : OkT 133 s t 60) (ht : t ≤ 80) : ∀ (m f f' n a : Nat) (μ ν : Mem), n + m = 21 → m < f → m < f' → n ≤ 20 → 3 * n ≤ a → a ≤ min t 60 → PC s t 60 a μ → PM 133 s t 60 a ν → RT V c b B μ ν → AD n μ ν →
    (∃ w μ' ν', w ≤ 80 ∧ fX5_readAll_15_1_b16 f (nI n) μ = some (-1 - nI w, μ') ∧ fX12_assize_122_b26 (f' + 1) (nI n) 1 ν = some (-1 - nI w, ν') ∧ RT V c b B μ' ν') ∨
    (∃ n' μ' ν', n' ≤ 20 ∧ fX5_readAll_15_1_b16 f (nI n) μ = some (nI n', μ') ∧ fX12_assize_122_b26 (f' + 1) (nI n) 1 ν = (bnd (fX12_lay_123_139 (0 : Int32) ν') fun _ m14 => fX12_assize_122_b85 FU (nI n') (0 : Int32) m14) ∧ RT V c b B μ' ν' ∧ AD n' μ' ν') := by
  intro m
  induction m with
  | zero =>
    intro f f' n a μ ν h1
    omega
  | succ m ih =>
    intro f f' n a μ ν h1 h2 h3 hn h3n hat pc pm rt ad
    obtain ⟨f, rfl⟩ := Nat.exists_eq_succ_of_ne_zero (show f ≠ 0 by omega)
    obtain ⟨f', rfl⟩ := Nat.exists_eq_succ_of_ne_zero (show f' ≠ 0 by omega)
    have i3' : (3 : Int32) * nI n = nI (3 * n) := nI_mul 3 n
    rw [fX5_readAll_15_1_b16, fX12_assize_122_b26, if_neg (show ¬ (80 : Int32) ≤ nI n from nI_ge (b := 80) (by omega) (by decide)), if_neg n10, mFine pm.2.2.2.2.1, bnd_e, if_neg n10, i3']
    have xend : ∀ (w : Nat) (N : Mem), w < 2 ^ 30 → gI N 122 22 = nI w → (bnd (fX12_passes_122 59 N) fun r9 m10 => fX12_assize_122_b26 (f' + 1) (nI n + 1) r9 m10) = some (-1 - nI w, N) := fun w N hw hN => by
      rw [xPass hw hN, bnd_e, fX12_assize_122_b26, if_pos rfl]
      unfold fX12_assize_122_b57
      rw [xRight hw hN, bnd_e, if_pos rfl, hN]
    rcases act_line hk hn (fun z y => by omega) pc pm (by omega) ad with ⟨w, μ', ν', hw, e1, e2, o1, e3, e4, o2⟩ | ⟨a', μ', ν', ha1, ha2, hn', e1, e3, pc', pm', o1, o2, ad'⟩
    · left
      refine ⟨w, μ', ν', hw, ?_, ?_, (rt.oc o1 (fun _ _ z => z)).om o2 (fun _ _ z => z)⟩
      · rw [e1, bnd_e, if_pos rfl]
        unfold fX9_wrong_1
        rw [bnd_e, e2]
      · rw [e3, bnd_e]
        exact xend w ν' (by omega) e4
    · have rt' := (rt.oc o1 (fun _ _ z => z)).om o2 (fun _ _ z => z)
      rw [e1, bnd_e, if_neg n10, e3, bnd_e]
      unfold fX9_isRead_1
      rw [pc'.1, pc'.2.1]
      by_cases g : t = a'
      · right
        subst g
        refine ⟨n + 1, μ', ν', by omega, ?_, ?_, rt', ad'⟩
        · rw [if_pos rfl, bnd_e, if_neg n10, nI_1]
        · rw [show fX12_passes_122 59 ν' = _ from mPass hk pm' (x := 59) (by omega) (by decide), if_neg (by omega), bnd_e, nI_1, fX12_assize_122_b26, if_pos rfl]
          unfold fX12_assize_122_b57
          rw [mRight pm' (by omega) (by omega), if_pos (Nat.le_refl _), bnd_e, if_neg n10]
      · rw [if_neg (by rw [nI_eq (by omega) (by omega)]; omega), bnd_e, if_pos rfl]
        rcases take_both hk pc' pm' (by omega) (x := 59) (by decide) with ⟨l, x1, -, x2⟩ | ⟨-, x1, -, x2⟩
        · rw [show fX9_takes_1 59 μ' = _ from x1, bnd_e, if_neg n10, nI_1, show fX12_passes_122 59 ν' = _ from x2, bnd_e]
          exact ih f f' (n + 1) (a' + 1) (sI μ' 1 2 (nI (a' + 1))) (sI ν' 122 21 (nI (a' + 1))) (by omega) (by omega) (by omega) (by omega) (by omega) (by omega) (pc'.to _) (pm'.to hk _) ((rt'.oc (P := wA) ((Off.refl _).sI rfl) (fun _ _ => wA_sc)).om (P := wB) ((Off.refl _).sI rfl) (fun _ _ => wB_sc)) (fun i hi => ad' i hi)
        · left
          rw [show fX9_takes_1 59 μ' = _ from x1, bnd_e, if_pos rfl]
          unfold fX9_wrong_1
          rw [bnd_e, pc'.2.1, show fX12_passes_122 59 ν' = _ from x2, bnd_e, fX12_assize_122_b26, if_pos rfl]
          unfold fX12_assize_122_b57
          rw [mRight pm' (by omega) (by omega), if_neg (by omega), bnd_e, if_pos rfl]
          exact ⟨a', μ', sI ν' 122 22 (nI a'), by omega, rfl, rfl, rt'.om (P := wB) ((Off.refl _).sI rfl) (fun _ _ => wB_sc)⟩
end Pure58
