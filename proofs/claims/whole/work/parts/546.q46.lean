section Pure46
variable {V : VT} {c b B : Nat} {μ ν : Mem} {s : Nat → Nat} {t : Nat}
theorem wit_in (hk : OkT 133 s t 60) (ht : t ≤ 80) : ∀ (m f f' n a : Nat) (μ ν : Mem), n + m = 9 → m < f → m < f' → b + n ≤ 8 → PC s t 60 a μ → PM 133 s t 60 a ν → RT V c b B μ ν → a ≤ t → WD c b n μ ν →
    (∃ w μ' ν', w ≤ 80 ∧ fX5_readAll_11_1_b16 f (nI n) μ = some (-1 - nI w, μ') ∧ fX12_witnesses_122_b24 (f' + 1) (nI n) 1 ν = some (-1 - nI w, ν') ∧ RT V c b B μ' ν') ∨
    (∃ n' μ' ν', 1 ≤ n' ∧ b + n' ≤ 8 ∧ fX5_readAll_11_1_b16 f (nI n) μ = some (nI n', μ') ∧ fX12_witnesses_122_b24 (f' + 1) (nI n) 1 ν = fX12_witnesses_122_b149 FU (nI n') 0 ν' ∧ RT V c b B μ' ν' ∧ WD c b n' μ' ν') := by
  intro m
  induction m with
  | zero =>
    intro f f' n a μ ν h1
    omega
  | succ m ih =>
    intro f f' n a μ ν h1 h2 h3 hbn pc pm rt hat wd
    obtain ⟨f, rfl⟩ := Nat.exists_eq_succ_of_ne_zero (show f ≠ 0 by omega)
    obtain ⟨f', rfl⟩ := Nat.exists_eq_succ_of_ne_zero (show f' ≠ 0 by omega)
    rw [fX5_readAll_11_1_b16, fX12_witnesses_122_b24, if_neg (show ¬ (80 : Int32) ≤ nI n from nI_ge (b := 80) (by omega) (by decide)), if_neg n10, mFine pm.2.2.2.2.1, bnd_e, if_neg n10, rt.witM, nI_add]
    by_cases q : b + n = 8
    · left
      rw [if_pos (by rw [q]; rfl), mFault pm.2.2.2.2.1, bnd_e, pm.2.2.2.1]
      have := xW120 (ν := sI ν 122 22 (nI a)) (w := a) (by omega) rfl f' (nI n)
      rw [this]
      unfold fX1_readsOne_11_1 fX9_wrong_1
      rw [rt.wit, nI_add, lt_e, if_neg (nI_pos (by omega)), if_neg (show ¬ nI (b + n) < (8 : Int32) from nI_nlt (b := 8) (by omega) (by omega)), bnd_e, if_pos rfl, bnd_e, pc.2.1]
      exact ⟨a, μ, _, by omega, rfl, rfl, rt.om (P := wB) ((Off.refl ν).sI rfl) (fun _ _ => wB_sc)⟩
    · rw [if_neg (show ¬ nI (b + n) = (8 : Int32) by rw [show (8 : Int32) = nI 8 from rfl, nI_eq (by omega) (by decide)]; exact q)]
      have L := wit_line hk (show b + n < 8 by omega) pc pm rt (by omega) wd f'
      rcases L with ⟨w, μ', ν', hw, e1, e2, o1, e3, o2⟩ | ⟨a', μ', ν', e1, e3, pc', pm', o1, o2, ha', wd'⟩
      · left
        refine ⟨w, μ', ν', hw, ?_, e3, (rt.offB o1).om o2 (fun _ _ z => z)⟩
        rw [e1, bnd_e, if_pos rfl]
        unfold fX9_wrong_1
        rw [bnd_e, e2]
      · have rt' := (rt.offB o1).om o2 (fun _ _ z => z)
        rw [e1, bnd_e, if_neg n10]
        unfold fX9_isRead_1
        rw [pc'.1, pc'.2.1]
        by_cases g : t = a'
        · right
          subst g
          refine ⟨n + 1, μ', ν', by omega, by omega, ?_, ?_, rt', wd'⟩
          · rw [if_pos rfl, bnd_e, if_neg n10, nI_1]
          · refine e3.trans ?_
            unfold fX12_witnesses_122_b120
            rw [show fX12_passes_122 59 ν' = _ from mPass hk pm' (x := 59) (by omega) (by decide), if_neg (by omega), bnd_e, nI_1]
            show fX12_witnesses_122_b24 (f' + 1) (nI (n + 1)) 0 ν' = _
            rw [fX12_witnesses_122_b24, if_pos rfl]
            unfold fX12_witnesses_122_b133
            rw [mRight pm' (by omega) (by omega), if_pos (Nat.le_refl _), bnd_e, if_neg n10]
        · rw [if_neg (by rw [nI_eq (by omega) (by omega)]; omega), bnd_e, if_pos rfl]
          rcases take_both hk pc' pm' (by omega) (x := 59) (by decide) with ⟨l, x1, -, x2⟩ | ⟨-, x1, -, x2⟩
          · have go := ih f f' (n + 1) (a' + 1) (sI μ' 1 2 (nI (a' + 1))) (sI ν' 122 21 (nI (a' + 1))) (by omega) (by omega) (by omega) (by omega) (pc'.to _) (pm'.to hk _) ((rt'.oc (P := wA) ((Off.refl _).sI rfl) (fun _ _ => wA_sc)).om (P := wB) ((Off.refl _).sI rfl) (fun _ _ => wB_sc)) (by omega) (fun i hi => by
              have := wd' i hi
              exact this)
            have ee : wLine (fun p1 p2 m => fX12_witnesses_122_b24 (f' + 1) p1 p2 m) (nI n) ν = fX12_witnesses_122_b24 (f' + 1) (nI (n + 1)) 1 (sI ν' 122 21 (nI (a' + 1))) := by
              rw [e3]
              unfold fX12_witnesses_122_b120
              rw [show fX12_passes_122 59 ν' = _ from x2, bnd_e, nI_1]
            rw [show fX9_takes_1 59 μ' = _ from x1, bnd_e, if_neg n10, nI_1]
            rcases go with ⟨w, μ2, ν2, y1, y2, y3, y4⟩ | ⟨n', μ2, ν2, y1, y2, y3, y4, y5, y6⟩
            · exact Or.inl ⟨w, μ2, ν2, y1, y2, ee.trans y3, y4⟩
            · exact Or.inr ⟨n', μ2, ν2, y1, y2, y3, ee.trans y4, y5, y6⟩
          · left
            rw [show fX9_takes_1 59 μ' = _ from x1, bnd_e, if_pos rfl]
            unfold fX9_wrong_1
            rw [bnd_e, pc'.2.1]
            refine ⟨a', μ', sI ν' 122 22 (nI a'), by omega, rfl, ?_, rt'.om (P := wB) ((Off.refl _).sI rfl) (fun _ _ => wB_sc)⟩
            refine e3.trans ?_
            unfold fX12_witnesses_122_b120
            rw [show fX12_passes_122 59 ν' = _ from x2, bnd_e, nI_1]
            show fX12_witnesses_122_b24 (f' + 1) (nI (n + 1)) 0 ν' = _
            rw [fX12_witnesses_122_b24, if_pos rfl]
            unfold fX12_witnesses_122_b133
            rw [mRight pm' (by omega) (by omega), if_neg (by omega), bnd_e, if_pos rfl]
            rfl
end Pure46
