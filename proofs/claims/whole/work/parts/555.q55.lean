section Pure55
variable {V : VT} {c b B : Nat} {μ ν : Mem} {s : Nat → Nat} {t : Nat}
theorem man_in (hk : OkT 133 s t 76) (ht : t ≤ 80) : ∀ (m f f' n a T : Nat) (μ ν : Mem), n + m = 7 → m < f → m < f' → c + n ≤ 6 → T < 256 → PC s t 76 a μ → PM 133 s t 76 a ν → RT V c b B μ ν → TK c n T μ → a ≤ t → MD c n μ ν →
    (∃ w μ' ν', w ≤ 80 ∧ fX5_readAll_5_1_b16 f (nI n) μ = some (-1 - nI w, μ') ∧ fX12_prisoners_122_b29 (f' + 1) (nI n) (nI T) 1 ν = some (-1 - nI w, ν') ∧ RT V c b B μ' ν') ∨
    (∃ n' μ' ν', 1 ≤ n' ∧ c + n' ≤ 6 ∧ fX5_readAll_5_1_b16 f (nI n) μ = some (nI n', μ') ∧ fX12_prisoners_122_b29 (f' + 1) (nI n) (nI T) 1 ν = fX12_prisoners_122_b101 FU (nI n') 0 ν' ∧ RT V c b B μ' ν' ∧ MD c n' μ' ν') := by
  intro m
  induction m with
  | zero =>
    intro f f' n a T μ ν h1
    omega
  | succ m ih =>
    intro f f' n a T μ ν h1 h2 h3 hbn hT pc pm rt tk hat md
    obtain ⟨f, rfl⟩ := Nat.exists_eq_succ_of_ne_zero (show f ≠ 0 by omega)
    obtain ⟨f', rfl⟩ := Nat.exists_eq_succ_of_ne_zero (show f' ≠ 0 by omega)
    rw [fX5_readAll_5_1_b16, fX12_prisoners_122_b29, if_neg (show ¬ (80 : Int32) ≤ nI n from nI_ge (b := 80) (by omega) (by decide)), if_neg n10, mFine pm.2.2.2.2.1, bnd_e, if_neg n10, rt.menM, nI_add]
    by_cases q : c + n = 6
    · left
      rw [if_pos (by rw [q]; rfl), mFault pm.2.2.2.2.1, bnd_e, pm.2.2.2.1]
      have := xP71 (ν := sI ν 122 22 (nI a)) (w := a) (by omega) rfl f' (nI n) (nI T)
      rw [this]
      unfold fX3_readsOne_5_1 fX9_wrong_1
      rw [rt.men, nI_add, lt_e, if_neg (nI_pos (by omega)), if_neg (show ¬ nI (c + n) < (6 : Int32) from nI_nlt (b := 6) (by omega) (by omega)), bnd_e, if_pos rfl, bnd_e, pc.2.1]
      exact ⟨a, μ, _, by omega, rfl, rfl, rt.om (P := wB) ((Off.refl ν).sI rfl) (fun _ _ => wB_sc)⟩
    · rw [if_neg (show ¬ nI (c + n) = (6 : Int32) by rw [show (6 : Int32) = nI 6 from rfl, nI_eq (by omega) (by decide)]; exact q)]
      have L := man_line hk (show c + n < 6 by omega) hT pc pm rt tk (by omega) md f'
      rcases L with ⟨w, μ', ν', hw, e1, e2, o1, e3, o2⟩ | ⟨a', T', μ', ν', hT', ha', e1, e3, pc', o1, o2, tk', md', fin⟩
      · left
        refine ⟨w, μ', ν', hw, ?_, e3, (rt.offG o1).om o2 (fun _ _ z => z)⟩
        rw [e1, bnd_e, if_pos rfl]
        unfold fX9_wrong_1
        rw [bnd_e, e2]
      · have rt' := (rt.offG o1).om o2 (fun _ _ z => z)
        rw [e1, bnd_e, if_neg n10]
        unfold fX9_isRead_1
        rw [pc'.1, pc'.2.1]
        rcases fin with pm' | ⟨wr, al, ns⟩
        · by_cases g : t = a'
          · right
            subst g
            refine ⟨n + 1, μ', ν', by omega, by omega, ?_, ?_, rt', md'⟩
            · rw [if_pos rfl, bnd_e, if_neg n10, nI_1]
            · refine e3.trans ?_
              unfold fX12_prisoners_122_b71
              rw [show fX12_passes_122 59 ν' = _ from mPass hk pm' (x := 59) (by omega) (by decide), if_neg (by omega), bnd_e, nI_1]
              show fX12_prisoners_122_b29 (f' + 1) (nI (n + 1)) (nI T') 0 ν' = _
              rw [fX12_prisoners_122_b29, if_pos rfl]
              unfold fX12_prisoners_122_b84
              rw [mRight pm' (by omega) (by omega), if_pos (Nat.le_refl _), bnd_e, if_neg n10]
          · rw [if_neg (by rw [nI_eq (by omega) (by omega)]; omega), bnd_e, if_pos rfl]
            rcases take_both hk pc' pm' (by omega) (x := 59) (by decide) with ⟨l, x1, -, x2⟩ | ⟨-, x1, -, x2⟩
            · have go := ih f f' (n + 1) (a' + 1) T' (sI μ' 1 2 (nI (a' + 1))) (sI ν' 122 21 (nI (a' + 1))) (by omega) (by omega) (by omega) (by omega) hT' (pc'.to _) (pm'.to hk _) ((rt'.oc (P := wA) ((Off.refl _).sI rfl) (fun _ _ => wA_sc)).om (P := wB) ((Off.refl _).sI rfl) (fun _ _ => wB_sc)) (Or.inr ⟨by omega, tk'.elim (fun z => absurd z.1 (by omega)) (fun z => z.2)⟩) (by omega) (fun i hi => by
                have := md' i hi
                exact this)
              have ee : pLine (fun p1 p2 p3 m => fX12_prisoners_122_b29 (f' + 1) p1 p2 p3 m) (nI n) (nI T) ν = fX12_prisoners_122_b29 (f' + 1) (nI (n + 1)) (nI T') 1 (sI ν' 122 21 (nI (a' + 1))) := by
                rw [e3]
                unfold fX12_prisoners_122_b71
                rw [show fX12_passes_122 59 ν' = _ from x2, bnd_e, nI_1]
              rw [show fX9_takes_1 59 μ' = _ from x1, bnd_e, if_neg n10, nI_1]
              rcases go with ⟨w, μ2, ν2, y1, y2, y3, y4⟩ | ⟨n', μ2, ν2, y1, y2, y3, y4, y5, y6⟩
              · exact Or.inl ⟨w, μ2, ν2, y1, y2, ee.trans y3, y4⟩
              · exact Or.inr ⟨n', μ2, ν2, y1, y2, y3, ee.trans y4, y5, y6⟩
            · left
              rw [show fX9_takes_1 59 μ' = _ from x1, bnd_e, if_pos rfl]
              unfold fX9_wrong_1
              rw [bnd_e, pc'.2.1]
              refine ⟨a', μ', sI ν' 122 22 (nI a'), by omega, rfl, ?_, rt'.om (P := wB) ((Off.refl _).sI rfl) (fun _ _ => wB_sc)⟩
              refine e3.trans ?_
              unfold fX12_prisoners_122_b71
              rw [show fX12_passes_122 59 ν' = _ from x2, bnd_e, nI_1]
              show fX12_prisoners_122_b29 (f' + 1) (nI (n + 1)) (nI T') 0 ν' = _
              rw [fX12_prisoners_122_b29, if_pos rfl]
              unfold fX12_prisoners_122_b84
              rw [mRight pm' (by omega) (by omega), if_neg (by omega), bnd_e, if_pos rfl]
              rfl
        · left
          rw [if_neg (by rw [nI_eq (by omega) (by omega)]; omega), bnd_e, if_pos rfl, show fX9_takes_1 59 μ' = _ from cTake hk pc' (x := 59) (by omega) (by decide), if_neg (fun z => ns z.2), bnd_e, if_pos rfl]
          unfold fX9_wrong_1
          rw [bnd_e, pc'.2.1]
          exact ⟨a', μ', ν', by omega, rfl, e3.trans (xP71 (by omega) wr f' _ _), rt'⟩
theorem pr_prisoners (h : Rel V c b B μ ν) (hB : B < 2 ^ 30) : PrN V (B + 1) (fX11_prisoners_0 μ) (fX12_prisoners_122 ν) := by
  have h1 := m17 h 0
  have h6 := h.c6
  obtain ⟨s, t, μ1, ν1, ht, hk, -, -, e1, e2, pc, pm, rt, -, -⟩ := open_both h1 (show 76 ≤ 80 by omega)
  unfold fX11_prisoners_0 fX5_readAll_5_1 fX12_prisoners_122 fX9_empty_1 fX9_isRead_1
  rw [lt_e, show fX9_open_1 (76 : Int32) μ = _ from e1, bnd_e, show fX12_beginText_122 (76 : Int32) (sI ν 122 17 0) = _ from e2, bnd_e, pc.1, pc.2.1, pm.2.1]
  by_cases q0 : t = 0
  · subst q0
    rw [if_pos rfl, bnd_e, if_neg n10, bnd_e, lt_e, bnd_e, if_pos (by decide), if_pos (show nI 0 = 0 from rfl)]
    exact sm_end ⟨rfl, c, b, Rel.mono rt (by omega)⟩
  · rw [if_neg (show ¬ nI 0 = nI t by rw [nI_eq (by omega) (by omega)]; omega), bnd_e, if_pos rfl, if_neg (nI_ne0 (by omega) (by omega)), m_goods (μ := sI μ1 1 1 0) rt, bnd_e]
    obtain ⟨T, hT, eT⟩ := AGs_nat (g := gI μ1 10) c 0 0 (by decide) (fun i hi => by
      obtain ⟨v, hv, e⟩ := Rel.goods8 (μ := sI μ1 1 1 0) rt (show i < c by omega)
      exact ⟨v, hv, e⟩)
    rw [show AG c (sI μ1 1 1 0) = nI T from eT]
    rcases man_in hk ht 7 FU 999 0 0 T μ1 ν1 rfl (by decide) (by decide) (by omega) hT pc pm rt (Or.inl ⟨rfl, eT⟩) (by omega) (fun i hi => absurd hi (Nat.not_lt_zero _)) with ⟨w, μ2, ν2, hw, x1, x2, rt2⟩ | ⟨n, μ2, ν2, hn1, hn2, x1, x2, rt2, md⟩
    · rw [show fX5_readAll_5_1_b16 FU 0 μ1 = _ from x1, show fX12_prisoners_122_b29 FU 0 (nI T) 1 ν1 = _ from x2, bnd_e, lt_e, bnd_e, if_pos (neg1_le hw)]
      exact sm_end ⟨rfl, c, b, Rel.mono rt2 (by omega)⟩
    · rw [show fX5_readAll_5_1_b16 FU 0 μ1 = _ from x1, show fX12_prisoners_122_b29 FU 0 (nI T) 1 ν1 = _ from x2, bnd_e, lt_e, bnd_e, if_neg (nI_nle (by omega) (by omega))]
      have w1 : gI (sI μ2 1 1 0) 5 5 = nI c := rt2.men
      unfold fX4_receive_33
      rw [w1, nI_add]
      obtain ⟨μ3, y1, y2, y3, y4⟩ := cReceive n FU c (sI μ2 1 1 0) (by omega) (fu_lt (by omega))
      obtain ⟨ν3, z1, z2, z3, z4, z5, z6⟩ := mMen (c := c) hn2 n FU 0 ν2 (by omega) (fu_lt (by omega)) rt2.menM (fun x hx => by
        obtain ⟨-, -, ⟨v, hv, -, e⟩, -⟩ := md x hx
        exact ⟨v, hv, e⟩)
      rw [y1, bnd_e, lt_e, show fX12_prisoners_122_b101 FU (nI n) 0 ν2 = _ from z1]
      have w3 : gI μ3 5 5 = nI c := by
        rcases y2 5 5 with z | z
        · omega
        · exact z.trans w1
      rw [w3, nI_add]
      have R := Rel.newMen (μ' := sI μ3 5 5 (nI (c + n))) (ν' := ν3) rt2 hn2 md (fun k j => by
        by_cases q : k = 5 ∧ j = 5
        · exact Or.inr (Or.inl q)
        · rw [gI_sI, if_neg q]
          rcases y2 k j with z | z
          · exact Or.inl z
          · exact Or.inr (Or.inr z)) (fun k j => y3 k j) (fun k k1 k2 j => (by rw [gI_sI, if_neg (by omega)]; exact y4 k k1 k2 j)) rfl z2 z3 z4 z5 z6
      obtain ⟨μ4, u1, u2, u3, u4, u5, u6⟩ := c_forget (μ := sI μ3 5 5 (nI (c + n)))
      rw [u1, bnd_e]
      refine sm_end ⟨rfl, c + n, b, R.forget u2 u3 (fun k j => ?_) (fun _ _ => rfl) u4 u5 u6 rfl rfl hB⟩
      rw [gI_sI, gI_sI]
      by_cases q1 : k = 122 ∧ j = 41
      · exact Or.inl ⟨q1.1, Or.inr q1.2⟩
      · by_cases q2 : k = 122 ∧ j = 29
        · exact Or.inl ⟨q2.1, Or.inl q2.2⟩
        · rw [if_neg q1, if_neg q2]; exact Or.inr rfl
end Pure55
