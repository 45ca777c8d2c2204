section Pure19
variable {V : VT} {c b B : Nat} {μ ν : Mem}
def Rel0 (V : VT) (c b B : Nat) (μ ν : Mem) : Prop := Rg c μ ν ∧ Rb b μ ν ∧ Re μ ν ∧ Rh c B μ ν ∧ Ru V μ ν
theorem Rel.r0 (h : Rel V c b B μ ν) : Rel0 V c b B μ ν := ⟨h.1, h.2.1, h.2.2.1, h.2.2.2.1, h.2.2.2.2.2.2.2.2⟩
theorem Rel0.sc {μ' : Mem} (h : Rel0 V c b B μ ν) (o : Off scC μ μ') : Rel0 V c b B μ' ν :=
  have e : ∀ Y k j, mc k j = Y → gI ν k j = gI ν k j := fun _ _ _ _ => rfl
  have f : ∀ Y, Y ≠ 0 → ∀ k j, cc k j = Y → gI μ' k j = gI μ k j := fun Y hY k j q => o.1 k j (by unfold scC; rw [q]; simp [hY])
  ⟨h.1.cg (f 1 (by decide)) (e 1), h.2.1.cg (f 2 (by decide)) (e 2), h.2.2.1.cg (f 3 (by decide)) (e 3), h.2.2.2.1.cg (f 4 (by decide)) (e 4), h.2.2.2.2.cg (f 9 (by decide)) (e 9)⟩
theorem Rel0.sm {ν' : Mem} (h : Rel0 V c b B μ ν) (o : Off scM ν ν') : Rel0 V c b B μ ν' :=
  have e : ∀ Y k j, cc k j = Y → gI μ k j = gI μ k j := fun _ _ _ _ => rfl
  have f : ∀ Y, Y ≠ 0 → ∀ k j, mc k j = Y → gI ν' k j = gI ν k j := fun Y hY k j q => o.1 k j (by unfold scM; rw [q]; simp [hY])
  ⟨h.1.cg (e 1) (f 1 (by decide)), h.2.1.cg (e 2) (f 2 (by decide)), h.2.2.1.cg (e 3) (f 3 (by decide)), h.2.2.2.1.cg (e 4) (f 4 (by decide)), h.2.2.2.2.cg (e 9) (f 9 (by decide))⟩
theorem Rel0.c6 (h : Rel0 V c b B μ ν) : c ≤ 6 := h.1.1
theorem Rel0.b8 (h : Rel0 V c b B μ ν) : b ≤ 8 := h.2.1.1
theorem Rel0.men (h : Rel0 V c b B μ ν) : gI μ 5 5 = nI c := h.1.2.1
theorem Rel0.menM (h : Rel0 V c b B μ ν) : gI ν 122 1 = nI c := h.1.2.2.1
theorem Rel0.wit (h : Rel0 V c b B μ ν) : gI μ 11 3 = nI b := h.2.1.2.1
theorem Rel0.witM (h : Rel0 V c b B μ ν) : gI ν 122 8 = nI b := h.2.1.2.2.1
theorem Rel0.bears (h : Rel0 V c b B μ ν) {p : Nat} (hp : p < c) : gI ν 124 p = gI μ 6 p := (h.1.2.2.2 p hp).1
theorem Rel0.fear (h : Rel0 V c b B μ ν) {p : Nat} (hp : p < c) : gI ν 125 p = gI μ 7 p := (h.1.2.2.2 p hp).2.1
theorem Rel0.dumb (h : Rel0 V c b B μ ν) {p : Nat} (hp : p < c) : gI ν 126 p = gI μ 8 p := (h.1.2.2.2 p hp).2.2.1
theorem Rel0.heir (h : Rel0 V c b B μ ν) {p : Nat} (hp : p < c) : gI ν 127 p = gI μ 9 p := (h.1.2.2.2 p hp).2.2.2.1
theorem Rel0.goods (h : Rel0 V c b B μ ν) {p : Nat} (hp : p < c) : gI ν 128 p = gI μ 10 p := (h.1.2.2.2 p hp).2.2.2.2.1
theorem Rel0.heir4 (h : Rel0 V c b B μ ν) {p : Nat} (hp : p < c) : ∃ s, s < 4 ∧ gI μ 9 p = nI s := (h.1.2.2.2 p hp).2.2.2.2.2.1
theorem Rel0.goods8 (h : Rel0 V c b B μ ν) {p : Nat} (hp : p < c) : ∃ s, s < 256 ∧ gI μ 10 p = nI s := (h.1.2.2.2 p hp).2.2.2.2.2.2
theorem Rel0.who (h : Rel0 V c b B μ ν) {w : Nat} (hw : w < b) : gI ν 130 w = gI μ 12 w := (h.2.1.2.2.2 w hw).1
theorem Rel0.fade (h : Rel0 V c b B μ ν) {w : Nat} (hw : w < b) : gI ν 131 w = gI μ 14 w := (h.2.1.2.2.2 w hw).2.1
theorem Rel0.fade9 (h : Rel0 V c b B μ ν) {w : Nat} (hw : w < b) : ∃ s, s ≤ 9 ∧ gI μ 14 w = nI s := (h.2.1.2.2.2 w hw).2.2
theorem Rel0.val (h : Rel0 V c b B μ ν) {g : Nat} (hg : g < 8) : gI ν 129 g = gI μ 27 g := (h.2.2.1.1 g hg).1
theorem Rel0.val99 (h : Rel0 V c b B μ ν) {g : Nat} (hg : g < 8) : ∃ s, s ≤ 99 ∧ gI μ 27 g = nI s := (h.2.2.1.1 g hg).2
theorem Rel0.ends (h : Rel0 V c b B μ ν) {e : Nat} (he : e < 4) : gI ν 132 e = gI μ 25 e := (h.2.2.1.2.1 e he).1
theorem Rel0.ends3 (h : Rel0 V c b B μ ν) {e : Nat} (he : e < 4) : ∃ s, s < 3 ∧ gI μ 25 e = nI s := (h.2.2.1.2.1 e he).2
theorem Rel0.endM (h : Rel0 V c b B μ ν) : gI ν 122 12 = gI μ 0 14 := h.2.2.1.2.2.1
theorem Rel0.end99 (h : Rel0 V c b B μ ν) : ∃ e, 1 ≤ e ∧ e ≤ 99 ∧ gI μ 0 14 = nI e := h.2.2.1.2.2.2
theorem Rel0.hl0 (h : Rel0 V c b B μ ν) : Rh c B μ ν := h.2.2.2.1
theorem c_proofz_33 (h : Rel0 V c b B μ ν) (x k : Int32) : fX4_proofIn_33 x k μ = some (PF_33 b μ x k, μ) := cPF_33 h.wit h.b8 x k b FU 0 0 (by omega) (Nat.lt_of_le_of_lt h.b8 (by decide))
theorem m_proofz_123 (h : Rel0 V c b B μ ν) (hh : Rh c B μ ν) (x k : Int32) : fX12_proofIn_122_123 x k ν = some (PF_33 b μ x k, ν) := by
  rw [show fX12_proofIn_122_123 x k ν = _ from mPF_123 h.witM h.b8 x k b FU 0 0 (by omega) (Nat.lt_of_le_of_lt h.b8 (by decide))]
  have hb := h.b8
  unfold PF_33
  rw [PFs_cg x k b 0 0 (who' := gI μ 12) (word' := gI μ 37) (fade' := gI μ 14)]
  intro i hi
  exact ⟨h.who (by omega), word_33 hh (by omega), h.fade (by omega)⟩
theorem c_proofz_38 (h : Rel0 V c b B μ ν) (x k : Int32) : fX4_proofIn_38 x k μ = some (PF_38 b μ x k, μ) := cPF_38 h.wit h.b8 x k b FU 0 0 (by omega) (Nat.lt_of_le_of_lt h.b8 (by decide))
theorem m_proofz_140 (h : Rel0 V c b B μ ν) (hh : Rh2 c B μ ν) (x k : Int32) : fX12_proofIn_122_140 x k ν = some (PF_38 b μ x k, ν) := by
  rw [show fX12_proofIn_122_140 x k ν = _ from mPF_140 h.witM h.b8 x k b FU 0 0 (by omega) (Nat.lt_of_le_of_lt h.b8 (by decide))]
  have hb := h.b8
  unfold PF_38
  rw [PFs_cg x k b 0 0 (who' := gI μ 12) (word' := gI μ 42) (fade' := gI μ 14)]
  intro i hi
  exact ⟨h.who (by omega), word_38 hh (by omega), h.fade (by omega)⟩
theorem c_kindz_33 (h : Rel0 V c b B μ ν) (k : Int32) : fX4_thoseWho_33 k μ = some (KD_33 c μ k, μ) := cKD_33 h.men h.c6 k c FU 0 0 (by omega) (fu_lt (Nat.lt_of_le_of_lt h.c6 (by decide)))
theorem m_kindz_123 (h : Rel0 V c b B μ ν) (hh : Rh c B μ ν) (k : Int32) : fX12_ofKind_122_123 k ν = some (KD_33 c μ k, ν) := by
  rw [show fX12_ofKind_122_123 k ν = _ from mKD_123 h.menM h.c6 k c FU 0 0 (by omega) (fu_lt (Nat.lt_of_le_of_lt h.c6 (by decide)))]
  have h6 := h.c6
  unfold KD_33
  rw [KDs_cg k c 0 0 (st' := gI μ 34)]
  intro i hi
  exact st_33 hh (by omega)
theorem c_kindz_38 (h : Rel0 V c b B μ ν) (k : Int32) : fX4_thoseWho_38 k μ = some (KD_38 c μ k, μ) := cKD_38 h.men h.c6 k c FU 0 0 (by omega) (fu_lt (Nat.lt_of_le_of_lt h.c6 (by decide)))
theorem m_kindz_140 (h : Rel0 V c b B μ ν) (hh : Rh2 c B μ ν) (k : Int32) : fX12_ofKind_122_140 k ν = some (KD_38 c μ k, ν) := by
  rw [show fX12_ofKind_122_140 k ν = _ from mKD_140 h.menM h.c6 k c FU 0 0 (by omega) (fu_lt (Nat.lt_of_le_of_lt h.c6 (by decide)))]
  have h6 := h.c6
  unfold KD_38
  rw [KDs_cg k c 0 0 (st' := gI μ 39)]
  intro i hi
  exact st_38 hh (by omega)
theorem c_goodsz (h : Rel0 V c b B μ ν) : fX3_allGoods_5 μ = some (AG c μ, μ) := c_goods' h.men h.c6
theorem m_goodsz (h : Rel0 V c b B μ ν) : fX12_allGoods_122 ν = some (AG c μ, ν) := by
  rw [show fX12_allGoods_122 ν = _ from mAG h.menM h.c6 c FU 0 0 (by omega) (fu_lt (Nat.lt_of_le_of_lt h.c6 (by decide)))]
  unfold AG
  rw [AGs_cg c 0 0 (g' := gI μ 10)]
  intro i hi
  exact h.goods (by omega)
theorem m_worthz (h : Rel0 V c b B μ ν) (x : Int32) : fX12_valuesOf_122 x ν = some (WO μ x, ν) := by
  rw [show fX12_valuesOf_122 x ν = _ from mWO x 8 FU 0 0 rfl (by decide)]
  unfold WO
  rw [WOs_cg x 8 0 0 (g' := gI μ 27)]
  intro i hi
  exact h.val (by omega)
theorem man_orz (h : Rel0 V c b B μ ν) (v : Int32) : (fX11_isThere_0 v μ = some (0, μ) ∧ fX12_isMan_122 v ν = some (0, ν) ∧ fX4_has_33 v μ = some (0, μ) ∧ fX4_has_38 v μ = some (0, μ)) ∨ (∃ p, p < c ∧ v = nI p ∧ fX11_isThere_0 v μ = some (1, μ) ∧ fX12_isMan_122 v ν = some (1, ν) ∧ fX4_has_33 v μ = some (1, μ) ∧ fX4_has_38 v μ = some (1, μ)) := by
  have h6 := h.c6
  unfold fX11_isThere_0 fX12_isMan_122 fX4_has_33 fX4_has_38
  rw [h.men, h.menM, m_in]
  simp only [bnd_e]
  by_cases h1 : v < 0
  · left
    rw [if_pos h1, if_pos (Or.inl h1)]
    exact ⟨rfl, rfl, rfl, rfl⟩
  · obtain ⟨j, hj, rfl⟩ := nI_of h1
    by_cases h2 : j < c
    · right
      refine ⟨j, h2, rfl, ?_⟩
      have e1 : ¬ nI c ≤ nI j := nI_ge h2 (by omega)
      have e2 : ¬ (nI j < 0 ∨ nI c - 1 < nI j) := by
        rintro (q | q)
        · exact h1 q
        · obtain ⟨c, rfl⟩ := Nat.exists_eq_succ_of_ne_zero (show c ≠ 0 by omega)
          rw [nI_pred] at q
          exact (nI_nlt (by omega) (by omega)) q
      rw [if_neg h1, if_neg e1, if_neg e2]
      exact ⟨rfl, rfl, rfl, rfl⟩
    · left
      have e1 : nI c ≤ nI j := nI_le (by omega) hj
      have e2 : nI j < 0 ∨ nI c - 1 < nI j := by
        right
        by_cases hc : c = 0
        · subst hc
          rw [i_lt, nI_toInt hj]
          have : (nI 0 - 1 : Int32).toInt = -1 := by decide
          omega
        · obtain ⟨c, rfl⟩ := Nat.exists_eq_succ_of_ne_zero hc
          rw [nI_pred]
          exact nI_lt (by omega) hj
      rw [if_neg h1, if_pos e1, if_pos e2]
      exact ⟨rfl, rfl, rfl, rfl⟩
theorem c_leftz_33 (h : Rel0 V c b B μ ν) {p D : Nat} (hp : p < 6) (hD : D < 2 ^ 30) (w x : Int32) : Ev (fun r μ' => r = LV V μ p w x D ∧ Off w22 μ μ') (fX4_leftWith_33 (nI p) w x (nI D) μ) := by
  unfold fX4_leftWith_33
  simp (disch := omega) only [gd_in, ix_nI, nI_and1]
  obtain ⟨r, μ', e, rfl, o⟩ := h.2.2.2.2.1 μ (fun _ _ _ => rfl) (gI μ 6 p) w x (nI (D % 2)) (gI μ 7 p) (nI p)
  rw [e]
  exact ⟨_, _, rfl, rfl, o⟩
theorem c_leftz_38 (h : Rel0 V c b B μ ν) {p D : Nat} (hp : p < 6) (hD : D < 2 ^ 30) (w x : Int32) : Ev (fun r μ' => r = LV V μ p w x D ∧ Off w22 μ μ') (fX4_leftWith_38 (nI p) w x (nI D) μ) := by
  unfold fX4_leftWith_38
  simp (disch := omega) only [gd_in, ix_nI, nI_and1]
  obtain ⟨r, μ', e, rfl, o⟩ := h.2.2.2.2.1 μ (fun _ _ _ => rfl) (gI μ 6 p) w x (nI (D % 2)) (gI μ 7 p) (nI p)
  rw [e]
  exact ⟨_, _, rfl, rfl, o⟩
theorem m_leftz (h : Rel0 V c b B μ ν) {p D : Nat} (hp : p < c) (hD : D < 2 ^ 30) (w x : Int32) : Ev (fun r ν' => r = LV V μ p w x D ∧ Off w137 ν ν') (fX12_leftOf_122 (nI p) w x (nI D) ν) := by
  have h6 := h.c6
  obtain ⟨r, ν', e, rfl, o⟩ := h.2.2.2.2.2 ν (fun _ _ _ => rfl) p (by omega) w x D hD
  rw [e, h.bears hp, h.fear hp]
  exact ⟨_, _, rfl, rfl, o⟩
theorem Off.zrc {P : Nat → Nat → Bool} {μ' : Mem} (h : Rel0 V c b B μ ν) (o : Off P μ μ') (hp : ∀ k j, P k j = true → scC k j = true) : Rel0 V c b B μ' ν := h.sc (o.mono hp)
theorem Off.zrm {P : Nat → Nat → Bool} {ν' : Mem} (h : Rel0 V c b B μ ν) (o : Off P ν ν') (hp : ∀ k j, P k j = true → scM k j = true) : Rel0 V c b B μ ν' := h.sm (o.mono hp)
theorem c_leftNowz_33 (h : Rel0 V c b B μ ν) (hh : Rh c B μ ν) (hB : B < 2 ^ 30) {p d : Nat} (hp : p < 6) (hd : gI μ 33 4 = nI d) (hdB : d ≤ B) : Ev (fun r μ' => r = LV V μ p (gI μ 35 p) (gI μ 36 p) d ∧ Off w22 μ μ') (fX4_leftNow_33 (nI p) μ) := by
  unfold fX4_leftNow_33
  simp (disch := omega) only [gd_in, ix_nI, hd]
  refine ev_bnd (c_leftz_33 h hp (by omega) _ _) (fun r μ' q => ev_end q)
theorem m_leftNowz_123 (h : Rel0 V c b B μ ν) (hh : Rh c B μ ν) (hB : B < 2 ^ 30) {p d : Nat} (hp : p < c) (hd : gI μ 33 4 = nI d) (hdB : d ≤ B) : Ev (fun r ν' => r = LV V μ p (gI μ 35 p) (gI μ 36 p) d ∧ Off w137 ν ν') (fX12_leftNow_122_123 (nI p) ν) := by
  have h6 := h.c6
  unfold fX12_leftNow_122_123
  simp (disch := omega) only [gd_in, ix_nI, a6, a12, in26, ix26, gd_e, laid_33 hh, borne_33 hh, day_33 hh, hd]
  refine ev_bnd (m_leftz h hp (by omega) _ _) (fun r μ' q => ev_end q)
theorem c_leftNowz_38 (h : Rel0 V c b B μ ν) (hh : Rh2 c B μ ν) (hB : B < 2 ^ 30) {p d : Nat} (hp : p < 6) (hd : gI μ 38 4 = nI d) (hdB : d ≤ B) : Ev (fun r μ' => r = LV V μ p (gI μ 40 p) (gI μ 41 p) d ∧ Off w22 μ μ') (fX4_leftNow_38 (nI p) μ) := by
  unfold fX4_leftNow_38
  simp (disch := omega) only [gd_in, ix_nI, hd]
  refine ev_bnd (c_leftz_38 h hp (by omega) _ _) (fun r μ' q => ev_end q)
theorem m_leftNowz_140 (h : Rel0 V c b B μ ν) (hh : Rh2 c B μ ν) (hB : B < 2 ^ 30) {p d : Nat} (hp : p < c) (hd : gI μ 38 4 = nI d) (hdB : d ≤ B) : Ev (fun r ν' => r = LV V μ p (gI μ 40 p) (gI μ 41 p) d ∧ Off w137 ν ν') (fX12_leftNow_122_140 (nI p) ν) := by
  have h6 := h.c6
  unfold fX12_leftNow_122_140
  simp (disch := omega) only [gd_in, ix_nI, a6, a12, in26, ix26, gd_e, laid_38 hh, borne_38 hh, day_38 hh, hd]
  refine ev_bnd (m_leftz h hp (by omega) _ _) (fun r μ' q => ev_end q)
theorem m_speakz (h : Rel0 V c b B μ ν) {p : Nat} (hp : p < c) (r : Int32) : fX12_doesSpeak_122 (nI p) r ν = some (if gI μ 8 p = 0 then (if gI μ 7 p < r then 0 else 1) else 0, ν) := by
  have h6 := h.c6
  unfold fX12_doesSpeak_122
  simp (disch := omega) only [gd_in, ix_nI, h.dumb hp, h.fear hp]
  by_cases e : gI μ 8 p = 0
  · rw [if_pos e, if_pos e]
    by_cases e2 : gI μ 7 p < r
    · rw [if_pos e2, if_pos e2]
    · rw [if_neg e2, if_neg e2]
  · rw [if_neg e, if_neg e]
theorem c_verdictz (h : Rel0 V c b B μ ν) (x k : Int32) : fX4_verdictIn_33 x k μ = some (if PF_33 b μ x k < 100 then 3 else 4, μ) := by
  unfold fX4_verdictIn_33
  rw [c_proofz_33 h, bnd_e]
  by_cases e : PF_33 b μ x k < 100
  · rw [if_pos e, if_pos e]
  · rw [if_neg e, if_neg e]
end Pure19
