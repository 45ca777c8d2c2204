section Pure22
variable {V : VT} {c b B : Nat} {μ ν : Mem}
theorem Rel0.rem (h : Rel0 V c b B μ ν) {S n : Nat} {ν1 : Mem} (rm : Rm S n ν ν1) : Rel0 V c b B μ ν1 :=
  have f : ∀ Y k j, cc k j = Y → gI μ k j = gI μ k j := fun _ _ _ _ => rfl
  have e : ∀ Y, Y ≠ 7 → ∀ k j, mc k j = Y → gI ν1 k j = gI ν k j := fun Y hY k j q => rm.1 k j (mc138 q hY).1 (mc138 q hY).2
  ⟨h.1.cg (f 1) (e 1 (by decide)), h.2.1.cg (f 2) (e 2 (by decide)), h.2.2.1.cg (f 3) (e 3 (by decide)), h.2.2.2.1.cg (f 4) (e 4 (by decide)), h.2.2.2.2.cg (f 9) (e 9 (by decide))⟩
theorem w22_4 {k j : Nat} (h : w22 k j = true) : xC 4 k j = true := scC_x (w22_sc h)
theorem w137_4 {k j : Nat} (h : w137 k j = true) : xM 4 k j = true := scM_x (w137_sc h)
theorem Rh.off {μ' ν' : Mem} (h : Rh c B μ ν) (o : ∀ k j, (33 ≤ k ∧ k ≤ 37) → (k = 33 → j = 4) → gI μ' k j = gI μ k j) (o' : ∀ j, gI ν' 123 j = gI ν 123 j) : Rh c B μ' ν' := by
  have e : hl μ' 33 = hl μ 33 := funext (hl_cg o)
  unfold Rh
  rw [e]
  exact ⟨fun j hj => (o' j).trans (h.1 j hj), h.2⟩
theorem Rh2.off {μ' ν' : Mem} (h : Rh2 c B μ ν) (o : ∀ k j, (38 ≤ k ∧ k ≤ 42) → (k = 38 → j = 4) → gI μ' k j = gI μ k j) (o' : ∀ j, gI ν' 140 j = gI ν 140 j) : Rh2 c B μ' ν' := by
  have e : hl μ' 38 = hl μ 38 := funext (hl_cg o)
  unfold Rh2
  rw [e]
  exact ⟨fun j hj => (o' j).trans (h.1 j hj), h.2⟩
theorem w22_h {k j : Nat} (h : 33 ≤ k ∧ k ≤ 37) : w22 k j = false := by
  obtain e | e | e | e | e : k = 33 ∨ k = 34 ∨ k = 35 ∨ k = 36 ∨ k = 37 := by omega
  all_goals (subst e; rfl)
theorem pr_ask (h : Rel V c b B μ ν) (hB : B + 1000 < 2 ^ 30) (v : Int32) : Pr V c b B (fX11_ask_0 v μ) (fX12_ask_122 v ν) := by
  have h1 := m17 h 0
  have h6 := h.c6
  obtain ⟨n, nx, p1, p2, p3, p4, p5⟩ := h1.pst
  have hN := h1.noted p2 p3 p1 p4
  obtain ⟨d, hdB, hd⟩ := dayB_33 hN.hl0
  unfold fX11_ask_0 fX12_ask_122 fX4_askOf_33
  rw [lt_e, c_note p2 p3, bnd_e]
  rcases man_or hN v with ⟨e1, e2, e3, -⟩ | ⟨p, hp, rfl, e1, e2, e3, -⟩
  · rw [e3, e2, bnd_e, bnd_e, if_pos rfl, if_pos rfl, bnd_e, c_undone neg1_lt, bnd_e]
    exact pr_end hN _
  · rw [e3, e2, bnd_e, bnd_e, if_neg n10, if_neg n10, c_sil_33 (by omega), bnd_e]
    simp (disch := omega) only [gd_in, ix_nI, st_33 hN.hl0, lt_e]
    by_cases es : gI (tkM μ 33 (43 + 5 * nx)) 34 p = 0
    · rw [if_pos es, if_neg n10, if_pos es]
      refine sm_R (m_remember_123 p1 p5) (fun _ ν1 rm => ?_)
      have r0 : Rel0 V c b B (tkM μ 33 (43 + 5 * nx)) ν1 := hN.r0.rem rm
      refine sm_R (m_leftNowz_123 r0 r0.hl0 (by omega) hp hd hdB) (fun r ν2 q => ?_)
      obtain ⟨rfl, o'⟩ := q
      have fin : ∀ μ2, Off w22 (tkM μ 33 (43 + 5 * nx)) μ2 → Rel0 V c b B μ2 ν2 := fun μ2 o => Off.zrm (Off.zrc r0 o (fun _ _ => w22_sc)) o' (fun _ _ => w137_sc)
      have keep0 : ∀ μ2, Off w22 (tkM μ 33 (43 + 5 * nx)) μ2 → Rel V c b B (sealM μ2 nx n) ν2 := fun μ2 o => h1.push p2 p3 p1 p4 (Nat.le_refl _) (o.mono (fun _ _ => w22_4)) ⟨123, rm, fun j hj => h1.hl0.1 j hj⟩ (o'.mono (fun _ _ => w137_4)) (fin μ2 o).hl0
      rw [m_speakz (fin _ (Off.refl _)) hp, bnd_e]
      by_cases ed : gI (tkM μ 33 (43 + 5 * nx)) 8 p = 0
      · rw [if_pos ed, if_pos ed]
        refine sm_L (ev_bnd (c_leftNow_33 hN hN.hl0 (by omega) (show p < 6 by omega) hd hdB) (P := fun r μ2 => (r = (if gI (tkM μ 33 (43 + 5 * nx)) 7 p < LV V (tkM μ 33 (43 + 5 * nx)) p (gI (tkM μ 33 (43 + 5 * nx)) 35 p) (gI (tkM μ 33 (43 + 5 * nx)) 36 p) d then 0 else 1)) ∧ ∃ μ3, Off w22 (tkM μ 33 (43 + 5 * nx)) μ3 ∧ ((r = 0 ∧ μ2 = μ3) ∨ (r = 1 ∧ ∃ x, μ2 = sI (sI (sI μ3 34 p 1) 35 p 0) 33 5 x))) (fun r μ2 q => ?_)) (fun r μ2 q => ?_)
        · obtain ⟨rfl, o⟩ := q
          rw [o.1 7 p rfl]
          by_cases ef : gI (tkM μ 33 (43 + 5 * nx)) 7 p < LV V (tkM μ 33 (43 + 5 * nx)) p (gI (tkM μ 33 (43 + 5 * nx)) 35 p) (gI (tkM μ 33 (43 + 5 * nx)) 36 p) d
          · rw [if_neg (i_nle.mpr ef), if_pos ef]
            exact ev_end ⟨rfl, μ2, o, Or.inl ⟨rfl, rfl⟩⟩
          · rw [if_pos (i_nlt.mp ef), if_neg ef]
            exact ev_end ⟨rfl, μ2, o, Or.inr ⟨rfl, _, rfl⟩⟩
        · obtain ⟨rq, μ3, o, hr⟩ := q
          rw [← rq]
          have q29 : ∀ j, gI μ3 29 j = gI μ 29 j := fun j => (o.1 29 j rfl).trans (tkM_o j (by omega))
          rcases hr with ⟨rfl, rfl⟩ | ⟨rfl, x, rfl⟩
          · rw [c_done p1 p2 (by rw [q29]; exact p3) (by rw [q29]; exact p4) (by decide), bnd_e, if_pos rfl]
            exact pr_end (keep0 _ o) _
          · rw [c_done p1 p2 (by rw [gI_sI, if_neg (by omega), gI_sI, if_neg (by omega), gI_sI, if_neg (by omega), q29]; exact p3) (by rw [gI_sI, if_neg (by omega), gI_sI, if_neg (by omega), gI_sI, if_neg (by omega), q29]; exact p4) (by decide), bnd_e, if_neg n10]
            unfold fX12_goPlead_123
            simp (disch := omega) only [gd_in, ix_nI, a6, lt_e, bnd_e]
            refine sm_end ⟨rfl, h1.push p2 p3 p1 p4 (Nat.le_refl _) ((((o.mono (fun _ _ => w22_4)).sI rfl).sI rfl).sI rfl) ⟨123, rm, fun j hj => h1.hl0.1 j hj⟩ (((o'.mono (fun _ _ => w137_4)).sI rfl).sI rfl) ?_⟩
            have hh := (fin μ3 o).hl0
            have s1 := hh.set (by omega) (fun j _ => hs0 (h := 33) (p := p) (by omega) (nI 1) j) (hh.2.st (s := 1) (by omega) (by omega) hp)
            have s2 := s1.set (q := 6 + p) (by omega) (fun j _ => hs1 (h := 33) (p := p) (by omega) (nI 0) j) (s1.2.laid (s := 0) (by omega) (by omega))
            exact s2.off (fun k j hk hj => by rw [gI_sI, if_neg (by omega)]; rfl) (fun _ => rfl)
      · rw [if_neg ed, if_neg ed, if_pos rfl, bnd_e, c_done p1 p2 (by rw [tkM_o 1 (by omega)]; exact p3) (by rw [tkM_o 2 (by omega)]; exact p4) (by decide), bnd_e]
        exact pr_end (keep0 _ (Off.refl _)) _
    · rw [if_neg es, if_pos rfl, if_neg es, bnd_e, c_undone neg2_lt, bnd_e]
      exact pr_end hN _
theorem pr_judge (h : Rel V c b B μ ν) (v : Int32) : Pr V c b B (fX11_judge_0 v μ) (fX12_judge_122 v ν) := by
  have h1 := m17 h 0
  have h6 := h.c6
  obtain ⟨n, nx, p1, p2, p3, p4, p5⟩ := h1.pst
  have hN := h1.noted p2 p3 p1 p4
  unfold fX11_judge_0 fX12_judge_122 fX4_tryNow_33
  rw [lt_e, c_note p2 p3, bnd_e]
  rcases man_or hN v with ⟨e1, e2, e3, -⟩ | ⟨p, hp, rfl, e1, e2, e3, -⟩
  · rw [e3, e2, bnd_e, bnd_e, if_pos rfl, if_pos rfl, bnd_e, c_undone neg1_lt, bnd_e, if_pos neg1_lt]
    exact pr_end hN _
  · rw [e3, e2, bnd_e, bnd_e, if_neg n10, if_neg n10]
    simp (disch := omega) only [gd_in, ix_nI, st_33 hN.hl0]
    by_cases es : gI (tkM μ 33 (43 + 5 * nx)) 34 p = 1
    · rw [if_pos es, if_pos es]
      rw [show fX4_verdictIn_33 (nI p) 0 (tkM μ 33 (43 + 5 * nx)) = _ from c_verdict hN (nI p) 0, bnd_e, lt_e]
      refine sm_R (m_remember_123 p1 p5) (fun _ ν1 rm => ?_)
      have r0 : Rel0 V c b B (tkM μ 33 (43 + 5 * nx)) ν1 := hN.r0.rem rm
      rw [show fX12_proofIn_122_123 (nI p) 0 ν1 = _ from m_proofz_123 r0 r0.hl0 (nI p) 0, bnd_e, bnd_e, m_ending, bnd_e, lt_e, lt_e]
      have hv : ∃ k, k ≤ 5 ∧ (if PF_33 b (tkM μ 33 (43 + 5 * nx)) (nI p) 0 < 100 then (3 : Int32) else 4) = nI k := by
        by_cases q : PF_33 b (tkM μ 33 (43 + 5 * nx)) (nI p) 0 < 100
        · exact ⟨3, by omega, by rw [if_pos q]; rfl⟩
        · exact ⟨4, by omega, by rw [if_neg q]; rfl⟩
      obtain ⟨k, hk, ek⟩ := hv
      rw [ek, gI_sI, if_pos ⟨rfl, rfl⟩, c_done p1 p2 (by rw [gI_sI, if_neg (by omega), tkM_o 1 (by omega)]; exact p3) (by rw [gI_sI, if_neg (by omega), tkM_o 2 (by omega)]; exact p4) (nI_pos (by omega)), bnd_e, if_neg (nI_pos (by omega))]
      have hR : Rel V c b B (sealM (sI (tkM μ 33 (43 + 5 * nx)) 34 p (nI k)) nx n) (sI ν1 123 p (nI k)) := by
        refine h1.push p2 p3 p1 p4 (Nat.le_refl _) ((Off.refl _).sI rfl) ⟨123, rm, fun j hj => h1.hl0.1 j hj⟩ ((Off.refl _).sI rfl) ?_
        exact r0.hl0.set (by omega) (fun j _ => hs0 (by omega) _ j) (r0.hl0.2.st (by omega) hk hp)
      rw [show fX4_proofIn_33 (nI p) 0 (sealM (sI (tkM μ 33 (43 + 5 * nx)) 34 p (nI k)) nx n) = _ from c_proof_33 hR (nI p) 0, bnd_e]
      have eP : PF_33 b (sealM (sI (tkM μ 33 (43 + 5 * nx)) 34 p (nI k)) nx n) (nI p) 0 = PF_33 b (tkM μ 33 (43 + 5 * nx)) (nI p) 0 := by
        unfold PF_33
        refine PFs_cg _ _ b 0 0 (fun i _ => ⟨?_, ?_, ?_⟩)
        · rw [sealM_o (by omega), gI_sI, if_neg (by omega)]
        · rw [sealM_o (by omega), gI_sI, if_neg (by omega)]
        · rw [sealM_o (by omega), gI_sI, if_neg (by omega)]
      rw [eP]
      refine sm_L (c_tell1 _) (fun _ μ2 t => ?_)
      refine sm_R (m_tell (TM.nil _) (by decide) _) (fun _ ν2 t2 => ?_)
      have e9 : gI ν2 123 p = nI k := by rw [t2.1 123 p rfl, gI_sI, if_pos ⟨rfl, rfl⟩]
      rw [e9]
      exact pr_end (hR.tell t t2 (by simp)) _
    · rw [if_neg es, if_neg es, bnd_e, c_undone neg2_lt, bnd_e, if_pos neg2_lt]
      exact pr_end hN _
end Pure22
