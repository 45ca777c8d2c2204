section Pure59
variable {V : VT} {c b B : Nat} {μ ν : Mem}
def Pf (V : VT) (c b B D : Nat) (μ ν : Mem) (o1 o2 : Option (Int32 × Mem)) : Prop := ∃ r μ2 q ν2, o1 = some (r, μ2) ∧ o2 = some (q, ν2) ∧ Rel0 V c b B μ2 ν2 ∧ Off (xC 4) μ μ2 ∧ Off (xM 4) ν ν2 ∧ (∃ d, d ≤ D ∧ gI μ2 33 4 = nI d) ∧ ((r < 0 ∧ q = 0) ∨ (¬ r < 0 ∧ q = 1))
theorem pf_no (h : Rel0 V c b B μ ν) {D d : Nat} (hD : d ≤ D) (hd : gI μ 33 4 = nI d) {r : Int32} (hr : r < 0) : Pf V c b B D μ ν (some (r, μ)) (some (0, ν)) := ⟨r, μ, 0, ν, rfl, rfl, h, Off.refl _, Off.refl _, ⟨d, hD, hd⟩, Or.inl ⟨hr, rfl⟩⟩
theorem pf_yes {μ2 ν2 : Mem} (h : Rel0 V c b B μ2 ν2) (o : Off (xC 4) μ μ2) (o' : Off (xM 4) ν ν2) {D d : Nat} (hD : d ≤ D) (hd : gI μ2 33 4 = nI d) {r : Int32} (hr : ¬ r < 0) : Pf V c b B D μ ν (some (r, μ2)) (some (1, ν2)) := ⟨r, μ2, 1, ν2, rfl, rfl, h, o, o', ⟨d, hD, hd⟩, Or.inr ⟨hr, rfl⟩⟩
theorem lay_step (h : Rel0 V c b B μ ν) {D d : Nat} (hD : d ≤ D) (hd : gI μ 33 4 = nI d) (v x : Int32) : Pf V c b B D μ ν (fX4_layOn_33 v x μ) (fX12_act_122_b56 v x ν) := by
  have h6 := h.c6
  unfold fX4_layOn_33 fX12_act_122_b56 fX12_refusesLay_122
  rcases man_orz h v with ⟨e1, e2, e3, -⟩ | ⟨p, hp, rfl, e1, e2, e3, -⟩
  · rw [e3, e2, bnd_e, bnd_e, if_pos rfl, if_pos rfl, bnd_e, if_neg (by decide)]
    exact pf_no h hD hd neg1_lt
  · rw [e3, e2, bnd_e, bnd_e, if_neg n10, if_neg n10, m_in, bnd_e]
    by_cases z : x = 0
    · rw [if_pos z, if_pos z, bnd_e, if_neg (by decide)]
      exact pf_no h hD hd neg1_lt
    · rw [if_neg z, if_neg z]
      by_cases q1 : x < -50
      · rw [if_pos q1, if_pos (Or.inl q1), if_pos rfl, bnd_e, if_neg (by decide)]
        exact pf_no h hD hd neg1_lt
      · rw [if_neg q1]
        by_cases q2 : x ≤ 50
        · have q3 : ¬ (x < -50 ∨ 50 < x) := fun q => q.elim q1 (i_nlt.mpr q2)
          rw [if_pos q2, if_neg q3, if_neg n10, c_sil_33 (by omega), bnd_e]
          simp (disch := omega) only [gd_in, ix_nI, st_33 h.hl0, lt_e]
          by_cases es : gI μ 34 p = 0
          · obtain ⟨s, hs, ex⟩ := cl99 (gI μ 35 p + x)
            have z0 : (0 : Int32) ≤ 0 := by decide
            unfold fX12_goLay_123
            have e7 : gI ν 123 (6 + p) = gI μ 35 p := laid_33 h.hl0 (by omega)
            simp (disch := omega) only [if_pos es, if_neg n10, bnd_e, if_pos z0, a6, gd_in, ix_nI, lt_e, e7, ex]
            have hh : Rh c B (sI μ 35 p (nI s)) (sI ν 123 (6 + p) (nI s)) := h.hl0.set (by omega) (fun j _ => hs1 (by omega) _ j) (h.hl0.2.laid (by omega) hs)
            rw [gI_sI, if_pos ⟨rfl, rfl⟩]
            exact pf_yes (upd_33 h ((Off.refl _).sI rfl) ((Off.refl _).sI rfl) hh) ((Off.refl _).sI rfl) ((Off.refl _).sI rfl) hD hd (nI_pos (by omega))
          · rw [if_neg es, if_pos rfl, if_neg es, bnd_e, if_neg (by decide)]
            exact pf_no h hD hd neg2_lt
        · rw [if_neg q2, if_pos (Or.inr (i_nle.mp q2)), if_pos rfl, bnd_e, if_neg (by decide)]
          exact pf_no h hD hd neg1_lt
theorem ask_step (h : Rel0 V c b B μ ν) (hB : B < 2 ^ 30) {D d : Nat} (hD : d ≤ D) (hdB : d ≤ B) (hd : gI μ 33 4 = nI d) (v : Int32) : Pf V c b B D μ ν (fX4_askOf_33 v μ) (bnd (fX12_isMan_122 v ν) fun r2 m3 => if r2 = 0 then (some ((0 : Int32), m3)) else gd (inb v 27) (if (gI m3 123 (ix v)) = 0 then (bnd (fX12_leftNow_122_123 v m3) fun r4 m5 => bnd (fX12_doesSpeak_122 v r4 m5) fun r6 m7 => if r6 = 0 then (some ((1 : Int32), m7)) else bnd (fX12_goPlead_123 v m7) fun r8 m9 => some ((1 : Int32), m9)) else some ((0 : Int32), m3))) := by
  have h6 := h.c6
  unfold fX4_askOf_33
  rcases man_orz h v with ⟨e1, e2, e3, -⟩ | ⟨p, hp, rfl, e1, e2, e3, -⟩
  · rw [e3, e2, bnd_e, bnd_e, if_pos rfl, if_pos rfl]
    exact pf_no h hD hd neg1_lt
  · rw [e3, e2, bnd_e, bnd_e, if_neg n10, if_neg n10, c_sil_33 (by omega), bnd_e]
    simp (disch := omega) only [gd_in, ix_nI, st_33 h.hl0, lt_e]
    by_cases es : gI μ 34 p = 0
    · rw [if_pos es, if_neg n10, if_pos es]
      obtain ⟨r4, ν2, eL, rfl, o'⟩ := m_leftNowz_123 h h.hl0 hB hp hd hdB
      have fin : ∀ μ2, Off w22 μ μ2 → Rel0 V c b B μ2 ν2 := fun μ2 o => Off.zrm (Off.zrc h o (fun _ _ => w22_sc)) o' (fun _ _ => w137_sc)
      rw [eL, bnd_e, m_speakz (fin _ (Off.refl _)) hp, bnd_e]
      by_cases ed : gI μ 8 p = 0
      · rw [if_pos ed, if_pos ed]
        obtain ⟨r5, μ2, eC, rfl, o⟩ := c_leftNowz_33 h h.hl0 hB (show p < 6 by omega) hd hdB
        have d2 : gI μ2 33 4 = nI d := (o.1 33 4 rfl).trans hd
        rw [eC, bnd_e, o.1 7 p rfl]
        by_cases ef : gI μ 7 p < LV V μ p (gI μ 35 p) (gI μ 36 p) d
        · rw [if_neg (i_nle.mpr ef), if_pos ef, if_pos rfl]
          exact pf_yes (fin _ o) (o.mono (fun _ _ => w22_4)) (o'.mono (fun _ _ => w137_4)) hD d2 (by decide)
        · rw [if_pos (i_nlt.mp ef), if_neg ef, if_neg n10]
          unfold fX12_goPlead_123
          simp (disch := omega) only [gd_in, ix_nI, a6, lt_e, bnd_e]
          have hh := (fin μ2 o).hl0
          have s1 := hh.set (by omega) (fun j _ => hs0 (h := 33) (p := p) (by omega) (nI 1) j) (hh.2.st (s := 1) (by omega) (by omega) hp)
          have s2 := s1.set (q := 6 + p) (by omega) (fun j _ => hs1 (h := 33) (p := p) (by omega) (nI 0) j) (s1.2.laid (s := 0) (by omega) (by omega))
          have oc : Off (xC 4) μ2 (sI (sI (sI μ2 34 p 1) 35 p 0) 33 5 (gI (sI (sI μ2 34 p 1) 35 p 0) 33 5 + 1)) := (((Off.refl _).sI rfl).sI rfl).sI rfl
          have om : Off (xM 4) ν2 (sI (sI ν2 123 p 1) 123 (6 + p) 0) := ((Off.refl _).sI rfl).sI rfl
          exact pf_yes (upd_33 (fin μ2 o) oc om (s2.off (fun k j hk hj => by rw [gI_sI, if_neg (by omega)]; rfl) (fun _ => rfl))) ((o.mono (fun _ _ => w22_4)).tr oc) ((o'.mono (fun _ _ => w137_4)).tr om) hD d2 (by decide)
      · rw [if_neg ed, if_neg ed, if_pos rfl]
        exact pf_yes (fin _ (Off.refl _)) (Off.refl _) (o'.mono (fun _ _ => w137_4)) hD hd (by decide)
    · rw [if_neg es, if_pos rfl, if_neg es]
      exact pf_no h hD hd neg2_lt
theorem judge_step (h : Rel0 V c b B μ ν) {D d : Nat} (hD : d ≤ D) (hd : gI μ 33 4 = nI d) (v : Int32) : Pf V c b B D μ ν (fX4_tryNow_33 v μ) (bnd (fX12_isMan_122 v ν) fun r11 m12 => if r11 = 0 then (some ((0 : Int32), m12)) else gd (inb v 27) (if (gI m12 123 (ix v)) = (1 : Int32) then (bnd (fX12_proofIn_122_123 v (0 : Int32) m12) fun r13 m14 => bnd (fX12_ending_122 r13 m14) fun r15 m16 => gd (inb v 27) (lt (sI m16 123 (ix v) r15) fun m17 => some ((1 : Int32), m17))) else some ((0 : Int32), m12))) := by
  have h6 := h.c6
  unfold fX4_tryNow_33
  rcases man_orz h v with ⟨e1, e2, e3, -⟩ | ⟨p, hp, rfl, e1, e2, e3, -⟩
  · rw [e3, e2, bnd_e, bnd_e, if_pos rfl, if_pos rfl]
    exact pf_no h hD hd neg1_lt
  · rw [e3, e2, bnd_e, bnd_e, if_neg n10, if_neg n10]
    simp (disch := omega) only [gd_in, ix_nI, st_33 h.hl0]
    by_cases es : gI μ 34 p = 1
    · rw [if_pos es, if_pos es]
      rw [show fX4_verdictIn_33 (nI p) 0 μ = _ from c_verdictz h (nI p) 0, bnd_e, lt_e, show fX12_proofIn_122_123 (nI p) 0 ν = _ from m_proofz_123 h h.hl0 (nI p) 0, bnd_e, m_ending, bnd_e, lt_e]
      have hv : ∃ k, k ≤ 5 ∧ (if PF_33 b μ (nI p) 0 < 100 then (3 : Int32) else 4) = nI k := by
        by_cases q : PF_33 b μ (nI p) 0 < 100
        · exact ⟨3, by omega, by rw [if_pos q]; rfl⟩
        · exact ⟨4, by omega, by rw [if_neg q]; rfl⟩
      obtain ⟨k, hk, ek⟩ := hv
      rw [ek, gI_sI, if_pos ⟨rfl, rfl⟩]
      have hh : Rh c B (sI μ 34 p (nI k)) (sI ν 123 p (nI k)) := h.hl0.set (by omega) (fun j _ => hs0 (by omega) _ j) (h.hl0.2.st (by omega) hk hp)
      exact pf_yes (upd_33 h ((Off.refl _).sI rfl) ((Off.refl _).sI rfl) hh) ((Off.refl _).sI rfl) ((Off.refl _).sI rfl) hD hd (nI_pos (by omega))
    · rw [if_neg es, if_neg es]
      exact pf_no h hD hd neg2_lt
theorem night_step (h : Rel0 V c b B μ ν) (hB : B + 1000 < 2 ^ 30) {D d v : Nat} (hv : v ≤ 99) (hD : d + 60 ≤ D) (hDB : D ≤ B) (hd : gI μ 33 4 = nI d) : Pf V c b B D μ ν (if nI v ≤ (60 : Int32) then (bnd (fX4_pass_33 (nI v) (gI μ 0 14) μ) fun r16 m17 => some ((gI m17 33 4), m17)) else some ((-1 : Int32), μ)) (if nI v ≤ (60 : Int32) then (fX12_act_122_b181 FU (nI v) (0 : Int32) ν) else some ((0 : Int32), ν)) := by
  by_cases q : v ≤ 60
  · have e : nI v ≤ (60 : Int32) := nI_le (b := 60) q (by decide)
    rw [if_pos e, if_pos e]
    have P := pass_33 (n := v) (d := d) (β := Int32) (γ := Int32) (Q := fun r μ2 q ν2 => r = gI μ2 33 4 ∧ q = 1 ∧ ∃ z, NQ_33 V c b B (d + v) μ ν z μ2 ν2) (f1 := fun _ m => some (gI m 33 4, m)) (L := fun f i m => fX12_act_122_b181 f (nI v) (nI i) m) (T := fun m => some (1, m)) h hB (by omega) (by omega) rfl (fun f ν' => by rw [fX12_act_122_b181, if_pos (nI_le (Nat.le_refl _) (by omega))]) (fun f i ν' hi => by rw [fX12_act_122_b181, if_neg (nI_ge hi (by omega)), nI_1]) (fun r μ2 ν2 q => sm_end ⟨rfl, rfl, r, q⟩) v FU 0 0 μ ν (by omega) (fu_lt (by omega)) (NQ_0_33 h h.hl0 hd)
    obtain ⟨r, μ2, q', ν2, e1, e2, rfl, rfl, z, n1, n2, n3, n4, n5, n6, n7⟩ := P
    refine ⟨_, μ2, 1, ν2, e1, e2, n3, n5, n6, ⟨d + v, by omega, n7⟩, Or.inr ⟨?_, rfl⟩⟩
    rw [n7]
    exact nI_pos (by omega)
  · have e : ¬ nI v ≤ (60 : Int32) := nI_ge (a := 60) (by omega) (by omega)
    rw [if_neg e, if_neg e]
    exact pf_no h (by omega) hd neg1_lt
theorem perf_step (h : Rel0 V c b B μ ν) (hB : B + 1000 < 2 ^ 30) {D d i k w v : Nat} (hi : i < 20) (hk : k ≤ 4) (hw : w ≤ 9) (hv : v ≤ 99) (hD : d + 60 ≤ D) (hDB : D ≤ B) (hd : gI μ 33 4 = nI d) (e16 : gI μ 16 i = nI k) (e17 : gI μ 17 i = nI w) (e18 : gI μ 18 i = nI v) (A2 A3 : Int32) (f2 : k ≠ 4 → A2 = nI w) (f3 : k = 4 → A2 = nI v) (f4 : k ≤ 1 → A3 = nI v) : Pf V c b B D μ ν (fX4_perform_33_15 (nI i) (gI μ 0 14) μ) (fX12_act_122 (nI (ltr k)) A2 A3 ν) := by
  unfold fX4_perform_33_15 fX12_act_122
  rw [if_neg (nI_pos (by omega)), if_pos (show nI i < (20 : Int32) from nI_lt (b := 20) hi (by decide))]
  simp (disch := omega) only [gd_in, ix_nI, lt_e, e16, e17, e18]
  have un : ∀ {o : Option (Int32 × Mem)}, (bnd o fun r m => some (r, m)) = o := fun {o} => by cases o <;> rfl
  obtain rfl | rfl | rfl | rfl | rfl : k = 0 ∨ k = 1 ∨ k = 2 ∨ k = 3 ∨ k = 4 := by omega
  · rw [if_pos (show nI 0 = 0 from rfl), un, if_neg (show ¬ nI (ltr 0) = 97 by decide), if_neg (show ¬ nI (ltr 0) = 106 by decide), if_pos (show nI (ltr 0) = 108 from rfl), if_pos (show nI (ltr 0) = 108 from rfl), f2 (by decide), f4 (by decide)]
    exact lay_step h (by omega) hd _ _
  · rw [if_neg (show ¬ nI 1 = 0 by decide), if_pos (show nI 1 = 1 from rfl), un, if_neg (show ¬ nI (ltr 1) = 97 by decide), if_neg (show ¬ nI (ltr 1) = 106 by decide), if_neg (show ¬ nI (ltr 1) = 108 by decide), if_pos (show nI (ltr 1) = 111 from rfl), if_neg (show ¬ nI (ltr 1) = 108 by decide), f2 (by decide), f4 (by decide)]
    exact lay_step h (by omega) hd _ _
  · rw [if_neg (show ¬ nI 2 = 0 by decide), if_neg (show ¬ nI 2 = 1 by decide), if_pos (show nI 2 = 2 from rfl), un, if_pos (show nI (ltr 2) = 97 from rfl), f2 (by decide)]
    exact ask_step h (by omega) (by omega) (by omega) hd _
  · rw [if_neg (show ¬ nI 3 = 0 by decide), if_neg (show ¬ nI 3 = 1 by decide), if_neg (show ¬ nI 3 = 2 by decide), if_pos (show nI 3 = 3 from rfl), un, if_neg (show ¬ nI (ltr 3) = 97 by decide), if_pos (show nI (ltr 3) = 106 from rfl), f2 (by decide)]
    exact judge_step h (by omega) hd _
  · rw [if_neg (show ¬ nI 4 = 0 by decide), if_neg (show ¬ nI 4 = 1 by decide), if_neg (show ¬ nI 4 = 2 by decide), if_neg (show ¬ nI 4 = 3 by decide), if_neg (show ¬ nI (ltr 4) = 97 by decide), if_neg (show ¬ nI (ltr 4) = 106 by decide), if_neg (show ¬ nI (ltr 4) = 108 by decide), if_neg (show ¬ nI (ltr 4) = 111 by decide), f3 rfl]
    exact night_step h hB hv hD hDB hd
end Pure59
