section Pure60
variable {V : VT} {c b B : Nat} {μ ν : Mem}
theorem Rel.push2 (h : Rel V c b B μ ν) {nx n B' : Nat} (hx : nx < 13) (h1 : gI μ 29 1 = nI nx) (hn : n ≤ 12) (h2 : gI μ 29 2 = nI n) (hB : B ≤ B') {μ2 ν1 ν2 : Mem} (o : Off (xC 4) (tkM μ 33 (43 + 5 * nx)) μ2) (o' : Off (xM 4) ν ν1) (rm : ∃ S, Rm S n ν1 ν2 ∧ ∀ j, j < 27 → gI ν1 S j = hl μ 33 j) (hh : Rh c B' μ2 ν2) : Rel V c b B' (sealM μ2 nx n) ν2 := by
  obtain ⟨S, ⟨r1, r2, r3, r4, r5⟩, rS⟩ := rm
  have f : ∀ Y, Y ≠ 0 → Y ≠ 4 → Y ≠ 7 → ∀ k j, cc k j = Y → gI (sealM μ2 nx n) k j = gI μ k j := fun Y h0 h4 h7 k j q => by
    rw [sealM_o (fun z => cc29 q h7 z.2 z.1), xC_at h0 h4 o.1 k j q]
    exact tkM_o j (cc_out q h7 hx)
  have e : ∀ Y, Y ≠ 0 → Y ≠ 4 → Y ≠ 7 → ∀ k j, mc k j = Y → gI ν2 k j = gI ν k j := fun Y h0 h4 h7 k j q => by
    rw [r1 k j (mc138 q h7).1 (mc138 q h7).2]
    exact xM_at h0 h4 o'.1 k j q
  have fl : ∀ j, gL (sealM μ2 nx n) 4 j = gL μ 4 j := fun j => o.2 4 j
  have el : ∀ j, gL ν2 134 j = gL ν 134 j := fun j => (r2 134 j).trans (o'.2 134 j)
  have h' := h.mono hB
  refine ⟨h.1.cg (f 1 (by decide) (by decide) (by decide)) (e 1 (by decide) (by decide) (by decide)), h.2.1.cg (f 2 (by decide) (by decide) (by decide)) (e 2 (by decide) (by decide) (by decide)), h.2.2.1.cg (f 3 (by decide) (by decide) (by decide)) (e 3 (by decide) (by decide) (by decide)), hh.cg (fun k j q => sealM_o (fun z => cc29 q (by decide) z.2 z.1)) (fun _ _ _ => rfl), h.2.2.2.2.1.cg (f 5 (by decide) (by decide) (by decide)) (e 5 (by decide) (by decide) (by decide)), h.2.2.2.2.2.1.cg (f 6 (by decide) (by decide) (by decide)) (e 6 (by decide) (by decide) (by decide)) fl el, ?_, h'.2.2.2.2.2.2.2.1.cg (f 8 (by decide) (by decide) (by decide)) (e 8 (by decide) (by decide) (by decide)), h.2.2.2.2.2.2.2.2.cg (f 9 (by decide) (by decide) (by decide)) (e 9 (by decide) (by decide) (by decide))⟩
  obtain ⟨n0, nx0, a1, a2, a3, a4, a5, a6⟩ := h'.2.2.2.2.2.2.1
  rw [h1, nI_eq (by omega) (by omega)] at a3
  rw [h2, nI_eq (by omega) (by omega)] at a4
  subst a3 a4
  have m7 : ∀ k j, mc k j = 7 → gI ν1 k j = gI ν k j := xM_at (by decide) (by decide) o'.1
  have c7 : ∀ k j, cc k j = 7 → gI μ2 k j = gI (tkM μ 33 (43 + 5 * nx)) k j := xC_at (by decide) (by decide) o.1
  have hq : ∀ x, x < 13 → ∀ j, hl (sealM μ2 nx n) (43 + 5 * x) j = hl (tkM μ 33 (43 + 5 * nx)) (43 + 5 * x) j := fun x hx2 j => hl_cg (fun a j' ha _ => by
    rw [sealM_o (by omega)]
    exact c7 a j' (cc_past (by omega) (by omega))) j
  refine Rp.push hn hx a6 h'.2.2.2.1.2 ?_ ?_ (fun x hx2 hne j hj => ?_) (fun j hj => ?_) ?_ (fun i hi j hj => ?_) (fun j hj => ?_)
  · unfold sealM
    rw [gI_sI, if_neg (by omega), gI_sI, if_pos ⟨rfl, rfl⟩]
  · unfold sealM
    rw [gI_sI, if_pos ⟨rfl, rfl⟩]
  · rw [hq x hx2 j]
    exact hl_cg (fun a j' ha _ => tkM_o j' (by omega)) j
  · rw [hq nx hx j]
    exact tkM_hl (by omega) hj
  · exact r3
  · rw [r4 i hi j hj]; exact m7 138 _ rfl
  · rw [r5 j hj]; exact rS j hj
def AQ (V : VT) (c b B D : Nat) (μ0 ν0 μ ν : Mem) : Prop := Rel0 V c b B μ ν ∧ Off (xC 4) μ0 μ ∧ Off (xM 4) ν0 ν ∧ (∀ k, 16 ≤ k → k ≤ 18 → ∀ j, gI μ k j = gI μ0 k j) ∧ (∀ k, (k = 139 ∨ k = 141) → ∀ j, gI ν k j = gI ν0 k j) ∧ ∃ d, d ≤ D ∧ gI μ 33 4 = nI d
theorem assize_in {μ0 ν0 : Mem} {n : Nat} (hn : n ≤ 20) (hB : B + 1000 < 2 ^ 30) {D : Nat} (hD : D + 1200 ≤ B) (ad : AD n μ0 ν0) {Q : Int32 → Mem → Int32 → Mem → Prop}
    (K : ∀ i μ' ν', i ≤ n → AQ V c b B (D + 60 * i + 60) μ0 ν0 μ' ν' → Sm Q (fX11_assize_0_b70 (nI n) (nI i) μ') (fX12_assize_122_b131 (nI n) (nI i) ν')) :
    ∀ (m f i : Nat) (μ' ν' : Mem), i + m = n → m < f → AQ V c b B (D + 60 * i) μ0 ν0 μ' ν' → Sm Q (fX11_assize_0_b40 f (nI n) (nI i) μ') (fX12_assize_122_b85 f (nI n) (nI i) ν') := by
  intro m
  induction m with
  | zero =>
    intro f i μ' ν' h1 h2 q
    obtain ⟨f, rfl⟩ := Nat.exists_eq_succ_of_ne_zero (show f ≠ 0 by omega)
    rw [fX11_assize_0_b40, fX12_assize_122_b85, if_pos (nI_le (by omega) (by omega)), if_pos (nI_le (by omega) (by omega))]
    obtain ⟨q1, q2, q3, q4, q5, d, q6, q7⟩ := q
    exact K i μ' ν' (by omega) ⟨q1, q2, q3, q4, q5, d, by omega, q7⟩
  | succ m ih =>
    intro f i μ' ν' h1 h2 q
    obtain ⟨f, rfl⟩ := Nat.exists_eq_succ_of_ne_zero (show f ≠ 0 by omega)
    obtain ⟨q1, q2, q3, q4, q5, d, q6, q7⟩ := q
    obtain ⟨k, w, v, k1, k2, k3, k4, k5, k6, k7, k8, k9, k10⟩ := ad i (by omega)
    have i3' : (3 : Int32) * nI i = nI (3 * i) := nI_mul 3 i
    have j2 : nI (3 * i) + 2 = nI (3 * i + 2) := nI_add _ 2
    have P := perf_step q1 hB (D := D + 60 * i + 60) (i := i) (k := k) (w := w) (v := v) (by omega) k1 k2 k3 (show d + 60 ≤ D + 60 * i + 60 by omega) (by omega) q7 ((q4 16 (by omega) (by omega) i).trans k4) ((q4 17 (by omega) (by omega) i).trans k5) ((q4 18 (by omega) (by omega) i).trans k6) (gI ν' 141 (3 * i + 1)) (gI ν' 141 (3 * i + 2)) (fun z => (q5 141 (by omega) _).trans (k8 z)) (fun z => (q5 141 (by omega) _).trans (k9 z)) (fun z => (q5 141 (by omega) _).trans (k10 z))
    obtain ⟨r, μ2, u, ν2, e1, e2, r0, o1, o2, ⟨d2, hd2, ed2⟩, fin⟩ := P
    have fc := ft_fX4_perform_33_15 (nI i) (gI μ' 0 14) μ' r μ2 e1
    have fm := ft_fX12_act_122 (nI (ltr k)) (gI ν' 141 (3 * i + 1)) (gI ν' 141 (3 * i + 2)) ν' u ν2 e2
    have a16 : ∀ k, 16 ≤ k → k ≤ 18 → ∀ j, gI μ2 k j = gI μ0 k j := fun k h1 h2 j => ((fc k (by
      obtain rfl | rfl | rfl : k = 16 ∨ k = 17 ∨ k = 18 := by omega
      all_goals rfl) j).1).trans (q4 k h1 h2 j)
    have a39 : ∀ k, (k = 139 ∨ k = 141) → ∀ j, gI ν2 k j = gI ν0 k j := fun k h1 j => ((fm k (by
      rcases h1 with rfl | rfl
      all_goals rfl) j).1).trans (q5 k h1 j)
    rw [fX11_assize_0_b40, fX12_assize_122_b85, if_neg (nI_ge (by omega) (by omega)), if_neg (nI_ge (by omega) (by omega)), e1, bnd_e, i3', nI_1 (3 * i), j2, gd_in (by omega) (by decide), gd_in (by omega) (by decide), gd_in (by omega) (by decide), ix_nI (by omega), ix_nI (by omega), ix_nI (by omega), show gI ν' 141 (3 * i) = nI (ltr k) from (q5 141 (by omega) _).trans k7, e2, bnd_e, nI_1 i]
    have aq : AQ V c b B (D + 60 * i + 60) μ0 ν0 μ2 ν2 := ⟨r0, q2.tr o1, q3.tr o2, a16, a39, d2, by omega, ed2⟩
    rcases fin with ⟨f1, rfl⟩ | ⟨f1, rfl⟩
    · rw [if_pos f1, if_pos rfl]
      exact K i μ2 ν2 (by omega) aq
    · rw [if_neg f1, if_neg n10]
      exact ih f (i + 1) μ2 ν2 (by omega) (by omega) (by rw [show D + 60 * (i + 1) = D + 60 * i + 60 by omega]; exact aq)
theorem pr_assize (h : Rel V c b B μ ν) (hB : B + 3000 < 2 ^ 30) : Pr V c b (B + 1500) (fX11_assize_0 μ) (fX12_assize_122 ν) := by
  have h1 := m17 h 0
  have h6 := h.c6
  obtain ⟨s, t, μ1, ν1, ht, hk, -, -, e1, e2, pc, pm, rt, -, -⟩ := open_both h1 (show 60 ≤ 80 by omega)
  -- behind the reading
  have fin : ∀ (n : Nat) (μ2 ν2 : Mem), n ≤ 20 → RT V c b B μ2 ν2 → AD n μ2 ν2 → Pr V c b (B + 1500) (bnd (fX6_note_29_33 (sI μ2 1 1 0)) fun r5 m6 => fX11_assize_0_b40 FU (nI n) (0 : Int32) m6) (bnd (fX12_lay_123_139 (0 : Int32) ν2) fun _ m14 => fX12_assize_122_b85 FU (nI n) (0 : Int32) m14) := by
    intro n μ2 ν2 hn rt2 ad
    have hR : Rel V c b B (sI μ2 1 1 0) ν2 := rt2
    obtain ⟨u, nx, p1, p2, p3, p4, p5⟩ := hR.pst
    have hN := hR.noted p2 p3 p1 p4
    obtain ⟨d, hdB, hd⟩ := dayB_33 hN.hl0
    obtain ⟨ν3, l1, l2, l3, l4⟩ := mLay_123_139 (base := 0) (by omega) 27 FU 0 ν2 rfl (by decide)
    have o3 : Off scM ν2 ν3 := ⟨fun k j q => l2 k j (by rintro rfl; exact Bool.noConfusion q), l3⟩
    have hN3 := (hN.sm o3).mono (show B ≤ B + 1500 by omega)
    have s39 : ∀ j, j < 27 → gI ν3 139 j = hl (sI μ2 1 1 0) 33 j := fun j hj => by
      rw [l4 j, if_pos (by omega), Nat.sub_zero]
      exact hR.hl0.1 j hj
    unfold fX12_lay_123_139
    rw [c_note p2 p3, bnd_e, show fX12_lay_123_139_b2 FU 0 0 ν2 = _ from l1, bnd_e]
    have ad3 : AD n (tkM (sI μ2 1 1 0) 33 (43 + 5 * nx)) ν3 := fun i hi => by
      obtain ⟨k, w, v, k1, k2, k3, k4, k5, k6, k7, k8, k9, k10⟩ := ad i hi
      refine ⟨k, w, v, k1, k2, k3, ?_, ?_, ?_, ?_, fun z => ?_, fun z => ?_, fun z => ?_⟩
      · rw [tkM_o i (by omega)]; exact k4
      · rw [tkM_o i (by omega)]; exact k5
      · rw [tkM_o i (by omega)]; exact k6
      · rw [l2 141 _ (by decide)]; exact k7
      · rw [l2 141 _ (by decide)]; exact k8 z
      · rw [l2 141 _ (by decide)]; exact k9 z
      · rw [l2 141 _ (by decide)]; exact k10 z
    refine assize_in (B := B + 1500) hn (by omega) (D := d) (by omega) ad3 (fun i μ' ν' hi aq => ?_) n FU 0 _ _ (by omega) (fu_lt (by omega)) ⟨hN3.r0, Off.refl _, Off.refl _, fun _ _ _ _ => rfl, fun _ _ _ => rfl, d, by omega, hd⟩
    obtain ⟨r0, oc, om, -, a39, d2, hd2, ed2⟩ := aq
    -- what is told
    have tell : ∀ (M N : Mem), Rel V c b (B + 1500) M N → Pr V c b (B + 1500) (fX11_assize_0_b81 (nI n) (nI i) M) (fX12_assize_122_b143 (nI n) (nI i) N) := by
      intro M N hMN
      unfold fX11_assize_0_b81 fX12_assize_122_b143 fX11_assize_0_b95 fX12_assize_122_b159
      rw [lt_e]
      have go : ∀ x : Int64, Pr V c b (B + 1500) (bnd (fX7_tell__3 x (Int32.toInt64 (gI M 33 4)) M) fun r12 m13 => some (nI i, m13)) (bnd (fX12_tell_122 x (sI N 122 16 0)) fun r21 m22 => gd (inb (26 : Int32) 27) (bnd (fX12_tell_122 (Int32.toInt64 (gI m22 123 (ix (26 : Int32)))) m22) fun r23 m24 => some (nI i, m24))) := by
        intro x
        refine sm_L (c_tell2 _ _) (fun _ M2 t => ?_)
        refine sm_R (m_tell (TM.nil _) (by decide) _) (fun _ N2 t2 => ?_)
        rw [in26, gd_e, ix26, t2.1 123 26 rfl, day_33 hMN.hl0]
        refine sm_R (m_tell t2 (by simp) _) (fun _ N3 t3 => ?_)
        exact pr_end (hMN.tell t t3 (by simp)) _
      by_cases q : nI n ≤ nI i
      · rw [if_pos q, if_pos q]; exact go 0
      · rw [if_neg q, if_neg q]; exact go 1
    unfold fX11_assize_0_b70 fX12_assize_122_b131
    by_cases z : i = 0
    · subst z
      rw [if_pos (show nI 0 ≤ 0 by decide), if_pos (show nI 0 ≤ 0 by decide)]
      exact tell μ' ν' (hN3.hall oc.1 om.1 (fun j => oc.2 4 j) (fun j => om.2 134 j) r0.hl0)
    · have z1 : ¬ nI i ≤ 0 := nI_nle (by omega) (by omega)
      rw [if_neg z1, if_neg z1, c_seal p1 p2 (by rw [oc.1 29 1 rfl, tkM_o 1 (by omega)]; exact p3) (by rw [oc.1 29 2 rfl, tkM_o 2 (by omega)]; exact p4), bnd_e]
      refine sm_R (m_remember_139 p1 (by rw [om.1 122 29 rfl, l2 122 29 (by decide)]; exact p5)) (fun _ ν4 rm => ?_)
      refine tell _ ν4 ((Rel.sm hR o3).push2 p2 p3 p1 p4 (by omega) oc om ⟨139, rm, fun j hj => (a39 139 (by omega) j).trans (s39 j hj)⟩ ?_)
      exact r0.hl0.cg (fun _ _ _ => rfl) (fun k j q => rm.1 k j (mc138 q (by decide)).1 (mc138 q (by decide)).2)
  unfold fX11_assize_0 fX5_readAll_15_1 fX12_assize_122 fX9_empty_1 fX9_isRead_1
  rw [lt_e, show fX9_open_1 (60 : Int32) μ = _ from e1, bnd_e, show fX12_beginText_122 (60 : Int32) (sI ν 122 17 0) = _ from e2, bnd_e, pc.1, pc.2.1, pm.2.1]
  by_cases q0 : t = 0
  · subst q0
    rw [if_pos rfl, bnd_e, if_neg n10, bnd_e, lt_e, bnd_e, if_pos (by decide), if_pos (show nI 0 ≤ 0 by decide)]
    have eM : fX12_assize_122_b26 FU 0 0 ν1 = bnd (fX12_lay_123_139 (0 : Int32) ν1) fun _ m14 => fX12_assize_122_b85 FU (nI 0) (0 : Int32) m14 := by
      show fX12_assize_122_b26 (999 + 1) 0 0 ν1 = _
      rw [fX12_assize_122_b26, if_pos rfl]
      unfold fX12_assize_122_b57
      rw [mRight pm (by omega) (by omega), if_pos (Nat.le_refl _), bnd_e, if_neg n10]
      rfl
    rw [eM]
    exact fin 0 μ1 ν1 (by omega) rt (fun i hi => absurd hi (Nat.not_lt_zero _))
  · rw [if_neg (show ¬ nI 0 = nI t by rw [nI_eq (by omega) (by omega)]; omega), bnd_e, if_pos rfl, if_neg (nI_nle (by omega) (by omega))]
    rcases act_in hk ht 21 FU 999 0 0 μ1 ν1 rfl (by decide) (by decide) (by omega) (by omega) (by omega) pc pm rt (fun i hi => absurd hi (Nat.not_lt_zero _)) with ⟨w, μ2, ν2, hw, x1, x2, rt2⟩ | ⟨n, μ2, ν2, hn, x1, x2, rt2, ad⟩
    · rw [show fX5_readAll_15_1_b16 FU 0 μ1 = _ from x1, show fX12_assize_122_b26 FU 0 1 ν1 = _ from x2, bnd_e, lt_e, bnd_e, if_neg (i_nle.mpr (neg1_sub hw))]
      exact pr_end (Rel.mono rt2 (by omega)) _
    · rw [show fX5_readAll_15_1_b16 FU 0 μ1 = _ from x1, show fX12_assize_122_b26 FU 0 1 ν1 = _ from x2, bnd_e, lt_e, bnd_e, if_pos (nI_pos' (by omega))]
      exact fin n μ2 ν2 hn rt2 ad
end Pure60
