section Pure31
variable {V : VT} {c b B : Nat} {μ ν : Mem}
theorem ushr16 (s : Int32) : ∃ y, y < 65536 ∧ ushr s 16 = nI y := by
  refine ⟨s.toBitVec.toNat / 65536, ?_, ?_⟩
  · have := s.toBitVec.isLt
    omega
  · apply Int32.toBitVec_inj.mp
    apply BitVec.eq_of_toNat_eq
    rw [nI_bv, BitVec.toNat_ofNat]
    have h1 : (ushr s 16).toBitVec = s.toBitVec >>> 16 := rfl
    have := s.toBitVec.isLt
    rw [h1, BitVec.toNat_ushiftRight, Nat.shiftRight_eq_div_pow, Nat.mod_eq_of_lt (by omega)]
def inv8 (V : VT) (c b B d : Nat) (μ ν μ' ν' : Mem) (cnt s : Int32) : Prop := Rel0 V c b B μ' ν' ∧ Rh2 c B μ' ν' ∧ Off scC μ μ' ∧ Off scM ν ν' ∧ gI μ' 38 4 = nI d ∧ gI μ' 38 5 = cnt ∧ gI ν' 122 40 = s
theorem stir (s : Int32) : fX11_stirred s μ = some (s * (1103515245 : Int32) + (12345 : Int32), μ) := rfl
theorem drawn {s : Int32} {n : Nat} (hn : 1 ≤ n) (hn2 : n < 1000) : ∃ j, j < n ∧ (∀ μ : Mem, fX11_drawn s (nI n) μ = some (nI j, μ)) ∧ (ushr s 16) - (ushr s 16) / nI n * nI n = nI j := by
  obtain ⟨y, hy, e⟩ := ushr16 s
  refine ⟨y % n, Nat.mod_lt _ hn, fun μ => ?_, ?_⟩
  · unfold fX11_drawn
    rw [if_pos (show (1 : Int32) ≤ nI n from nI_le (a := 1) hn (by omega)), e, nI_mod (by omega) (by omega) hn, gd_of]
    rw [Bool.not_eq_true', beq_eq_false_iff_ne]
    exact nI_ne0 (by omega) (by omega)
  · rw [e, nI_mod (by omega) (by omega) hn]
theorem m_draw {s : Int32} (hs : gI ν 122 40 = s) {n : Nat} (hn : 1 ≤ n) (hn2 : n < 1000) {j : Nat} (e : (ushr (s * (1103515245 : Int32) + (12345 : Int32)) 16) - (ushr (s * (1103515245 : Int32) + (12345 : Int32)) 16) / nI n * nI n = nI j) : fX12_draw_122 (nI n) ν = some (nI j, sI ν 122 40 (s * (1103515245 : Int32) + (12345 : Int32))) := by
  unfold fX12_draw_122
  have e1 : gI (sI ν 122 40 (s * (1103515245 : Int32) + (12345 : Int32))) 122 40 = s * (1103515245 : Int32) + (12345 : Int32) := by rw [gI_sI, if_pos ⟨rfl, rfl⟩]
  rw [hs, lt_e, e1, e, gd_of]
  rw [Bool.not_eq_true', beq_eq_false_iff_ne]
  exact nI_ne0 (by omega) (by omega)
theorem years_act {d : Nat} (hB : B + 1000 < 2 ^ 30) (hdB : d ≤ B) {cnt s : Int32} {μ' ν' : Mem} (I : inv8 V c b B d μ ν μ' ν' cnt s) {p a : Nat} (hp : p < c) (ha : a < 4) (k49 : Int32 → Int32 → Int32 → Mem → Option (Int32 × Mem)) (p2 p4 : Int32) : ∃ μ2 ν2 cnt', fX4_performDrawn_38 (nI p) (nI a) μ' = some ((), μ2) ∧ (if (2 : Int32) ≤ nI a then (fX12_years_122_b109 k49 p2 cnt p4 (nI p) (nI a) ν') else gd (inb (nI p) 27) (if (gI ν' 140 (ix (nI p))) = 0 then (if nI a = 0 then (fX12_years_122_b106 k49 p2 cnt p4 (nI p) (nI a) (10 : Int32) (nI p) ν') else fX12_years_122_b106 k49 p2 cnt p4 (nI p) (nI a) (-10 : Int32) (nI p) ν') else fX12_years_122_b109 k49 p2 cnt p4 (nI p) (nI a) ν')) = fX12_years_122_b195 k49 p2 cnt' p4 ν2 ∧ inv8 V c b B d μ ν μ2 ν2 cnt' s := by
  obtain ⟨r0, hh, oc, om, hd, hcn, hsd⟩ := I
  have h6 := r0.c6
  have hs : fX4_has_38 (nI p) μ' = some (1, μ') := by
    unfold fX4_has_38
    rw [r0.men, if_neg (nI_pos (by omega)), if_neg (nI_ge hp (by omega))]
  have b109 : ¬ a = 2 → ¬ a = 3 → ∀ (cn : Int32) (ν2 : Mem), fX12_years_122_b109 k49 p2 cn p4 (nI p) (nI a) ν2 = fX12_years_122_b195 k49 p2 cn p4 ν2 := by
    intro n2 n3 cn ν2
    unfold fX12_years_122_b109 fX12_years_122_b156
    rw [if_neg (fun q => n2 (by rw [show (2 : Int32) = nI 2 from rfl, nI_eq (by omega) (by omega)] at q; exact q)), if_neg (fun q => n3 (by rw [l3, nI_eq (by omega) (by omega)] at q; exact q))]
  have lay : ∀ x : Int32, (x = 10 ∨ x = -10) → ∃ μ2 ν2, fX4_layOn_38 (nI p) x μ' = some ((if gI μ' 39 p = 0 then gI μ2 40 p else -2), μ2) ∧ (gI μ' 39 p = 0 → fX12_goLay_140 (nI p) x ν' = some ((), ν2)) ∧ (¬ gI μ' 39 p = 0 → ν2 = ν') ∧ inv8 V c b B d μ ν μ2 ν2 cnt s := by
    intro x hx
    unfold fX4_layOn_38 fX12_goLay_140
    have x0 : ¬ x = 0 := by rcases hx with rfl | rfl <;> decide
    have x1 : ¬ x < -50 := by rcases hx with rfl | rfl <;> decide
    have x2 : x ≤ 50 := by rcases hx with rfl | rfl <;> decide
    rw [hs, bnd_e, if_neg n10, if_neg x0, if_neg x1, if_pos x2, c_sil_38 (by omega), bnd_e]
    simp (disch := omega) only [gd_in, ix_nI, a6, lt_e, laid_38 hh]
    by_cases es : gI μ' 39 p = 0
    · obtain ⟨s', hs', ex⟩ := cl99 (gI μ' 40 p + x)
      rw [if_pos es, if_neg n10, ex]
      have hh3 : Rh2 c B (sI μ' 40 p (nI s')) (sI ν' 140 (6 + p) (nI s')) := hh.set (by omega) (fun j _ => hs1 (h := 38) (by omega) _ j) (hh.2.laid (by omega) hs')
      refine ⟨sI μ' 40 p (nI s'), sI ν' 140 (6 + p) (nI s'), ?_, fun _ => rfl, fun q => absurd es q, upd_38 r0 ((Off.refl _).sI rfl) ((Off.refl _).sI rfl) hh3, hh3, oc.sI rfl, om.sI rfl, ?_, ?_, ?_⟩
      · rw [if_pos es]
      · rw [gne (by decide)]; exact hd
      · rw [gne (by decide)]; exact hcn
      · rw [gne (by decide)]; exact hsd
    · rw [if_neg es, if_pos rfl]
      refine ⟨μ', ν', by rw [if_neg es], fun q => absurd q es, fun _ => rfl, r0, hh, oc, om, hd, hcn, hsd⟩
  unfold fX4_performDrawn_38
  obtain rfl | rfl | rfl | rfl : a = 0 ∨ a = 1 ∨ a = 2 ∨ a = 3 := by omega
  · obtain ⟨μ2, ν2, c1, c2, c3, c4⟩ := lay 10 (Or.inl rfl)
    refine ⟨μ2, ν2, cnt, ?_, ?_, c4⟩
    · rw [if_pos (show nI 0 = 0 from rfl), c1, bnd_e]
    · rw [if_neg (by decide), gd_in (by omega) (by decide), ix_nI (by omega), st_38 hh (by omega)]
      by_cases es : gI μ' 39 p = 0
      · rw [if_pos es, if_pos (show nI 0 = 0 from rfl)]
        unfold fX12_years_122_b106
        rw [c2 es, bnd_e]
        exact b109 (by decide) (by decide) _ _
      · rw [if_neg es, c3 es]
        exact b109 (by decide) (by decide) _ _
  · obtain ⟨μ2, ν2, c1, c2, c3, c4⟩ := lay (-10) (Or.inr rfl)
    refine ⟨μ2, ν2, cnt, ?_, ?_, c4⟩
    · rw [if_neg (show ¬ nI 1 = 0 by decide), if_pos (show nI 1 = 1 from rfl), c1, bnd_e]
    · rw [if_neg (by decide), gd_in (by omega) (by decide), ix_nI (by omega), st_38 hh (by omega)]
      by_cases es : gI μ' 39 p = 0
      · rw [if_pos es, if_neg (show ¬ nI 1 = 0 by decide)]
        unfold fX12_years_122_b106
        rw [c2 es, bnd_e]
        exact b109 (by decide) (by decide) _ _
      · rw [if_neg es, c3 es]
        exact b109 (by decide) (by decide) _ _
  · have b156 : ∀ (cn : Int32) (ν2 : Mem), fX12_years_122_b156 k49 p2 cn p4 (nI p) (nI 2) ν2 = fX12_years_122_b195 k49 p2 cn p4 ν2 := by
      intro cn ν2
      unfold fX12_years_122_b156
      rw [if_neg (by decide)]
    rw [if_neg (show ¬ nI 2 = 0 by decide), if_neg (show ¬ nI 2 = 1 by decide), if_pos (show nI 2 = 2 from rfl), if_pos (show (2 : Int32) ≤ nI 2 by decide)]
    unfold fX4_askOf_38 fX12_years_122_b109
    rw [if_pos (show nI 2 = 2 from rfl), hs, bnd_e, if_neg n10, c_sil_38 (by omega), bnd_e]
    simp (disch := omega) only [gd_in, ix_nI, st_38 hh, b156]
    by_cases es : gI μ' 39 p = 0
    · rw [if_pos es, if_neg n10, if_pos es]
      obtain ⟨r', ν2, f1, rfl, f3⟩ := m_leftNowz_140 r0 hh (by omega) hp hd hdB
      have hh2 : Rh2 c B μ' ν2 := hh.w22 (Off.refl _) f3
      have r2 : Rel0 V c b B μ' ν2 := Off.zrm r0 f3 (fun _ _ => w137_sc)
      rw [f1, bnd_e, m_speakz r2 hp, bnd_e]
      by_cases ed : gI μ' 8 p = 0
      · rw [if_pos ed, if_pos ed]
        obtain ⟨r, μ2, g1, rfl, g3⟩ := c_leftNowz_38 r0 hh (by omega) (show p < 6 by omega) hd hdB
        rw [g1, bnd_e, g3.1 7 p rfl]
        have hh3 : Rh2 c B μ2 ν2 := hh.w22 g3 f3
        have r3 : Rel0 V c b B μ2 ν2 := Off.zrc r2 g3 (fun _ _ => w22_sc)
        by_cases ef : gI μ' 7 p < LV V μ' p (gI μ' 40 p) (gI μ' 41 p) d
        · rw [if_neg (i_nle.mpr ef), if_pos ef, if_pos rfl, bnd_e]
          exact ⟨μ2, ν2, cnt, rfl, rfl, r3, hh3, oc.tr (g3.mono (fun _ _ => w22_sc)), om.tr (f3.mono (fun _ _ => w137_sc)), (g3.1 38 4 rfl).trans hd, (g3.1 38 5 rfl).trans hcn, (f3.1 122 40 rfl).trans hsd⟩
        · rw [if_pos (i_nlt.mp ef), if_neg ef, if_neg n10]
          unfold fX12_goPlead_140
          simp (disch := omega) only [gd_in, ix_nI, a6, lt_e, bnd_e]
          have s1 := hh3.set (q := p) (by omega) (fun j _ => hs0 (h := 38) (p := p) (by omega) (nI 1) j) (hh3.2.st (s := 1) (by omega) (by omega) hp)
          have s2 := s1.set (q := 6 + p) (by omega) (fun j _ => hs1 (h := 38) (p := p) (by omega) (nI 0) j) (s1.2.laid (s := 0) (by omega) (by omega))
          have e5 : gI (sI (sI μ2 39 p 1) 40 p 0) 38 5 = cnt := by rw [gne (by decide), gne (by decide), g3.1 38 5 rfl]; exact hcn
          rw [e5]
          have hh5 : Rh2 c B (sI (sI (sI μ2 39 p 1) 40 p 0) 38 5 (cnt + 1)) (sI (sI ν2 140 p 1) 140 (6 + p) 0) := s2.off (fun k j hk hj => by rw [gI_sI, if_neg (by omega)]; rfl) (fun _ => rfl)
          refine ⟨_, _, cnt + 1, rfl, rfl, (r3.sc ((((Off.refl _).sI rfl).sI rfl).sI rfl)).sm (((Off.refl _).sI rfl).sI rfl), hh5, (((oc.tr (g3.mono (fun _ _ => w22_sc))).sI rfl).sI rfl).sI rfl, ((om.tr (f3.mono (fun _ _ => w137_sc))).sI rfl).sI rfl, ?_, ?_, ?_⟩
          · rw [gI_sI, if_neg (by omega), gne (by decide), gne (by decide), g3.1 38 4 rfl]; exact hd
          · rw [gI_sI, if_pos ⟨rfl, rfl⟩]
          · rw [gne (by decide), gne (by decide), f3.1 122 40 rfl]; exact hsd
      · rw [if_neg ed, if_neg ed, if_pos rfl, bnd_e]
        exact ⟨μ', ν2, cnt, rfl, rfl, r2, hh2, oc, om.tr (f3.mono (fun _ _ => w137_sc)), hd, hcn, (f3.1 122 40 rfl).trans hsd⟩
    · rw [if_neg es, if_pos rfl, if_neg es, bnd_e]
      exact ⟨μ', ν', cnt, rfl, rfl, r0, hh, oc, om, hd, hcn, hsd⟩
  · rw [if_neg (show ¬ nI 3 = 0 by decide), if_neg (show ¬ nI 3 = 1 by decide), if_neg (show ¬ nI 3 = 2 by decide), if_pos (show (2 : Int32) ≤ nI 3 by decide)]
    unfold fX4_tryNow_38 fX12_years_122_b109 fX12_years_122_b156 fX4_verdictIn_38
    rw [if_neg (show ¬ nI 3 = 2 by decide), if_pos (show nI 3 = 3 from rfl), hs, bnd_e, if_neg n10]
    simp (disch := omega) only [gd_in, ix_nI, st_38 hh]
    by_cases es : gI μ' 39 p = 1
    · rw [if_pos es, if_pos es, show fX4_proofIn_38 (nI p) 0 μ' = _ from c_proofz_38 r0 (nI p) 0, show fX12_proofIn_122_140 (nI p) 0 ν' = _ from m_proofz_140 r0 hh (nI p) 0, bnd_e, bnd_e, m_ending, bnd_e, lt_e]
      have hv : ∃ k, k ≤ 5 ∧ (if PF_38 b μ' (nI p) 0 < 100 then (some ((3 : Int32), μ')) else some ((4 : Int32), μ')) = some (nI k, μ') ∧ (if PF_38 b μ' (nI p) 0 < 100 then (3 : Int32) else 4) = nI k := by
        by_cases q : PF_38 b μ' (nI p) 0 < 100
        · exact ⟨3, by omega, by rw [if_pos q]; rfl, by rw [if_pos q]; rfl⟩
        · exact ⟨4, by omega, by rw [if_neg q]; rfl, by rw [if_neg q]; rfl⟩
      obtain ⟨k, hk, e1, e2⟩ := hv
      rw [e1, e2, bnd_e, lt_e, bnd_e]
      have hh3 : Rh2 c B (sI μ' 39 p (nI k)) (sI ν' 140 p (nI k)) := hh.set (by omega) (fun j _ => hs0 (h := 38) (by omega) _ j) (hh.2.st (by omega) hk hp)
      refine ⟨_, _, cnt, rfl, rfl, upd_38 r0 ((Off.refl _).sI rfl) ((Off.refl _).sI rfl) hh3, hh3, oc.sI rfl, om.sI rfl, ?_, ?_, ?_⟩
      · rw [gne (by decide)]; exact hd
      · rw [gne (by decide)]; exact hcn
      · rw [gne (by decide)]; exact hsd
    · rw [if_neg es, if_neg es, bnd_e]
      exact ⟨μ', ν', cnt, rfl, rfl, r0, hh, oc, om, hd, hcn, hsd⟩
theorem years_in (h : Rel V c b B μ ν) {B' d : Nat} (hB : B' + 1000 < 2 ^ 30) (hc : 1 ≤ c) {n : Nat} (hn : n ≤ 60) (hdB : d + n ≤ B') : ∀ (m f i : Nat) (cnt s : Int32) (μ' ν' : Mem), i + m = n → m < f → inv8 V c b B' (d + i) μ ν μ' ν' cnt s → Pr V c b B (fX11_years_0_b42 f (nI n) s (nI i) μ') (fX12_years_122_b49 f (nI n) cnt (nI i) ν') := by
  have h6 := h.c6
  intro m
  induction m with
  | zero =>
    intro f i cnt s μ' ν' h1 h2 I
    obtain ⟨f, rfl⟩ := Nat.exists_eq_succ_of_ne_zero (show f ≠ 0 by omega)
    obtain ⟨r0, hh, oc, om, hd, hcn, hsd⟩ := I
    have hR : Rel V c b B μ' ν' := (h.sc oc).sm om
    have q : nI n ≤ nI i := nI_le (by omega) (by omega)
    rw [fX11_years_0_b42, fX12_years_122_b49, if_pos q, if_pos q, c_kindz_38 r0, bnd_e, c_kindz_33 r0, bnd_e, lt_e, c_kindz_38 r0, bnd_e, c_kindz_33 r0, bnd_e, lt_e, bc_e, bnd_e, bc_e, bnd_e, lt_e]
    refine sm_L (c_tell2 _ _) (fun _ μ4 t => ?_)
    have t0 := TM.nil ν'
    have r1 := r0.tm t0
    rw [m_kindz_140 r1 (hh.tm t0), bnd_e, m_kindz_123 r1 r1.hl0, bnd_e, bc_e, bnd_e]
    refine sm_R (m_tell t0 (by decide) _) (fun _ ν3 t1 => ?_)
    have r2 := r0.tm t1
    rw [m_kindz_140 r2 (hh.tm t1), bnd_e, m_kindz_123 r2 r2.hl0, bnd_e, bc_e, bnd_e]
    refine sm_R (m_tell t1 (by simp) _) (fun _ ν4 t2 => ?_)
    rw [t.1 38 5 rfl, hcn]
    exact pr_end (hR.tell t t2 (by simp)) _
  | succ m ih =>
    intro f i cnt s μ' ν' h1 h2 I
    obtain ⟨f, rfl⟩ := Nat.exists_eq_succ_of_ne_zero (show f ≠ 0 by omega)
    have q : ¬ nI n ≤ nI i := nI_ge (by omega) (by omega)
    obtain ⟨r0, hh, oc, om, hd, hcn, hsd⟩ := I
    obtain ⟨j1, hj1, d1, e1⟩ := drawn (s := s * (1103515245 : Int32) + (12345 : Int32)) hc (show c < 1000 by omega)
    obtain ⟨j2, hj2, d2, e2⟩ := drawn (s := (s * (1103515245 : Int32) + (12345 : Int32)) * (1103515245 : Int32) + (12345 : Int32)) (show 1 ≤ 4 by omega) (show 4 < 1000 by omega)
    rw [fX11_years_0_b42, fX12_years_122_b49, if_neg q, if_neg q, r0.menM, m_draw hsd hc (by omega) e1, bnd_e, show fX12_draw_122 4 (sI ν' 122 40 (s * (1103515245 : Int32) + (12345 : Int32))) = _ from m_draw (ν := sI ν' 122 40 (s * (1103515245 : Int32) + (12345 : Int32))) (by rw [gI_sI, if_pos ⟨rfl, rfl⟩]) (show 1 ≤ 4 by omega) (show 4 < 1000 by omega) e2, bnd_e, stir, bnd_e, r0.men, d1, bnd_e, stir, bnd_e, show fX11_drawn ((s * (1103515245 : Int32) + (12345 : Int32)) * (1103515245 : Int32) + (12345 : Int32)) 4 μ' = _ from d2 μ', bnd_e]
    have om2 : Off scM ν (sI (sI ν' 122 40 (s * (1103515245 : Int32) + (12345 : Int32))) 122 40 ((s * (1103515245 : Int32) + (12345 : Int32)) * (1103515245 : Int32) + (12345 : Int32))) := (om.sI rfl).sI rfl
    have I2 : inv8 V c b B' (d + i) μ ν μ' (sI (sI ν' 122 40 (s * (1103515245 : Int32) + (12345 : Int32))) 122 40 ((s * (1103515245 : Int32) + (12345 : Int32)) * (1103515245 : Int32) + (12345 : Int32))) cnt ((s * (1103515245 : Int32) + (12345 : Int32)) * (1103515245 : Int32) + (12345 : Int32)) := ⟨r0.sm (((Off.refl _).sI rfl).sI rfl), hh.off (fun _ _ _ _ => rfl) (fun j => by rw [gne (by decide), gne (by decide)]), oc, om2, hd, hcn, by rw [gI_sI, if_pos ⟨rfl, rfl⟩]⟩
    obtain ⟨μ2, ν2, cnt', c1, c2, J⟩ := years_act hB (show d + i ≤ B' by omega) I2 hj1 hj2 (fun p2 p3 p4 m => fX12_years_122_b49 f p2 p3 p4 m) (nI n) (nI i)
    rw [c1, bnd_e, c2]
    unfold fX12_years_122_b195
    obtain ⟨k0, kh, kc, km, kd, kn, ks⟩ := J
    obtain ⟨r, μ3, u, ν3, g1, g2, g3⟩ := night_38 k0 kh hB kd (show d + i + 1 ≤ B' by omega) (e := gI μ2 0 14) rfl
    rw [g1, g2, bnd_e, bnd_e, nI_1]
    obtain ⟨-, -, n3, n4, n5, n6, n7⟩ := g3
    exact ih f (i + 1) cnt' _ μ3 ν3 (by omega) (by omega) ⟨n3, n4, kc.tr (n5.mono (fun _ _ => pC_sc)), km.tr (n6.mono (fun _ _ => pM_sc)), n7, (n5.1 38 5 rfl).trans kn, (n6.1 122 40 rfl).trans ks⟩
theorem pr_years (h : Rel V c b B μ ν) (hB : B + 3000 < 2 ^ 30) (v v2 : Int32) : Pr V c b B (fX11_years_0 v v2 μ) (fX12_years_122 v v2 ν) := by
  have h1 := m17 h 0
  have h6 := h.c6
  unfold fX11_years_0 fX12_years_122
  rw [lt_e, h.men, h1.menM]
  by_cases z : c = 0
  · subst z
    rw [if_pos (show nI 0 = 0 from rfl), if_pos (show nI 0 = 0 from rfl)]
    exact pr_end h1 _
  · have z1 : ¬ nI c = 0 := nI_ne0 (by omega) (by omega)
    rw [if_neg z1, if_neg z1, m_in, bnd_e]
    rcases rng_or v2 1 60 (lo := 1) (hi := 60) rfl rfl (by decide) (by decide) with ⟨q1, q2⟩ | ⟨q1, q3, q2⟩ | ⟨k, hk1, hk, rfl, a1, a2, a3⟩
    · rw [if_pos q1, if_pos q2, if_pos rfl]
      exact pr_end h1 _
    · rw [if_neg q1, if_neg q3, if_pos q2, if_pos rfl]
      exact pr_end h1 _
    · rw [if_neg a1, if_pos a2, if_neg a3, if_neg n10, take_38_33, bnd_e, lt_e]
      have h2 : Rel V c b B μ (sI (sI ν 122 17 0) 122 40 v) := h1.sm ((Off.refl _).sI rfl)
      obtain ⟨ν1, e1, om, oc, hh⟩ := then_hall h2
      rw [e1, bnd_e]
      obtain ⟨d, hdB, hd⟩ := dayB_38 hh
      have hT : Rel V c b B (tkM μ 33 38) ν1 := (h2.sc oc).sm om
      refine years_in (B' := B + 1500) (d := d) h2 (by omega) (by omega) hk (by omega) k FU 0 _ v _ _ (by omega) (fu_lt (by omega)) ⟨hT.r0.mono (by omega), ⟨hh.1, hh.2.mono (by omega)⟩, oc, om, hd, ?_, ?_⟩
      · unfold tkM
        rw [gI_sI, if_pos ⟨rfl, rfl⟩]
      · unfold fX12_lay_123_140 at e1
        obtain ⟨ν', f1, f2, f3, f4⟩ := mLay_123_140 (base := 0) (by omega) 27 FU 0 (sI (sI ν 122 17 0) 122 40 v) rfl (by decide)
        have : fX12_lay_123_140_b2 FU 0 0 (sI (sI ν 122 17 0) 122 40 v) = some ((), ν') := f1
        rw [this] at e1
        cases e1
        rw [f2 122 40 (by decide), gI_sI, if_pos ⟨rfl, rfl⟩]
end Pure31
