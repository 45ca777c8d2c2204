section Pure66
variable {V V' : VT} {c b B : Nat} {μ ν μ' ν' : Mem}
theorem Rel.rule (h : Rel V c b B μ ν) (o : ∀ k j, xC 9 k j = false → gI μ' k j = gI μ k j) (o' : ∀ k j, xM 9 k j = false → gI ν' k j = gI ν k j) (l : ∀ j, gL μ' 4 j = gL μ 4 j) (l' : ∀ j, gL ν' 134 j = gL ν 134 j) (n : Ru V' μ' ν') : Rel V' c b B μ' ν' :=
  have f : ∀ Y, Y ≠ 0 → Y ≠ 9 → ∀ k j, cc k j = Y → gI μ' k j = gI μ k j := fun Y hY hn => xC_at hY hn o
  have e : ∀ Y, Y ≠ 0 → Y ≠ 9 → ∀ k j, mc k j = Y → gI ν' k j = gI ν k j := fun Y hY hn => xM_at hY hn o'
  ⟨h.1.cg (f 1 (by decide) (by decide)) (e 1 (by decide) (by decide)), h.2.1.cg (f 2 (by decide) (by decide)) (e 2 (by decide) (by decide)), h.2.2.1.cg (f 3 (by decide) (by decide)) (e 3 (by decide) (by decide)), h.2.2.2.1.cg (f 4 (by decide) (by decide)) (e 4 (by decide) (by decide)), h.2.2.2.2.1.cg (f 5 (by decide) (by decide)) (e 5 (by decide) (by decide)), h.2.2.2.2.2.1.cg (f 6 (by decide) (by decide)) (e 6 (by decide) (by decide)) l l', h.2.2.2.2.2.2.1.cg (f 7 (by decide) (by decide)) (e 7 (by decide) (by decide)), h.2.2.2.2.2.2.2.1.cg (f 8 (by decide) (by decide)) (e 8 (by decide) (by decide)), n⟩
theorem m_leftV {c : List Nat} {s : Nat → Nat} {n : Nat} (hn : n ≤ 40) (hs : ∀ j, j < n → s j < 256) (hp : 0 < n → pEx s (min n 40) (pT s (min n 40) 4) 0 = .inr (n, c)) (h0 : n = 0 → c = []) (hne : 0 < n → c ≠ []) {ν : Mem} (h25 : gI ν 122 25 = nI n) (h36 : ∀ j, j < n → gI ν 136 j = (nI (s j)).toInt8.toInt32) {p D : Nat} (hp6 : p < 6) (hD : D < 2 ^ 30) (w x : Int32) : Ev (fun r ν'' => r = clamp (VC c (gI ν 124 p) w x (nI (D % 2)) (gI ν 125 p) (nI p)) ∧ Off w137 ν ν'') (fX12_leftOf_122 (nI p) w x (nI D) ν) := by
  have g2 : (!((2 : Int32) == 0)) = true := by decide
  have md : nI D - nI D / (2 : Int32) * (2 : Int32) = nI (D % 2) := by
    rw [show (2 : Int32) = nI 2 from rfl, nI_mod (by omega) (by decide) (by decide)]
  unfold fX12_leftOf_122 fX12_leftOf_122_b114
  rw [gd_in hp6 (by decide), gd_of g2, lt_e, md, ix_nI (by omega), h25]
  by_cases z : n = 0
  · subst z
    rw [if_pos (show nI 0 ≤ 0 by decide)]
    refine ev_end ⟨?_, Off.refl _⟩
    unfold clamp VC
    rw [if_pos (h0 rfl), Int32.mul_comm 5 x, Int32.mul_comm 4 (nI (D % 2))]
  · rw [if_neg (nI_nle (by omega) (by omega))]
    unfold fX12_begin_122_136
    simp only [gd_in hp6 (show 6 < 2 ^ 31 by decide), gd_of g2, md, gd_of (show inb (0 : Int32) 6 = true by decide), gd_of (show inb (1 : Int32) 6 = true by decide), gd_of (show inb (2 : Int32) 6 = true by decide), gd_of (show inb (3 : Int32) 6 = true by decide), gd_of (show inb (4 : Int32) 6 = true by decide), gd_of (show inb (5 : Int32) 6 = true by decide), lt_e, bnd_e, show ix (0 : Int32) = 0 from rfl, show ix (1 : Int32) = 1 from rfl, show ix (2 : Int32) = 2 from rfl, show ix (3 : Int32) = 3 from rfl, show ix (4 : Int32) = 4 from rfl, show ix (5 : Int32) = 5 from rfl]
    obtain ⟨N0, eN0⟩ : ∃ N, N = sI (sI (sI (sI (sI (sI ν 137 0 (gI ν 124 p)) 137 1 w) 137 2 x) 137 3 (nI (D % 2))) 137 4 (gI (sI (sI (sI (sI ν 137 0 (gI ν 124 p)) 137 1 w) 137 2 x) 137 3 (nI (D % 2))) 125 p)) 137 5 (nI p) := ⟨_, rfl⟩
    rw [← eN0]
    have oN0 : Off w137 ν N0 := by rw [eN0]; exact ((((((Off.refl ν).sI rfl).sI rfl).sI rfl).sI rfl).sI rfl).sI rfl
    have tN0 : ∀ j, j < 6 → gI N0 137 j = thv (gI ν 124 p) w x (nI (D % 2)) (gI ν 125 p) (nI p) j := fun j hj => by
      rw [eN0]
      obtain rfl | rfl | rfl | rfl | rfl | rfl : j = 0 ∨ j = 1 ∨ j = 2 ∨ j = 3 ∨ j = 4 ∨ j = 5 := by omega
      all_goals rfl
    have e25 : gI N0 122 25 = nI n := (oN0.1 122 25 rfl).trans h25
    have e36 : ∀ j, j < n → gI N0 136 j = (nI (s j)).toInt8.toInt32 := fun j hj => (oN0.1 136 j rfl).trans (h36 j hj)
    clear eN0
    rw [e25]
    obtain ⟨N1, eN1⟩ : ∃ N, N = sI (sI (sI (sI (sI (sI N0 122 18 136) 122 19 (nI n)) 122 20 40) 122 21 0) 122 22 (-1)) 122 26 1 := ⟨_, rfl⟩
    rw [← eN1]
    have oN1 : Off w137 N0 N1 := by rw [eN1]; exact ((((((Off.refl N0).sI rfl).sI rfl).sI rfl).sI rfl).sI rfl).sI rfl
    have pm : PM 136 s n 40 0 N1 := by rw [eN1]; exact ⟨rfl, rfl, rfl, rfl, rfl, fun j hj => e36 j hj⟩
    have rt : rdTh (thv (gI ν 124 p) w x (nI (D % 2)) (gI ν 125 p) (nI p)) N1 := fun k hk => by
      have e1 : gI N1 122 26 = 1 := by rw [eN1]; rfl
      have e2 : gI N1 137 k = gI N0 137 k := by rw [eN1]; rfl
      rw [e1, if_neg n10, e2]
      exact tN0 k hk
    have hk : OkT 136 s n 40 := ⟨Or.inr ⟨rfl, hn⟩, by omega, hs⟩
    have R := rs_held hk (good_T (s := s) (st := min n 40) 4) (rc := fX12_thing_122 FR) (dv := nI 0) (rs_thing hk FR 4 0 (Nat.le_refl _) (by unfold FR; omega)) 0 N1 _ (Nat.le_refl _) (by omega) pm rt
    rw [hp (by omega)] at R
    obtain ⟨v, N2, r1, r2, r3, r4⟩ := R
    rw [show fX12_held_122 (fX12_thing_122 FR) 0 N1 = _ from r1, bnd_e]
    refine ev_end ⟨?_, ((oN0.tr oN1).tr (r3.mono (fun k j q => ?_))).sI rfl⟩
    · unfold clamp VC
      rw [if_neg (hne (by omega)), r4 []]
      rfl
    · unfold wB at q
      simp only [Bool.and_eq_true, Bool.or_eq_true, beq_iff_eq] at q
      obtain ⟨rfl, rfl | rfl⟩ := q <;> rfl
theorem mRuleL {n : Nat} (hn : n ≤ 40) {s : Nat → Nat} (hs : ∀ j, j < n → s j < 256) : ∀ (m f i : Nat) (ν : Mem), i + m = n → m < f → (∀ j, j < n → gI ν 133 j = (nI (s j)).toInt8.toInt32) → ∃ ν', fX12_rule_122_b47 f (nI n) (nI i) ν = some (0, sI ν' 122 25 (nI n)) ∧ (∀ k j, k ≠ 136 → gI ν' k j = gI ν k j) ∧ (∀ k j, gL ν' k j = gL ν k j) ∧ ∀ j, j < n → gI ν' 136 j = if i ≤ j then (nI (s j)).toInt8.toInt32 else gI ν 136 j := by
  intro m
  induction m with
  | zero =>
    intro f i ν h1 h2 h
    obtain ⟨f, rfl⟩ := Nat.exists_eq_succ_of_ne_zero (show f ≠ 0 by omega)
    refine ⟨ν, ?_, fun _ _ _ => rfl, fun _ _ => rfl, fun j hj => by rw [if_neg (by omega)]⟩
    rw [fX12_rule_122_b47, if_pos (nI_le (by omega) (by omega)), lt_e]
  | succ m ih =>
    intro f i ν h1 h2 h
    obtain ⟨f, rfl⟩ := Nat.exists_eq_succ_of_ne_zero (show f ≠ 0 by omega)
    have e : vp_nar .byte (gI ν 133 i) = (nI (s i)).toInt8.toInt32 := by rw [h i (by omega)]; exact byte_nar _ (hs i (by omega))
    obtain ⟨ν', a1, a2, a3, a4⟩ := ih f (i + 1) (sI ν 136 i ((nI (s i)).toInt8.toInt32)) (by omega) (by omega) (fun j hj => by rw [gI_sI, if_neg (by omega)]; exact h j hj)
    refine ⟨ν', ?_, fun k j hk => ?_, fun k j => a3 k j, fun j hj => ?_⟩
    · rw [fX12_rule_122_b47, if_neg (nI_ge (by omega) (by omega)), gd_in (by omega) (by decide), gd_in (by omega) (by decide), ix_nI (by omega), lt_e, nI_1, e]
      exact a1
    · rw [a2 k j hk, gI_sI, if_neg (fun z => hk z.1)]
    · rw [a4 j hj, gI_sI]
      by_cases q : j = i
      · rw [if_neg (by omega), if_pos ⟨rfl, q⟩, if_pos (by omega), q]
      · rw [if_neg (show ¬ (136 = 136 ∧ j = i) from fun z => q z.2)]
        by_cases g : i + 1 ≤ j
        · rw [if_pos g, if_pos (by omega)]
        · rw [if_neg g, if_neg (by omega)]
def PrR (c b B : Nat) (o1 o2 : Option (Int32 × Mem)) : Prop := Sm (fun r μ' r' ν' => r' = r ∧ ∃ V, Rel V c b B μ' ν') o1 o2
theorem cp40 : ∀ k, k < 41 → cpOK 0 0 (nI k) 40 40 = true := by decide
theorem rule_done {s : Nat → Nat} {t : Nat} {cd : List Nat} (ht : t ≤ 40) (hs : ∀ j, j < t → s j < 256) (rt : RT V c b B μ ν) (dl : Dl cd μ) (hc : cd.length ≤ 40) (ok : ∀ x ∈ cd, okS1 x) (h33 : ∀ j, j < t → gI ν 133 j = (nI (s j)).toInt8.toInt32) (hp : 0 < t → pEx s (min t 40) (pT s (min t 40) 4) 0 = .inr (t, cd)) (h0 : t = 0 → cd = []) (hne : 0 < t → cd ≠ []) (hv : cd ≠ [] → ∀ th, ∃ v, Vl th cd v) : PrR c b B (bnd (fX8_read_19_1_b39 μ) fun r1 m2 => bnd (fX9_empty_1 m2) fun r3 m4 => some (r1, m4)) (fX12_rule_122_b47 FU (nI t) 0 ν) := by
  unfold fX8_read_19_1_b39 fX9_empty_1
  obtain ⟨ν1, a1, a2, a3, a4⟩ := mRuleL ht hs t FU 0 ν (by omega) (fu_lt (by omega)) h33
  rw [show fX12_rule_122_b47 FU (nI t) 0 ν = _ from a1, dl.1, gd_of (cp40 _ (by omega)), lt_e, show gI (sC μ 21 20 (ix 0) (ix 0) (ix (nI cd.length))) 19 3 = nI cd.length from dl.1, lt_e, bnd_e, lt_e, bnd_e, show ix 0 = 0 from rfl, ix_nI (by omega)]
  have k20 : ∀ j, j < cd.length → gI (sI (sI (sC μ 21 20 0 0 cd.length) 19 1 (nI cd.length)) 1 1 0) 20 j = nI (cd.getD j 0) := fun j hj => by
    rw [gI_sI, if_neg (by omega), gI_sI, if_neg (by omega), gI_sC, if_pos rfl, if_pos (by omega), Nat.zero_add, Nat.sub_zero]
    exact dl.2 j hj
  refine sm_end ⟨rfl, VC cd, Rel.rule rt (fun k j q => ?_) (fun k j q => ?_) (fun _ => rfl) (fun j => a3 134 j) ⟨fun μ'' hμ b w d n f i => ?_, fun ν'' hν p hp6 w x D hD => ?_⟩⟩
  · rw [gI_sI, gI_sI μ 1 1 k j 0]
    by_cases e : k = 1 ∧ j = 1
    · rw [if_pos e, if_pos e]
    · rw [if_neg e, if_neg e, gI_sI, if_neg, gI_sC, if_neg]
      · rintro rfl
        exact Bool.noConfusion q
      · rintro ⟨rfl, rfl⟩
        exact Bool.noConfusion q
  · rw [gI_sI, if_neg, a2 k j]
    · rintro rfl
      exact Bool.noConfusion q
    · rintro ⟨rfl, rfl⟩
      exact Bool.noConfusion q
  · exact c_worthV hc ok hv ((hμ 19 1 rfl).trans rfl) (fun j hj => (hμ 20 j rfl).trans (k20 j hj)) b w d n f i
  · refine m_leftV ht hs hp h0 hne ((hν 122 25 rfl).trans rfl) (fun j hj => ?_) hp6 hD w x
    rw [hν 136 j rfl, gI_sI, if_neg (by omega), a4 j hj, if_pos (by omega)]
theorem pr_rule (h : Rel V c b B μ ν) : PrR c b B (fX11_rule_0 μ) (fX12_rule_122 ν) := by
  have h1 := m17 h 0
  obtain ⟨s, t, μ1, ν1, ht, hk, -, ety, e1, e2, pc, pm, rt, -, -⟩ := open_both h1 (show 40 ≤ 80 by omega)
  unfold fX11_rule_0 fX8_read_19_1 fX12_rule_122
  simp only [lt_e]
  rw [ety, show fX9_open_1 (40 : Int32) μ = _ from e1, bnd_e, show fX12_beginText_122 (40 : Int32) (sI ν 122 17 0) = _ from e2, bnd_e]
  have rt1 : RT V c b B (sI μ1 19 3 0) (sI ν1 122 26 0) := (rt.oc (P := scC) ((Off.refl _).sI rfl) (fun _ _ z => z)).om (P := scM) ((Off.refl _).sI rfl) (fun _ _ z => z)
  have pc1 : PC s t 40 0 (sI μ1 19 3 0) := pc.off (P := fun a _ => a == 19) ((Off.refl _).sI rfl) (fun a j z => by rw [beq_iff_eq] at z; omega)
  have pm1 : PM 133 s t 40 0 (sI ν1 122 26 0) := ⟨pm.1, pm.2.1, pm.2.2.1, pm.2.2.2.1, pm.2.2.2.2.1, pm.2.2.2.2.2⟩
  have dl1 : Dl [] (sI μ1 19 3 0) := ⟨rfl, fun j hj => absurd hj (Nat.not_lt_zero _)⟩
  obtain ⟨M1, eM1⟩ : ∃ M, M = sI μ1 19 3 0 := ⟨_, rfl⟩
  obtain ⟨N1, eN1⟩ : ∃ M, M = sI ν1 122 26 0 := ⟨_, rfl⟩
  have f26 : gI N1 122 26 = 0 := by rw [eN1]; rfl
  rw [← eM1] at rt1 pc1 dl1 ⊢
  rw [← eN1] at rt1 pm1 ⊢
  clear eM1 eN1
  unfold fX9_isRead_1
  rw [pc1.1, pc1.2.1]
  by_cases q0 : t = 0
  · subst q0
    rw [if_pos rfl, bnd_e, if_neg n10, if_pos (show nI 0 ≤ 0 by decide)]
    unfold fX12_rule_122_b31
    rw [mRight pm1 (by omega) (by omega), if_pos (Nat.le_refl _), bnd_e, if_neg n10]
    exact rule_done (s := s) (cd := []) (by omega) (fun j hj => absurd hj (Nat.not_lt_zero _)) rt1 dl1 (by simp) (fun x hx => by simp at hx) (fun j hj => absurd hj (Nat.not_lt_zero _)) (fun z => absurd z (Nat.lt_irrefl _)) (fun _ => rfl) (fun z => absurd z (Nat.lt_irrefl _)) (fun z => absurd rfl z)
  · rw [if_neg (show ¬ nI 0 = nI t by rw [nI_eq (by omega) (by omega)]; omega), bnd_e, if_pos rfl, if_neg (nI_nle (by omega) (by omega))]
    have gT := good_T (s := s) (st := min t 40) 4
    have gx := good_ex (s := s) gT 0 (by omega)
    have C := cs_ex hk (Nat.le_refl 40) gT (rc := fX8_readsThing_19_1 FR) (dv := nI 0) (cs_thing hk (Nat.le_refl 40) 4 FR (Nat.le_refl _) (by decide)) 0 M1 [] (by omega) (by simp) pc1 dl1
    have Rr : ∀ (th : Nat → Int32) (N : Mem), PM 133 s t 40 0 N → rdTh th N → RO 133 s t 40 th N (fX12_held_122 (fX12_thing_122 FR) (nI 0) N) (pEx s (min t 40) (pT s (min t 40) 4) 0) := fun th N p r => rs_held hk gT (rc := fX12_thing_122 FR) (dv := nI 0) (rs_thing hk FR 4 0 (Nat.le_refl _) (by unfold FR; omega)) 0 N th (Nat.le_refl _) (by omega) p r
    have R := Rr (fun _ => 0) N1 pm1 (fun k _ => by rw [f26, if_pos rfl])
    unfold fX12_rule_122_b31 fX8_read_19_1_b34 fX9_wrong_1
    cases e : pEx s (min t 40) (pT s (min t 40) 4) 0 with
    | inl w =>
      rw [e] at C R gx
      obtain ⟨M2, c1, c2, c3⟩ := C
      obtain ⟨r, N2, r1, r2, r3⟩ := R
      have hw : w ≤ 80 := by have := gx.2; omega
      rw [show fX8_readsExpression_19_1 (fX8_readsThing_19_1 FR) 0 M1 = _ from c1, show fX12_held_122 (fX12_thing_122 FR) 0 N1 = _ from r1, bnd_e, bnd_e, if_pos rfl, bnd_e, bnd_e, c2, xRight (w := w) (by omega) r2, bnd_e, if_pos rfl, r2]
      unfold fX9_empty_1
      rw [lt_e, bnd_e]
      exact sm_end ⟨rfl, V, (rt1.oc c3 (fun _ _ z => wR_sc z)).om r3 (fun _ _ z => wB_sc z)⟩
    | inr q =>
      obtain ⟨a', cd⟩ := q
      rw [e] at C R gx
      obtain ⟨M2, c1, c2, c3, c4⟩ := C
      obtain ⟨v, N2, r1, r2, r3, r4⟩ := R
      obtain ⟨g1, g2, g3, g4, g5⟩ := gx
      have rt2 : RT V c b B M2 N2 := (rt1.oc c4 (fun _ _ z => wR_sc z)).om r3 (fun _ _ z => wB_sc z)
      rw [show fX8_readsExpression_19_1 (fX8_readsThing_19_1 FR) 0 M1 = _ from c1, show fX12_held_122 (fX12_thing_122 FR) 0 N1 = _ from r1, bnd_e, bnd_e, if_neg n10, bnd_e, c2.1, c2.2.1, mRight r2 (by omega) (by omega)]
      by_cases z : t = a'
      · subst z
        rw [if_pos rfl, bnd_e, if_neg n10, if_pos (Nat.le_refl _), bnd_e, if_neg n10]
        rw [List.nil_append] at c3
        refine rule_done (cd := cd) (by omega) hk.2.2 rt2 c3 (by omega) g5 r2.2.2.2.2.2 (fun _ => e) (fun y => absurd y q0) (fun _ => g4) (fun _ th => ?_)
        have R2 := Rr th (sI (sI (sI (sI (sI (sI (sI N1 122 26 1) 137 0 (th 0)) 137 1 (th 1)) 137 2 (th 2)) 137 3 (th 3)) 137 4 (th 4)) 137 5 (th 5)) ⟨pm1.1, pm1.2.1, pm1.2.2.1, pm1.2.2.2.1, pm1.2.2.2.2.1, pm1.2.2.2.2.2⟩ (fun k hk6 => by
          obtain rfl | rfl | rfl | rfl | rfl | rfl : k = 0 ∨ k = 1 ∨ k = 2 ∨ k = 3 ∨ k = 4 ∨ k = 5 := by omega
          all_goals rfl)
        rw [e] at R2
        obtain ⟨v, _, _, _, _, y⟩ := R2
        exact ⟨v, y⟩
      · rw [if_neg (by rw [nI_eq (by omega) (by omega)]; omega), bnd_e, if_pos rfl, bnd_e, bnd_e, c2.2.1, if_neg (by omega), bnd_e, if_pos rfl]
        unfold fX9_empty_1
        rw [lt_e, bnd_e]
        exact sm_end ⟨rfl, V, rt2.om (P := wB) ((Off.refl _).sI rfl) (fun _ _ => wB_sc)⟩
end Pure66
