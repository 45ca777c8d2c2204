section Pure27
variable {V : VT} {c b B : Nat} {μ ν : Mem}
def pC_33 : Nat → Nat → Bool := xC 4
def pM_123 : Nat → Nat → Bool := xM 4
def pC_38 (k j : Nat) : Bool := (Nat.ble 39 k && Nat.ble k 42) || (k == 38 && j == 4) || w22 k j
def pM_140 (k j : Nat) : Bool := k == 140 || w137 k j
theorem pC_sc {k j : Nat} (h : pC_38 k j = true) : scC k j = true := by
  unfold pC_38 at h
  simp only [Bool.or_eq_true, Bool.and_eq_true, beq_iff_eq] at h
  rcases h with (⟨h1, h2⟩ | ⟨rfl, rfl⟩) | h
  · have a := Nat.le_of_ble_eq_true h1
    have b := Nat.le_of_ble_eq_true h2
    obtain h | h | h | h : k = 39 ∨ k = 40 ∨ k = 41 ∨ k = 42 := by omega
    all_goals (subst h; rfl)
  · rfl
  · exact w22_sc h
theorem pM_sc {k j : Nat} (h : pM_140 k j = true) : scM k j = true := by
  unfold pM_140 at h
  simp only [Bool.or_eq_true, beq_iff_eq] at h
  rcases h with rfl | h
  · rfl
  · exact w137_sc h
theorem upd_33 {μ' ν' : Mem} (h : Rel0 V c b B μ ν) (o : Off pC_33 μ μ') (o' : Off pM_123 ν ν') (n : Rh c B μ' ν') : Rel0 V c b B μ' ν' := h.hall o o' n
theorem upd_38 {μ' ν' : Mem} (h : Rel0 V c b B μ ν) (o : Off pC_38 μ μ') (o' : Off pM_140 ν ν') (n : Rh2 c B μ' ν') : Rel0 V c b B μ' ν' := (h.sc (o.mono (fun _ _ => pC_sc))).sm (o'.mono (fun _ _ => pM_sc))
theorem w22p_33 {k j : Nat} (h : w22 k j = true) : pC_33 k j = true := w22_4 h
theorem w22p_38 {k j : Nat} (h : w22 k j = true) : pC_38 k j = true := by
  unfold pC_38
  rw [h, Bool.or_true]
theorem w137p_123 {k j : Nat} (h : w137 k j = true) : pM_123 k j = true := w137_4 h
theorem w137p_140 {k j : Nat} (h : w137 k j = true) : pM_140 k j = true := by
  unfold pM_140
  rw [h, Bool.or_true]
theorem bN_skip {d : Nat → Bool} {p : Nat} (h : d p = false) : bN d (p + 1) = bN d p := by
  rw [bN, h, if_neg (by decide), Nat.or_zero]
theorem bN_take {d : Nat → Bool} {p : Nat} (h : d p = true) : bN d (p + 1) = bN d p ||| 2 ^ p := by
  rw [bN, h, if_pos rfl]
theorem nw_same_33 {μ' : Mem} {k : Int32} {i : Nat} (h : gI μ' 34 i = gI μ 34 i) : nw_33 μ μ' k i = false := by
  unfold nw_33
  rw [h]
  cases decide (gI μ 34 i = k) <;> rfl
theorem Rh.w22 {μ' ν' : Mem} (h : Rh c B μ ν) (o : Off w22 μ μ') (o' : Off w137 ν ν') : Rh c B μ' ν' := h.off (fun k j hk _ => o.1 k j (by
  obtain e | e | e | e | e : k = 33 ∨ k = 34 ∨ k = 35 ∨ k = 36 ∨ k = 37 := by omega
  all_goals (subst e; rfl))) (fun j => o'.1 123 j rfl)
theorem nightA_33 (hB : B + 1000 < 2 ^ 30) {d : Nat} (hdB : d ≤ B) {Q : Int32 → Mem → Unit → Mem → Prop} {e : Int32} (K : ∀ μ' ν', Rel0 V c b B μ' ν' → Rh c B μ' ν' → Off pC_33 μ μ' → Off pM_123 ν ν' → gI μ' 33 4 = nI d → (∀ i, i < 6 → gI μ' 34 i = gI μ 34 i ∨ (gI μ 34 i = 0 ∧ gI μ' 34 i = 2)) → Sm Q (fX4_night_33_b87 FU e (nI (bN (nw_33 μ μ' 2) c)) 0 μ') (fX12_goNight_122_123_b59 FU 0 ν')) : ∀ (m f p : Nat) (μ' ν' : Mem), p + m = c → m < f → Rel0 V c b B μ' ν' → Rh c B μ' ν' → Off pC_33 μ μ' → Off pM_123 ν ν' → gI μ' 33 4 = nI d → (∀ i, i < 6 → gI μ' 34 i = gI μ 34 i ∨ (i < p ∧ gI μ 34 i = 0 ∧ gI μ' 34 i = 2)) → Sm Q (fX4_night_33_b4 f e (nI (bN (nw_33 μ μ' 2) p)) (nI p) μ') (fX12_goNight_122_123_b2 f (nI p) ν') := by
  intro m
  induction m with
  | zero =>
    intro f p μ' ν' h1 h2 h hh o o' hd hs
    obtain ⟨f, rfl⟩ := Nat.exists_eq_succ_of_ne_zero (show f ≠ 0 by omega)
    have h6 := h.c6
    have q : nI c ≤ nI p := nI_le (by omega) (by omega)
    rw [fX4_night_33_b4, fX12_goNight_122_123_b2, h.men, h.menM, if_pos q, if_pos q, show p = c by omega]
    exact K μ' ν' h hh o o' hd (fun i hi => (hs i hi).imp_right (fun z => z.2))
  | succ m ih =>
    intro f p μ' ν' h1 h2 h hh o o' hd hs
    obtain ⟨f, rfl⟩ := Nat.exists_eq_succ_of_ne_zero (show f ≠ 0 by omega)
    have h6 := h.c6
    have q : ¬ nI c ≤ nI p := nI_ge (by omega) (by omega)
    have hp : gI μ' 34 p = gI μ 34 p := (hs p (by omega)).resolve_right (fun z => absurd z.1 (Nat.lt_irrefl _))
    have next : ∀ μ2 ν2, Rel0 V c b B μ2 ν2 → Rh c B μ2 ν2 → Off pC_33 μ μ2 → Off pM_123 ν ν2 → gI μ2 33 4 = nI d → (∀ i, gI μ2 34 i = gI μ' 34 i) → Sm Q (fX4_night_33_b4 f e (nI (bN (nw_33 μ μ' 2) p)) (nI (p + 1)) μ2) (fX12_goNight_122_123_b2 f (nI (p + 1)) ν2) := by
      intro μ2 ν2 g gh go go' gd gs
      have e1 : bN (nw_33 μ μ' 2) p = bN (nw_33 μ μ2 2) (p + 1) := by
        rw [bN_skip (nw_same_33 ((gs p).trans hp))]
        refine bN_cg p (fun i _ => ?_)
        unfold nw_33
        rw [gs]
      rw [e1]
      refine ih f (p + 1) μ2 ν2 (by omega) (by omega) g gh go go' gd (fun i hi => ?_)
      rw [gs]
      exact (hs i hi).imp_right (fun z => ⟨by omega, z.2⟩)
    rw [fX4_night_33_b4, fX12_goNight_122_123_b2, h.men, h.menM, if_neg q, if_neg q, c_sil_33 (by omega), bnd_e, nI_1]
    simp (disch := omega) only [gd_in, ix_nI, a6, a12, st_33 hh, laid_33 hh, borne_33 hh]
    by_cases es : gI μ' 34 p = 0
    · rw [if_pos es, if_neg n10, if_pos es]
      obtain ⟨s, hs9, el⟩ := laid99_33 hh (show p < 6 by omega)
      by_cases z : s = 0
      · have z1 : gI μ' 35 p ≤ 0 := by rw [el, z]; decide
        have z2 : gI μ' 35 p = 0 := by rw [el, z]; rfl
        rw [if_pos z1, if_pos z2]
        exact next μ' ν' h hh o o' hd (fun _ => rfl)
      · have z1 : ¬ gI μ' 35 p ≤ 0 := by rw [el]; exact nI_nle (by omega) (by omega)
        have z2 : ¬ gI μ' 35 p = 0 := by rw [el]; exact nI_ne0 (by omega) (by omega)
        rw [if_neg z1, if_neg z2, lt_e, lt_e]
        have oa : Off pC_33 μ (sI μ' 36 p (gI μ' 36 p + 1)) := o.sI rfl
        have oa' : Off pM_123 ν (sI ν' 123 (12 + p) (gI μ' 36 p + 1)) := o'.sI rfl
        have hh1 : Rh c B (sI μ' 36 p (gI μ' 36 p + 1)) (sI ν' 123 (12 + p) (gI μ' 36 p + 1)) := hh.set (by omega) (fun j _ => hs2 (h := 33) (by omega) _ j) (hh.2.borne (by omega) _)
        have r1 : Rel0 V c b B (sI μ' 36 p (gI μ' 36 p + 1)) (sI ν' 123 (12 + p) (gI μ' 36 p + 1)) := upd_33 h ((Off.refl _).sI rfl) ((Off.refl _).sI rfl) hh1
        have d1 : gI (sI μ' 36 p (gI μ' 36 p + 1)) 33 4 = nI d := by rw [gne (by decide)]; exact hd
        rw [d1]
        refine sm_L (c_leftz_33 r1 (show p < 6 by omega) (show d < 2 ^ 30 by omega) _ _) (fun r μ2 g => ?_)
        refine sm_R (m_leftNowz_123 r1 hh1 (by omega) (show p < c by omega) d1 hdB) (fun r' ν2 g' => ?_)
        obtain ⟨rfl, o2⟩ := g
        obtain ⟨rfl, o2'⟩ := g'
        have hh2 := hh1.w22 o2 o2'
        have r2 : Rel0 V c b B μ2 ν2 := Off.zrm (Off.zrc r1 o2 (fun _ _ => w22_sc)) o2' (fun _ _ => w137_sc)
        have oc : Off pC_33 μ μ2 := oa.tr (o2.mono (fun _ _ => w22p_33))
        have oc' : Off pM_123 ν ν2 := oa'.tr (o2'.mono (fun _ _ => w137p_123))
        have d2 : gI μ2 33 4 = nI d := (o2.1 33 4 rfl).trans d1
        have s2 : ∀ i, gI μ2 34 i = gI μ' 34 i := fun i => (o2.1 34 i rfl).trans (gne (by decide))
        by_cases g : 0 < LV V (sI μ' 36 p (gI μ' 36 p + 1)) p (gI (sI μ' 36 p (gI μ' 36 p + 1)) 35 p) (gI (sI μ' 36 p (gI μ' 36 p + 1)) 36 p) d
        · rw [if_pos g, if_pos g]
          exact next μ2 ν2 r2 hh2 oc oc' d2 s2
        · rw [if_neg g, if_neg g, shl1 p (by omega), lt_e, lt_e, lt_e, nI_or]
          have hh3 : Rh c B (sI μ2 34 p (nI 2)) (sI ν2 123 p (nI 2)) := hh2.set (by omega) (fun j _ => hs0 (h := 33) (by omega) _ j) (hh2.2.st (by omega) (by omega) (by omega))
          have r3 : Rel0 V c b B (sI μ2 34 p (nI 2)) (sI ν2 123 p (nI 2)) := upd_33 r2 ((Off.refl _).sI rfl) ((Off.refl _).sI rfl) hh3
          have e1 : bN (nw_33 μ μ' 2) p ||| 2 ^ p = bN (nw_33 μ (sI μ2 34 p (nI 2)) 2) (p + 1) := by
            rw [bN_take]
            · congr 1
              refine bN_cg p (fun i hi => ?_)
              unfold nw_33
              rw [gI_sI, if_neg (by omega), s2]
            · unfold nw_33
              rw [gI_sI, if_pos ⟨rfl, rfl⟩, ← hp, es]
              rfl
          rw [e1]
          refine ih f (p + 1) _ _ (by omega) (by omega) r3 hh3 (oc.sI rfl) (oc'.sI rfl) (by rw [gne (by decide)]; exact d2) (fun i hi => ?_)
          by_cases g2 : i = p
          · subst g2
            right
            exact ⟨by omega, by rw [← hp]; exact es, by rw [gI_sI, if_pos ⟨rfl, rfl⟩]; rfl⟩
          · rw [gI_sI, if_neg (fun z => g2 z.2), s2]
            exact (hs i hi).imp_right (fun z => ⟨by omega, z.2⟩)
    · rw [if_neg es, if_pos rfl, if_neg es]
      exact next μ' ν' h hh o o' hd (fun _ => rfl)
theorem nightC_33 {μ1 : Mem} : ∀ (m f p : Nat) (μ' ν' : Mem), p + m = c → m < f → Rel0 V c b B μ' ν' → Rh c B μ' ν' → Off pC_33 μ μ' → Off pM_123 ν ν' → (∀ i, i < 6 → gI μ' 34 i = gI μ1 34 i ∨ (i < p ∧ (gI μ1 34 i = 0 ∨ gI μ1 34 i = 1) ∧ gI μ' 34 i = 5)) → Sm (fun r μ2 _ ν2 => r = nI (bN (nw_33 μ1 μ2 5) c) ∧ Rel0 V c b B μ2 ν2 ∧ Rh c B μ2 ν2 ∧ Off pC_33 μ μ2 ∧ Off pM_123 ν ν2 ∧ gI μ2 33 4 = gI μ' 33 4 ∧ ∀ i, i < 6 → gI μ2 34 i = gI μ1 34 i ∨ ((gI μ1 34 i = 0 ∨ gI μ1 34 i = 1) ∧ gI μ2 34 i = 5)) (fX4_leaveOver_33_b4 f (nI (bN (nw_33 μ1 μ' 5) p)) (nI p) μ') (fX12_goNight_122_123_b118 f (nI p) ν') := by
  intro m
  induction m with
  | zero =>
    intro f p μ' ν' h1 h2 h hh o o' hs
    obtain ⟨f, rfl⟩ := Nat.exists_eq_succ_of_ne_zero (show f ≠ 0 by omega)
    have h6 := h.c6
    have q : nI c ≤ nI p := nI_le (by omega) (by omega)
    rw [fX4_leaveOver_33_b4, fX12_goNight_122_123_b118, h.men, h.menM, if_pos q, if_pos q, show p = c by omega]
    exact sm_end ⟨rfl, h, hh, o, o', rfl, fun i hi => (hs i hi).imp_right (fun z => z.2)⟩
  | succ m ih =>
    intro f p μ' ν' h1 h2 h hh o o' hs
    obtain ⟨f, rfl⟩ := Nat.exists_eq_succ_of_ne_zero (show f ≠ 0 by omega)
    have h6 := h.c6
    have q : ¬ nI c ≤ nI p := nI_ge (by omega) (by omega)
    have hp : gI μ' 34 p = gI μ1 34 p := (hs p (by omega)).resolve_right (fun z => absurd z.1 (Nat.lt_irrefl _))
    have over : (gI μ' 34 p = 0 ∨ gI μ' 34 p = 1) → Sm (fun r μ2 _ ν2 => r = nI (bN (nw_33 μ1 μ2 5) c) ∧ Rel0 V c b B μ2 ν2 ∧ Rh c B μ2 ν2 ∧ Off pC_33 μ μ2 ∧ Off pM_123 ν ν2 ∧ gI μ2 33 4 = gI μ' 33 4 ∧ ∀ i, i < 6 → gI μ2 34 i = gI μ1 34 i ∨ ((gI μ1 34 i = 0 ∨ gI μ1 34 i = 1) ∧ gI μ2 34 i = 5)) (fX4_leaveOver_33_b34 (fun p1 p2 m => fX4_leaveOver_33_b4 f p1 p2 m) (nI (bN (nw_33 μ1 μ' 5) p)) (nI p) μ') (fX12_goNight_122_123_b139 (fun p2 m => fX12_goNight_122_123_b118 f p2 m) (nI p) ν') := by
      intro h01
      unfold fX4_leaveOver_33_b34 fX12_goNight_122_123_b139
      simp (disch := omega) only [gd_in, ix_nI, lt_e, nI_1]
      rw [shl1 p (by omega), nI_or]
      have hh3 : Rh c B (sI μ' 34 p (nI 5)) (sI ν' 123 p (nI 5)) := hh.set (by omega) (fun j _ => hs0 (h := 33) (by omega) _ j) (hh.2.st (by omega) (by omega) (by omega))
      have r3 : Rel0 V c b B (sI μ' 34 p (nI 5)) (sI ν' 123 p (nI 5)) := upd_33 h ((Off.refl _).sI rfl) ((Off.refl _).sI rfl) hh3
      have n5 : ¬ gI μ1 34 p = 5 := by
        rw [← hp]
        rcases h01 with z | z <;> rw [z] <;> decide
      have e1 : bN (nw_33 μ1 μ' 5) p ||| 2 ^ p = bN (nw_33 μ1 (sI μ' 34 p (nI 5)) 5) (p + 1) := by
        rw [bN_take]
        · congr 1
          refine bN_cg p (fun i hi => ?_)
          unfold nw_33
          rw [gI_sI, if_neg (by omega)]
        · unfold nw_33
          rw [gI_sI, if_pos ⟨rfl, rfl⟩, decide_eq_false n5]
          rfl
      rw [e1]
      have := ih f (p + 1) _ _ (by omega) (by omega) r3 hh3 (o.sI rfl) (o'.sI rfl) (fun i hi => ?_)
      · exact this
      · by_cases g2 : i = p
        · subst g2
          right
          exact ⟨by omega, by rw [← hp]; exact h01, by rw [gI_sI, if_pos ⟨rfl, rfl⟩]; rfl⟩
        · rw [gI_sI, if_neg (fun z => g2 z.2)]
          exact (hs i hi).imp_right (fun z => ⟨by omega, z.2⟩)
    rw [fX4_leaveOver_33_b4, fX12_goNight_122_123_b118, h.men, h.menM, if_neg q, if_neg q, nI_1]
    simp (disch := omega) only [gd_in, ix_nI, st_33 hh]
    by_cases z0 : gI μ' 34 p = 0
    · rw [if_pos z0, if_pos z0]
      exact over (Or.inl z0)
    · rw [if_neg z0, if_neg z0]
      by_cases z1 : gI μ' 34 p = 1
      · rw [if_pos z1, if_pos z1]
        exact over (Or.inr z1)
      · rw [if_neg z1, if_neg z1]
        have e1 : bN (nw_33 μ1 μ' 5) p = bN (nw_33 μ1 μ' 5) (p + 1) := (bN_skip (nw_same_33 hp)).symm
        rw [e1]
        exact ih f (p + 1) μ' ν' (by omega) (by omega) h hh o o' (fun i hi => (hs i hi).imp_right (fun z => ⟨by omega, z.2⟩))
theorem nw_same_38 {μ' : Mem} {k : Int32} {i : Nat} (h : gI μ' 39 i = gI μ 39 i) : nw_38 μ μ' k i = false := by
  unfold nw_38
  rw [h]
  cases decide (gI μ 39 i = k) <;> rfl
theorem Rh2.w22 {μ' ν' : Mem} (h : Rh2 c B μ ν) (o : Off w22 μ μ') (o' : Off w137 ν ν') : Rh2 c B μ' ν' := h.off (fun k j hk _ => o.1 k j (by
  obtain e | e | e | e | e : k = 38 ∨ k = 39 ∨ k = 40 ∨ k = 41 ∨ k = 42 := by omega
  all_goals (subst e; rfl))) (fun j => o'.1 140 j rfl)
theorem nightA_38 (hB : B + 1000 < 2 ^ 30) {d : Nat} (hdB : d ≤ B) {Q : Int32 → Mem → Unit → Mem → Prop} {e : Int32} (K : ∀ μ' ν', Rel0 V c b B μ' ν' → Rh2 c B μ' ν' → Off pC_38 μ μ' → Off pM_140 ν ν' → gI μ' 38 4 = nI d → (∀ i, i < 6 → gI μ' 39 i = gI μ 39 i ∨ (gI μ 39 i = 0 ∧ gI μ' 39 i = 2)) → Sm Q (fX4_night_38_b87 FU e (nI (bN (nw_38 μ μ' 2) c)) 0 μ') (fX12_goNight_122_140_b59 FU 0 ν')) : ∀ (m f p : Nat) (μ' ν' : Mem), p + m = c → m < f → Rel0 V c b B μ' ν' → Rh2 c B μ' ν' → Off pC_38 μ μ' → Off pM_140 ν ν' → gI μ' 38 4 = nI d → (∀ i, i < 6 → gI μ' 39 i = gI μ 39 i ∨ (i < p ∧ gI μ 39 i = 0 ∧ gI μ' 39 i = 2)) → Sm Q (fX4_night_38_b4 f e (nI (bN (nw_38 μ μ' 2) p)) (nI p) μ') (fX12_goNight_122_140_b2 f (nI p) ν') := by
  intro m
  induction m with
  | zero =>
    intro f p μ' ν' h1 h2 h hh o o' hd hs
    obtain ⟨f, rfl⟩ := Nat.exists_eq_succ_of_ne_zero (show f ≠ 0 by omega)
    have h6 := h.c6
    have q : nI c ≤ nI p := nI_le (by omega) (by omega)
    rw [fX4_night_38_b4, fX12_goNight_122_140_b2, h.men, h.menM, if_pos q, if_pos q, show p = c by omega]
    exact K μ' ν' h hh o o' hd (fun i hi => (hs i hi).imp_right (fun z => z.2))
  | succ m ih =>
    intro f p μ' ν' h1 h2 h hh o o' hd hs
    obtain ⟨f, rfl⟩ := Nat.exists_eq_succ_of_ne_zero (show f ≠ 0 by omega)
    have h6 := h.c6
    have q : ¬ nI c ≤ nI p := nI_ge (by omega) (by omega)
    have hp : gI μ' 39 p = gI μ 39 p := (hs p (by omega)).resolve_right (fun z => absurd z.1 (Nat.lt_irrefl _))
    have next : ∀ μ2 ν2, Rel0 V c b B μ2 ν2 → Rh2 c B μ2 ν2 → Off pC_38 μ μ2 → Off pM_140 ν ν2 → gI μ2 38 4 = nI d → (∀ i, gI μ2 39 i = gI μ' 39 i) → Sm Q (fX4_night_38_b4 f e (nI (bN (nw_38 μ μ' 2) p)) (nI (p + 1)) μ2) (fX12_goNight_122_140_b2 f (nI (p + 1)) ν2) := by
      intro μ2 ν2 g gh go go' gd gs
      have e1 : bN (nw_38 μ μ' 2) p = bN (nw_38 μ μ2 2) (p + 1) := by
        rw [bN_skip (nw_same_38 ((gs p).trans hp))]
        refine bN_cg p (fun i _ => ?_)
        unfold nw_38
        rw [gs]
      rw [e1]
      refine ih f (p + 1) μ2 ν2 (by omega) (by omega) g gh go go' gd (fun i hi => ?_)
      rw [gs]
      exact (hs i hi).imp_right (fun z => ⟨by omega, z.2⟩)
    rw [fX4_night_38_b4, fX12_goNight_122_140_b2, h.men, h.menM, if_neg q, if_neg q, c_sil_38 (by omega), bnd_e, nI_1]
    simp (disch := omega) only [gd_in, ix_nI, a6, a12, st_38 hh, laid_38 hh, borne_38 hh]
    by_cases es : gI μ' 39 p = 0
    · rw [if_pos es, if_neg n10, if_pos es]
      obtain ⟨s, hs9, el⟩ := laid99_38 hh (show p < 6 by omega)
      by_cases z : s = 0
      · have z1 : gI μ' 40 p ≤ 0 := by rw [el, z]; decide
        have z2 : gI μ' 40 p = 0 := by rw [el, z]; rfl
        rw [if_pos z1, if_pos z2]
        exact next μ' ν' h hh o o' hd (fun _ => rfl)
      · have z1 : ¬ gI μ' 40 p ≤ 0 := by rw [el]; exact nI_nle (by omega) (by omega)
        have z2 : ¬ gI μ' 40 p = 0 := by rw [el]; exact nI_ne0 (by omega) (by omega)
        rw [if_neg z1, if_neg z2, lt_e, lt_e]
        have oa : Off pC_38 μ (sI μ' 41 p (gI μ' 41 p + 1)) := o.sI rfl
        have oa' : Off pM_140 ν (sI ν' 140 (12 + p) (gI μ' 41 p + 1)) := o'.sI rfl
        have hh1 : Rh2 c B (sI μ' 41 p (gI μ' 41 p + 1)) (sI ν' 140 (12 + p) (gI μ' 41 p + 1)) := hh.set (by omega) (fun j _ => hs2 (h := 38) (by omega) _ j) (hh.2.borne (by omega) _)
        have r1 : Rel0 V c b B (sI μ' 41 p (gI μ' 41 p + 1)) (sI ν' 140 (12 + p) (gI μ' 41 p + 1)) := upd_38 h ((Off.refl _).sI rfl) ((Off.refl _).sI rfl) hh1
        have d1 : gI (sI μ' 41 p (gI μ' 41 p + 1)) 38 4 = nI d := by rw [gne (by decide)]; exact hd
        rw [d1]
        refine sm_L (c_leftz_38 r1 (show p < 6 by omega) (show d < 2 ^ 30 by omega) _ _) (fun r μ2 g => ?_)
        refine sm_R (m_leftNowz_140 r1 hh1 (by omega) (show p < c by omega) d1 hdB) (fun r' ν2 g' => ?_)
        obtain ⟨rfl, o2⟩ := g
        obtain ⟨rfl, o2'⟩ := g'
        have hh2 := hh1.w22 o2 o2'
        have r2 : Rel0 V c b B μ2 ν2 := Off.zrm (Off.zrc r1 o2 (fun _ _ => w22_sc)) o2' (fun _ _ => w137_sc)
        have oc : Off pC_38 μ μ2 := oa.tr (o2.mono (fun _ _ => w22p_38))
        have oc' : Off pM_140 ν ν2 := oa'.tr (o2'.mono (fun _ _ => w137p_140))
        have d2 : gI μ2 38 4 = nI d := (o2.1 38 4 rfl).trans d1
        have s2 : ∀ i, gI μ2 39 i = gI μ' 39 i := fun i => (o2.1 39 i rfl).trans (gne (by decide))
        by_cases g : 0 < LV V (sI μ' 41 p (gI μ' 41 p + 1)) p (gI (sI μ' 41 p (gI μ' 41 p + 1)) 40 p) (gI (sI μ' 41 p (gI μ' 41 p + 1)) 41 p) d
        · rw [if_pos g, if_pos g]
          exact next μ2 ν2 r2 hh2 oc oc' d2 s2
        · rw [if_neg g, if_neg g, shl1 p (by omega), lt_e, lt_e, lt_e, nI_or]
          have hh3 : Rh2 c B (sI μ2 39 p (nI 2)) (sI ν2 140 p (nI 2)) := hh2.set (by omega) (fun j _ => hs0 (h := 38) (by omega) _ j) (hh2.2.st (by omega) (by omega) (by omega))
          have r3 : Rel0 V c b B (sI μ2 39 p (nI 2)) (sI ν2 140 p (nI 2)) := upd_38 r2 ((Off.refl _).sI rfl) ((Off.refl _).sI rfl) hh3
          have e1 : bN (nw_38 μ μ' 2) p ||| 2 ^ p = bN (nw_38 μ (sI μ2 39 p (nI 2)) 2) (p + 1) := by
            rw [bN_take]
            · congr 1
              refine bN_cg p (fun i hi => ?_)
              unfold nw_38
              rw [gI_sI, if_neg (by omega), s2]
            · unfold nw_38
              rw [gI_sI, if_pos ⟨rfl, rfl⟩, ← hp, es]
              rfl
          rw [e1]
          refine ih f (p + 1) _ _ (by omega) (by omega) r3 hh3 (oc.sI rfl) (oc'.sI rfl) (by rw [gne (by decide)]; exact d2) (fun i hi => ?_)
          by_cases g2 : i = p
          · subst g2
            right
            exact ⟨by omega, by rw [← hp]; exact es, by rw [gI_sI, if_pos ⟨rfl, rfl⟩]; rfl⟩
          · rw [gI_sI, if_neg (fun z => g2 z.2), s2]
            exact (hs i hi).imp_right (fun z => ⟨by omega, z.2⟩)
    · rw [if_neg es, if_pos rfl, if_neg es]
      exact next μ' ν' h hh o o' hd (fun _ => rfl)
theorem nightC_38 {μ1 : Mem} : ∀ (m f p : Nat) (μ' ν' : Mem), p + m = c → m < f → Rel0 V c b B μ' ν' → Rh2 c B μ' ν' → Off pC_38 μ μ' → Off pM_140 ν ν' → (∀ i, i < 6 → gI μ' 39 i = gI μ1 39 i ∨ (i < p ∧ (gI μ1 39 i = 0 ∨ gI μ1 39 i = 1) ∧ gI μ' 39 i = 5)) → Sm (fun r μ2 _ ν2 => r = nI (bN (nw_38 μ1 μ2 5) c) ∧ Rel0 V c b B μ2 ν2 ∧ Rh2 c B μ2 ν2 ∧ Off pC_38 μ μ2 ∧ Off pM_140 ν ν2 ∧ gI μ2 38 4 = gI μ' 38 4 ∧ ∀ i, i < 6 → gI μ2 39 i = gI μ1 39 i ∨ ((gI μ1 39 i = 0 ∨ gI μ1 39 i = 1) ∧ gI μ2 39 i = 5)) (fX4_leaveOver_38_b4 f (nI (bN (nw_38 μ1 μ' 5) p)) (nI p) μ') (fX12_goNight_122_140_b118 f (nI p) ν') := by
  intro m
  induction m with
  | zero =>
    intro f p μ' ν' h1 h2 h hh o o' hs
    obtain ⟨f, rfl⟩ := Nat.exists_eq_succ_of_ne_zero (show f ≠ 0 by omega)
    have h6 := h.c6
    have q : nI c ≤ nI p := nI_le (by omega) (by omega)
    rw [fX4_leaveOver_38_b4, fX12_goNight_122_140_b118, h.men, h.menM, if_pos q, if_pos q, show p = c by omega]
    exact sm_end ⟨rfl, h, hh, o, o', rfl, fun i hi => (hs i hi).imp_right (fun z => z.2)⟩
  | succ m ih =>
    intro f p μ' ν' h1 h2 h hh o o' hs
    obtain ⟨f, rfl⟩ := Nat.exists_eq_succ_of_ne_zero (show f ≠ 0 by omega)
    have h6 := h.c6
    have q : ¬ nI c ≤ nI p := nI_ge (by omega) (by omega)
    have hp : gI μ' 39 p = gI μ1 39 p := (hs p (by omega)).resolve_right (fun z => absurd z.1 (Nat.lt_irrefl _))
    have over : (gI μ' 39 p = 0 ∨ gI μ' 39 p = 1) → Sm (fun r μ2 _ ν2 => r = nI (bN (nw_38 μ1 μ2 5) c) ∧ Rel0 V c b B μ2 ν2 ∧ Rh2 c B μ2 ν2 ∧ Off pC_38 μ μ2 ∧ Off pM_140 ν ν2 ∧ gI μ2 38 4 = gI μ' 38 4 ∧ ∀ i, i < 6 → gI μ2 39 i = gI μ1 39 i ∨ ((gI μ1 39 i = 0 ∨ gI μ1 39 i = 1) ∧ gI μ2 39 i = 5)) (fX4_leaveOver_38_b34 (fun p1 p2 m => fX4_leaveOver_38_b4 f p1 p2 m) (nI (bN (nw_38 μ1 μ' 5) p)) (nI p) μ') (fX12_goNight_122_140_b139 (fun p2 m => fX12_goNight_122_140_b118 f p2 m) (nI p) ν') := by
      intro h01
      unfold fX4_leaveOver_38_b34 fX12_goNight_122_140_b139
      simp (disch := omega) only [gd_in, ix_nI, lt_e, nI_1]
      rw [shl1 p (by omega), nI_or]
      have hh3 : Rh2 c B (sI μ' 39 p (nI 5)) (sI ν' 140 p (nI 5)) := hh.set (by omega) (fun j _ => hs0 (h := 38) (by omega) _ j) (hh.2.st (by omega) (by omega) (by omega))
      have r3 : Rel0 V c b B (sI μ' 39 p (nI 5)) (sI ν' 140 p (nI 5)) := upd_38 h ((Off.refl _).sI rfl) ((Off.refl _).sI rfl) hh3
      have n5 : ¬ gI μ1 39 p = 5 := by
        rw [← hp]
        rcases h01 with z | z <;> rw [z] <;> decide
      have e1 : bN (nw_38 μ1 μ' 5) p ||| 2 ^ p = bN (nw_38 μ1 (sI μ' 39 p (nI 5)) 5) (p + 1) := by
        rw [bN_take]
        · congr 1
          refine bN_cg p (fun i hi => ?_)
          unfold nw_38
          rw [gI_sI, if_neg (by omega)]
        · unfold nw_38
          rw [gI_sI, if_pos ⟨rfl, rfl⟩, decide_eq_false n5]
          rfl
      rw [e1]
      have := ih f (p + 1) _ _ (by omega) (by omega) r3 hh3 (o.sI rfl) (o'.sI rfl) (fun i hi => ?_)
      · exact this
      · by_cases g2 : i = p
        · subst g2
          right
          exact ⟨by omega, by rw [← hp]; exact h01, by rw [gI_sI, if_pos ⟨rfl, rfl⟩]; rfl⟩
        · rw [gI_sI, if_neg (fun z => g2 z.2)]
          exact (hs i hi).imp_right (fun z => ⟨by omega, z.2⟩)
    rw [fX4_leaveOver_38_b4, fX12_goNight_122_140_b118, h.men, h.menM, if_neg q, if_neg q, nI_1]
    simp (disch := omega) only [gd_in, ix_nI, st_38 hh]
    by_cases z0 : gI μ' 39 p = 0
    · rw [if_pos z0, if_pos z0]
      exact over (Or.inl z0)
    · rw [if_neg z0, if_neg z0]
      by_cases z1 : gI μ' 39 p = 1
      · rw [if_pos z1, if_pos z1]
        exact over (Or.inr z1)
      · rw [if_neg z1, if_neg z1]
        have e1 : bN (nw_38 μ1 μ' 5) p = bN (nw_38 μ1 μ' 5) (p + 1) := (bN_skip (nw_same_38 hp)).symm
        rw [e1]
        exact ih f (p + 1) μ' ν' (by omega) (by omega) h hh o o' (fun i hi => (hs i hi).imp_right (fun z => ⟨by omega, z.2⟩))
end Pure27
