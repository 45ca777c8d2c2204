section Pure39
variable {V : VT} {c b B : Nat} {μ ν : Mem}
def KG (μ : Mem) (k p : Nat) : Int32 := if gI μ 25 k = 1 then WO μ (gI μ 10 p) else 0
theorem KG_off {P : Nat → Nat → Bool} {μ' : Mem} (o : Off P μ μ') (hp : ∀ k j, P k j = true → scC k j = true) : KG μ' = KG μ := by
  have e : ∀ k j, cc k j ≠ 0 → gI μ' k j = gI μ k j := fun k j q => (o.mono hp).1 k j (by unfold scC; simp [q])
  have e27 : gI μ' 27 = gI μ 27 := funext (fun i => e 27 i (show (3 : Nat) ≠ 0 by decide))
  funext k p
  unfold KG WO
  rw [e 25 k (show (3 : Nat) ≠ 0 by decide), e 10 p (show (1 : Nat) ≠ 0 by decide), e27]
theorem KG_nat (h : Rel V c b B μ ν) (k p : Nat) : ∃ n, n ≤ 792 ∧ KG μ k p = nI n := by
  unfold KG
  by_cases q : gI μ 25 k = 1
  · rw [if_pos q]; exact WO_nat h _
  · rw [if_neg q]; exact ⟨0, by omega, rfl⟩
theorem m_kings (h : Rel V c b B μ ν) {p : Nat} (hp : p < c) {k : Nat} (hk : k < 4) {v : Int32} (hv : v = nI (2 + k)) : fX12_kingsBy_122 (nI p) v ν = some (KG μ k p, ν) := by
  have h6 := h.c6
  unfold fX12_kingsBy_122 KG
  rw [m_whose h hk hv, bnd_e]
  by_cases q : gI μ 25 k = 1
  · rw [if_pos q, if_pos q, gd_in (by omega) (by decide), ix_nI (by omega), h.goods hp, m_worth h, bnd_e]
  · rw [if_neg q, if_neg q]
def KS (g : Nat → Int32) (dl : Nat → Bool) : Nat → Nat → Int32 → Int32
  | _, 0, a => a
  | p, m + 1, a => KS g dl (p + 1) m (a + (if dl p = true then g p else 0))
theorem KS_add (g : Nat → Int32) (dl : Nat → Bool) : ∀ (m p : Nat) (a : Int32), KS g dl p m a = a + KS g dl p m 0
  | 0, _, a => (Int32.add_zero a).symm
  | m + 1, p, a => by
    rw [KS, KS, KS_add g dl m (p + 1) (a + _), KS_add g dl m (p + 1) (0 + _), Int32.zero_add, Int32.add_assoc]
theorem KS_cg (g : Nat → Int32) {dl dl' : Nat → Bool} : ∀ (m p : Nat) (a : Int32), (∀ i, p ≤ i → i < p + m → dl i = dl' i) → KS g dl p m a = KS g dl' p m a
  | 0, _, _, _ => rfl
  | m + 1, p, a, h => by
    rw [KS, KS, h p (by omega) (by omega)]
    exact KS_cg g m (p + 1) _ (fun i h1 h2 => h i (by omega) (by omega))
theorem KS_rm (g : Nat → Int32) {dl : Nat → Bool} {q : Nat} (hq : dl q = true) : ∀ (m p : Nat), p ≤ q → q < p + m → KS g dl p m 0 = KS g (rm dl q) p m 0 + g q
  | 0, p, h1, h2 => by omega
  | m + 1, p, h1, h2 => by
    rw [KS, KS, Int32.zero_add, Int32.zero_add]
    by_cases e : p = q
    · subst e
      rw [if_pos hq, if_neg (show ¬ rm dl p p = true by unfold rm; rw [decide_eq_true rfl]; simp), KS_add, Int32.add_comm]
      congr 1
      exact KS_cg g m (p + 1) 0 (fun i h3 h4 => by unfold rm; rw [decide_eq_false (show ¬ i = p by omega)]; simp)
    · have e2 : rm dl q p = dl p := by unfold rm; rw [decide_eq_false e]; simp
      rw [e2, KS_add, KS_add g (rm dl q), KS_rm g hq m (p + 1) (by omega) (by omega), Int32.add_assoc]
theorem KS_no (g : Nat → Int32) {dl : Nat → Bool} : ∀ (m p : Nat) (a : Int32), (∀ i, p ≤ i → i < p + m → dl i = false) → KS g dl p m a = a
  | 0, _, _, _ => rfl
  | m + 1, p, a, h => by
    rw [KS, h p (by omega) (by omega), if_neg (by decide), Int32.add_zero]
    exact KS_no g m (p + 1) a (fun i h1 h2 => h i (by omega) (by omega))
theorem KS_split (g : Nat → Int32) (dl : Nat → Bool) (n : Nat) : ∀ (m p : Nat) (a : Int32), KS g dl p (m + n) a = KS g dl (p + m) n (KS g dl p m a)
  | 0, p, a => by rw [Nat.zero_add]; rfl
  | m + 1, p, a => by
    rw [show m + 1 + n = (m + n) + 1 by omega, KS, KS_split g dl n m (p + 1), KS, show p + 1 + m = p + (m + 1) by omega]
theorem KS_nat {g : Nat → Int32} (hg : ∀ i, ∃ k, k ≤ 792 ∧ g i = nI k) (dl : Nat → Bool) : ∀ (m p a : Nat), ∃ n, n ≤ a + 792 * m ∧ KS g dl p m (nI a) = nI n
  | 0, _, a => ⟨a, by omega, rfl⟩
  | m + 1, p, a => by
    rw [KS]
    by_cases q : dl p = true
    · obtain ⟨k, hk, e⟩ := hg p
      rw [if_pos q, e, nI_add]
      obtain ⟨n, h1, h2⟩ := KS_nat hg dl m (p + 1) (a + k)
      exact ⟨n, by omega, h2⟩
    · rw [if_neg q, Int32.add_zero]
      obtain ⟨n, h1, h2⟩ := KS_nat hg dl m (p + 1) a
      exact ⟨n, by omega, h2⟩
theorem mKS (h : Rel V c b B μ ν) (dl : Nat → Bool) : ∀ (m f p : Nat) (a : Int32), p + m = c → m < f → fX12_kingsOf_122_b4 f (nI (bN dl c)) a (nI p) ν = some (KS (KG μ 3) dl p m a, ν) := by
  have h6 := h.c6
  intro m
  induction m with
  | zero =>
    intro f p a h1 h2
    obtain ⟨f, rfl⟩ := Nat.exists_eq_succ_of_ne_zero (show f ≠ 0 by omega)
    rw [fX12_kingsOf_122_b4, h.menM, if_pos (nI_le (by omega) (by omega))]
    rfl
  | succ m ih =>
    intro f p a h1 h2
    obtain ⟨f, rfl⟩ := Nat.exists_eq_succ_of_ne_zero (show f ≠ 0 by omega)
    rw [fX12_kingsOf_122_b4, h.menM, if_neg (nI_ge (by omega) (by omega)), has_bN h6 (by omega), bnd_e, nI_1, KS]
    by_cases q : dl p = true
    · rw [if_pos q, if_pos q, if_neg n10, m_kings h (by omega) (show 3 < 4 by omega) (v := 5) rfl, bnd_e, lt_e]
      exact ih f (p + 1) _ (by omega) (by omega)
    · rw [if_neg q, if_neg q, if_pos rfl, lt_e]
      exact ih f (p + 1) _ (by omega) (by omega)
theorem cKS (v : Int32) : ∀ (m f p : Nat) (a : Int32), p + m = 6 → m < f → fX10_findMostForKing_31_b9 f v a (nI p) μ = bnd (fX10_find_31 v (KS (KG μ 3) (fun i => decide (gI μ 34 i = 1)) p m a) μ) fun _ m3 => some ((), m3) := by
  intro m
  induction m with
  | zero =>
    intro f p a h1 h2
    obtain ⟨f, rfl⟩ := Nat.exists_eq_succ_of_ne_zero (show f ≠ 0 by omega)
    rw [fX10_findMostForKing_31_b9, if_pos (show (6 : Int32) ≤ nI p from nI_le (a := 6) (by omega) (by omega))]
    rfl
  | succ m ih =>
    intro f p a h1 h2
    obtain ⟨f, rfl⟩ := Nat.exists_eq_succ_of_ne_zero (show f ≠ 0 by omega)
    rw [fX10_findMostForKing_31_b9, if_neg (show ¬ (6 : Int32) ≤ nI p from nI_ge (b := 6) (by omega) (by decide)), KS]
    unfold fX10_isPleaded_31
    rw [gd_in (by omega) (by decide), ix_nI (by omega), nI_1]
    by_cases q : gI μ 34 p = 1
    · rw [if_pos q, if_pos (decide_eq_true q), bnd_e, if_neg n10, show fX2_has_24 (nI p) 5 1 μ = _ from c_has (k := 3) (by omega) (by decide) 1, bnd_e, lt_e]
      exact ih f (p + 1) _ (by omega) (by omega)
    · rw [if_neg q, if_neg (by simp [q]), bnd_e, if_pos rfl, lt_e]
      exact ih f (p + 1) _ (by omega) (by omega)
theorem docket_idle (h : Rel V c b B μ ν) {d e : Nat} (hd : gI μ 33 4 = nI d) (he : gI μ 0 14 = nI e) (hdB : d < 2 ^ 30) (he9 : e ≤ 99) (rc : Int32 → Int32 → Int32 → Mem → Option (Unit × Mem)) {k : Nat} (hk : k ≤ 6) (s : Int32) {dl : Nat → Bool} (hn : ∀ p, p < c → dl p = true → ¬ (e ≤ d ∨ d + k < e)) : ∀ (m f p : Nat), p + m = c → m < f → fX12_goDocket_122_b49 rc f (nI (bN dl c)) (nI k) s (nI p) ν = some ((), ν) := by
  have h6 := h.c6
  intro m
  induction m with
  | zero =>
    intro f p h1 h2
    obtain ⟨f, rfl⟩ := Nat.exists_eq_succ_of_ne_zero (show f ≠ 0 by omega)
    rw [fX12_goDocket_122_b49, h.menM, if_pos (nI_le (by omega) (by omega))]
  | succ m ih =>
    intro f p h1 h2
    obtain ⟨f, rfl⟩ := Nat.exists_eq_succ_of_ne_zero (show f ≠ 0 by omega)
    have go := ih f (p + 1) (by omega) (by omega)
    rw [fX12_goDocket_122_b49, h.menM, if_neg (nI_ge (by omega) (by omega)), has_bN h6 (by omega), bnd_e, nI_1]
    by_cases q : dl p = true
    · rw [if_pos q, if_neg n10, m_ahead h hd he hdB he9 (by omega), bnd_e, if_neg (hn p (by omega) q), if_pos rfl]
      exact go
    · rw [if_neg q, if_pos rfl]
      exact go
theorem docket_lock (h : Rel V c b B μ ν) {d e : Nat} (hd : gI μ 33 4 = nI d) (he : gI μ 0 14 = nI e) (hdB : d < 2 ^ 30) (he9 : e ≤ 99) {k u : Nat} (hk : k < 6) {dl : Nat → Bool} (hu : ULr c (fun i => decide (gI μ 34 i = 1)) u dl) (ha : e ≤ d ∨ d + k < e) (w s : Int32)
    (rC rM : Int32 → Int32 → Int32 → Mem → Option (Unit × Mem))
    (hrec : ∀ p, p < c → dl p = true → ∀ kk, kk < 4 → ∀ μ' ν', TS true (nI (dayL d e)) μ ν (k + 1) μ' ν' → Sm (fun _ μ'' _ ν'' => TS true (nI (dayL d e)) μ ν (k + 1) μ'' ν'') (rC (nI (k + 1)) (nI (u ||| 2 ^ p)) (w + (KG μ kk p - KG μ 3 p)) μ') (rM (nI (bN (rm dl p) c)) (nI (k + 1)) (s + KG μ kk p) ν')) :
    ∀ (m f f' p : Nat) (μ' ν' : Mem), p + m = c → 6 < p + f → m < f' → TS true (nI (dayL d e)) μ ν k μ' ν' → Sm (fun _ μ'' _ ν'' => TS true (nI (dayL d e)) μ ν k μ'' ν'') (fX10_goOn_31_b66 rC f (nI k) (nI u) w (nI p) μ') (fX12_goDocket_122_b49 rM f' (nI (bN dl c)) (nI k) s (nI p) ν') := by
  have h6 := h.c6
  intro m
  induction m with
  | zero =>
    intro f f' p μ' ν' h1 h2 h3 t
    obtain ⟨f', rfl⟩ := Nat.exists_eq_succ_of_ne_zero (show f' ≠ 0 by omega)
    have h' := t.rel h
    rw [c_passes h' rC (t.ul hu) (nI k) w (6 - p) f p (by omega) (by omega) (by omega), fX12_goDocket_122_b49, h'.menM, if_pos (nI_le (by omega) (by omega))]
    exact sm_end t
  | succ m ih =>
    intro f f' p μ' ν' h1 h2 h3 t
    obtain ⟨f, rfl⟩ := Nat.exists_eq_succ_of_ne_zero (show f ≠ 0 by omega)
    obtain ⟨f', rfl⟩ := Nat.exists_eq_succ_of_ne_zero (show f' ≠ 0 by omega)
    have h' := t.rel h
    have hd' := (t.1.1 33 4 rfl).trans hd
    have he' := (t.1.1 0 14 rfl).trans he
    rw [fX12_goDocket_122_b49, h'.menM, if_neg (nI_ge (by omega) (by omega)), has_bN h6 (by omega), bnd_e]
    by_cases q : dl p = true
    · have t1 := t.turn (nI p)
      have h1' := t1.rel h
      have kg := KG_off t1.1 (fun _ _ => wT_sc)
      have hv : ∃ kk, kk < 4 ∧ (if PF_33 b μ (nI p) (nI k) < 100 then (3 : Int32) else 4) = nI (2 + kk) := by
        by_cases q : PF_33 b μ (nI p) (nI k) < 100
        · exact ⟨1, by omega, by rw [if_pos q]; rfl⟩
        · exact ⟨2, by omega, by rw [if_neg q]; rfl⟩
      obtain ⟨kk, hkk, hv⟩ := hv
      rw [c_free h' rC (t.ul hu) (by omega) (by rw [q, decide_eq_true (show p < c by omega)]; rfl), if_pos q, if_neg n10, m_ahead h' hd' he' hdB he9 (by omega), bnd_e, if_pos ha, if_neg n10, gd_in hk (by decide), ix_nI (by omega), lt_e, m_proof_123 h1' h1'.hl0, bnd_e, m_ending, bnd_e, PF_off t1.1 (fun _ _ => wT_sc), PF_off t.1 (fun _ _ => wT_sc), hv, m_kings h1' (by omega) hkk rfl, bnd_e, kg]
      unfold fX10_goOn_31_b117
      rw [if_neg n10, t.2.2.2.1, if_pos rfl, if_neg n10]
      unfold fX10_goOn_31_b137 fX10_gainOf_31
      rw [gd_in hk (by decide), ix_nI (by omega), lt_e, t1.2.2.2.1, if_pos rfl, if_neg n10, c_has (by omega) hkk, bnd_e, show fX2_has_24 (nI p) 5 1 (sI μ' 119 k (nI p)) = _ from c_has (k := 3) (by omega) (by decide) 1, bnd_e, bnd_e, nI_1, bN_rm (by omega) (by omega), shl1 p (by omega), nI_or]
      have g1 : (if gI (sI μ' 119 k (nI p)) 25 kk = 1 then WO (sI μ' 119 k (nI p)) (gI (sI μ' 119 k (nI p)) 10 p) else 0) = KG μ kk p := congrFun (congrFun kg kk) p
      have g2 : (if gI (sI μ' 119 k (nI p)) 25 3 = 1 then WO (sI μ' 119 k (nI p)) (gI (sI μ' 119 k (nI p)) 10 p) else 0) = KG μ 3 p := congrFun (congrFun kg 3) p
      rw [g1, g2]
      refine sm_bnd (hrec p (by omega) q kk hkk _ _ t1) (fun _ μ1 _ ν1 t2 => ?_)
      rw [nI_1]
      exact ih f f' (p + 1) μ1 ν1 (by omega) (by omega) (by omega) t2.less
    · have q' : dl p = false := by simpa using q
      rw [c_pass h' rC (t.ul hu) (by omega) (by rw [q', Bool.and_false]), if_neg q, if_pos rfl, nI_1]
      exact ih f f' (p + 1) μ' ν' (by omega) (by omega) (by omega) t
theorem docket_node (h : Rel V c b B μ ν) {D : Int32} {k u fc fm : Nat} (hk : k ≤ 6) {dl : Nat → Bool} {w s : Int32} (hw : w = s + KS (KG μ 3) dl 0 c 0) {μ' ν' : Mem} (t : TS true D μ ν k μ' ν')
    (hl : ∀ μ1 ν1, TS true D μ ν k μ1 ν1 → Sm (fun _ μ'' _ ν'' => TS true D μ ν k μ'' ν'') (fX10_goOn_31_b48 (fun v1 v2 v3 m => fX10_goOn_31 fc v1 v2 v3 m) (nI k) (nI u) w μ1) (fX12_goDocket_122_b49 (fun v1 v2 v3 m => fX12_goDocket_122 fm v1 v2 v3 m) FU (nI (bN dl c)) (nI k) s 0 ν1)) :
    Sm (fun _ μ'' _ ν'' => TS true D μ ν k μ'' ν'') (fX10_goOn_31 (fc + 1) (nI k) (nI u) w μ') (fX12_goDocket_122 (fm + 1) (nI (bN dl c)) (nI k) s ν') := by
  have h' := t.rel h
  have h6 := h.c6
  rw [fX10_goOn_31, fX12_goDocket_122]
  unfold fX10_goOn_31_r fX12_goDocket_122_r fX12_kingsOf_122
  rw [show fX12_kingsOf_122_b4 FU (nI (bN dl c)) 0 0 ν' = _ from mKS h' dl c FU 0 0 (by omega) (fu_lt (by omega)), bnd_e, lt_e, KG_off t.1 (fun _ _ => wT_sc), ← hw]
  obtain ⟨L, l1, l2, l3, l4, l5⟩ := t.2.2.2.2.2
  rw [if_pos rfl] at l5
  rw [l5, l3, l2]
  have keep : Sm (fun _ μ'' _ ν'' => TS true D μ ν k μ'' ν'') (fX10_goOn_31_b24 (fun v1 v2 v3 m => fX10_goOn_31 fc v1 v2 v3 m) (nI k) (nI u) w μ') (fX12_goDocket_122_b35 (fun v1 v2 v3 m => fX12_goDocket_122 fm v1 v2 v3 m) (nI (bN dl c)) (nI k) s w ν') := by
    unfold fX12_goDocket_122_b35
    obtain ⟨ν1, a1, a2, a3, a4, a5⟩ := m_keepLine hk (sI ν' 122 38 w)
    rw [lt_e, a1, bnd_e, c_keepC _ hk]
    refine hl _ _ (t.keep hk (((Off.refl _).sI rfl).tr a2) a3 (fun j => (a4 j).2) a5 ?_)
    rw [if_pos rfl, (a4 0).1, gI_sI, if_pos ⟨rfl, rfl⟩]
  by_cases q : gI ν' 122 38 < w
  · rw [if_pos q, if_pos q]
    exact keep
  · rw [if_neg q, if_neg q]
    by_cases g : w = gI ν' 122 38
    · rw [if_pos g, if_pos g]
      by_cases r : nI L ≤ nI k
      · rw [if_pos r, if_pos r]; exact hl _ _ t
      · rw [if_neg r, if_neg r]; exact keep
    · rw [if_neg g, if_neg g]
      exact hl _ _ t
theorem docket_loop (h : Rel V c b B μ ν) {d e : Nat} (hd : gI μ 33 4 = nI d) (he : gI μ 0 14 = nI e) (hdB : d < 2 ^ 30) (he9 : e ≤ 99) : ∀ (j k u fc fm : Nat) (dl : Nat → Bool) (w s : Int32) (μ' ν' : Mem), CN dl c = j → k + j ≤ c → ULr c (fun i => decide (gI μ 34 i = 1)) u dl → w = s + KS (KG μ 3) dl 0 c 0 → j ≤ fc → j ≤ fm → TS true (nI (dayL d e)) μ ν k μ' ν' → Sm (fun _ μ'' _ ν'' => TS true (nI (dayL d e)) μ ν k μ'' ν'') (fX10_goOn_31_b48 (fun v1 v2 v3 m => fX10_goOn_31 fc v1 v2 v3 m) (nI k) (nI u) w μ') (fX12_goDocket_122_b49 (fun v1 v2 v3 m => fX12_goDocket_122 fm v1 v2 v3 m) FU (nI (bN dl c)) (nI k) s 0 ν') := by
  have h6 := h.c6
  intro j
  induction j with
  | zero =>
    intro k u fc fm dl w s μ' ν' hj hkj hu hw hfc hfm t
    have h' := t.rel h
    have no : ∀ p, p < c → ¬ dl p = true := fun p hp q => by have := CN_pos q hp; omega
    rw [show fX12_goDocket_122_b49 (fun v1 v2 v3 m => fX12_goDocket_122 fm v1 v2 v3 m) FU (nI (bN dl c)) (nI k) s 0 ν' = _ from docket_idle h' ((t.1.1 33 4 rfl).trans hd) ((t.1.1 0 14 rfl).trans he) hdB he9 _ (show k ≤ 6 by omega) s (fun p hp q => absurd q (no p hp)) c FU 0 (by omega) (fu_lt (by omega))]
    unfold fX10_goOn_31_b48
    rw [t.2.2.1]
    by_cases g : nI (dayL d e) ≤ nI k
    · rw [if_pos g]; exact sm_end t
    · rw [if_neg g]
      by_cases g2 : nI k < 6
      · rw [if_pos g2]
        have : ∀ (m f p : Nat), p + m = 6 → m < f → fX10_goOn_31_b66 (fun v1 v2 v3 m => fX10_goOn_31 fc v1 v2 v3 m) f (nI k) (nI u) w (nI p) μ' = some ((), μ') := by
          intro m
          induction m with
          | zero => exact fun f p h1 h2 => c_passes h' _ (t.ul hu) _ _ 0 f p h1 h2 (by omega)
          | succ m ih =>
            intro f p h1 h2
            obtain ⟨f, rfl⟩ := Nat.exists_eq_succ_of_ne_zero (show f ≠ 0 by omega)
            have nf : (decide (p < c) && dl p) = false := by
              by_cases hp : p < c
              · have := no p hp
                simp [this]
              · rw [decide_eq_false hp]; rfl
            rw [c_pass h' _ (t.ul hu) (by omega) nf]
            exact ih f (p + 1) (by omega) (by omega)
        rw [show fX10_goOn_31_b66 (fun v1 v2 v3 m => fX10_goOn_31 fc v1 v2 v3 m) FU (nI k) (nI u) w 0 μ' = _ from this 6 FU 0 rfl (by decide)]
        exact sm_end t
      · rw [if_neg g2]; exact sm_end t
  | succ j ih =>
    intro k u fc fm dl w s μ' ν' hj hkj hu hw hfc hfm t
    have h' := t.rel h
    have hk : k < 6 := by omega
    obtain ⟨fc, rfl⟩ := Nat.exists_eq_succ_of_ne_zero (show fc ≠ 0 by omega)
    obtain ⟨fm, rfl⟩ := Nat.exists_eq_succ_of_ne_zero (show fm ≠ 0 by omega)
    have d6 := dayL_6 d e
    unfold fX10_goOn_31_b48
    rw [t.2.2.1]
    by_cases g : dayL d e ≤ k
    · rw [if_pos (nI_le g (by omega))]
      rw [show fX12_goDocket_122_b49 (fun v1 v2 v3 m => fX12_goDocket_122 (fm + 1) v1 v2 v3 m) FU (nI (bN dl c)) (nI k) s 0 ν' = _ from docket_idle h' ((t.1.1 33 4 rfl).trans hd) ((t.1.1 0 14 rfl).trans he) hdB he9 _ (show k ≤ 6 by omega) s (fun p hp q z => by have := (dayL_iff (d := d) (e := e) hk).mpr z; omega) c FU 0 (by omega) (fu_lt (by omega))]
      exact sm_end t
    · rw [if_neg (nI_ge (by omega) (by omega)), if_pos (show nI k < (6 : Int32) from nI_lt (b := 6) hk (by decide))]
      refine docket_lock h hd he hdB he9 hk hu ((dayL_iff hk).mp (by omega)) w s _ _ (fun p hp q kk hkk μ1 ν1 t1 => ?_) c FU FU 0 μ' ν' (by omega) (by decide) (fu_lt (by omega)) t
      have cr := CN_rm q c hp
      have kr := KS_rm (KG μ 3) q c 0 (Nat.zero_le _) (by omega)
      have hw' : w + (KG μ kk p - KG μ 3 p) = (s + KG μ kk p) + KS (KG μ 3) (rm dl p) 0 c 0 := by
        rw [hw, kr]
        grind
      exact docket_node h (by omega) hw' t1 (fun μ2 ν2 t2 => ih (k + 1) (u ||| 2 ^ p) fc fm (rm dl p) _ _ μ2 ν2 (by omega) (by omega) (hu.step (by omega)) hw' (by omega) (by omega) t2)
theorem pr_docket (h : Rel V c b B μ ν) (hB : B + 1000 < 2 ^ 30) : Pr V c b B (fX11_docket_0 μ) (fX12_docket_122 ν) := by
  have h1 := m17 h 0
  have h6 := h.c6
  obtain ⟨d, hdB, hd⟩ := dayB_33 h.hl0
  obtain ⟨e, -, he9, he⟩ := h.end99
  have oc : Off wT μ (sI μ 31 5 1) := (Off.refl _).sI rfl
  have kg := KG_off oc (fun _ _ => wT_sc)
  obtain ⟨K, hK, eK⟩ := KS_nat (KG_nat h 3) (fun i => decide (gI μ 34 i = 1)) c 0 0
  have eK' : KS (KG μ 3) (fun i => decide (gI μ 34 i = 1)) 0 6 0 = nI K := by
    have := KS_split (KG μ 3) (fun i => decide (gI μ 34 i = 1)) (6 - c) c 0 0
    rw [show c + (6 - c) = 6 by omega] at this
    rw [this, KS_no]
    · exact eK
    · intro i q1 q2
      rw [st0_33 h.hl0 (by omega) (by omega)]; rfl
  unfold fX11_docket_0 fX12_docket_122 fX10_findMostForKing_31 fX11_tellTurns_0 fX12_tellLine_122
  simp only [lt_e]
  rw [c_days h hd he (by omega) he9, bnd_e, show fX10_findMostForKing_31_b9 FU (if e ≤ d then 1000 else nI (e - d)) 0 0 (sI μ 31 5 1) = _ from cKS (μ := sI μ 31 5 1) _ 6 FU 0 0 rfl (by decide), kg, show KS (KG μ 3) (fun i => decide (gI (sI μ 31 5 1) 34 i = 1)) 0 6 0 = nI K from eK']
  unfold fX10_find_31
  simp only [lt_e]
  rw [dayL_e he9]
  have o2 : Off wU (sI ν 122 17 0) (sI (sI ν 122 17 0) 122 38 (-1)) := (Off.refl _).sI rfl
  have h2 : Rel V c b B μ (sI (sI ν 122 17 0) 122 38 (-1)) := Off.rm h1 o2 (fun _ _ => wU_sc)
  rw [m_kind_123 h2 h2.hl0, bnd_e, KD_bN_33 h6]
  obtain ⟨ν1, a1, a2, a3, a4, a5⟩ := m_keepLine (show 0 ≤ 6 by omega) (sI (sI (sI ν 122 17 0) 122 38 (-1)) 122 38 (nI K))
  have t : TS true (nI (dayL d e)) μ (sI ν 122 17 0) 0 (sI (sI (sI (sI μ 31 5 1) 31 4 (nI (dayL d e))) 31 1 0) 31 2 (nI K)) ν1 := by
    refine ⟨((((Off.refl _).sI rfl).sI rfl).sI rfl).sI rfl, (o2.sI rfl).tr a2, rfl, rfl, fun i hi => absurd hi (Nat.not_lt_zero _), 0, by omega, rfl, a3, fun i hi => absurd hi (Nat.not_lt_zero _), ?_⟩
    rw [if_pos rfl, (a4 0).1, gI_sI, if_pos ⟨rfl, rfl⟩, gI_sI, if_pos ⟨rfl, rfl⟩]
  have hu : ULr c (fun i => decide (gI μ 34 i = 1)) 0 (fun i => decide (gI μ 34 i = 1)) := ⟨by decide, fun i hi => by
    rw [Nat.zero_testBit]
    show (decide (gI μ 34 i = 1) && !false) = (decide (i < c) && decide (gI μ 34 i = 1))
    by_cases q : i < c
    · rw [decide_eq_true q]; simp
    · rw [st0_33 h.hl0 (by omega) hi, decide_eq_false q]; rfl⟩
  have cl := CN_le (fun i => decide (gI μ 34 i = 1)) c
  have W := docket_loop h1 hd he (by omega) he9 (CN (fun i => decide (gI μ 34 i = 1)) c) 0 0 99 99 (fun i => decide (gI μ 34 i = 1)) (nI K) 0 _ ν1 rfl (by omega) hu (by rw [Int32.zero_add]; exact eK.symm) (by omega) (by omega) t
  obtain ⟨r1, μ1, r2, ν2, e1, e2, t1⟩ := W
  have r1e : fX10_goOn_31 FR 0 0 (nI K) (sI (sI (sI (sI μ 31 5 1) 31 4 (nI (dayL d e))) 31 1 0) 31 2 (nI K)) = some (r1, μ1) := by
    show fX10_goOn_31 (99 + 1) 0 0 (nI K) _ = _
    rw [fX10_goOn_31]
    unfold fX10_goOn_31_r
    rw [show gI (sI (sI (sI (sI μ 31 5 1) 31 4 (nI (dayL d e))) 31 1 0) 31 2 (nI K)) 31 2 = nI K from rfl, if_neg (nI_nlt (Nat.le_refl _) (by omega)), if_pos rfl, show gI (sI (sI (sI (sI μ 31 5 1) 31 4 (nI (dayL d e))) 31 1 0) 31 2 (nI K)) 31 1 = 0 from rfl, if_pos (by decide)]
    exact e1
  have neg : (-1 : Int32) < nI K := by
    rw [i_lt, nI_toInt (by omega)]
    have : (-1 : Int32).toInt = -1 := by decide
    omega
  have r2e : fX12_goDocket_122 FR (nI (bN (fun i => decide (gI μ 34 i = 1)) c)) 0 0 (sI (sI ν 122 17 0) 122 38 (-1)) = some (r2, ν2) := by
    show fX12_goDocket_122 (99 + 1) _ 0 0 _ = _
    rw [fX12_goDocket_122]
    unfold fX12_goDocket_122_r fX12_kingsOf_122 fX12_goDocket_122_b35
    rw [show fX12_kingsOf_122_b4 FU (nI (bN (fun i => decide (gI μ 34 i = 1)) c)) 0 0 (sI (sI ν 122 17 0) 122 38 (-1)) = _ from mKS h2 (fun i => decide (gI μ 34 i = 1)) c FU 0 0 (by omega) (fu_lt (by omega)), bnd_e, lt_e, Int32.zero_add, show KS (KG μ 3) (fun i => decide (gI μ 34 i = 1)) 0 c 0 = nI K from eK, show gI (sI (sI ν 122 17 0) 122 38 (-1)) 122 38 = -1 from rfl, if_pos neg, lt_e, show fX12_keepLine_122 0 (sI (sI (sI ν 122 17 0) 122 38 (-1)) 122 38 (nI K)) = _ from a1, bnd_e]
    exact e2
  rw [r1e, r2e]
  simp only [bnd_e]
  have h3 := t1.rel h1
  obtain ⟨L, l1, l2, l3, l4, l5⟩ := t1.2.2.2.2.2
  obtain ⟨r3, μ2, ec, c2⟩ := c_clear (μ := μ1)
  rw [ec, bnd_e]
  refine sm_bnd (turns_tell (fk := true) (D := 0) (μ0 := μ) (ν0 := ν) (k := 0) h3 l1 l2 l3 l4 L FU 0 μ2 _ [] (by omega) (fu_lt (by omega)) rfl c2 (TM.nil _)) (fun _ μ3 _ ν3 q => ?_)
  obtain ⟨l', q1, q2, q3⟩ := q
  refine sm_end ⟨?_, h3.tell q2 q3 q1⟩
  rw [q3.1 122 38 rfl, q2.1 31 2 rfl, l5, if_pos rfl]
end Pure39
