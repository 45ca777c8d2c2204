section Pure38
variable {V : VT} {c b B : Nat} {μ ν : Mem}
theorem TS.rel {fk : Bool} {D : Int32} {μ' ν' : Mem} {k : Nat} (h : Rel V c b B μ ν) (t : TS fk D μ ν k μ' ν') : Rel V c b B μ' ν' := Off.rm (Off.rc h t.1 (fun _ _ => wT_sc)) t.2.1 (fun _ _ => wU_sc)
theorem TS.ul {fk : Bool} {D : Int32} {μ' ν' : Mem} {k u : Nat} {dl : Nat → Bool} (t : TS fk D μ ν k μ' ν') (hu : ULr c (fun i => decide (gI μ 34 i = 1)) u dl) : ULr c (fun i => decide (gI μ' 34 i = 1)) u dl := by
  have : (fun i => decide (gI μ' 34 i = 1)) = (fun i => decide (gI μ 34 i = 1)) := funext (fun i => by rw [t.1.1 34 i rfl])
  rw [this]
  exact hu
theorem c_passes (h : Rel V c b B μ ν) (rc : Int32 → Int32 → Int32 → Mem → Option (Unit × Mem)) {u : Nat} {dl : Nat → Bool} (hu : ULr c (fun i => decide (gI μ 34 i = 1)) u dl) (k w : Int32) : ∀ (m f p : Nat), p + m = 6 → m < f → c ≤ p → fX10_goOn_31_b66 rc f k (nI u) w (nI p) μ = some ((), μ) := by
  intro m
  induction m with
  | zero =>
    intro f p h1 h2 h3
    obtain ⟨f, rfl⟩ := Nat.exists_eq_succ_of_ne_zero (show f ≠ 0 by omega)
    rw [fX10_goOn_31_b66, if_pos (show (6 : Int32) ≤ nI p from nI_le (a := 6) (by omega) (by omega))]
  | succ m ih =>
    intro f p h1 h2 h3
    obtain ⟨f, rfl⟩ := Nat.exists_eq_succ_of_ne_zero (show f ≠ 0 by omega)
    rw [c_pass h rc hu (by omega) (by rw [decide_eq_false (show ¬ p < c by omega)]; rfl)]
    exact ih f (p + 1) (by omega) (by omega) (by omega)
theorem trials_idle (h : Rel V c b B μ ν) {d e : Nat} (hd : gI μ 33 4 = nI d) (he : gI μ 0 14 = nI e) (hdB : d < 2 ^ 30) (he9 : e ≤ 99) (rc : Int32 → Int32 → Mem → Option (Unit × Mem)) {k : Nat} (hk : k ≤ 6) {dl : Nat → Bool} (hn : ∀ p, p < c → dl p = true → ¬ (e ≤ d ∨ d + k < e)) : ∀ (m f p : Nat), p + m = c → m < f → fX12_goTrials_122_b15 rc f (nI (bN dl c)) (nI k) (nI p) ν = some ((), ν) := by
  have h6 := h.c6
  intro m
  induction m with
  | zero =>
    intro f p h1 h2
    obtain ⟨f, rfl⟩ := Nat.exists_eq_succ_of_ne_zero (show f ≠ 0 by omega)
    rw [fX12_goTrials_122_b15, h.menM, if_pos (nI_le (by omega) (by omega))]
  | succ m ih =>
    intro f p h1 h2
    obtain ⟨f, rfl⟩ := Nat.exists_eq_succ_of_ne_zero (show f ≠ 0 by omega)
    have go := ih f (p + 1) (by omega) (by omega)
    rw [fX12_goTrials_122_b15, h.menM, if_neg (nI_ge (by omega) (by omega)), has_bN h6 (by omega), bnd_e, nI_1]
    by_cases q : dl p = true
    · rw [if_pos q, if_neg n10, m_ahead h hd he hdB he9 (by omega), bnd_e, if_neg (hn p (by omega) q), if_pos rfl]
      exact go
    · rw [if_neg q, if_pos rfl]
      exact go
theorem trials_lock (h : Rel V c b B μ ν) {d e : Nat} (hd : gI μ 33 4 = nI d) (he : gI μ 0 14 = nI e) (hdB : d < 2 ^ 30) (he9 : e ≤ 99) {k u : Nat} (hk : k < 6) {dl : Nat → Bool} (hu : ULr c (fun i => decide (gI μ 34 i = 1)) u dl) (ha : e ≤ d ∨ d + k < e)
    (rC : Int32 → Int32 → Int32 → Mem → Option (Unit × Mem)) (rM : Int32 → Int32 → Mem → Option (Unit × Mem))
    (hrec : ∀ p, p < c → dl p = true → ∀ μ' ν', TS false (nI (dayL d e)) μ ν (k + 1) μ' ν' → Sm (fun _ μ'' _ ν'' => TS false (nI (dayL d e)) μ ν (k + 1) μ'' ν'') (rC (nI (k + 1)) (nI (u ||| 2 ^ p)) (nI (k + 1)) μ') (rM (nI (bN (rm dl p) c)) (nI (k + 1)) ν')) :
    ∀ (m f f' p : Nat) (μ' ν' : Mem), p + m = c → 6 < p + f → m < f' → TS false (nI (dayL d e)) μ ν k μ' ν' → Sm (fun _ μ'' _ ν'' => TS false (nI (dayL d e)) μ ν k μ'' ν'') (fX10_goOn_31_b66 rC f (nI k) (nI u) (nI k) (nI p) μ') (fX12_goTrials_122_b15 rM f' (nI (bN dl c)) (nI k) (nI p) ν') := by
  have h6 := h.c6
  intro m
  induction m with
  | zero =>
    intro f f' p μ' ν' h1 h2 h3 t
    obtain ⟨f', rfl⟩ := Nat.exists_eq_succ_of_ne_zero (show f' ≠ 0 by omega)
    have h' := t.rel h
    rw [c_passes h' rC (t.ul hu) (nI k) (nI k) (6 - p) f p (by omega) (by omega) (by omega), fX12_goTrials_122_b15, h'.menM, if_pos (nI_le (by omega) (by omega))]
    exact sm_end t
  | succ m ih =>
    intro f f' p μ' ν' h1 h2 h3 t
    obtain ⟨f, rfl⟩ := Nat.exists_eq_succ_of_ne_zero (show f ≠ 0 by omega)
    obtain ⟨f', rfl⟩ := Nat.exists_eq_succ_of_ne_zero (show f' ≠ 0 by omega)
    have h' := t.rel h
    have hd' := (t.1.1 33 4 rfl).trans hd
    have he' := (t.1.1 0 14 rfl).trans he
    rw [fX12_goTrials_122_b15, h'.menM, if_neg (nI_ge (by omega) (by omega)), has_bN h6 (by omega), bnd_e]
    by_cases q : dl p = true
    · rw [c_free h' rC (t.ul hu) (by omega) (by rw [q, decide_eq_true (show p < c by omega)]; rfl), if_pos q, if_neg n10, m_ahead h' hd' he' hdB he9 (by omega), bnd_e, if_pos ha, if_neg n10, m_proof_123 h' h'.hl0, bnd_e]
      unfold fX10_goOn_31_b117
      rw [if_neg n10, t.2.2.2.1, if_neg (show ¬ (false = true) by decide), if_pos rfl]
      by_cases g : PF_33 b μ' (nI p) (nI k) < 100
      · rw [if_pos g, if_neg (by decide), if_neg (i_nle.mpr g), nI_1]
        exact ih f f' (p + 1) μ' ν' (by omega) (by omega) (by omega) t
      · rw [if_neg g, if_pos rfl, if_pos (i_nlt.mp g)]
        unfold fX10_goOn_31_b137 fX10_gainOf_31
        have t1 := t.turn (nI p)
        rw [gd_in hk (by decide), gd_in hk (by decide), ix_nI (by omega), lt_e, lt_e, t1.2.2.2.1, if_neg (show ¬ (false = true) by decide), if_pos rfl, bnd_e, nI_1, bN_rm (by omega) (by omega), shl1 p (by omega), nI_or]
        refine sm_bnd (hrec p (by omega) q _ _ t1) (fun _ μ1 _ ν1 t2 => ?_)
        rw [nI_1]
        exact ih f f' (p + 1) μ1 ν1 (by omega) (by omega) (by omega) t2.less
    · have q' : dl p = false := by simpa using q
      rw [c_pass h' rC (t.ul hu) (by omega) (by rw [q', Bool.and_false]), if_neg q, if_pos rfl, nI_1]
      exact ih f f' (p + 1) μ' ν' (by omega) (by omega) (by omega) t
theorem trials_node (h : Rel V c b B μ ν) {D : Int32} {k u fc fm : Nat} (hk : k ≤ 6) {dl : Nat → Bool} {μ' ν' : Mem} (t : TS false D μ ν k μ' ν')
    (hl : ∀ μ1 ν1, TS false D μ ν k μ1 ν1 → Sm (fun _ μ'' _ ν'' => TS false D μ ν k μ'' ν'') (fX10_goOn_31_b48 (fun v1 v2 v3 m => fX10_goOn_31 fc v1 v2 v3 m) (nI k) (nI u) (nI k) μ1) (fX12_goTrials_122_b15 (fun v1 v2 m => fX12_goTrials_122 fm v1 v2 m) FU (nI (bN dl c)) (nI k) 0 ν1)) :
    Sm (fun _ μ'' _ ν'' => TS false D μ ν k μ'' ν'') (fX10_goOn_31 (fc + 1) (nI k) (nI u) (nI k) μ') (fX12_goTrials_122 (fm + 1) (nI (bN dl c)) (nI k) ν') := by
  rw [fX10_goOn_31, fX12_goTrials_122]
  unfold fX10_goOn_31_r fX12_goTrials_122_r
  obtain ⟨L, l1, l2, l3, l4, l5⟩ := t.2.2.2.2.2
  rw [if_neg (show ¬ (false = true) by decide)] at l5
  rw [l5, l3, l2]
  by_cases q : L < k
  · obtain ⟨ν1, a1, a2, a3, a4, a5⟩ := m_keepLine hk ν'
    rw [if_pos (nI_lt q (by omega)), if_neg (nI_ge q (by omega)), a1, bnd_e, c_keepC _ hk]
    exact hl _ _ (t.keep hk a2 a3 (fun j => (a4 j).2) a5 (by rw [if_neg (show ¬ (false = true) by decide)]))
  · rw [if_neg (nI_nlt (by omega) (by omega)), if_pos (show nI k ≤ nI L from nI_le (by omega) (by omega))]
    by_cases g : k = L
    · subst g
      rw [if_pos rfl, if_pos (nI_le (Nat.le_refl _) (by omega))]
      exact hl _ _ t
    · rw [if_neg (by rw [nI_eq (by omega) (by omega)]; exact g)]
      exact hl _ _ t
theorem trials_loop (h : Rel V c b B μ ν) {d e : Nat} (hd : gI μ 33 4 = nI d) (he : gI μ 0 14 = nI e) (hdB : d < 2 ^ 30) (he9 : e ≤ 99) : ∀ (j k u fc fm : Nat) (dl : Nat → Bool) (μ' ν' : Mem), CN dl c = j → k + j ≤ c → ULr c (fun i => decide (gI μ 34 i = 1)) u dl → j ≤ fc → j ≤ fm → TS false (nI (dayL d e)) μ ν k μ' ν' → Sm (fun _ μ'' _ ν'' => TS false (nI (dayL d e)) μ ν k μ'' ν'') (fX10_goOn_31_b48 (fun v1 v2 v3 m => fX10_goOn_31 fc v1 v2 v3 m) (nI k) (nI u) (nI k) μ') (fX12_goTrials_122_b15 (fun v1 v2 m => fX12_goTrials_122 fm v1 v2 m) FU (nI (bN dl c)) (nI k) 0 ν') := by
  have h6 := h.c6
  intro j
  induction j with
  | zero =>
    intro k u fc fm dl μ' ν' hj hkj hu hfc hfm t
    have h' := t.rel h
    have no : ∀ p, p < c → ¬ dl p = true := fun p hp q => by have := CN_pos q hp; omega
    rw [show fX12_goTrials_122_b15 (fun v1 v2 m => fX12_goTrials_122 fm v1 v2 m) FU (nI (bN dl c)) (nI k) 0 ν' = _ from trials_idle h' ((t.1.1 33 4 rfl).trans hd) ((t.1.1 0 14 rfl).trans he) hdB he9 _ (show k ≤ 6 by omega) (fun p hp q => absurd q (no p hp)) c FU 0 (by omega) (fu_lt (by omega))]
    unfold fX10_goOn_31_b48
    rw [t.2.2.1]
    by_cases g : nI (dayL d e) ≤ nI k
    · rw [if_pos g]; exact sm_end t
    · rw [if_neg g]
      by_cases g2 : nI k < 6
      · rw [if_pos g2]
        have : ∀ (m f p : Nat), p + m = 6 → m < f → fX10_goOn_31_b66 (fun v1 v2 v3 m => fX10_goOn_31 fc v1 v2 v3 m) f (nI k) (nI u) (nI k) (nI p) μ' = some ((), μ') := by
          intro m
          induction m with
          | zero => exact fun f p h1 h2 => c_passes h' _ (t.ul hu) _ _ 0 f p h1 h2 (by omega)
          | succ m ih =>
            intro f p h1 h2
            obtain ⟨f, rfl⟩ := Nat.exists_eq_succ_of_ne_zero (show f ≠ 0 by omega)
            have nf : (decide (p < c) && dl p) = false := by
              by_cases hp : p < c
              · have := no p hp
                simp [this]
              · rw [decide_eq_false hp]; rfl
            rw [c_pass h' _ (t.ul hu) (by omega) nf]
            exact ih f (p + 1) (by omega) (by omega)
        rw [show fX10_goOn_31_b66 (fun v1 v2 v3 m => fX10_goOn_31 fc v1 v2 v3 m) FU (nI k) (nI u) (nI k) 0 μ' = _ from this 6 FU 0 rfl (by decide)]
        exact sm_end t
      · rw [if_neg g2]; exact sm_end t
  | succ j ih =>
    intro k u fc fm dl μ' ν' hj hkj hu hfc hfm t
    have h' := t.rel h
    have hk : k < 6 := by omega
    obtain ⟨fc, rfl⟩ := Nat.exists_eq_succ_of_ne_zero (show fc ≠ 0 by omega)
    obtain ⟨fm, rfl⟩ := Nat.exists_eq_succ_of_ne_zero (show fm ≠ 0 by omega)
    have d6 := dayL_6 d e
    unfold fX10_goOn_31_b48
    rw [t.2.2.1]
    by_cases g : dayL d e ≤ k
    · rw [if_pos (nI_le g (by omega))]
      rw [show fX12_goTrials_122_b15 (fun v1 v2 m => fX12_goTrials_122 (fm + 1) v1 v2 m) FU (nI (bN dl c)) (nI k) 0 ν' = _ from trials_idle h' ((t.1.1 33 4 rfl).trans hd) ((t.1.1 0 14 rfl).trans he) hdB he9 _ (show k ≤ 6 by omega) (fun p hp q z => by have := (dayL_iff (d := d) (e := e) hk).mpr z; omega) c FU 0 (by omega) (fu_lt (by omega))]
      exact sm_end t
    · rw [if_neg (nI_ge (by omega) (by omega)), if_pos (show nI k < (6 : Int32) from nI_lt (b := 6) hk (by decide))]
      refine trials_lock h hd he hdB he9 hk hu ((dayL_iff hk).mp (by omega)) _ _ (fun p hp q μ1 ν1 t1 => ?_) c FU FU 0 μ' ν' (by omega) (by decide) (fu_lt (by omega)) t
      have cr := CN_rm q c hp
      exact trials_node h (by omega) t1 (fun μ2 ν2 t2 => ih (k + 1) (u ||| 2 ^ p) fc fm (rm dl p) μ2 ν2 (by omega) (by omega) (hu.step (by omega)) (by omega) (by omega) t2)
theorem pr_trials (h : Rel V c b B μ ν) (hB : B + 1000 < 2 ^ 30) : Pr V c b B (fX11_trials_0 μ) (fX12_trials_122 ν) := by
  have h1 := m17 h 0
  have h6 := h.c6
  obtain ⟨d, hdB, hd⟩ := dayB_33 h.hl0
  obtain ⟨e, -, he9, he⟩ := h.end99
  unfold fX11_trials_0 fX12_trials_122 fX10_findMostConvicted_31 fX10_find_31 fX11_tellTurns_0 fX12_tellLine_122
  simp only [lt_e]
  rw [c_days h hd he (by omega) he9, bnd_e, dayL_e he9]
  have o2 : Off wU (sI ν 122 17 0) (sI (sI ν 122 17 0) 122 37 0) := (Off.refl _).sI rfl
  have h2 : Rel V c b B μ (sI (sI ν 122 17 0) 122 37 0) := Off.rm h1 o2 (fun _ _ => wU_sc)
  rw [m_kind_123 h2 h2.hl0, bnd_e, KD_bN_33 h6]
  have t : TS false (nI (dayL d e)) μ (sI ν 122 17 0) 0 (sI (sI (sI (sI μ 31 5 0) 31 4 (nI (dayL d e))) 31 1 0) 31 2 0) (sI (sI ν 122 17 0) 122 37 0) := by
    refine ⟨((((Off.refl _).sI rfl).sI rfl).sI rfl).sI rfl, o2, rfl, rfl, fun i hi => absurd hi (Nat.not_lt_zero _), 0, by omega, rfl, rfl, fun i hi => absurd hi (Nat.not_lt_zero _), ?_⟩
    rw [gI_sI, if_pos ⟨rfl, rfl⟩]
    rfl
  have hu : ULr c (fun i => decide (gI μ 34 i = 1)) 0 (fun i => decide (gI μ 34 i = 1)) := ⟨by decide, fun i hi => by
    rw [Nat.zero_testBit]
    show (decide (gI μ 34 i = 1) && !false) = (decide (i < c) && decide (gI μ 34 i = 1))
    by_cases q : i < c
    · rw [decide_eq_true q]; simp
    · rw [st0_33 h.hl0 (by omega) hi, decide_eq_false q]; rfl⟩
  have cl := CN_le (fun i => decide (gI μ 34 i = 1)) c
  have W := trials_node (fc := 99) (fm := 99) (u := 0) (dl := fun i => decide (gI μ 34 i = 1)) h1 (by omega) t (fun μ1 ν1 t1 => trials_loop h1 hd he (by omega) he9 (CN (fun i => decide (gI μ 34 i = 1)) c) 0 0 99 99 _ μ1 ν1 rfl (by omega) hu (by omega) (by omega) t1)
  obtain ⟨r1, μ1, r2, ν1, e1, e2, t1⟩ := W
  rw [show fX10_goOn_31 FR 0 0 0 (sI (sI (sI (sI μ 31 5 0) 31 4 (nI (dayL d e))) 31 1 0) 31 2 0) = _ from e1, show fX12_goTrials_122 FR (nI (bN (fun i => decide (gI μ 34 i = 1)) c)) 0 (sI (sI ν 122 17 0) 122 37 0) = _ from e2]
  simp only [bnd_e]
  have h3 := t1.rel h1
  obtain ⟨L, l1, l2, l3, l4, l5⟩ := t1.2.2.2.2.2
  obtain ⟨r3, μ2, ec, c2⟩ := c_clear (μ := μ1)
  rw [ec, bnd_e]
  refine sm_bnd (turns_tell (fk := false) (D := 0) (μ0 := μ) (ν0 := ν) (k := 0) h3 l1 l2 l3 l4 L FU 0 μ2 _ [] (by omega) (fu_lt (by omega)) rfl c2 (TM.nil _)) (fun _ μ3 _ ν3 q => ?_)
  obtain ⟨l', q1, q2, q3⟩ := q
  refine sm_end ⟨?_, h3.tell q2 q3 q1⟩
  rw [q3.1 122 37 rfl, q2.1 31 2 rfl, l3, l5, if_neg (show ¬ (false = true) by decide)]
end Pure38
