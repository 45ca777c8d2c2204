section Pure7
variable {V : VT} {c b B : Nat} {μ ν : Mem}
def lfN (V : VT) (μ : Mem) (p d : Nat) (w : Int32) (n : Nat) : Int32 := LV V μ p w (if w ≤ 0 then gI μ 36 p else gI μ 36 p + nI n) (d + n)
theorem c_leftIn (h : Rel V c b B μ ν) {μ' : Mem} (o : Off w22 μ μ') {d : Nat} (hd : gI μ 33 4 = nI d) (hdB : d + 1000 < 2 ^ 30) {p n : Nat} (hp : p < 6) (hn2 : n < 1000) (w : Int32) : Ev (fun r μ'' => r = lfN V μ p d w n ∧ Off w22 μ μ'') (fX4_leftIn_33 (nI p) w (nI n) μ') := by
  have h' := Off.rc h o (fun _ _ => w22_sc)
  unfold fX4_leftIn_33 fX4_leftIn_33_b24 lfN
  simp (disch := omega) only [gd_in, ix_nI, o.1 36 p rfl, o.1 33 4 rfl, hd, nI_add]
  by_cases e : w ≤ 0
  · rw [if_pos e, if_pos e]
    refine ev_bnd (c_left_33 h' hp (by omega) _ _) (fun r μ'' q => ev_end ?_)
    obtain ⟨rfl, o'⟩ := q
    exact ⟨LV_off o _ _ _ _, o.tr o'⟩
  · rw [if_neg e, if_neg e]
    refine ev_bnd (c_left_33 h' hp (by omega) _ _) (fun r μ'' q => ev_end ?_)
    obtain ⟨rfl, o'⟩ := q
    exact ⟨LV_off o _ _ _ _, o.tr o'⟩
def PLs (lf ld : Nat → Int32) (fear w : Int32) (stop : Nat → Bool) : Nat → Nat → Option Nat
  | 0, _ => none
  | m + 1, n => if fear < lf n then (if ¬ w ≤ 0 ∧ ¬ 0 < ld n then none else bif stop n then none else PLs lf ld fear w stop m (n + 1)) else some n
theorem PLs_rng {lf ld : Nat → Int32} {fear w : Int32} {s : Nat → Bool} : ∀ (m n k : Nat), PLs lf ld fear w s m n = some k → n ≤ k ∧ k < n + m
  | 0, _, _, h => by cases h
  | m + 1, n, k, h => by
    unfold PLs at h
    by_cases q : fear < lf n
    · rw [if_pos q] at h
      by_cases q2 : ¬ w ≤ 0 ∧ ¬ 0 < ld n
      · rw [if_pos q2] at h; cases h
      · rw [if_neg q2] at h
        cases e : s n with
        | true => rw [e] at h; cases h
        | false =>
          rw [e] at h
          have := PLs_rng m (n + 1) k h
          exact ⟨by omega, by omega⟩
    · rw [if_neg q] at h
      cases h
      exact ⟨by omega, by omega⟩
def ldN (V : VT) (μ : Mem) (p d : Nat) (w : Int32) (n : Nat) : Int32 := LV V μ p w (gI μ 36 p + nI (n + 1)) (d + n)
def PL0 (V : VT) (μ : Mem) (p d : Nat) (w e : Int32) (m n : Nat) : Option Nat := PLs (lfN V μ p d w) (ldN V μ p d w) (gI μ 7 p) w (fun i => decide (nI (d + i + 1) = e)) m n
theorem cPL (h : Rel V c b B μ ν) {d : Nat} (hd : gI μ 33 4 = nI d) (hdB : d + 1000 < 2 ^ 30) {p : Nat} (hp : p < 6) (w e : Int32) : ∀ (m f n : Nat) (μ' : Mem), Off w22 μ μ' → n + m = 61 → m < f → Ev (fun r μ'' => r = (PL0 V μ p d w e m n).elim (-2) nI ∧ Off w22 μ μ'') (fX4_pleadsIn_33_b18 f (nI p) w e (nI n) μ') := by
  intro m
  induction m with
  | zero =>
    intro f n μ' o h1 h2
    obtain ⟨f, rfl⟩ := Nat.exists_eq_succ_of_ne_zero (show f ≠ 0 by omega)
    rw [fX4_pleadsIn_33_b18, if_pos (show (60 : Int32) < nI n from nI_lt (a := 60) (by omega) (by omega))]
    exact ev_end ⟨rfl, o⟩
  | succ m ih =>
    intro f n μ' o h1 h2
    obtain ⟨f, rfl⟩ := Nat.exists_eq_succ_of_ne_zero (show f ≠ 0 by omega)
    rw [fX4_pleadsIn_33_b18, if_neg (show ¬ (60 : Int32) < nI n from nI_nlt (a := 60) (by omega) (by omega))]
    refine ev_bnd (c_leftIn h o hd hdB hp (show n < 1000 by omega) w) (fun r μ1 q => ?_)
    obtain ⟨rfl, o1⟩ := q
    simp (disch := omega) only [gd_in, ix_nI, o1.1 7 p rfl]
    unfold PL0 PLs
    by_cases e1 : gI μ 7 p < lfN V μ p d w n
    · rw [if_pos e1, if_pos e1]
      unfold fX4_pleadsIn_33_b69 fX4_pleadsIn_33_b70
      by_cases ew : w ≤ 0
      · rw [if_pos ew, if_pos rfl, if_neg (fun q => q.1 ew), o1.1 33 4 rfl, hd, nI_add, nI_1]
        by_cases e2 : nI (d + n + 1) = e
        · rw [if_pos e2, decide_eq_true e2]
          exact ev_end ⟨rfl, o1⟩
        · rw [if_neg e2, decide_eq_false e2, nI_1]
          exact ih f (n + 1) μ1 o1 (by omega) (by omega)
      · rw [if_neg ew, nI_1]
        refine ev_bnd (c_dying h o1 hd hdB hp (show 1 ≤ n + 1 by omega) (by omega) w) (fun r μ2 q => ?_)
        obtain ⟨rfl, o2⟩ := q
        rw [show d + (n + 1) - 1 = d + n by omega, show LV V μ p w (gI μ 36 p + nI (n + 1)) (d + n) = ldN V μ p d w n from rfl]
        by_cases e3 : 0 < ldN V μ p d w n
        · rw [if_pos e3, if_pos rfl, if_neg (fun q => q.2 e3), o2.1 33 4 rfl, hd, nI_add, nI_1]
          by_cases e2 : nI (d + n + 1) = e
          · rw [if_pos e2, decide_eq_true e2]
            exact ev_end ⟨rfl, o2⟩
          · rw [if_neg e2, decide_eq_false e2]
            exact ih f (n + 1) μ2 o2 (by omega) (by omega)
        · rw [if_neg e3, if_neg n10, if_pos ⟨ew, e3⟩]
          exact ev_end ⟨rfl, o2⟩
    · rw [if_neg e1, if_neg e1]
      exact ev_end ⟨rfl, o1⟩
def PL (V : VT) (μ : Mem) (p d : Nat) (w : Int32) : Option Nat := if gI μ 8 p = 0 then PL0 V μ p d w (gI μ 0 14) 61 0 else none
theorem c_pleads (h : Rel V c b B μ ν) {d : Nat} (hd : gI μ 33 4 = nI d) (hdB : d + 1000 < 2 ^ 30) {p : Nat} (hp : p < 6) (w : Int32) {μ' : Mem} (o : Off w22 μ μ') {e : Int32} (he : e = gI μ 0 14) : Ev (fun r μ'' => r = (PL V μ p d w).elim (-2) nI ∧ Off w22 μ μ'') (fX4_pleadsIn_33 (nI p) w e μ') := by
  subst he
  unfold fX4_pleadsIn_33 PL
  simp (disch := omega) only [gd_in, ix_nI, o.1 8 p rfl]
  by_cases e : gI μ 8 p = 0
  · rw [if_pos e, if_pos e]
    exact cPL h hd hdB hp w (gI μ 0 14) 61 FU 0 μ' o rfl (by decide)
  · rw [if_neg e, if_neg e]
    exact ev_end ⟨rfl, o⟩
theorem add_nI1 (x : Int32) (n : Nat) : x + nI n + 1 = x + nI (n + 1) := by rw [Int32.add_assoc, nI_1]
theorem m_speak (h : Rel V c b B μ ν) {p : Nat} (hp : p < c) (r : Int32) : fX12_doesSpeak_122 (nI p) r ν = some (if gI μ 8 p = 0 then (if gI μ 7 p < r then 0 else 1) else 0, ν) := by
  have h6 := h.c6
  unfold fX12_doesSpeak_122
  simp (disch := omega) only [gd_in, ix_nI, h.dumb hp, h.fear hp]
  by_cases e : gI μ 8 p = 0
  · rw [if_pos e, if_pos e]
    by_cases e2 : gI μ 7 p < r
    · rw [if_pos e2, if_pos e2]
    · rw [if_neg e2, if_neg e2]
  · rw [if_neg e, if_neg e]
theorem mPL (h : Rel V c b B μ ν) {d : Nat} (hd : gI μ 33 4 = nI d) (hdB : d + 1000 < 2 ^ 30) {p : Nat} (hp : p < c) (w : Int32) : ∀ (m f n : Nat) (ν' : Mem), Off w137 ν ν' → n + m = 61 → m < f → Ev (fun r ν'' => (r = (if gI μ 8 p = 0 then PL0 V μ p d w (gI μ 0 14) m n else none).elim (-2) nI ∧ ∀ i, (if gI μ 8 p = 0 then PL0 V μ p d w (gI μ 0 14) m n else none) = some i → gI ν'' 122 33 = lfN V μ p d w i) ∧ Off w137 ν ν'') (fX12_speakNight_122_b2 f (nI p) w (nI n) ν') := by
  have h6 := h.c6
  intro m
  induction m with
  | zero =>
    intro f n ν' o h1 h2
    obtain ⟨f, rfl⟩ := Nat.exists_eq_succ_of_ne_zero (show f ≠ 0 by omega)
    rw [fX12_speakNight_122_b2, if_pos (show (60 : Int32) < nI n from nI_lt (a := 60) (by omega) (by omega))]
    refine ev_end ⟨⟨?_, fun i hi => ?_⟩, o⟩
    · unfold PL0 PLs; split <;> rfl
    · unfold PL0 PLs at hi; split at hi <;> cases hi
  | succ m ih =>
    intro f n ν' o h1 h2
    obtain ⟨f, rfl⟩ := Nat.exists_eq_succ_of_ne_zero (show f ≠ 0 by omega)
    have h' := Off.rm h o (fun _ _ => w137_sc)
    rw [fX12_speakNight_122_b2, if_neg (show ¬ (60 : Int32) < nI n from nI_nlt (a := 60) (by omega) (by omega))]
    simp (disch := omega) only [gd_in, ix_nI, a12, borne_33 h'.hl0]
    have ex : (if w ≤ 0 then fX12_speakNight_122_b26 (fun p1 p2 p3 m => fX12_speakNight_122_b2 f p1 p2 p3 m) (nI p) w (nI n) 0 (gI μ 36 p) ν' else fX12_speakNight_122_b26 (fun p1 p2 p3 m => fX12_speakNight_122_b2 f p1 p2 p3 m) (nI p) w (nI n) (nI n) (gI μ 36 p) ν') = fX12_speakNight_122_b26 (fun p1 p2 p3 m => fX12_speakNight_122_b2 f p1 p2 p3 m) (nI p) w (nI n) (if w ≤ 0 then 0 else nI n) (gI μ 36 p) ν' := by
      by_cases e : w ≤ 0
      · rw [if_pos e, if_pos e]
      · rw [if_neg e, if_neg e]
    rw [ex]
    unfold fX12_speakNight_122_b26
    have ex2 : gI μ 36 p + (if w ≤ 0 then 0 else nI n) = (if w ≤ 0 then gI μ 36 p else gI μ 36 p + nI n) := by
      by_cases e : w ≤ 0
      · rw [if_pos e, if_pos e, Int32.add_zero]
      · rw [if_neg e, if_neg e]
    simp only [lt_e, ex2, in26, ix26, gd_e, day_33 h'.hl0, hd, nI_add]
    refine ev_bnd (m_left h' hp (by omega) _ _) (fun r ν1 q => ?_)
    obtain ⟨rfl, o1⟩ := q
    have o2 : Off w137 ν (sI ν1 122 33 (lfN V μ p d w n)) := (o.tr o1).sI rfl
    have h2' := Off.rm h o2 (fun _ _ => w137_sc)
    rw [show LV V μ p w (if w ≤ 0 then gI μ 36 p else gI μ 36 p + nI n) (d + n) = lfN V μ p d w n from rfl]
    have e0 : gI (sI ν1 122 33 (lfN V μ p d w n)) 122 33 = lfN V μ p d w n := by rw [gI_sI, if_pos ⟨rfl, rfl⟩]
    rw [e0, m_speak h2' hp, bnd_e]
    have key : ∀ (ν2 : Mem), Off w137 ν ν2 → (gI μ 8 p = 0 → gI μ 7 p < lfN V μ p d w n) → (¬ w ≤ 0 → 0 < ldN V μ p d w n) → Ev (fun r ν'' => (r = (if gI μ 8 p = 0 then PL0 V μ p d w (gI μ 0 14) (m + 1) n else none).elim (-2) nI ∧ ∀ i, (if gI μ 8 p = 0 then PL0 V μ p d w (gI μ 0 14) (m + 1) n else none) = some i → gI ν'' 122 33 = lfN V μ p d w i) ∧ Off w137 ν ν'') (fX12_speakNight_122_b93 (fun p1 p2 p3 m => fX12_speakNight_122_b2 f p1 p2 p3 m) (nI p) w (nI n) ν2) := by
      intro ν2 o3 hf hw
      have h3' := Off.rm h o3 (fun _ _ => w137_sc)
      unfold fX12_speakNight_122_b93
      simp only [in26, ix26, gd_e, day_33 h3'.hl0, h3'.endM, hd, nI_add, nI_1]
      by_cases e2 : nI (d + n + 1) = gI μ 0 14
      · rw [if_pos e2]
        have : (if gI μ 8 p = 0 then PL0 V μ p d w (gI μ 0 14) (m + 1) n else none) = none := by
          by_cases e4 : gI μ 8 p = 0
          · rw [if_pos e4]
            unfold PL0 PLs
            rw [if_pos (hf e4), if_neg (fun q => q.2 (hw q.1)), decide_eq_true e2]
            rfl
          · rw [if_neg e4]
        rw [this]
        exact ev_end ⟨⟨rfl, fun i hi => by cases hi⟩, o3⟩
      · rw [if_neg e2]
        have : (if gI μ 8 p = 0 then PL0 V μ p d w (gI μ 0 14) (m + 1) n else none) = (if gI μ 8 p = 0 then PL0 V μ p d w (gI μ 0 14) m (n + 1) else none) := by
          by_cases e4 : gI μ 8 p = 0
          · rw [if_pos e4, if_pos e4]
            unfold PL0
            rw [PLs, if_pos (hf e4), if_neg (fun q => q.2 (hw q.1)), decide_eq_false e2]
            rfl
          · rw [if_neg e4, if_neg e4]
        rw [this]
        exact ih f (n + 1) ν2 o3 (by omega) (by omega)
    by_cases es : gI μ 8 p = 0 ∧ ¬ gI μ 7 p < lfN V μ p d w n
    · have hz1 : (if gI μ 8 p = 0 then (if gI μ 7 p < lfN V μ p d w n then (0 : Int32) else 1) else 0) = 1 := by rw [if_pos es.1, if_neg es.2]
      rw [hz1, if_neg n10]
      have : PL0 V μ p d w (gI μ 0 14) (m + 1) n = some n := by
        unfold PL0 PLs
        rw [if_neg es.2]
      simp only [if_pos es.1, this]
      refine ev_end ⟨⟨rfl, fun i hi => ?_⟩, o2⟩
      cases hi
      exact e0
    · have hz : (if gI μ 8 p = 0 then (if gI μ 7 p < lfN V μ p d w n then (0 : Int32) else 1) else 0) = 0 := by
        by_cases e4 : gI μ 8 p = 0
        · rw [if_pos e4, if_pos (Decidable.not_not.mp (fun q => es ⟨e4, q⟩))]
        · rw [if_neg e4]
      have hf : gI μ 8 p = 0 → gI μ 7 p < lfN V μ p d w n := fun e4 => Decidable.not_not.mp (fun q => es ⟨e4, q⟩)
      rw [hz, if_pos rfl]
      by_cases ew : w ≤ 0
      · rw [if_pos ew]
        exact key _ o2 hf (fun q => absurd ew q)
      · rw [if_neg ew]
        simp only [in26, ix26, gd_e, day_33 h2'.hl0, hd, nI_add, if_neg ew, add_nI1]
        refine ev_bnd (m_left h2' hp (by omega) _ _) (fun r ν3 q => ?_)
        obtain ⟨rfl, o3⟩ := q
        rw [show LV V μ p w (gI μ 36 p + nI (n + 1)) (d + n) = ldN V μ p d w n from rfl]
        by_cases e3 : 0 < ldN V μ p d w n
        · rw [if_pos e3]
          exact key _ (o2.tr o3) hf (fun _ => e3)
        · rw [if_neg e3]
          have : (if gI μ 8 p = 0 then PL0 V μ p d w (gI μ 0 14) (m + 1) n else none) = none := by
            by_cases e4 : gI μ 8 p = 0
            · rw [if_pos e4]
              unfold PL0 PLs
              rw [if_pos (hf e4), if_pos ⟨ew, e3⟩]
            · rw [if_neg e4]
          rw [this]
          exact ev_end ⟨⟨rfl, fun i hi => by cases hi⟩, o2.tr o3⟩
theorem m_pleads (h : Rel V c b B μ ν) {d : Nat} (hd : gI μ 33 4 = nI d) (hdB : d + 1000 < 2 ^ 30) {p : Nat} (hp : p < c) (w : Int32) {ν' : Mem} (o : Off w137 ν ν') : Ev (fun r ν'' => (r = (PL V μ p d w).elim (-2) nI ∧ ∀ i, PL V μ p d w = some i → gI ν'' 122 33 = lfN V μ p d w i) ∧ Off w137 ν ν'') (fX12_speakNight_122 (nI p) w ν') := mPL h hd hdB hp w 61 FU 0 ν' o rfl (by decide)
theorem PL_rng {p d : Nat} {w : Int32} {k : Nat} (h : PL V μ p d w = some k) : k ≤ 60 := by
  unfold PL at h
  by_cases e : gI μ 8 p = 0
  · rw [if_pos e] at h
    have := PLs_rng _ _ _ h
    omega
  · rw [if_neg e] at h
    cases h
end Pure7
