section Pure5
variable {V : VT} {c b B : Nat} {μ ν : Mem}
def TC (μ μ' : Mem) (l : List Int64) : Prop := (∀ k j, (k == 3 && j == 1) = false → gI μ' k j = gI μ k j) ∧ gI μ' 3 1 = nI l.length ∧ ∀ i, i < l.length → gL μ' 4 i = l.getD i 0
def TM (ν ν' : Mem) (l : List Int64) : Prop := (∀ k j, (k == 122 && j == 16) = false → gI ν' k j = gI ν k j) ∧ gI ν' 122 16 = nI l.length ∧ ∀ i, i < l.length → gL ν' 134 i = l.getD i 0
theorem TC.nil (μ : Mem) : TC μ (sI μ 3 1 0) [] := ⟨fun k j h => by
  rw [gI_sI, if_neg]
  rintro ⟨rfl, rfl⟩
  exact Bool.noConfusion h, rfl, fun i h => absurd h (Nat.not_lt_zero _)⟩
theorem TM.nil (μ : Mem) : TM μ (sI μ 122 16 0) [] := ⟨fun k j h => by
  rw [gI_sI, if_neg]
  rintro ⟨rfl, rfl⟩
  exact Bool.noConfusion h, rfl, fun i h => absurd h (Nat.not_lt_zero _)⟩
theorem c_clear : Ev (fun _ μ' => TC μ μ' []) (fX7_clear_3 μ) := ⟨_, _, rfl, TC.nil μ⟩
theorem getD_app {l : List Int64} {v : Int64} {i : Nat} : (l ++ [v]).getD i 0 = if i = l.length then v else l.getD i 0 := by
  simp only [List.getD_eq_getElem?_getD]
  by_cases h : i < l.length
  · rw [List.getElem?_append_left h, if_neg (by omega)]
  · rw [List.getElem?_append_right (by omega)]
    by_cases e : i = l.length
    · subst e; simp
    · rw [if_neg e, List.getElem?_eq_none (by simp; omega), List.getElem?_eq_none (show l.length ≤ i by omega)]
theorem c_add {μ' : Mem} {l : List Int64} (h : TC μ μ' l) (hl : l.length < 8) (v : Int64) : Ev (fun _ μ'' => TC μ μ'' (l ++ [v])) (fX7_add_3 v μ') := by
  unfold fX7_add_3
  rw [h.2.1, l8, if_neg (nI_ge hl (by decide))]
  simp (disch := omega) only [gd_in, ix_nI, lt_e]
  refine ⟨_, _, rfl, fun k j q => ?_, ?_, fun i hi => ?_⟩
  · rw [gI_sI, if_neg, gI_sL]
    · exact h.1 k j q
    · rintro ⟨rfl, rfl⟩
      exact Bool.noConfusion q
  · rw [gI_sI, if_pos ⟨rfl, rfl⟩, gI_sL, h.2.1, List.length_append]
    exact nI_1 _
  · rw [gL_sI, gL_sL, getD_app]
    by_cases e : i = l.length
    · rw [if_pos ⟨rfl, e⟩, if_pos e]
    · rw [if_neg (fun q => e q.2), if_neg e]
      rw [List.length_append, List.length_singleton] at hi
      exact h.2.2 i (by omega)
theorem m_tell {ν' : Mem} {l : List Int64} (h : TM ν ν' l) (hl : l.length < 16) (v : Int64) : Ev (fun _ ν'' => TM ν ν'' (l ++ [v])) (fX12_tell_122 v ν') := by
  unfold fX12_tell_122
  rw [h.2.1]
  simp (disch := omega) only [gd_in, ix_nI, lt_e]
  refine ⟨_, _, rfl, fun k j q => ?_, ?_, fun i hi => ?_⟩
  · rw [gI_sI, if_neg, gI_sL]
    · exact h.1 k j q
    · rintro ⟨rfl, rfl⟩
      exact Bool.noConfusion q
  · rw [gI_sI, if_pos ⟨rfl, rfl⟩, gI_sL, h.2.1, List.length_append]
    exact nI_1 _
  · rw [gL_sI, gL_sL, getD_app]
    by_cases e : i = l.length
    · rw [if_pos ⟨rfl, e⟩, if_pos e]
    · rw [if_neg (fun q => e q.2), if_neg e]
      rw [List.length_append, List.length_singleton] at hi
      exact h.2.2 i (by omega)
theorem c_tell1 (v : Int64) : Ev (fun _ μ' => TC μ μ' [v]) (fX7_tell_3 v μ) := by
  unfold fX7_tell_3
  exact ev_bnd c_clear (fun _ m h => ev_bnd (c_add h (by decide) v) (fun _ m' h' => ev_end h'))
theorem c_tell2 (v w : Int64) : Ev (fun _ μ' => TC μ μ' [v, w]) (fX7_tell__3 v w μ) := by
  unfold fX7_tell__3
  exact ev_bnd (c_tell1 v) (fun _ m h => ev_bnd (c_add h (by simp) w) (fun _ m' h' => ev_end h'))
theorem c_tell3 (v w x : Int64) : Ev (fun _ μ' => TC μ μ' [v, w, x]) (fX7_tell___3 v w x μ) := by
  unfold fX7_tell___3
  exact ev_bnd (c_tell2 v w) (fun _ m h => ev_bnd (c_add h (by simp) x) (fun _ m' h' => ev_end h'))
theorem Rel.tell {μ' ν' : Mem} {l : List Int64} (h : Rel V c b B μ ν) (h1 : TC μ μ' l) (h2 : TM ν ν' l) (hl : l.length ≤ 8) : Rel V c b B μ' ν' := by
  refine h.row (fun k j q => h1.1 k j ?_) (fun k j q => h2.1 k j ?_) ⟨l.length, hl, h1.2.1, h2.2.1, fun i hi => (h2.2.2 i hi).trans (h1.2.2 i hi).symm⟩
  · cases e : (k == 3 && j == 1) with
    | false => rfl
    | true =>
      simp only [Bool.and_eq_true, beq_iff_eq] at e
      obtain ⟨rfl, rfl⟩ := e
      exact Bool.noConfusion q
  · cases e : (k == 122 && j == 16) with
    | false => rfl
    | true =>
      simp only [Bool.and_eq_true, beq_iff_eq] at e
      obtain ⟨rfl, rfl⟩ := e
      exact Bool.noConfusion q
theorem m17 (h : Rel V c b B μ ν) (v : Int32) : Rel V c b B μ (sI ν 122 17 v) := h.sm ((Off.refl ν).sI rfl)
def Pr (V : VT) (c b B : Nat) (o1 o2 : Option (Int32 × Mem)) : Prop := Sm (fun r μ' r' ν' => r' = r ∧ Rel V c b B μ' ν') o1 o2
theorem pr_end (h : Rel V c b B μ ν) (r : Int32) : Pr V c b B (some (r, μ)) (some (r, ν)) := sm_end ⟨rfl, h⟩
theorem LV_off {μ' : Mem} (o : Off w22 μ μ') (p : Nat) (w x : Int32) (D : Nat) : LV V μ' p w x D = LV V μ p w x D := by
  unfold LV
  rw [o.1 6 p rfl, o.1 7 p rfl]
theorem LV_rel {ν' μ' : Mem} (h : Rel V c b B μ ν) (h' : Rel V c b B μ' ν) {p : Nat} (hp : p < c) (w x : Int32) (D : Nat) : LV V μ' p w x D = LV V μ p w x D := by
  unfold LV
  rw [← h.bears hp, ← h.fear hp, ← h'.bears hp, ← h'.fear hp]
def DIs (f : Nat → Int32) (stop : Nat → Bool) : Nat → Nat → Option Nat
  | 0, _ => none
  | m + 1, n => if 0 < f n then (bif stop n then none else DIs f stop m (n + 1)) else some n
theorem DIs_cg {f f' : Nat → Int32} {s s' : Nat → Bool} : ∀ (m n : Nat), (∀ i, i < n + m → f i = f' i ∧ s i = s' i) → DIs f s m n = DIs f' s' m n
  | 0, _, _ => rfl
  | m + 1, n, h => by
    simp only [DIs, (h n (by omega)).1, (h n (by omega)).2]
    rw [DIs_cg m (n + 1) (fun i hi => h i (by omega))]
theorem DIs_rng {f : Nat → Int32} {s : Nat → Bool} : ∀ (m n k : Nat), DIs f s m n = some k → n ≤ k ∧ k < n + m ∧ ¬ 0 < f k
  | 0, _, _, h => by cases h
  | m + 1, n, k, h => by
    unfold DIs at h
    by_cases q : 0 < f n
    · rw [if_pos q] at h
      cases e : s n with
      | true => rw [e] at h; cases h
      | false =>
        rw [e] at h
        have := DIs_rng m (n + 1) k h
        exact ⟨by omega, by omega, this.2.2⟩
    · rw [if_neg q] at h
      cases h
      exact ⟨by omega, by omega, q⟩
theorem nI_eqI {a b : Nat} (ha : a < 2 ^ 31) (hb : b < 2 ^ 31) : (nI a = nI b) = (a = b) := propext (nI_eq ha hb)
theorem add_sub1 (d n : Nat) (hn : 1 ≤ n) : nI d + nI n - 1 = nI (d + n - 1) := by
  obtain ⟨n, rfl⟩ := Nat.exists_eq_succ_of_ne_zero (show n ≠ 0 by omega)
  rw [nI_add, show d + (n + 1) = (d + n) + 1 by omega, nI_pred]
  rfl
theorem c_dying (h : Rel V c b B μ ν) {μ' : Mem} (o : Off w22 μ μ') {d : Nat} (hd : gI μ 33 4 = nI d) (hdB : d + 1000 < 2 ^ 30) {p n : Nat} (hp : p < 6) (hn : 1 ≤ n) (hn2 : n < 1000) (w : Int32) : Ev (fun r μ'' => r = LV V μ p w (gI μ 36 p + nI n) (d + n - 1) ∧ Off w22 μ μ'') (fX4_leftDying_33 (nI p) w (nI n) μ') := by
  unfold fX4_leftDying_33
  simp (disch := omega) only [gd_in, ix_nI, o.1 36 p rfl, o.1 33 4 rfl, hd, add_sub1]
  refine ev_bnd (c_left_33 (Off.rc h o (fun _ _ => w22_sc)) hp (by omega) _ _) (fun r μ'' q => ev_end ?_)
  obtain ⟨rfl, o'⟩ := q
  exact ⟨LV_off o _ _ _ _, o.tr o'⟩
def DIf (V : VT) (μ : Mem) (p d : Nat) (w : Int32) : Nat → Int32 := fun n => LV V μ p w (gI μ 36 p + nI n) (d + n - 1)
theorem cDI (h : Rel V c b B μ ν) {d : Nat} (hd : gI μ 33 4 = nI d) (hdB : d + 1000 < 2 ^ 30) {p L : Nat} (hp : p < 6) (hL : L ≤ 60) (w e : Int32) : ∀ (m f n : Nat) (μ' : Mem), Off w22 μ μ' → n + m = L + 1 → 1 ≤ n → m < f → Ev (fun r μ'' => r = (DIs (DIf V μ p d w) (fun i => decide (nI (d + i) = e)) m n).elim (-2) nI ∧ Off w22 μ μ'') (fX4_diesIn_33_b10 f (nI p) w (nI L) e (nI n) μ') := by
  intro m
  induction m with
  | zero =>
    intro f n μ' o h1 h3 h2
    obtain ⟨f, rfl⟩ := Nat.exists_eq_succ_of_ne_zero (show f ≠ 0 by omega)
    rw [fX4_diesIn_33_b10, if_pos (nI_lt (by omega) (by omega))]
    exact ev_end ⟨rfl, o⟩
  | succ m ih =>
    intro f n μ' o h1 h3 h2
    obtain ⟨f, rfl⟩ := Nat.exists_eq_succ_of_ne_zero (show f ≠ 0 by omega)
    rw [fX4_diesIn_33_b10, if_neg (nI_nlt (by omega) (by omega))]
    refine ev_bnd (c_dying h o hd hdB hp h3 (by omega) w) (fun r μ'' q => ?_)
    obtain ⟨rfl, o'⟩ := q
    rw [o'.1 33 4 rfl, hd, nI_add, nI_1]
    unfold DIs
    by_cases e1 : 0 < DIf V μ p d w n
    · rw [if_pos (show 0 < LV V μ p w (gI μ 36 p + nI n) (d + n - 1) from e1), if_pos e1]
      by_cases e2 : nI (d + n) = e
      · rw [if_pos e2, decide_eq_true e2]
        exact ev_end ⟨rfl, o'⟩
      · rw [if_neg e2, decide_eq_false e2]
        exact ih f (n + 1) μ'' o' (by omega) (by omega) (by omega)
    · rw [if_neg (show ¬ 0 < LV V μ p w (gI μ 36 p + nI n) (d + n - 1) from e1), if_neg e1]
      exact ev_end ⟨rfl, o'⟩
theorem mDI (h : Rel V c b B μ ν) {d : Nat} (hd : gI μ 33 4 = nI d) (hdB : d + 1000 < 2 ^ 30) {p L : Nat} (hp : p < c) (hL : L ≤ 60) {w : Int32} (hw : 0 < w) (fl : Int32) : ∀ (m f n : Nat) (ν' : Mem), Off w137 ν ν' → n + m = L + 1 → 1 ≤ n → m < f → Ev (fun r ν'' => (r = (DIs (DIf V μ p d w) (fun i => if fl = 0 then false else decide (nI (d + i) = gI μ 0 14)) m n).elim 0 nI ∧ (r ≠ 0 → ∃ i, 1 ≤ i ∧ i < 1000 ∧ r = nI i ∧ gI ν'' 122 33 = DIf V μ p d w i)) ∧ Off w137 ν ν'') (fX12_dieNight_122_b3 f (nI p) w (nI L) fl (nI n) ν') := by
  have h6 := h.c6
  intro m
  induction m with
  | zero =>
    intro f n ν' o h1 h3 h2
    obtain ⟨f, rfl⟩ := Nat.exists_eq_succ_of_ne_zero (show f ≠ 0 by omega)
    rw [fX12_dieNight_122_b3, if_pos (nI_lt (by omega) (by omega))]
    exact ev_end ⟨⟨rfl, fun q => absurd rfl q⟩, o⟩
  | succ m ih =>
    intro f n ν' o h1 h3 h2
    obtain ⟨f, rfl⟩ := Nat.exists_eq_succ_of_ne_zero (show f ≠ 0 by omega)
    have h' := Off.rm h o (fun _ _ => w137_sc)
    rw [fX12_dieNight_122_b3, if_neg (nI_nlt (by omega) (by omega)), if_neg (i_nle.mpr hw)]
    simp (disch := omega) only [gd_in, ix_nI, a12, in26, ix26, gd_e, borne_33 h'.hl0, day_33 h'.hl0, hd, add_sub1]
    refine ev_bnd (m_left h' hp (by omega) _ _) (fun r ν'' q => ?_)
    obtain ⟨rfl, o'⟩ := q
    have o2 : Off w137 ν (sI ν'' 122 33 (LV V μ p w (gI μ 36 p + nI n) (d + n - 1))) := (o.tr o').sI rfl
    have h2' := Off.rm h o2 (fun _ _ => w137_sc)
    simp only [lt_e, day_33 h2'.hl0, h2'.endM, hd, nI_add, nI_1]
    have e0 : gI (sI ν'' 122 33 (LV V μ p w (gI μ 36 p + nI n) (d + n - 1))) 122 33 = DIf V μ p d w n := by rw [gI_sI, if_pos ⟨rfl, rfl⟩]; rfl
    rw [e0]
    unfold DIs
    by_cases e1 : 0 < DIf V μ p d w n
    · rw [if_pos e1, if_pos e1]
      by_cases ef : fl = 0
      · simp only [if_pos ef]
        have := ih f (n + 1) _ o2 (by omega) (by omega) (by omega)
        simp only [if_pos ef] at this
        exact this
      · simp only [if_neg ef]
        by_cases e2 : nI (d + n) = gI μ 0 14
        · rw [if_pos e2, decide_eq_true e2]
          exact ev_end ⟨⟨rfl, fun q => absurd rfl q⟩, o2⟩
        · rw [if_neg e2, decide_eq_false e2]
          have := ih f (n + 1) _ o2 (by omega) (by omega) (by omega)
          simp only [if_neg ef] at this
          exact this
    · rw [if_neg e1, if_neg e1]
      exact ev_end ⟨⟨rfl, fun _ => ⟨n, h3, by omega, rfl, e0⟩⟩, o2⟩
end Pure5
