section Pure34
variable {V : VT} {c b B : Nat} {μ ν : Mem}
theorem PL_cg {μ' : Mem} (h6 : ∀ p, gI μ' 6 p = gI μ 6 p) (h7 : ∀ p, gI μ' 7 p = gI μ 7 p) (h8 : ∀ p, gI μ' 8 p = gI μ 8 p) (h36 : ∀ p, gI μ' 36 p = gI μ 36 p) (h0 : gI μ' 0 14 = gI μ 0 14) (p d : Nat) (w : Int32) : PL V μ' p d w = PL V μ p d w := by
  unfold PL PL0
  have e1 : lfN V μ' p d w = lfN V μ p d w := funext (fun n => by unfold lfN LV; rw [h6, h7, h36])
  have e2 : ldN V μ' p d w = ldN V μ p d w := funext (fun n => by unfold ldN LV; rw [h6, h7, h36])
  rw [e1, e2, h7, h8, h0]
def LSa (V : VT) (μ : Mem) (p d : Nat) : Nat → Nat → Option Nat
  | 0, _ => none
  | m + 1, i => if (PL V μ p d (nI (10 * i))).isSome = true then some i else LSa V μ p d m (i + 1)
theorem LSa_rng {p d : Nat} : ∀ (m i k : Nat), LSa V μ p d m i = some k → i ≤ k ∧ k < i + m
  | 0, _, _, h => by cases h
  | m + 1, i, k, h => by
    rw [LSa] at h
    by_cases q : (PL V μ p d (nI (10 * i))).isSome = true
    · rw [if_pos q] at h
      cases h
      omega
    · rw [if_neg q] at h
      have := LSa_rng m (i + 1) k h
      omega
def sv (o : Option Nat) : Int32 := o.elim (-1) (fun i => nI (10 * i))
theorem elim_neg {o : Option Nat} (h : ∀ k, o = some k → k ≤ 60) : (o.elim (-2 : Int32) nI < 0) ↔ ¬ o.isSome = true := by
  cases o with
  | none => simp [neg2_lt]
  | some k =>
    have := h k rfl
    exact ⟨fun q => absurd q (nI_pos (show k < 2 ^ 31 by omega)), fun q => absurd rfl q⟩
theorem cLS (h : Rel V c b B μ ν) {d : Nat} (hd : gI μ 33 4 = nI d) (hdB : d + 1000 < 2 ^ 30) {p : Nat} (hp : p < 6) : ∀ (m f i : Nat) (μ' : Mem), Off w22 μ μ' → i + m = 10 → m < f → Ev (fun r μ'' => r = sv (LSa V μ p d m i) ∧ Off w22 μ μ'') (fX11_leastStones_0_b15 f (nI p) (nI (10 * i)) μ') := by
  intro m
  induction m with
  | zero =>
    intro f i μ' o h1 h2
    obtain ⟨f, rfl⟩ := Nat.exists_eq_succ_of_ne_zero (show f ≠ 0 by omega)
    rw [fX11_leastStones_0_b15, if_pos (show (90 : Int32) < nI (10 * i) from nI_lt (a := 90) (by omega) (by omega))]
    exact ev_end ⟨rfl, o⟩
  | succ m ih =>
    intro f i μ' o h1 h2
    obtain ⟨f, rfl⟩ := Nat.exists_eq_succ_of_ne_zero (show f ≠ 0 by omega)
    rw [fX11_leastStones_0_b15, if_neg (show ¬ (90 : Int32) < nI (10 * i) from nI_nlt (a := 90) (by omega) (by omega))]
    refine ev_bnd (c_pleads h hd hdB hp (nI (10 * i)) o (o.1 0 14 rfl)) (fun r μ1 q => ?_)
    obtain ⟨rfl, o1⟩ := q
    rw [LSa]
    have en := elim_neg (o := PL V μ p d (nI (10 * i))) (fun k hk => PL_rng hk)
    by_cases q : (PL V μ p d (nI (10 * i))).isSome = true
    · rw [if_neg (fun z => en.mp z q), if_pos q]
      exact ev_end ⟨rfl, o1⟩
    · rw [if_pos (en.mpr q), if_neg q, show nI (10 * i) + 10 = nI (10 * (i + 1)) from (nI_add (10 * i) 10).trans (by congr 1)]
      exact ih f (i + 1) μ1 o1 (by omega) (by omega)
def sS (V : VT) (μ : Mem) (d p : Nat) : Int32 := if gI μ 34 p = 0 then sv (LSa V μ p d 10 0) else -1
def w121 (k j : Nat) : Bool := k == 121 || w22 k j
def w142 (k j : Nat) : Bool := k == 142 || w137 k j
theorem w121_sc {k j : Nat} (h : w121 k j = true) : scC k j = true := by
  unfold w121 at h
  rw [Bool.or_eq_true] at h
  rcases h with h | h
  · rw [beq_iff_eq] at h; subst h; rfl
  · exact w22_sc h
theorem w142_sc {k j : Nat} (h : w142 k j = true) : scM k j = true := by
  unfold w142 at h
  rw [Bool.or_eq_true] at h
  rcases h with h | h
  · rw [beq_iff_eq] at h; subst h; rfl
  · exact w137_sc h
theorem w22_121 {k j : Nat} (h : w22 k j = true) : w121 k j = true := by unfold w121; rw [h, Bool.or_true]
theorem w137_142 {k j : Nat} (h : w137 k j = true) : w142 k j = true := by unfold w142; rw [h, Bool.or_true]
theorem sS_off {μ' : Mem} (o : Off w121 μ μ') (d p : Nat) : sS V μ' d p = sS V μ d p := by
  unfold sS
  have e : ∀ m i, LSa V μ' p d m i = LSa V μ p d m i := by
    intro m
    induction m with
    | zero => intro i; rfl
    | succ m ih =>
      intro i
      rw [LSa, LSa, ih, PL_cg (fun q => o.1 6 q rfl) (fun q => o.1 7 q rfl) (fun q => o.1 8 q rfl) (fun q => o.1 36 q rfl) (o.1 0 14 rfl)]
  rw [e, o.1 34 p rfl]
theorem c_least (h : Rel V c b B μ ν) {d : Nat} (hd : gI μ 33 4 = nI d) (hdB : d + 1000 < 2 ^ 30) {p : Nat} (hp : p < 6) : Ev (fun r μ'' => r = sS V μ d p ∧ Off w22 μ μ'') (fX11_leastStones_0 (nI p) μ) := by
  unfold fX11_leastStones_0 sS
  rw [c_sil_33 hp, bnd_e]
  by_cases q : gI μ 34 p = 0
  · rw [if_pos q, if_pos q, if_neg n10]
    exact cLS h hd hdB hp 10 FU 0 μ (Off.refl _) rfl (by decide)
  · rw [if_neg q, if_neg q, if_pos rfl]
    exact ev_end ⟨rfl, Off.refl _⟩
theorem mLS (h : Rel V c b B μ ν) {d : Nat} (hd : gI μ 33 4 = nI d) (hdB : d + 1000 < 2 ^ 30) {p : Nat} (hp : p < c) (k22 : Int32 → Int32 → Int32 → Mem → Option (Int32 × Mem)) (p1 p2 : Int32) : ∀ (i f : Nat) (ν' : Mem), i ≤ 10 → i < f → Off w142 ν ν' → gI ν' 142 p = (if gI μ 34 p = 0 then sv (LSa V μ p d (10 - i) i) else -1) → ∃ ν'', Off w142 ν ν'' ∧ gI ν'' 142 p = sS V μ d p ∧ (∀ q, q ≠ p → gI ν'' 142 q = gI ν' 142 q) ∧ fX12_stones_122_b41 k22 f p1 p2 (nI p) (nI (10 * i) - 10) ν' = (if sS V μ d p = -1 then (k22 p1 (p2 ||| 0) (nI (p + 1)) ν'') else k22 p1 (p2 ||| ((1 : Int32) <<< (nI p &&& 31))) (nI (p + 1)) ν'') := by
  have h6 := h.c6
  intro i
  induction i with
  | zero =>
    intro f ν' h1 h2 o hv
    obtain ⟨f, rfl⟩ := Nat.exists_eq_succ_of_ne_zero (show f ≠ 0 by omega)
    have e : gI ν' 142 p = sS V μ d p := hv
    refine ⟨ν', o, e, fun _ _ => rfl, ?_⟩
    rw [fX12_stones_122_b41, if_pos (by decide), gd_in (by omega) (by decide), ix_nI (by omega), e, nI_1]
    rfl
  | succ i ih =>
    intro f ν' h1 h2 o hv
    obtain ⟨f, rfl⟩ := Nat.exists_eq_succ_of_ne_zero (show f ≠ 0 by omega)
    have e10 : nI (10 * (i + 1)) - 10 = nI (10 * i) := by rw [show (10 : Int32) = nI 10 from rfl, nI_sub (by omega) (by omega)]; congr 1
    have h' := Off.rm h o (fun _ _ => w142_sc)
    have em : nI (10 * i) + (-10) = nI (10 * i) - 10 := by rw [Int32.sub_eq_add_neg]
    rw [fX12_stones_122_b41, e10, if_neg (nI_pos (by omega)), gd_in (by omega) (by decide), ix_nI (by omega), st_33 h'.hl0 (by omega), em]
    by_cases es : gI μ 34 p = 0
    · rw [if_pos es]
      rw [if_pos es] at hv
      obtain ⟨r, ν1, e1, ⟨rfl, -⟩, o1⟩ := m_pleads h' hd hdB hp (nI (10 * i)) (Off.refl _)
      have o2 : Off w142 ν ν1 := o.tr (o1.mono (fun _ _ => w137_142))
      have en := elim_neg (o := PL V μ p d (nI (10 * i))) (fun k hk => PL_rng hk)
      have q142 : ∀ q, gI ν1 142 q = gI ν' 142 q := fun q => o1.1 142 q rfl
      rw [e1, bnd_e]
      have step : LSa V μ p d (10 - i) i = if (PL V μ p d (nI (10 * i))).isSome = true then some i else LSa V μ p d (10 - (i + 1)) (i + 1) := by
        rw [show 10 - i = (10 - (i + 1)) + 1 by omega, LSa]
      by_cases q : (PL V μ p d (nI (10 * i))).isSome = true
      · rw [if_neg (fun z => en.mp z q), gd_in (by omega) (by decide), lt_e]
        obtain ⟨ν2, a1, a2, a3, a4⟩ := ih f (sI ν1 142 p (nI (10 * i))) (by omega) (by omega) (o2.sI rfl) (by rw [gI_sI, if_pos ⟨rfl, rfl⟩, if_pos es, step, if_pos q]; rfl)
        refine ⟨ν2, a1, a2, fun z hz => ?_, a4⟩
        rw [a3 z hz, gI_sI, if_neg (fun y => hz y.2), q142]
      · rw [if_pos (en.mpr q)]
        obtain ⟨ν2, a1, a2, a3, a4⟩ := ih f ν1 (by omega) (by omega) o2 (by rw [q142, hv, if_pos es, step, if_neg q])
        exact ⟨ν2, a1, a2, fun z hz => (a3 z hz).trans (q142 z), a4⟩
    · rw [if_neg es]
      rw [if_neg es] at hv
      exact ih f ν' (by omega) (by omega) o (by rw [if_neg es]; exact hv)
end Pure34
