section Pure28
variable {V : VT} {c b B : Nat} {μ ν : Mem}
theorem word_sub {a s : Nat} (ha : a ≤ 99) (hs : s ≤ 9) : imax 0 (nI a - nI s) = nI (a - s) := by
  have := word_nat (n := 1) ha hs (by omega)
  rw [nI_mul, Nat.mul_one] at this
  exact this
theorem nightB_33 {d : Nat} {μ1 : Mem} {Q : Int32 → Mem → Unit → Mem → Prop} {e x : Int32} (K : ∀ μ' ν', Rel0 V c b B μ' ν' → Rh c B μ' ν' → Off pC_33 μ μ' → Off pM_123 ν ν' → gI μ' 33 4 = nI d → (∀ i, gI μ' 34 i = gI μ1 34 i) → Sm Q (lt (sI μ' 33 4 ((gI μ' 33 4) + (1 : Int32))) fun m12 => if (gI m12 33 4) = e then (bnd (fX4_leaveOver_33 m12) fun r13 m14 => some ((x ||| (r13 <<< ((8 : Int32) &&& 31))), m14)) else some (x, m12)) (gd (inb (26 : Int32) 27) (gd (inb (26 : Int32) 27) (lt (sI ν' 123 (ix (26 : Int32)) ((gI ν' 123 (ix (26 : Int32))) + (1 : Int32))) fun m9 => gd (inb (26 : Int32) 27) (if (gI m9 123 (ix (26 : Int32))) = (gI m9 122 12) then (fX12_goNight_122_123_b118 FU (0 : Int32) m9) else some ((), m9)))))) : ∀ (m f p : Nat) (μ' ν' : Mem), p + m = b → m < f → Rel0 V c b B μ' ν' → Rh c B μ' ν' → Off pC_33 μ μ' → Off pM_123 ν ν' → gI μ' 33 4 = nI d → (∀ i, gI μ' 34 i = gI μ1 34 i) → Sm Q (fX4_night_33_b87 f e x (nI p) μ') (fX12_goNight_122_123_b59 f (nI p) ν') := by
  intro m
  induction m with
  | zero =>
    intro f p μ' ν' h1 h2 h hh o o' hd hs
    obtain ⟨f, rfl⟩ := Nat.exists_eq_succ_of_ne_zero (show f ≠ 0 by omega)
    have h8 := h.b8
    have q : nI b ≤ nI p := nI_le (by omega) (by omega)
    rw [fX4_night_33_b87, fX12_goNight_122_123_b59, h.wit, h.witM, if_pos q, if_pos q]
    exact K μ' ν' h hh o o' hd hs
  | succ m ih =>
    intro f p μ' ν' h1 h2 h hh o o' hd hs
    obtain ⟨f, rfl⟩ := Nat.exists_eq_succ_of_ne_zero (show f ≠ 0 by omega)
    have h8 := h.b8
    have q : ¬ nI b ≤ nI p := nI_ge (by omega) (by omega)
    obtain ⟨a1, a2⟩ := nat_ix (by decide) (word99_33 hh (show p < 8 by omega))
    obtain ⟨s1, s2⟩ := nat_ix (by decide) (h.fade9 (show p < b by omega))
    rw [fX4_night_33_b87, fX12_goNight_122_123_b59, h.wit, h.witM, if_neg q, if_neg q]
    simp (disch := omega) only [gd_in, ix_nI, a18, word_33 hh, h.fade, lt_e, nI_1]
    have ew : imax 0 (gI μ' 37 p - gI μ' 14 p) = nI (ix (gI μ' 37 p) - ix (gI μ' 14 p)) := by
      rw [a2, s2, word_sub a1 s1, ix_nI (by omega), ix_nI (by omega)]
    rw [ew]
    have hh3 : Rh c B (sI μ' 37 p (nI (ix (gI μ' 37 p) - ix (gI μ' 14 p)))) (sI ν' 123 (18 + p) (nI (ix (gI μ' 37 p) - ix (gI μ' 14 p)))) := hh.set (by omega) (fun j _ => hs3 (h := 33) (by omega) _ j) (hh.2.word (by omega) (by omega))
    have r3 := upd_33 h ((Off.refl _).sI rfl) ((Off.refl _).sI rfl) hh3
    exact ih f (p + 1) _ _ (by omega) (by omega) r3 hh3 (o.sI rfl) (o'.sI rfl) (by rw [gne (by decide)]; exact hd) (fun i => by rw [gne (by decide)]; exact hs i)
def NQ_33 (V : VT) (c b B d : Nat) (μ ν : Mem) (r : Int32) (μ' ν' : Mem) : Prop := r = wd (bN (nw_33 μ μ' 2) c) (bN (nw_33 μ μ' 5) c) ∧ Tr_33 μ μ' ∧ Rel0 V c b B μ' ν' ∧ Rh c B μ' ν' ∧ Off pC_33 μ μ' ∧ Off pM_123 ν ν' ∧ gI μ' 33 4 = nI d
theorem night_33 (h : Rel0 V c b B μ ν) (hh : Rh c B μ ν) (hB : B + 1000 < 2 ^ 30) {d : Nat} (hd : gI μ 33 4 = nI d) (hdB : d + 1 ≤ B) {e : Int32} (he : e = gI μ 0 14) : Sm (fun r μ' _ ν' => NQ_33 V c b B (d + 1) μ ν r μ' ν') (fX4_night_33 e μ) (fX12_goNight_122_123 ν) := by
  have h6 := h.c6
  have h8 := h.b8
  refine nightA_33 (μ := μ) (ν := ν) hB (show d ≤ B by omega) (fun μ1 ν1 r1 hh1 o1 o1' d1 s1 => ?_) c FU 0 μ ν (by omega) (fu_lt (by omega)) h hh (Off.refl _) (Off.refl _) hd (fun i _ => Or.inl rfl)
  refine nightB_33 (μ := μ) (ν := ν) (μ1 := μ1) (d := d) (fun μ2 ν2 r2 hh2 o2 o2' d2 s2 => ?_) b FU 0 μ1 ν1 (by omega) (fu_lt (by omega)) r1 hh1 o1 o1' d1 (fun _ => rfl)
  simp only [lt_e, in26, ix26, gd_e, day_33 hh2, d2, nI_1]
  have hh3 : Rh c B (sI μ2 33 4 (nI (d + 1))) (sI ν2 123 26 (nI (d + 1))) := hh2.set (by omega) (fun j hj => hs4 (h := 33) _ hj) (hh2.2.day hdB)
  have r3 : Rel0 V c b B (sI μ2 33 4 (nI (d + 1))) (sI ν2 123 26 (nI (d + 1))) := upd_33 r2 ((Off.refl _).sI rfl) ((Off.refl _).sI rfl) hh3
  have o3 : Off pC_33 μ (sI μ2 33 4 (nI (d + 1))) := o2.sI rfl
  have o3' : Off pM_123 ν (sI ν2 123 26 (nI (d + 1))) := o2'.sI rfl
  have e3 : gI (sI μ2 33 4 (nI (d + 1))) 0 14 = gI μ 0 14 := o3.1 0 14 rfl
  have d3 : gI (sI μ2 33 4 (nI (d + 1))) 33 4 = nI (d + 1) := by rw [gI_sI, if_pos ⟨rfl, rfl⟩]
  have s3 : ∀ i, gI (sI μ2 33 4 (nI (d + 1))) 34 i = gI μ1 34 i := fun i => by rw [gne (by decide)]; exact s2 i
  have k2 : ∀ μ4, (∀ i, i < 6 → gI μ4 34 i = gI μ1 34 i ∨ ((gI μ1 34 i = 0 ∨ gI μ1 34 i = 1) ∧ gI μ4 34 i = 5)) → Tr_33 μ μ4 ∧ bN (nw_33 μ μ1 2) c = bN (nw_33 μ μ4 2) c ∧ bN (nw_33 μ1 μ4 5) c = bN (nw_33 μ μ4 5) c := by
    intro μ4 h4
    have t1 : Tr_33 μ μ1 := fun i hi => (s1 i hi).imp_right (fun z => ⟨Or.inl z.1, Or.inl z.2⟩)
    have t2 : Tr_33 μ1 μ4 := fun i hi => (h4 i hi).imp_right (fun z => ⟨z.1, Or.inr z.2⟩)
    refine ⟨Tr_tr_33 t1 t2, bN_cg c (fun i hi => ?_), bN_cg c (fun i hi => ?_)⟩
    · rw [nw_tr_33 t1 t2 (Or.inl rfl) (show i < 6 by omega)]
      have : nw_33 μ1 μ4 2 i = false := by
        rcases h4 i (by omega) with z | ⟨z1, z2⟩
        · exact nw_same_33 z
        · unfold nw_33; rw [z2]; rfl
      rw [this, Bool.or_false]
    · rw [nw_tr_33 t1 t2 (Or.inr rfl) (show i < 6 by omega)]
      have : nw_33 μ μ1 5 i = false := by
        rcases s1 i (by omega) with z | ⟨z1, z2⟩
        · exact nw_same_33 z
        · unfold nw_33; rw [z2]; rfl
      rw [this, Bool.false_or]
  have f3 : gI (sI ν2 123 26 (nI (d + 1))) 123 26 = nI (d + 1) := by rw [gI_sI, if_pos ⟨rfl, rfl⟩]
  rw [d3, r3.endM, e3, f3, ← he]
  by_cases g : nI (d + 1) = e
  · rw [if_pos g, if_pos g]
    have C := nightC_33 (μ := μ) (ν := ν) (μ1 := μ1) c FU 0 (sI μ2 33 4 (nI (d + 1))) (sI ν2 123 26 (nI (d + 1))) (by omega) (fu_lt (by omega)) r3 hh3 o3 o3' (fun i _ => Or.inl (s3 i))
    obtain ⟨r, μ4, u, ν4, c1, c2, rfl, c4, c5, c6, c7, c8, c9⟩ := C
    rw [show fX4_leaveOver_33 (sI μ2 33 4 (nI (d + 1))) = _ from c1, bnd_e, show fX12_goNight_122_123_b118 FU 0 (sI ν2 123 26 (nI (d + 1))) = _ from c2]
    obtain ⟨k3, k4, k5⟩ := k2 μ4 c9
    have l5 := bN_lt (nw_33 μ μ4 5) c
    have l6 : bN (nw_33 μ μ4 5) c < 64 := Nat.lt_of_lt_of_le l5 (by
      have : 2 ^ c ≤ 2 ^ 6 := Nat.pow_le_pow_right (by decide) h6
      omega)
    refine sm_end ⟨?_, k3, c4, c5, c6, c7, c8.trans d3⟩
    rw [k4, k5, shl8 _ l6, nI_or]
    rfl
  · rw [if_neg g, if_neg g]
    obtain ⟨k3, k4, k5⟩ := k2 (sI μ2 33 4 (nI (d + 1))) (fun i _ => Or.inl (s3 i))
    refine sm_end ⟨?_, k3, r3, hh3, o3, o3', d3⟩
    have z5 : bN (nw_33 μ (sI μ2 33 4 (nI (d + 1))) 5) c = 0 := by
      rw [← k5]
      apply Nat.eq_of_testBit_eq
      intro i
      rw [bN_bit, Nat.zero_testBit]
      rw [show nw_33 μ1 (sI μ2 33 4 (nI (d + 1))) 5 i = false from nw_same_33 (s3 i), Bool.and_false]
    rw [k4, z5]
    unfold wd
    rw [Nat.zero_mul, Nat.or_zero]
theorem NQ_tr_33 {d d' : Nat} {r r' : Int32} {μ' ν' μ'' ν'' : Mem} (hc : c ≤ 6) (h : NQ_33 V c b B d μ ν r μ' ν') (h' : NQ_33 V c b B d' μ' ν' r' μ'' ν'') : NQ_33 V c b B d' μ ν (r ||| r') μ'' ν'' := by
  obtain ⟨rfl, t, -, -, o1, o2, -⟩ := h
  obtain ⟨rfl, t', r0, hh, o1', o2', hd⟩ := h'
  refine ⟨?_, Tr_tr_33 t t', r0, hh, o1.tr o1', o2.tr o2', hd⟩
  rw [wd_or]
  have k : ∀ k : Int32, (k = 2 ∨ k = 5) → bN (nw_33 μ μ' k) c ||| bN (nw_33 μ' μ'' k) c = bN (nw_33 μ μ'' k) c := by
    intro k hk
    apply Nat.eq_of_testBit_eq
    intro i
    rw [Nat.testBit_or, bN_bit, bN_bit, bN_bit]
    by_cases q : i < c
    · rw [nw_tr_33 t t' hk (show i < 6 by omega), decide_eq_true q]
      rfl
    · rw [decide_eq_false q]; rfl
  rw [k 2 (Or.inl rfl), k 5 (Or.inr rfl)]
theorem NQ_0_33 (h : Rel0 V c b B μ ν) (hh : Rh c B μ ν) {d : Nat} (hd : gI μ 33 4 = nI d) : NQ_33 V c b B d μ ν 0 μ ν := by
  refine ⟨?_, Tr_refl_33, h, hh, Off.refl _, Off.refl _, hd⟩
  have z : ∀ k, bN (nw_33 μ μ k) c = 0 := fun k => by
    apply Nat.eq_of_testBit_eq
    intro i
    rw [bN_bit, Nat.zero_testBit, nw_same_33 rfl, Bool.and_false]
  rw [z, z]
  rfl
theorem nightB_38 {d : Nat} {μ1 : Mem} {Q : Int32 → Mem → Unit → Mem → Prop} {e x : Int32} (K : ∀ μ' ν', Rel0 V c b B μ' ν' → Rh2 c B μ' ν' → Off pC_38 μ μ' → Off pM_140 ν ν' → gI μ' 38 4 = nI d → (∀ i, gI μ' 39 i = gI μ1 39 i) → Sm Q (lt (sI μ' 38 4 ((gI μ' 38 4) + (1 : Int32))) fun m12 => if (gI m12 38 4) = e then (bnd (fX4_leaveOver_38 m12) fun r13 m14 => some ((x ||| (r13 <<< ((8 : Int32) &&& 31))), m14)) else some (x, m12)) (gd (inb (26 : Int32) 27) (gd (inb (26 : Int32) 27) (lt (sI ν' 140 (ix (26 : Int32)) ((gI ν' 140 (ix (26 : Int32))) + (1 : Int32))) fun m9 => gd (inb (26 : Int32) 27) (if (gI m9 140 (ix (26 : Int32))) = (gI m9 122 12) then (fX12_goNight_122_140_b118 FU (0 : Int32) m9) else some ((), m9)))))) : ∀ (m f p : Nat) (μ' ν' : Mem), p + m = b → m < f → Rel0 V c b B μ' ν' → Rh2 c B μ' ν' → Off pC_38 μ μ' → Off pM_140 ν ν' → gI μ' 38 4 = nI d → (∀ i, gI μ' 39 i = gI μ1 39 i) → Sm Q (fX4_night_38_b87 f e x (nI p) μ') (fX12_goNight_122_140_b59 f (nI p) ν') := by
  intro m
  induction m with
  | zero =>
    intro f p μ' ν' h1 h2 h hh o o' hd hs
    obtain ⟨f, rfl⟩ := Nat.exists_eq_succ_of_ne_zero (show f ≠ 0 by omega)
    have h8 := h.b8
    have q : nI b ≤ nI p := nI_le (by omega) (by omega)
    rw [fX4_night_38_b87, fX12_goNight_122_140_b59, h.wit, h.witM, if_pos q, if_pos q]
    exact K μ' ν' h hh o o' hd hs
  | succ m ih =>
    intro f p μ' ν' h1 h2 h hh o o' hd hs
    obtain ⟨f, rfl⟩ := Nat.exists_eq_succ_of_ne_zero (show f ≠ 0 by omega)
    have h8 := h.b8
    have q : ¬ nI b ≤ nI p := nI_ge (by omega) (by omega)
    obtain ⟨a1, a2⟩ := nat_ix (by decide) (word99_38 hh (show p < 8 by omega))
    obtain ⟨s1, s2⟩ := nat_ix (by decide) (h.fade9 (show p < b by omega))
    rw [fX4_night_38_b87, fX12_goNight_122_140_b59, h.wit, h.witM, if_neg q, if_neg q]
    simp (disch := omega) only [gd_in, ix_nI, a18, word_38 hh, h.fade, lt_e, nI_1]
    have ew : imax 0 (gI μ' 42 p - gI μ' 14 p) = nI (ix (gI μ' 42 p) - ix (gI μ' 14 p)) := by
      rw [a2, s2, word_sub a1 s1, ix_nI (by omega), ix_nI (by omega)]
    rw [ew]
    have hh3 : Rh2 c B (sI μ' 42 p (nI (ix (gI μ' 42 p) - ix (gI μ' 14 p)))) (sI ν' 140 (18 + p) (nI (ix (gI μ' 42 p) - ix (gI μ' 14 p)))) := hh.set (by omega) (fun j _ => hs3 (h := 38) (by omega) _ j) (hh.2.word (by omega) (by omega))
    have r3 := upd_38 h ((Off.refl _).sI rfl) ((Off.refl _).sI rfl) hh3
    exact ih f (p + 1) _ _ (by omega) (by omega) r3 hh3 (o.sI rfl) (o'.sI rfl) (by rw [gne (by decide)]; exact hd) (fun i => by rw [gne (by decide)]; exact hs i)
def NQ_38 (V : VT) (c b B d : Nat) (μ ν : Mem) (r : Int32) (μ' ν' : Mem) : Prop := r = wd (bN (nw_38 μ μ' 2) c) (bN (nw_38 μ μ' 5) c) ∧ Tr_38 μ μ' ∧ Rel0 V c b B μ' ν' ∧ Rh2 c B μ' ν' ∧ Off pC_38 μ μ' ∧ Off pM_140 ν ν' ∧ gI μ' 38 4 = nI d
theorem night_38 (h : Rel0 V c b B μ ν) (hh : Rh2 c B μ ν) (hB : B + 1000 < 2 ^ 30) {d : Nat} (hd : gI μ 38 4 = nI d) (hdB : d + 1 ≤ B) {e : Int32} (he : e = gI μ 0 14) : Sm (fun r μ' _ ν' => NQ_38 V c b B (d + 1) μ ν r μ' ν') (fX4_night_38 e μ) (fX12_goNight_122_140 ν) := by
  have h6 := h.c6
  have h8 := h.b8
  refine nightA_38 (μ := μ) (ν := ν) hB (show d ≤ B by omega) (fun μ1 ν1 r1 hh1 o1 o1' d1 s1 => ?_) c FU 0 μ ν (by omega) (fu_lt (by omega)) h hh (Off.refl _) (Off.refl _) hd (fun i _ => Or.inl rfl)
  refine nightB_38 (μ := μ) (ν := ν) (μ1 := μ1) (d := d) (fun μ2 ν2 r2 hh2 o2 o2' d2 s2 => ?_) b FU 0 μ1 ν1 (by omega) (fu_lt (by omega)) r1 hh1 o1 o1' d1 (fun _ => rfl)
  simp only [lt_e, in26, ix26, gd_e, day_38 hh2, d2, nI_1]
  have hh3 : Rh2 c B (sI μ2 38 4 (nI (d + 1))) (sI ν2 140 26 (nI (d + 1))) := hh2.set (by omega) (fun j hj => hs4 (h := 38) _ hj) (hh2.2.day hdB)
  have r3 : Rel0 V c b B (sI μ2 38 4 (nI (d + 1))) (sI ν2 140 26 (nI (d + 1))) := upd_38 r2 ((Off.refl _).sI rfl) ((Off.refl _).sI rfl) hh3
  have o3 : Off pC_38 μ (sI μ2 38 4 (nI (d + 1))) := o2.sI rfl
  have o3' : Off pM_140 ν (sI ν2 140 26 (nI (d + 1))) := o2'.sI rfl
  have e3 : gI (sI μ2 38 4 (nI (d + 1))) 0 14 = gI μ 0 14 := o3.1 0 14 rfl
  have d3 : gI (sI μ2 38 4 (nI (d + 1))) 38 4 = nI (d + 1) := by rw [gI_sI, if_pos ⟨rfl, rfl⟩]
  have s3 : ∀ i, gI (sI μ2 38 4 (nI (d + 1))) 39 i = gI μ1 39 i := fun i => by rw [gne (by decide)]; exact s2 i
  have k2 : ∀ μ4, (∀ i, i < 6 → gI μ4 39 i = gI μ1 39 i ∨ ((gI μ1 39 i = 0 ∨ gI μ1 39 i = 1) ∧ gI μ4 39 i = 5)) → Tr_38 μ μ4 ∧ bN (nw_38 μ μ1 2) c = bN (nw_38 μ μ4 2) c ∧ bN (nw_38 μ1 μ4 5) c = bN (nw_38 μ μ4 5) c := by
    intro μ4 h4
    have t1 : Tr_38 μ μ1 := fun i hi => (s1 i hi).imp_right (fun z => ⟨Or.inl z.1, Or.inl z.2⟩)
    have t2 : Tr_38 μ1 μ4 := fun i hi => (h4 i hi).imp_right (fun z => ⟨z.1, Or.inr z.2⟩)
    refine ⟨Tr_tr_38 t1 t2, bN_cg c (fun i hi => ?_), bN_cg c (fun i hi => ?_)⟩
    · rw [nw_tr_38 t1 t2 (Or.inl rfl) (show i < 6 by omega)]
      have : nw_38 μ1 μ4 2 i = false := by
        rcases h4 i (by omega) with z | ⟨z1, z2⟩
        · exact nw_same_38 z
        · unfold nw_38; rw [z2]; rfl
      rw [this, Bool.or_false]
    · rw [nw_tr_38 t1 t2 (Or.inr rfl) (show i < 6 by omega)]
      have : nw_38 μ μ1 5 i = false := by
        rcases s1 i (by omega) with z | ⟨z1, z2⟩
        · exact nw_same_38 z
        · unfold nw_38; rw [z2]; rfl
      rw [this, Bool.false_or]
  have f3 : gI (sI ν2 140 26 (nI (d + 1))) 140 26 = nI (d + 1) := by rw [gI_sI, if_pos ⟨rfl, rfl⟩]
  rw [d3, r3.endM, e3, f3, ← he]
  by_cases g : nI (d + 1) = e
  · rw [if_pos g, if_pos g]
    have C := nightC_38 (μ := μ) (ν := ν) (μ1 := μ1) c FU 0 (sI μ2 38 4 (nI (d + 1))) (sI ν2 140 26 (nI (d + 1))) (by omega) (fu_lt (by omega)) r3 hh3 o3 o3' (fun i _ => Or.inl (s3 i))
    obtain ⟨r, μ4, u, ν4, c1, c2, rfl, c4, c5, c6, c7, c8, c9⟩ := C
    rw [show fX4_leaveOver_38 (sI μ2 38 4 (nI (d + 1))) = _ from c1, bnd_e, show fX12_goNight_122_140_b118 FU 0 (sI ν2 140 26 (nI (d + 1))) = _ from c2]
    obtain ⟨k3, k4, k5⟩ := k2 μ4 c9
    have l5 := bN_lt (nw_38 μ μ4 5) c
    have l6 : bN (nw_38 μ μ4 5) c < 64 := Nat.lt_of_lt_of_le l5 (by
      have : 2 ^ c ≤ 2 ^ 6 := Nat.pow_le_pow_right (by decide) h6
      omega)
    refine sm_end ⟨?_, k3, c4, c5, c6, c7, c8.trans d3⟩
    rw [k4, k5, shl8 _ l6, nI_or]
    rfl
  · rw [if_neg g, if_neg g]
    obtain ⟨k3, k4, k5⟩ := k2 (sI μ2 38 4 (nI (d + 1))) (fun i _ => Or.inl (s3 i))
    refine sm_end ⟨?_, k3, r3, hh3, o3, o3', d3⟩
    have z5 : bN (nw_38 μ (sI μ2 38 4 (nI (d + 1))) 5) c = 0 := by
      rw [← k5]
      apply Nat.eq_of_testBit_eq
      intro i
      rw [bN_bit, Nat.zero_testBit]
      rw [show nw_38 μ1 (sI μ2 38 4 (nI (d + 1))) 5 i = false from nw_same_38 (s3 i), Bool.and_false]
    rw [k4, z5]
    unfold wd
    rw [Nat.zero_mul, Nat.or_zero]
theorem NQ_tr_38 {d d' : Nat} {r r' : Int32} {μ' ν' μ'' ν'' : Mem} (hc : c ≤ 6) (h : NQ_38 V c b B d μ ν r μ' ν') (h' : NQ_38 V c b B d' μ' ν' r' μ'' ν'') : NQ_38 V c b B d' μ ν (r ||| r') μ'' ν'' := by
  obtain ⟨rfl, t, -, -, o1, o2, -⟩ := h
  obtain ⟨rfl, t', r0, hh, o1', o2', hd⟩ := h'
  refine ⟨?_, Tr_tr_38 t t', r0, hh, o1.tr o1', o2.tr o2', hd⟩
  rw [wd_or]
  have k : ∀ k : Int32, (k = 2 ∨ k = 5) → bN (nw_38 μ μ' k) c ||| bN (nw_38 μ' μ'' k) c = bN (nw_38 μ μ'' k) c := by
    intro k hk
    apply Nat.eq_of_testBit_eq
    intro i
    rw [Nat.testBit_or, bN_bit, bN_bit, bN_bit]
    by_cases q : i < c
    · rw [nw_tr_38 t t' hk (show i < 6 by omega), decide_eq_true q]
      rfl
    · rw [decide_eq_false q]; rfl
  rw [k 2 (Or.inl rfl), k 5 (Or.inr rfl)]
theorem NQ_0_38 (h : Rel0 V c b B μ ν) (hh : Rh2 c B μ ν) {d : Nat} (hd : gI μ 38 4 = nI d) : NQ_38 V c b B d μ ν 0 μ ν := by
  refine ⟨?_, Tr_refl_38, h, hh, Off.refl _, Off.refl _, hd⟩
  have z : ∀ k, bN (nw_38 μ μ k) c = 0 := fun k => by
    apply Nat.eq_of_testBit_eq
    intro i
    rw [bN_bit, Nat.zero_testBit, nw_same_38 rfl, Bool.and_false]
  rw [z, z]
  rfl
end Pure28
