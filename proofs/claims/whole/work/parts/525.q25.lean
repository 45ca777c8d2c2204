section Pure25
variable {V : VT} {c b B : Nat} {μ ν : Mem}
theorem Rel.gang {μ' ν' : Mem} (h : Rel V c b B μ ν) (o : Off (xC 1) μ μ') (o' : Off (xM 1) ν ν') (n : Rg c μ' ν') : Rel V c b B μ' ν' :=
  have f : ∀ Y, Y ≠ 0 → Y ≠ 1 → ∀ k j, cc k j = Y → gI μ' k j = gI μ k j := fun Y hY hn => xC_at hY hn o.1
  have e : ∀ Y, Y ≠ 0 → Y ≠ 1 → ∀ k j, mc k j = Y → gI ν' k j = gI ν k j := fun Y hY hn => xM_at hY hn o'.1
  ⟨n, h.2.1.cg (f 2 (by decide) (by decide)) (e 2 (by decide) (by decide)), h.2.2.1.cg (f 3 (by decide) (by decide)) (e 3 (by decide) (by decide)), h.2.2.2.1.cg (f 4 (by decide) (by decide)) (e 4 (by decide) (by decide)), h.2.2.2.2.1.cg (f 5 (by decide) (by decide)) (e 5 (by decide) (by decide)), h.2.2.2.2.2.1.cg (f 6 (by decide) (by decide)) (e 6 (by decide) (by decide)) (fun j => o.2 4 j) (fun j => o'.2 134 j), h.2.2.2.2.2.2.1.cg (f 7 (by decide) (by decide)) (e 7 (by decide) (by decide)), h.2.2.2.2.2.2.2.1.cg (f 8 (by decide) (by decide)) (e 8 (by decide) (by decide)), h.2.2.2.2.2.2.2.2.cg (f 9 (by decide) (by decide)) (e 9 (by decide) (by decide))⟩
theorem Rel.setFear (h : Rel V c b B μ ν) (p : Nat) (v : Int32) : Rel V c b B (sI μ 7 p v) (sI ν 125 p v) := by
  refine h.gang ((Off.refl μ).sI rfl) ((Off.refl ν).sI rfl) ⟨h.1.1, h.1.2.1, h.1.2.2.1, fun q hq => ?_⟩
  obtain ⟨b1, b2, b3, b4, b5, b6, b7⟩ := h.1.2.2.2 q hq
  refine ⟨b1, ?_, b3, b4, b5, b6, b7⟩
  rw [gI_sI, gI_sI]
  by_cases e : q = p
  · rw [if_pos ⟨rfl, e⟩, if_pos ⟨rfl, e⟩]
  · rw [if_neg (fun z => e z.2), if_neg (fun z => e z.2)]
    exact b2
def fsh (k x : Int32) : Int32 := imax 0 (imin 99 (if k = 0 then x.toInt8.toInt32 else if k = 1 then x.toInt16.toInt32 else x))
theorem c_fsh (k x : Int32) : fX11_fearOnSheet k x μ = some (fsh k x, μ) := by
  unfold fX11_fearOnSheet fX11_fearOnSheet_b20 fsh
  by_cases q : k = 0
  · rw [if_pos q, if_pos q]; rfl
  · rw [if_neg q, if_neg q]
    by_cases q1 : k = 1
    · rw [if_pos q1, if_pos q1]; rfl
    · rw [if_neg q1, if_neg q1]
theorem sheet_in {k v2 v3 v4 fl : Int32} (hf : (k = 3 ∧ fl = 1) ∨ (¬ k = 3 ∧ fl = 0)) : ∀ (m f p : Nat) (a : Int32) (μ ν : Mem), Rel V c b B μ ν → p + m = c → m < f → Pr V c b B (fX11_sheet_0_b47 f k v2 v3 v4 fl a (nI p) μ) (fX12_sheet_122_b43 f k v2 v4 a (v3 + nI p * v4) (nI p) ν) := by
  intro m
  induction m with
  | zero =>
    intro f p a μ ν h h1 h2
    obtain ⟨f, rfl⟩ := Nat.exists_eq_succ_of_ne_zero (show f ≠ 0 by omega)
    have h6 := h.c6
    have e : nI c ≤ nI p := nI_le (by omega) (by omega)
    rw [fX11_sheet_0_b47, fX12_sheet_122_b43, h.men, h.menM, if_pos e, if_pos e]
    rcases hf with ⟨q1, rfl⟩ | ⟨q1, rfl⟩
    · rw [if_neg n10, if_pos q1]; exact pr_end h _
    · rw [if_pos rfl, if_neg q1]; exact pr_end h _
  | succ m ih =>
    intro f p a μ ν h h1 h2
    obtain ⟨f, rfl⟩ := Nat.exists_eq_succ_of_ne_zero (show f ≠ 0 by omega)
    have h6 := h.c6
    have e : ¬ nI c ≤ nI p := nI_ge (by omega) (by omega)
    have ex : v3 + nI p * v4 + v4 = v3 + nI (p + 1) * v4 := by
      rw [← nI_1, Int32.add_mul, Int32.one_mul, Int32.add_assoc]
    have go : ∀ x : Int32, Pr V c b B (fX11_sheet_0_b106 (fun p1 p2 p3 p4 p5 p6 p7 m => fX11_sheet_0_b47 f p1 p2 p3 p4 p5 p6 p7 m) k v2 v3 v4 fl a (nI p) x (nI p) μ) (fX12_sheet_122_b109 (fun p1 p2 p4 p5 p6 p7 m => fX12_sheet_122_b43 f p1 p2 p4 p5 p6 p7 m) k v2 v4 a (v3 + nI p * v4) (nI p) x (nI p) ν) := by
      intro x
      unfold fX11_sheet_0_b106 fX12_sheet_122_b109
      simp (disch := omega) only [gd_in, ix_nI, lt_e, nI_1, ex]
      rw [gI_sI, if_pos ⟨rfl, rfl⟩, gI_sI, if_pos ⟨rfl, rfl⟩]
      exact ih f (p + 1) _ _ _ (h.setFear p x) (by omega) (by omega)
    have ref : ∀ y : Int32, (imax 0 (imin 99 y) = fsh k (v3 + nI p * v4)) → (if fl = 0 then (if v2 ≤ nI p then 0 else fsh k (v3 + nI p * v4)) else 0) = (if k = 3 then 0 else if nI p < v2 then imax 0 (imin 99 y) else 0) := by
      intro y hy
      rcases hf with ⟨q1, rfl⟩ | ⟨q1, rfl⟩
      · rw [if_neg n10, if_pos q1]
      · rw [if_pos rfl, if_neg q1]
        by_cases q : v2 ≤ nI p
        · rw [if_pos q, if_neg (i_nlt.mpr q)]
        · rw [if_neg q, if_pos (i_nle.mp q), hy]
    have cls : fX11_sheet_0_b47 (f + 1) k v2 v3 v4 fl a (nI p) μ = fX11_sheet_0_b106 (fun p1 p2 p3 p4 p5 p6 p7 m => fX11_sheet_0_b47 f p1 p2 p3 p4 p5 p6 p7 m) k v2 v3 v4 fl a (nI p) (if fl = 0 then (if v2 ≤ nI p then 0 else fsh k (v3 + nI p * v4)) else 0) (nI p) μ := by
      rw [fX11_sheet_0_b47, h.men, if_neg e]
      unfold fX11_sheet_0_b74 fX11_sheet_0_b75
      by_cases q : fl = 0
      · rw [if_pos q, if_pos q]
        by_cases q2 : v2 ≤ nI p
        · rw [if_pos q2, if_pos q2, if_pos rfl]
        · rw [if_neg q2, if_neg q2, if_neg n10, c_fsh, bnd_e]
      · rw [if_neg q, if_neg q, if_pos rfl]
    have mdl : ∀ y : Int32, fX12_sheet_122_b75 (fun p1 p2 p4 p5 p6 p7 m => fX12_sheet_122_b43 f p1 p2 p4 p5 p6 p7 m) k v2 v4 a (v3 + nI p * v4) (nI p) y ν = fX12_sheet_122_b109 (fun p1 p2 p4 p5 p6 p7 m => fX12_sheet_122_b43 f p1 p2 p4 p5 p6 p7 m) k v2 v4 a (v3 + nI p * v4) (nI p) (if k = 3 then 0 else if nI p < v2 then imax 0 (imin 99 y) else 0) (nI p) ν := by
      intro y
      unfold fX12_sheet_122_b75
      by_cases q : k = 3
      · rw [if_pos q, if_pos q]
      · rw [if_neg q, if_neg q]
        by_cases q2 : nI p < v2
        · rw [if_pos q2, if_pos q2]
        · rw [if_neg q2, if_neg q2]
    rw [cls, fX12_sheet_122_b43, h.menM, if_neg e, mdl, mdl, mdl]
    by_cases k0 : k = 0
    · rw [if_pos k0, ref _ (by unfold fsh; rw [if_pos k0])]
      exact go _
    · rw [if_neg k0]
      by_cases k1 : k = 1
      · rw [if_pos k1, ref _ (by unfold fsh; rw [if_neg k0, if_pos k1])]
        exact go _
      · rw [if_neg k1, ref _ (by unfold fsh; rw [if_neg k0, if_neg k1])]
        exact go _
theorem pr_sheet (h : Rel V c b B μ ν) (v1 v2 v3 v4 : Int32) : Pr V c b B (fX11_sheet_0 v1 v2 v3 v4 μ) (fX12_sheet_122 v1 v2 v3 v4 ν) := by
  have h1 := m17 h 0
  have h6 := h.c6
  unfold fX11_sheet_0 fX12_sheet_122 fX11_sheet_0_b27 fX12_sheet_122_b34
  rw [lt_e, m_in, bnd_e]
  have z0 : v3 + nI 0 * v4 = v3 := by rw [show nI 0 = 0 from rfl, Int32.zero_mul, Int32.add_zero]
  rcases rng_or v1 0 3 (lo := 0) (hi := 3) rfl rfl (by decide) (by decide) with ⟨q1, q2⟩ | ⟨q1, q3, q2⟩ | ⟨k, -, hk, rfl, a1, a2, a3⟩
  · rw [if_pos q1, if_pos q2, if_pos rfl]
    exact pr_end h1 _
  · rw [if_neg q1, if_pos (i_nle.mp q3), if_pos q2, if_pos rfl]
    exact pr_end h1 _
  · rw [if_neg a1, if_neg (i_nlt.mpr a2), if_neg a3, if_neg n10]
    by_cases q6 : v2 ≤ 6
    · rw [if_pos q6, if_pos q6]
      by_cases q : nI k = 3
      · have ek : k = 3 := by
          rw [l3, nI_eq (by omega) (by decide)] at q
          exact q
        subst ek
        rw [if_pos rfl, if_neg n10, if_pos (show (3 : Int32) ≤ nI 3 by decide)]
        have := sheet_in (V := V) (c := c) (b := b) (B := B) (k := nI 3) (v2 := v2) (v3 := v3) (v4 := v4) (fl := 1) (Or.inl ⟨rfl, rfl⟩) c FU 0 0 μ _ h1 (by omega) (fu_lt (by omega))
        rw [z0] at this
        exact this
      · have lk : ¬ (3 : Int32) ≤ nI k := by
          have : k ≠ 3 := by rintro rfl; exact q rfl
          exact nI_ge (b := 3) (by omega) (by decide)
        rw [if_neg q, if_pos rfl, if_neg lk]
        by_cases q0 : 0 ≤ v2
        · rw [if_pos q0, if_pos q0]
          have := sheet_in (V := V) (c := c) (b := b) (B := B) (k := nI k) (v2 := v2) (v3 := v3) (v4 := v4) (fl := 0) (Or.inr ⟨q, rfl⟩) c FU 0 0 μ _ h1 (by omega) (fu_lt (by omega))
          rw [z0] at this
          exact this
        · rw [if_neg q0, if_neg q0]
          exact pr_end h1 _
    · rw [if_neg q6, if_neg q6]
      exact pr_end h1 _
theorem pr_endT (h : Rel V c b B μ ν) (v : Int32) : Pr V c b B (fX11_end_0 v μ) (fX12_end_122 v ν) := by
  have h1 := m17 h 0
  obtain ⟨t, t1, t2, t3, t4⟩ := h1.2.2.2.2.1
  unfold fX11_end_0 fX9_cut_1 fX12_end_122
  rw [lt_e, t2, lt_e, t3, m_in, bnd_e]
  by_cases q0 : v < 0
  · rw [if_pos q0, if_pos (Or.inl q0), if_pos rfl, bnd_e, isZ0, gd_e]
    exact pr_end h1 _
  · rw [if_neg q0]
    by_cases q1 : v ≤ nI t
    · have q2 : ¬ (v < 0 ∨ nI t < v) := fun q => q.elim q0 (i_nlt.mpr q1)
      rw [if_pos q1, if_neg q2, if_neg n10, lt_e, bnd_e, isZ1, gd_e]
      obtain ⟨j, hj, rfl⟩ := nI_of q0
      have hjt : j ≤ t := (nI_leI hj (by omega)).mp q1
      refine sm_end (Q := fun r μ' r' ν' => r' = r ∧ Rel V c b B μ' ν') ⟨rfl, h1.text (fun k i q => ?_) (fun k i q => ?_) (fun _ => rfl) (fun _ => rfl) ⟨j, by omega, ?_, ?_, fun i hi => ?_⟩⟩
      · rw [gI_sI, if_neg]
        rintro ⟨rfl, rfl⟩
        exact Bool.noConfusion q
      · rw [gI_sI, if_neg]
        rintro ⟨rfl, rfl⟩
        exact Bool.noConfusion q
      · rw [gI_sI, if_pos ⟨rfl, rfl⟩]
      · rw [gI_sI, if_pos ⟨rfl, rfl⟩]
      · exact t4 i (by omega)
    · rw [if_neg q1, if_pos (Or.inr (i_nle.mp q1)), if_pos rfl, bnd_e, isZ0, gd_e]
      exact pr_end h1 _
end Pure25
