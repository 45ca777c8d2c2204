section Pure21
variable {V : VT} {c b B : Nat} {μ ν : Mem}
theorem Rel.of0 (h0 : Rel0 V c b B μ ν) (t : Rt μ ν) (r : Rr μ ν) (p : Rp c B μ ν) (k : Rk c B μ ν) : Rel V c b B μ ν := ⟨h0.1, h0.2.1, h0.2.2.1, h0.2.2.2.1, t, r, p, k, h0.2.2.2.2⟩
theorem Rp.push {n nx : Nat} (hn : n ≤ 12) (hx : nx < 13) (old : ∀ i, i < n → (∀ j, j < 27 → gI ν 138 (27 * i + j) = hl μ (43 + 5 * ((nx + 13 - n + i) % 13)) j) ∧ HOk c B (hl μ (43 + 5 * ((nx + 13 - n + i) % 13)))) {f : Nat → Int32} (hf : HOk c B f) {μ2 ν2 : Mem} (h1 : gI μ2 29 1 = nI ((nx + 1) % 13)) (h2 : gI μ2 29 2 = nI (min 12 (n + 1))) (hs : ∀ x, x < 13 → x ≠ nx → ∀ j, j < 27 → hl μ2 (43 + 5 * x) j = hl μ (43 + 5 * x) j) (hsn : ∀ j, j < 27 → hl μ2 (43 + 5 * nx) j = f j) (h3 : gI ν2 122 29 = nI (min 12 (n + 1))) (he : ∀ i, i + 1 < min 12 (n + 1) → ∀ j, j < 27 → gI ν2 138 (27 * i + j) = gI ν 138 (27 * (i + (n + 1 - min 12 (n + 1))) + j)) (hl' : ∀ j, j < 27 → gI ν2 138 (27 * (min 12 (n + 1) - 1) + j) = f j) : Rp c B μ2 ν2 := by
  obtain ⟨n', hn'⟩ : ∃ n', n' = min 12 (n + 1) := ⟨_, rfl⟩
  rw [← hn'] at h2 h3 he hl'
  have d1 : 1 ≤ n' := by omega
  refine ⟨n', (nx + 1) % 13, by omega, by omega, h1, h2, h3, fun i hi => ?_⟩
  by_cases q : i + 1 = n'
  · have e : ((nx + 1) % 13 + 13 - n' + i) % 13 = nx := by omega
    rw [e]
    refine ⟨fun j hj => ?_, HOk_cg hf hsn⟩
    rw [hsn j hj, show i = n' - 1 by omega]
    exact hl' j hj
  · obtain ⟨i', hi'⟩ : ∃ i', i' = i + (n + 1 - n') := ⟨_, rfl⟩
    have e : ((nx + 1) % 13 + 13 - n' + i) % 13 = (nx + 13 - n + i') % 13 := by omega
    have ne : (nx + 13 - n + i') % 13 ≠ nx := by omega
    have lt : (nx + 13 - n + i') % 13 < 13 := by omega
    obtain ⟨o1, o2⟩ := old i' (by omega)
    rw [e]
    refine ⟨fun j hj => ?_, HOk_cg o2 (hs _ lt ne)⟩
    rw [hs _ lt ne j hj, he i (by omega) j hj, ← hi']
    exact o1 j hj
theorem cc_out {k j Y : Nat} (h : cc k j = Y) (hY : Y ≠ 7) {x : Nat} (hx : x < 13) : k < 43 + 5 * x ∨ 43 + 5 * x + 4 < k := by
  by_cases q1 : 43 ≤ k
  · by_cases q2 : k ≤ 107
    · rw [cc_past q1 q2] at h
      exact absurd h.symm hY
    · omega
  · omega
theorem cc29 {k j Y : Nat} (h : cc k j = Y) (hY : Y ≠ 7) (hi : j = 1 ∨ j = 2) : k ≠ 29 := by
  rintro rfl
  rcases hi with rfl | rfl
  · exact hY (h.symm)
  · exact hY (h.symm)
def sealM (μ : Mem) (nx n : Nat) : Mem := sI (sI μ 29 1 (nI ((nx + 1) % 13))) 29 2 (nI (min 12 (n + 1)))
theorem sealM_o {nx n k j : Nat} (h : ¬ (k = 29 ∧ (j = 1 ∨ j = 2))) : gI (sealM μ nx n) k j = gI μ k j := by
  unfold sealM
  rw [gI_sI, if_neg (by omega), gI_sI, if_neg (by omega)]
theorem Rel.noted (h : Rel V c b B μ ν) {nx n : Nat} (hx : nx < 13) (h1 : gI μ 29 1 = nI nx) (hn : n ≤ 12) (h2 : gI μ 29 2 = nI n) : Rel V c b B (tkM μ 33 (43 + 5 * nx)) ν := by
  have f : ∀ Y, Y ≠ 7 → ∀ k j, cc k j = Y → gI (tkM μ 33 (43 + 5 * nx)) k j = gI μ k j := fun Y hY k j q => tkM_o j (cc_out q hY hx)
  have e : ∀ Y, ∀ k j, mc k j = Y → gI ν k j = gI ν k j := fun _ _ _ _ => rfl
  refine ⟨h.1.cg (f 1 (by decide)) (e 1), h.2.1.cg (f 2 (by decide)) (e 2), h.2.2.1.cg (f 3 (by decide)) (e 3), h.2.2.2.1.cg (f 4 (by decide)) (e 4), h.2.2.2.2.1.cg (f 5 (by decide)) (e 5), h.2.2.2.2.2.1.cg (f 6 (by decide)) (e 6) (fun _ => rfl) (fun _ => rfl), ?_, h.2.2.2.2.2.2.2.1.cg (f 8 (by decide)) (e 8), h.2.2.2.2.2.2.2.2.cg (f 9 (by decide)) (e 9)⟩
  obtain ⟨n0, nx0, a1, a2, a3, a4, a5, a6⟩ := h.2.2.2.2.2.2.1
  rw [h1, nI_eq (by omega) (by omega)] at a3
  rw [h2, nI_eq (by omega) (by omega)] at a4
  subst a3 a4
  refine ⟨n, nx, hn, hx, ?_, ?_, a5, fun i hi => ?_⟩
  · rw [tkM_o 1 (by omega), h1]
  · rw [tkM_o 2 (by omega), h2]
  · have ne : (nx + 13 - n + i) % 13 ≠ nx := by omega
    have lt : (nx + 13 - n + i) % 13 < 13 := by omega
    have hq : ∀ j, hl (tkM μ 33 (43 + 5 * nx)) (43 + 5 * ((nx + 13 - n + i) % 13)) j = hl μ (43 + 5 * ((nx + 13 - n + i) % 13)) j := fun j => hl_cg (fun a j' ha _ => tkM_o j' (by omega)) j
    rw [show hl (tkM μ 33 (43 + 5 * nx)) (43 + 5 * ((nx + 13 - n + i) % 13)) = hl μ (43 + 5 * ((nx + 13 - n + i) % 13)) from funext hq]
    exact a6 i hi
def Rm (S n : Nat) (ν ν' : Mem) : Prop := (∀ k i, k ≠ 138 → ¬ (k = 122 ∧ i = 29) → gI ν' k i = gI ν k i) ∧ (∀ k i, gL ν' k i = gL ν k i) ∧ gI ν' 122 29 = nI (min 12 (n + 1)) ∧ (∀ i, i + 1 < min 12 (n + 1) → ∀ j, j < 27 → gI ν' 138 (27 * i + j) = gI ν 138 (27 * (i + (n + 1 - min 12 (n + 1))) + j)) ∧ ∀ j, j < 27 → gI ν' 138 (27 * (min 12 (n + 1) - 1) + j) = gI ν S j
theorem mc138 {k j Y : Nat} (h : mc k j = Y) (hY : Y ≠ 7) : k ≠ 138 ∧ ¬ (k = 122 ∧ j = 29) := by
  refine ⟨?_, ?_⟩
  · rintro rfl
    exact hY h.symm
  · rintro ⟨rfl, rfl⟩
    exact hY h.symm
theorem Rel.push (h : Rel V c b B μ ν) {nx n B' : Nat} (hx : nx < 13) (h1 : gI μ 29 1 = nI nx) (hn : n ≤ 12) (h2 : gI μ 29 2 = nI n) (hB : B ≤ B') {μ2 ν1 ν2 : Mem} (o : Off (xC 4) (tkM μ 33 (43 + 5 * nx)) μ2) (rm : ∃ S, Rm S n ν ν1 ∧ ∀ j, j < 27 → gI ν S j = hl μ 33 j) (o' : Off (xM 4) ν1 ν2) (hh : Rh c B' μ2 ν2) : Rel V c b B' (sealM μ2 nx n) ν2 := by
  obtain ⟨S, ⟨r1, r2, r3, r4, r5⟩, rS⟩ := rm
  have f : ∀ Y, Y ≠ 0 → Y ≠ 4 → Y ≠ 7 → ∀ k j, cc k j = Y → gI (sealM μ2 nx n) k j = gI μ k j := fun Y h0 h4 h7 k j q => by
    rw [sealM_o (fun z => cc29 q h7 z.2 z.1), xC_at h0 h4 o.1 k j q]
    exact tkM_o j (cc_out q h7 hx)
  have e : ∀ Y, Y ≠ 0 → Y ≠ 4 → Y ≠ 7 → ∀ k j, mc k j = Y → gI ν2 k j = gI ν k j := fun Y h0 h4 h7 k j q => by
    rw [xM_at h0 h4 o'.1 k j q]
    exact r1 k j (mc138 q h7).1 (mc138 q h7).2
  have fl : ∀ j, gL (sealM μ2 nx n) 4 j = gL μ 4 j := fun j => o.2 4 j
  have el : ∀ j, gL ν2 134 j = gL ν 134 j := fun j => (o'.2 134 j).trans (r2 134 j)
  have h' := h.mono hB
  refine ⟨h.1.cg (f 1 (by decide) (by decide) (by decide)) (e 1 (by decide) (by decide) (by decide)), h.2.1.cg (f 2 (by decide) (by decide) (by decide)) (e 2 (by decide) (by decide) (by decide)), h.2.2.1.cg (f 3 (by decide) (by decide) (by decide)) (e 3 (by decide) (by decide) (by decide)), hh.cg (fun k j q => sealM_o (fun z => cc29 q (by decide) z.2 z.1)) (fun _ _ _ => rfl), h.2.2.2.2.1.cg (f 5 (by decide) (by decide) (by decide)) (e 5 (by decide) (by decide) (by decide)), h.2.2.2.2.2.1.cg (f 6 (by decide) (by decide) (by decide)) (e 6 (by decide) (by decide) (by decide)) fl el, ?_, h'.2.2.2.2.2.2.2.1.cg (f 8 (by decide) (by decide) (by decide)) (e 8 (by decide) (by decide) (by decide)), h.2.2.2.2.2.2.2.2.cg (f 9 (by decide) (by decide) (by decide)) (e 9 (by decide) (by decide) (by decide))⟩
  obtain ⟨n0, nx0, a1, a2, a3, a4, a5, a6⟩ := h'.2.2.2.2.2.2.1
  rw [h1, nI_eq (by omega) (by omega)] at a3
  rw [h2, nI_eq (by omega) (by omega)] at a4
  subst a3 a4
  have m7 : ∀ k j, mc k j = 7 → gI ν2 k j = gI ν1 k j := xM_at (by decide) (by decide) o'.1
  have c7 : ∀ k j, cc k j = 7 → gI μ2 k j = gI (tkM μ 33 (43 + 5 * nx)) k j := xC_at (by decide) (by decide) o.1
  have hq : ∀ x, x < 13 → ∀ j, hl (sealM μ2 nx n) (43 + 5 * x) j = hl (tkM μ 33 (43 + 5 * nx)) (43 + 5 * x) j := fun x hx2 j => hl_cg (fun a j' ha _ => by
    rw [sealM_o (by omega)]
    exact c7 a j' (cc_past (by omega) (by omega))) j
  refine Rp.push hn hx a6 h'.2.2.2.1.2 ?_ ?_ (fun x hx2 hne j hj => ?_) (fun j hj => ?_) ?_ (fun i hi j hj => ?_) (fun j hj => ?_)
  · unfold sealM
    rw [gI_sI, if_neg (by omega), gI_sI, if_pos ⟨rfl, rfl⟩]
  · unfold sealM
    rw [gI_sI, if_pos ⟨rfl, rfl⟩]
  · rw [hq x hx2 j]
    exact hl_cg (fun a j' ha _ => tkM_o j' (by omega)) j
  · rw [hq nx hx j]
    exact tkM_hl (by omega) hj
  · rw [m7 122 29 rfl]; exact r3
  · rw [m7 138 _ rfl]; exact r4 i hi j hj
  · rw [m7 138 _ rfl, r5 j hj]; exact rS j hj
theorem Rel.pst (h : Rel V c b B μ ν) : ∃ n nx, n ≤ 12 ∧ nx < 13 ∧ gI μ 29 1 = nI nx ∧ gI μ 29 2 = nI n ∧ gI ν 122 29 = nI n := by
  obtain ⟨n, nx, a1, a2, a3, a4, a5, -⟩ := h.2.2.2.2.2.2.1
  exact ⟨n, nx, a1, a2, a3, a4, a5⟩
theorem cl99 (x : Int32) : ∃ s, s ≤ 99 ∧ imax 0 (imin 99 x) = nI s := by
  unfold imax imin
  by_cases q : x < 99
  · rw [if_pos q]
    by_cases q2 : 0 < x
    · rw [if_pos q2]
      have a := q
      have a2 := q2
      rw [i_lt, show (99 : Int32).toInt = 99 from rfl] at a
      rw [i_lt, Int32.toInt_zero] at a2
      obtain ⟨j, hj, rfl⟩ := nI_of (show ¬ x < 0 by rw [i_lt, Int32.toInt_zero]; omega)
      rw [nI_toInt hj] at a
      exact ⟨j, by omega, rfl⟩
    · rw [if_neg q2]
      exact ⟨0, by omega, rfl⟩
  · rw [if_neg q, if_pos (by decide)]
    exact ⟨99, by omega, rfl⟩
theorem c_done {n x : Nat} (hn : n ≤ 12) (hx : x < 13) (h1 : gI μ 29 1 = nI x) (h2 : gI μ 29 2 = nI n) {r : Int32} (hr : ¬ r < 0) : fX11_doneBy_0 r μ = some (r, sealM μ x n) := by
  unfold fX11_doneBy_0
  rw [if_neg hr, c_seal hn hx h1 h2, bnd_e]
  rfl
theorem c_undone {r : Int32} (hr : r < 0) : fX11_doneBy_0 r μ = some (r, μ) := by
  unfold fX11_doneBy_0
  rw [if_pos hr]
theorem neg1_lt : (-1 : Int32) < 0 := by decide
theorem pr_lay (h : Rel V c b B μ ν) (v v2 : Int32) : Pr V c b B (fX11_lay_0 v v2 μ) (fX12_lay__122 v v2 ν) := by
  have h1 := m17 h 0
  have h6 := h.c6
  obtain ⟨n, nx, p1, p2, p3, p4, p5⟩ := h1.pst
  have hN := h1.noted p2 p3 p1 p4
  unfold fX11_lay_0 fX12_lay__122 fX4_layOn_33 fX12_refusesLay_122
  rw [lt_e, c_note p2 p3, bnd_e]
  rcases man_or hN v with ⟨e1, e2, e3, -⟩ | ⟨p, hp, rfl, e1, e2, e3, -⟩
  · rw [e3, e2, bnd_e, bnd_e, if_pos rfl, if_pos rfl, bnd_e, bnd_e, c_undone neg1_lt, bnd_e, if_neg (by decide)]
    exact pr_end hN _
  · rw [e3, e2, bnd_e, bnd_e, if_neg n10, if_neg n10, m_in, bnd_e]
    by_cases z : v2 = 0
    · rw [if_pos z, if_pos z, bnd_e, bnd_e, c_undone neg1_lt, bnd_e, if_neg (by decide)]
      exact pr_end hN _
    · rw [if_neg z, if_neg z]
      by_cases q1 : v2 < -50
      · rw [if_pos q1, if_pos (Or.inl q1), if_pos rfl, bnd_e, bnd_e, c_undone neg1_lt, bnd_e, if_neg (by decide)]
        exact pr_end hN _
      · rw [if_neg q1]
        by_cases q2 : v2 ≤ 50
        · have q3 : ¬ (v2 < -50 ∨ 50 < v2) := fun q => q.elim q1 (i_nlt.mpr q2)
          rw [if_pos q2, if_neg q3, if_neg n10, c_sil_33 (by omega), bnd_e]
          simp (disch := omega) only [gd_in, ix_nI, st_33 hN.hl0, lt_e]
          by_cases es : gI (tkM μ 33 (43 + 5 * nx)) 34 p = 0
          · obtain ⟨s, hs, ex⟩ := cl99 (gI (tkM μ 33 (43 + 5 * nx)) 35 p + v2)
            have z0 : (0 : Int32) ≤ 0 := by decide
            simp only [if_pos es, if_neg n10, bnd_e, ex, if_pos z0]
            rw [gI_sI, if_pos ⟨rfl, rfl⟩, c_done p1 p2 (by rw [gI_sI, if_neg (by omega), tkM_o 1 (by omega)]; exact p3) (by rw [gI_sI, if_neg (by omega), tkM_o 2 (by omega)]; exact p4) (nI_pos (by omega)), bnd_e]
            refine sm_R (m_remember_123 p1 p5) (fun _ ν1 rm => ?_)
            unfold fX12_goLay_123
            have e7 : gI ν1 123 (6 + p) = gI (tkM μ 33 (43 + 5 * nx)) 35 p := by rw [rm.1 123 (6 + p) (by decide) (by omega)]; exact laid_33 hN.hl0 (by omega)
            simp (disch := omega) only [a6, gd_in, ix_nI, lt_e, bnd_e, e7, ex]
            rw [gI_sI, if_pos ⟨rfl, rfl⟩]
            refine sm_end ⟨rfl, h1.push p2 p3 p1 p4 (Nat.le_refl _) ((Off.refl _).sI rfl) ⟨123, rm, fun j hj => h1.hl0.1 j hj⟩ ((Off.refl _).sI rfl) ?_⟩
            have hh : Rh c B (tkM μ 33 (43 + 5 * nx)) ν1 := hN.hl0.cg (fun _ _ _ => rfl) (fun k j q => rm.1 k j (mc138 q (by decide)).1 (mc138 q (by decide)).2)
            exact hh.set (by omega) (fun j _ => hs1 (by omega) _ j) (hh.2.laid (by omega) hs)
          · rw [if_neg es, if_pos rfl, if_neg es, bnd_e, bnd_e, c_undone neg2_lt, bnd_e, if_neg (by decide)]
            exact pr_end hN _
        · rw [if_neg q2, if_pos (Or.inr (i_nle.mp q2)), if_pos rfl, bnd_e, bnd_e, c_undone neg1_lt, bnd_e, if_neg (by decide)]
          exact pr_end hN _
end Pure21
