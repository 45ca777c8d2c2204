section Pure29
variable {V : VT} {c b B : Nat} {μ ν : Mem}
theorem pass_33 {β γ : Type} (h : Rel0 V c b B μ ν) (hB : B + 1000 < 2 ^ 30) {d n : Nat} (hn : n ≤ 100) (hdB : d + n ≤ B) {e : Int32} (he : e = gI μ 0 14) {Q : γ → Mem → β → Mem → Prop} {f1 : Int32 → Mem → Option (γ × Mem)} {L : Nat → Nat → Mem → Option (β × Mem)} {T : Mem → Option (β × Mem)} (L0 : ∀ f ν', L (f + 1) n ν' = T ν') (L1 : ∀ f i ν', i < n → L (f + 1) i ν' = bnd (fX12_goNight_122_123 ν') fun _ m => L f (i + 1) m) (K : ∀ r μ2 ν2, NQ_33 V c b B (d + n) μ ν r μ2 ν2 → Sm Q (f1 r μ2) (T ν2)) : ∀ (m f i : Nat) (a : Int32) (μ' ν' : Mem), i + m = n → m < f → NQ_33 V c b B (d + i) μ ν a μ' ν' → Sm Q (bnd (fX4_pass_33_b5 f (nI n) e a (nI i) μ') f1) (L f i ν') := by
  have h6 := h.c6
  intro m
  induction m with
  | zero =>
    intro f i a μ' ν' h1 h2 q
    obtain ⟨f, rfl⟩ := Nat.exists_eq_succ_of_ne_zero (show f ≠ 0 by omega)
    obtain rfl : i = n := by omega
    rw [fX4_pass_33_b5, if_pos (nI_le (Nat.le_refl _) (by omega)), bnd_e, L0]
    exact K a μ' ν' q
  | succ m ih =>
    intro f i a μ' ν' h1 h2 q
    obtain ⟨f, rfl⟩ := Nat.exists_eq_succ_of_ne_zero (show f ≠ 0 by omega)
    rw [fX4_pass_33_b5, if_neg (nI_ge (by omega) (by omega)), L1 f i ν' (by omega)]
    obtain ⟨q1, q2, q3, q4, q5, q6, q7⟩ := id q
    obtain ⟨r, μ2, u, ν2, c1, c2, c3⟩ := night_33 q3 q4 hB q7 (show d + i + 1 ≤ B by omega) (show e = gI μ' 0 14 from he.trans (q5.1 0 14 rfl).symm)
    rw [c1, c2, bnd_e, bnd_e, lt_e, nI_1]
    exact ih f (i + 1) _ μ2 ν2 (by omega) (by omega) (NQ_tr_33 h6 q c3)
theorem less_33 (hc : c ≤ 6) {μ' : Mem} (k : Int32) : KD_33 c μ' k &&& (KD_33 c μ k ^^^ -1) = nI (bN (nw_33 μ μ' k) c) := by
  rw [KD_bN_33 hc, KD_bN_33 hc, nI_less]
  congr 1
  apply Nat.eq_of_testBit_eq
  intro i
  rw [Nat.testBit_and, Nat.testBit_xor, bN_bit, bN_bit, bN_bit]
  unfold nw_33
  cases decide (i < c) <;> cases decide (gI μ' 34 i = k) <;> cases decide (gI μ 34 i = k) <;> rfl
theorem nwlt_33 (hc : c ≤ 6) {μ' : Mem} (k : Int32) : bN (nw_33 μ μ' k) c < 64 := Nat.lt_of_lt_of_le (bN_lt _ c) (by
  have : 2 ^ c ≤ 2 ^ 6 := Nat.pow_le_pow_right (by decide) hc
  omega)
theorem pass_38 {β γ : Type} (h : Rel0 V c b B μ ν) (hB : B + 1000 < 2 ^ 30) {d n : Nat} (hn : n ≤ 100) (hdB : d + n ≤ B) {e : Int32} (he : e = gI μ 0 14) {Q : γ → Mem → β → Mem → Prop} {f1 : Int32 → Mem → Option (γ × Mem)} {L : Nat → Nat → Mem → Option (β × Mem)} {T : Mem → Option (β × Mem)} (L0 : ∀ f ν', L (f + 1) n ν' = T ν') (L1 : ∀ f i ν', i < n → L (f + 1) i ν' = bnd (fX12_goNight_122_140 ν') fun _ m => L f (i + 1) m) (K : ∀ r μ2 ν2, NQ_38 V c b B (d + n) μ ν r μ2 ν2 → Sm Q (f1 r μ2) (T ν2)) : ∀ (m f i : Nat) (a : Int32) (μ' ν' : Mem), i + m = n → m < f → NQ_38 V c b B (d + i) μ ν a μ' ν' → Sm Q (bnd (fX4_pass_38_b5 f (nI n) e a (nI i) μ') f1) (L f i ν') := by
  have h6 := h.c6
  intro m
  induction m with
  | zero =>
    intro f i a μ' ν' h1 h2 q
    obtain ⟨f, rfl⟩ := Nat.exists_eq_succ_of_ne_zero (show f ≠ 0 by omega)
    obtain rfl : i = n := by omega
    rw [fX4_pass_38_b5, if_pos (nI_le (Nat.le_refl _) (by omega)), bnd_e, L0]
    exact K a μ' ν' q
  | succ m ih =>
    intro f i a μ' ν' h1 h2 q
    obtain ⟨f, rfl⟩ := Nat.exists_eq_succ_of_ne_zero (show f ≠ 0 by omega)
    rw [fX4_pass_38_b5, if_neg (nI_ge (by omega) (by omega)), L1 f i ν' (by omega)]
    obtain ⟨q1, q2, q3, q4, q5, q6, q7⟩ := id q
    obtain ⟨r, μ2, u, ν2, c1, c2, c3⟩ := night_38 q3 q4 hB q7 (show d + i + 1 ≤ B by omega) (show e = gI μ' 0 14 from he.trans (q5.1 0 14 rfl).symm)
    rw [c1, c2, bnd_e, bnd_e, lt_e, nI_1]
    exact ih f (i + 1) _ μ2 ν2 (by omega) (by omega) (NQ_tr_38 h6 q c3)
theorem less_38 (hc : c ≤ 6) {μ' : Mem} (k : Int32) : KD_38 c μ' k &&& (KD_38 c μ k ^^^ -1) = nI (bN (nw_38 μ μ' k) c) := by
  rw [KD_bN_38 hc, KD_bN_38 hc, nI_less]
  congr 1
  apply Nat.eq_of_testBit_eq
  intro i
  rw [Nat.testBit_and, Nat.testBit_xor, bN_bit, bN_bit, bN_bit]
  unfold nw_38
  cases decide (i < c) <;> cases decide (gI μ' 39 i = k) <;> cases decide (gI μ 39 i = k) <;> rfl
theorem nwlt_38 (hc : c ≤ 6) {μ' : Mem} (k : Int32) : bN (nw_38 μ μ' k) c < 64 := Nat.lt_of_lt_of_le (bN_lt _ c) (by
  have : 2 ^ c ≤ 2 ^ 6 := Nat.pow_le_pow_right (by decide) hc
  omega)
theorem Rel0.tm {ν' : Mem} {l : List Int64} (h : Rel0 V c b B μ ν) (t : TM ν ν' l) : Rel0 V c b B μ ν' :=
  have f : ∀ Y k j, cc k j = Y → gI μ k j = gI μ k j := fun _ _ _ _ => rfl
  have e : ∀ Y, Y ≠ 6 → ∀ k j, mc k j = Y → gI ν' k j = gI ν k j := fun Y hY k j q => t.1 k j (by
    cases z : (k == 122 && j == 16) with
    | false => rfl
    | true =>
      simp only [Bool.and_eq_true, beq_iff_eq] at z
      obtain ⟨rfl, rfl⟩ := z
      exact absurd q.symm hY)
  ⟨h.1.cg (f 1) (e 1 (by decide)), h.2.1.cg (f 2) (e 2 (by decide)), h.2.2.1.cg (f 3) (e 3 (by decide)), h.2.2.2.1.cg (f 4) (e 4 (by decide)), h.2.2.2.2.cg (f 9) (e 9 (by decide))⟩
theorem Rel0.mono {B' : Nat} (h : Rel0 V c b B μ ν) (hB : B ≤ B') : Rel0 V c b B' μ ν := ⟨h.1, h.2.1, h.2.2.1, ⟨h.2.2.2.1.1, h.2.2.2.1.2.mono hB⟩, h.2.2.2.2⟩
theorem pr_nights (h : Rel V c b B μ ν) (hB : B + 3000 < 2 ^ 30) (v : Int32) : Pr V c b (B + 1500) (fX11_nights_0 v μ) (fX12_nights_122 v ν) := by
  have h1 := m17 h 0
  have h6 := h.c6
  obtain ⟨n, nx, p1, p2, p3, p4, p5⟩ := h1.pst
  have hN := h1.noted p2 p3 p1 p4
  obtain ⟨d, hdB, hd⟩ := dayB_33 hN.hl0
  unfold fX11_nights_0 fX12_nights_122 fX11_nights_0_b47 fX12_nights_122_b29 fX11_diedOf fX11_overOf
  rw [lt_e, m_in, bnd_e]
  rcases rng_or v 0 60 (lo := 0) (hi := 60) rfl rfl (by decide) (by decide) with ⟨q1, q2⟩ | ⟨q1, q3, q2⟩ | ⟨k, -, hk, rfl, a1, a2, a3⟩
  · rw [if_pos q1, if_pos q2, if_pos rfl]
    exact pr_end (h1.mono (by omega)) _
  · rw [if_neg q1, if_neg q3, if_pos q2, if_pos rfl]
    exact pr_end (h1.mono (by omega)) _
  · rw [if_neg a1, if_pos a2, if_neg a3, if_neg n10, c_note p2 p3, bnd_e]
    -- what both tell in the end
    have tail : ∀ (r : Int32) (μ2 ν1 ν2 μ3 : Mem), NQ_33 V c b (B + 1500) (d + k) (tkM μ 33 (43 + 5 * nx)) ν1 r μ2 ν2 → (∀ a j, a ≠ 29 → gI μ3 a j = gI μ2 a j) → Rel V c b (B + 1500) μ3 ν2 → Pr V c b (B + 1500) (bnd (some (r &&& 255, μ3)) fun r7 m8 => bnd (some (r >>> ((8 : Int32) &&& 31), m8)) fun r9 m10 => bnd (fX7_tell__3 (Int32.toInt64 r7) (Int32.toInt64 r9) m10) fun r11 m12 => some (gI m12 33 4, m12)) (lt (sI ν2 122 16 (0 : Int32)) fun m10 => bnd (fX12_ofKind_122_123 (2 : Int32) m10) fun r11 m12 => bnd (fX12_tell_122 (Int32.toInt64 (r11 &&& (KD_33 c (tkM μ 33 (43 + 5 * nx)) 2 ^^^ (-1 : Int32)))) m12) fun r13 m14 => bnd (fX12_ofKind_122_123 (5 : Int32) m14) fun r15 m16 => bnd (fX12_tell_122 (Int32.toInt64 (r15 &&& (KD_33 c (tkM μ 33 (43 + 5 * nx)) 5 ^^^ (-1 : Int32)))) m16) fun r17 m18 => gd (inb (26 : Int32) 27) (some (gI m18 123 (ix (26 : Int32)), m18))) := by
      intro r μ2 ν1 ν2 μ3 q hm hR
      obtain ⟨rfl, q2, q3, q4, q5, q6, q7⟩ := q
      rw [bnd_e, bnd_e, wd_died _ (nwlt_33 h6 2) _ (nwlt_33 h6 5), wd_over _ (nwlt_33 h6 2) _ (nwlt_33 h6 5), lt_e]
      refine sm_L (c_tell2 _ _) (fun _ μ4 t => ?_)
      have t0 := TM.nil ν2
      have r0 := q3.tm t0
      rw [m_kindz_123 r0 r0.hl0, bnd_e, less_33 h6]
      refine sm_R (m_tell t0 (by decide) _) (fun _ ν3 t1 => ?_)
      have r1 := q3.tm t1
      rw [m_kindz_123 r1 r1.hl0, bnd_e, less_33 h6]
      refine sm_R (m_tell t1 (by simp) _) (fun _ ν4 t2 => ?_)
      have r2 := q3.tm t2
      have eD : gI ν4 123 26 = gI μ4 33 4 := by
        rw [day_33 r2.hl0, q7, t.1 33 4 rfl, hm 33 4 (by decide), q7]
      rw [in26, gd_e, ix26, eD]
      exact pr_end (hR.tell t t2 (by simp)) _
    by_cases z : k = 0
    · subst z
      rw [if_pos (show nI 0 ≤ 0 by decide)]
      have hN' := hN.mono (show B ≤ B + 1500 by omega)
      have hp0 : fX4_pass_33 (nI 0) (gI (tkM μ 33 (43 + 5 * nx)) 0 14) (tkM μ 33 (43 + 5 * nx)) = some (0, tkM μ 33 (43 + 5 * nx)) := by
        show fX4_pass_33_b5 (999 + 1) (nI 0) _ 0 (nI 0) _ = _
        rw [fX4_pass_33_b5, if_pos (by decide)]
      rw [m_kind_123 hN' hN'.hl0, bnd_e, m_kind_123 hN' hN'.hl0, bnd_e, hp0, bnd_e, if_pos (show nI 0 ≤ 0 by decide)]
      show Pr V c b (B + 1500) _ (fX12_nights_122_b52 (999 + 1) (nI 0) _ _ (nI 0) _)
      rw [fX12_nights_122_b52, if_pos (show nI 0 ≤ nI 0 by decide)]
      exact tail 0 _ _ _ _ (NQ_0_33 hN'.r0 hN'.hl0 hd) (fun _ _ _ => rfl) hN'
    · have z1 : ¬ nI k ≤ 0 := nI_nle (by omega) (by omega)
      rw [if_neg z1]
      refine sm_R (m_remember_123 p1 p5) (fun _ ν1 rm => ?_)
      have r0 : Rel0 V c b (B + 1500) (tkM μ 33 (43 + 5 * nx)) ν1 := (hN.r0.rem rm).mono (by omega)
      rw [m_kindz_123 r0 r0.hl0, bnd_e, m_kindz_123 r0 r0.hl0, bnd_e]
      refine pass_33 (n := k) (d := d) (L := fun f i m => fX12_nights_122_b52 f (nI k) _ _ (nI i) m) r0 (by omega) (by omega) (by omega) rfl (fun f ν' => by rw [fX12_nights_122_b52, if_pos (nI_le (Nat.le_refl _) (by omega))]) (fun f i ν' hi => by rw [fX12_nights_122_b52, if_neg (nI_ge hi (by omega)), nI_1]) (fun r μ2 ν2 q => ?_) k FU 0 0 _ _ (by omega) (fu_lt (by omega)) (NQ_0_33 r0 r0.hl0 hd)
      obtain ⟨q1, q2, q3, q4, q5, q6, q7⟩ := id q
      rw [if_neg z1, c_seal p1 p2 (by rw [q5.1 29 1 rfl, tkM_o 1 (by omega)]; exact p3) (by rw [q5.1 29 2 rfl, tkM_o 2 (by omega)]; exact p4), bnd_e]
      exact tail r μ2 ν1 ν2 _ q (fun a j ha => by rw [gne ha, gne ha]) (h1.push p2 p3 p1 p4 (by omega) q5 ⟨123, rm, fun j hj => h1.hl0.1 j hj⟩ q6 q4)
end Pure29
