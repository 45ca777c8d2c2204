section Pure40
variable {V : VT} {c b B : Nat} {μ ν : Mem}
theorem byte_lt : ∀ x, x < 128 → (nI x).toInt8.toInt32 = nI x := by decide +kernel
theorem byte_255 : ∀ x, x < 256 → (nI x).toInt8.toInt32 &&& 255 = nI x := by decide +kernel
theorem byte_neg : ∀ x, x < 128 → (nI (128 + x)).toInt8.toInt32 < 0 := by decide +kernel
theorem byte_nar : ∀ x, x < 256 → vp_nar .byte ((nI x).toInt8.toInt32) = (nI x).toInt8.toInt32 := by decide +kernel
theorem char_nar : ∀ x, x < 256 → vp_nar .char (toCh (nI x)) = nI x := by decide +kernel
theorem byte_eq {x ch : Nat} (hx : x < 256) (hc : ch < 128) : nI ch = (nI x).toInt8.toInt32 ↔ x = ch := by
  by_cases q : x < 128
  · rw [byte_lt x q, nI_eq (by omega) (by omega)]
    exact ⟨fun h => h.symm, fun h => h.symm⟩
  · constructor
    · intro h
      have := byte_neg (x - 128) (by omega)
      rw [show 128 + (x - 128) = x by omega, ← h] at this
      exact absurd this (nI_pos (by omega))
    · omega
theorem bv255 (y : BitVec 32) : y &&& 255#32 = BitVec.ofNat 32 (y.toNat % 256) := by
  apply BitVec.eq_of_toNat_eq
  rw [BitVec.toNat_and, BitVec.toNat_ofNat, BitVec.toNat_ofNat, show 255 % 2 ^ 32 = 2 ^ 8 - 1 from rfl, Nat.and_two_pow_sub_one_eq_mod]
  omega
theorem low8 (y : Int32) : ∃ x, x < 256 ∧ y &&& 255 = nI x ∧ y.toInt8 = (nI x).toInt8 := by
  refine ⟨y.toBitVec.toNat % 256, by omega, Int32.toBitVec_inj.mp (bv255 y.toBitVec), ?_⟩
  apply Int8.toBitVec_inj.mp
  show y.toBitVec.signExtend 8 = (nI (y.toBitVec.toNat % 256)).toBitVec.signExtend 8
  rw [nI_bv]
  apply BitVec.eq_of_toNat_eq
  rw [BitVec.signExtend_eq_setWidth_of_le _ (by decide), BitVec.signExtend_eq_setWidth_of_le _ (by decide), BitVec.toNat_setWidth, BitVec.toNat_setWidth, BitVec.toNat_ofNat]
  omega
theorem sh_low {s : Nat} (hs : s ≤ 24) (v : BitVec 32) : (v.sshiftRight s).signExtend 8 = (v >>> s).signExtend 8 := by
  rw [BitVec.signExtend_eq_setWidth_of_le _ (by decide), BitVec.signExtend_eq_setWidth_of_le _ (by decide)]
  apply BitVec.eq_of_getLsbD_eq
  intro i hi
  rw [BitVec.getLsbD_setWidth, BitVec.getLsbD_setWidth, BitVec.getLsbD_sshiftRight, BitVec.getLsbD_ushiftRight, if_pos (by omega)]
  rw [decide_eq_false (show ¬ 32 ≤ i by omega)]
  rfl
theorem sign_at {k : Nat} (hk : k < 4) (v : Int32) : ∃ x, x < 256 ∧ vp_nar .char (toCh ((ushr v (nI (8 * k))) &&& 255)) = nI x ∧ vp_nar .byte (Int8.toInt32 (Int32.toInt8 (v >>> (((8 : Int32) * nI k) &&& 31)))) = (nI x).toInt8.toInt32 := by
  obtain ⟨x, hx, e1, e2⟩ := low8 (ushr v (nI (8 * k)))
  refine ⟨x, hx, by rw [e1, char_nar x hx], ?_⟩
  have : (v >>> (((8 : Int32) * nI k) &&& 31)).toInt8 = (ushr v (nI (8 * k))).toInt8 := by
    apply Int8.toBitVec_inj.mp
    obtain rfl | rfl | rfl | rfl : k = 0 ∨ k = 1 ∨ k = 2 ∨ k = 3 := by omega
    · exact sh_low (s := 0) (by omega) v.toBitVec
    · exact sh_low (s := 8) (by omega) v.toBitVec
    · exact sh_low (s := 16) (by omega) v.toBitVec
    · exact sh_low (s := 24) (by omega) v.toBitVec
  rw [this, e2, byte_nar x hx]
theorem Rel.sign1 (h : Rel V c b B μ ν) {t : Nat} (ht : t < 80) (h1 : gI μ 1 1 = nI t) (h2 : gI ν 122 14 = nI t) {x : Nat} (hx : x < 256) : Rel V c b B (sI (sI μ 2 t (nI x)) 1 1 (nI (t + 1))) (sI (sI ν 122 14 (nI (t + 1))) 133 t ((nI x).toInt8.toInt32)) := by
  obtain ⟨t', t1, t2, t3, t4⟩ := h.2.2.2.2.1
  obtain rfl : t = t' := (nI_eq (by omega) (by omega)).mp (h1.symm.trans t2)
  refine h.text (fun k j q => ?_) (fun k j q => ?_) (fun _ => rfl) (fun _ => rfl) ⟨t + 1, by omega, rfl, ?_, fun j hj => ?_⟩
  · rw [gI_sI, if_neg, gI_sI, if_neg]
    · rintro ⟨rfl, rfl⟩
      exact Bool.noConfusion q
    · rintro ⟨rfl, rfl⟩
      exact Bool.noConfusion q
  · rw [gI_sI, if_neg, gI_sI, if_neg]
    · rintro ⟨rfl, rfl⟩
      exact Bool.noConfusion q
    · rintro ⟨rfl, rfl⟩
      exact Bool.noConfusion q
  · rw [gI_sI, if_neg (by omega), gI_sI, if_pos ⟨rfl, rfl⟩]
  · rw [gI_sI, if_neg (by omega), gI_sI, gI_sI, gI_sI]
    by_cases e : j = t
    · exact ⟨x, hx, by rw [if_pos ⟨rfl, e⟩], by rw [if_pos ⟨rfl, e⟩]⟩
    · rw [if_neg (fun z => e z.2), if_neg (fun z => e z.2), if_neg (by omega)]
      exact t4 j (by omega)
theorem sign_in (v : Int32) : ∀ (m f t : Nat) (μ ν : Mem), Rel V c b B μ ν → gI μ 1 1 = nI t → gI ν 122 14 = nI t → m ≤ 4 → t + m ≤ 80 → m < f → Pr V c b B (fX9_add_1_b16 f v (nI (8 * m) - 8) μ) (fX12_sign_122_b20 f v (nI m - 1) ν) := by
  intro m
  induction m with
  | zero =>
    intro f t μ ν h h1 h2 h3 h4 h5
    obtain ⟨f, rfl⟩ := Nat.exists_eq_succ_of_ne_zero (show f ≠ 0 by omega)
    rw [fX9_add_1_b16, fX12_sign_122_b20, if_pos (by decide), if_pos (by decide), h1, h2]
    exact pr_end h _
  | succ m ih =>
    intro f t μ ν h h1 h2 h3 h4 h5
    obtain ⟨f, rfl⟩ := Nat.exists_eq_succ_of_ne_zero (show f ≠ 0 by omega)
    have e8 : nI (8 * (m + 1)) - 8 = nI (8 * m) := by rw [show (8 : Int32) = nI 8 from rfl, nI_sub (by omega) (by omega), show 8 * (m + 1) - 8 = 8 * m by omega]
    have e1 : nI (m + 1) - 1 = nI m := nI_pred m
    obtain ⟨x, hx, a1, a2⟩ := sign_at (show m < 4 by omega) v
    rw [e8, e1, fX9_add_1_b16, fX12_sign_122_b20, if_neg (nI_pos (by omega)), if_neg (nI_pos (by omega)), h1, h2, gd_in (by omega) (by decide), lt_e, lt_e, lt_e, gd_in (by omega) (by decide), ix_nI (by omega), lt_e, a1, a2, nI_1, show gI (sI μ 2 t (nI x)) 1 1 = gI μ 1 1 from rfl, h1, nI_1, show nI (8 * m) + (-8) = nI (8 * m) - 8 from (Int32.sub_eq_add_neg _ _).symm, show nI m + (-1) = nI m - 1 from (Int32.sub_eq_add_neg _ _).symm]
    refine ih f (t + 1) _ _ (h.sign1 (by omega) h1 h2 hx) rfl ?_ (by omega) (by omega) (by omega)
    rw [gI_sI, if_neg (by omega), gI_sI, if_pos ⟨rfl, rfl⟩]
theorem pr_sign (h : Rel V c b B μ ν) (v : Int32) : Pr V c b B (fX11_sign_0 v μ) (fX12_sign_122 v ν) := by
  have h1 := m17 h 0
  obtain ⟨t, t1, t2, t3, t4⟩ := h1.2.2.2.2.1
  unfold fX11_sign_0 fX9_add_1 fX12_sign_122
  rw [lt_e, t2, t3, show nI t + 4 = nI (t + 4) from nI_add t 4]
  by_cases q : t + 4 ≤ 80
  · have e : nI (t + 4) ≤ (80 : Int32) := nI_le (b := 80) q (by decide)
    rw [if_pos e, if_pos e]
    have := sign_in v 4 FU t μ _ h1 t2 t3 (by omega) q (by decide)
    obtain ⟨r, μ1, r', ν1, q1, q2, q3⟩ := this
    rw [show fX9_add_1_b16 FU v 24 μ = _ from q1, show fX12_sign_122_b20 FU v 3 (sI ν 122 17 0) = _ from q2, bnd_e]
    exact sm_end q3
  · have e : ¬ nI (t + 4) ≤ (80 : Int32) := nI_ge (a := 80) (by omega) (by omega)
    rw [if_neg e, if_neg e, bnd_e]
    exact pr_end h1 _
end Pure40
