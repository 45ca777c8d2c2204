section Pure30
variable {V : VT} {c b B : Nat} {μ ν : Mem}
def bc (v0 : Int32) : Int32 := lt (v0 - ((ushr v0 (1 : Int32)) &&& (1431655765 : Int32))) fun x1 => lt ((x1 &&& (858993459 : Int32)) + ((ushr x1 (2 : Int32)) &&& (858993459 : Int32))) fun x2 => lt ((x2 + (ushr x2 (4 : Int32))) &&& (252645135 : Int32)) fun x3 => lt (x3 + (ushr x3 (8 : Int32))) fun x4 => lt (x4 + (ushr x4 (16 : Int32))) fun x5 => x5 &&& (63 : Int32)
theorem bc_e (x : Int32) : fJ6_bitCount_0f7a4 x μ = some (bc x, μ) := rfl
theorem then_hall (h : Rel V c b B μ ν) : ∃ ν', fX12_lay_123_140 0 ν = some ((), ν') ∧ Off scM ν ν' ∧ Off scC μ (tkM μ 33 38) ∧ Rh2 c B (tkM μ 33 38) ν' := by
  unfold fX12_lay_123_140
  obtain ⟨ν', e1, e2, e3, e4⟩ := mLay_123_140 (base := 0) (by omega) 27 FU 0 ν rfl (by decide)
  have hh : ∀ j, j < 27 → hl (tkM μ 33 38) 38 j = hl μ 33 j := fun j hj => tkM_hl (by omega) hj
  refine ⟨ν', e1, ⟨fun k j q => e2 k j (by rintro rfl; exact Bool.noConfusion q), e3⟩, ⟨fun k j q => ?_, fun _ _ => rfl⟩, fun j hj => ?_, HOk_cg h.hl0.2 hh⟩
  · have : k < 38 ∨ 42 < k := by
      by_cases z : 38 ≤ k ∧ k ≤ 42
      · obtain g | g | g | g | g : k = 38 ∨ k = 39 ∨ k = 40 ∨ k = 41 ∨ k = 42 := by omega
        all_goals (subst g; exact Bool.noConfusion q)
      · omega
    exact tkM_o j (by omega)
  · rw [e4 j, if_pos (by omega), hh j hj, Nat.sub_zero]
    exact h.hl0.1 j hj
theorem Rh2.tm {ν' : Mem} {l : List Int64} (h : Rh2 c B μ ν) (t : TM ν ν' l) : Rh2 c B μ ν' := h.off (fun _ _ _ _ => rfl) (fun j => t.1 140 j rfl)
theorem pr_silent (h : Rel V c b B μ ν) (hB : B + 3000 < 2 ^ 30) (v : Int32) : Pr V c b B (fX11_silent_0 v μ) (fX12_silent_122 v ν) := by
  have h1 := m17 h 0
  have h6 := h.c6
  unfold fX11_silent_0 fX12_silent_122 fX11_diedOf fX11_overOf
  rw [lt_e, m_in, bnd_e]
  rcases rng_or v 0 60 (lo := 0) (hi := 60) rfl rfl (by decide) (by decide) with ⟨q1, q2⟩ | ⟨q1, q3, q2⟩ | ⟨k, -, hk, rfl, a1, a2, a3⟩
  · rw [if_pos q1, if_pos q2, if_pos rfl]
    exact pr_end h1 _
  · rw [if_neg q1, if_neg q3, if_pos q2, if_pos rfl]
    exact pr_end h1 _
  · rw [if_neg a1, if_pos a2, if_neg a3, if_neg n10, take_38_33, bnd_e]
    obtain ⟨ν1, e1, om, oc, hh⟩ := then_hall h1
    rw [e1, bnd_e]
    have hT : Rel V c b B (tkM μ 33 38) ν1 := (h1.sc oc).sm om
    have r0 : Rel0 V c b (B + 1500) (tkM μ 33 38) ν1 := hT.r0.mono (by omega)
    have hh' : Rh2 c (B + 1500) (tkM μ 33 38) ν1 := ⟨hh.1, hh.2.mono (by omega)⟩
    obtain ⟨d, hdB, hd⟩ := dayB_38 hh
    refine pass_38 (n := k) (d := d) (L := fun f i m => fX12_silent_122_b31 f (nI k) (nI i) m) r0 (by omega) (by omega) (by omega) rfl (fun f ν' => by rw [fX12_silent_122_b31, if_pos (nI_le (Nat.le_refl _) (by omega))]) (fun f i ν' hi => by rw [fX12_silent_122_b31, if_neg (nI_ge hi (by omega)), nI_1]) (fun r μ2 ν2 q => ?_) k FU 0 0 _ _ (by omega) (fu_lt (by omega)) (NQ_0_38 r0 hh' hd)
    obtain ⟨rfl, q2, q3, q4, q5, q6, q7⟩ := q
    have hR : Rel V c b B μ2 ν2 := (hT.sc (q5.mono (fun _ _ => pC_sc))).sm (q6.mono (fun _ _ => pM_sc))
    have st : ∀ i, i < 6 → gI μ2 34 i = gI (tkM μ 33 38) 39 i := fun i hi => by
      rw [q5.1 34 i rfl, tkM_o i (by omega)]
      have e5 : hl (tkM μ 33 38) 38 i = hl μ 33 i := tkM_hl (by omega) (by omega)
      rw [hl_0 hi, hl_0 hi] at e5
      exact e5.symm
    have kd : ∀ k, KD_33 c μ2 k = KD_38 c (tkM μ 33 38) k := fun k => KDs_cg k c 0 0 (fun i hi => st i (by omega))
    simp only [bnd_e, lt_e, bc_e]
    rw [wd_died _ (nwlt_38 h6 2) _ (nwlt_38 h6 5), wd_over _ (nwlt_38 h6 2) _ (nwlt_38 h6 5)]
    refine sm_L (c_tell2 _ _) (fun _ μ4 t => ?_)
    have t0 := TM.nil ν2
    have r1 := q3.tm t0
    rw [m_kindz_140 r1 (q4.tm t0), bnd_e, m_kindz_123 r1 r1.hl0, bnd_e, kd, less_38 h6]
    refine sm_R (m_tell t0 (by decide) _) (fun _ ν3 t1 => ?_)
    have r2 := q3.tm t1
    rw [m_kindz_140 r2 (q4.tm t1), bnd_e, m_kindz_123 r2 r2.hl0, bnd_e, kd, less_38 h6]
    refine sm_R (m_tell t1 (by simp) _) (fun _ ν4 t2 => ?_)
    have r3 := q3.tm t2
    rw [m_kindz_140 r3 (q4.tm t2), bnd_e, show fX4_thoseWho_38 0 μ4 = _ from cKD_38 (by rw [t.1 5 5 rfl]; exact q3.men) h6 0 c FU 0 0 (by omega) (fu_lt (by omega)), bnd_e]
    have e9 : KDs (gI μ4 39) 0 0 c 0 = KD_38 c μ2 0 := KDs_cg 0 c 0 0 (fun i _ => t.1 39 i rfl)
    rw [e9]
    exact pr_end (hR.tell t t2 (by simp)) _
end Pure30
