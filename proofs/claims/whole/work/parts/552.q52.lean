section Pure52
variable {V : VT} {c b B : Nat} {μ ν : Mem} {s : Nat → Nat} {t a : Nat}
def TK (c n T : Nat) (μ : Mem) : Prop := (n = 0 ∧ AG c μ = nI T) ∨ (0 < n ∧ gI μ 5 6 = nI T)
theorem c_man0 (rt : RT V c b B μ ν) {n T : Nat} (hn : c + n < 6) (tk : TK c n T μ) : fX3_readsOne_5_1 (nI n) μ = fX3_readsOne_5_1_b35 (nI (c + n)) (nI T) μ := by
  have h6 := rt.c6
  unfold fX3_readsOne_5_1
  rw [rt.men, nI_add, lt_e, if_neg (nI_pos (by omega)), if_pos (show nI (c + n) < (6 : Int32) from nI_lt (b := 6) hn (by decide))]
  rcases tk with ⟨rfl, e⟩ | ⟨h0, e⟩
  · rw [if_pos (show nI 0 = 0 from rfl), c_goods' rt.men h6, bnd_e, e]
  · rw [if_neg (nI_ne0 h0 (by omega)), e]
theorem imax_back {x : Nat} (hx : x < 2 ^ 30) : imax 0 (nI (x + 1) - 1) = nI x := by
  rw [nI_pred]
  unfold imax
  by_cases q : x = 0
  · subst q; rfl
  · rw [if_pos (show (0 : Int32) < nI x from nI_lt (a := 0) (by omega) (by omega))]
theorem i5 {n : Nat} : (5 : Int32) * nI n = nI (5 * n) := nI_mul 5 n
theorem man_line (hk : OkT 133 s t 76) {n T : Nat} (hn : c + n < 6) (hT : T < 256) (pc : PC s t 76 a μ) (pm : PM 133 s t 76 a ν) (rt : RT V c b B μ ν) (tk : TK c n T μ) (hat : a ≤ 80) (md : MD c n μ ν) (f : Nat) :
    (∃ w μ' ν', w ≤ 80 ∧ fX3_readsOne_5_1 (nI n) μ = some (0, μ') ∧ gI μ' 1 2 = nI w ∧ Off (wGn c) μ μ' ∧ pLine (fun p1 p2 p3 m => fX12_prisoners_122_b29 (f + 1) p1 p2 p3 m) (nI n) (nI T) ν = some (-1 - nI w, ν') ∧ Off scM ν ν') ∨
    (∃ a' T' μ' ν', T' < 256 ∧ a' ≤ min t 76 ∧ fX3_readsOne_5_1 (nI n) μ = some (1, μ') ∧ pLine (fun p1 p2 p3 m => fX12_prisoners_122_b29 (f + 1) p1 p2 p3 m) (nI n) (nI T) ν = fX12_prisoners_122_b71 (fun p1 p2 p3 m => fX12_prisoners_122_b29 (f + 1) p1 p2 p3 m) (nI n) (nI T') ν' ∧ PC s t 76 a' μ' ∧ Off (wGn c) μ μ' ∧ Off scM ν ν' ∧ TK c (n + 1) T' μ' ∧ MD c (n + 1) μ' ν' ∧ (PM 133 s t 76 a' ν' ∨ (gI ν' 122 22 = nI a' ∧ a' < min t 76 ∧ s a' ≠ 59))) := by
  rw [c_man0 rt hn tk]
  unfold fX3_readsOne_5_1_b35 fX3_readsMan_5_1 pLine fX12_readMan_122
  rw [lt_e, i5]
  obtain ⟨M0, eM0⟩ : ∃ M, M = sI μ 5 6 (nI T) := ⟨_, rfl⟩
  rw [← eM0]
  have oM0 : Off (gP c n) μ M0 := by rw [eM0]; exact (Off.refl μ).sI rfl
  have pc0 : PC s t 76 a M0 := by rw [eM0]; exact pc.off (P := fun a _ => a == 5) ((Off.refl _).sI rfl) (fun a j z => by rw [beq_iff_eq] at z; omega)
  have t0 : gI M0 5 6 = nI T := by rw [eM0]; rfl
  clear eM0
  rcases num_both hk pc0 pm (by omega) (show 1 ≤ 2 by decide) (by decide) with ⟨v1, a1, M1, N1, e1, e2, hv1, l1, l1', pc1, pm1, o1, o2⟩ | ⟨e1, e2⟩
  · rw [show fX9_number_1 2 _ = _ from e1, show fX12_number_122 2 _ = _ from e2, bnd_e, bnd_e]
    have z1 : gI (sI M1 6 (c + n) (nI v1)) 6 (c + n) = nI v1 := by rw [gI_sI, if_pos ⟨rfl, rfl⟩]
    have z2 : gI (sI N1 135 (5 * n) (nI v1)) 135 (5 * n) = nI v1 := by rw [gI_sI, if_pos ⟨rfl, rfl⟩]
    have f1 : gI (sI N1 135 (5 * n) (nI v1)) 122 22 = -1 := pm1.2.2.2.2.1
    simp (disch := omega) only [gd_in, ix_nI, lt_e]
    rw [z1, mFine f1, bnd_e, if_neg n10, z2]
    have oM1 : Off (gP c n) μ (sI M1 6 (c + n) (nI v1)) := (oM0.tr (o1.mono (fun k j z => by unfold wA at z; unfold gP; rw [z]; rfl))).sI (gP_k (by omega))
    have oN1 : Off (gQ n) ν (sI N1 135 (5 * n) (nI v1)) := ((Off.refl ν).tr (o2.mono (fun k j z => by unfold gQ; rw [z]; rfl))).sI (gQ_35 (by omega))
    by_cases v0 : v1 = 0
    · left
      subst v0
      obtain ⟨a1, rfl⟩ := Nat.exists_eq_succ_of_ne_zero (show a1 ≠ 0 by omega)
      have b1 : gI (sI M1 6 (c + n) (nI 0)) 1 2 = nI (a1 + 1) := pc1.2.1
      have b2 : gI (sI N1 135 (5 * n) (nI 0)) 122 21 = nI (a1 + 1) := pm1.2.2.2.1
      obtain ⟨ν', x1, x2, x3⟩ := xM39 (ν := sI (sI N1 135 (5 * n) (nI 0)) 122 22 (nI a1)) (w := a1) (q := 5 * n) (by omega) rfl (by omega) (nI T)
      unfold fX9_back_1 fX3_readsMan_5_1_b24
      rw [if_pos (show nI 0 = 0 from rfl), if_pos (show nI 0 = 0 from rfl), b1, imax_back (by omega), lt_e, bnd_e, gd_in (by omega) (by decide), ix_nI (by omega), show gI (sI (sI M1 6 (c + n) (nI 0)) 1 2 (nI a1)) 6 (c + n) = nI 0 from z1, if_pos (by decide), bnd_e, if_pos rfl, mFault f1, bnd_e, b2, nI_pred, x1, bnd_e, xP71 (by omega) x3]
      exact ⟨a1, _, ν', by omega, rfl, rfl, (oM1.sI rfl).mono (fun _ _ z => gP_G z), rfl, ((oN1.mono (fun _ _ z => gQ_sc z)).sI rfl).tr x2⟩
    · rw [if_neg (nI_ne0 (by omega) (by omega)), if_neg (nI_ne0 (by omega) (by omega))]
      unfold fX3_readsMan_5_1_b24 fX12_readMan_122_b39
      rw [gd_in (by omega) (by decide), ix_nI (by omega), z1, if_neg (nI_nle (by omega) (by omega))]
      have pc1' : PC s t 76 a1 (sI M1 6 (c + n) (nI v1)) := pc1.off (P := fun a _ => a == 6) ((Off.refl _).sI rfl) (fun a j z => by rw [beq_iff_eq] at z; omega)
      have pm1' : PM 133 s t 76 a1 (sI N1 135 (5 * n) (nI v1)) := pm1.off (P := fun a _ => a == 135) ((Off.refl _).sI rfl) (fun a j z => by rw [beq_iff_eq] at z; omega)
      have t1 : gI (sI M1 6 (c + n) (nI v1)) 5 6 = nI T := (o1.1 5 6 rfl).trans t0
      obtain ⟨M2, eM2⟩ : ∃ M, M = sI M1 6 (c + n) (nI v1) := ⟨_, rfl⟩
      obtain ⟨N2, eN2⟩ : ∃ M, M = sI N1 135 (5 * n) (nI v1) := ⟨_, rfl⟩
      rw [← eM2] at z1 oM1 pc1' t1 ⊢
      rw [← eN2] at z2 oN1 pm1' ⊢
      clear eM2 eN2 f1
      rcases take_both hk pc1' pm1' (by omega) (x := 44) (by decide) with ⟨l2, e1, e2, -⟩ | ⟨-, e1, e2, -⟩
      · rw [show fX9_takes_1 44 M2 = _ from e1, show fX12_need_122 44 N2 = _ from e2, bnd_e, bnd_e, if_neg n10]
        rcases num_both hk (pc1'.to (a1 + 1)) (pm1'.to hk (a1 + 1)) (by omega) (show 1 ≤ 2 by decide) (by decide) with ⟨v2, a3, M3, N3, e1, e2, hv2, l3, l3', pc3, pm3, o3, o4⟩ | ⟨e1, e2⟩
        · rw [show fX9_number_1 2 _ = _ from e1, show fX12_number_122 2 _ = _ from e2, bnd_e, bnd_e, show nI (5 * n) + 1 = nI (5 * n + 1) from nI_add _ 1]
          simp (disch := omega) only [gd_in, ix_nI, lt_e]
          have y1 : gI (sI M3 7 (c + n) (nI v2)) 7 (c + n) = nI v2 := by rw [gI_sI, if_pos ⟨rfl, rfl⟩]
          have y2 : gI (sI N3 135 (5 * n + 1) (nI v2)) 135 (5 * n + 1) = nI v2 := by rw [gI_sI, if_pos ⟨rfl, rfl⟩]
          have y3 : gI (sI M3 7 (c + n) (nI v2)) 6 (c + n) = nI v1 := (o3.1 6 (c + n) rfl).trans z1
          have y4 : gI (sI N3 135 (5 * n + 1) (nI v2)) 135 (5 * n) = nI v1 := by
            rw [gI_sI, if_neg (by omega)]
            exact (o4.1 135 (5 * n) rfl).trans z2
          rw [y1, if_neg (nI_pos (by omega)), bnd_e, if_neg n10]
          have oM3 : Off (gP c n) μ (sI M3 7 (c + n) (nI v2)) := ((oM1.sI (k := 1) (j := 2) rfl).tr (o3.mono (fun k j z => by unfold wA at z; unfold gP; rw [z]; rfl))).sI (gP_k (by omega))
          have oN3 : Off (gQ n) ν (sI N3 135 (5 * n + 1) (nI v2)) := ((oN1.sI (k := 122) (j := 21) rfl).tr (o4.mono (fun k j z => by unfold gQ; rw [z]; rfl))).sI (gQ_35 (by omega))
          have V4 := man_voice (μ := sI M3 7 (c + n) (nI v2)) (ν := sI N3 135 (5 * n + 1) (nI v2)) hk hn hT (pc3.off (P := fun a _ => a == 7) ((Off.refl _).sI rfl) (fun a j z => by rw [beq_iff_eq] at z; omega)) (pm3.off (P := fun a _ => a == 135) ((Off.refl _).sI rfl) (fun a j z => by rw [beq_iff_eq] at z; omega)) (by omega) ((o3.1 5 6 rfl).trans t1)
          rcases V4 with ⟨w, μ', ν', q1, q2, q3, q4, q5, q6, q7⟩ | ⟨a', T', u, v4, v5, μ', ν', q0, q1, q2, q3, q4, q5, q6, q7, q8, q9, q10, q11, q12, q13, q14, q15, q16, q17, q18, q19⟩
          · left
            refine ⟨w, μ', ν', q1, ?_, q3, (oM3.tr q4).mono (fun _ _ z => gP_G z), ?_, (oN3.mono (fun _ _ z => gQ_sc z)).tr q7⟩
            · rw [q2, bnd_e, if_pos rfl]
            · rw [show bnd (fX12_passes_122 45 (sI N3 135 (5 * n + 1) (nI v2))) _ = _ from q5, bnd_e]
              exact xP71 (by omega) q6 f _ _
          · right
            refine ⟨a', T', μ', ν', q3, q4, ?_, ?_, q7, (oM3.tr q8).mono (fun _ _ z => gP_G z), (oN3.tr q9).mono (fun _ _ z => gQ_sc z), Or.inr ⟨by omega, q10⟩, fun i hi => ?_, q19⟩
            · rw [q5, bnd_e, if_neg n10]
            · rw [show bnd (fX12_passes_122 45 (sI N3 135 (5 * n + 1) (nI v2))) _ = _ from q6, bnd_e]
            · by_cases e : i = n
              · subst e
                rw [q11 6 (by omega) (by omega), q11 7 (by omega) (by omega), y3, y1, q15 _ (by omega), q15 _ (by omega), y4, y2]
                exact ⟨rfl, rfl, ⟨u, q0, q12, q16⟩, ⟨v4, q1, q13, q17⟩, v5, q2, q14, q18⟩
              · have oc := oM3.tr q8
                have om := oN3.tr q9
                rw [oc.1 6 _ (gP_old (by omega) (by omega)), oc.1 7 _ (gP_old (by omega) (by omega)), oc.1 8 _ (gP_old (by omega) (by omega)), oc.1 9 _ (gP_old (by omega) (by omega)), oc.1 10 _ (gP_old (by omega) (by omega)), om.1 135 _ (gQ_old (by omega)), om.1 135 _ (gQ_old (by omega)), om.1 135 _ (gQ_old (by omega)), om.1 135 _ (gQ_old (by omega)), om.1 135 _ (gQ_old (by omega))]
                exact md i (by omega)
        · left
          obtain ⟨ν', x1, x2, x3⟩ := xM79 (ν := sI (sI (sI N2 122 21 (nI (a1 + 1))) 122 22 (nI (a1 + 1))) 135 (5 * n + 1) 0) (w := a1 + 1) (q := 5 * n) (by omega) rfl (by omega) (nI T)
          rw [show fX9_number_1 2 _ = _ from e1, show fX12_number_122 2 _ = _ from e2, bnd_e, bnd_e, show nI (5 * n) + 1 = nI (5 * n + 1) from nI_add _ 1, show nI (5 * n) + 2 = nI (5 * n + 2) from nI_add _ 2]
          simp (disch := omega) only [gd_in, ix_nI, lt_e]
          rw [xPass (w := a1 + 1) (by omega) (by rfl), bnd_e, if_pos rfl, x1, bnd_e, xP71 (by omega) x3]
          have y1 : gI (sI (sI M2 1 2 (nI (a1 + 1))) 7 (c + n) (-1)) 7 (c + n) = -1 := by rw [gI_sI, if_pos ⟨rfl, rfl⟩]
          rw [y1, if_pos (by decide), bnd_e, if_pos rfl]
          exact ⟨a1 + 1, _, ν', by omega, rfl, rfl, ((oM1.sI rfl).sI (gP_k (by omega))).mono (fun _ _ z => gP_G z), rfl, ((((oN1.mono (fun _ _ z => gQ_sc z)).sI rfl).sI rfl).sI rfl).tr x2⟩
      · left
        obtain ⟨ν', x1, x2, x3⟩ := xM79 (ν := sI (sI N2 122 22 (nI a1)) 135 (5 * n + 1) 0) (w := a1) (q := 5 * n) (by omega) rfl (by omega) (nI T)
        rw [show fX9_takes_1 44 M2 = _ from e1, show fX12_need_122 44 N2 = _ from e2, bnd_e, bnd_e, if_pos rfl, bnd_e, if_pos rfl, xNum (w := a1) (by omega) (by rfl), bnd_e, show nI (5 * n) + 1 = nI (5 * n + 1) from nI_add _ 1, show nI (5 * n) + 2 = nI (5 * n + 2) from nI_add _ 2, gd_in (by omega) (by decide), ix_nI (by omega), lt_e, xPass (w := a1) (by omega) (by rfl), bnd_e, if_pos rfl, x1, bnd_e, xP71 (by omega) x3]
        exact ⟨a1, M2, ν', by omega, rfl, pc1'.2.1, oM1.mono (fun _ _ z => gP_G z), rfl, (((oN1.mono (fun _ _ z => gQ_sc z)).sI rfl).sI rfl).tr x2⟩
  · left
    obtain ⟨ν', x1, x2, x3⟩ := xM39 (ν := sI (sI ν 122 22 (nI a)) 135 (5 * n) 0) (w := a) (q := 5 * n) (by omega) rfl (by omega) (nI T)
    rw [show fX9_number_1 2 _ = _ from e1, show fX12_number_122 2 _ = _ from e2, bnd_e, bnd_e]
    have z1 : gI (sI M0 6 (c + n) (-1)) 6 (c + n) = -1 := by rw [gI_sI, if_pos ⟨rfl, rfl⟩]
    simp (disch := omega) only [gd_in, ix_nI, lt_e]
    unfold fX3_readsMan_5_1_b24
    rw [z1, if_neg (by decide), gd_in (by omega) (by decide), ix_nI (by omega), z1, if_pos (by decide), bnd_e, if_pos rfl, xFine (w := a) (by omega) (by rfl), bnd_e, if_pos rfl, x1, bnd_e, xP71 (by omega) x3]
    exact ⟨a, _, ν', by omega, rfl, pc0.2.1, (oM0.sI (gP_k (by omega))).mono (fun _ _ z => gP_G z), rfl, (((Off.refl ν).sI rfl).sI rfl).tr x2⟩
end Pure52
