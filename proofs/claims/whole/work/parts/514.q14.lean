section Pure14
variable {V : VT} {c b B : Nat} {μ ν : Mem}
def CT (μ : Mem) (en : Nat → Int32) (tgt : Int32) (p s : Nat) : Int32 := if 2 ≤ s ∧ (if en (s - 2) = 0 then gI μ 9 p else if en (s - 2) = 1 then 4 else 5) = tgt then WO μ (gI μ 10 p) else 0
def HBs (μ : Mem) (en : Nat → Int32) (tgt : Int32) (st : Nat → Nat) : Nat → Nat → Int32
  | _, 0 => 0
  | p, m + 1 => CT μ en tgt p (st p) + HBs μ en tgt st (p + 1) m
def tg (who x : Int32) : Int32 := if who = 0 then x else if who = 1 then 4 else 5
theorem tg0 (x : Int32) : tg 0 x = x := by unfold tg; rw [if_pos rfl]
theorem tg1 (x : Int32) : tg 1 x = 4 := by unfold tg; rw [if_neg (show ¬ (1 : Int32) = 0 by decide), if_pos rfl]
theorem tg2 (x : Int32) : tg 2 x = 5 := by unfold tg; rw [if_neg (show ¬ (2 : Int32) = 0 by decide), if_neg (show ¬ (2 : Int32) = 1 by decide)]
theorem l4 : (4 : Int32) = nI 4 := rfl
theorem sub2 {s : Nat} (h : 2 ≤ s) (hs : s < 2 ^ 30) : nI s - 2 = nI (s - 2) := by rw [show (2 : Int32) = nI 2 from rfl, nI_sub h (by omega)]
theorem sub2n {s : Nat} (h : s < 2) : nI s - 2 < 0 := by
  obtain rfl | rfl : s = 0 ∨ s = 1 := by omega
  · decide
  · decide
theorem cFT_25 (hm : gI μ 5 5 = nI c) (h6 : c ≤ 6) (st : Nat → Nat) (hst : ∀ p, p < c → st p ≤ 5 ∧ gI μ 34 p = nI (st p)) (hH : ∀ p, p < c → ∃ s, s < 4 ∧ gI μ 9 p = nI s) (hE : ∀ e, e < 4 → ∃ s, s < 3 ∧ gI μ 25 e = nI s) {who x : Int32} (hw : (who = 0 ∧ ∃ s, s < 4 ∧ x = nI s) ∨ who = 1 ∨ who = 2) : ∀ (m f p : Nat) (a : Int32), p + m = c → m < f → fX11_fallsTo_0_25_b6 f who x a (nI p) μ = some (a + HBs μ (gI μ 25) (tg who x) st p m, μ) := by
  intro m
  induction m with
  | zero =>
    intro f p a h1 h2
    obtain ⟨f, rfl⟩ := Nat.exists_eq_succ_of_ne_zero (show f ≠ 0 by omega)
    rw [fX11_fallsTo_0_25_b6, hm, if_pos (nI_le (by omega) (by omega)), HBs, Int32.add_zero]
  | succ m ih =>
    intro f p a h1 h2
    obtain ⟨f, rfl⟩ := Nat.exists_eq_succ_of_ne_zero (show f ≠ 0 by omega)
    obtain ⟨s5, es⟩ := hst p (by omega)
    have ihz : ∀ a, fX11_fallsTo_0_25_b6 f who x a (nI p + 1) μ = some (a + HBs μ (gI μ 25) (tg who x) st (p + 1) m, μ) := fun a => by
      rw [nI_1]; exact ih f (p + 1) a (by omega) (by omega)
    rw [fX11_fallsTo_0_25_b6, hm, if_neg (nI_ge (by omega) (by omega)), gd_in (by omega) (by decide), ix_nI (by omega), lt_e, es, HBs, gd_in (by omega) (by decide)]
    have key : ∀ q0 : Int32, (q0 = 0 ∨ q0 = 1) → (q0 = 1 ↔ (who = 0 → gI μ 9 p = x)) → fX11_fallsTo_0_25_b55 (fun p2 p3 p4 p5 m => fX11_fallsTo_0_25_b6 f p2 p3 p4 p5 m) who x a (nI p) (nI (st p) - 2) q0 μ = some (a + (CT μ (gI μ 25) (tg who x) p (st p) + HBs μ (gI μ 25) (tg who x) st (p + 1) m), μ) := by
      intro q0 hq hq2
      unfold fX11_fallsTo_0_25_b55 CT
      by_cases s2 : 2 ≤ st p
      · obtain ⟨k, hk, ek⟩ := hE (st p - 2) (by omega)
        obtain ⟨y, hy, ey⟩ := hH p (by omega)
        rw [sub2 s2 (by omega), if_neg (nI_pos (by omega)), if_neg (show ¬ (4 : Int32) ≤ nI (st p - 2) from nI_ge (b := 4) (by omega) (by decide)), gd_in (by omega) (by decide), ix_nI (by omega)]
        have t : (gI μ 25 (st p - 2) = who ∧ q0 = 1) ↔ (2 ≤ st p ∧ (if gI μ 25 (st p - 2) = 0 then gI μ 9 p else if gI μ 25 (st p - 2) = 1 then 4 else 5) = tg who x) := by
          rw [hq2, ek]
          rcases hw with ⟨rfl, z, hz, rfl⟩ | rfl | rfl
          · rw [ey]
            obtain rfl | rfl | rfl : k = 0 ∨ k = 1 ∨ k = 2 := by omega
            · simp only [tg0, show nI 0 = 0 from rfl, if_true, s2, true_and, true_implies]
            · rw [tg0, if_neg (show ¬ nI 1 = 0 by decide), if_pos (show nI 1 = 1 by decide)]
              refine ⟨fun q => absurd q.1 (by decide), fun q => ?_⟩
              have q2 := q.2
              rw [l4, nI_eq (by omega) (by omega)] at q2
              omega
            · rw [tg0, if_neg (show ¬ nI 2 = 0 by decide), if_neg (show ¬ nI 2 = 1 by decide)]
              refine ⟨fun q => absurd q.1 (by decide), fun q => ?_⟩
              have q2 := q.2
              rw [show (5 : Int32) = nI 5 from rfl, nI_eq (by omega) (by omega)] at q2
              omega
          · rw [ey]
            obtain rfl | rfl | rfl : k = 0 ∨ k = 1 ∨ k = 2 := by omega
            · rw [tg1, if_pos (show nI 0 = 0 by decide)]
              refine ⟨fun q => absurd q.1 (by decide), fun q => ?_⟩
              have q2 := q.2
              rw [l4, nI_eq (by omega) (by omega)] at q2
              omega
            · rw [tg1, if_neg (show ¬ nI 1 = 0 by decide), if_pos (show nI 1 = 1 by decide)]
              exact ⟨fun _ => ⟨s2, rfl⟩, fun _ => ⟨rfl, fun q => absurd q (by decide)⟩⟩
            · rw [tg1, if_neg (show ¬ nI 2 = 0 by decide), if_neg (show ¬ nI 2 = 1 by decide)]
              exact ⟨fun q => absurd q.1 (by decide), fun q => absurd q.2 (by decide)⟩
          · rw [ey]
            obtain rfl | rfl | rfl : k = 0 ∨ k = 1 ∨ k = 2 := by omega
            · rw [tg2, if_pos (show nI 0 = 0 by decide)]
              refine ⟨fun q => absurd q.1 (by decide), fun q => ?_⟩
              have q2 := q.2
              rw [show (5 : Int32) = nI 5 from rfl, nI_eq (by omega) (by omega)] at q2
              omega
            · rw [tg2, if_neg (show ¬ nI 1 = 0 by decide), if_pos (show nI 1 = 1 by decide)]
              exact ⟨fun q => absurd q.1 (by decide), fun q => absurd q.2 (by decide)⟩
            · rw [tg2, if_neg (show ¬ nI 2 = 0 by decide), if_neg (show ¬ nI 2 = 1 by decide)]
              exact ⟨fun _ => ⟨s2, rfl⟩, fun _ => ⟨rfl, fun q => absurd q (by decide)⟩⟩
        by_cases g : gI μ 25 (st p - 2) = who ∧ q0 = 1
        · rw [if_pos g.1, g.2, if_neg n10, gd_in (by omega) (by decide), ix_nI (by omega), c_worth, bnd_e, lt_e, if_pos (t.mp g)]
          rw [← Int32.add_assoc]
          exact ihz _
        · rw [if_neg (fun q => g (t.mpr q)), Int32.zero_add]
          by_cases g1 : gI μ 25 (st p - 2) = who
          · rw [if_pos g1, if_pos (hq.resolve_right (fun q => g ⟨g1, q⟩))]
            exact ihz _
          · rw [if_neg g1]
            exact ihz _
      · rw [if_pos (sub2n (by omega)), if_neg (fun q => s2 q.1), Int32.zero_add]
        exact ihz _
    by_cases w0 : who = 0
    · rw [if_pos w0]
      by_cases e : gI μ 9 p = x
      · rw [if_pos e]
        exact key 1 (Or.inr rfl) ⟨fun _ _ => e, fun _ => rfl⟩
      · rw [if_neg e]
        exact key 0 (Or.inl rfl) ⟨fun q => absurd q (by decide), fun q => absurd (q w0) e⟩
    · rw [if_neg w0]
      exact key 1 (Or.inr rfl) ⟨fun _ q => absurd q w0, fun _ => rfl⟩
theorem mHB_132 (h : Rel V c b B μ ν) (hE : ∀ e, e < 4 → gI ν 132 e = gI μ 25 e) (st : Nat → Nat) (hst : ∀ p, p < c → st p ≤ 5 ∧ gI μ 34 p = nI (st p)) (tgt v3 : Int32) (asm : Nat → Nat) (h3 : (v3 = 0 ∧ ∀ p, asm p = 0) ∨ (v3 = 4 ∧ ∀ p, asm p = if PF_33 b μ (nI p) 0 < 100 then 3 else 4) ∨ ∃ s, 1 ≤ s ∧ s ≤ 5 ∧ s ≠ 4 ∧ v3 = nI s ∧ ∀ p, asm p = s) : ∀ (m f p : Nat) (a : Int32), p + m = c → m < f → fX12_haveBy_122_132_b6 f tgt v3 a (nI p) ν = some (a + HBs μ (gI μ 25) tgt (fun p => if st p = 0 then asm p else st p) p m, ν) := by
  have h6 := h.c6
  intro m
  induction m with
  | zero =>
    intro f p a h1 h2
    obtain ⟨f, rfl⟩ := Nat.exists_eq_succ_of_ne_zero (show f ≠ 0 by omega)
    rw [fX12_haveBy_122_132_b6, h.menM, if_pos (nI_le (by omega) (by omega)), HBs, Int32.add_zero]
  | succ m ih =>
    intro f p a h1 h2
    obtain ⟨f, rfl⟩ := Nat.exists_eq_succ_of_ne_zero (show f ≠ 0 by omega)
    obtain ⟨s5, es⟩ := hst p (by omega)
    have ihz : ∀ a, fX12_haveBy_122_132_b6 f tgt v3 a (nI p + 1) ν = some (a + HBs μ (gI μ 25) tgt (fun p => if st p = 0 then asm p else st p) (p + 1) m, ν) := fun a => by
      rw [nI_1]; exact ih f (p + 1) a (by omega) (by omega)
    have key : ∀ s, s ≤ 5 → fX12_haveBy_122_132_b59 (fun p2 p3 p4 p5 m => fX12_haveBy_122_132_b6 f p2 p3 p4 p5 m) tgt v3 a (nI p) (nI s) ν = some (a + (CT μ (gI μ 25) tgt p s + HBs μ (gI μ 25) tgt (fun p => if st p = 0 then asm p else st p) (p + 1) m), ν) := by
      intro s hs
      unfold fX12_haveBy_122_132_b59 fX12_haveBy_122_132_b102 CT
      by_cases s2 : 2 ≤ s
      · rw [if_pos (show (2 : Int32) ≤ nI s from nI_le (a := 2) s2 (by omega)), sub2 s2 (by omega)]
        simp (disch := omega) only [gd_in, ix_nI, hE, h.heir, h.goods, m_worth h, bnd_e, lt_e, Int32.add_zero]
        have go : ∀ y : Int32, (if y = tgt then (some (a + WO μ (gI μ 10 p) + HBs μ (gI μ 25) tgt (fun p => if st p = 0 then asm p else st p) (p + 1) m, ν)) else (some (a + HBs μ (gI μ 25) tgt (fun p => if st p = 0 then asm p else st p) (p + 1) m, ν))) = some (a + ((if y = tgt then WO μ (gI μ 10 p) else 0) + HBs μ (gI μ 25) tgt (fun p => if st p = 0 then asm p else st p) (p + 1) m), ν) := by
          intro y
          by_cases g : y = tgt
          · rw [if_pos g, if_pos g, ← Int32.add_assoc]
          · rw [if_neg g, if_neg g, Int32.zero_add]
        rw [ihz, ihz]
        simp only [s2, true_and]
        by_cases k0 : gI μ 25 (s - 2) = 0
        · simp only [if_pos k0]
          exact go _
        · simp only [if_neg k0]
          by_cases k1 : gI μ 25 (s - 2) = 1
          · simp only [if_pos k1]
            exact go _
          · simp only [if_neg k1]
            exact go _
      · rw [if_neg (show ¬ (2 : Int32) ≤ nI s from nI_ge (b := 2) (by omega) (by omega)), if_neg (fun q => s2 q.1), Int32.zero_add]
        exact ihz _
    rw [fX12_haveBy_122_132_b6, h.menM, if_neg (nI_ge (by omega) (by omega)), gd_in (by omega) (by decide), ix_nI (by omega), lt_e, st_33 h.hl0 (by omega), es, HBs]
    by_cases z : st p = 0
    · rw [z, if_pos (show nI 0 = 0 from rfl), if_pos rfl]
      unfold fX12_haveBy_122_132_b57
      rcases h3 with ⟨rfl, h3⟩ | ⟨rfl, h3⟩ | ⟨s, a1, a2, a3, rfl, h3⟩
      · rw [if_pos rfl, h3]
        exact key 0 (by omega)
      · rw [if_neg (by decide), if_pos rfl, m_proof_123 h h.hl0, bnd_e, m_ending, bnd_e, h3]
        by_cases q : PF_33 b μ (nI p) 0 < 100
        · rw [if_pos q, if_pos q]
          exact key 3 (by omega)
        · rw [if_neg q, if_neg q]
          exact key 4 (by omega)
      · rw [if_neg (nI_ne0 (by omega) (by omega)), if_neg (fun q => by rw [l4, nI_eq (by omega) (by omega)] at q; exact a3 q), h3]
        exact key s a2
    · rw [if_neg (nI_ne0 (by omega) (by omega)), if_neg z]
      exact key (st p) s5
theorem cFT_26 (hm : gI μ 5 5 = nI c) (h6 : c ≤ 6) (st : Nat → Nat) (hst : ∀ p, p < c → st p ≤ 5 ∧ gI μ 34 p = nI (st p)) (hH : ∀ p, p < c → ∃ s, s < 4 ∧ gI μ 9 p = nI s) (hE : ∀ e, e < 4 → ∃ s, s < 3 ∧ gI μ 26 e = nI s) {who x : Int32} (hw : (who = 0 ∧ ∃ s, s < 4 ∧ x = nI s) ∨ who = 1 ∨ who = 2) : ∀ (m f p : Nat) (a : Int32), p + m = c → m < f → fX11_fallsTo_0_26_b6 f who x a (nI p) μ = some (a + HBs μ (gI μ 26) (tg who x) st p m, μ) := by
  intro m
  induction m with
  | zero =>
    intro f p a h1 h2
    obtain ⟨f, rfl⟩ := Nat.exists_eq_succ_of_ne_zero (show f ≠ 0 by omega)
    rw [fX11_fallsTo_0_26_b6, hm, if_pos (nI_le (by omega) (by omega)), HBs, Int32.add_zero]
  | succ m ih =>
    intro f p a h1 h2
    obtain ⟨f, rfl⟩ := Nat.exists_eq_succ_of_ne_zero (show f ≠ 0 by omega)
    obtain ⟨s5, es⟩ := hst p (by omega)
    have ihz : ∀ a, fX11_fallsTo_0_26_b6 f who x a (nI p + 1) μ = some (a + HBs μ (gI μ 26) (tg who x) st (p + 1) m, μ) := fun a => by
      rw [nI_1]; exact ih f (p + 1) a (by omega) (by omega)
    rw [fX11_fallsTo_0_26_b6, hm, if_neg (nI_ge (by omega) (by omega)), gd_in (by omega) (by decide), ix_nI (by omega), lt_e, es, HBs, gd_in (by omega) (by decide)]
    have key : ∀ q0 : Int32, (q0 = 0 ∨ q0 = 1) → (q0 = 1 ↔ (who = 0 → gI μ 9 p = x)) → fX11_fallsTo_0_26_b55 (fun p2 p3 p4 p5 m => fX11_fallsTo_0_26_b6 f p2 p3 p4 p5 m) who x a (nI p) (nI (st p) - 2) q0 μ = some (a + (CT μ (gI μ 26) (tg who x) p (st p) + HBs μ (gI μ 26) (tg who x) st (p + 1) m), μ) := by
      intro q0 hq hq2
      unfold fX11_fallsTo_0_26_b55 CT
      by_cases s2 : 2 ≤ st p
      · obtain ⟨k, hk, ek⟩ := hE (st p - 2) (by omega)
        obtain ⟨y, hy, ey⟩ := hH p (by omega)
        rw [sub2 s2 (by omega), if_neg (nI_pos (by omega)), if_neg (show ¬ (4 : Int32) ≤ nI (st p - 2) from nI_ge (b := 4) (by omega) (by decide)), gd_in (by omega) (by decide), ix_nI (by omega)]
        have t : (gI μ 26 (st p - 2) = who ∧ q0 = 1) ↔ (2 ≤ st p ∧ (if gI μ 26 (st p - 2) = 0 then gI μ 9 p else if gI μ 26 (st p - 2) = 1 then 4 else 5) = tg who x) := by
          rw [hq2, ek]
          rcases hw with ⟨rfl, z, hz, rfl⟩ | rfl | rfl
          · rw [ey]
            obtain rfl | rfl | rfl : k = 0 ∨ k = 1 ∨ k = 2 := by omega
            · simp only [tg0, show nI 0 = 0 from rfl, if_true, s2, true_and, true_implies]
            · rw [tg0, if_neg (show ¬ nI 1 = 0 by decide), if_pos (show nI 1 = 1 by decide)]
              refine ⟨fun q => absurd q.1 (by decide), fun q => ?_⟩
              have q2 := q.2
              rw [l4, nI_eq (by omega) (by omega)] at q2
              omega
            · rw [tg0, if_neg (show ¬ nI 2 = 0 by decide), if_neg (show ¬ nI 2 = 1 by decide)]
              refine ⟨fun q => absurd q.1 (by decide), fun q => ?_⟩
              have q2 := q.2
              rw [show (5 : Int32) = nI 5 from rfl, nI_eq (by omega) (by omega)] at q2
              omega
          · rw [ey]
            obtain rfl | rfl | rfl : k = 0 ∨ k = 1 ∨ k = 2 := by omega
            · rw [tg1, if_pos (show nI 0 = 0 by decide)]
              refine ⟨fun q => absurd q.1 (by decide), fun q => ?_⟩
              have q2 := q.2
              rw [l4, nI_eq (by omega) (by omega)] at q2
              omega
            · rw [tg1, if_neg (show ¬ nI 1 = 0 by decide), if_pos (show nI 1 = 1 by decide)]
              exact ⟨fun _ => ⟨s2, rfl⟩, fun _ => ⟨rfl, fun q => absurd q (by decide)⟩⟩
            · rw [tg1, if_neg (show ¬ nI 2 = 0 by decide), if_neg (show ¬ nI 2 = 1 by decide)]
              exact ⟨fun q => absurd q.1 (by decide), fun q => absurd q.2 (by decide)⟩
          · rw [ey]
            obtain rfl | rfl | rfl : k = 0 ∨ k = 1 ∨ k = 2 := by omega
            · rw [tg2, if_pos (show nI 0 = 0 by decide)]
              refine ⟨fun q => absurd q.1 (by decide), fun q => ?_⟩
              have q2 := q.2
              rw [show (5 : Int32) = nI 5 from rfl, nI_eq (by omega) (by omega)] at q2
              omega
            · rw [tg2, if_neg (show ¬ nI 1 = 0 by decide), if_pos (show nI 1 = 1 by decide)]
              exact ⟨fun q => absurd q.1 (by decide), fun q => absurd q.2 (by decide)⟩
            · rw [tg2, if_neg (show ¬ nI 2 = 0 by decide), if_neg (show ¬ nI 2 = 1 by decide)]
              exact ⟨fun _ => ⟨s2, rfl⟩, fun _ => ⟨rfl, fun q => absurd q (by decide)⟩⟩
        by_cases g : gI μ 26 (st p - 2) = who ∧ q0 = 1
        · rw [if_pos g.1, g.2, if_neg n10, gd_in (by omega) (by decide), ix_nI (by omega), c_worth, bnd_e, lt_e, if_pos (t.mp g)]
          rw [← Int32.add_assoc]
          exact ihz _
        · rw [if_neg (fun q => g (t.mpr q)), Int32.zero_add]
          by_cases g1 : gI μ 26 (st p - 2) = who
          · rw [if_pos g1, if_pos (hq.resolve_right (fun q => g ⟨g1, q⟩))]
            exact ihz _
          · rw [if_neg g1]
            exact ihz _
      · rw [if_pos (sub2n (by omega)), if_neg (fun q => s2 q.1), Int32.zero_add]
        exact ihz _
    by_cases w0 : who = 0
    · rw [if_pos w0]
      by_cases e : gI μ 9 p = x
      · rw [if_pos e]
        exact key 1 (Or.inr rfl) ⟨fun _ _ => e, fun _ => rfl⟩
      · rw [if_neg e]
        exact key 0 (Or.inl rfl) ⟨fun q => absurd q (by decide), fun q => absurd (q w0) e⟩
    · rw [if_neg w0]
      exact key 1 (Or.inr rfl) ⟨fun _ q => absurd q w0, fun _ => rfl⟩
theorem mHB_145 (h : Rel V c b B μ ν) (hE : ∀ e, e < 4 → gI ν 145 e = gI μ 26 e) (st : Nat → Nat) (hst : ∀ p, p < c → st p ≤ 5 ∧ gI μ 34 p = nI (st p)) (tgt v3 : Int32) (asm : Nat → Nat) (h3 : (v3 = 0 ∧ ∀ p, asm p = 0) ∨ (v3 = 4 ∧ ∀ p, asm p = if PF_33 b μ (nI p) 0 < 100 then 3 else 4) ∨ ∃ s, 1 ≤ s ∧ s ≤ 5 ∧ s ≠ 4 ∧ v3 = nI s ∧ ∀ p, asm p = s) : ∀ (m f p : Nat) (a : Int32), p + m = c → m < f → fX12_haveBy_122_145_b6 f tgt v3 a (nI p) ν = some (a + HBs μ (gI μ 26) tgt (fun p => if st p = 0 then asm p else st p) p m, ν) := by
  have h6 := h.c6
  intro m
  induction m with
  | zero =>
    intro f p a h1 h2
    obtain ⟨f, rfl⟩ := Nat.exists_eq_succ_of_ne_zero (show f ≠ 0 by omega)
    rw [fX12_haveBy_122_145_b6, h.menM, if_pos (nI_le (by omega) (by omega)), HBs, Int32.add_zero]
  | succ m ih =>
    intro f p a h1 h2
    obtain ⟨f, rfl⟩ := Nat.exists_eq_succ_of_ne_zero (show f ≠ 0 by omega)
    obtain ⟨s5, es⟩ := hst p (by omega)
    have ihz : ∀ a, fX12_haveBy_122_145_b6 f tgt v3 a (nI p + 1) ν = some (a + HBs μ (gI μ 26) tgt (fun p => if st p = 0 then asm p else st p) (p + 1) m, ν) := fun a => by
      rw [nI_1]; exact ih f (p + 1) a (by omega) (by omega)
    have key : ∀ s, s ≤ 5 → fX12_haveBy_122_145_b59 (fun p2 p3 p4 p5 m => fX12_haveBy_122_145_b6 f p2 p3 p4 p5 m) tgt v3 a (nI p) (nI s) ν = some (a + (CT μ (gI μ 26) tgt p s + HBs μ (gI μ 26) tgt (fun p => if st p = 0 then asm p else st p) (p + 1) m), ν) := by
      intro s hs
      unfold fX12_haveBy_122_145_b59 fX12_haveBy_122_145_b102 CT
      by_cases s2 : 2 ≤ s
      · rw [if_pos (show (2 : Int32) ≤ nI s from nI_le (a := 2) s2 (by omega)), sub2 s2 (by omega)]
        simp (disch := omega) only [gd_in, ix_nI, hE, h.heir, h.goods, m_worth h, bnd_e, lt_e, Int32.add_zero]
        have go : ∀ y : Int32, (if y = tgt then (some (a + WO μ (gI μ 10 p) + HBs μ (gI μ 26) tgt (fun p => if st p = 0 then asm p else st p) (p + 1) m, ν)) else (some (a + HBs μ (gI μ 26) tgt (fun p => if st p = 0 then asm p else st p) (p + 1) m, ν))) = some (a + ((if y = tgt then WO μ (gI μ 10 p) else 0) + HBs μ (gI μ 26) tgt (fun p => if st p = 0 then asm p else st p) (p + 1) m), ν) := by
          intro y
          by_cases g : y = tgt
          · rw [if_pos g, if_pos g, ← Int32.add_assoc]
          · rw [if_neg g, if_neg g, Int32.zero_add]
        rw [ihz, ihz]
        simp only [s2, true_and]
        by_cases k0 : gI μ 26 (s - 2) = 0
        · simp only [if_pos k0]
          exact go _
        · simp only [if_neg k0]
          by_cases k1 : gI μ 26 (s - 2) = 1
          · simp only [if_pos k1]
            exact go _
          · simp only [if_neg k1]
            exact go _
      · rw [if_neg (show ¬ (2 : Int32) ≤ nI s from nI_ge (b := 2) (by omega) (by omega)), if_neg (fun q => s2 q.1), Int32.zero_add]
        exact ihz _
    rw [fX12_haveBy_122_145_b6, h.menM, if_neg (nI_ge (by omega) (by omega)), gd_in (by omega) (by decide), ix_nI (by omega), lt_e, st_33 h.hl0 (by omega), es, HBs]
    by_cases z : st p = 0
    · rw [z, if_pos (show nI 0 = 0 from rfl), if_pos rfl]
      unfold fX12_haveBy_122_145_b57
      rcases h3 with ⟨rfl, h3⟩ | ⟨rfl, h3⟩ | ⟨s, a1, a2, a3, rfl, h3⟩
      · rw [if_pos rfl, h3]
        exact key 0 (by omega)
      · rw [if_neg (by decide), if_pos rfl, m_proof_123 h h.hl0, bnd_e, m_ending, bnd_e, h3]
        by_cases q : PF_33 b μ (nI p) 0 < 100
        · rw [if_pos q, if_pos q]
          exact key 3 (by omega)
        · rw [if_neg q, if_neg q]
          exact key 4 (by omega)
      · rw [if_neg (nI_ne0 (by omega) (by omega)), if_neg (fun q => by rw [l4, nI_eq (by omega) (by omega)] at q; exact a3 q), h3]
        exact key s a2
    · rw [if_neg (nI_ne0 (by omega) (by omega)), if_neg z]
      exact key (st p) s5
def stN (μ : Mem) (p : Nat) : Nat := ix (gI μ 34 p)
theorem stN_ok (h : Rel V c b B μ ν) : ∀ p, p < c → stN μ p ≤ 5 ∧ gI μ 34 p = nI (stN μ p) := fun p hp => by
  have h6 := h.c6
  exact nat_ix (by decide) (st5_33 h.hl0 (by omega))
theorem stN_0 (st : Nat → Nat) : (fun p => if st p = 0 then (fun _ => 0) p else st p) = st := by
  funext p
  by_cases e : st p = 0
  · rw [if_pos e, e]
  · rw [if_neg e]
def HB (c : Nat) (μ : Mem) (en : Nat → Int32) (tgt : Int32) (asm : Nat → Nat) : Int32 := HBs μ en tgt (fun p => if stN μ p = 0 then asm p else stN μ p) 0 c
theorem c_falls (h : Rel V c b B μ ν) {who x : Int32} (hw : (who = 0 ∧ ∃ s, s < 4 ∧ x = nI s) ∨ who = 1 ∨ who = 2) : fX11_fallsTo_0_25 who x μ = some (HB c μ (gI μ 25) (tg who x) (fun _ => 0), μ) := by
  unfold HB
  rw [stN_0, show fX11_fallsTo_0_25 who x μ = _ from cFT_25 h.men h.c6 (stN μ) (stN_ok h) (fun p hp => h.heir4 hp) (fun e he => h.ends3 he) hw c FU 0 0 (by omega) (fu_lt (Nat.lt_of_le_of_lt h.c6 (by decide))), Int32.zero_add]
theorem m_have (h : Rel V c b B μ ν) (tgt v3 : Int32) (asm : Nat → Nat) (h3 : (v3 = 0 ∧ ∀ p, asm p = 0) ∨ (v3 = 4 ∧ ∀ p, asm p = if PF_33 b μ (nI p) 0 < 100 then 3 else 4) ∨ ∃ s, 1 ≤ s ∧ s ≤ 5 ∧ s ≠ 4 ∧ v3 = nI s ∧ ∀ p, asm p = s) : fX12_haveBy_122_132 tgt v3 ν = some (HB c μ (gI μ 25) tgt asm, ν) := by
  unfold HB
  rw [show fX12_haveBy_122_132 tgt v3 ν = _ from mHB_132 h (fun e he => h.ends he) (stN μ) (stN_ok h) tgt v3 asm h3 c FU 0 0 (by omega) (fu_lt (Nat.lt_of_le_of_lt h.c6 (by decide))), Int32.zero_add]
end Pure14
