section Pure15
variable {V : VT} {c b B : Nat} {μ ν : Mem}
def rowM (μ : Mem) (l : List Int64) : Mem := (fun k j => if k = 3 ∧ j = 1 then nI l.length else μ.1 k j, fun k j => if k = 4 then l.getD j 0 else μ.2 k j)
theorem gI_rowM (l : List Int64) {k : Nat} (hk : k ≠ 3) (j : Nat) : gI (rowM μ l) k j = gI μ k j := by
  show (if k = 3 ∧ j = 1 then _ else _) = _
  rw [if_neg (fun q => hk q.1)]
  rfl
theorem TC_rowM (l : List Int64) : TC μ (rowM μ l) l := ⟨fun k j q => by
  show (if k = 3 ∧ j = 1 then _ else _) = _
  rw [if_neg]
  · rfl
  · rintro ⟨rfl, rfl⟩
    exact Bool.noConfusion q, rfl, fun i _ => rfl⟩
theorem Rel.rowM {ν' : Mem} {l : List Int64} (h : Rel V c b B μ ν) (t : TM ν ν' l) (hl : l.length ≤ 8) : Rel V c b B (rowM μ l) ν' := h.tell (TC_rowM l) t hl
theorem WOs_nat (h : Rel V c b B μ ν) (x : Int32) : ∀ (m g a : Nat), g + m = 8 → ∃ k, k ≤ a + 99 * m ∧ WOs (gI μ 27) x g m (nI a) = nI k
  | 0, _, a, _ => ⟨a, by omega, rfl⟩
  | m + 1, g, a, hg => by
    rw [WOs]
    obtain ⟨v, hv, e⟩ := h.val99 (show g < 8 by omega)
    by_cases q : (x >>> (nI g &&& 31)) &&& 1 = 0
    · rw [if_pos q, Int32.add_zero]
      obtain ⟨k, h1, h2⟩ := WOs_nat h x m (g + 1) a (by omega)
      exact ⟨k, by omega, h2⟩
    · rw [if_neg q, e, nI_add]
      obtain ⟨k, h1, h2⟩ := WOs_nat h x m (g + 1) (a + v) (by omega)
      exact ⟨k, by omega, h2⟩
theorem WO_nat (h : Rel V c b B μ ν) (x : Int32) : ∃ k, k ≤ 792 ∧ WO μ x = nI k := by
  obtain ⟨k, h1, h2⟩ := WOs_nat h x 8 0 0 rfl
  exact ⟨k, by omega, h2⟩
theorem CT_nat (h : Rel V c b B μ ν) (en : Nat → Int32) (t : Int32) (p s : Nat) : ∃ k, k ≤ 792 ∧ CT μ en t p s = nI k := by
  unfold CT
  by_cases q : 2 ≤ s ∧ (if en (s - 2) = 0 then gI μ 9 p else if en (s - 2) = 1 then 4 else 5) = t
  · rw [if_pos q]; exact WO_nat h _
  · rw [if_neg q]; exact ⟨0, by omega, rfl⟩
theorem HBs_nat (h : Rel V c b B μ ν) (en : Nat → Int32) (t : Int32) (st : Nat → Nat) : ∀ (m p : Nat), ∃ k, k ≤ 792 * m ∧ HBs μ en t st p m = nI k
  | 0, _ => ⟨0, by omega, rfl⟩
  | m + 1, p => by
    obtain ⟨k, h1, h2⟩ := CT_nat h en t p (st p)
    obtain ⟨k', h3, h4⟩ := HBs_nat h en t st m (p + 1)
    rw [HBs, h2, h4, nI_add]
    exact ⟨k + k', by omega, rfl⟩
theorem HBs_cg {μ' : Mem} {en en' : Nat → Int32} {st st' : Nat → Nat} (t : Int32) (h9 : gI μ' 9 = gI μ 9) (h10 : gI μ' 10 = gI μ 10) (h27 : gI μ' 27 = gI μ 27) (he : ∀ i, en' i = en i) (hs : ∀ i, st' i = st i) : ∀ (m p : Nat), HBs μ' en' t st' p m = HBs μ en t st p m
  | 0, _ => rfl
  | m + 1, p => by
    rw [HBs, HBs, HBs_cg t h9 h10 h27 he hs m (p + 1)]
    unfold CT WO
    rw [h9, h10, h27, he, hs]
theorem HB_row (l : List Int64) (t : Int32) (asm : Nat → Nat) : HB c (rowM μ l) (gI (rowM μ l) 25) t asm = HB c μ (gI μ 25) t asm := by
  unfold HB
  have e : ∀ k, k ≠ 3 → gI (rowM μ l) k = gI μ k := fun k hk => funext (gI_rowM l hk)
  exact HBs_cg t (e 9 (by decide)) (e 10 (by decide)) (e 27 (by decide)) (fun i => by rw [e 25 (by decide)]) (fun i => by
    unfold stN
    rw [e 34 (by decide)]) c 0
theorem PF_row (l : List Int64) (x k : Int32) : PF_33 b (rowM μ l) x k = PF_33 b μ x k := by
  unfold PF_33
  exact PFs_cg _ _ b 0 0 (fun i _ => ⟨gI_rowM l (by decide) i, gI_rowM l (by decide) i, gI_rowM l (by decide) i⟩)
theorem HB_TC {μ' : Mem} {l : List Int64} (t : TC μ μ' l) (x : Int32) (asm : Nat → Nat) : HB c μ' (gI μ' 25) x asm = HB c μ (gI μ 25) x asm := by
  unfold HB
  have e : ∀ k, k ≠ 3 → gI μ' k = gI μ k := fun k hk => funext (fun j => t.1 k j (by simp [hk]))
  exact HBs_cg x (e 9 (by decide)) (e 10 (by decide)) (e 27 (by decide)) (fun i => by rw [e 25 (by decide)]) (fun i => by
    unfold stN
    rw [e 34 (by decide)]) c 0
theorem parts_in (h : Rel V c b B μ ν) : ∀ (m f p : Nat) (l : List Int64) (μ' ν' : Mem), p + m = 4 → m < f → l.length = p → TC μ μ' l → TM ν ν' l → Pr V c b B (fX11_parts_0_b9 f (nI p) μ') (fX12_parts_122_b12 f (nI p) ν') := by
  intro m
  induction m with
  | zero =>
    intro f p l μ' ν' h1 h2 hl t t'
    obtain ⟨f, rfl⟩ := Nat.exists_eq_succ_of_ne_zero (show f ≠ 0 by omega)
    have e : (4 : Int32) ≤ nI p := nI_le (a := 4) (by omega) (by omega)
    have hR := h.tell t t' (by omega)
    rw [fX11_parts_0_b9, fX12_parts_122_b12, if_pos e, if_pos e, c_falls hR (Or.inr (Or.inr rfl)), bnd_e, m_have hR 5 0 (fun _ => 0) (Or.inl ⟨rfl, fun _ => rfl⟩), bnd_e, tg2]
    refine sm_L (c_add t (by omega) _) (fun _ μ2 t2 => ?_)
    refine sm_R (m_tell t' (by omega) _) (fun _ ν2 t3 => ?_)
    have hR2 := h.tell t2 t3 (by simp; omega)
    rw [c_falls hR2 (Or.inr (Or.inl rfl)), bnd_e, m_have hR2 4 0 (fun _ => 0) (Or.inl ⟨rfl, fun _ => rfl⟩), bnd_e, tg1]
    exact pr_end hR2 _
  | succ m ih =>
    intro f p l μ' ν' h1 h2 hl t t'
    obtain ⟨f, rfl⟩ := Nat.exists_eq_succ_of_ne_zero (show f ≠ 0 by omega)
    have e : ¬ (4 : Int32) ≤ nI p := nI_ge (b := 4) (by omega) (by omega)
    have hR := h.tell t t' (by omega)
    rw [fX11_parts_0_b9, fX12_parts_122_b12, if_neg e, if_neg e, c_falls hR (Or.inl ⟨rfl, p, by omega, rfl⟩), bnd_e, m_have hR (nI p) 0 (fun _ => 0) (Or.inl ⟨rfl, fun _ => rfl⟩), bnd_e, tg0]
    refine sm_L (c_add t (by omega) _) (fun _ μ2 t2 => ?_)
    refine sm_R (m_tell t' (by omega) _) (fun _ ν2 t3 => ?_)
    rw [nI_1]
    exact ih f (p + 1) _ μ2 ν2 (by omega) (by omega) (by simp [hl]) t2 t3
theorem pr_parts (h : Rel V c b B μ ν) : Pr V c b B (fX11_parts_0 μ) (fX12_parts_122 ν) := by
  have h1 := m17 h 0
  unfold fX11_parts_0 fX12_parts_122
  rw [lt_e, lt_e]
  refine sm_L c_clear (fun _ μ2 t => ?_)
  exact parts_in h1 4 FU 0 [] μ2 _ rfl (by decide) rfl t (TM.nil _)
def DSs (μ : Mem) (en : Nat → Int32) (t : Int32) (asm : Nat → Nat) : Nat → Nat → Int32
  | _, 0 => 0
  | p, m + 1 => (if stN μ p = 0 then CT μ en t p (asm p) else 0) + DSs μ en t asm (p + 1) m
theorem add3 (a b x : Int32) : a + (b + x) = b + (a + x) := by
  rw [← Int32.add_assoc, Int32.add_comm a b, Int32.add_assoc]
theorem CT_0 (en : Nat → Int32) (t : Int32) (p : Nat) : CT μ en t p 0 = 0 := by
  unfold CT
  rw [if_neg (by omega)]
theorem HB_DS (en : Nat → Int32) (t : Int32) (asm : Nat → Nat) : ∀ (m p : Nat), HBs μ en t (fun p => if stN μ p = 0 then asm p else stN μ p) p m = HBs μ en t (fun p => if stN μ p = 0 then (fun _ => 0) p else stN μ p) p m + DSs μ en t asm p m
  | 0, _ => rfl
  | m + 1, p => by
    rw [HBs, HBs, DSs, HB_DS en t asm m (p + 1)]
    by_cases e : stN μ p = 0
    · simp only [if_pos e]
      rw [CT_0, Int32.zero_add, add3]
    · simp only [if_neg e]
      rw [Int32.zero_add, Int32.add_assoc]
theorem add_sub_l (a x : Int32) : a + x - a = x := by rw [Int32.add_comm, Int32.add_sub_cancel]
theorem c_has_h (h : Rel V c b B μ ν) {p : Nat} (hp : p < c) {k : Nat} (hk : k < 4) {v : Int32} (hv : v = nI (2 + k)) {s : Nat} (hs : s < 4) (e : gI μ 9 p = nI s) : fX2_has_24 (nI p) v 0 μ = some (CT μ (gI μ 25) (nI s) p (2 + k), μ) := by
  have h6 := h.c6
  subst hv
  rw [c_has (by omega) hk]
  unfold CT
  obtain ⟨y, hy, ey⟩ := h.ends3 hk
  rw [show 2 + k - 2 = k by omega, ey, e]
  obtain rfl | rfl | rfl : y = 0 ∨ y = 1 ∨ y = 2 := by omega
  · rw [if_pos (show nI 0 = 0 from rfl), if_pos ⟨by omega, by rw [if_pos (show nI 0 = 0 from rfl)]⟩]
  · rw [if_neg (show ¬ nI 1 = 0 by decide), if_neg]
    rintro ⟨-, q⟩
    rw [if_neg (show ¬ nI 1 = 0 by decide), if_pos (show nI 1 = 1 by decide), l4, nI_eq (by omega) (by omega)] at q
    omega
  · rw [if_neg (show ¬ nI 2 = 0 by decide), if_neg]
    rintro ⟨-, q⟩
    rw [if_neg (show ¬ nI 2 = 0 by decide), if_neg (show ¬ nI 2 = 1 by decide), show (5 : Int32) = nI 5 from rfl, nI_eq (by omega) (by omega)] at q
    omega
theorem CT_nh (h : Rel V c b B μ ν) {p s : Nat} (hs : s < 4) {k : Nat} (hk : k < 4) (e : ¬ gI μ 9 p = nI s) : CT μ (gI μ 25) (nI s) p (2 + k) = 0 := by
  unfold CT
  obtain ⟨y, hy, ey⟩ := h.ends3 hk
  rw [show 2 + k - 2 = k by omega, ey, if_neg]
  rintro ⟨-, q⟩
  obtain rfl | rfl | rfl : y = 0 ∨ y = 1 ∨ y = 2 := by omega
  · rw [if_pos (show nI 0 = 0 from rfl)] at q
    exact e q
  · rw [if_neg (show ¬ nI 1 = 0 by decide), if_pos (show nI 1 = 1 by decide), l4, nI_eq (by omega) (by omega)] at q
    omega
  · rw [if_neg (show ¬ nI 2 = 0 by decide), if_neg (show ¬ nI 2 = 1 by decide), show (5 : Int32) = nI 5 from rfl, nI_eq (by omega) (by omega)] at q
    omega
def asmV (b : Nat) (μ : Mem) (p : Nat) : Nat := if PF_33 b μ (nI p) 0 < 100 then 3 else 4
theorem cHopes (h : Rel V c b B μ ν) {s : Nat} (hs : s < 4) : ∀ (m f p : Nat) (x y z : Int32), p + m = c → m < f → fX11_hopes_0_b21 f (nI s) x y z (nI p) μ = bnd (fX7_tell__3 (Int32.toInt64 (y + DSs μ (gI μ 25) (nI s) (fun _ => 5) p m)) (Int32.toInt64 (z + DSs μ (gI μ 25) (nI s) (asmV b μ) p m)) μ) fun _ m2 => some (x + DSs μ (gI μ 25) (nI s) (fun _ => 2) p m, m2) := by
  have h6 := h.c6
  intro m
  induction m with
  | zero =>
    intro f p x y z h1 h2
    obtain ⟨f, rfl⟩ := Nat.exists_eq_succ_of_ne_zero (show f ≠ 0 by omega)
    rw [fX11_hopes_0_b21, h.men, if_pos (nI_le (by omega) (by omega)), DSs, DSs, DSs, Int32.add_zero, Int32.add_zero, Int32.add_zero]
  | succ m ih =>
    intro f p x y z h1 h2
    obtain ⟨f, rfl⟩ := Nat.exists_eq_succ_of_ne_zero (show f ≠ 0 by omega)
    obtain ⟨s5, es⟩ := stN_ok h p (by omega)
    rw [fX11_hopes_0_b21, h.men, if_neg (nI_ge (by omega) (by omega)), c_sil_33 (by omega), bnd_e, nI_1, DSs, DSs, DSs]
    by_cases z0 : stN μ p = 0
    · have e0 : gI μ 34 p = 0 := by rw [es, z0]; rfl
      simp only [if_pos z0]
      rw [if_pos e0, if_neg n10, gd_in (by omega) (by decide), ix_nI (by omega)]
      by_cases e : gI μ 9 p = nI s
      · rw [if_pos e, c_has_h h (by omega) (show 0 < 4 by omega) (v := 2) rfl hs e, bnd_e, lt_e, c_has_h h (by omega) (show 3 < 4 by omega) (v := 5) rfl hs e, bnd_e, lt_e, show fX4_verdictIn_33 (nI p) 0 μ = _ from c_verdict h (nI p) 0, bnd_e]
        have hv : ∃ k, k < 4 ∧ (if PF_33 b μ (nI p) 0 < 100 then (3 : Int32) else 4) = nI (2 + k) ∧ asmV b μ p = 2 + k := by
          unfold asmV
          by_cases q : PF_33 b μ (nI p) 0 < 100
          · exact ⟨1, by omega, by rw [if_pos q]; rfl, by rw [if_pos q]⟩
          · exact ⟨2, by omega, by rw [if_neg q]; rfl, by rw [if_neg q]⟩
        obtain ⟨k, hk, hv, ha⟩ := hv
        rw [c_has_h h (by omega) hk hv hs e, bnd_e, lt_e, ih f (p + 1) _ _ _ (by omega) (by omega), ha, Int32.add_assoc, Int32.add_assoc, Int32.add_assoc]
      · have hv : ∃ k, k < 4 ∧ asmV b μ p = 2 + k := by
          unfold asmV
          by_cases q : PF_33 b μ (nI p) 0 < 100
          · exact ⟨1, by omega, by rw [if_pos q]⟩
          · exact ⟨2, by omega, by rw [if_neg q]⟩
        obtain ⟨k, hk, ha⟩ := hv
        rw [if_neg e, ih f (p + 1) _ _ _ (by omega) (by omega), ha, CT_nh h hs hk e, show CT μ (gI μ 25) (nI s) p 5 = 0 from CT_nh h hs (show 3 < 4 by omega) e, show CT μ (gI μ 25) (nI s) p 2 = 0 from CT_nh h hs (show 0 < 4 by omega) e, Int32.zero_add, Int32.zero_add, Int32.zero_add]
    · have e0 : ¬ gI μ 34 p = 0 := by rw [es]; exact nI_ne0 (by omega) (by omega)
      simp only [if_neg z0]
      rw [if_neg e0, if_pos rfl, ih f (p + 1) _ _ _ (by omega) (by omega), Int32.zero_add, Int32.zero_add, Int32.zero_add]
theorem pr_hopes (h : Rel V c b B μ ν) (v : Int32) : Pr V c b B (fX11_hopes_0 v μ) (fX12_hopes_122 v ν) := by
  have h1 := m17 h 0
  have h6 := h.c6
  unfold fX11_hopes_0 fX12_hopes_122 fX12_isHeir
  rw [lt_e, m_in, bnd_e]
  rcases rng_or v 0 3 (lo := 0) (hi := 3) rfl rfl (by decide) (by decide) with ⟨q1, q2⟩ | ⟨q1, q3, q2⟩ | ⟨n, hn1, hn2, rfl, a1, a2, a3⟩
  · rw [if_pos q1, if_pos q2]
    exact pr_end h1 _
  · rw [if_neg q1, if_neg (fun q => q3 (by rw [i_le]; rw [i_lt] at q; have e4 : (4 : Int32).toInt = 4 := rfl; have e3 : (3 : Int32).toInt = 3 := rfl; omega)), if_pos q2]
    exact pr_end h1 _
  · rw [if_neg a1, if_pos (show nI n < 4 from nI_lt (b := 4) (by omega) (by decide)), if_neg a3]
    rw [show fX11_hopes_0_b21 FU (nI n) 0 0 0 0 μ = _ from cHopes h (show n < 4 by omega) c FU 0 0 0 0 (by omega) (fu_lt (by omega))]
    rw [isZ1, gd_e, bnd_e, if_neg n10, m_have h1 (nI n) 0 (fun _ => 0) (Or.inl ⟨rfl, fun _ => rfl⟩), bnd_e, lt_e]
    refine sm_L (c_tell2 _ _) (fun _ μ2 t => ?_)
    have r0 := h1.rowM (TM.nil (sI ν 122 17 0)) (by simp)
    rw [m_have r0 (nI n) 5 (fun _ => 5) (Or.inr (Or.inr ⟨5, by omega, by omega, by omega, rfl, fun _ => rfl⟩)), bnd_e, HB_row]
    refine sm_R (m_tell (TM.nil _) (by decide) _) (fun _ ν2 t2 => ?_)
    have r1 := h1.rowM t2 (by simp)
    rw [m_have r1 (nI n) 4 (asmV b μ) (Or.inr (Or.inl ⟨rfl, fun p => by rw [PF_row]; rfl⟩)), bnd_e, HB_row]
    refine sm_R (m_tell t2 (by simp) _) (fun _ ν3 t3 => ?_)
    have r2 := h1.rowM t3 (by simp)
    rw [m_have r2 (nI n) 2 (fun _ => 2) (Or.inr (Or.inr ⟨2, by omega, by omega, by omega, rfl, fun _ => rfl⟩)), bnd_e, HB_row]
    unfold HB at t3 ⊢
    rw [HB_DS (gI μ 25) (nI n) (fun _ => 5) c 0, HB_DS (gI μ 25) (nI n) (asmV b μ) c 0, add_sub_l, add_sub_l] at t3
    rw [HB_DS (gI μ 25) (nI n) (fun _ => 2) c 0, add_sub_l]
    simp only [Int32.zero_add] at t ⊢
    exact pr_end (h1.tell t t3 (by simp)) _
end Pure15
