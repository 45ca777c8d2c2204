section Pure16
variable {V : VT} {c b B : Nat} {μ ν : Mem}
theorem nI_div {n m : Nat} (hn : n < 2 ^ 31) (hm : m < 2 ^ 31) (h0 : 0 < m) : nI n / nI m = nI (n / m) := by
  have h : n / m ≤ n := Nat.div_le_self n m
  rw [i_eq, Int32.toInt_div, nI_toInt hn, nI_toInt hm, nI_toInt (by omega)]
  have e : (n : Int).tdiv (m : Int) = ((n / m : Nat) : Int) := by
    rw [Int.ofNat_tdiv]
  rw [e]
  have key : ∀ q : Nat, q ≤ n → (q : Int).bmod (2 ^ 32) = q := fun q hq => by
    apply Int.bmod_eq_of_le <;> omega
  exact key _ h
theorem nI_mod {n m : Nat} (hn : n < 2 ^ 31) (hm : m < 2 ^ 31) (h0 : 0 < m) : nI n - nI n / nI m * nI m = nI (n % m) := by
  rw [nI_div hn hm h0, nI_mul]
  have h := Nat.div_add_mod n m
  have h2 : n / m * m ≤ n := Nat.div_mul_le_self n m
  rw [nI_sub h2 hn]
  congr 1
  rw [Nat.mul_comm] at h
  omega
theorem nz3 : (!((3 : Int32) == 0)) = true := by decide
theorem l3 : (3 : Int32) = nI 3 := rfl
def rdM (μ : Mem) (k n : Nat) : Mem := sI (sI (sI (sI μ k 3 (nI (n % 3))) k 2 (nI (n / 3 % 3))) k 1 (nI (n / 3 / 3 % 3))) k 0 (nI (n / 3 / 3 / 3 % 3))
def dg (n : Nat) : Nat → Nat
  | 0 => n / 3 / 3 / 3 % 3
  | 1 => n / 3 / 3 % 3
  | 2 => n / 3 % 3
  | _ => n % 3
theorem dg_lt (n i : Nat) : dg n i < 3 := by
  match i with
  | 0 => exact Nat.mod_lt _ (by decide)
  | 1 => exact Nat.mod_lt _ (by decide)
  | 2 => exact Nat.mod_lt _ (by decide)
  | _ + 3 => exact Nat.mod_lt _ (by decide)
theorem rdM_at (k n i : Nat) (hi : i < 4) : gI (rdM μ k n) k i = nI (dg n i) := by
  unfold rdM
  obtain rfl | rfl | rfl | rfl : i = 0 ∨ i = 1 ∨ i = 2 ∨ i = 3 := by omega
  · rw [gI_sI, if_pos ⟨rfl, rfl⟩]; rfl
  · rw [gI_sI, if_neg (by omega), gI_sI, if_pos ⟨rfl, rfl⟩]; rfl
  · rw [gI_sI, if_neg (by omega), gI_sI, if_neg (by omega), gI_sI, if_pos ⟨rfl, rfl⟩]; rfl
  · rw [gI_sI, if_neg (by omega), gI_sI, if_neg (by omega), gI_sI, if_neg (by omega), gI_sI, if_pos ⟨rfl, rfl⟩]; rfl
theorem rdM_C (n : Nat) : Off scC μ (rdM μ 26 n) := ((((Off.refl μ).sI rfl).sI rfl).sI rfl).sI rfl
theorem rdM_M (n : Nat) : Off scM μ (rdM μ 145 n) := ((((Off.refl μ).sI rfl).sI rfl).sI rfl).sI rfl
theorem rdM_o (k n : Nat) {a : Nat} (ha : a ≠ k) (j : Nat) : gI (rdM μ k n) a j = gI μ a j := by
  unfold rdM
  rw [gI_sI, if_neg (fun q => ha q.1), gI_sI, if_neg (fun q => ha q.1), gI_sI, if_neg (fun q => ha q.1), gI_sI, if_neg (fun q => ha q.1)]
theorem c_reading {n : Nat} (hn : n < 81) : fX2_tellReading_24 (nI n) μ = some ((), rdM μ 26 n) := by
  show fX2_tellReading_24_b4 (995 + 1 + 1 + 1 + 1 + 1) (nI n) (nI 3) μ = _
  have h1 : n / 3 < 2 ^ 31 := by omega
  have h2 : n / 3 / 3 < 2 ^ 31 := by omega
  have h3 : n / 3 / 3 / 3 < 2 ^ 31 := by omega
  rw [fX2_tellReading_24_b4, if_neg (nI_pos (by decide)), nz3, gd_e, gd_in (by decide) (by decide), ix_nI (by decide), lt_e, gd_e, lt_e, l3, nI_mod (by omega) (by decide) (by decide), nI_div (by omega) (by decide) (by decide), nI_m1]
  rw [fX2_tellReading_24_b4, if_neg (nI_pos (by decide)), nz3, gd_e, gd_in (by decide) (by decide), ix_nI (by decide), lt_e, gd_e, lt_e, l3, nI_mod h1 (by decide) (by decide), nI_div h1 (by decide) (by decide), nI_m1]
  rw [fX2_tellReading_24_b4, if_neg (nI_pos (by decide)), nz3, gd_e, gd_in (by decide) (by decide), ix_nI (by decide), lt_e, gd_e, lt_e, l3, nI_mod h2 (by decide) (by decide), nI_div h2 (by decide) (by decide), nI_m1]
  rw [fX2_tellReading_24_b4, if_neg (nI_pos (by decide)), nz3, gd_e, gd_in (by decide) (by decide), ix_nI (by decide), lt_e, gd_e, lt_e, l3, nI_mod h3 (by decide) (by decide), nI_div h3 (by decide) (by decide)]
  rw [fX2_tellReading_24_b4, if_pos (by decide)]
  rfl
def df (μ : Mem) (n i : Nat) : Int32 := if nI (dg n i) = gI μ 25 i then 0 else 1
theorem c_changed (n : Nat) : fX2_changedEndings_24 (rdM μ 26 n) = some (0 + df μ n 0 + df μ n 1 + df μ n 2 + df μ n 3, rdM μ 26 n) := by
  show fX2_changedEndings_24_b4 (995 + 1 + 1 + 1 + 1 + 1) 0 (nI 0) (rdM μ 26 n) = _
  have st : ∀ (f i : Nat) (a : Int32), i < 4 → fX2_changedEndings_24_b4 (f + 1) a (nI i) (rdM μ 26 n) = fX2_changedEndings_24_b4 f (a + df μ n i) (nI (i + 1)) (rdM μ 26 n) := by
    intro f i a hi
    rw [fX2_changedEndings_24_b4, if_neg (show ¬ (4 : Int32) ≤ nI i from nI_ge (b := 4) hi (by decide)), gd_in hi (by decide), gd_in hi (by decide), ix_nI (by omega), rdM_at 26 n i hi, rdM_o 26 n (by decide), lt_e, lt_e, nI_1]
    unfold df
    by_cases q : nI (dg n i) = gI μ 25 i
    · rw [if_pos q, if_pos q]
    · rw [if_neg q, if_neg q]
  rw [st _ 0 _ (by omega), st _ 1 _ (by omega), st _ 2 _ (by omega), st _ 3 _ (by omega), fX2_changedEndings_24_b4, if_pos (by decide)]
theorem m_wants1 (h : Rel V c b B μ ν) {n : Nat} (hn : n < 81) (k24 : Int32 → Int32 → Int32 → Int32 → Int32 → Mem → Option (Int32 × Mem)) (p1 p2 p3 p4 : Int32) : fX12_wants_122_b41 k24 FU p1 p2 p3 p4 (nI n) 0 (nI n) 3 ν = bnd (fX12_haveBy_122_145 p1 0 (rdM ν 145 n)) fun r11 m12 => if r11 < p3 then (k24 p1 p2 p3 p4 (nI n + 1) m12) else if r11 = p3 then (if 0 + df μ n 3 + df μ n 2 + df μ n 1 + df μ n 0 < p4 then (fX12_wants_122_b130 k24 p1 (nI n) (0 + df μ n 3 + df μ n 2 + df μ n 1 + df μ n 0) r11 m12) else k24 p1 p2 p3 p4 (nI n + 1) m12) else fX12_wants_122_b130 k24 p1 (nI n) (0 + df μ n 3 + df μ n 2 + df μ n 1 + df μ n 0) r11 m12 := by
  show fX12_wants_122_b41 k24 (995 + 1 + 1 + 1 + 1 + 1) p1 p2 p3 p4 (nI n) 0 (nI n) (nI 3) ν = _
  have st : ∀ (f i x : Nat) (a : Int32) (ν' : Mem), i < 4 → x < 2 ^ 31 → x % 3 = dg n i → gI ν' 132 i = gI μ 25 i → fX12_wants_122_b41 k24 (f + 1) p1 p2 p3 p4 (nI n) a (nI x) (nI i) ν' = fX12_wants_122_b41 k24 f p1 p2 p3 p4 (nI n) (a + df μ n i) (nI (x / 3)) (nI i + -1) (sI ν' 145 i (nI (x % 3))) := by
    intro f i x a ν' hi hx hd he
    have e1 : gI (sI ν' 145 i (nI (x % 3))) 145 i = nI (x % 3) := by rw [gI_sI, if_pos ⟨rfl, rfl⟩]
    have e2 : gI (sI ν' 145 i (nI (x % 3))) 132 i = gI ν' 132 i := by rw [gI_sI, if_neg (by omega)]
    rw [fX12_wants_122_b41, if_neg (nI_pos (by omega)), nz3, gd_e, gd_in hi (by decide), ix_nI (by omega), lt_e, gd_e, lt_e, gd_in hi (by decide), gd_in hi (by decide), l3, nI_mod hx (by decide) (by decide), nI_div hx (by decide) (by decide), e1, e2, he, hd, lt_e, lt_e]
    unfold df
    by_cases q : nI (dg n i) = gI μ 25 i
    · rw [if_pos q, if_pos q]
    · rw [if_neg q, if_neg q]
  rw [st _ 3 n _ ν (by omega) (by omega) rfl (h.ends (by omega)), show nI 3 + -1 = nI 2 from nI_m1 2]
  rw [st _ 2 (n / 3) _ _ (by omega) (by omega) rfl (by rw [gI_sI, if_neg (by omega)]; exact h.ends (by omega)), show nI 2 + -1 = nI 1 from nI_m1 1]
  rw [st _ 1 (n / 3 / 3) _ _ (by omega) (by omega) rfl (by rw [gI_sI, if_neg (by omega), gI_sI, if_neg (by omega)]; exact h.ends (by omega)), show nI 1 + -1 = nI 0 from nI_m1 0]
  rw [st _ 0 (n / 3 / 3 / 3) _ _ (by omega) (by omega) rfl (by rw [gI_sI, if_neg (by omega), gI_sI, if_neg (by omega), gI_sI, if_neg (by omega)]; exact h.ends (by omega))]
  rw [fX12_wants_122_b41, if_pos (by decide)]
  rfl
def HB26 (c : Nat) (μ : Mem) (t : Int32) : Int32 := HBs μ (gI μ 26) t (stN μ) 0 c
theorem c_falls26 (h : Rel V c b B μ ν) (hE : ∀ e, e < 4 → ∃ s, s < 3 ∧ gI μ 26 e = nI s) {who x : Int32} (hw : (who = 0 ∧ ∃ s, s < 4 ∧ x = nI s) ∨ who = 1 ∨ who = 2) : fX11_fallsTo_0_26 who x μ = some (HB26 c μ (tg who x), μ) := by
  unfold HB26
  rw [show fX11_fallsTo_0_26 who x μ = _ from cFT_26 h.men h.c6 (stN μ) (stN_ok h) (fun p hp => h.heir4 hp) hE hw c FU 0 0 (by omega) (fu_lt (Nat.lt_of_le_of_lt h.c6 (by decide))), Int32.zero_add]
theorem m_have145 (h : Rel V c b B μ ν) (hE : ∀ e, e < 4 → gI ν 145 e = gI μ 26 e) (tgt : Int32) : fX12_haveBy_122_145 tgt 0 ν = some (HB26 c μ tgt, ν) := by
  unfold HB26
  rw [show fX12_haveBy_122_145 tgt 0 ν = _ from mHB_145 h hE (stN μ) (stN_ok h) tgt 0 (fun _ => 0) (Or.inl ⟨rfl, fun _ => rfl⟩) c FU 0 0 (by omega) (fu_lt (Nat.lt_of_le_of_lt h.c6 (by decide))), Int32.zero_add, stN_0]
theorem ac4 (a b x y : Int32) : 0 + a + b + x + y = 0 + y + x + b + a := by
  rw [Int32.zero_add, Int32.zero_add, Int32.add_comm (a + b + x) y, Int32.add_comm (a + b) x, Int32.add_comm a b, ← Int32.add_assoc, ← Int32.add_assoc]
theorem wants_in (h : Rel V c b B μ ν) {s : Nat} (hs : s < 4) : ∀ (m f n : Nat) (x x' y z : Int32) (μ' ν' : Mem), n + m = 81 → m < f → (x' = x ∨ (n = 0 ∧ y = -1)) → (m = 0 → x' = x) → Off scC μ μ' → Off scM ν ν' → Pr V c b B (fX11_wants_0_b21 f (nI s) x y z (nI n) μ') (fX12_wants_122_b24 f (nI s) x' y z (nI n) ν') := by
  intro m
  induction m with
  | zero =>
    intro f n x x' y z μ' ν' h1 h2 hx hx2 o o'
    obtain ⟨f, rfl⟩ := Nat.exists_eq_succ_of_ne_zero (show f ≠ 0 by omega)
    have e : (81 : Int32) ≤ nI n := nI_le (a := 81) (by omega) (by omega)
    have hR : Rel V c b B μ' ν' := (h.sc o).sm o'
    rw [hx2 rfl, fX11_wants_0_b21, fX12_wants_122_b24, if_pos e, if_pos e, c_falls hR (Or.inl ⟨rfl, s, hs, rfl⟩), bnd_e, lt_e, tg0]
    refine sm_L (c_tell2 _ _) (fun _ μ2 t => ?_)
    refine sm_R (m_tell (TM.nil _) (by decide) _) (fun _ ν2 t2 => ?_)
    rw [m_have (hR.rowM t2 (by simp)) (nI s) 0 (fun _ => 0) (Or.inl ⟨rfl, fun _ => rfl⟩), bnd_e, HB_row]
    refine sm_R (m_tell t2 (by simp) _) (fun _ ν3 t3 => ?_)
    exact pr_end (hR.tell t t3 (by simp)) _
  | succ m ih =>
    intro f n x x' y z μ' ν' h1 h2 hx hx2 o o'
    obtain ⟨f, rfl⟩ := Nat.exists_eq_succ_of_ne_zero (show f ≠ 0 by omega)
    have e : ¬ (81 : Int32) ≤ nI n := nI_ge (b := 81) (by omega) (by omega)
    have hR : Rel V c b B μ' ν' := (h.sc o).sm o'
    have o1 : Off scC μ (rdM μ' 26 n) := o.tr (rdM_C n)
    have o1' : Off scM ν (rdM ν' 145 n) := o'.tr (rdM_M n)
    have hR2 : Rel V c b B (rdM μ' 26 n) (rdM ν' 145 n) := (h.sc o1).sm o1'
    rw [fX11_wants_0_b21, fX12_wants_122_b24, if_neg e, if_neg e, m_wants1 hR (by omega), c_reading (by omega), bnd_e, c_falls26 hR2 (fun i hi => ⟨dg n i, dg_lt n i, rdM_at 26 n i hi⟩) (Or.inl ⟨rfl, s, hs, rfl⟩), bnd_e, c_changed, bnd_e, m_have145 hR2 (fun i hi => by rw [rdM_at 145 n i hi, rdM_at 26 n i hi]), bnd_e, tg0, ac4 (df μ' n 3)]
    unfold fX11_wants_0_b80 fX12_wants_122_b130
    rw [nI_1]
    obtain ⟨k, hk, ek⟩ := HBs_nat hR2 (gI (rdM μ' 26 n) 26) (nI s) (stN (rdM μ' 26 n)) c 0
    have hc6 := h.c6
    have go : ∀ (x x' y z : Int32), (x' = x ∨ (n + 1 = 0 ∧ y = -1)) → (m = 0 → x' = x) → Pr V c b B (fX11_wants_0_b21 f (nI s) x y z (nI (n + 1)) (rdM μ' 26 n)) (fX12_wants_122_b24 f (nI s) x' y z (nI (n + 1)) (rdM ν' 145 n)) := fun x x' y z q q2 => ih f (n + 1) x x' y z _ _ (by omega) (by omega) q q2 o1 o1'
    by_cases q1 : y < HB26 c (rdM μ' 26 n) (nI s)
    · have q2 : ¬ HB26 c (rdM μ' 26 n) (nI s) < y := i_nlt.mpr (by rw [i_le]; rw [i_lt] at q1; omega)
      have q3 : ¬ HB26 c (rdM μ' 26 n) (nI s) = y := fun q => by rw [q, i_lt] at q1; omega
      rw [if_pos q1, if_neg q2, if_neg q3]
      exact go _ _ _ _ (Or.inl rfl) (fun _ => rfl)
    · have hxx : x' = x := by
        rcases hx with hx | ⟨-, rfl⟩
        · exact hx
        · exfalso
          apply q1
          unfold HB26
          rw [ek, i_lt, nI_toInt (by have : 792 * c ≤ 792 * 6 := Nat.mul_le_mul_left _ hc6; omega), show (-1 : Int32).toInt = -1 from rfl]
          omega
      rw [if_neg q1]
      by_cases q3 : HB26 c (rdM μ' 26 n) (nI s) = y
      · have q2 : ¬ HB26 c (rdM μ' 26 n) (nI s) < y := fun q => by rw [q3, i_lt] at q; omega
        rw [if_pos q3, if_neg q2, if_pos q3]
        by_cases q4 : z ≤ 0 + df μ' n 0 + df μ' n 1 + df μ' n 2 + df μ' n 3
        · rw [if_pos q4, if_neg (i_nlt.mpr q4)]
          exact go _ _ _ _ (Or.inl hxx) (fun _ => hxx)
        · rw [if_neg q4, if_pos (i_nle.mp q4)]
          exact go _ _ _ _ (Or.inl rfl) (fun _ => rfl)
      · have q2 : HB26 c (rdM μ' 26 n) (nI s) < y := by
          rw [i_eq] at q3
          rw [i_lt] at q1 ⊢
          omega
        rw [if_neg q3, if_pos q2]
        exact go _ _ _ _ (Or.inl hxx) (fun _ => hxx)
theorem pr_wants (h : Rel V c b B μ ν) (v : Int32) : Pr V c b B (fX11_wants_0 v μ) (fX12_wants_122 v ν) := by
  have h1 := m17 h 0
  unfold fX11_wants_0 fX12_wants_122 fX12_isHeir
  rw [lt_e, m_in, bnd_e]
  rcases rng_or v 0 3 (lo := 0) (hi := 3) rfl rfl (by decide) (by decide) with ⟨q1, q2⟩ | ⟨q1, q3, q2⟩ | ⟨n, hn1, hn2, rfl, a1, a2, a3⟩
  · rw [if_pos q1, if_pos q2]
    exact pr_end h1 _
  · rw [if_neg q1, if_neg (fun q => q3 (by rw [i_le]; rw [i_lt] at q; have e4 : (4 : Int32).toInt = 4 := rfl; have e3 : (3 : Int32).toInt = 3 := rfl; omega)), if_pos q2]
    exact pr_end h1 _
  · rw [if_neg a1, if_pos (show nI n < 4 from nI_lt (b := 4) (by omega) (by decide)), if_neg a3, isZ1, gd_e, bnd_e, if_neg n10]
    exact wants_in h1 (show n < 4 by omega) 81 FU 0 _ _ _ _ μ _ rfl (by decide) (Or.inr ⟨rfl, rfl⟩) (fun q => absurd q (by decide)) (Off.refl _) (Off.refl _)
end Pure16
