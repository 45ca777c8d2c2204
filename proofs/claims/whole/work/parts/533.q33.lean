section Pure33
variable {V : VT} {c b B : Nat} {μ ν : Mem}
theorem imax_nI {a b : Nat} (ha : a < 2 ^ 31) (hb : b < 2 ^ 31) : imax (nI a) (nI b) = nI (max a b) := by
  unfold imax
  by_cases q : a < b
  · rw [if_pos (nI_lt q hb), Nat.max_eq_right (by omega)]
  · rw [if_neg (nI_nlt (by omega) ha), Nat.max_eq_left (by omega)]
theorem CN_256 {g : Nat} (hg : g < 256) (x : Int32) (t : Nat → Bool) : CN (fun i => such μ g x i && t i) 256 = CN (fun i => such μ g x i && t i) (g + 1) := CN_ext (fun i hi => by
  rw [such_gt (by omega)]
  rfl) 256 (by omega)
theorem CN_all {g : Nat} (hg : g < 256) (x : Int32) (k : Nat) : CN (fun i => such μ g x i && hasB k i) (g + 1) + CN (fun i => such μ g x i && !hasB k i) (g + 1) = CN (such μ g x) (g + 1) := CN_split (such μ g x) (hasB k) (g + 1)
theorem mSearch0 (h : Rel V c b B μ ν) {p : Nat} (hp : p < c) (x : Int32) {g : Nat} (hg : g < 256) (eg : gI μ 10 p = nI g) (hN : CN (such μ g x) (g + 1) = 0) (p4 : Int32) : ∀ (m f k : Nat), k + m = 8 → m < f → fX12_search_122_b36 f (nI p) x (-1) p4 (nI k) ν = some (-2, ν) := by
  have h6 := h.c6
  intro m
  induction m with
  | zero =>
    intro f k h1 h2
    obtain ⟨f, rfl⟩ := Nat.exists_eq_succ_of_ne_zero (show f ≠ 0 by omega)
    rw [fX12_search_122_b36, if_pos (show (8 : Int32) ≤ nI k from nI_le (a := 8) (by omega) (by omega)), if_pos rfl]
  | succ m ih =>
    intro f k h1 h2
    obtain ⟨f, rfl⟩ := Nat.exists_eq_succ_of_ne_zero (show f ≠ 0 by omega)
    rw [fX12_search_122_b36, if_neg (show ¬ (8 : Int32) ≤ nI k from nI_ge (b := 8) (by omega) (by omega)), gd_in (by omega) (by decide), ix_nI (by omega), m_has, bnd_e, h.goods hp, eg, nI_1]
    by_cases q : (nI g >>> (nI k &&& 31)) &&& 1 = 0
    · rw [if_pos q, if_pos rfl]
      exact ih f (k + 1) (by omega) (by omega)
    · have A := CN_all (μ := μ) hg x k
      have w0 : CN (fun i => such μ g x i && hasB k i) (g + 1) = 0 := by omega
      have w1 : CN (fun i => such μ g x i && !hasB k i) (g + 1) = 0 := by omega
      rw [if_neg q, if_neg n10, show fX12_search_122_b69 (fun p1 p2 p3 p4 p5 m => fX12_search_122_b36 f p1 p2 p3 p4 p5 m) FU (nI p) x (-1) p4 (nI k) 0 0 0 ν = _ from mParts h hp x hg eg (fun p1 p2 p3 p4 p5 m => fX12_search_122_b36 f p1 p2 p3 p4 p5 m) (-1) p4 (show k < 8 by omega) (g + 1) FU 0 (by omega) (fu_lt (by omega)), w0, w1, if_pos (by decide)]
theorem search_in (h : Rel V c b B μ ν) {p : Nat} (hp : p < c) (x : Int32) {g : Nat} (hg : g < 256) (eg : gI μ 10 p = nI g) (hN : 0 < CN (such μ g x) (g + 1)) : ∀ (m f k : Nat) (c5 c6 r3 r4 : Int32), k + m = 8 → m < f → ((c5 = -2 ∧ c6 = nI (CN (such μ g x) (g + 1) + 1) ∧ r3 = -1 ∧ r4 = 1000000) ∨ ∃ t w, t < 8 ∧ w ≤ 256 ∧ c5 = nI t ∧ r3 = nI t ∧ c6 = nI w ∧ r4 = nI w) → Pr V c b B (fX11_search_0_b53 f x (nI g) (nI (CN (such μ g x) (g + 1))) c5 c6 (nI k) μ) (fX12_search_122_b36 f (nI p) x r3 r4 (nI k) ν) := by
  have h6 := h.c6
  have lN := CN_le (such μ g x) (g + 1)
  intro m
  induction m with
  | zero =>
    intro f k c5 c6 r3 r4 h1 h2 hi
    obtain ⟨f, rfl⟩ := Nat.exists_eq_succ_of_ne_zero (show f ≠ 0 by omega)
    have e : (8 : Int32) ≤ nI k := nI_le (a := 8) (by omega) (by omega)
    rw [fX11_search_0_b53, fX12_search_122_b36, if_pos e, if_pos e]
    unfold fX11_search_0_b122
    rcases hi with ⟨rfl, rfl, rfl, rfl⟩ | ⟨t, w, ht, hw, rfl, rfl, rfl, rfl⟩
    · rw [if_pos neg2_lt, if_pos rfl]
      exact pr_end h _
    · rw [if_neg (nI_pos (by omega)), if_neg (neg_ne (by omega)), lt_e]
      refine sm_L (c_tell1 _) (fun _ μ2 t => ?_)
      refine sm_R (m_tell (TM.nil _) (by decide) _) (fun _ ν2 t2 => ?_)
      exact pr_end (h.tell t t2 (by simp)) _
  | succ m ih =>
    intro f k c5 c6 r3 r4 h1 h2 hi
    obtain ⟨f, rfl⟩ := Nat.exists_eq_succ_of_ne_zero (show f ≠ 0 by omega)
    have e : ¬ (8 : Int32) ≤ nI k := nI_ge (b := 8) (by omega) (by omega)
    rw [fX11_search_0_b53, fX12_search_122_b36, if_neg e, if_neg e, if_neg (nI_nle hN (by omega)), gd_in (by omega) (by decide), ix_nI (by omega), m_has, bnd_e, h.goods hp, eg, nI_1]
    by_cases q : (nI g >>> (nI k &&& 31)) &&& 1 = 0
    · rw [if_pos q, if_pos q, if_pos rfl]
      exact ih f (k + 1) _ _ _ _ (by omega) (by omega) hi
    · have A := CN_all (μ := μ) hg x k
      obtain ⟨W, hW⟩ : ∃ W, W = CN (fun i => such μ g x i && hasB k i) (g + 1) := ⟨_, rfl⟩
      obtain ⟨U, hU⟩ : ∃ U, U = CN (fun i => such μ g x i && !hasB k i) (g + 1) := ⟨_, rfl⟩
      rw [← hW, ← hU] at A
      unfold fX11_partsWith_0
      rw [if_neg q, if_neg q, if_neg n10, show fX12_search_122_b69 (fun p1 p2 p3 p4 p5 m => fX12_search_122_b36 f p1 p2 p3 p4 p5 m) FU (nI p) x r3 r4 (nI k) 0 0 0 ν = _ from mParts h hp x hg eg (fun p1 p2 p3 p4 p5 m => fX12_search_122_b36 f p1 p2 p3 p4 p5 m) r3 r4 (show k < 8 by omega) (g + 1) FU 0 (by omega) (fu_lt (by omega)), show fX11_partsWith_0_b6 FU (nI g) ((1 : Int32) <<< (nI k &&& 31)) x 0 0 μ = _ from cParts x (fun i hi => bit8 k (by omega) i hi) 256 FU 0 rfl (by decide), bnd_e, CN_256 hg, ← hW, ← hU, lt_e, lt_e, ← A, nI_sub (show W ≤ W + U by omega) (by omega), show W + U - W = U by omega, imax_nI (by omega) (by omega), nI_add, if_neg (nI_ne0 (show 0 < W + U by omega) (by omega)), nI_1]
      rw [← A] at hi ih
      rcases hi with ⟨rfl, rfl, rfl, rfl⟩ | ⟨t, w, ht, hw, rfl, rfl, rfl, rfl⟩
      · rw [if_neg (nI_ge (show max W U < W + U + 1 by omega) (by omega)), if_pos (show nI (max W U) < 1000000 from nI_lt (b := 1000000) (by omega) (by decide))]
        exact ih f (k + 1) _ _ _ _ (by omega) (by omega) (Or.inr ⟨k, max W U, by omega, by omega, rfl, rfl, rfl, rfl⟩)
      · by_cases g1 : w ≤ max W U
        · rw [if_pos (nI_le g1 (by omega)), if_neg (nI_nlt g1 (by omega))]
          exact ih f (k + 1) _ _ _ _ (by omega) (by omega) (Or.inr ⟨t, w, ht, hw, rfl, rfl, rfl, rfl⟩)
        · rw [if_neg (nI_ge (by omega) (by omega)), if_pos (nI_lt (by omega) (by omega))]
          exact ih f (k + 1) _ _ _ _ (by omega) (by omega) (Or.inr ⟨k, max W U, by omega, by omega, rfl, rfl, rfl, rfl⟩)
theorem pr_search (h : Rel V c b B μ ν) (v v2 : Int32) : Pr V c b B (fX11_search_0 v v2 μ) (fX12_search_122 v v2 ν) := by
  unfold fX11_search_0 fX12_search_122
  have h1 := m17 h 0
  have h6 := h.c6
  rw [lt_e]
  rcases man_or h1 v with ⟨e1, e2, -, -⟩ | ⟨p, hp, rfl, e1, e2, -, -⟩
  · rw [e1, e2, bnd_e, bnd_e, if_pos rfl, if_pos rfl]
    exact pr_end h1 _
  · rw [e1, e2, bnd_e, bnd_e, if_neg n10, if_neg n10, m_in, bnd_e]
    rcases rng_or v2 0 999 (lo := 0) (hi := 999) rfl rfl (by decide) (by decide) with ⟨q1, q2⟩ | ⟨q1, q3, q2⟩ | ⟨n, hn1, hn2, rfl, a1, a2, a3⟩
    · rw [if_pos q1, if_pos q2, if_pos rfl]
      exact pr_end h1 _
    · rw [if_neg q1, if_neg q3, if_pos q2, if_pos rfl]
      exact pr_end h1 _
    · obtain ⟨g, hg, eg⟩ := h1.goods8 hp
      have eN : CN (fun i => such μ g (nI n) i && (fun _ => true) i) 256 = CN (such μ g (nI n)) (g + 1) := by
        rw [CN_256 hg]
        congr 1
        funext i
        exact Bool.and_true _
      unfold fX11_partsWith_0
      rw [if_neg a1, if_pos a2, if_neg a3, if_neg n10, gd_in (by omega) (by decide), ix_nI (by omega), lt_e, eg, show fX11_partsWith_0_b6 FU (nI g) 0 (nI n) 0 0 μ = _ from cParts (nI n) (t := fun _ => true) (fun i hi => ⟨fun _ => rfl, fun _ => by rw [show (0 : Int32) = nI 0 from rfl, nI_and, Nat.and_zero]⟩) 256 FU 0 rfl (by decide), bnd_e, lt_e, eN, nI_1]
      by_cases z : CN (such μ g (nI n)) (g + 1) = 0
      · rw [show fX12_search_122_b36 FU (nI p) (nI n) (-1) 1000000 0 (sI ν 122 17 0) = _ from mSearch0 h1 hp (nI n) hg eg z 1000000 8 FU 0 rfl (by decide), z]
        have : fX11_search_0_b53 (999 + 1) (nI n) (nI g) (nI 0) (-2) (nI (0 + 1)) (nI 0) μ = some (-2, μ) := by
          rw [fX11_search_0_b53, if_neg (by decide), if_pos (by decide)]
          unfold fX11_search_0_b122
          rw [if_pos neg2_lt]
        rw [show fX11_search_0_b53 FU (nI n) (nI g) (nI 0) (-2) (nI (0 + 1)) 0 μ = _ from this]
        exact pr_end h1 _
      · exact search_in h1 hp (nI n) hg eg (by omega) 8 FU 0 _ _ _ _ rfl (by decide) (Or.inl ⟨rfl, rfl, rfl, rfl⟩)
end Pure33
