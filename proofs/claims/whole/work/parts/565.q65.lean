section Pure65
variable {V : VT} {c0 b B : Nat}
def SK (stk : List Int32) (μ : Mem) : Prop := ∀ i, i < stk.length → gI μ 23 i = stk.getD (stk.length - 1 - i) 0
theorem c_joined {k : Nat} (hk : k < 7) (x y : Int32) (μ : Mem) : fX8_joined (nI k) x y μ = some (jn k x y, μ) := by
  unfold fX8_joined jn
  obtain rfl | rfl | rfl | rfl | rfl | rfl | rfl : k = 0 ∨ k = 1 ∨ k = 2 ∨ k = 3 ∨ k = 4 ∨ k = 5 ∨ k = 6 := by omega
  · rw [if_pos (show nI 0 = 0 from rfl), if_pos rfl]
    by_cases z : y ≤ x
    · rw [if_pos z, if_pos z]
    · rw [if_neg z, if_neg z]
  · rw [if_neg (show ¬ nI 1 = 0 by decide), if_pos (show nI 1 = 1 from rfl), if_neg (show ¬ (1 : Nat) = 0 by decide), if_pos (show (1 : Nat) = 1 from rfl)]
    by_cases z : x ≤ y
    · rw [if_pos z, if_pos z]
    · rw [if_neg z, if_neg z]
  · rw [if_neg (show ¬ nI 2 = 0 by decide), if_neg (show ¬ nI 2 = 1 by decide), if_pos (show nI 2 = 2 from rfl), if_neg (show ¬ (2 : Nat) = 0 by decide), if_neg (show ¬ (2 : Nat) = 1 by decide), if_pos (show (2 : Nat) = 2 from rfl)]
    by_cases z : x = y
    · rw [if_pos z, if_pos z]
    · rw [if_neg z, if_neg z]
  · rfl
  · rfl
  · rfl
  · rw [if_neg (show ¬ nI 6 = 0 by decide), if_neg (show ¬ nI 6 = 1 by decide), if_neg (show ¬ nI 6 = 2 by decide), if_neg (show ¬ nI 6 = 3 by decide), if_neg (show ¬ nI 6 = 4 by decide), if_neg (show ¬ nI 6 = 5 by decide), if_pos (show nI 6 = 6 from rfl), if_neg (show ¬ (6 : Nat) = 0 by decide), if_neg (show ¬ (6 : Nat) = 1 by decide), if_neg (show ¬ (6 : Nat) = 2 by decide), if_neg (show ¬ (6 : Nat) = 3 by decide), if_neg (show ¬ (6 : Nat) = 4 by decide), if_neg (show ¬ (6 : Nat) = 5 by decide), if_pos (show (6 : Nat) = 6 from rfl)]
    by_cases z : y = 0
    · rw [if_pos z, if_pos z]
    · rw [if_neg z, if_neg z, gd_of (by simpa using z)]
theorem SK.push {stk : List Int32} {μ : Mem} (h : SK stk μ) (v : Int32) : SK (v :: stk) (sI μ 23 stk.length v) := fun i hi => by
  rw [List.length_cons] at hi ⊢
  rw [gI_sI]
  by_cases e : i = stk.length
  · rw [if_pos ⟨rfl, e⟩, e, show stk.length + 1 - 1 - stk.length = 0 by omega]; rfl
  · rw [if_neg (fun z => e z.2), h i (by omega), show stk.length + 1 - 1 - i = (stk.length - 1 - i) + 1 by omega]; rfl
theorem SK.top {stk : List Int32} {y : Int32} {μ : Mem} (h : SK (y :: stk) μ) : gI μ 23 stk.length = y := by
  have := h stk.length (by rw [List.length_cons]; omega)
  rw [List.length_cons, show stk.length + 1 - 1 - stk.length = 0 by omega] at this
  exact this
theorem SK.pop {stk : List Int32} {y : Int32} {μ : Mem} (h : SK (y :: stk) μ) : SK stk μ := fun i hi => by
  have := h i (by rw [List.length_cons]; omega)
  rw [List.length_cons, show stk.length + 1 - 1 - i = (stk.length - 1 - i) + 1 by omega] at this
  exact this
theorem drop_get {c : List Nat} {k : Nat} (h : k < c.length) : c.drop k = c.getD k 0 :: c.drop (k + 1) := by
  rw [List.drop_eq_getElem_cons h, List.getD_eq_getElem?_getD, List.getElem?_eq_getElem h]
  rfl
theorem l1000 : (1000 : Int32) = nI 1000 := by decide
theorem l2000 : (2000 : Int32) = nI 2000 := by decide
theorem l2007 : (2007 : Int32) = nI 2007 := by decide
theorem st_lo {x : Nat} (h : x < 1000) : ¬ (1000 : Int32) ≤ nI x := by rw [l1000]; exact nI_ge h (by decide)
theorem st_hi {x : Nat} (h : 1000 ≤ x) (h2 : x < 2 ^ 31) : (1000 : Int32) ≤ nI x := by rw [l1000]; exact nI_le h h2
theorem st_m1 {x : Nat} (h : 1000 ≤ x) (h2 : x < 2 ^ 31) : nI x - (1000 : Int32) = nI (x - 1000) := by rw [l1000]; exact nI_sub h h2
theorem st_m2 {x : Nat} (h : 2000 ≤ x) (h2 : x < 2 ^ 31) : nI x - (2000 : Int32) = nI (x - 2000) := by rw [l2000]; exact nI_sub h h2
theorem st_e7 {x : Nat} (h2 : x < 2 ^ 31) : (nI x = (2007 : Int32)) = (x = 2007) := by rw [l2007]; exact propext (nI_eq h2 (by decide))
theorem evl_cons (th : Nat → Int32) (x : Nat) (l : List Nat) (stk : List Int32) : evl th (x :: l) stk = evl th l (ev1 th stk x) := by
  unfold evl
  rw [List.foldl_cons]
theorem ev1_num (th : Nat → Int32) (stk : List Int32) {x : Nat} (h : x < 1000) : ev1 th stk x = nI x :: stk := by
  unfold ev1; rw [if_pos h]
theorem ev1_th (th : Nat → Int32) (stk : List Int32) {x : Nat} (h : ¬ x < 1000) (h2 : x < 1006) : ev1 th stk x = th (x - 1000) :: stk := by
  unfold ev1; rw [if_neg h, if_pos h2]
theorem ev1_nil (th : Nat → Int32) {x : Nat} (h : ¬ x < 1000) (h2 : ¬ x < 1006) : ev1 th [] x = [] := by
  unfold ev1; rw [if_neg h, if_neg h2]
theorem ev1_neg (th : Nat → Int32) (y : Int32) (r : List Int32) {x : Nat} (h : ¬ x < 1000) (h2 : ¬ x < 1006) (h3 : x = 2007) : ev1 th (y :: r) x = (-y) :: r := by
  unfold ev1; rw [if_neg h, if_neg h2]
  cases r with
  | nil => exact if_pos h3
  | cons x' r' => exact if_pos h3
theorem ev1_one (th : Nat → Int32) (y : Int32) {x : Nat} (h : ¬ x < 1000) (h2 : ¬ x < 1006) (h3 : ¬ x = 2007) : ev1 th [y] x = [y] := by
  unfold ev1; rw [if_neg h, if_neg h2]
  exact if_neg h3
theorem ev1_two (th : Nat → Int32) (y x' : Int32) (r : List Int32) {x : Nat} (h : ¬ x < 1000) (h2 : ¬ x < 1006) (h3 : ¬ x = 2007) : ev1 th (y :: x' :: r) x = jn (x - 2000) x' y :: r := by
  unfold ev1; rw [if_neg h, if_neg h2]
  exact if_neg h3
theorem pile_in {th : Nat → Int32} {c : List Nat} (hc : c.length ≤ 40) (ok : ∀ x ∈ c, okS1 x) : ∀ (m f k : Nat) (stk : List Int32) (μ : Mem), k + m = c.length → m < f → stk.length ≤ k → SK stk μ → gI μ 19 1 = nI c.length → (∀ j, j < c.length → gI μ 20 j = nI (c.getD j 0)) → (∀ j, j < 6 → gI μ 22 j = th j) → ∃ μ', fX8_worth_19_b71 f (nI stk.length) (nI k) μ = some (gI μ' 23 0, μ') ∧ Off w22 μ μ' ∧ SK (evl th (c.drop k) stk) μ' := by
  intro m
  induction m with
  | zero =>
    intro f k stk μ h1 h2 hk sk hl hcd hth
    obtain ⟨f, rfl⟩ := Nat.exists_eq_succ_of_ne_zero (show f ≠ 0 by omega)
    refine ⟨μ, ?_, Off.refl _, by rw [List.drop_eq_nil_of_le (by omega)]; exact sk⟩
    rw [fX8_worth_19_b71, hl, if_pos (nI_le (by omega) (by omega))]
    unfold fX8_worth_19_b245
    rw [gd_of (by decide)]
    rfl
  | succ m ih =>
    intro f k stk μ h1 h2 hk sk hl hcd hth
    obtain ⟨f, rfl⟩ := Nat.exists_eq_succ_of_ne_zero (show f ≠ 0 by omega)
    have hkc : k < c.length := by omega
    rw [fX8_worth_19_b71, hl, if_neg (nI_ge (by omega) (by omega)), if_neg (show ¬ (40 : Int32) ≤ nI stk.length from nI_ge (b := 40) (by omega) (by decide)), gd_in (by omega) (by decide), ix_nI (by omega), lt_e, lt_e, hcd k hkc, drop_get hkc]
    have okx : okS1 (c.getD k 0) := ok _ (by
      rw [List.getD_eq_getElem?_getD, List.getElem?_eq_getElem hkc]
      exact List.getElem_mem hkc)
    generalize hx : c.getD k 0 = x at okx ⊢
    rw [evl_cons]
    -- on with another pile
    have go : ∀ (stk' : List Int32) (μ1 : Mem), stk'.length ≤ k + 1 → SK stk' μ1 → Off w22 μ μ1 → (∀ j, gI μ1 22 j = gI μ 22 j) → ∃ μ', fX8_worth_19_b71 f (nI stk'.length) (nI (k + 1)) μ1 = some (gI μ' 23 0, μ') ∧ Off w22 μ μ' ∧ SK (evl th (c.drop (k + 1)) stk') μ' := fun stk' μ1 l1 s1 o1 t1 => by
      obtain ⟨μ', e1, e2, e3⟩ := ih f (k + 1) stk' μ1 (by omega) (by omega) l1 s1 ((o1.1 19 1 rfl).trans hl) (fun j hj => (o1.1 20 j rfl).trans (hcd j hj)) (fun j hj => (t1 j).trans (hth j hj))
      exact ⟨μ', e1, o1.tr e2, e3⟩
    have o23 : ∀ (j : Nat) (v : Int32), Off w22 μ (sI μ 23 j v) := fun j v => (Off.refl μ).sI rfl
    have t22 : ∀ (j : Nat) (v : Int32) (q : Nat), gI (sI μ 23 j v) 22 q = gI μ 22 q := fun j v q => by rw [gI_sI, if_neg (fun e => absurd e.1 (by decide))]
    by_cases x1 : x < 1000
    · rw [ev1_num th stk x1, if_neg (st_lo x1), gd_in (by omega) (by decide), ix_nI (by omega), lt_e, nI_1, nI_1]
      exact go (nI x :: stk) _ (by rw [List.length_cons]; omega) (sk.push _) (o23 _ _) (t22 _ _)
    · rw [if_pos (st_hi (by omega) (by unfold okS1 at okx; omega)), st_m1 (by omega) (by unfold okS1 at okx; omega)]
      by_cases x2 : x < 1006
      · rw [ev1_th th stk x1 x2, if_neg (show ¬ (6 : Int32) ≤ nI (x - 1000) from nI_ge (b := 6) (by omega) (by decide)), gd_in (by omega) (by decide), gd_in (by omega) (by decide), ix_nI (by omega), ix_nI (by omega), lt_e, nI_1, nI_1, hth (x - 1000) (by omega)]
        exact go (th (x - 1000) :: stk) _ (by rw [List.length_cons]; omega) (sk.push _) (o23 _ _) (t22 _ _)
      · have x3 : 2000 ≤ x ∧ x < 2008 := okx.resolve_left x2
        rw [if_pos (show (6 : Int32) ≤ nI (x - 1000) from nI_le (a := 6) (by omega) (by omega))]
        have e7 : (nI x = (2007 : Int32)) = (x = 2007) := st_e7 (by omega)
        by_cases z : x = 2007
        · rw [if_pos (show nI x = (2007 : Int32) by rw [e7]; exact z)]
          cases stk with
          | nil =>
            unfold fX8_worth_19_b192
            rw [ev1_nil th x1 x2, if_pos (show nI ([] : List Int32).length ≤ 0 by decide), if_pos (show nI ([] : List Int32).length ≤ 1 by decide), nI_1]
            exact go [] μ (by simp) sk (Off.refl _) (fun _ => rfl)
          | cons y r =>
            rw [ev1_neg th y r x1 x2 z]
            have hh : (y :: r).length = r.length + 1 := List.length_cons
            rw [hh] at hk ⊢
            rw [if_neg (nI_nle (by omega) (by omega)), nI_pred, gd_in (by omega) (by decide), gd_in (by omega) (by decide), ix_nI (by omega), sk.top, lt_e, nI_1]
            exact go ((-y) :: r) _ (by rw [List.length_cons]; omega) (sk.pop.push _) (o23 _ _) (t22 _ _)
        · rw [if_neg (show ¬ nI x = (2007 : Int32) by rw [e7]; exact z)]
          unfold fX8_worth_19_b192
          cases stk with
          | nil =>
            rw [ev1_nil th x1 x2, if_pos (show nI ([] : List Int32).length ≤ 1 by decide), nI_1]
            exact go [] μ (by simp) sk (Off.refl _) (fun _ => rfl)
          | cons y r =>
            cases r with
            | nil =>
              rw [ev1_one th y x1 x2 z, if_pos (show nI ([y] : List Int32).length ≤ 1 from (by decide : nI 1 ≤ 1)), nI_1]
              exact go [y] μ (by rw [List.length_singleton]; omega) sk (Off.refl _) (fun _ => rfl)
            | cons x' r' =>
              rw [ev1_two th y x' r' x1 x2 z]
              have hh : (y :: x' :: r').length = r'.length + 1 + 1 := rfl
              rw [hh] at hk ⊢
              have hp : nI (r'.length + 1 + 1) + (-1) = nI (r'.length + 1) := by rw [← Int32.sub_eq_add_neg]; exact nI_pred _
              have t1 : gI μ 23 (r'.length + 1) = y := sk.top
              have t2 : gI μ 23 r'.length = x' := sk.pop.top
              rw [if_neg (show ¬ nI (r'.length + 1 + 1) ≤ 1 from nI_ge (a := 1) (by omega) (by omega)), lt_e, hp, nI_pred, st_m2 x3.1 (show x < 2 ^ 31 by omega), gd_in (by omega) (by decide), gd_in (by omega) (by decide), ix_nI (show r'.length < 2 ^ 31 by omega), ix_nI (show r'.length + 1 < 2 ^ 31 by omega), t1, t2, c_joined (by omega), bnd_e, gd_in (by omega) (by decide), lt_e, nI_1]
              exact go (jn (x - 2000) x' y :: r') _ (by rw [List.length_cons]; omega) (sk.pop.pop.push _) (o23 _ _) (t22 _ _)
def thv (b w d n f i : Int32) (k : Nat) : Int32 := if k = 0 then b else if k = 1 then w else if k = 2 then d else if k = 3 then n else if k = 4 then f else i
def VC (c : List Nat) : VT := fun b w d n f i => if c = [] then b - w - d * 5 - n * 4 else (evl (thv b w d n f i) c []).headD 0
theorem c_worthV {c : List Nat} (hc : c.length ≤ 40) (ok : ∀ x ∈ c, okS1 x) (hv : c ≠ [] → ∀ th, ∃ v, Vl th c v) {μ : Mem} (hl : gI μ 19 1 = nI c.length) (hcd : ∀ j, j < c.length → gI μ 20 j = nI (c.getD j 0)) (b w d n f i : Int32) : Ev (fun r μ'' => r = VC c b w d n f i ∧ Off w22 μ μ'') (fX8_worth_19 b w d n f i μ) := by
  unfold fX8_worth_19 VC
  by_cases z : c = []
  · subst z
    rw [hl, if_pos (show nI ([] : List Nat).length = 0 from rfl), if_pos rfl]
    exact ev_end ⟨rfl, Off.refl _⟩
  · have hpos : 0 < c.length := List.length_pos_iff.mpr z
    rw [hl, if_neg (nI_ne0 hpos (by omega)), if_neg z]
    simp only [gd_of (show inb (0 : Int32) 6 = true by decide), gd_of (show inb (1 : Int32) 6 = true by decide), gd_of (show inb (2 : Int32) 6 = true by decide), gd_of (show inb (3 : Int32) 6 = true by decide), gd_of (show inb (4 : Int32) 6 = true by decide), gd_of (show inb (5 : Int32) 6 = true by decide), lt_e, show ix (0 : Int32) = 0 from rfl, show ix (1 : Int32) = 1 from rfl, show ix (2 : Int32) = 2 from rfl, show ix (3 : Int32) = 3 from rfl, show ix (4 : Int32) = 4 from rfl, show ix (5 : Int32) = 5 from rfl]
    obtain ⟨M, eM⟩ : ∃ M, M = sI (sI (sI (sI (sI (sI μ 22 0 b) 22 1 w) 22 2 d) 22 3 n) 22 4 f) 22 5 i := ⟨_, rfl⟩
    rw [← eM]
    have oM : Off w22 μ M := by rw [eM]; exact ((((((Off.refl μ).sI rfl).sI rfl).sI rfl).sI rfl).sI rfl).sI rfl
    have tM : ∀ j, j < 6 → gI M 22 j = thv b w d n f i j := fun j hj => by
      rw [eM]
      obtain rfl | rfl | rfl | rfl | rfl | rfl : j = 0 ∨ j = 1 ∨ j = 2 ∨ j = 3 ∨ j = 4 ∨ j = 5 := by omega
      all_goals rfl
    obtain ⟨μ', e1, e2, e3⟩ := pile_in (th := thv b w d n f i) hc ok c.length FU 0 [] M (by omega) (fu_lt (by omega)) (by simp) (fun i hi => absurd hi (Nat.not_lt_zero _)) ((oM.1 19 1 rfl).trans hl) (fun j hj => (oM.1 20 j rfl).trans (hcd j hj)) tM
    obtain ⟨v, hV⟩ := hv z (thv b w d n f i)
    rw [List.drop_zero, hV []] at e3
    refine ⟨_, μ', e1, ?_, oM.tr e2⟩
    rw [hV []]
    exact e3.top
end Pure65
