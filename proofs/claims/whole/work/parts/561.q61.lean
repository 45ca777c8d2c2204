section Pure61
abbrev RP : Type := Nat ⊕ (Nat × List Nat)
def bindP (r : RP) (k : Nat → List Nat → RP) : RP := match r with
  | .inl w => .inl w
  | .inr (a, c) => k a c
def sgM (s : Nat → Nat) (st : Nat) : Nat → Nat → Nat
  | 0, _ => 0
  | f + 1, a => if a < st ∧ s a = 45 then sgM s st f (a + 1) + 1 else 0
def pSg (s : Nat → Nat) (st : Nat) (T : Nat → RP) (a : Nat) : RP := bindP (T (a + sgM s st (st - a) a)) fun a' c => .inr (a', c ++ List.replicate (sgM s st (st - a) a) 2007)
def chL (op : Nat → Option Nat) (s : Nat → Nat) (st : Nat) (X : Nat → RP) : Nat → Nat → List Nat → RP
  | 0, a, c => .inr (a, c)
  | f + 1, a, c => match (if a < st then op (s a) else none) with
    | none => .inr (a, c)
    | some k => bindP (X (a + 1)) fun a' c' => chL op s st X f a' (c ++ (c' ++ [k]))
def chn (op : Nat → Option Nat) (s : Nat → Nat) (st : Nat) (X : Nat → RP) (a : Nat) : RP := bindP (X a) fun a' c => chL op s st X (st - a') a' c
def op4 (x : Nat) : Option Nat := if x = 42 then some 2005 else if x = 47 then some 2006 else none
def op5 (x : Nat) : Option Nat := if x = 43 then some 2003 else if x = 45 then some 2004 else none
def op6 (x : Nat) : Option Nat := if x = 60 then some 2000 else if x = 62 then some 2001 else if x = 61 then some 2002 else none
def pSu (s : Nat → Nat) (st : Nat) (T : Nat → RP) : Nat → RP := chn op5 s st (chn op4 s st (pSg s st T))
def pEx (s : Nat → Nat) (st : Nat) (T : Nat → RP) (a : Nat) : RP := bindP (pSu s st T a) fun a' c => match (if a' < st then op6 (s a') else none) with
  | none => .inr (a', c)
  | some k => bindP (pSu s st T (a' + 1)) fun a2 c2 => .inr (a2, c ++ (c2 ++ [k]))
def pA (s : Nat → Nat) (st a : Nat) (els : RP) : RP := if a < st ∧ 48 ≤ s a ∧ s a < 58 then .inr ((nmS s st 2 (a + 1) (s a - 48)).2, [(nmS s st 2 (a + 1) (s a - 48)).1]) else if a < st ∧ ¬ so0 (s a) < 0 then .inr (a + 1, [1000 + ix (so0 (s a))]) else els
def pT (s : Nat → Nat) (st : Nat) : Nat → Nat → RP
  | 0, a => pA s st a (.inl a)
  | n + 1, a => pA s st a (if a < st ∧ s a = 40 then bindP (pEx s st (pT s st n) (a + 1)) (fun a' c => if a' < st ∧ s a' = 41 then .inr (a' + 1, c) else .inl a') else .inl a)
section
variable {s : Nat → Nat} {st : Nat}
theorem sgM_yes {a : Nat} (h : a < st ∧ s a = 45) : sgM s st (st - a) a = sgM s st (st - (a + 1)) (a + 1) + 1 := by
  rw [show st - a = (st - (a + 1)) + 1 by omega, sgM, if_pos h]
theorem sgM_no {a : Nat} (h : ¬ (a < st ∧ s a = 45)) : sgM s st (st - a) a = 0 := by
  cases e : st - a with
  | zero => rfl
  | succ k => rw [sgM, if_neg h]
theorem pSg_no {T : Nat → RP} {a : Nat} (h : ¬ (a < st ∧ s a = 45)) : pSg s st T a = T a := by
  unfold pSg
  rw [sgM_no h, Nat.add_zero]
  cases T a with
  | inl w => rfl
  | inr q => obtain ⟨a', c⟩ := q; show Sum.inr (a', c ++ []) = _; rw [List.append_nil]
theorem pSg_yes {T : Nat → RP} {a : Nat} (h : a < st ∧ s a = 45) : pSg s st T a = bindP (pSg s st T (a + 1)) fun a' c => .inr (a', c ++ [2007]) := by
  unfold pSg
  rw [sgM_yes h, show a + (sgM s st (st - (a + 1)) (a + 1) + 1) = a + 1 + sgM s st (st - (a + 1)) (a + 1) by omega]
  cases T (a + 1 + sgM s st (st - (a + 1)) (a + 1)) with
  | inl w => rfl
  | inr q =>
    obtain ⟨a', c⟩ := q
    show Sum.inr (a', c ++ List.replicate (sgM s st (st - (a + 1)) (a + 1) + 1) 2007) = Sum.inr (a', (c ++ List.replicate (sgM s st (st - (a + 1)) (a + 1)) 2007) ++ [2007])
    rw [List.append_assoc, List.replicate_succ']
def okS1 (x : Nat) : Prop := x < 1006 ∨ (2000 ≤ x ∧ x < 2008)
def Gd (st a : Nat) : RP → Prop
  | .inl w => a ≤ w ∧ w ≤ st
  | .inr (a', c) => a < a' ∧ a' ≤ st ∧ c.length ≤ a' - a ∧ c ≠ [] ∧ ∀ x ∈ c, okS1 x
def Good (st : Nat) (X : Nat → RP) : Prop := ∀ a, a ≤ st → Gd st a (X a)
theorem Gd.bind {a : Nat} {r : RP} {k : Nat → List Nat → RP} (h : Gd st a r) (hk : ∀ a' c, r = .inr (a', c) → a < a' → a' ≤ st → c.length ≤ a' - a → c ≠ [] → (∀ x ∈ c, okS1 x) → Gd st a (k a' c)) : Gd st a (bindP r k) := by
  cases r with
  | inl w => exact h
  | inr q =>
    obtain ⟨a', c⟩ := q
    obtain ⟨h1, h2, h3, h4, h5⟩ := h
    exact hk a' c rfl h1 h2 h3 h4 h5
theorem Gd.up {a b : Nat} {r : RP} (h : Gd st b r) (hab : a ≤ b) : Gd st a r := by
  cases r with
  | inl w => exact ⟨by have := h.1; omega, h.2⟩
  | inr q =>
    obtain ⟨a', c⟩ := q
    obtain ⟨h1, h2, h3, h4, h5⟩ := h
    exact ⟨by omega, h2, by omega, h4, h5⟩
theorem gd_app {a b a' : Nat} {c c' : List Nat} {k : Nat} (h1 : a < b) (h2 : c.length ≤ b - a) (h5 : ∀ x ∈ c, okS1 x) (g : Gd st (b + 1) (.inr (a', c'))) (hk : okS1 k) : Gd st a (.inr (a', c ++ (c' ++ [k]))) := by
  obtain ⟨g1, g2, g3, g4, g5⟩ := g
  refine ⟨by omega, g2, ?_, by simp, fun x hx => ?_⟩
  · simp only [List.length_append, List.length_singleton]
    omega
  · simp only [List.mem_append, List.mem_singleton] at hx
    rcases hx with hx | hx | hx
    · exact h5 x hx
    · exact g5 x hx
    · rw [hx]; exact hk
theorem good_sg {T : Nat → RP} (h : Good st T) : Good st (pSg s st T) := by
  intro a ha
  have : ∀ k a, a ≤ st → st - a = k → Gd st a (pSg s st T a) := by
    intro k
    induction k with
    | zero =>
      intro a ha hk
      rw [pSg_no (by omega)]
      exact h a ha
    | succ k ih =>
      intro a ha hk
      by_cases q : a < st ∧ s a = 45
      · rw [pSg_yes q]
        refine Gd.bind ((ih (a + 1) (by omega) (by omega)).up (by omega)) (fun a' c e h1 h2 h3 h4 h5 => ?_)
        have g := ih (a + 1) (by omega) (by omega)
        rw [e] at g
        obtain ⟨g1, g2, g3, g4, g5⟩ := g
        refine ⟨h1, h2, ?_, by simp, fun x hx => ?_⟩
        · rw [List.length_append, List.length_singleton]; omega
        · rw [List.mem_append, List.mem_singleton] at hx
          rcases hx with hx | rfl
          · exact h5 x hx
          · exact Or.inr (by omega)
      · rw [pSg_no q]
        exact h a ha
  exact this (st - a) a ha rfl
theorem good_chL {op : Nat → Option Nat} {X : Nat → RP} (hop : ∀ x k, op x = some k → okS1 k) (h : Good st X) {a0 : Nat} : ∀ (f a : Nat) (c : List Nat), a0 < a → a ≤ st → c.length ≤ a - a0 → c ≠ [] → (∀ x ∈ c, okS1 x) → Gd st a0 (chL op s st X f a c)
  | 0, a, c, h1, h2, h3, h4, h5 => ⟨h1, h2, h3, h4, h5⟩
  | f + 1, a, c, h1, h2, h3, h4, h5 => by
    rw [chL]
    cases e : (if a < st then op (s a) else none) with
    | none => exact ⟨h1, h2, h3, h4, h5⟩
    | some k =>
      by_cases q : a < st
      · rw [if_pos q] at e
        have gx := h (a + 1) (by omega)
        show Gd st a0 (bindP (X (a + 1)) fun a' c' => chL op s st X f a' (c ++ (c' ++ [k])))
        refine Gd.bind (gx.up (by omega)) (fun a' c' e' g1 g2 g3 g4 g5 => ?_)
        rw [e'] at gx
        obtain ⟨y1, y2, y3, y4, y5⟩ := gd_app (a := a0) h1 h3 h5 gx (hop _ _ e)
        exact good_chL hop h f a' _ y1 y2 y3 y4 y5
      · rw [if_neg q] at e
        exact absurd e (by simp)
theorem good_chn {op : Nat → Option Nat} {X : Nat → RP} (hop : ∀ x k, op x = some k → okS1 k) (h : Good st X) : Good st (chn op s st X) := fun a ha => Gd.bind (h a ha) (fun a' c _ h1 h2 h3 h4 h5 => good_chL hop h _ a' c h1 h2 h3 h4 h5)
theorem op4_ok : ∀ x k, op4 x = some k → okS1 k := by
  intro x k h
  unfold op4 at h
  by_cases q : x = 42
  · rw [if_pos q] at h; cases h; exact Or.inr (by omega)
  · rw [if_neg q] at h
    by_cases q2 : x = 47
    · rw [if_pos q2] at h; cases h; exact Or.inr (by omega)
    · rw [if_neg q2] at h; cases h
theorem op5_ok : ∀ x k, op5 x = some k → okS1 k := by
  intro x k h
  unfold op5 at h
  by_cases q : x = 43
  · rw [if_pos q] at h; cases h; exact Or.inr (by omega)
  · rw [if_neg q] at h
    by_cases q2 : x = 45
    · rw [if_pos q2] at h; cases h; exact Or.inr (by omega)
    · rw [if_neg q2] at h; cases h
theorem op6_ok : ∀ x k, op6 x = some k → okS1 k := by
  intro x k h
  unfold op6 at h
  by_cases q : x = 60
  · rw [if_pos q] at h; cases h; exact Or.inr (by omega)
  · rw [if_neg q] at h
    by_cases q2 : x = 62
    · rw [if_pos q2] at h; cases h; exact Or.inr (by omega)
    · rw [if_neg q2] at h
      by_cases q3 : x = 61
      · rw [if_pos q3] at h; cases h; exact Or.inr (by omega)
      · rw [if_neg q3] at h; cases h
theorem good_su {T : Nat → RP} (h : Good st T) : Good st (pSu s st T) := good_chn op5_ok (good_chn op4_ok (good_sg h))
theorem good_ex {T : Nat → RP} (h : Good st T) : Good st (pEx s st T) := fun a ha => by
  refine Gd.bind (good_su h a ha) (fun a' c _ h1 h2 h3 h4 h5 => ?_)
  cases e : (if a' < st then op6 (s a') else none) with
  | none => exact ⟨h1, h2, h3, h4, h5⟩
  | some k =>
    by_cases q : a' < st
    · rw [if_pos q] at e
      have gx := good_su (s := s) h (a' + 1) (by omega)
      show Gd st a (bindP (pSu s st T (a' + 1)) fun a2 c2 => .inr (a2, c ++ (c2 ++ [k])))
      refine Gd.bind (gx.up (by omega)) (fun a2 c2 e2 g1 g2 g3 g4 g5 => ?_)
      rw [e2] at gx
      exact gd_app h1 h3 h5 gx (op6_ok _ _ e)
    · rw [if_neg q] at e
      exact absurd e (by simp)
theorem so0_or (x : Nat) : (so0 x = -1 ∧ x ≠ 98 ∧ x ≠ 119 ∧ x ≠ 100 ∧ x ≠ 110 ∧ x ≠ 102 ∧ x ≠ 105) ∨ ∃ k, k < 6 ∧ so0 x = nI k ∧ 97 ≤ x := by
  unfold so0
  by_cases q0 : x = 98
  · rw [if_pos q0]; exact Or.inr ⟨0, by omega, rfl, by omega⟩
  · by_cases q1 : x = 119
    · rw [if_neg q0, if_pos q1]; exact Or.inr ⟨1, by omega, rfl, by omega⟩
    · by_cases q2 : x = 100
      · rw [if_neg q0, if_neg q1, if_pos q2]; exact Or.inr ⟨2, by omega, rfl, by omega⟩
      · by_cases q3 : x = 110
        · rw [if_neg q0, if_neg q1, if_neg q2, if_pos q3]; exact Or.inr ⟨3, by omega, rfl, by omega⟩
        · by_cases q4 : x = 102
          · rw [if_neg q0, if_neg q1, if_neg q2, if_neg q3, if_pos q4]; exact Or.inr ⟨4, by omega, rfl, by omega⟩
          · by_cases q5 : x = 105
            · rw [if_neg q0, if_neg q1, if_neg q2, if_neg q3, if_neg q4, if_pos q5]; exact Or.inr ⟨5, by omega, rfl, by omega⟩
            · rw [if_neg q0, if_neg q1, if_neg q2, if_neg q3, if_neg q4, if_neg q5]; exact Or.inl ⟨rfl, q0, q1, q2, q3, q4, q5⟩
theorem good_A {a : Nat} {e : RP} (ha : a ≤ st) (h : Gd st a e) : Gd st a (pA s st a e) := by
  unfold pA
  by_cases q : a < st ∧ 48 ≤ s a ∧ s a < 58
  · rw [if_pos q]
    obtain ⟨l1, l2, l3, l4⟩ := nmS_le (s := s) (st := st) 2 (a + 1) (s a - 48)
    refine ⟨by omega, l2 (by omega), ?_, by simp, fun x hx => ?_⟩
    · rw [List.length_singleton]; omega
    · rw [List.mem_singleton] at hx
      rw [hx]
      have : (s a - 48 + 1) * 10 ^ 2 ≤ 10 * 10 ^ 2 := Nat.mul_le_mul_right _ (by omega)
      exact Or.inl (by omega)
  · rw [if_neg q]
    by_cases q2 : a < st ∧ ¬ so0 (s a) < 0
    · rw [if_pos q2]
      refine ⟨by omega, by omega, by simp, by simp, fun x hx => ?_⟩
      rw [List.mem_singleton] at hx
      rcases so0_or (s a) with z | ⟨k, hk, z, -⟩
      · rw [z.1] at q2; exact absurd (by decide) q2.2
      · rw [hx, z, ix_nI (by omega)]; exact Or.inl (by omega)
    · rw [if_neg q2]; exact h
theorem good_T : ∀ n, Good st (pT s st n)
  | 0 => fun a ha => good_A ha ⟨Nat.le_refl _, ha⟩
  | n + 1 => fun a ha => by
    rw [pT]
    refine good_A ha ?_
    by_cases q : a < st ∧ s a = 40
    · rw [if_pos q]
      have gx := good_ex (s := s) (good_T n) (a + 1) (by omega)
      refine Gd.bind (gx.up (by omega)) (fun a' c e h1 h2 h3 h4 h5 => ?_)
      by_cases z : a' < st ∧ s a' = 41
      · rw [if_pos z]; exact ⟨by omega, by omega, by omega, h4, h5⟩
      · rw [if_neg z]; exact ⟨by omega, h2⟩
    · rw [if_neg q]; exact ⟨Nat.le_refl _, ha⟩
end
def jn (k : Nat) (x y : Int32) : Int32 := if k = 0 then (if y ≤ x then 0 else 1) else if k = 1 then (if x ≤ y then 0 else 1) else if k = 2 then (if x = y then 1 else 0) else if k = 3 then x + y else if k = 4 then x - y else if k = 5 then x * y else if k = 6 then (if y = 0 then 0 else x / y) else 0
def ev1 (th : Nat → Int32) (stk : List Int32) (k : Nat) : List Int32 := if k < 1000 then nI k :: stk else if k < 1006 then th (k - 1000) :: stk else match stk with
  | [] => []
  | [x] => if k = 2007 then [-x] else [x]
  | y :: x :: r => if k = 2007 then (-y) :: x :: r else jn (k - 2000) x y :: r
def evl (th : Nat → Int32) (c : List Nat) (stk : List Int32) : List Int32 := c.foldl (ev1 th) stk
def Vl (th : Nat → Int32) (c : List Nat) (v : Int32) : Prop := ∀ stk, evl th c stk = v :: stk
theorem evl_app (th : Nat → Int32) (c c' : List Nat) (stk : List Int32) : evl th (c ++ c') stk = evl th c' (evl th c stk) := by
  unfold evl
  rw [List.foldl_append]
theorem Vl.num {th : Nat → Int32} {k : Nat} (hk : k < 1000) : Vl th [k] (nI k) := fun stk => by
  show ev1 th stk k = _
  unfold ev1; rw [if_pos hk]
theorem Vl.thing {th : Nat → Int32} {k : Nat} (hk : k < 6) : Vl th [1000 + k] (th k) := fun stk => by
  show ev1 th stk (1000 + k) = _
  unfold ev1; rw [if_neg (by omega), if_pos (by omega), show 1000 + k - 1000 = k by omega]
theorem Vl.neg {th : Nat → Int32} {c : List Nat} {v : Int32} (h : Vl th c v) : Vl th (c ++ [2007]) (-v) := fun stk => by
  rw [evl_app, h stk]
  show ev1 th (v :: stk) 2007 = _
  unfold ev1
  rw [if_neg (by decide), if_neg (by decide)]
  cases stk with
  | nil => rfl
  | cons x r => rfl
theorem Vl.bin {th : Nat → Int32} {c c' : List Nat} {v v' : Int32} {k : Nat} (h : Vl th c v) (h' : Vl th c' v') (hk : k < 7) : Vl th (c ++ (c' ++ [2000 + k])) (jn k v v') := fun stk => by
  rw [evl_app, h stk, evl_app, h' (v :: stk)]
  show ev1 th (v' :: v :: stk) (2000 + k) = _
  unfold ev1
  rw [if_neg (by omega), if_neg (by omega)]
  show (if 2000 + k = 2007 then _ else _) = _
  rw [if_neg (by omega), show 2000 + k - 2000 = k by omega]
end Pure61
