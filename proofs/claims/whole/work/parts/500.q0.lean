section Pure0
theorem gI_sI (μ : Mem) (k j a b : Nat) (v : Int32) : gI (sI μ k j v) a b = if a = k ∧ b = j then v else gI μ a b := rfl
theorem gL_sI (μ : Mem) (k j a b : Nat) (v : Int32) : gL (sI μ k j v) a b = gL μ a b := rfl
theorem gI_sL (μ : Mem) (k j a b : Nat) (v : Int64) : gI (sL μ k j v) a b = gI μ a b := rfl
theorem gL_sL (μ : Mem) (k j a b : Nat) (v : Int64) : gL (sL μ k j v) a b = if a = k ∧ b = j then v else gL μ a b := rfl
theorem gL_sC (μ : Mem) (k k2 sp dp n a b : Nat) : gL (sC μ k k2 sp dp n) a b = gL μ a b := rfl
theorem gI_sC (μ : Mem) (k k2 sp dp n a b : Nat) : gI (sC μ k k2 sp dp n) a b = if a = k2 then (if dp ≤ b ∧ b < dp + n then gI μ k (sp + (b - dp)) else gI μ k2 b) else gI μ a b := by
  unfold gI sC va_cpy
  by_cases h : a = k2
  · simp [h]
  · simp [h]
theorem bnd_e {α β : Type} (a : α) (μ : Mem) (f : α → Mem → Option β) : bnd (some (a, μ)) f = f a μ := rfl
theorem lt_e {α β : Type} (a : α) (f : α → β) : lt a f = f a := rfl
theorem gd_e {α : Type} (o : Option α) : gd true o = o := rfl
theorem gd_of {α : Type} {b : Bool} (h : b = true) (o : Option α) : gd b o = o := by rw [h]; rfl
theorem inb_iff (i : Int32) (n : Nat) : inb i n = true ↔ 0 ≤ i.toInt ∧ i.toInt < (n : Int) := by simp [inb]
theorem inb_nI {i n : Nat} (h : i < n) (hn : n < 2 ^ 31) : inb (nI i) n = true := by
  rw [inb_iff, nI_toInt (by omega)]; omega
theorem gd_in {α : Type} {i n : Nat} (h : i < n) (hn : n < 2 ^ 31) (o : Option α) : gd (inb (nI i) n) o = o := gd_of (inb_nI h hn) o
theorem ix_nI {n : Nat} (h : n < 2 ^ 31) : ix (nI n) = n := nI_clamp h
theorem i_lt (x y : Int32) : x < y ↔ x.toInt < y.toInt := Int32.lt_iff_toInt_lt
theorem i_le (x y : Int32) : x ≤ y ↔ x.toInt ≤ y.toInt := Int32.le_iff_toInt_le
theorem i_eq (x y : Int32) : x = y ↔ x.toInt = y.toInt := Int32.toInt_inj.symm
theorem i_nle {x y : Int32} : ¬ x ≤ y ↔ y < x := by rw [i_le, i_lt]; omega
theorem i_nlt {x y : Int32} : ¬ x < y ↔ y ≤ x := by rw [i_le, i_lt]; omega
theorem nI_sub {a b : Nat} (h : b ≤ a) (ha : a < 2 ^ 31) : nI a - nI b = nI (a - b) := by
  have : nI a = nI (a - b) + nI b := by rw [nI_add, Nat.sub_add_cancel h]
  rw [this, Int32.add_sub_cancel]
theorem nat_of {v : Int32} {n : Nat} (hn : n < 2 ^ 31) (h0 : ¬ v < 0) (h1 : v < nI n) : ∃ p, p < n ∧ v = nI p := by
  obtain ⟨j, hj, rfl⟩ := nI_of h0
  exact ⟨j, (nI_ltI hj hn).mp h1, rfl⟩
theorem nat_ofle {v : Int32} {n : Nat} (hn : n < 2 ^ 31) (h0 : ¬ v < 0) (h1 : v ≤ nI n) : ∃ p, p ≤ n ∧ v = nI p := by
  obtain ⟨j, hj, rfl⟩ := nI_of h0
  exact ⟨j, (nI_leI hj hn).mp h1, rfl⟩
def Sm {α β : Type} (Q : α → Mem → β → Mem → Prop) (o1 : Option (α × Mem)) (o2 : Option (β × Mem)) : Prop := ∃ a μ b ν, o1 = some (a, μ) ∧ o2 = some (b, ν) ∧ Q a μ b ν
def Ev {α : Type} (Q : α → Mem → Prop) (o : Option (α × Mem)) : Prop := ∃ a μ, o = some (a, μ) ∧ Q a μ
section
variable {α β γ δ : Type} {Q : α → Mem → β → Mem → Prop} {P : γ → Mem → Prop}
theorem sm_end {a : α} {μ : Mem} {b : β} {ν : Mem} (h : Q a μ b ν) : Sm Q (some (a, μ)) (some (b, ν)) := ⟨a, μ, b, ν, rfl, rfl, h⟩
theorem sm_bnd {Q' : γ → Mem → δ → Mem → Prop} {o1 : Option (γ × Mem)} {o2 : Option (δ × Mem)} {f1 : γ → Mem → Option (α × Mem)} {f2 : δ → Mem → Option (β × Mem)} (h : Sm Q' o1 o2) (k : ∀ a μ b ν, Q' a μ b ν → Sm Q (f1 a μ) (f2 b ν)) : Sm Q (bnd o1 f1) (bnd o2 f2) := by
  obtain ⟨a, μ, b, ν, rfl, rfl, hq⟩ := h
  exact k a μ b ν hq
theorem sm_L {o1 : Option (γ × Mem)} {f1 : γ → Mem → Option (α × Mem)} {o2 : Option (β × Mem)} (h : Ev P o1) (k : ∀ a μ, P a μ → Sm Q (f1 a μ) o2) : Sm Q (bnd o1 f1) o2 := by
  obtain ⟨a, μ, rfl, hq⟩ := h
  exact k a μ hq
theorem sm_R {o1 : Option (α × Mem)} {o2 : Option (γ × Mem)} {f2 : γ → Mem → Option (β × Mem)} (h : Ev P o2) (k : ∀ a μ, P a μ → Sm Q o1 (f2 a μ)) : Sm Q o1 (bnd o2 f2) := by
  obtain ⟨a, μ, rfl, hq⟩ := h
  exact k a μ hq
theorem sm_Q {Q' : α → Mem → β → Mem → Prop} {o1 : Option (α × Mem)} {o2 : Option (β × Mem)} (h : Sm Q' o1 o2) (k : ∀ a μ b ν, Q' a μ b ν → Q a μ b ν) : Sm Q o1 o2 := by
  obtain ⟨a, μ, b, ν, h1, h2, hq⟩ := h
  exact ⟨a, μ, b, ν, h1, h2, k _ _ _ _ hq⟩
theorem sm_of {P' : α → Mem → Prop} {P2 : β → Mem → Prop} {o1 : Option (α × Mem)} {o2 : Option (β × Mem)} (h : Ev P' o1) (h2 : ∀ a μ, P' a μ → Ev (fun b ν => Q a μ b ν) o2) : Sm Q o1 o2 := by
  obtain ⟨a, μ, rfl, hq⟩ := h
  obtain ⟨b, ν, rfl, hq2⟩ := h2 a μ hq
  exact ⟨a, μ, b, ν, rfl, rfl, hq2⟩
theorem ev_end {P : α → Mem → Prop} {a : α} {μ : Mem} (h : P a μ) : Ev P (some (a, μ)) := ⟨a, μ, rfl, h⟩
theorem ev_bnd {P : α → Mem → Prop} {P' : γ → Mem → Prop} {o : Option (γ × Mem)} {f : γ → Mem → Option (α × Mem)} (h : Ev P' o) (k : ∀ a μ, P' a μ → Ev P (f a μ)) : Ev P (bnd o f) := by
  obtain ⟨a, μ, rfl, hq⟩ := h
  exact k a μ hq
theorem ev_Q {P P' : α → Mem → Prop} {o : Option (α × Mem)} (h : Ev P' o) (k : ∀ a μ, P' a μ → P a μ) : Ev P o := by
  obtain ⟨a, μ, h1, hq⟩ := h
  exact ⟨a, μ, h1, k _ _ hq⟩
end
end Pure0
