section Frames
def Fr (A : Nat → Bool) (μ μ' : Mem) : Prop := ∀ k, A k = false → ∀ j, gI μ' k j = gI μ k j ∧ gL μ' k j = gL μ k j
def Fm {α : Type} (A : Nat → Bool) (μ : Mem) (o : Option (α × Mem)) : Prop := ∀ r μ', o = some (r, μ') → Fr A μ μ'
def aC (k : Nat) : Bool := Nat.blt k 122 || k == 149
def aM (k : Nat) : Bool := Nat.ble 122 k && Nat.blt k 149
theorem Fr.refl {A : Nat → Bool} {μ : Mem} : Fr A μ μ := fun _ _ _ => ⟨rfl, rfl⟩
theorem Fr.tr {A : Nat → Bool} {μ μ' μ'' : Mem} (h : Fr A μ μ') (h' : Fr A μ' μ'') : Fr A μ μ'' := fun k q j => ⟨((h' k q j).1).trans (h k q j).1, ((h' k q j).2).trans (h k q j).2⟩
theorem fr_sI {A : Nat → Bool} {μ μ' : Mem} {k j : Nat} {v : Int32} (h : Fr A μ μ') (ha : A k = true) : Fr A μ (sI μ' k j v) := fun a q b => by
  rw [gI_sI, if_neg]
  · exact h a q b
  · rintro ⟨rfl, rfl⟩
    rw [ha] at q
    exact Bool.noConfusion q
theorem fr_sL {A : Nat → Bool} {μ μ' : Mem} {k j : Nat} {v : Int64} (h : Fr A μ μ') (ha : A k = true) : Fr A μ (sL μ' k j v) := fun a q b => by
  rw [gL_sL, if_neg]
  · exact h a q b
  · rintro ⟨rfl, rfl⟩
    rw [ha] at q
    exact Bool.noConfusion q
theorem fr_sC {A : Nat → Bool} {μ μ' : Mem} {k k2 a b n : Nat} (h : Fr A μ μ') (ha : A k2 = true) : Fr A μ (sC μ' k k2 a b n) := fun a q b => by
  rw [gI_sC, if_neg]
  · exact h a q b
  · rintro rfl
    rw [ha] at q
    exact Bool.noConfusion q
section
variable {α β : Type} {A : Nat → Bool} {μ m : Mem}
theorem fm_none : Fm A μ (none : Option (α × Mem)) := fun _ _ h => by cases h
theorem fm_some {a : α} (h : Fr A μ m) : Fm A μ (some (a, m)) := fun r μ' e => by cases e; exact h
theorem fm_gd {b : Bool} {o : Option (α × Mem)} (h : Fm A μ o) : Fm A μ (gd b o) := by
  unfold gd
  by_cases hb : b = true
  · rw [if_pos hb]; exact h
  · rw [if_neg hb]; exact fm_none
theorem fm_ite {c : Prop} [Decidable c] {o o' : Option (α × Mem)} (h : Fm A μ o) (h' : Fm A μ o') : Fm A μ (if c then o else o') := by
  by_cases hb : c
  · rw [if_pos hb]; exact h
  · rw [if_neg hb]; exact h'
theorem fm_lt {a : β} {f : β → Option (α × Mem)} (h : Fm A μ (f a)) : Fm A μ (lt a f) := h
theorem fm_ltm {a : Mem} {f : Mem → Option (α × Mem)} (h : Fr A μ a) (k : ∀ m, Fr A μ m → Fm A μ (f m)) : Fm A μ (lt a f) := k a h
theorem fm_tl {o : Option (α × Mem)} (h : Fm A m o) (hf : Fr A μ m) : Fm A μ o := fun r μ' e => hf.tr (h r μ' e)
theorem fm_bnd {o : Option (β × Mem)} {f : β → Mem → Option (α × Mem)} (h : Fm A m o) (hf : Fr A μ m) (k : ∀ r m', Fr A μ m' → Fm A μ (f r m')) : Fm A μ (bnd o f) := fun r μ' e => by
  cases o with
  | none => cases e
  | some q => exact k q.1 q.2 (hf.tr (h q.1 q.2 rfl)) r μ' e
end

theorem fr_fX9_add_1_b16  : ∀ n a0 a1 μ, Fm aC μ (fX9_add_1_b16  n a0 a1 μ) := by
  intro n
  induction n with
  | zero =>
    intros
    exact fm_none
  | succ n ih =>
    intro a0 a1 μ
    rw [fX9_add_1_b16]
    with_reducible repeat' first | assumption | exact Fr.refl | refine fr_sI ?_ rfl | refine fr_sL ?_ rfl | refine fr_sC ?_ rfl | exact fm_none | refine fm_some ?_ | refine fm_gd ?_ | refine fm_ite ?_ ?_ | refine fm_ltm ?_ (fun _ _ => ?_) | refine fm_lt ?_ | intro _ _ _ _ _ _ _ _ _ _ | intro _ _ _ _ _ _ _ _ _ | intro _ _ _ _ _ _ _ _ | intro _ _ _ _ _ _ _ | intro _ _ _ _ _ _ | intro _ _ _ _ _ | intro _ _ _ _ | intro _ _ _ | intro _ _ | intro _ | (apply fm_bnd; first | exact ih _ _ _) | (apply fm_tl; first | exact ih _ _ _)
theorem fr_fX9_add_1  (v1 : Int32) (μ : Mem) : Fm aC μ (fX9_add_1  v1 μ) := by
  unfold fX9_add_1
  with_reducible repeat' first | assumption | exact Fr.refl | refine fr_sI ?_ rfl | refine fr_sL ?_ rfl | refine fr_sC ?_ rfl | exact fm_none | refine fm_some ?_ | refine fm_gd ?_ | refine fm_ite ?_ ?_ | refine fm_ltm ?_ (fun _ _ => ?_) | refine fm_lt ?_ | intro _ _ _ _ _ _ _ _ _ _ | intro _ _ _ _ _ _ _ _ _ | intro _ _ _ _ _ _ _ _ | intro _ _ _ _ _ _ _ | intro _ _ _ _ _ _ | intro _ _ _ _ _ | intro _ _ _ _ | intro _ _ _ | intro _ _ | intro _ | (apply fm_bnd; first | refine fr_fX9_add_1_b16  _ _ _ _) | (apply fm_tl; first | refine fr_fX9_add_1_b16  _ _ _ _)
theorem fr_fX11_sign_0  (v1 : Int32) (μ : Mem) : Fm aC μ (fX11_sign_0  v1 μ) := by
  unfold fX11_sign_0
  with_reducible repeat' first | assumption | exact Fr.refl | refine fr_sI ?_ rfl | refine fr_sL ?_ rfl | refine fr_sC ?_ rfl | exact fm_none | refine fm_some ?_ | refine fm_gd ?_ | refine fm_ite ?_ ?_ | refine fm_ltm ?_ (fun _ _ => ?_) | refine fm_lt ?_ | intro _ _ _ _ _ _ _ _ _ _ | intro _ _ _ _ _ _ _ _ _ | intro _ _ _ _ _ _ _ _ | intro _ _ _ _ _ _ _ | intro _ _ _ _ _ _ | intro _ _ _ _ _ | intro _ _ _ _ | intro _ _ _ | intro _ _ | intro _ | (apply fm_bnd; first | refine fr_fX9_add_1  _ _) | (apply fm_tl; first | refine fr_fX9_add_1  _ _)
theorem fr_fX12_sign_122_b20  : ∀ n a0 a1 μ, Fm aM μ (fX12_sign_122_b20  n a0 a1 μ) := by
  intro n
  induction n with
  | zero =>
    intros
    exact fm_none
  | succ n ih =>
    intro a0 a1 μ
    rw [fX12_sign_122_b20]
    with_reducible repeat' first | assumption | exact Fr.refl | refine fr_sI ?_ rfl | refine fr_sL ?_ rfl | refine fr_sC ?_ rfl | exact fm_none | refine fm_some ?_ | refine fm_gd ?_ | refine fm_ite ?_ ?_ | refine fm_ltm ?_ (fun _ _ => ?_) | refine fm_lt ?_ | intro _ _ _ _ _ _ _ _ _ _ | intro _ _ _ _ _ _ _ _ _ | intro _ _ _ _ _ _ _ _ | intro _ _ _ _ _ _ _ | intro _ _ _ _ _ _ | intro _ _ _ _ _ | intro _ _ _ _ | intro _ _ _ | intro _ _ | intro _ | (apply fm_bnd; first | exact ih _ _ _) | (apply fm_tl; first | exact ih _ _ _)
theorem fr_fX12_sign_122  (v1 : Int32) (μ : Mem) : Fm aM μ (fX12_sign_122  v1 μ) := by
  unfold fX12_sign_122
  with_reducible repeat' first | assumption | exact Fr.refl | refine fr_sI ?_ rfl | refine fr_sL ?_ rfl | refine fr_sC ?_ rfl | exact fm_none | refine fm_some ?_ | refine fm_gd ?_ | refine fm_ite ?_ ?_ | refine fm_ltm ?_ (fun _ _ => ?_) | refine fm_lt ?_ | intro _ _ _ _ _ _ _ _ _ _ | intro _ _ _ _ _ _ _ _ _ | intro _ _ _ _ _ _ _ _ | intro _ _ _ _ _ _ _ | intro _ _ _ _ _ _ | intro _ _ _ _ _ | intro _ _ _ _ | intro _ _ _ | intro _ _ | intro _ | (apply fm_bnd; first | refine fr_fX12_sign_122_b20  _ _ _ _) | (apply fm_tl; first | refine fr_fX12_sign_122_b20  _ _ _ _)
theorem fr_fX9_cut_1  (v1 : Int32) (μ : Mem) : Fm aC μ (fX9_cut_1  v1 μ) := by
  unfold fX9_cut_1
  with_reducible repeat' first | assumption | exact Fr.refl | refine fr_sI ?_ rfl | refine fr_sL ?_ rfl | refine fr_sC ?_ rfl | exact fm_none | refine fm_some ?_ | refine fm_gd ?_ | refine fm_ite ?_ ?_ | refine fm_ltm ?_ (fun _ _ => ?_) | refine fm_lt ?_ | intro _ _ _ _ _ _ _ _ _ _ | intro _ _ _ _ _ _ _ _ _ | intro _ _ _ _ _ _ _ _ | intro _ _ _ _ _ _ _ | intro _ _ _ _ _ _ | intro _ _ _ _ _ | intro _ _ _ _ | intro _ _ _ | intro _ _ | intro _
theorem fr_fX11_end_0  (v1 : Int32) (μ : Mem) : Fm aC μ (fX11_end_0  v1 μ) := by
  unfold fX11_end_0
  with_reducible repeat' first | assumption | exact Fr.refl | refine fr_sI ?_ rfl | refine fr_sL ?_ rfl | refine fr_sC ?_ rfl | exact fm_none | refine fm_some ?_ | refine fm_gd ?_ | refine fm_ite ?_ ?_ | refine fm_ltm ?_ (fun _ _ => ?_) | refine fm_lt ?_ | intro _ _ _ _ _ _ _ _ _ _ | intro _ _ _ _ _ _ _ _ _ | intro _ _ _ _ _ _ _ _ | intro _ _ _ _ _ _ _ | intro _ _ _ _ _ _ | intro _ _ _ _ _ | intro _ _ _ _ | intro _ _ _ | intro _ _ | intro _ | (apply fm_bnd; first | refine fr_fX9_cut_1  _ _) | (apply fm_tl; first | refine fr_fX9_cut_1  _ _)
theorem fr_fX12_in {A : Nat → Bool}  (v0 : Int32) (v1 : Int32) (v2 : Int32) (μ : Mem) : Fm A μ (fX12_in  v0 v1 v2 μ) := by
  unfold fX12_in
  with_reducible repeat' first | assumption | exact Fr.refl | refine fr_sI ?_ rfl | refine fr_sL ?_ rfl | refine fr_sC ?_ rfl | exact fm_none | refine fm_some ?_ | refine fm_gd ?_ | refine fm_ite ?_ ?_ | refine fm_ltm ?_ (fun _ _ => ?_) | refine fm_lt ?_ | intro _ _ _ _ _ _ _ _ _ _ | intro _ _ _ _ _ _ _ _ _ | intro _ _ _ _ _ _ _ _ | intro _ _ _ _ _ _ _ | intro _ _ _ _ _ _ | intro _ _ _ _ _ | intro _ _ _ _ | intro _ _ _ | intro _ _ | intro _
theorem fr_fX12_end_122  (v1 : Int32) (μ : Mem) : Fm aM μ (fX12_end_122  v1 μ) := by
  unfold fX12_end_122
  with_reducible repeat' first | assumption | exact Fr.refl | refine fr_sI ?_ rfl | refine fr_sL ?_ rfl | refine fr_sC ?_ rfl | exact fm_none | refine fm_some ?_ | refine fm_gd ?_ | refine fm_ite ?_ ?_ | refine fm_ltm ?_ (fun _ _ => ?_) | refine fm_lt ?_ | intro _ _ _ _ _ _ _ _ _ _ | intro _ _ _ _ _ _ _ _ _ | intro _ _ _ _ _ _ _ _ | intro _ _ _ _ _ _ _ | intro _ _ _ _ _ _ | intro _ _ _ _ _ | intro _ _ _ _ | intro _ _ _ | intro _ _ | intro _ | (apply fm_bnd; first | refine fr_fX12_in  _ _ _ _) | (apply fm_tl; first | refine fr_fX12_in  _ _ _ _)
theorem fr_fX6_forget_29   (μ : Mem) : Fm aC μ (fX6_forget_29   μ) := by
  unfold fX6_forget_29
  with_reducible repeat' first | assumption | exact Fr.refl | refine fr_sI ?_ rfl | refine fr_sL ?_ rfl | refine fr_sC ?_ rfl | exact fm_none | refine fm_some ?_ | refine fm_gd ?_ | refine fm_ite ?_ ?_ | refine fm_ltm ?_ (fun _ _ => ?_) | refine fm_lt ?_ | intro _ _ _ _ _ _ _ _ _ _ | intro _ _ _ _ _ _ _ _ _ | intro _ _ _ _ _ _ _ _ | intro _ _ _ _ _ _ _ | intro _ _ _ _ _ _ | intro _ _ _ _ _ | intro _ _ _ _ | intro _ _ _ | intro _ _ | intro _
theorem fr_fX11_forgetWhatWas_0_b9  : ∀ n a0 μ, Fm aC μ (fX11_forgetWhatWas_0_b9  n a0 μ) := by
  intro n
  induction n with
  | zero =>
    intros
    exact fm_none
  | succ n ih =>
    intro a0 μ
    rw [fX11_forgetWhatWas_0_b9]
    with_reducible repeat' first | assumption | exact Fr.refl | refine fr_sI ?_ rfl | refine fr_sL ?_ rfl | refine fr_sC ?_ rfl | exact fm_none | refine fm_some ?_ | refine fm_gd ?_ | refine fm_ite ?_ ?_ | refine fm_ltm ?_ (fun _ _ => ?_) | refine fm_lt ?_ | intro _ _ _ _ _ _ _ _ _ _ | intro _ _ _ _ _ _ _ _ _ | intro _ _ _ _ _ _ _ _ | intro _ _ _ _ _ _ _ | intro _ _ _ _ _ _ | intro _ _ _ _ _ | intro _ _ _ _ | intro _ _ _ | intro _ _ | intro _ | (apply fm_bnd; first | exact ih _ _) | (apply fm_tl; first | exact ih _ _)
theorem fr_fX11_forgetWhatWas_0   (μ : Mem) : Fm aC μ (fX11_forgetWhatWas_0   μ) := by
  unfold fX11_forgetWhatWas_0
  with_reducible repeat' first | assumption | exact Fr.refl | refine fr_sI ?_ rfl | refine fr_sL ?_ rfl | refine fr_sC ?_ rfl | exact fm_none | refine fm_some ?_ | refine fm_gd ?_ | refine fm_ite ?_ ?_ | refine fm_ltm ?_ (fun _ _ => ?_) | refine fm_lt ?_ | intro _ _ _ _ _ _ _ _ _ _ | intro _ _ _ _ _ _ _ _ _ | intro _ _ _ _ _ _ _ _ | intro _ _ _ _ _ _ _ | intro _ _ _ _ _ _ | intro _ _ _ _ _ | intro _ _ _ _ | intro _ _ _ | intro _ _ | intro _ | (apply fm_bnd; first | refine fr_fX11_forgetWhatWas_0_b9  _ _ _ | refine fr_fX6_forget_29  _) | (apply fm_tl; first | refine fr_fX11_forgetWhatWas_0_b9  _ _ _ | refine fr_fX6_forget_29  _)
theorem fr_fX4_receive_33_b2  : ∀ n a0 a1 μ, Fm aC μ (fX4_receive_33_b2  n a0 a1 μ) := by
  intro n
  induction n with
  | zero =>
    intros
    exact fm_none
  | succ n ih =>
    intro a0 a1 μ
    rw [fX4_receive_33_b2]
    with_reducible repeat' first | assumption | exact Fr.refl | refine fr_sI ?_ rfl | refine fr_sL ?_ rfl | refine fr_sC ?_ rfl | exact fm_none | refine fm_some ?_ | refine fm_gd ?_ | refine fm_ite ?_ ?_ | refine fm_ltm ?_ (fun _ _ => ?_) | refine fm_lt ?_ | intro _ _ _ _ _ _ _ _ _ _ | intro _ _ _ _ _ _ _ _ _ | intro _ _ _ _ _ _ _ _ | intro _ _ _ _ _ _ _ | intro _ _ _ _ _ _ | intro _ _ _ _ _ | intro _ _ _ _ | intro _ _ _ | intro _ _ | intro _ | (apply fm_bnd; first | exact ih _ _ _) | (apply fm_tl; first | exact ih _ _ _)
theorem fr_fX4_receive_33  (v1 : Int32) (v2 : Int32) (μ : Mem) : Fm aC μ (fX4_receive_33  v1 v2 μ) := by
  unfold fX4_receive_33
  with_reducible repeat' first | assumption | exact Fr.refl | refine fr_sI ?_ rfl | refine fr_sL ?_ rfl | refine fr_sC ?_ rfl | exact fm_none | refine fm_some ?_ | refine fm_gd ?_ | refine fm_ite ?_ ?_ | refine fm_ltm ?_ (fun _ _ => ?_) | refine fm_lt ?_ | intro _ _ _ _ _ _ _ _ _ _ | intro _ _ _ _ _ _ _ _ _ | intro _ _ _ _ _ _ _ _ | intro _ _ _ _ _ _ _ | intro _ _ _ _ _ _ | intro _ _ _ _ _ | intro _ _ _ _ | intro _ _ _ | intro _ _ | intro _ | (apply fm_bnd; first | refine fr_fX4_receive_33_b2  _ _ _ _) | (apply fm_tl; first | refine fr_fX4_receive_33_b2  _ _ _ _)
theorem fr_fX3_allGoods_5_b4 {A : Nat → Bool}  : ∀ n a0 a1 μ, Fm A μ (fX3_allGoods_5_b4  n a0 a1 μ) := by
  intro n
  induction n with
  | zero =>
    intros
    exact fm_none
  | succ n ih =>
    intro a0 a1 μ
    rw [fX3_allGoods_5_b4]
    with_reducible repeat' first | assumption | exact Fr.refl | refine fr_sI ?_ rfl | refine fr_sL ?_ rfl | refine fr_sC ?_ rfl | exact fm_none | refine fm_some ?_ | refine fm_gd ?_ | refine fm_ite ?_ ?_ | refine fm_ltm ?_ (fun _ _ => ?_) | refine fm_lt ?_ | intro _ _ _ _ _ _ _ _ _ _ | intro _ _ _ _ _ _ _ _ _ | intro _ _ _ _ _ _ _ _ | intro _ _ _ _ _ _ _ | intro _ _ _ _ _ _ | intro _ _ _ _ _ | intro _ _ _ _ | intro _ _ _ | intro _ _ | intro _ | (apply fm_bnd; first | exact ih _ _ _) | (apply fm_tl; first | exact ih _ _ _)
theorem fr_fX3_allGoods_5 {A : Nat → Bool}   (μ : Mem) : Fm A μ (fX3_allGoods_5   μ) := by
  unfold fX3_allGoods_5
  with_reducible repeat' first | assumption | exact Fr.refl | refine fr_sI ?_ rfl | refine fr_sL ?_ rfl | refine fr_sC ?_ rfl | exact fm_none | refine fm_some ?_ | refine fm_gd ?_ | refine fm_ite ?_ ?_ | refine fm_ltm ?_ (fun _ _ => ?_) | refine fm_lt ?_ | intro _ _ _ _ _ _ _ _ _ _ | intro _ _ _ _ _ _ _ _ _ | intro _ _ _ _ _ _ _ _ | intro _ _ _ _ _ _ _ | intro _ _ _ _ _ _ | intro _ _ _ _ _ | intro _ _ _ _ | intro _ _ _ | intro _ _ | intro _ | (apply fm_bnd; first | refine fr_fX3_allGoods_5_b4  _ _ _ _) | (apply fm_tl; first | refine fr_fX3_allGoods_5_b4  _ _ _ _)
theorem fr_fX9_back_1   (μ : Mem) : Fm aC μ (fX9_back_1   μ) := by
  unfold fX9_back_1
  with_reducible repeat' first | assumption | exact Fr.refl | refine fr_sI ?_ rfl | refine fr_sL ?_ rfl | refine fr_sC ?_ rfl | exact fm_none | refine fm_some ?_ | refine fm_gd ?_ | refine fm_ite ?_ ?_ | refine fm_ltm ?_ (fun _ _ => ?_) | refine fm_lt ?_ | intro _ _ _ _ _ _ _ _ _ _ | intro _ _ _ _ _ _ _ _ _ | intro _ _ _ _ _ _ _ _ | intro _ _ _ _ _ _ _ | intro _ _ _ _ _ _ | intro _ _ _ _ _ | intro _ _ _ _ | intro _ _ _ | intro _ _ | intro _
theorem fr_fX9_digit_1  (v1 : Int32) (μ : Mem) : Fm aC μ (fX9_digit_1  v1 μ) := by
  unfold fX9_digit_1
  with_reducible repeat' first | assumption | exact Fr.refl | refine fr_sI ?_ rfl | refine fr_sL ?_ rfl | refine fr_sC ?_ rfl | exact fm_none | refine fm_some ?_ | refine fm_gd ?_ | refine fm_ite ?_ ?_ | refine fm_ltm ?_ (fun _ _ => ?_) | refine fm_lt ?_ | intro _ _ _ _ _ _ _ _ _ _ | intro _ _ _ _ _ _ _ _ _ | intro _ _ _ _ _ _ _ _ | intro _ _ _ _ _ _ _ | intro _ _ _ _ _ _ | intro _ _ _ _ _ | intro _ _ _ _ | intro _ _ _ | intro _ _ | intro _
theorem fr_fX9_number_1_b12  : ∀ n a0 a1 a2 a3 μ, Fm aC μ (fX9_number_1_b12  n a0 a1 a2 a3 μ) := by
  intro n
  induction n with
  | zero =>
    intros
    exact fm_none
  | succ n ih =>
    intro a0 a1 a2 a3 μ
    rw [fX9_number_1_b12]
    with_reducible repeat' first | assumption | exact Fr.refl | refine fr_sI ?_ rfl | refine fr_sL ?_ rfl | refine fr_sC ?_ rfl | exact fm_none | refine fm_some ?_ | refine fm_gd ?_ | refine fm_ite ?_ ?_ | refine fm_ltm ?_ (fun _ _ => ?_) | refine fm_lt ?_ | intro _ _ _ _ _ _ _ _ _ _ | intro _ _ _ _ _ _ _ _ _ | intro _ _ _ _ _ _ _ _ | intro _ _ _ _ _ _ _ | intro _ _ _ _ _ _ | intro _ _ _ _ _ | intro _ _ _ _ | intro _ _ _ | intro _ _ | intro _ | (apply fm_bnd; first | refine fr_fX9_digit_1  _ _ | exact ih _ _ _ _ _) | (apply fm_tl; first | refine fr_fX9_digit_1  _ _ | exact ih _ _ _ _ _)
theorem fr_fX9_number_1  (v1 : Int32) (μ : Mem) : Fm aC μ (fX9_number_1  v1 μ) := by
  unfold fX9_number_1
  with_reducible repeat' first | assumption | exact Fr.refl | refine fr_sI ?_ rfl | refine fr_sL ?_ rfl | refine fr_sC ?_ rfl | exact fm_none | refine fm_some ?_ | refine fm_gd ?_ | refine fm_ite ?_ ?_ | refine fm_ltm ?_ (fun _ _ => ?_) | refine fm_lt ?_ | intro _ _ _ _ _ _ _ _ _ _ | intro _ _ _ _ _ _ _ _ _ | intro _ _ _ _ _ _ _ _ | intro _ _ _ _ _ _ _ | intro _ _ _ _ _ _ | intro _ _ _ _ _ | intro _ _ _ _ | intro _ _ _ | intro _ _ | intro _ | (apply fm_bnd; first | refine fr_fX9_digit_1  _ _ | refine fr_fX9_number_1_b12  _ _ _ _ _ _) | (apply fm_tl; first | refine fr_fX9_digit_1  _ _ | refine fr_fX9_number_1_b12  _ _ _ _ _ _)
theorem fr_fX9_takes_1  (v1 : Int32) (μ : Mem) : Fm aC μ (fX9_takes_1  v1 μ) := by
  unfold fX9_takes_1
  with_reducible repeat' first | assumption | exact Fr.refl | refine fr_sI ?_ rfl | refine fr_sL ?_ rfl | refine fr_sC ?_ rfl | exact fm_none | refine fm_some ?_ | refine fm_gd ?_ | refine fm_ite ?_ ?_ | refine fm_ltm ?_ (fun _ _ => ?_) | refine fm_lt ?_ | intro _ _ _ _ _ _ _ _ _ _ | intro _ _ _ _ _ _ _ _ _ | intro _ _ _ _ _ _ _ _ | intro _ _ _ _ _ _ _ | intro _ _ _ _ _ _ | intro _ _ _ _ _ | intro _ _ _ _ | intro _ _ _ | intro _ _ | intro _
theorem fr_fX3_readsMan_5_1_b24  (p2 : Int32) (μ : Mem) : Fm aC μ (fX3_readsMan_5_1_b24  p2 μ) := by
  unfold fX3_readsMan_5_1_b24
  with_reducible repeat' first | assumption | exact Fr.refl | refine fr_sI ?_ rfl | refine fr_sL ?_ rfl | refine fr_sC ?_ rfl | exact fm_none | refine fm_some ?_ | refine fm_gd ?_ | refine fm_ite ?_ ?_ | refine fm_ltm ?_ (fun _ _ => ?_) | refine fm_lt ?_ | intro _ _ _ _ _ _ _ _ _ _ | intro _ _ _ _ _ _ _ _ _ | intro _ _ _ _ _ _ _ _ | intro _ _ _ _ _ _ _ | intro _ _ _ _ _ _ | intro _ _ _ _ _ | intro _ _ _ _ | intro _ _ _ | intro _ _ | intro _ | (apply fm_bnd; first | refine fr_fX9_takes_1  _ _ | refine fr_fX9_number_1  _ _) | (apply fm_tl; first | refine fr_fX9_takes_1  _ _ | refine fr_fX9_number_1  _ _)
theorem fr_fX3_readsMan_5_1  (v2 : Int32) (μ : Mem) : Fm aC μ (fX3_readsMan_5_1  v2 μ) := by
  unfold fX3_readsMan_5_1
  with_reducible repeat' first | assumption | exact Fr.refl | refine fr_sI ?_ rfl | refine fr_sL ?_ rfl | refine fr_sC ?_ rfl | exact fm_none | refine fm_some ?_ | refine fm_gd ?_ | refine fm_ite ?_ ?_ | refine fm_ltm ?_ (fun _ _ => ?_) | refine fm_lt ?_ | intro _ _ _ _ _ _ _ _ _ _ | intro _ _ _ _ _ _ _ _ _ | intro _ _ _ _ _ _ _ _ | intro _ _ _ _ _ _ _ | intro _ _ _ _ _ _ | intro _ _ _ _ _ | intro _ _ _ _ | intro _ _ _ | intro _ _ | intro _ | (apply fm_bnd; first | refine fr_fX3_readsMan_5_1_b24  _ _ | refine fr_fX9_back_1  _ | refine fr_fX9_number_1  _ _) | (apply fm_tl; first | refine fr_fX3_readsMan_5_1_b24  _ _ | refine fr_fX9_back_1  _ | refine fr_fX9_number_1  _ _)
theorem fr_fX3_readGoods_5_1_b4  : ∀ n a0 a1 μ, Fm aC μ (fX3_readGoods_5_1_b4  n a0 a1 μ) := by
  intro n
  induction n with
  | zero =>
    intros
    exact fm_none
  | succ n ih =>
    intro a0 a1 μ
    rw [fX3_readGoods_5_1_b4]
    with_reducible repeat' first | assumption | exact Fr.refl | refine fr_sI ?_ rfl | refine fr_sL ?_ rfl | refine fr_sC ?_ rfl | exact fm_none | refine fm_some ?_ | refine fm_gd ?_ | refine fm_ite ?_ ?_ | refine fm_ltm ?_ (fun _ _ => ?_) | refine fm_lt ?_ | intro _ _ _ _ _ _ _ _ _ _ | intro _ _ _ _ _ _ _ _ _ | intro _ _ _ _ _ _ _ _ | intro _ _ _ _ _ _ _ | intro _ _ _ _ _ _ | intro _ _ _ _ _ | intro _ _ _ _ | intro _ _ _ | intro _ _ | intro _ | (apply fm_bnd; first | refine fr_fX9_takes_1  _ _ | exact ih _ _ _) | (apply fm_tl; first | refine fr_fX9_takes_1  _ _ | exact ih _ _ _)
theorem fr_fX3_readGoods_5_1   (μ : Mem) : Fm aC μ (fX3_readGoods_5_1   μ) := by
  unfold fX3_readGoods_5_1
  with_reducible repeat' first | assumption | exact Fr.refl | refine fr_sI ?_ rfl | refine fr_sL ?_ rfl | refine fr_sC ?_ rfl | exact fm_none | refine fm_some ?_ | refine fm_gd ?_ | refine fm_ite ?_ ?_ | refine fm_ltm ?_ (fun _ _ => ?_) | refine fm_lt ?_ | intro _ _ _ _ _ _ _ _ _ _ | intro _ _ _ _ _ _ _ _ _ | intro _ _ _ _ _ _ _ _ | intro _ _ _ _ _ _ _ | intro _ _ _ _ _ _ | intro _ _ _ _ _ | intro _ _ _ _ | intro _ _ _ | intro _ _ | intro _ | (apply fm_bnd; first | refine fr_fX3_readGoods_5_1_b4  _ _ _ _) | (apply fm_tl; first | refine fr_fX3_readGoods_5_1_b4  _ _ _ _)
theorem fr_fJ0_isLatin1_aae02_s2 {A : Nat → Bool}   (μ : Mem) : Fm A μ (fJ0_isLatin1_aae02_s2   μ) := by
  unfold fJ0_isLatin1_aae02_s2
  with_reducible repeat' first | assumption | exact Fr.refl | refine fr_sI ?_ rfl | refine fr_sL ?_ rfl | refine fr_sC ?_ rfl | exact fm_none | refine fm_some ?_ | refine fm_gd ?_ | refine fm_ite ?_ ?_ | refine fm_ltm ?_ (fun _ _ => ?_) | refine fm_lt ?_ | intro _ _ _ _ _ _ _ _ _ _ | intro _ _ _ _ _ _ _ _ _ | intro _ _ _ _ _ _ _ _ | intro _ _ _ _ _ _ _ | intro _ _ _ _ _ _ | intro _ _ _ _ _ | intro _ _ _ _ | intro _ _ _ | intro _ _ | intro _
theorem fr_fJ0_coder_7d493_s2 {A : Nat → Bool}   (μ : Mem) : Fm A μ (fJ0_coder_7d493_s2   μ) := by
  unfold fJ0_coder_7d493_s2
  with_reducible repeat' first | assumption | exact Fr.refl | refine fr_sI ?_ rfl | refine fr_sL ?_ rfl | refine fr_sC ?_ rfl | exact fm_none | refine fm_some ?_ | refine fm_gd ?_ | refine fm_ite ?_ ?_ | refine fm_ltm ?_ (fun _ _ => ?_) | refine fm_lt ?_ | intro _ _ _ _ _ _ _ _ _ _ | intro _ _ _ _ _ _ _ _ _ | intro _ _ _ _ _ _ _ _ | intro _ _ _ _ _ _ _ | intro _ _ _ _ _ _ | intro _ _ _ _ _ | intro _ _ _ _ | intro _ _ _ | intro _ _ | intro _
theorem fr_fJ0_length_8abf5_s2 {A : Nat → Bool}   (μ : Mem) : Fm A μ (fJ0_length_8abf5_s2   μ) := by
  unfold fJ0_length_8abf5_s2
  with_reducible repeat' first | assumption | exact Fr.refl | refine fr_sI ?_ rfl | refine fr_sL ?_ rfl | refine fr_sC ?_ rfl | exact fm_none | refine fm_some ?_ | refine fm_gd ?_ | refine fm_ite ?_ ?_ | refine fm_ltm ?_ (fun _ _ => ?_) | refine fm_lt ?_ | intro _ _ _ _ _ _ _ _ _ _ | intro _ _ _ _ _ _ _ _ _ | intro _ _ _ _ _ _ _ _ | intro _ _ _ _ _ _ _ | intro _ _ _ _ _ _ | intro _ _ _ _ _ | intro _ _ _ _ | intro _ _ _ | intro _ _ | intro _ | (apply fm_bnd; first | refine fr_fJ0_coder_7d493_s2  _) | (apply fm_tl; first | refine fr_fJ0_coder_7d493_s2  _)
theorem fr_fJ1_canEncode_9a6ad {A : Nat → Bool}  (v0 : Int32) (μ : Mem) : Fm A μ (fJ1_canEncode_9a6ad  v0 μ) := by
  unfold fJ1_canEncode_9a6ad
  with_reducible repeat' first | assumption | exact Fr.refl | refine fr_sI ?_ rfl | refine fr_sL ?_ rfl | refine fr_sC ?_ rfl | exact fm_none | refine fm_some ?_ | refine fm_gd ?_ | refine fm_ite ?_ ?_ | refine fm_ltm ?_ (fun _ _ => ?_) | refine fm_lt ?_ | intro _ _ _ _ _ _ _ _ _ _ | intro _ _ _ _ _ _ _ _ _ | intro _ _ _ _ _ _ _ _ | intro _ _ _ _ _ _ _ | intro _ _ _ _ _ _ | intro _ _ _ _ _ | intro _ _ _ _ | intro _ _ _ | intro _ _ | intro _
theorem fr_fJ1_indexOfChar_4cfef_v2_b7 {A : Nat → Bool}  : ∀ n a0 a1 a2 μ, Fm A μ (fJ1_indexOfChar_4cfef_v2_b7  n a0 a1 a2 μ) := by
  intro n
  induction n with
  | zero =>
    intros
    exact fm_none
  | succ n ih =>
    intro a0 a1 a2 μ
    rw [fJ1_indexOfChar_4cfef_v2_b7]
    with_reducible repeat' first | assumption | exact Fr.refl | refine fr_sI ?_ rfl | refine fr_sL ?_ rfl | refine fr_sC ?_ rfl | exact fm_none | refine fm_some ?_ | refine fm_gd ?_ | refine fm_ite ?_ ?_ | refine fm_ltm ?_ (fun _ _ => ?_) | refine fm_lt ?_ | intro _ _ _ _ _ _ _ _ _ _ | intro _ _ _ _ _ _ _ _ _ | intro _ _ _ _ _ _ _ _ | intro _ _ _ _ _ _ _ | intro _ _ _ _ _ _ | intro _ _ _ _ _ | intro _ _ _ _ | intro _ _ _ | intro _ _ | intro _ | (apply fm_bnd; first | exact ih _ _ _ _) | (apply fm_tl; first | exact ih _ _ _ _)
theorem fr_fJ1_indexOfChar_4cfef_v2 {A : Nat → Bool}  (v1 : Int32) (v2 : Int32) (v3 : Int32) (μ : Mem) : Fm A μ (fJ1_indexOfChar_4cfef_v2  v1 v2 v3 μ) := by
  unfold fJ1_indexOfChar_4cfef_v2
  with_reducible repeat' first | assumption | exact Fr.refl | refine fr_sI ?_ rfl | refine fr_sL ?_ rfl | refine fr_sC ?_ rfl | exact fm_none | refine fm_some ?_ | refine fm_gd ?_ | refine fm_ite ?_ ?_ | refine fm_ltm ?_ (fun _ _ => ?_) | refine fm_lt ?_ | intro _ _ _ _ _ _ _ _ _ _ | intro _ _ _ _ _ _ _ _ _ | intro _ _ _ _ _ _ _ _ | intro _ _ _ _ _ _ _ | intro _ _ _ _ _ _ | intro _ _ _ _ _ | intro _ _ _ _ | intro _ _ _ | intro _ _ | intro _ | (apply fm_bnd; first | refine fr_fJ1_indexOfChar_4cfef_v2_b7  _ _ _ _ _) | (apply fm_tl; first | refine fr_fJ1_indexOfChar_4cfef_v2_b7  _ _ _ _ _)
theorem fr_fJ1_indexOf_4cfef_v2 {A : Nat → Bool}  (v1 : Int32) (v2 : Int32) (v3 : Int32) (μ : Mem) : Fm A μ (fJ1_indexOf_4cfef_v2  v1 v2 v3 μ) := by
  unfold fJ1_indexOf_4cfef_v2
  with_reducible repeat' first | assumption | exact Fr.refl | refine fr_sI ?_ rfl | refine fr_sL ?_ rfl | refine fr_sC ?_ rfl | exact fm_none | refine fm_some ?_ | refine fm_gd ?_ | refine fm_ite ?_ ?_ | refine fm_ltm ?_ (fun _ _ => ?_) | refine fm_lt ?_ | intro _ _ _ _ _ _ _ _ _ _ | intro _ _ _ _ _ _ _ _ _ | intro _ _ _ _ _ _ _ _ | intro _ _ _ _ _ _ _ | intro _ _ _ _ _ _ | intro _ _ _ _ _ | intro _ _ _ _ | intro _ _ _ | intro _ _ | intro _ | (apply fm_bnd; first | refine fr_fJ1_canEncode_9a6ad  _ _ | refine fr_fJ1_indexOfChar_4cfef_v2  _ _ _ _) | (apply fm_tl; first | refine fr_fJ1_canEncode_9a6ad  _ _ | refine fr_fJ1_indexOfChar_4cfef_v2  _ _ _ _)
theorem fr_fJ0_indexOf_7cf53_s2 {A : Nat → Bool}  (v1 : Int32) (v2 : Int32) (μ : Mem) : Fm A μ (fJ0_indexOf_7cf53_s2  v1 v2 μ) := by
  unfold fJ0_indexOf_7cf53_s2
  with_reducible repeat' first | assumption | exact Fr.refl | refine fr_sI ?_ rfl | refine fr_sL ?_ rfl | refine fr_sC ?_ rfl | exact fm_none | refine fm_some ?_ | refine fm_gd ?_ | refine fm_ite ?_ ?_ | refine fm_ltm ?_ (fun _ _ => ?_) | refine fm_lt ?_ | intro _ _ _ _ _ _ _ _ _ _ | intro _ _ _ _ _ _ _ _ _ | intro _ _ _ _ _ _ _ _ | intro _ _ _ _ _ _ _ | intro _ _ _ _ _ _ | intro _ _ _ _ _ | intro _ _ _ _ | intro _ _ _ | intro _ _ | intro _ | (apply fm_bnd; first | refine fr_fJ0_length_8abf5_s2  _ | refine fr_fJ1_indexOf_4cfef_v2  _ _ _ _ | refine fr_fJ0_isLatin1_aae02_s2  _) | (apply fm_tl; first | refine fr_fJ0_length_8abf5_s2  _ | refine fr_fJ1_indexOf_4cfef_v2  _ _ _ _ | refine fr_fJ0_isLatin1_aae02_s2  _)
theorem fr_fJ0_indexOf_0f7a4_s2 {A : Nat → Bool}  (v1 : Int32) (μ : Mem) : Fm A μ (fJ0_indexOf_0f7a4_s2  v1 μ) := by
  unfold fJ0_indexOf_0f7a4_s2
  with_reducible repeat' first | assumption | exact Fr.refl | refine fr_sI ?_ rfl | refine fr_sL ?_ rfl | refine fr_sC ?_ rfl | exact fm_none | refine fm_some ?_ | refine fm_gd ?_ | refine fm_ite ?_ ?_ | refine fm_ltm ?_ (fun _ _ => ?_) | refine fm_lt ?_ | intro _ _ _ _ _ _ _ _ _ _ | intro _ _ _ _ _ _ _ _ _ | intro _ _ _ _ _ _ _ _ | intro _ _ _ _ _ _ _ | intro _ _ _ _ _ _ | intro _ _ _ _ _ | intro _ _ _ _ | intro _ _ _ | intro _ _ | intro _ | (apply fm_bnd; first | refine fr_fJ0_indexOf_7cf53_s2  _ _ _) | (apply fm_tl; first | refine fr_fJ0_indexOf_7cf53_s2  _ _ _)
theorem fr_fX9_takesOneOf_1_s2   (μ : Mem) : Fm aC μ (fX9_takesOneOf_1_s2   μ) := by
  unfold fX9_takesOneOf_1_s2
  with_reducible repeat' first | assumption | exact Fr.refl | refine fr_sI ?_ rfl | refine fr_sL ?_ rfl | refine fr_sC ?_ rfl | exact fm_none | refine fm_some ?_ | refine fm_gd ?_ | refine fm_ite ?_ ?_ | refine fm_ltm ?_ (fun _ _ => ?_) | refine fm_lt ?_ | intro _ _ _ _ _ _ _ _ _ _ | intro _ _ _ _ _ _ _ _ _ | intro _ _ _ _ _ _ _ _ | intro _ _ _ _ _ _ _ | intro _ _ _ _ _ _ | intro _ _ _ _ _ | intro _ _ _ _ | intro _ _ _ | intro _ _ | intro _ | (apply fm_bnd; first | refine fr_fJ0_indexOf_0f7a4_s2  _ _) | (apply fm_tl; first | refine fr_fJ0_indexOf_0f7a4_s2  _ _)
theorem fr_fX3_readsRest_5_1_b27  (p2 : Int32) (q0 : Int32) (q1 : Int32) (μ : Mem) : Fm aC μ (fX3_readsRest_5_1_b27  p2 q0 q1 μ) := by
  unfold fX3_readsRest_5_1_b27
  with_reducible repeat' first | assumption | exact Fr.refl | refine fr_sI ?_ rfl | refine fr_sL ?_ rfl | refine fr_sC ?_ rfl | exact fm_none | refine fm_some ?_ | refine fm_gd ?_ | refine fm_ite ?_ ?_ | refine fm_ltm ?_ (fun _ _ => ?_) | refine fm_lt ?_ | intro _ _ _ _ _ _ _ _ _ _ | intro _ _ _ _ _ _ _ _ _ | intro _ _ _ _ _ _ _ _ | intro _ _ _ _ _ _ _ | intro _ _ _ _ _ _ | intro _ _ _ _ _ | intro _ _ _ _ | intro _ _ _ | intro _ _ | intro _ | (apply fm_bnd; first | refine fr_fX9_digit_1  _ _ | refine fr_fX3_readGoods_5_1  _) | (apply fm_tl; first | refine fr_fX9_digit_1  _ _ | refine fr_fX3_readGoods_5_1  _)
theorem fr_fX3_readsRest_5_1  (v2 : Int32) (μ : Mem) : Fm aC μ (fX3_readsRest_5_1  v2 μ) := by
  unfold fX3_readsRest_5_1
  with_reducible repeat' first | assumption | exact Fr.refl | refine fr_sI ?_ rfl | refine fr_sL ?_ rfl | refine fr_sC ?_ rfl | exact fm_none | refine fm_some ?_ | refine fm_gd ?_ | refine fm_ite ?_ ?_ | refine fm_ltm ?_ (fun _ _ => ?_) | refine fm_lt ?_ | intro _ _ _ _ _ _ _ _ _ _ | intro _ _ _ _ _ _ _ _ _ | intro _ _ _ _ _ _ _ _ | intro _ _ _ _ _ _ _ | intro _ _ _ _ _ _ | intro _ _ _ _ _ | intro _ _ _ _ | intro _ _ _ | intro _ _ | intro _ | (apply fm_bnd; first | refine fr_fX3_readsRest_5_1_b27  _ _ _ _ | refine fr_fX9_takesOneOf_1_s2  _) | (apply fm_tl; first | refine fr_fX3_readsRest_5_1_b27  _ _ _ _ | refine fr_fX9_takesOneOf_1_s2  _)
theorem fr_fX3_readsOne_5_1_b35  (p3 : Int32) (q0 : Int32) (μ : Mem) : Fm aC μ (fX3_readsOne_5_1_b35  p3 q0 μ) := by
  unfold fX3_readsOne_5_1_b35
  with_reducible repeat' first | assumption | exact Fr.refl | refine fr_sI ?_ rfl | refine fr_sL ?_ rfl | refine fr_sC ?_ rfl | exact fm_none | refine fm_some ?_ | refine fm_gd ?_ | refine fm_ite ?_ ?_ | refine fm_ltm ?_ (fun _ _ => ?_) | refine fm_lt ?_ | intro _ _ _ _ _ _ _ _ _ _ | intro _ _ _ _ _ _ _ _ _ | intro _ _ _ _ _ _ _ _ | intro _ _ _ _ _ _ _ | intro _ _ _ _ _ _ | intro _ _ _ _ _ | intro _ _ _ _ | intro _ _ _ | intro _ _ | intro _ | (apply fm_bnd; first | refine fr_fX3_readsMan_5_1  _ _ | refine fr_fX3_readsRest_5_1  _ _) | (apply fm_tl; first | refine fr_fX3_readsMan_5_1  _ _ | refine fr_fX3_readsRest_5_1  _ _)
theorem fr_fX3_readsOne_5_1  (v2 : Int32) (μ : Mem) : Fm aC μ (fX3_readsOne_5_1  v2 μ) := by
  unfold fX3_readsOne_5_1
  with_reducible repeat' first | assumption | exact Fr.refl | refine fr_sI ?_ rfl | refine fr_sL ?_ rfl | refine fr_sC ?_ rfl | exact fm_none | refine fm_some ?_ | refine fm_gd ?_ | refine fm_ite ?_ ?_ | refine fm_ltm ?_ (fun _ _ => ?_) | refine fm_lt ?_ | intro _ _ _ _ _ _ _ _ _ _ | intro _ _ _ _ _ _ _ _ _ | intro _ _ _ _ _ _ _ _ | intro _ _ _ _ _ _ _ | intro _ _ _ _ _ _ | intro _ _ _ _ _ | intro _ _ _ _ | intro _ _ _ | intro _ _ | intro _ | (apply fm_bnd; first | refine fr_fX3_readsOne_5_1_b35  _ _ _ | refine fr_fX3_allGoods_5  _) | (apply fm_tl; first | refine fr_fX3_readsOne_5_1_b35  _ _ _ | refine fr_fX3_allGoods_5  _)
theorem fr_fX9_isRead_1 {A : Nat → Bool}   (μ : Mem) : Fm A μ (fX9_isRead_1   μ) := by
  unfold fX9_isRead_1
  with_reducible repeat' first | assumption | exact Fr.refl | refine fr_sI ?_ rfl | refine fr_sL ?_ rfl | refine fr_sC ?_ rfl | exact fm_none | refine fm_some ?_ | refine fm_gd ?_ | refine fm_ite ?_ ?_ | refine fm_ltm ?_ (fun _ _ => ?_) | refine fm_lt ?_ | intro _ _ _ _ _ _ _ _ _ _ | intro _ _ _ _ _ _ _ _ _ | intro _ _ _ _ _ _ _ _ | intro _ _ _ _ _ _ _ | intro _ _ _ _ _ _ | intro _ _ _ _ _ | intro _ _ _ _ | intro _ _ _ | intro _ _ | intro _
theorem fr_fX9_open_1  (v1 : Int32) (μ : Mem) : Fm aC μ (fX9_open_1  v1 μ) := by
  unfold fX9_open_1
  with_reducible repeat' first | assumption | exact Fr.refl | refine fr_sI ?_ rfl | refine fr_sL ?_ rfl | refine fr_sC ?_ rfl | exact fm_none | refine fm_some ?_ | refine fm_gd ?_ | refine fm_ite ?_ ?_ | refine fm_ltm ?_ (fun _ _ => ?_) | refine fm_lt ?_ | intro _ _ _ _ _ _ _ _ _ _ | intro _ _ _ _ _ _ _ _ _ | intro _ _ _ _ _ _ _ _ | intro _ _ _ _ _ _ _ | intro _ _ _ _ _ _ | intro _ _ _ _ _ | intro _ _ _ _ | intro _ _ _ | intro _ _ | intro _
theorem fr_fX9_wrong_1 {A : Nat → Bool}   (μ : Mem) : Fm A μ (fX9_wrong_1   μ) := by
  unfold fX9_wrong_1
  with_reducible repeat' first | assumption | exact Fr.refl | refine fr_sI ?_ rfl | refine fr_sL ?_ rfl | refine fr_sC ?_ rfl | exact fm_none | refine fm_some ?_ | refine fm_gd ?_ | refine fm_ite ?_ ?_ | refine fm_ltm ?_ (fun _ _ => ?_) | refine fm_lt ?_ | intro _ _ _ _ _ _ _ _ _ _ | intro _ _ _ _ _ _ _ _ _ | intro _ _ _ _ _ _ _ _ | intro _ _ _ _ _ _ _ | intro _ _ _ _ _ _ | intro _ _ _ _ _ | intro _ _ _ _ | intro _ _ _ | intro _ _ | intro _
theorem fr_fX5_readAll_5_1_b16  : ∀ n a0 μ, Fm aC μ (fX5_readAll_5_1_b16  n a0 μ) := by
  intro n
  induction n with
  | zero =>
    intros
    exact fm_none
  | succ n ih =>
    intro a0 μ
    rw [fX5_readAll_5_1_b16]
    with_reducible repeat' first | assumption | exact Fr.refl | refine fr_sI ?_ rfl | refine fr_sL ?_ rfl | refine fr_sC ?_ rfl | exact fm_none | refine fm_some ?_ | refine fm_gd ?_ | refine fm_ite ?_ ?_ | refine fm_ltm ?_ (fun _ _ => ?_) | refine fm_lt ?_ | intro _ _ _ _ _ _ _ _ _ _ | intro _ _ _ _ _ _ _ _ _ | intro _ _ _ _ _ _ _ _ | intro _ _ _ _ _ _ _ | intro _ _ _ _ _ _ | intro _ _ _ _ _ | intro _ _ _ _ | intro _ _ _ | intro _ _ | intro _ | (apply fm_bnd; first | refine fr_fX9_wrong_1  _ | refine fr_fX9_takes_1  _ _ | refine fr_fX3_readsOne_5_1  _ _ | exact ih _ _ | refine fr_fX9_isRead_1  _) | (apply fm_tl; first | refine fr_fX9_wrong_1  _ | refine fr_fX9_takes_1  _ _ | refine fr_fX3_readsOne_5_1  _ _ | exact ih _ _ | refine fr_fX9_isRead_1  _)
theorem fr_fX5_readAll_5_1  (v2 : Int32) (μ : Mem) : Fm aC μ (fX5_readAll_5_1  v2 μ) := by
  unfold fX5_readAll_5_1
  with_reducible repeat' first | assumption | exact Fr.refl | refine fr_sI ?_ rfl | refine fr_sL ?_ rfl | refine fr_sC ?_ rfl | exact fm_none | refine fm_some ?_ | refine fm_gd ?_ | refine fm_ite ?_ ?_ | refine fm_ltm ?_ (fun _ _ => ?_) | refine fm_lt ?_ | intro _ _ _ _ _ _ _ _ _ _ | intro _ _ _ _ _ _ _ _ _ | intro _ _ _ _ _ _ _ _ | intro _ _ _ _ _ _ _ | intro _ _ _ _ _ _ | intro _ _ _ _ _ | intro _ _ _ _ | intro _ _ _ | intro _ _ | intro _ | (apply fm_bnd; first | refine fr_fX9_open_1  _ _ | refine fr_fX5_readAll_5_1_b16  _ _ _ | refine fr_fX9_isRead_1  _) | (apply fm_tl; first | refine fr_fX9_open_1  _ _ | refine fr_fX5_readAll_5_1_b16  _ _ _ | refine fr_fX9_isRead_1  _)
theorem fr_fX9_empty_1   (μ : Mem) : Fm aC μ (fX9_empty_1   μ) := by
  unfold fX9_empty_1
  with_reducible repeat' first | assumption | exact Fr.refl | refine fr_sI ?_ rfl | refine fr_sL ?_ rfl | refine fr_sC ?_ rfl | exact fm_none | refine fm_some ?_ | refine fm_gd ?_ | refine fm_ite ?_ ?_ | refine fm_ltm ?_ (fun _ _ => ?_) | refine fm_lt ?_ | intro _ _ _ _ _ _ _ _ _ _ | intro _ _ _ _ _ _ _ _ _ | intro _ _ _ _ _ _ _ _ | intro _ _ _ _ _ _ _ | intro _ _ _ _ _ _ | intro _ _ _ _ _ | intro _ _ _ _ | intro _ _ _ | intro _ _ | intro _
theorem fr_fX11_prisoners_0   (μ : Mem) : Fm aC μ (fX11_prisoners_0   μ) := by
  unfold fX11_prisoners_0
  with_reducible repeat' first | assumption | exact Fr.refl | refine fr_sI ?_ rfl | refine fr_sL ?_ rfl | refine fr_sC ?_ rfl | exact fm_none | refine fm_some ?_ | refine fm_gd ?_ | refine fm_ite ?_ ?_ | refine fm_ltm ?_ (fun _ _ => ?_) | refine fm_lt ?_ | intro _ _ _ _ _ _ _ _ _ _ | intro _ _ _ _ _ _ _ _ _ | intro _ _ _ _ _ _ _ _ | intro _ _ _ _ _ _ _ | intro _ _ _ _ _ _ | intro _ _ _ _ _ | intro _ _ _ _ | intro _ _ _ | intro _ _ | intro _ | (apply fm_bnd; first | refine fr_fX9_empty_1  _ | refine fr_fX11_forgetWhatWas_0  _ | refine fr_fX4_receive_33  _ _ _ | refine fr_fX5_readAll_5_1  _ _) | (apply fm_tl; first | refine fr_fX9_empty_1  _ | refine fr_fX11_forgetWhatWas_0  _ | refine fr_fX4_receive_33  _ _ _ | refine fr_fX5_readAll_5_1  _ _)
theorem fr_fX12_allGoods_122_b4 {A : Nat → Bool}  : ∀ n a0 a1 μ, Fm A μ (fX12_allGoods_122_b4  n a0 a1 μ) := by
  intro n
  induction n with
  | zero =>
    intros
    exact fm_none
  | succ n ih =>
    intro a0 a1 μ
    rw [fX12_allGoods_122_b4]
    with_reducible repeat' first | assumption | exact Fr.refl | refine fr_sI ?_ rfl | refine fr_sL ?_ rfl | refine fr_sC ?_ rfl | exact fm_none | refine fm_some ?_ | refine fm_gd ?_ | refine fm_ite ?_ ?_ | refine fm_ltm ?_ (fun _ _ => ?_) | refine fm_lt ?_ | intro _ _ _ _ _ _ _ _ _ _ | intro _ _ _ _ _ _ _ _ _ | intro _ _ _ _ _ _ _ _ | intro _ _ _ _ _ _ _ | intro _ _ _ _ _ _ | intro _ _ _ _ _ | intro _ _ _ _ | intro _ _ _ | intro _ _ | intro _ | (apply fm_bnd; first | exact ih _ _ _) | (apply fm_tl; first | exact ih _ _ _)
theorem fr_fX12_allGoods_122 {A : Nat → Bool}   (μ : Mem) : Fm A μ (fX12_allGoods_122   μ) := by
  unfold fX12_allGoods_122
  with_reducible repeat' first | assumption | exact Fr.refl | refine fr_sI ?_ rfl | refine fr_sL ?_ rfl | refine fr_sC ?_ rfl | exact fm_none | refine fm_some ?_ | refine fm_gd ?_ | refine fm_ite ?_ ?_ | refine fm_ltm ?_ (fun _ _ => ?_) | refine fm_lt ?_ | intro _ _ _ _ _ _ _ _ _ _ | intro _ _ _ _ _ _ _ _ _ | intro _ _ _ _ _ _ _ _ | intro _ _ _ _ _ _ _ | intro _ _ _ _ _ _ | intro _ _ _ _ _ | intro _ _ _ _ | intro _ _ _ | intro _ _ | intro _ | (apply fm_bnd; first | refine fr_fX12_allGoods_122_b4  _ _ _ _) | (apply fm_tl; first | refine fr_fX12_allGoods_122_b4  _ _ _ _)
theorem fr_fX12_begin_122_133  (v2 : Int32) (v3 : Int32) (μ : Mem) : Fm aM μ (fX12_begin_122_133  v2 v3 μ) := by
  unfold fX12_begin_122_133
  with_reducible repeat' first | assumption | exact Fr.refl | refine fr_sI ?_ rfl | refine fr_sL ?_ rfl | refine fr_sC ?_ rfl | exact fm_none | refine fm_some ?_ | refine fm_gd ?_ | refine fm_ite ?_ ?_ | refine fm_ltm ?_ (fun _ _ => ?_) | refine fm_lt ?_ | intro _ _ _ _ _ _ _ _ _ _ | intro _ _ _ _ _ _ _ _ _ | intro _ _ _ _ _ _ _ _ | intro _ _ _ _ _ _ _ | intro _ _ _ _ _ _ | intro _ _ _ _ _ | intro _ _ _ _ | intro _ _ _ | intro _ _ | intro _
theorem fr_fX12_beginText_122  (v1 : Int32) (μ : Mem) : Fm aM μ (fX12_beginText_122  v1 μ) := by
  unfold fX12_beginText_122
  with_reducible repeat' first | assumption | exact Fr.refl | refine fr_sI ?_ rfl | refine fr_sL ?_ rfl | refine fr_sC ?_ rfl | exact fm_none | refine fm_some ?_ | refine fm_gd ?_ | refine fm_ite ?_ ?_ | refine fm_ltm ?_ (fun _ _ => ?_) | refine fm_lt ?_ | intro _ _ _ _ _ _ _ _ _ _ | intro _ _ _ _ _ _ _ _ _ | intro _ _ _ _ _ _ _ _ | intro _ _ _ _ _ _ _ | intro _ _ _ _ _ _ | intro _ _ _ _ _ | intro _ _ _ _ | intro _ _ _ | intro _ _ | intro _ | (apply fm_bnd; first | refine fr_fX12_begin_122_133  _ _ _) | (apply fm_tl; first | refine fr_fX12_begin_122_133  _ _ _)
theorem fr_fX12_fine_122 {A : Nat → Bool}   (μ : Mem) : Fm A μ (fX12_fine_122   μ) := by
  unfold fX12_fine_122
  with_reducible repeat' first | assumption | exact Fr.refl | refine fr_sI ?_ rfl | refine fr_sL ?_ rfl | refine fr_sC ?_ rfl | exact fm_none | refine fm_some ?_ | refine fm_gd ?_ | refine fm_ite ?_ ?_ | refine fm_ltm ?_ (fun _ _ => ?_) | refine fm_lt ?_ | intro _ _ _ _ _ _ _ _ _ _ | intro _ _ _ _ _ _ _ _ _ | intro _ _ _ _ _ _ _ _ | intro _ _ _ _ _ _ _ | intro _ _ _ _ _ _ | intro _ _ _ _ _ | intro _ _ _ _ | intro _ _ _ | intro _ _ | intro _
theorem fr_fX12_fault_122  (v1 : Int32) (μ : Mem) : Fm aM μ (fX12_fault_122  v1 μ) := by
  unfold fX12_fault_122
  with_reducible repeat' first | assumption | exact Fr.refl | refine fr_sI ?_ rfl | refine fr_sL ?_ rfl | refine fr_sC ?_ rfl | exact fm_none | refine fm_some ?_ | refine fm_gd ?_ | refine fm_ite ?_ ?_ | refine fm_ltm ?_ (fun _ _ => ?_) | refine fm_lt ?_ | intro _ _ _ _ _ _ _ _ _ _ | intro _ _ _ _ _ _ _ _ _ | intro _ _ _ _ _ _ _ _ | intro _ _ _ _ _ _ _ | intro _ _ _ _ _ _ | intro _ _ _ _ _ | intro _ _ _ _ | intro _ _ _ | intro _ _ | intro _ | (apply fm_bnd; first | refine fr_fX12_fine_122  _) | (apply fm_tl; first | refine fr_fX12_fine_122  _)
theorem fr_fX12_here_122 {A : Nat → Bool}   (μ : Mem) : Fm A μ (fX12_here_122   μ) := by
  unfold fX12_here_122
  with_reducible repeat' first | assumption | exact Fr.refl | refine fr_sI ?_ rfl | refine fr_sL ?_ rfl | refine fr_sC ?_ rfl | exact fm_none | refine fm_some ?_ | refine fm_gd ?_ | refine fm_ite ?_ ?_ | refine fm_ltm ?_ (fun _ _ => ?_) | refine fm_lt ?_ | intro _ _ _ _ _ _ _ _ _ _ | intro _ _ _ _ _ _ _ _ _ | intro _ _ _ _ _ _ _ _ | intro _ _ _ _ _ _ _ | intro _ _ _ _ _ _ | intro _ _ _ _ _ | intro _ _ _ _ | intro _ _ _ | intro _ _ | intro _
theorem fr_fX12_passes_122  (v1 : Int32) (μ : Mem) : Fm aM μ (fX12_passes_122  v1 μ) := by
  unfold fX12_passes_122
  with_reducible repeat' first | assumption | exact Fr.refl | refine fr_sI ?_ rfl | refine fr_sL ?_ rfl | refine fr_sC ?_ rfl | exact fm_none | refine fm_some ?_ | refine fm_gd ?_ | refine fm_ite ?_ ?_ | refine fm_ltm ?_ (fun _ _ => ?_) | refine fm_lt ?_ | intro _ _ _ _ _ _ _ _ _ _ | intro _ _ _ _ _ _ _ _ _ | intro _ _ _ _ _ _ _ _ | intro _ _ _ _ _ _ _ | intro _ _ _ _ _ _ | intro _ _ _ _ _ | intro _ _ _ _ | intro _ _ _ | intro _ _ | intro _ | (apply fm_bnd; first | refine fr_fX12_here_122  _ | refine fr_fX12_fine_122  _) | (apply fm_tl; first | refine fr_fX12_here_122  _ | refine fr_fX12_fine_122  _)
theorem fr_fX12_has {A : Nat → Bool}  (v0 : Int32) (v1 : Int32) (μ : Mem) : Fm A μ (fX12_has  v0 v1 μ) := by
  unfold fX12_has
  with_reducible repeat' first | assumption | exact Fr.refl | refine fr_sI ?_ rfl | refine fr_sL ?_ rfl | refine fr_sC ?_ rfl | exact fm_none | refine fm_some ?_ | refine fm_gd ?_ | refine fm_ite ?_ ?_ | refine fm_ltm ?_ (fun _ _ => ?_) | refine fm_lt ?_ | intro _ _ _ _ _ _ _ _ _ _ | intro _ _ _ _ _ _ _ _ _ | intro _ _ _ _ _ _ _ _ | intro _ _ _ _ _ _ _ | intro _ _ _ _ _ _ | intro _ _ _ _ _ | intro _ _ _ _ | intro _ _ _ | intro _ _ | intro _
theorem fr_fX12_need_122  (v1 : Int32) (μ : Mem) : Fm aM μ (fX12_need_122  v1 μ) := by
  unfold fX12_need_122
  with_reducible repeat' first | assumption | exact Fr.refl | refine fr_sI ?_ rfl | refine fr_sL ?_ rfl | refine fr_sC ?_ rfl | exact fm_none | refine fm_some ?_ | refine fm_gd ?_ | refine fm_ite ?_ ?_ | refine fm_ltm ?_ (fun _ _ => ?_) | refine fm_lt ?_ | intro _ _ _ _ _ _ _ _ _ _ | intro _ _ _ _ _ _ _ _ _ | intro _ _ _ _ _ _ _ _ | intro _ _ _ _ _ _ _ | intro _ _ _ _ _ _ | intro _ _ _ _ _ | intro _ _ _ _ | intro _ _ _ | intro _ _ | intro _ | (apply fm_bnd; first | refine fr_fX12_fault_122  _ _ | refine fr_fX12_passes_122  _ _) | (apply fm_tl; first | refine fr_fX12_fault_122  _ _ | refine fr_fX12_passes_122  _ _)
theorem fr_fX12_oneOf_122  (v1 : Int32) (v2 : Int32) (μ : Mem) : Fm aM μ (fX12_oneOf_122  v1 v2 μ) := by
  unfold fX12_oneOf_122
  with_reducible repeat' first | assumption | exact Fr.refl | refine fr_sI ?_ rfl | refine fr_sL ?_ rfl | refine fr_sC ?_ rfl | exact fm_none | refine fm_some ?_ | refine fm_gd ?_ | refine fm_ite ?_ ?_ | refine fm_ltm ?_ (fun _ _ => ?_) | refine fm_lt ?_ | intro _ _ _ _ _ _ _ _ _ _ | intro _ _ _ _ _ _ _ _ _ | intro _ _ _ _ _ _ _ _ | intro _ _ _ _ _ _ _ | intro _ _ _ _ _ _ | intro _ _ _ _ _ | intro _ _ _ _ | intro _ _ _ | intro _ _ | intro _ | (apply fm_bnd; first | refine fr_fX12_here_122  _ | refine fr_fX12_fine_122  _ | refine fr_fX12_in  _ _ _ _ | refine fr_fX12_fault_122  _ _) | (apply fm_tl; first | refine fr_fX12_here_122  _ | refine fr_fX12_fine_122  _ | refine fr_fX12_in  _ _ _ _ | refine fr_fX12_fault_122  _ _)
theorem fr_fX12_number_122_b11  : ∀ n a0 a1 a2 μ, Fm aM μ (fX12_number_122_b11  n a0 a1 a2 μ) := by
  intro n
  induction n with
  | zero =>
    intros
    exact fm_none
  | succ n ih =>
    intro a0 a1 a2 μ
    rw [fX12_number_122_b11]
    with_reducible repeat' first | assumption | exact Fr.refl | refine fr_sI ?_ rfl | refine fr_sL ?_ rfl | refine fr_sC ?_ rfl | exact fm_none | refine fm_some ?_ | refine fm_gd ?_ | refine fm_ite ?_ ?_ | refine fm_ltm ?_ (fun _ _ => ?_) | refine fm_lt ?_ | intro _ _ _ _ _ _ _ _ _ _ | intro _ _ _ _ _ _ _ _ _ | intro _ _ _ _ _ _ _ _ | intro _ _ _ _ _ _ _ | intro _ _ _ _ _ _ | intro _ _ _ _ _ | intro _ _ _ _ | intro _ _ _ | intro _ _ | intro _ | (apply fm_bnd; first | refine fr_fX12_here_122  _ | refine fr_fX12_in  _ _ _ _ | exact ih _ _ _ _ | refine fr_fX12_fine_122  _ | refine fr_fX12_oneOf_122  _ _ _) | (apply fm_tl; first | refine fr_fX12_here_122  _ | refine fr_fX12_in  _ _ _ _ | exact ih _ _ _ _ | refine fr_fX12_fine_122  _ | refine fr_fX12_oneOf_122  _ _ _)
theorem fr_fX12_number_122  (v1 : Int32) (μ : Mem) : Fm aM μ (fX12_number_122  v1 μ) := by
  unfold fX12_number_122
  with_reducible repeat' first | assumption | exact Fr.refl | refine fr_sI ?_ rfl | refine fr_sL ?_ rfl | refine fr_sC ?_ rfl | exact fm_none | refine fm_some ?_ | refine fm_gd ?_ | refine fm_ite ?_ ?_ | refine fm_ltm ?_ (fun _ _ => ?_) | refine fm_lt ?_ | intro _ _ _ _ _ _ _ _ _ _ | intro _ _ _ _ _ _ _ _ _ | intro _ _ _ _ _ _ _ _ | intro _ _ _ _ _ _ _ | intro _ _ _ _ _ _ | intro _ _ _ _ _ | intro _ _ _ _ | intro _ _ _ | intro _ _ | intro _ | (apply fm_bnd; first | refine fr_fX12_number_122_b11  _ _ _ _ _ | refine fr_fX12_oneOf_122  _ _ _) | (apply fm_tl; first | refine fr_fX12_number_122_b11  _ _ _ _ _ | refine fr_fX12_oneOf_122  _ _ _)
theorem fr_fX12_readMan_122_b170 {k124 : Int32 → Int32 → Int32 → Mem → Option (Int32 × Mem)} (hk124 : ∀ x0 x1 x2 m, Fm aM m (k124 x0 x1 x2 m)) (p1 : Int32) (p3 : Int32) (p4 : Int32) (μ : Mem) : Fm aM μ (fX12_readMan_122_b170 k124 p1 p3 p4 μ) := by
  unfold fX12_readMan_122_b170
  with_reducible repeat' first | assumption | exact Fr.refl | refine fr_sI ?_ rfl | refine fr_sL ?_ rfl | refine fr_sC ?_ rfl | exact fm_none | refine fm_some ?_ | refine fm_gd ?_ | refine fm_ite ?_ ?_ | refine fm_ltm ?_ (fun _ _ => ?_) | refine fm_lt ?_ | intro _ _ _ _ _ _ _ _ _ _ | intro _ _ _ _ _ _ _ _ _ | intro _ _ _ _ _ _ _ _ | intro _ _ _ _ _ _ _ | intro _ _ _ _ _ _ | intro _ _ _ _ _ | intro _ _ _ _ | intro _ _ _ | intro _ _ | intro _ | (apply fm_bnd; first | refine fr_fX12_fault_122  _ _ | exact hk124 _ _ _ _) | (apply fm_tl; first | refine fr_fX12_fault_122  _ _ | exact hk124 _ _ _ _)
theorem fr_fX12_readMan_122_b124  : ∀ n a0 a1 a2 μ, Fm aM μ (fX12_readMan_122_b124  n a0 a1 a2 μ) := by
  intro n
  induction n with
  | zero =>
    intros
    exact fm_none
  | succ n ih =>
    intro a0 a1 a2 μ
    rw [fX12_readMan_122_b124]
    with_reducible repeat' first | assumption | exact Fr.refl | refine fr_sI ?_ rfl | refine fr_sL ?_ rfl | refine fr_sC ?_ rfl | exact fm_none | refine fm_some ?_ | refine fm_gd ?_ | refine fm_ite ?_ ?_ | refine fm_ltm ?_ (fun _ _ => ?_) | refine fm_lt ?_ | intro _ _ _ _ _ _ _ _ _ _ | intro _ _ _ _ _ _ _ _ _ | intro _ _ _ _ _ _ _ _ | intro _ _ _ _ _ _ _ | intro _ _ _ _ _ _ | intro _ _ _ _ _ | intro _ _ _ _ | intro _ _ _ | intro _ _ | intro _ | (apply fm_bnd; first | refine fr_fX12_here_122  _ | exact ih _ _ _ _ | refine fr_fX12_has  _ _ _ | refine fr_fX12_in  _ _ _ _ | refine fr_fX12_readMan_122_b170 ?_ _ _ _ _ | refine fr_fX12_fine_122  _) | (apply fm_tl; first | refine fr_fX12_here_122  _ | exact ih _ _ _ _ | refine fr_fX12_has  _ _ _ | refine fr_fX12_in  _ _ _ _ | refine fr_fX12_readMan_122_b170 ?_ _ _ _ _ | refine fr_fX12_fine_122  _)
theorem fr_fX12_readMan_122_b97  (p1 : Int32) (p3 : Int32) (μ : Mem) : Fm aM μ (fX12_readMan_122_b97  p1 p3 μ) := by
  unfold fX12_readMan_122_b97
  with_reducible repeat' first | assumption | exact Fr.refl | refine fr_sI ?_ rfl | refine fr_sL ?_ rfl | refine fr_sC ?_ rfl | exact fm_none | refine fm_some ?_ | refine fm_gd ?_ | refine fm_ite ?_ ?_ | refine fm_ltm ?_ (fun _ _ => ?_) | refine fm_lt ?_ | intro _ _ _ _ _ _ _ _ _ _ | intro _ _ _ _ _ _ _ _ _ | intro _ _ _ _ _ _ _ _ | intro _ _ _ _ _ _ _ | intro _ _ _ _ _ _ | intro _ _ _ _ _ | intro _ _ _ _ | intro _ _ _ | intro _ _ | intro _ | (apply fm_bnd; first | refine fr_fX12_readMan_122_b124  _ _ _ _ _ | refine fr_fX12_oneOf_122  _ _ _) | (apply fm_tl; first | refine fr_fX12_readMan_122_b124  _ _ _ _ _ | refine fr_fX12_oneOf_122  _ _ _)
theorem fr_fX12_readMan_122_b79  (p1 : Int32) (p3 : Int32) (q0 : Int32) (q1 : Int32) (μ : Mem) : Fm aM μ (fX12_readMan_122_b79  p1 p3 q0 q1 μ) := by
  unfold fX12_readMan_122_b79
  with_reducible repeat' first | assumption | exact Fr.refl | refine fr_sI ?_ rfl | refine fr_sL ?_ rfl | refine fr_sC ?_ rfl | exact fm_none | refine fm_some ?_ | refine fm_gd ?_ | refine fm_ite ?_ ?_ | refine fm_ltm ?_ (fun _ _ => ?_) | refine fm_lt ?_ | intro _ _ _ _ _ _ _ _ _ _ | intro _ _ _ _ _ _ _ _ _ | intro _ _ _ _ _ _ _ _ | intro _ _ _ _ _ _ _ | intro _ _ _ _ _ _ | intro _ _ _ _ _ | intro _ _ _ _ | intro _ _ _ | intro _ _ | intro _ | (apply fm_bnd; first | refine fr_fX12_need_122  _ _ | refine fr_fX12_readMan_122_b97  _ _ _) | (apply fm_tl; first | refine fr_fX12_need_122  _ _ | refine fr_fX12_readMan_122_b97  _ _ _)
theorem fr_fX12_readMan_122_b39  (p1 : Int32) (p3 : Int32) (μ : Mem) : Fm aM μ (fX12_readMan_122_b39  p1 p3 μ) := by
  unfold fX12_readMan_122_b39
  with_reducible repeat' first | assumption | exact Fr.refl | refine fr_sI ?_ rfl | refine fr_sL ?_ rfl | refine fr_sC ?_ rfl | exact fm_none | refine fm_some ?_ | refine fm_gd ?_ | refine fm_ite ?_ ?_ | refine fm_ltm ?_ (fun _ _ => ?_) | refine fm_lt ?_ | intro _ _ _ _ _ _ _ _ _ _ | intro _ _ _ _ _ _ _ _ _ | intro _ _ _ _ _ _ _ _ | intro _ _ _ _ _ _ _ | intro _ _ _ _ _ _ | intro _ _ _ _ _ | intro _ _ _ _ | intro _ _ _ | intro _ _ | intro _ | (apply fm_bnd; first | refine fr_fX12_number_122  _ _ | refine fr_fX12_need_122  _ _ | refine fr_fX12_readMan_122_b79  _ _ _ _ _ | refine fr_fX12_passes_122  _ _) | (apply fm_tl; first | refine fr_fX12_number_122  _ _ | refine fr_fX12_need_122  _ _ | refine fr_fX12_readMan_122_b79  _ _ _ _ _ | refine fr_fX12_passes_122  _ _)
theorem fr_fX12_readMan_122  (v1 : Int32) (v2 : Int32) (μ : Mem) : Fm aM μ (fX12_readMan_122  v1 v2 μ) := by
  unfold fX12_readMan_122
  with_reducible repeat' first | assumption | exact Fr.refl | refine fr_sI ?_ rfl | refine fr_sL ?_ rfl | refine fr_sC ?_ rfl | exact fm_none | refine fm_some ?_ | refine fm_gd ?_ | refine fm_ite ?_ ?_ | refine fm_ltm ?_ (fun _ _ => ?_) | refine fm_lt ?_ | intro _ _ _ _ _ _ _ _ _ _ | intro _ _ _ _ _ _ _ _ _ | intro _ _ _ _ _ _ _ _ | intro _ _ _ _ _ _ _ | intro _ _ _ _ _ _ | intro _ _ _ _ _ | intro _ _ _ _ | intro _ _ _ | intro _ _ | intro _ | (apply fm_bnd; first | refine fr_fX12_fine_122  _ | refine fr_fX12_number_122  _ _ | refine fr_fX12_fault_122  _ _ | refine fr_fX12_readMan_122_b39  _ _ _) | (apply fm_tl; first | refine fr_fX12_fine_122  _ | refine fr_fX12_number_122  _ _ | refine fr_fX12_fault_122  _ _ | refine fr_fX12_readMan_122_b39  _ _ _)
theorem fr_fX12_wasRight_122_b19 {A : Nat → Bool}   (μ : Mem) : Fm A μ (fX12_wasRight_122_b19   μ) := by
  unfold fX12_wasRight_122_b19
  with_reducible repeat' first | assumption | exact Fr.refl | refine fr_sI ?_ rfl | refine fr_sL ?_ rfl | refine fr_sC ?_ rfl | exact fm_none | refine fm_some ?_ | refine fm_gd ?_ | refine fm_ite ?_ ?_ | refine fm_ltm ?_ (fun _ _ => ?_) | refine fm_lt ?_ | intro _ _ _ _ _ _ _ _ _ _ | intro _ _ _ _ _ _ _ _ _ | intro _ _ _ _ _ _ _ _ | intro _ _ _ _ _ _ _ | intro _ _ _ _ _ _ | intro _ _ _ _ _ | intro _ _ _ _ | intro _ _ _ | intro _ _ | intro _ | (apply fm_bnd; first | refine fr_fX12_fine_122  _) | (apply fm_tl; first | refine fr_fX12_fine_122  _)
theorem fr_fX12_wasRight_122   (μ : Mem) : Fm aM μ (fX12_wasRight_122   μ) := by
  unfold fX12_wasRight_122
  with_reducible repeat' first | assumption | exact Fr.refl | refine fr_sI ?_ rfl | refine fr_sL ?_ rfl | refine fr_sC ?_ rfl | exact fm_none | refine fm_some ?_ | refine fm_gd ?_ | refine fm_ite ?_ ?_ | refine fm_ltm ?_ (fun _ _ => ?_) | refine fm_lt ?_ | intro _ _ _ _ _ _ _ _ _ _ | intro _ _ _ _ _ _ _ _ _ | intro _ _ _ _ _ _ _ _ | intro _ _ _ _ _ _ _ | intro _ _ _ _ _ _ | intro _ _ _ _ _ | intro _ _ _ _ | intro _ _ _ | intro _ _ | intro _ | (apply fm_bnd; first | refine fr_fX12_wasRight_122_b19  _ | refine fr_fX12_fault_122  _ _) | (apply fm_tl; first | refine fr_fX12_wasRight_122_b19  _ | refine fr_fX12_fault_122  _ _)
theorem fr_fX12_prisoners_122_b173 {k101 : Int32 → Int32 → Mem → Option (Int32 × Mem)} (hk101 : ∀ x0 x1 m, Fm aM m (k101 x0 x1 m)) (p1 : Int32) (p4 : Int32) (q0 : Int32) (q1 : Int32) (μ : Mem) : Fm aM μ (fX12_prisoners_122_b173 k101 p1 p4 q0 q1 μ) := by
  unfold fX12_prisoners_122_b173
  with_reducible repeat' first | assumption | exact Fr.refl | refine fr_sI ?_ rfl | refine fr_sL ?_ rfl | refine fr_sC ?_ rfl | exact fm_none | refine fm_some ?_ | refine fm_gd ?_ | refine fm_ite ?_ ?_ | refine fm_ltm ?_ (fun _ _ => ?_) | refine fm_lt ?_ | intro _ _ _ _ _ _ _ _ _ _ | intro _ _ _ _ _ _ _ _ _ | intro _ _ _ _ _ _ _ _ | intro _ _ _ _ _ _ _ | intro _ _ _ _ _ _ | intro _ _ _ _ _ | intro _ _ _ _ | intro _ _ _ | intro _ _ | intro _ | (apply fm_bnd; first | exact hk101 _ _ _) | (apply fm_tl; first | exact hk101 _ _ _)
theorem fr_fX12_prisoners_122_b101  : ∀ n a0 a1 μ, Fm aM μ (fX12_prisoners_122_b101  n a0 a1 μ) := by
  intro n
  induction n with
  | zero =>
    intros
    exact fm_none
  | succ n ih =>
    intro a0 a1 μ
    rw [fX12_prisoners_122_b101]
    with_reducible repeat' first | assumption | exact Fr.refl | refine fr_sI ?_ rfl | refine fr_sL ?_ rfl | refine fr_sC ?_ rfl | exact fm_none | refine fm_some ?_ | refine fm_gd ?_ | refine fm_ite ?_ ?_ | refine fm_ltm ?_ (fun _ _ => ?_) | refine fm_lt ?_ | intro _ _ _ _ _ _ _ _ _ _ | intro _ _ _ _ _ _ _ _ _ | intro _ _ _ _ _ _ _ _ | intro _ _ _ _ _ _ _ | intro _ _ _ _ _ _ | intro _ _ _ _ _ | intro _ _ _ _ | intro _ _ _ | intro _ _ | intro _ | (apply fm_bnd; first | exact ih _ _ _ | refine fr_fX12_prisoners_122_b173 ?_ _ _ _ _ _) | (apply fm_tl; first | exact ih _ _ _ | refine fr_fX12_prisoners_122_b173 ?_ _ _ _ _ _)
theorem fr_fX12_prisoners_122_b84  (p1 : Int32) (μ : Mem) : Fm aM μ (fX12_prisoners_122_b84  p1 μ) := by
  unfold fX12_prisoners_122_b84
  with_reducible repeat' first | assumption | exact Fr.refl | refine fr_sI ?_ rfl | refine fr_sL ?_ rfl | refine fr_sC ?_ rfl | exact fm_none | refine fm_some ?_ | refine fm_gd ?_ | refine fm_ite ?_ ?_ | refine fm_ltm ?_ (fun _ _ => ?_) | refine fm_lt ?_ | intro _ _ _ _ _ _ _ _ _ _ | intro _ _ _ _ _ _ _ _ _ | intro _ _ _ _ _ _ _ _ | intro _ _ _ _ _ _ _ | intro _ _ _ _ _ _ | intro _ _ _ _ _ | intro _ _ _ _ | intro _ _ _ | intro _ _ | intro _ | (apply fm_bnd; first | refine fr_fX12_prisoners_122_b101  _ _ _ _ | refine fr_fX12_wasRight_122  _) | (apply fm_tl; first | refine fr_fX12_prisoners_122_b101  _ _ _ _ | refine fr_fX12_wasRight_122  _)
theorem fr_fX12_prisoners_122_b71 {k29 : Int32 → Int32 → Int32 → Mem → Option (Int32 × Mem)} (hk29 : ∀ x0 x1 x2 m, Fm aM m (k29 x0 x1 x2 m)) (p1 : Int32) (p2 : Int32) (μ : Mem) : Fm aM μ (fX12_prisoners_122_b71 k29 p1 p2 μ) := by
  unfold fX12_prisoners_122_b71
  with_reducible repeat' first | assumption | exact Fr.refl | refine fr_sI ?_ rfl | refine fr_sL ?_ rfl | refine fr_sC ?_ rfl | exact fm_none | refine fm_some ?_ | refine fm_gd ?_ | refine fm_ite ?_ ?_ | refine fm_ltm ?_ (fun _ _ => ?_) | refine fm_lt ?_ | intro _ _ _ _ _ _ _ _ _ _ | intro _ _ _ _ _ _ _ _ _ | intro _ _ _ _ _ _ _ _ | intro _ _ _ _ _ _ _ | intro _ _ _ _ _ _ | intro _ _ _ _ _ | intro _ _ _ _ | intro _ _ _ | intro _ _ | intro _ | (apply fm_bnd; first | refine fr_fX12_passes_122  _ _ | exact hk29 _ _ _ _) | (apply fm_tl; first | refine fr_fX12_passes_122  _ _ | exact hk29 _ _ _ _)
theorem fr_fX12_prisoners_122_b29  : ∀ n a0 a1 a2 μ, Fm aM μ (fX12_prisoners_122_b29  n a0 a1 a2 μ) := by
  intro n
  induction n with
  | zero =>
    intros
    exact fm_none
  | succ n ih =>
    intro a0 a1 a2 μ
    rw [fX12_prisoners_122_b29]
    with_reducible repeat' first | assumption | exact Fr.refl | refine fr_sI ?_ rfl | refine fr_sL ?_ rfl | refine fr_sC ?_ rfl | exact fm_none | refine fm_some ?_ | refine fm_gd ?_ | refine fm_ite ?_ ?_ | refine fm_ltm ?_ (fun _ _ => ?_) | refine fm_lt ?_ | intro _ _ _ _ _ _ _ _ _ _ | intro _ _ _ _ _ _ _ _ _ | intro _ _ _ _ _ _ _ _ | intro _ _ _ _ _ _ _ | intro _ _ _ _ _ _ | intro _ _ _ _ _ | intro _ _ _ _ | intro _ _ _ | intro _ _ | intro _ | (apply fm_bnd; first | refine fr_fX12_readMan_122  _ _ _ | refine fr_fX12_prisoners_122_b71 ?_ _ _ _ | refine fr_fX12_fault_122  _ _ | exact ih _ _ _ _ | refine fr_fX12_prisoners_122_b84  _ _ | refine fr_fX12_fine_122  _) | (apply fm_tl; first | refine fr_fX12_readMan_122  _ _ _ | refine fr_fX12_prisoners_122_b71 ?_ _ _ _ | refine fr_fX12_fault_122  _ _ | exact ih _ _ _ _ | refine fr_fX12_prisoners_122_b84  _ _ | refine fr_fX12_fine_122  _)
theorem fr_fX12_prisoners_122   (μ : Mem) : Fm aM μ (fX12_prisoners_122   μ) := by
  unfold fX12_prisoners_122
  with_reducible repeat' first | assumption | exact Fr.refl | refine fr_sI ?_ rfl | refine fr_sL ?_ rfl | refine fr_sC ?_ rfl | exact fm_none | refine fm_some ?_ | refine fm_gd ?_ | refine fm_ite ?_ ?_ | refine fm_ltm ?_ (fun _ _ => ?_) | refine fm_lt ?_ | intro _ _ _ _ _ _ _ _ _ _ | intro _ _ _ _ _ _ _ _ _ | intro _ _ _ _ _ _ _ _ | intro _ _ _ _ _ _ _ | intro _ _ _ _ _ _ | intro _ _ _ _ _ | intro _ _ _ _ | intro _ _ _ | intro _ _ | intro _ | (apply fm_bnd; first | refine fr_fX12_beginText_122  _ _ | refine fr_fX12_allGoods_122  _ | refine fr_fX12_prisoners_122_b29  _ _ _ _ _) | (apply fm_tl; first | refine fr_fX12_beginText_122  _ _ | refine fr_fX12_allGoods_122  _ | refine fr_fX12_prisoners_122_b29  _ _ _ _ _)
theorem fr_fX2_readValues_24_1_b34 {k10 : Int32 → Int32 → Mem → Option (Int32 × Mem)} (hk10 : ∀ x0 x1 m, Fm aC m (k10 x0 x1 m)) (p2 : Int32) (p3 : Int32) (μ : Mem) : Fm aC μ (fX2_readValues_24_1_b34 k10 p2 p3 μ) := by
  unfold fX2_readValues_24_1_b34
  with_reducible repeat' first | assumption | exact Fr.refl | refine fr_sI ?_ rfl | refine fr_sL ?_ rfl | refine fr_sC ?_ rfl | exact fm_none | refine fm_some ?_ | refine fm_gd ?_ | refine fm_ite ?_ ?_ | refine fm_ltm ?_ (fun _ _ => ?_) | refine fm_lt ?_ | intro _ _ _ _ _ _ _ _ _ _ | intro _ _ _ _ _ _ _ _ _ | intro _ _ _ _ _ _ _ _ | intro _ _ _ _ _ _ _ | intro _ _ _ _ _ _ | intro _ _ _ _ _ | intro _ _ _ _ | intro _ _ _ | intro _ _ | intro _ | (apply fm_bnd; first | refine fr_fX9_wrong_1  _ | refine fr_fX9_number_1  _ _ | exact hk10 _ _ _) | (apply fm_tl; first | refine fr_fX9_wrong_1  _ | refine fr_fX9_number_1  _ _ | exact hk10 _ _ _)
theorem fr_fX2_readValues_24_1_b10  : ∀ n a0 a1 μ, Fm aC μ (fX2_readValues_24_1_b10  n a0 a1 μ) := by
  intro n
  induction n with
  | zero =>
    intros
    exact fm_none
  | succ n ih =>
    intro a0 a1 μ
    rw [fX2_readValues_24_1_b10]
    with_reducible repeat' first | assumption | exact Fr.refl | refine fr_sI ?_ rfl | refine fr_sL ?_ rfl | refine fr_sC ?_ rfl | exact fm_none | refine fm_some ?_ | refine fm_gd ?_ | refine fm_ite ?_ ?_ | refine fm_ltm ?_ (fun _ _ => ?_) | refine fm_lt ?_ | intro _ _ _ _ _ _ _ _ _ _ | intro _ _ _ _ _ _ _ _ _ | intro _ _ _ _ _ _ _ _ | intro _ _ _ _ _ _ _ | intro _ _ _ _ _ _ | intro _ _ _ _ _ | intro _ _ _ _ | intro _ _ _ | intro _ _ | intro _ | (apply fm_bnd; first | refine fr_fX9_wrong_1  _ | refine fr_fX9_takes_1  _ _ | refine fr_fX2_readValues_24_1_b34 ?_ _ _ _ | exact ih _ _ _ | refine fr_fX9_isRead_1  _) | (apply fm_tl; first | refine fr_fX9_wrong_1  _ | refine fr_fX9_takes_1  _ _ | refine fr_fX2_readValues_24_1_b34 ?_ _ _ _ | exact ih _ _ _ | refine fr_fX9_isRead_1  _)
theorem fr_fX2_readValues_24_1   (μ : Mem) : Fm aC μ (fX2_readValues_24_1   μ) := by
  unfold fX2_readValues_24_1
  with_reducible repeat' first | assumption | exact Fr.refl | refine fr_sI ?_ rfl | refine fr_sL ?_ rfl | refine fr_sC ?_ rfl | exact fm_none | refine fm_some ?_ | refine fm_gd ?_ | refine fm_ite ?_ ?_ | refine fm_ltm ?_ (fun _ _ => ?_) | refine fm_lt ?_ | intro _ _ _ _ _ _ _ _ _ _ | intro _ _ _ _ _ _ _ _ _ | intro _ _ _ _ _ _ _ _ | intro _ _ _ _ _ _ _ | intro _ _ _ _ _ _ | intro _ _ _ _ _ | intro _ _ _ _ | intro _ _ _ | intro _ _ | intro _ | (apply fm_bnd; first | refine fr_fX9_open_1  _ _ | refine fr_fX2_readValues_24_1_b10  _ _ _ _) | (apply fm_tl; first | refine fr_fX9_open_1  _ _ | refine fr_fX2_readValues_24_1_b10  _ _ _ _)
theorem fr_fX11_values_0   (μ : Mem) : Fm aC μ (fX11_values_0   μ) := by
  unfold fX11_values_0
  with_reducible repeat' first | assumption | exact Fr.refl | refine fr_sI ?_ rfl | refine fr_sL ?_ rfl | refine fr_sC ?_ rfl | exact fm_none | refine fm_some ?_ | refine fm_gd ?_ | refine fm_ite ?_ ?_ | refine fm_ltm ?_ (fun _ _ => ?_) | refine fm_lt ?_ | intro _ _ _ _ _ _ _ _ _ _ | intro _ _ _ _ _ _ _ _ _ | intro _ _ _ _ _ _ _ _ | intro _ _ _ _ _ _ _ | intro _ _ _ _ _ _ | intro _ _ _ _ _ | intro _ _ _ _ | intro _ _ _ | intro _ _ | intro _ | (apply fm_bnd; first | refine fr_fX2_readValues_24_1  _ | refine fr_fX9_empty_1  _) | (apply fm_tl; first | refine fr_fX2_readValues_24_1  _ | refine fr_fX9_empty_1  _)
theorem fr_fX12_values_122_b73  : ∀ n a0 a1 μ, Fm aM μ (fX12_values_122_b73  n a0 a1 μ) := by
  intro n
  induction n with
  | zero =>
    intros
    exact fm_none
  | succ n ih =>
    intro a0 a1 μ
    rw [fX12_values_122_b73]
    with_reducible repeat' first | assumption | exact Fr.refl | refine fr_sI ?_ rfl | refine fr_sL ?_ rfl | refine fr_sC ?_ rfl | exact fm_none | refine fm_some ?_ | refine fm_gd ?_ | refine fm_ite ?_ ?_ | refine fm_ltm ?_ (fun _ _ => ?_) | refine fm_lt ?_ | intro _ _ _ _ _ _ _ _ _ _ | intro _ _ _ _ _ _ _ _ _ | intro _ _ _ _ _ _ _ _ | intro _ _ _ _ _ _ _ | intro _ _ _ _ _ _ | intro _ _ _ _ _ | intro _ _ _ _ | intro _ _ _ | intro _ _ | intro _ | (apply fm_bnd; first | exact ih _ _ _) | (apply fm_tl; first | exact ih _ _ _)
theorem fr_fX12_values_122_b31 {k15 : Int32 → Int32 → Mem → Option (Int32 × Mem)} (hk15 : ∀ x0 x1 m, Fm aM m (k15 x0 x1 m)) (p1 : Int32) (p2 : Int32) (μ : Mem) : Fm aM μ (fX12_values_122_b31 k15 p1 p2 μ) := by
  unfold fX12_values_122_b31
  with_reducible repeat' first | assumption | exact Fr.refl | refine fr_sI ?_ rfl | refine fr_sL ?_ rfl | refine fr_sC ?_ rfl | exact fm_none | refine fm_some ?_ | refine fm_gd ?_ | refine fm_ite ?_ ?_ | refine fm_ltm ?_ (fun _ _ => ?_) | refine fm_lt ?_ | intro _ _ _ _ _ _ _ _ _ _ | intro _ _ _ _ _ _ _ _ _ | intro _ _ _ _ _ _ _ _ | intro _ _ _ _ _ _ _ | intro _ _ _ _ _ _ | intro _ _ _ _ _ | intro _ _ _ _ | intro _ _ _ | intro _ _ | intro _ | (apply fm_bnd; first | refine fr_fX12_number_122  _ _ | exact hk15 _ _ _) | (apply fm_tl; first | refine fr_fX12_number_122  _ _ | exact hk15 _ _ _)
theorem fr_fX12_values_122_b15  : ∀ n a0 a1 μ, Fm aM μ (fX12_values_122_b15  n a0 a1 μ) := by
  intro n
  induction n with
  | zero =>
    intros
    exact fm_none
  | succ n ih =>
    intro a0 a1 μ
    rw [fX12_values_122_b15]
    with_reducible repeat' first | assumption | exact Fr.refl | refine fr_sI ?_ rfl | refine fr_sL ?_ rfl | refine fr_sC ?_ rfl | exact fm_none | refine fm_some ?_ | refine fm_gd ?_ | refine fm_ite ?_ ?_ | refine fm_ltm ?_ (fun _ _ => ?_) | refine fm_lt ?_ | intro _ _ _ _ _ _ _ _ _ _ | intro _ _ _ _ _ _ _ _ _ | intro _ _ _ _ _ _ _ _ | intro _ _ _ _ _ _ _ | intro _ _ _ _ _ _ | intro _ _ _ _ _ | intro _ _ _ _ | intro _ _ _ | intro _ _ | intro _ | (apply fm_bnd; first | exact ih _ _ _ | refine fr_fX12_values_122_b31 ?_ _ _ _ | refine fr_fX12_need_122  _ _ | refine fr_fX12_values_122_b73  _ _ _ _ | refine fr_fX12_wasRight_122  _) | (apply fm_tl; first | exact ih _ _ _ | refine fr_fX12_values_122_b31 ?_ _ _ _ | refine fr_fX12_need_122  _ _ | refine fr_fX12_values_122_b73  _ _ _ _ | refine fr_fX12_wasRight_122  _)
theorem fr_fX12_values_122   (μ : Mem) : Fm aM μ (fX12_values_122   μ) := by
  unfold fX12_values_122
  with_reducible repeat' first | assumption | exact Fr.refl | refine fr_sI ?_ rfl | refine fr_sL ?_ rfl | refine fr_sC ?_ rfl | exact fm_none | refine fm_some ?_ | refine fm_gd ?_ | refine fm_ite ?_ ?_ | refine fm_ltm ?_ (fun _ _ => ?_) | refine fm_lt ?_ | intro _ _ _ _ _ _ _ _ _ _ | intro _ _ _ _ _ _ _ _ _ | intro _ _ _ _ _ _ _ _ | intro _ _ _ _ _ _ _ | intro _ _ _ _ _ _ | intro _ _ _ _ _ | intro _ _ _ _ | intro _ _ _ | intro _ _ | intro _ | (apply fm_bnd; first | refine fr_fX12_beginText_122  _ _ | refine fr_fX12_values_122_b15  _ _ _ _) | (apply fm_tl; first | refine fr_fX12_beginText_122  _ _ | refine fr_fX12_values_122_b15  _ _ _ _)
theorem fr_fX4_hear_33_b2  : ∀ n a0 a1 μ, Fm aC μ (fX4_hear_33_b2  n a0 a1 μ) := by
  intro n
  induction n with
  | zero =>
    intros
    exact fm_none
  | succ n ih =>
    intro a0 a1 μ
    rw [fX4_hear_33_b2]
    with_reducible repeat' first | assumption | exact Fr.refl | refine fr_sI ?_ rfl | refine fr_sL ?_ rfl | refine fr_sC ?_ rfl | exact fm_none | refine fm_some ?_ | refine fm_gd ?_ | refine fm_ite ?_ ?_ | refine fm_ltm ?_ (fun _ _ => ?_) | refine fm_lt ?_ | intro _ _ _ _ _ _ _ _ _ _ | intro _ _ _ _ _ _ _ _ _ | intro _ _ _ _ _ _ _ _ | intro _ _ _ _ _ _ _ | intro _ _ _ _ _ _ | intro _ _ _ _ _ | intro _ _ _ _ | intro _ _ _ | intro _ _ | intro _ | (apply fm_bnd; first | exact ih _ _ _) | (apply fm_tl; first | exact ih _ _ _)
theorem fr_fX4_hear_33  (v1 : Int32) (v2 : Int32) (μ : Mem) : Fm aC μ (fX4_hear_33  v1 v2 μ) := by
  unfold fX4_hear_33
  with_reducible repeat' first | assumption | exact Fr.refl | refine fr_sI ?_ rfl | refine fr_sL ?_ rfl | refine fr_sC ?_ rfl | exact fm_none | refine fm_some ?_ | refine fm_gd ?_ | refine fm_ite ?_ ?_ | refine fm_ltm ?_ (fun _ _ => ?_) | refine fm_lt ?_ | intro _ _ _ _ _ _ _ _ _ _ | intro _ _ _ _ _ _ _ _ _ | intro _ _ _ _ _ _ _ _ | intro _ _ _ _ _ _ _ | intro _ _ _ _ _ _ | intro _ _ _ _ _ | intro _ _ _ _ | intro _ _ _ | intro _ _ | intro _ | (apply fm_bnd; first | refine fr_fX4_hear_33_b2  _ _ _ _) | (apply fm_tl; first | refine fr_fX4_hear_33_b2  _ _ _ _)
theorem fr_fX1_readsOne_11_1  (v2 : Int32) (μ : Mem) : Fm aC μ (fX1_readsOne_11_1  v2 μ) := by
  unfold fX1_readsOne_11_1
  with_reducible repeat' first | assumption | exact Fr.refl | refine fr_sI ?_ rfl | refine fr_sL ?_ rfl | refine fr_sC ?_ rfl | exact fm_none | refine fm_some ?_ | refine fm_gd ?_ | refine fm_ite ?_ ?_ | refine fm_ltm ?_ (fun _ _ => ?_) | refine fm_lt ?_ | intro _ _ _ _ _ _ _ _ _ _ | intro _ _ _ _ _ _ _ _ _ | intro _ _ _ _ _ _ _ _ | intro _ _ _ _ _ _ _ | intro _ _ _ _ _ _ | intro _ _ _ _ _ | intro _ _ _ _ | intro _ _ _ | intro _ _ | intro _ | (apply fm_bnd; first | refine fr_fX9_takes_1  _ _ | refine fr_fX9_digit_1  _ _ | refine fr_fX9_number_1  _ _) | (apply fm_tl; first | refine fr_fX9_takes_1  _ _ | refine fr_fX9_digit_1  _ _ | refine fr_fX9_number_1  _ _)
theorem fr_fX5_readAll_11_1_b16  : ∀ n a0 μ, Fm aC μ (fX5_readAll_11_1_b16  n a0 μ) := by
  intro n
  induction n with
  | zero =>
    intros
    exact fm_none
  | succ n ih =>
    intro a0 μ
    rw [fX5_readAll_11_1_b16]
    with_reducible repeat' first | assumption | exact Fr.refl | refine fr_sI ?_ rfl | refine fr_sL ?_ rfl | refine fr_sC ?_ rfl | exact fm_none | refine fm_some ?_ | refine fm_gd ?_ | refine fm_ite ?_ ?_ | refine fm_ltm ?_ (fun _ _ => ?_) | refine fm_lt ?_ | intro _ _ _ _ _ _ _ _ _ _ | intro _ _ _ _ _ _ _ _ _ | intro _ _ _ _ _ _ _ _ | intro _ _ _ _ _ _ _ | intro _ _ _ _ _ _ | intro _ _ _ _ _ | intro _ _ _ _ | intro _ _ _ | intro _ _ | intro _ | (apply fm_bnd; first | refine fr_fX9_wrong_1  _ | refine fr_fX9_takes_1  _ _ | exact ih _ _ | refine fr_fX1_readsOne_11_1  _ _ | refine fr_fX9_isRead_1  _) | (apply fm_tl; first | refine fr_fX9_wrong_1  _ | refine fr_fX9_takes_1  _ _ | exact ih _ _ | refine fr_fX1_readsOne_11_1  _ _ | refine fr_fX9_isRead_1  _)
theorem fr_fX5_readAll_11_1  (v2 : Int32) (μ : Mem) : Fm aC μ (fX5_readAll_11_1  v2 μ) := by
  unfold fX5_readAll_11_1
  with_reducible repeat' first | assumption | exact Fr.refl | refine fr_sI ?_ rfl | refine fr_sL ?_ rfl | refine fr_sC ?_ rfl | exact fm_none | refine fm_some ?_ | refine fm_gd ?_ | refine fm_ite ?_ ?_ | refine fm_ltm ?_ (fun _ _ => ?_) | refine fm_lt ?_ | intro _ _ _ _ _ _ _ _ _ _ | intro _ _ _ _ _ _ _ _ _ | intro _ _ _ _ _ _ _ _ | intro _ _ _ _ _ _ _ | intro _ _ _ _ _ _ | intro _ _ _ _ _ | intro _ _ _ _ | intro _ _ _ | intro _ _ | intro _ | (apply fm_bnd; first | refine fr_fX9_open_1  _ _ | refine fr_fX5_readAll_11_1_b16  _ _ _ | refine fr_fX9_isRead_1  _) | (apply fm_tl; first | refine fr_fX9_open_1  _ _ | refine fr_fX5_readAll_11_1_b16  _ _ _ | refine fr_fX9_isRead_1  _)
theorem fr_fX11_witnesses_0   (μ : Mem) : Fm aC μ (fX11_witnesses_0   μ) := by
  unfold fX11_witnesses_0
  with_reducible repeat' first | assumption | exact Fr.refl | refine fr_sI ?_ rfl | refine fr_sL ?_ rfl | refine fr_sC ?_ rfl | exact fm_none | refine fm_some ?_ | refine fm_gd ?_ | refine fm_ite ?_ ?_ | refine fm_ltm ?_ (fun _ _ => ?_) | refine fm_lt ?_ | intro _ _ _ _ _ _ _ _ _ _ | intro _ _ _ _ _ _ _ _ _ | intro _ _ _ _ _ _ _ _ | intro _ _ _ _ _ _ _ | intro _ _ _ _ _ _ | intro _ _ _ _ _ | intro _ _ _ _ | intro _ _ _ | intro _ _ | intro _ | (apply fm_bnd; first | refine fr_fX4_hear_33  _ _ _ | refine fr_fX9_empty_1  _ | refine fr_fX11_forgetWhatWas_0  _ | refine fr_fX5_readAll_11_1  _ _) | (apply fm_tl; first | refine fr_fX4_hear_33  _ _ _ | refine fr_fX9_empty_1  _ | refine fr_fX11_forgetWhatWas_0  _ | refine fr_fX5_readAll_11_1  _ _)
theorem fr_fX12_witnesses_122_b149  : ∀ n a0 a1 μ, Fm aM μ (fX12_witnesses_122_b149  n a0 a1 μ) := by
  intro n
  induction n with
  | zero =>
    intros
    exact fm_none
  | succ n ih =>
    intro a0 a1 μ
    rw [fX12_witnesses_122_b149]
    with_reducible repeat' first | assumption | exact Fr.refl | refine fr_sI ?_ rfl | refine fr_sL ?_ rfl | refine fr_sC ?_ rfl | exact fm_none | refine fm_some ?_ | refine fm_gd ?_ | refine fm_ite ?_ ?_ | refine fm_ltm ?_ (fun _ _ => ?_) | refine fm_lt ?_ | intro _ _ _ _ _ _ _ _ _ _ | intro _ _ _ _ _ _ _ _ _ | intro _ _ _ _ _ _ _ _ | intro _ _ _ _ _ _ _ | intro _ _ _ _ _ _ | intro _ _ _ _ _ | intro _ _ _ _ | intro _ _ _ | intro _ _ | intro _ | (apply fm_bnd; first | exact ih _ _ _) | (apply fm_tl; first | exact ih _ _ _)
theorem fr_fX12_witnesses_122_b133  (p1 : Int32) (μ : Mem) : Fm aM μ (fX12_witnesses_122_b133  p1 μ) := by
  unfold fX12_witnesses_122_b133
  with_reducible repeat' first | assumption | exact Fr.refl | refine fr_sI ?_ rfl | refine fr_sL ?_ rfl | refine fr_sC ?_ rfl | exact fm_none | refine fm_some ?_ | refine fm_gd ?_ | refine fm_ite ?_ ?_ | refine fm_ltm ?_ (fun _ _ => ?_) | refine fm_lt ?_ | intro _ _ _ _ _ _ _ _ _ _ | intro _ _ _ _ _ _ _ _ _ | intro _ _ _ _ _ _ _ _ | intro _ _ _ _ _ _ _ | intro _ _ _ _ _ _ | intro _ _ _ _ _ | intro _ _ _ _ | intro _ _ _ | intro _ _ | intro _ | (apply fm_bnd; first | refine fr_fX12_witnesses_122_b149  _ _ _ _ | refine fr_fX12_wasRight_122  _) | (apply fm_tl; first | refine fr_fX12_witnesses_122_b149  _ _ _ _ | refine fr_fX12_wasRight_122  _)
theorem fr_fX12_witnesses_122_b120 {k24 : Int32 → Int32 → Mem → Option (Int32 × Mem)} (hk24 : ∀ x0 x1 m, Fm aM m (k24 x0 x1 m)) (p1 : Int32) (μ : Mem) : Fm aM μ (fX12_witnesses_122_b120 k24 p1 μ) := by
  unfold fX12_witnesses_122_b120
  with_reducible repeat' first | assumption | exact Fr.refl | refine fr_sI ?_ rfl | refine fr_sL ?_ rfl | refine fr_sC ?_ rfl | exact fm_none | refine fm_some ?_ | refine fm_gd ?_ | refine fm_ite ?_ ?_ | refine fm_ltm ?_ (fun _ _ => ?_) | refine fm_lt ?_ | intro _ _ _ _ _ _ _ _ _ _ | intro _ _ _ _ _ _ _ _ _ | intro _ _ _ _ _ _ _ _ | intro _ _ _ _ _ _ _ | intro _ _ _ _ _ _ | intro _ _ _ _ _ | intro _ _ _ _ | intro _ _ _ | intro _ _ | intro _ | (apply fm_bnd; first | refine fr_fX12_passes_122  _ _ | exact hk24 _ _ _) | (apply fm_tl; first | refine fr_fX12_passes_122  _ _ | exact hk24 _ _ _)
theorem fr_fX12_witnesses_122_b24  : ∀ n a0 a1 μ, Fm aM μ (fX12_witnesses_122_b24  n a0 a1 μ) := by
  intro n
  induction n with
  | zero =>
    intros
    exact fm_none
  | succ n ih =>
    intro a0 a1 μ
    rw [fX12_witnesses_122_b24]
    with_reducible repeat' first | assumption | exact Fr.refl | refine fr_sI ?_ rfl | refine fr_sL ?_ rfl | refine fr_sC ?_ rfl | exact fm_none | refine fm_some ?_ | refine fm_gd ?_ | refine fm_ite ?_ ?_ | refine fm_ltm ?_ (fun _ _ => ?_) | refine fm_lt ?_ | intro _ _ _ _ _ _ _ _ _ _ | intro _ _ _ _ _ _ _ _ _ | intro _ _ _ _ _ _ _ _ | intro _ _ _ _ _ _ _ | intro _ _ _ _ _ _ | intro _ _ _ _ _ | intro _ _ _ _ | intro _ _ _ | intro _ _ | intro _ | (apply fm_bnd; first | refine fr_fX12_number_122  _ _ | exact ih _ _ _ | refine fr_fX12_fault_122  _ _ | refine fr_fX12_need_122  _ _ | refine fr_fX12_fine_122  _ | refine fr_fX12_witnesses_122_b133  _ _ | refine fr_fX12_witnesses_122_b120 ?_ _ _ | refine fr_fX12_oneOf_122  _ _ _) | (apply fm_tl; first | refine fr_fX12_number_122  _ _ | exact ih _ _ _ | refine fr_fX12_fault_122  _ _ | refine fr_fX12_need_122  _ _ | refine fr_fX12_fine_122  _ | refine fr_fX12_witnesses_122_b133  _ _ | refine fr_fX12_witnesses_122_b120 ?_ _ _ | refine fr_fX12_oneOf_122  _ _ _)
theorem fr_fX12_witnesses_122   (μ : Mem) : Fm aM μ (fX12_witnesses_122   μ) := by
  unfold fX12_witnesses_122
  with_reducible repeat' first | assumption | exact Fr.refl | refine fr_sI ?_ rfl | refine fr_sL ?_ rfl | refine fr_sC ?_ rfl | exact fm_none | refine fm_some ?_ | refine fm_gd ?_ | refine fm_ite ?_ ?_ | refine fm_ltm ?_ (fun _ _ => ?_) | refine fm_lt ?_ | intro _ _ _ _ _ _ _ _ _ _ | intro _ _ _ _ _ _ _ _ _ | intro _ _ _ _ _ _ _ _ | intro _ _ _ _ _ _ _ | intro _ _ _ _ _ _ | intro _ _ _ _ _ | intro _ _ _ _ | intro _ _ _ | intro _ _ | intro _ | (apply fm_bnd; first | refine fr_fX12_beginText_122  _ _ | refine fr_fX12_witnesses_122_b24  _ _ _ _) | (apply fm_tl; first | refine fr_fX12_beginText_122  _ _ | refine fr_fX12_witnesses_122_b24  _ _ _ _)
theorem fr_fX2_enact_24   (μ : Mem) : Fm aC μ (fX2_enact_24   μ) := by
  unfold fX2_enact_24
  with_reducible repeat' first | assumption | exact Fr.refl | refine fr_sI ?_ rfl | refine fr_sL ?_ rfl | refine fr_sC ?_ rfl | exact fm_none | refine fm_some ?_ | refine fm_gd ?_ | refine fm_ite ?_ ?_ | refine fm_ltm ?_ (fun _ _ => ?_) | refine fm_lt ?_ | intro _ _ _ _ _ _ _ _ _ _ | intro _ _ _ _ _ _ _ _ _ | intro _ _ _ _ _ _ _ _ | intro _ _ _ _ _ _ _ | intro _ _ _ _ _ _ | intro _ _ _ _ _ | intro _ _ _ _ | intro _ _ _ | intro _ _ | intro _
theorem fr_fJ0_isLatin1_aae02_s3 {A : Nat → Bool}   (μ : Mem) : Fm A μ (fJ0_isLatin1_aae02_s3   μ) := by
  unfold fJ0_isLatin1_aae02_s3
  with_reducible repeat' first | assumption | exact Fr.refl | refine fr_sI ?_ rfl | refine fr_sL ?_ rfl | refine fr_sC ?_ rfl | exact fm_none | refine fm_some ?_ | refine fm_gd ?_ | refine fm_ite ?_ ?_ | refine fm_ltm ?_ (fun _ _ => ?_) | refine fm_lt ?_ | intro _ _ _ _ _ _ _ _ _ _ | intro _ _ _ _ _ _ _ _ _ | intro _ _ _ _ _ _ _ _ | intro _ _ _ _ _ _ _ | intro _ _ _ _ _ _ | intro _ _ _ _ _ | intro _ _ _ _ | intro _ _ _ | intro _ _ | intro _
theorem fr_fJ0_coder_7d493_s3 {A : Nat → Bool}   (μ : Mem) : Fm A μ (fJ0_coder_7d493_s3   μ) := by
  unfold fJ0_coder_7d493_s3
  with_reducible repeat' first | assumption | exact Fr.refl | refine fr_sI ?_ rfl | refine fr_sL ?_ rfl | refine fr_sC ?_ rfl | exact fm_none | refine fm_some ?_ | refine fm_gd ?_ | refine fm_ite ?_ ?_ | refine fm_ltm ?_ (fun _ _ => ?_) | refine fm_lt ?_ | intro _ _ _ _ _ _ _ _ _ _ | intro _ _ _ _ _ _ _ _ _ | intro _ _ _ _ _ _ _ _ | intro _ _ _ _ _ _ _ | intro _ _ _ _ _ _ | intro _ _ _ _ _ | intro _ _ _ _ | intro _ _ _ | intro _ _ | intro _
theorem fr_fJ0_length_8abf5_s3 {A : Nat → Bool}   (μ : Mem) : Fm A μ (fJ0_length_8abf5_s3   μ) := by
  unfold fJ0_length_8abf5_s3
  with_reducible repeat' first | assumption | exact Fr.refl | refine fr_sI ?_ rfl | refine fr_sL ?_ rfl | refine fr_sC ?_ rfl | exact fm_none | refine fm_some ?_ | refine fm_gd ?_ | refine fm_ite ?_ ?_ | refine fm_ltm ?_ (fun _ _ => ?_) | refine fm_lt ?_ | intro _ _ _ _ _ _ _ _ _ _ | intro _ _ _ _ _ _ _ _ _ | intro _ _ _ _ _ _ _ _ | intro _ _ _ _ _ _ _ | intro _ _ _ _ _ _ | intro _ _ _ _ _ | intro _ _ _ _ | intro _ _ _ | intro _ _ | intro _ | (apply fm_bnd; first | refine fr_fJ0_coder_7d493_s3  _) | (apply fm_tl; first | refine fr_fJ0_coder_7d493_s3  _)
theorem fr_fJ1_indexOfChar_4cfef_v3_b7 {A : Nat → Bool}  : ∀ n a0 a1 a2 μ, Fm A μ (fJ1_indexOfChar_4cfef_v3_b7  n a0 a1 a2 μ) := by
  intro n
  induction n with
  | zero =>
    intros
    exact fm_none
  | succ n ih =>
    intro a0 a1 a2 μ
    rw [fJ1_indexOfChar_4cfef_v3_b7]
    with_reducible repeat' first | assumption | exact Fr.refl | refine fr_sI ?_ rfl | refine fr_sL ?_ rfl | refine fr_sC ?_ rfl | exact fm_none | refine fm_some ?_ | refine fm_gd ?_ | refine fm_ite ?_ ?_ | refine fm_ltm ?_ (fun _ _ => ?_) | refine fm_lt ?_ | intro _ _ _ _ _ _ _ _ _ _ | intro _ _ _ _ _ _ _ _ _ | intro _ _ _ _ _ _ _ _ | intro _ _ _ _ _ _ _ | intro _ _ _ _ _ _ | intro _ _ _ _ _ | intro _ _ _ _ | intro _ _ _ | intro _ _ | intro _ | (apply fm_bnd; first | exact ih _ _ _ _) | (apply fm_tl; first | exact ih _ _ _ _)
theorem fr_fJ1_indexOfChar_4cfef_v3 {A : Nat → Bool}  (v1 : Int32) (v2 : Int32) (v3 : Int32) (μ : Mem) : Fm A μ (fJ1_indexOfChar_4cfef_v3  v1 v2 v3 μ) := by
  unfold fJ1_indexOfChar_4cfef_v3
  with_reducible repeat' first | assumption | exact Fr.refl | refine fr_sI ?_ rfl | refine fr_sL ?_ rfl | refine fr_sC ?_ rfl | exact fm_none | refine fm_some ?_ | refine fm_gd ?_ | refine fm_ite ?_ ?_ | refine fm_ltm ?_ (fun _ _ => ?_) | refine fm_lt ?_ | intro _ _ _ _ _ _ _ _ _ _ | intro _ _ _ _ _ _ _ _ _ | intro _ _ _ _ _ _ _ _ | intro _ _ _ _ _ _ _ | intro _ _ _ _ _ _ | intro _ _ _ _ _ | intro _ _ _ _ | intro _ _ _ | intro _ _ | intro _ | (apply fm_bnd; first | refine fr_fJ1_indexOfChar_4cfef_v3_b7  _ _ _ _ _) | (apply fm_tl; first | refine fr_fJ1_indexOfChar_4cfef_v3_b7  _ _ _ _ _)
theorem fr_fJ1_indexOf_4cfef_v3 {A : Nat → Bool}  (v1 : Int32) (v2 : Int32) (v3 : Int32) (μ : Mem) : Fm A μ (fJ1_indexOf_4cfef_v3  v1 v2 v3 μ) := by
  unfold fJ1_indexOf_4cfef_v3
  with_reducible repeat' first | assumption | exact Fr.refl | refine fr_sI ?_ rfl | refine fr_sL ?_ rfl | refine fr_sC ?_ rfl | exact fm_none | refine fm_some ?_ | refine fm_gd ?_ | refine fm_ite ?_ ?_ | refine fm_ltm ?_ (fun _ _ => ?_) | refine fm_lt ?_ | intro _ _ _ _ _ _ _ _ _ _ | intro _ _ _ _ _ _ _ _ _ | intro _ _ _ _ _ _ _ _ | intro _ _ _ _ _ _ _ | intro _ _ _ _ _ _ | intro _ _ _ _ _ | intro _ _ _ _ | intro _ _ _ | intro _ _ | intro _ | (apply fm_bnd; first | refine fr_fJ1_canEncode_9a6ad  _ _ | refine fr_fJ1_indexOfChar_4cfef_v3  _ _ _ _) | (apply fm_tl; first | refine fr_fJ1_canEncode_9a6ad  _ _ | refine fr_fJ1_indexOfChar_4cfef_v3  _ _ _ _)
theorem fr_fJ0_indexOf_7cf53_s3 {A : Nat → Bool}  (v1 : Int32) (v2 : Int32) (μ : Mem) : Fm A μ (fJ0_indexOf_7cf53_s3  v1 v2 μ) := by
  unfold fJ0_indexOf_7cf53_s3
  with_reducible repeat' first | assumption | exact Fr.refl | refine fr_sI ?_ rfl | refine fr_sL ?_ rfl | refine fr_sC ?_ rfl | exact fm_none | refine fm_some ?_ | refine fm_gd ?_ | refine fm_ite ?_ ?_ | refine fm_ltm ?_ (fun _ _ => ?_) | refine fm_lt ?_ | intro _ _ _ _ _ _ _ _ _ _ | intro _ _ _ _ _ _ _ _ _ | intro _ _ _ _ _ _ _ _ | intro _ _ _ _ _ _ _ | intro _ _ _ _ _ _ | intro _ _ _ _ _ | intro _ _ _ _ | intro _ _ _ | intro _ _ | intro _ | (apply fm_bnd; first | refine fr_fJ0_isLatin1_aae02_s3  _ | refine fr_fJ0_length_8abf5_s3  _ | refine fr_fJ1_indexOf_4cfef_v3  _ _ _ _) | (apply fm_tl; first | refine fr_fJ0_isLatin1_aae02_s3  _ | refine fr_fJ0_length_8abf5_s3  _ | refine fr_fJ1_indexOf_4cfef_v3  _ _ _ _)
theorem fr_fJ0_indexOf_0f7a4_s3 {A : Nat → Bool}  (v1 : Int32) (μ : Mem) : Fm A μ (fJ0_indexOf_0f7a4_s3  v1 μ) := by
  unfold fJ0_indexOf_0f7a4_s3
  with_reducible repeat' first | assumption | exact Fr.refl | refine fr_sI ?_ rfl | refine fr_sL ?_ rfl | refine fr_sC ?_ rfl | exact fm_none | refine fm_some ?_ | refine fm_gd ?_ | refine fm_ite ?_ ?_ | refine fm_ltm ?_ (fun _ _ => ?_) | refine fm_lt ?_ | intro _ _ _ _ _ _ _ _ _ _ | intro _ _ _ _ _ _ _ _ _ | intro _ _ _ _ _ _ _ _ | intro _ _ _ _ _ _ _ | intro _ _ _ _ _ _ | intro _ _ _ _ _ | intro _ _ _ _ | intro _ _ _ | intro _ _ | intro _ | (apply fm_bnd; first | refine fr_fJ0_indexOf_7cf53_s3  _ _ _) | (apply fm_tl; first | refine fr_fJ0_indexOf_7cf53_s3  _ _ _)
theorem fr_fX9_takesOneOf_1_s3   (μ : Mem) : Fm aC μ (fX9_takesOneOf_1_s3   μ) := by
  unfold fX9_takesOneOf_1_s3
  with_reducible repeat' first | assumption | exact Fr.refl | refine fr_sI ?_ rfl | refine fr_sL ?_ rfl | refine fr_sC ?_ rfl | exact fm_none | refine fm_some ?_ | refine fm_gd ?_ | refine fm_ite ?_ ?_ | refine fm_ltm ?_ (fun _ _ => ?_) | refine fm_lt ?_ | intro _ _ _ _ _ _ _ _ _ _ | intro _ _ _ _ _ _ _ _ _ | intro _ _ _ _ _ _ _ _ | intro _ _ _ _ _ _ _ | intro _ _ _ _ _ _ | intro _ _ _ _ _ | intro _ _ _ _ | intro _ _ _ | intro _ _ | intro _ | (apply fm_bnd; first | refine fr_fJ0_indexOf_0f7a4_s3  _ _) | (apply fm_tl; first | refine fr_fJ0_indexOf_0f7a4_s3  _ _)
theorem fr_fX2_readLaw_24_1_b10  : ∀ n a0 a1 μ, Fm aC μ (fX2_readLaw_24_1_b10  n a0 a1 μ) := by
  intro n
  induction n with
  | zero =>
    intros
    exact fm_none
  | succ n ih =>
    intro a0 a1 μ
    rw [fX2_readLaw_24_1_b10]
    with_reducible repeat' first | assumption | exact Fr.refl | refine fr_sI ?_ rfl | refine fr_sL ?_ rfl | refine fr_sC ?_ rfl | exact fm_none | refine fm_some ?_ | refine fm_gd ?_ | refine fm_ite ?_ ?_ | refine fm_ltm ?_ (fun _ _ => ?_) | refine fm_lt ?_ | intro _ _ _ _ _ _ _ _ _ _ | intro _ _ _ _ _ _ _ _ _ | intro _ _ _ _ _ _ _ _ | intro _ _ _ _ _ _ _ | intro _ _ _ _ _ _ | intro _ _ _ _ _ | intro _ _ _ _ | intro _ _ _ | intro _ _ | intro _ | (apply fm_bnd; first | refine fr_fX9_wrong_1  _ | exact ih _ _ _ | refine fr_fX9_takesOneOf_1_s3  _ | refine fr_fX9_isRead_1  _) | (apply fm_tl; first | refine fr_fX9_wrong_1  _ | exact ih _ _ _ | refine fr_fX9_takesOneOf_1_s3  _ | refine fr_fX9_isRead_1  _)
theorem fr_fX2_readLaw_24_1   (μ : Mem) : Fm aC μ (fX2_readLaw_24_1   μ) := by
  unfold fX2_readLaw_24_1
  with_reducible repeat' first | assumption | exact Fr.refl | refine fr_sI ?_ rfl | refine fr_sL ?_ rfl | refine fr_sC ?_ rfl | exact fm_none | refine fm_some ?_ | refine fm_gd ?_ | refine fm_ite ?_ ?_ | refine fm_ltm ?_ (fun _ _ => ?_) | refine fm_lt ?_ | intro _ _ _ _ _ _ _ _ _ _ | intro _ _ _ _ _ _ _ _ _ | intro _ _ _ _ _ _ _ _ | intro _ _ _ _ _ _ _ | intro _ _ _ _ _ _ | intro _ _ _ _ _ | intro _ _ _ _ | intro _ _ _ | intro _ _ | intro _ | (apply fm_bnd; first | refine fr_fX2_readLaw_24_1_b10  _ _ _ _ | refine fr_fX9_open_1  _ _) | (apply fm_tl; first | refine fr_fX2_readLaw_24_1_b10  _ _ _ _ | refine fr_fX9_open_1  _ _)
theorem fr_fX11_law_0   (μ : Mem) : Fm aC μ (fX11_law_0   μ) := by
  unfold fX11_law_0
  with_reducible repeat' first | assumption | exact Fr.refl | refine fr_sI ?_ rfl | refine fr_sL ?_ rfl | refine fr_sC ?_ rfl | exact fm_none | refine fm_some ?_ | refine fm_gd ?_ | refine fm_ite ?_ ?_ | refine fm_ltm ?_ (fun _ _ => ?_) | refine fm_lt ?_ | intro _ _ _ _ _ _ _ _ _ _ | intro _ _ _ _ _ _ _ _ _ | intro _ _ _ _ _ _ _ _ | intro _ _ _ _ _ _ _ | intro _ _ _ _ _ _ | intro _ _ _ _ _ | intro _ _ _ _ | intro _ _ _ | intro _ _ | intro _ | (apply fm_bnd; first | refine fr_fX9_empty_1  _ | refine fr_fX2_readLaw_24_1  _ | refine fr_fX2_enact_24  _) | (apply fm_tl; first | refine fr_fX9_empty_1  _ | refine fr_fX2_readLaw_24_1  _ | refine fr_fX2_enact_24  _)
theorem fr_fX12_whoseBy {A : Nat → Bool}  (v0 : Int32) (μ : Mem) : Fm A μ (fX12_whoseBy  v0 μ) := by
  unfold fX12_whoseBy
  with_reducible repeat' first | assumption | exact Fr.refl | refine fr_sI ?_ rfl | refine fr_sL ?_ rfl | refine fr_sC ?_ rfl | exact fm_none | refine fm_some ?_ | refine fm_gd ?_ | refine fm_ite ?_ ?_ | refine fm_ltm ?_ (fun _ _ => ?_) | refine fm_lt ?_ | intro _ _ _ _ _ _ _ _ _ _ | intro _ _ _ _ _ _ _ _ _ | intro _ _ _ _ _ _ _ _ | intro _ _ _ _ _ _ _ | intro _ _ _ _ _ _ | intro _ _ _ _ _ | intro _ _ _ _ | intro _ _ _ | intro _ _ | intro _
theorem fr_fX12_readLaw_122_b70   (μ : Mem) : Fm aM μ (fX12_readLaw_122_b70   μ) := by
  unfold fX12_readLaw_122_b70
  with_reducible repeat' first | assumption | exact Fr.refl | refine fr_sI ?_ rfl | refine fr_sL ?_ rfl | refine fr_sC ?_ rfl | exact fm_none | refine fm_some ?_ | refine fm_gd ?_ | refine fm_ite ?_ ?_ | refine fm_ltm ?_ (fun _ _ => ?_) | refine fm_lt ?_ | intro _ _ _ _ _ _ _ _ _ _ | intro _ _ _ _ _ _ _ _ _ | intro _ _ _ _ _ _ _ _ | intro _ _ _ _ _ _ _ | intro _ _ _ _ _ _ | intro _ _ _ _ _ | intro _ _ _ _ | intro _ _ _ | intro _ _ | intro _ | (apply fm_bnd; first | refine fr_fX12_wasRight_122  _) | (apply fm_tl; first | refine fr_fX12_wasRight_122  _)
theorem fr_fX12_readLaw_122_b8  : ∀ n a0 μ, Fm aM μ (fX12_readLaw_122_b8  n a0 μ) := by
  intro n
  induction n with
  | zero =>
    intros
    exact fm_none
  | succ n ih =>
    intro a0 μ
    rw [fX12_readLaw_122_b8]
    with_reducible repeat' first | assumption | exact Fr.refl | refine fr_sI ?_ rfl | refine fr_sL ?_ rfl | refine fr_sC ?_ rfl | exact fm_none | refine fm_some ?_ | refine fm_gd ?_ | refine fm_ite ?_ ?_ | refine fm_ltm ?_ (fun _ _ => ?_) | refine fm_lt ?_ | intro _ _ _ _ _ _ _ _ _ _ | intro _ _ _ _ _ _ _ _ _ | intro _ _ _ _ _ _ _ _ | intro _ _ _ _ _ _ _ | intro _ _ _ _ _ _ | intro _ _ _ _ _ | intro _ _ _ _ | intro _ _ _ | intro _ _ | intro _ | (apply fm_bnd; first | refine fr_fX12_readLaw_122_b70  _ | refine fr_fX12_here_122  _ | refine fr_fX12_fault_122  _ _ | exact ih _ _ | refine fr_fX12_fine_122  _ | refine fr_fX12_whoseBy  _ _) | (apply fm_tl; first | refine fr_fX12_readLaw_122_b70  _ | refine fr_fX12_here_122  _ | refine fr_fX12_fault_122  _ _ | exact ih _ _ | refine fr_fX12_fine_122  _ | refine fr_fX12_whoseBy  _ _)
theorem fr_fX12_readLaw_122   (μ : Mem) : Fm aM μ (fX12_readLaw_122   μ) := by
  unfold fX12_readLaw_122
  with_reducible repeat' first | assumption | exact Fr.refl | refine fr_sI ?_ rfl | refine fr_sL ?_ rfl | refine fr_sC ?_ rfl | exact fm_none | refine fm_some ?_ | refine fm_gd ?_ | refine fm_ite ?_ ?_ | refine fm_ltm ?_ (fun _ _ => ?_) | refine fm_lt ?_ | intro _ _ _ _ _ _ _ _ _ _ | intro _ _ _ _ _ _ _ _ _ | intro _ _ _ _ _ _ _ _ | intro _ _ _ _ _ _ _ | intro _ _ _ _ _ _ | intro _ _ _ _ _ | intro _ _ _ _ | intro _ _ _ | intro _ _ | intro _ | (apply fm_bnd; first | refine fr_fX12_beginText_122  _ _ | refine fr_fX12_readLaw_122_b8  _ _ _) | (apply fm_tl; first | refine fr_fX12_beginText_122  _ _ | refine fr_fX12_readLaw_122_b8  _ _ _)
theorem fr_fX12_law_122_b23  : ∀ n a0 a1 μ, Fm aM μ (fX12_law_122_b23  n a0 a1 μ) := by
  intro n
  induction n with
  | zero =>
    intros
    exact fm_none
  | succ n ih =>
    intro a0 a1 μ
    rw [fX12_law_122_b23]
    with_reducible repeat' first | assumption | exact Fr.refl | refine fr_sI ?_ rfl | refine fr_sL ?_ rfl | refine fr_sC ?_ rfl | exact fm_none | refine fm_some ?_ | refine fm_gd ?_ | refine fm_ite ?_ ?_ | refine fm_ltm ?_ (fun _ _ => ?_) | refine fm_lt ?_ | intro _ _ _ _ _ _ _ _ _ _ | intro _ _ _ _ _ _ _ _ _ | intro _ _ _ _ _ _ _ _ | intro _ _ _ _ _ _ _ | intro _ _ _ _ _ _ | intro _ _ _ _ _ | intro _ _ _ _ | intro _ _ _ | intro _ _ | intro _ | (apply fm_bnd; first | exact ih _ _ _) | (apply fm_tl; first | exact ih _ _ _)
theorem fr_fX12_law_122   (μ : Mem) : Fm aM μ (fX12_law_122   μ) := by
  unfold fX12_law_122
  with_reducible repeat' first | assumption | exact Fr.refl | refine fr_sI ?_ rfl | refine fr_sL ?_ rfl | refine fr_sC ?_ rfl | exact fm_none | refine fm_some ?_ | refine fm_gd ?_ | refine fm_ite ?_ ?_ | refine fm_ltm ?_ (fun _ _ => ?_) | refine fm_lt ?_ | intro _ _ _ _ _ _ _ _ _ _ | intro _ _ _ _ _ _ _ _ _ | intro _ _ _ _ _ _ _ _ | intro _ _ _ _ _ _ _ | intro _ _ _ _ _ _ | intro _ _ _ _ _ | intro _ _ _ _ | intro _ _ _ | intro _ _ | intro _ | (apply fm_bnd; first | refine fr_fX12_law_122_b23  _ _ _ _ | refine fr_fX12_readLaw_122  _) | (apply fm_tl; first | refine fr_fX12_law_122_b23  _ _ _ _ | refine fr_fX12_readLaw_122  _)
theorem fr_fX8_drafts_19  (v1 : Int32) (μ : Mem) : Fm aC μ (fX8_drafts_19  v1 μ) := by
  unfold fX8_drafts_19
  with_reducible repeat' first | assumption | exact Fr.refl | refine fr_sI ?_ rfl | refine fr_sL ?_ rfl | refine fr_sC ?_ rfl | exact fm_none | refine fm_some ?_ | refine fm_gd ?_ | refine fm_ite ?_ ?_ | refine fm_ltm ?_ (fun _ _ => ?_) | refine fm_lt ?_ | intro _ _ _ _ _ _ _ _ _ _ | intro _ _ _ _ _ _ _ _ _ | intro _ _ _ _ _ _ _ _ | intro _ _ _ _ _ _ _ | intro _ _ _ _ _ _ | intro _ _ _ _ _ | intro _ _ _ _ | intro _ _ _ | intro _ _ | intro _
theorem fr_fJ0_isLatin1_aae02_s0 {A : Nat → Bool}   (μ : Mem) : Fm A μ (fJ0_isLatin1_aae02_s0   μ) := by
  unfold fJ0_isLatin1_aae02_s0
  with_reducible repeat' first | assumption | exact Fr.refl | refine fr_sI ?_ rfl | refine fr_sL ?_ rfl | refine fr_sC ?_ rfl | exact fm_none | refine fm_some ?_ | refine fm_gd ?_ | refine fm_ite ?_ ?_ | refine fm_ltm ?_ (fun _ _ => ?_) | refine fm_lt ?_ | intro _ _ _ _ _ _ _ _ _ _ | intro _ _ _ _ _ _ _ _ _ | intro _ _ _ _ _ _ _ _ | intro _ _ _ _ _ _ _ | intro _ _ _ _ _ _ | intro _ _ _ _ _ | intro _ _ _ _ | intro _ _ _ | intro _ _ | intro _
theorem fr_fJ0_coder_7d493_s0 {A : Nat → Bool}   (μ : Mem) : Fm A μ (fJ0_coder_7d493_s0   μ) := by
  unfold fJ0_coder_7d493_s0
  with_reducible repeat' first | assumption | exact Fr.refl | refine fr_sI ?_ rfl | refine fr_sL ?_ rfl | refine fr_sC ?_ rfl | exact fm_none | refine fm_some ?_ | refine fm_gd ?_ | refine fm_ite ?_ ?_ | refine fm_ltm ?_ (fun _ _ => ?_) | refine fm_lt ?_ | intro _ _ _ _ _ _ _ _ _ _ | intro _ _ _ _ _ _ _ _ _ | intro _ _ _ _ _ _ _ _ | intro _ _ _ _ _ _ _ | intro _ _ _ _ _ _ | intro _ _ _ _ _ | intro _ _ _ _ | intro _ _ _ | intro _ _ | intro _
theorem fr_fJ0_length_8abf5_s0 {A : Nat → Bool}   (μ : Mem) : Fm A μ (fJ0_length_8abf5_s0   μ) := by
  unfold fJ0_length_8abf5_s0
  with_reducible repeat' first | assumption | exact Fr.refl | refine fr_sI ?_ rfl | refine fr_sL ?_ rfl | refine fr_sC ?_ rfl | exact fm_none | refine fm_some ?_ | refine fm_gd ?_ | refine fm_ite ?_ ?_ | refine fm_ltm ?_ (fun _ _ => ?_) | refine fm_lt ?_ | intro _ _ _ _ _ _ _ _ _ _ | intro _ _ _ _ _ _ _ _ _ | intro _ _ _ _ _ _ _ _ | intro _ _ _ _ _ _ _ | intro _ _ _ _ _ _ | intro _ _ _ _ _ | intro _ _ _ _ | intro _ _ _ | intro _ _ | intro _ | (apply fm_bnd; first | refine fr_fJ0_coder_7d493_s0  _) | (apply fm_tl; first | refine fr_fJ0_coder_7d493_s0  _)
theorem fr_fJ1_indexOfChar_4cfef_v0_b7 {A : Nat → Bool}  : ∀ n a0 a1 a2 μ, Fm A μ (fJ1_indexOfChar_4cfef_v0_b7  n a0 a1 a2 μ) := by
  intro n
  induction n with
  | zero =>
    intros
    exact fm_none
  | succ n ih =>
    intro a0 a1 a2 μ
    rw [fJ1_indexOfChar_4cfef_v0_b7]
    with_reducible repeat' first | assumption | exact Fr.refl | refine fr_sI ?_ rfl | refine fr_sL ?_ rfl | refine fr_sC ?_ rfl | exact fm_none | refine fm_some ?_ | refine fm_gd ?_ | refine fm_ite ?_ ?_ | refine fm_ltm ?_ (fun _ _ => ?_) | refine fm_lt ?_ | intro _ _ _ _ _ _ _ _ _ _ | intro _ _ _ _ _ _ _ _ _ | intro _ _ _ _ _ _ _ _ | intro _ _ _ _ _ _ _ | intro _ _ _ _ _ _ | intro _ _ _ _ _ | intro _ _ _ _ | intro _ _ _ | intro _ _ | intro _ | (apply fm_bnd; first | exact ih _ _ _ _) | (apply fm_tl; first | exact ih _ _ _ _)
theorem fr_fJ1_indexOfChar_4cfef_v0 {A : Nat → Bool}  (v1 : Int32) (v2 : Int32) (v3 : Int32) (μ : Mem) : Fm A μ (fJ1_indexOfChar_4cfef_v0  v1 v2 v3 μ) := by
  unfold fJ1_indexOfChar_4cfef_v0
  with_reducible repeat' first | assumption | exact Fr.refl | refine fr_sI ?_ rfl | refine fr_sL ?_ rfl | refine fr_sC ?_ rfl | exact fm_none | refine fm_some ?_ | refine fm_gd ?_ | refine fm_ite ?_ ?_ | refine fm_ltm ?_ (fun _ _ => ?_) | refine fm_lt ?_ | intro _ _ _ _ _ _ _ _ _ _ | intro _ _ _ _ _ _ _ _ _ | intro _ _ _ _ _ _ _ _ | intro _ _ _ _ _ _ _ | intro _ _ _ _ _ _ | intro _ _ _ _ _ | intro _ _ _ _ | intro _ _ _ | intro _ _ | intro _ | (apply fm_bnd; first | refine fr_fJ1_indexOfChar_4cfef_v0_b7  _ _ _ _ _) | (apply fm_tl; first | refine fr_fJ1_indexOfChar_4cfef_v0_b7  _ _ _ _ _)
theorem fr_fJ1_indexOf_4cfef_v0 {A : Nat → Bool}  (v1 : Int32) (v2 : Int32) (v3 : Int32) (μ : Mem) : Fm A μ (fJ1_indexOf_4cfef_v0  v1 v2 v3 μ) := by
  unfold fJ1_indexOf_4cfef_v0
  with_reducible repeat' first | assumption | exact Fr.refl | refine fr_sI ?_ rfl | refine fr_sL ?_ rfl | refine fr_sC ?_ rfl | exact fm_none | refine fm_some ?_ | refine fm_gd ?_ | refine fm_ite ?_ ?_ | refine fm_ltm ?_ (fun _ _ => ?_) | refine fm_lt ?_ | intro _ _ _ _ _ _ _ _ _ _ | intro _ _ _ _ _ _ _ _ _ | intro _ _ _ _ _ _ _ _ | intro _ _ _ _ _ _ _ | intro _ _ _ _ _ _ | intro _ _ _ _ _ | intro _ _ _ _ | intro _ _ _ | intro _ _ | intro _ | (apply fm_bnd; first | refine fr_fJ1_canEncode_9a6ad  _ _ | refine fr_fJ1_indexOfChar_4cfef_v0  _ _ _ _) | (apply fm_tl; first | refine fr_fJ1_canEncode_9a6ad  _ _ | refine fr_fJ1_indexOfChar_4cfef_v0  _ _ _ _)
theorem fr_fJ0_indexOf_7cf53_s0 {A : Nat → Bool}  (v1 : Int32) (v2 : Int32) (μ : Mem) : Fm A μ (fJ0_indexOf_7cf53_s0  v1 v2 μ) := by
  unfold fJ0_indexOf_7cf53_s0
  with_reducible repeat' first | assumption | exact Fr.refl | refine fr_sI ?_ rfl | refine fr_sL ?_ rfl | refine fr_sC ?_ rfl | exact fm_none | refine fm_some ?_ | refine fm_gd ?_ | refine fm_ite ?_ ?_ | refine fm_ltm ?_ (fun _ _ => ?_) | refine fm_lt ?_ | intro _ _ _ _ _ _ _ _ _ _ | intro _ _ _ _ _ _ _ _ _ | intro _ _ _ _ _ _ _ _ | intro _ _ _ _ _ _ _ | intro _ _ _ _ _ _ | intro _ _ _ _ _ | intro _ _ _ _ | intro _ _ _ | intro _ _ | intro _ | (apply fm_bnd; first | refine fr_fJ0_isLatin1_aae02_s0  _ | refine fr_fJ0_length_8abf5_s0  _ | refine fr_fJ1_indexOf_4cfef_v0  _ _ _ _) | (apply fm_tl; first | refine fr_fJ0_isLatin1_aae02_s0  _ | refine fr_fJ0_length_8abf5_s0  _ | refine fr_fJ1_indexOf_4cfef_v0  _ _ _ _)
theorem fr_fJ0_indexOf_0f7a4_s0 {A : Nat → Bool}  (v1 : Int32) (μ : Mem) : Fm A μ (fJ0_indexOf_0f7a4_s0  v1 μ) := by
  unfold fJ0_indexOf_0f7a4_s0
  with_reducible repeat' first | assumption | exact Fr.refl | refine fr_sI ?_ rfl | refine fr_sL ?_ rfl | refine fr_sC ?_ rfl | exact fm_none | refine fm_some ?_ | refine fm_gd ?_ | refine fm_ite ?_ ?_ | refine fm_ltm ?_ (fun _ _ => ?_) | refine fm_lt ?_ | intro _ _ _ _ _ _ _ _ _ _ | intro _ _ _ _ _ _ _ _ _ | intro _ _ _ _ _ _ _ _ | intro _ _ _ _ _ _ _ | intro _ _ _ _ _ _ | intro _ _ _ _ _ | intro _ _ _ _ | intro _ _ _ | intro _ _ | intro _ | (apply fm_bnd; first | refine fr_fJ0_indexOf_7cf53_s0  _ _ _) | (apply fm_tl; first | refine fr_fJ0_indexOf_7cf53_s0  _ _ _)
theorem fr_fX9_takesOneOf_1_s0   (μ : Mem) : Fm aC μ (fX9_takesOneOf_1_s0   μ) := by
  unfold fX9_takesOneOf_1_s0
  with_reducible repeat' first | assumption | exact Fr.refl | refine fr_sI ?_ rfl | refine fr_sL ?_ rfl | refine fr_sC ?_ rfl | exact fm_none | refine fm_some ?_ | refine fm_gd ?_ | refine fm_ite ?_ ?_ | refine fm_ltm ?_ (fun _ _ => ?_) | refine fm_lt ?_ | intro _ _ _ _ _ _ _ _ _ _ | intro _ _ _ _ _ _ _ _ _ | intro _ _ _ _ _ _ _ _ | intro _ _ _ _ _ _ _ | intro _ _ _ _ _ _ | intro _ _ _ _ _ | intro _ _ _ _ | intro _ _ _ | intro _ _ | intro _ | (apply fm_bnd; first | refine fr_fJ0_indexOf_0f7a4_s0  _ _) | (apply fm_tl; first | refine fr_fJ0_indexOf_0f7a4_s0  _ _)
theorem fr_fJ0_isLatin1_aae02_s4 {A : Nat → Bool}   (μ : Mem) : Fm A μ (fJ0_isLatin1_aae02_s4   μ) := by
  unfold fJ0_isLatin1_aae02_s4
  with_reducible repeat' first | assumption | exact Fr.refl | refine fr_sI ?_ rfl | refine fr_sL ?_ rfl | refine fr_sC ?_ rfl | exact fm_none | refine fm_some ?_ | refine fm_gd ?_ | refine fm_ite ?_ ?_ | refine fm_ltm ?_ (fun _ _ => ?_) | refine fm_lt ?_ | intro _ _ _ _ _ _ _ _ _ _ | intro _ _ _ _ _ _ _ _ _ | intro _ _ _ _ _ _ _ _ | intro _ _ _ _ _ _ _ | intro _ _ _ _ _ _ | intro _ _ _ _ _ | intro _ _ _ _ | intro _ _ _ | intro _ _ | intro _
theorem fr_fJ0_coder_7d493_s4 {A : Nat → Bool}   (μ : Mem) : Fm A μ (fJ0_coder_7d493_s4   μ) := by
  unfold fJ0_coder_7d493_s4
  with_reducible repeat' first | assumption | exact Fr.refl | refine fr_sI ?_ rfl | refine fr_sL ?_ rfl | refine fr_sC ?_ rfl | exact fm_none | refine fm_some ?_ | refine fm_gd ?_ | refine fm_ite ?_ ?_ | refine fm_ltm ?_ (fun _ _ => ?_) | refine fm_lt ?_ | intro _ _ _ _ _ _ _ _ _ _ | intro _ _ _ _ _ _ _ _ _ | intro _ _ _ _ _ _ _ _ | intro _ _ _ _ _ _ _ | intro _ _ _ _ _ _ | intro _ _ _ _ _ | intro _ _ _ _ | intro _ _ _ | intro _ _ | intro _
theorem fr_fJ0_length_8abf5_s4 {A : Nat → Bool}   (μ : Mem) : Fm A μ (fJ0_length_8abf5_s4   μ) := by
  unfold fJ0_length_8abf5_s4
  with_reducible repeat' first | assumption | exact Fr.refl | refine fr_sI ?_ rfl | refine fr_sL ?_ rfl | refine fr_sC ?_ rfl | exact fm_none | refine fm_some ?_ | refine fm_gd ?_ | refine fm_ite ?_ ?_ | refine fm_ltm ?_ (fun _ _ => ?_) | refine fm_lt ?_ | intro _ _ _ _ _ _ _ _ _ _ | intro _ _ _ _ _ _ _ _ _ | intro _ _ _ _ _ _ _ _ | intro _ _ _ _ _ _ _ | intro _ _ _ _ _ _ | intro _ _ _ _ _ | intro _ _ _ _ | intro _ _ _ | intro _ _ | intro _ | (apply fm_bnd; first | refine fr_fJ0_coder_7d493_s4  _) | (apply fm_tl; first | refine fr_fJ0_coder_7d493_s4  _)
theorem fr_fJ1_indexOfChar_4cfef_v4_b7 {A : Nat → Bool}  : ∀ n a0 a1 a2 μ, Fm A μ (fJ1_indexOfChar_4cfef_v4_b7  n a0 a1 a2 μ) := by
  intro n
  induction n with
  | zero =>
    intros
    exact fm_none
  | succ n ih =>
    intro a0 a1 a2 μ
    rw [fJ1_indexOfChar_4cfef_v4_b7]
    with_reducible repeat' first | assumption | exact Fr.refl | refine fr_sI ?_ rfl | refine fr_sL ?_ rfl | refine fr_sC ?_ rfl | exact fm_none | refine fm_some ?_ | refine fm_gd ?_ | refine fm_ite ?_ ?_ | refine fm_ltm ?_ (fun _ _ => ?_) | refine fm_lt ?_ | intro _ _ _ _ _ _ _ _ _ _ | intro _ _ _ _ _ _ _ _ _ | intro _ _ _ _ _ _ _ _ | intro _ _ _ _ _ _ _ | intro _ _ _ _ _ _ | intro _ _ _ _ _ | intro _ _ _ _ | intro _ _ _ | intro _ _ | intro _ | (apply fm_bnd; first | exact ih _ _ _ _) | (apply fm_tl; first | exact ih _ _ _ _)
theorem fr_fJ1_indexOfChar_4cfef_v4 {A : Nat → Bool}  (v1 : Int32) (v2 : Int32) (v3 : Int32) (μ : Mem) : Fm A μ (fJ1_indexOfChar_4cfef_v4  v1 v2 v3 μ) := by
  unfold fJ1_indexOfChar_4cfef_v4
  with_reducible repeat' first | assumption | exact Fr.refl | refine fr_sI ?_ rfl | refine fr_sL ?_ rfl | refine fr_sC ?_ rfl | exact fm_none | refine fm_some ?_ | refine fm_gd ?_ | refine fm_ite ?_ ?_ | refine fm_ltm ?_ (fun _ _ => ?_) | refine fm_lt ?_ | intro _ _ _ _ _ _ _ _ _ _ | intro _ _ _ _ _ _ _ _ _ | intro _ _ _ _ _ _ _ _ | intro _ _ _ _ _ _ _ | intro _ _ _ _ _ _ | intro _ _ _ _ _ | intro _ _ _ _ | intro _ _ _ | intro _ _ | intro _ | (apply fm_bnd; first | refine fr_fJ1_indexOfChar_4cfef_v4_b7  _ _ _ _ _) | (apply fm_tl; first | refine fr_fJ1_indexOfChar_4cfef_v4_b7  _ _ _ _ _)
theorem fr_fJ1_indexOf_4cfef_v4 {A : Nat → Bool}  (v1 : Int32) (v2 : Int32) (v3 : Int32) (μ : Mem) : Fm A μ (fJ1_indexOf_4cfef_v4  v1 v2 v3 μ) := by
  unfold fJ1_indexOf_4cfef_v4
  with_reducible repeat' first | assumption | exact Fr.refl | refine fr_sI ?_ rfl | refine fr_sL ?_ rfl | refine fr_sC ?_ rfl | exact fm_none | refine fm_some ?_ | refine fm_gd ?_ | refine fm_ite ?_ ?_ | refine fm_ltm ?_ (fun _ _ => ?_) | refine fm_lt ?_ | intro _ _ _ _ _ _ _ _ _ _ | intro _ _ _ _ _ _ _ _ _ | intro _ _ _ _ _ _ _ _ | intro _ _ _ _ _ _ _ | intro _ _ _ _ _ _ | intro _ _ _ _ _ | intro _ _ _ _ | intro _ _ _ | intro _ _ | intro _ | (apply fm_bnd; first | refine fr_fJ1_canEncode_9a6ad  _ _ | refine fr_fJ1_indexOfChar_4cfef_v4  _ _ _ _) | (apply fm_tl; first | refine fr_fJ1_canEncode_9a6ad  _ _ | refine fr_fJ1_indexOfChar_4cfef_v4  _ _ _ _)
theorem fr_fJ0_indexOf_7cf53_s4 {A : Nat → Bool}  (v1 : Int32) (v2 : Int32) (μ : Mem) : Fm A μ (fJ0_indexOf_7cf53_s4  v1 v2 μ) := by
  unfold fJ0_indexOf_7cf53_s4
  with_reducible repeat' first | assumption | exact Fr.refl | refine fr_sI ?_ rfl | refine fr_sL ?_ rfl | refine fr_sC ?_ rfl | exact fm_none | refine fm_some ?_ | refine fm_gd ?_ | refine fm_ite ?_ ?_ | refine fm_ltm ?_ (fun _ _ => ?_) | refine fm_lt ?_ | intro _ _ _ _ _ _ _ _ _ _ | intro _ _ _ _ _ _ _ _ _ | intro _ _ _ _ _ _ _ _ | intro _ _ _ _ _ _ _ | intro _ _ _ _ _ _ | intro _ _ _ _ _ | intro _ _ _ _ | intro _ _ _ | intro _ _ | intro _ | (apply fm_bnd; first | refine fr_fJ1_indexOf_4cfef_v4  _ _ _ _ | refine fr_fJ0_length_8abf5_s4  _ | refine fr_fJ0_isLatin1_aae02_s4  _) | (apply fm_tl; first | refine fr_fJ1_indexOf_4cfef_v4  _ _ _ _ | refine fr_fJ0_length_8abf5_s4  _ | refine fr_fJ0_isLatin1_aae02_s4  _)
theorem fr_fJ0_indexOf_0f7a4_s4 {A : Nat → Bool}  (v1 : Int32) (μ : Mem) : Fm A μ (fJ0_indexOf_0f7a4_s4  v1 μ) := by
  unfold fJ0_indexOf_0f7a4_s4
  with_reducible repeat' first | assumption | exact Fr.refl | refine fr_sI ?_ rfl | refine fr_sL ?_ rfl | refine fr_sC ?_ rfl | exact fm_none | refine fm_some ?_ | refine fm_gd ?_ | refine fm_ite ?_ ?_ | refine fm_ltm ?_ (fun _ _ => ?_) | refine fm_lt ?_ | intro _ _ _ _ _ _ _ _ _ _ | intro _ _ _ _ _ _ _ _ _ | intro _ _ _ _ _ _ _ _ | intro _ _ _ _ _ _ _ | intro _ _ _ _ _ _ | intro _ _ _ _ _ | intro _ _ _ _ | intro _ _ _ | intro _ _ | intro _ | (apply fm_bnd; first | refine fr_fJ0_indexOf_7cf53_s4  _ _ _) | (apply fm_tl; first | refine fr_fJ0_indexOf_7cf53_s4  _ _ _)
theorem fr_fX9_takesOneOf_1_s4   (μ : Mem) : Fm aC μ (fX9_takesOneOf_1_s4   μ) := by
  unfold fX9_takesOneOf_1_s4
  with_reducible repeat' first | assumption | exact Fr.refl | refine fr_sI ?_ rfl | refine fr_sL ?_ rfl | refine fr_sC ?_ rfl | exact fm_none | refine fm_some ?_ | refine fm_gd ?_ | refine fm_ite ?_ ?_ | refine fm_ltm ?_ (fun _ _ => ?_) | refine fm_lt ?_ | intro _ _ _ _ _ _ _ _ _ _ | intro _ _ _ _ _ _ _ _ _ | intro _ _ _ _ _ _ _ _ | intro _ _ _ _ _ _ _ | intro _ _ _ _ _ _ | intro _ _ _ _ _ | intro _ _ _ _ | intro _ _ _ | intro _ _ | intro _ | (apply fm_bnd; first | refine fr_fJ0_indexOf_0f7a4_s4  _ _) | (apply fm_tl; first | refine fr_fJ0_indexOf_0f7a4_s4  _ _)
theorem fr_fJ0_isLatin1_aae02_s5 {A : Nat → Bool}   (μ : Mem) : Fm A μ (fJ0_isLatin1_aae02_s5   μ) := by
  unfold fJ0_isLatin1_aae02_s5
  with_reducible repeat' first | assumption | exact Fr.refl | refine fr_sI ?_ rfl | refine fr_sL ?_ rfl | refine fr_sC ?_ rfl | exact fm_none | refine fm_some ?_ | refine fm_gd ?_ | refine fm_ite ?_ ?_ | refine fm_ltm ?_ (fun _ _ => ?_) | refine fm_lt ?_ | intro _ _ _ _ _ _ _ _ _ _ | intro _ _ _ _ _ _ _ _ _ | intro _ _ _ _ _ _ _ _ | intro _ _ _ _ _ _ _ | intro _ _ _ _ _ _ | intro _ _ _ _ _ | intro _ _ _ _ | intro _ _ _ | intro _ _ | intro _
theorem fr_fJ0_coder_7d493_s5 {A : Nat → Bool}   (μ : Mem) : Fm A μ (fJ0_coder_7d493_s5   μ) := by
  unfold fJ0_coder_7d493_s5
  with_reducible repeat' first | assumption | exact Fr.refl | refine fr_sI ?_ rfl | refine fr_sL ?_ rfl | refine fr_sC ?_ rfl | exact fm_none | refine fm_some ?_ | refine fm_gd ?_ | refine fm_ite ?_ ?_ | refine fm_ltm ?_ (fun _ _ => ?_) | refine fm_lt ?_ | intro _ _ _ _ _ _ _ _ _ _ | intro _ _ _ _ _ _ _ _ _ | intro _ _ _ _ _ _ _ _ | intro _ _ _ _ _ _ _ | intro _ _ _ _ _ _ | intro _ _ _ _ _ | intro _ _ _ _ | intro _ _ _ | intro _ _ | intro _
theorem fr_fJ0_length_8abf5_s5 {A : Nat → Bool}   (μ : Mem) : Fm A μ (fJ0_length_8abf5_s5   μ) := by
  unfold fJ0_length_8abf5_s5
  with_reducible repeat' first | assumption | exact Fr.refl | refine fr_sI ?_ rfl | refine fr_sL ?_ rfl | refine fr_sC ?_ rfl | exact fm_none | refine fm_some ?_ | refine fm_gd ?_ | refine fm_ite ?_ ?_ | refine fm_ltm ?_ (fun _ _ => ?_) | refine fm_lt ?_ | intro _ _ _ _ _ _ _ _ _ _ | intro _ _ _ _ _ _ _ _ _ | intro _ _ _ _ _ _ _ _ | intro _ _ _ _ _ _ _ | intro _ _ _ _ _ _ | intro _ _ _ _ _ | intro _ _ _ _ | intro _ _ _ | intro _ _ | intro _ | (apply fm_bnd; first | refine fr_fJ0_coder_7d493_s5  _) | (apply fm_tl; first | refine fr_fJ0_coder_7d493_s5  _)
theorem fr_fJ1_indexOfChar_4cfef_v5_b7 {A : Nat → Bool}  : ∀ n a0 a1 a2 μ, Fm A μ (fJ1_indexOfChar_4cfef_v5_b7  n a0 a1 a2 μ) := by
  intro n
  induction n with
  | zero =>
    intros
    exact fm_none
  | succ n ih =>
    intro a0 a1 a2 μ
    rw [fJ1_indexOfChar_4cfef_v5_b7]
    with_reducible repeat' first | assumption | exact Fr.refl | refine fr_sI ?_ rfl | refine fr_sL ?_ rfl | refine fr_sC ?_ rfl | exact fm_none | refine fm_some ?_ | refine fm_gd ?_ | refine fm_ite ?_ ?_ | refine fm_ltm ?_ (fun _ _ => ?_) | refine fm_lt ?_ | intro _ _ _ _ _ _ _ _ _ _ | intro _ _ _ _ _ _ _ _ _ | intro _ _ _ _ _ _ _ _ | intro _ _ _ _ _ _ _ | intro _ _ _ _ _ _ | intro _ _ _ _ _ | intro _ _ _ _ | intro _ _ _ | intro _ _ | intro _ | (apply fm_bnd; first | exact ih _ _ _ _) | (apply fm_tl; first | exact ih _ _ _ _)
theorem fr_fJ1_indexOfChar_4cfef_v5 {A : Nat → Bool}  (v1 : Int32) (v2 : Int32) (v3 : Int32) (μ : Mem) : Fm A μ (fJ1_indexOfChar_4cfef_v5  v1 v2 v3 μ) := by
  unfold fJ1_indexOfChar_4cfef_v5
  with_reducible repeat' first | assumption | exact Fr.refl | refine fr_sI ?_ rfl | refine fr_sL ?_ rfl | refine fr_sC ?_ rfl | exact fm_none | refine fm_some ?_ | refine fm_gd ?_ | refine fm_ite ?_ ?_ | refine fm_ltm ?_ (fun _ _ => ?_) | refine fm_lt ?_ | intro _ _ _ _ _ _ _ _ _ _ | intro _ _ _ _ _ _ _ _ _ | intro _ _ _ _ _ _ _ _ | intro _ _ _ _ _ _ _ | intro _ _ _ _ _ _ | intro _ _ _ _ _ | intro _ _ _ _ | intro _ _ _ | intro _ _ | intro _ | (apply fm_bnd; first | refine fr_fJ1_indexOfChar_4cfef_v5_b7  _ _ _ _ _) | (apply fm_tl; first | refine fr_fJ1_indexOfChar_4cfef_v5_b7  _ _ _ _ _)
theorem fr_fJ1_indexOf_4cfef_v5 {A : Nat → Bool}  (v1 : Int32) (v2 : Int32) (v3 : Int32) (μ : Mem) : Fm A μ (fJ1_indexOf_4cfef_v5  v1 v2 v3 μ) := by
  unfold fJ1_indexOf_4cfef_v5
  with_reducible repeat' first | assumption | exact Fr.refl | refine fr_sI ?_ rfl | refine fr_sL ?_ rfl | refine fr_sC ?_ rfl | exact fm_none | refine fm_some ?_ | refine fm_gd ?_ | refine fm_ite ?_ ?_ | refine fm_ltm ?_ (fun _ _ => ?_) | refine fm_lt ?_ | intro _ _ _ _ _ _ _ _ _ _ | intro _ _ _ _ _ _ _ _ _ | intro _ _ _ _ _ _ _ _ | intro _ _ _ _ _ _ _ | intro _ _ _ _ _ _ | intro _ _ _ _ _ | intro _ _ _ _ | intro _ _ _ | intro _ _ | intro _ | (apply fm_bnd; first | refine fr_fJ1_canEncode_9a6ad  _ _ | refine fr_fJ1_indexOfChar_4cfef_v5  _ _ _ _) | (apply fm_tl; first | refine fr_fJ1_canEncode_9a6ad  _ _ | refine fr_fJ1_indexOfChar_4cfef_v5  _ _ _ _)
theorem fr_fJ0_indexOf_7cf53_s5 {A : Nat → Bool}  (v1 : Int32) (v2 : Int32) (μ : Mem) : Fm A μ (fJ0_indexOf_7cf53_s5  v1 v2 μ) := by
  unfold fJ0_indexOf_7cf53_s5
  with_reducible repeat' first | assumption | exact Fr.refl | refine fr_sI ?_ rfl | refine fr_sL ?_ rfl | refine fr_sC ?_ rfl | exact fm_none | refine fm_some ?_ | refine fm_gd ?_ | refine fm_ite ?_ ?_ | refine fm_ltm ?_ (fun _ _ => ?_) | refine fm_lt ?_ | intro _ _ _ _ _ _ _ _ _ _ | intro _ _ _ _ _ _ _ _ _ | intro _ _ _ _ _ _ _ _ | intro _ _ _ _ _ _ _ | intro _ _ _ _ _ _ | intro _ _ _ _ _ | intro _ _ _ _ | intro _ _ _ | intro _ _ | intro _ | (apply fm_bnd; first | refine fr_fJ1_indexOf_4cfef_v5  _ _ _ _ | refine fr_fJ0_isLatin1_aae02_s5  _ | refine fr_fJ0_length_8abf5_s5  _) | (apply fm_tl; first | refine fr_fJ1_indexOf_4cfef_v5  _ _ _ _ | refine fr_fJ0_isLatin1_aae02_s5  _ | refine fr_fJ0_length_8abf5_s5  _)
theorem fr_fJ0_indexOf_0f7a4_s5 {A : Nat → Bool}  (v1 : Int32) (μ : Mem) : Fm A μ (fJ0_indexOf_0f7a4_s5  v1 μ) := by
  unfold fJ0_indexOf_0f7a4_s5
  with_reducible repeat' first | assumption | exact Fr.refl | refine fr_sI ?_ rfl | refine fr_sL ?_ rfl | refine fr_sC ?_ rfl | exact fm_none | refine fm_some ?_ | refine fm_gd ?_ | refine fm_ite ?_ ?_ | refine fm_ltm ?_ (fun _ _ => ?_) | refine fm_lt ?_ | intro _ _ _ _ _ _ _ _ _ _ | intro _ _ _ _ _ _ _ _ _ | intro _ _ _ _ _ _ _ _ | intro _ _ _ _ _ _ _ | intro _ _ _ _ _ _ | intro _ _ _ _ _ | intro _ _ _ _ | intro _ _ _ | intro _ _ | intro _ | (apply fm_bnd; first | refine fr_fJ0_indexOf_7cf53_s5  _ _ _) | (apply fm_tl; first | refine fr_fJ0_indexOf_7cf53_s5  _ _ _)
theorem fr_fX9_takesOneOf_1_s5   (μ : Mem) : Fm aC μ (fX9_takesOneOf_1_s5   μ) := by
  unfold fX9_takesOneOf_1_s5
  with_reducible repeat' first | assumption | exact Fr.refl | refine fr_sI ?_ rfl | refine fr_sL ?_ rfl | refine fr_sC ?_ rfl | exact fm_none | refine fm_some ?_ | refine fm_gd ?_ | refine fm_ite ?_ ?_ | refine fm_ltm ?_ (fun _ _ => ?_) | refine fm_lt ?_ | intro _ _ _ _ _ _ _ _ _ _ | intro _ _ _ _ _ _ _ _ _ | intro _ _ _ _ _ _ _ _ | intro _ _ _ _ _ _ _ | intro _ _ _ _ _ _ | intro _ _ _ _ _ | intro _ _ _ _ | intro _ _ _ | intro _ _ | intro _ | (apply fm_bnd; first | refine fr_fJ0_indexOf_0f7a4_s5  _ _) | (apply fm_tl; first | refine fr_fJ0_indexOf_0f7a4_s5  _ _)
theorem fr_fJ0_isLatin1_aae02_s6 {A : Nat → Bool}   (μ : Mem) : Fm A μ (fJ0_isLatin1_aae02_s6   μ) := by
  unfold fJ0_isLatin1_aae02_s6
  with_reducible repeat' first | assumption | exact Fr.refl | refine fr_sI ?_ rfl | refine fr_sL ?_ rfl | refine fr_sC ?_ rfl | exact fm_none | refine fm_some ?_ | refine fm_gd ?_ | refine fm_ite ?_ ?_ | refine fm_ltm ?_ (fun _ _ => ?_) | refine fm_lt ?_ | intro _ _ _ _ _ _ _ _ _ _ | intro _ _ _ _ _ _ _ _ _ | intro _ _ _ _ _ _ _ _ | intro _ _ _ _ _ _ _ | intro _ _ _ _ _ _ | intro _ _ _ _ _ | intro _ _ _ _ | intro _ _ _ | intro _ _ | intro _
theorem fr_fJ0_coder_7d493_s6 {A : Nat → Bool}   (μ : Mem) : Fm A μ (fJ0_coder_7d493_s6   μ) := by
  unfold fJ0_coder_7d493_s6
  with_reducible repeat' first | assumption | exact Fr.refl | refine fr_sI ?_ rfl | refine fr_sL ?_ rfl | refine fr_sC ?_ rfl | exact fm_none | refine fm_some ?_ | refine fm_gd ?_ | refine fm_ite ?_ ?_ | refine fm_ltm ?_ (fun _ _ => ?_) | refine fm_lt ?_ | intro _ _ _ _ _ _ _ _ _ _ | intro _ _ _ _ _ _ _ _ _ | intro _ _ _ _ _ _ _ _ | intro _ _ _ _ _ _ _ | intro _ _ _ _ _ _ | intro _ _ _ _ _ | intro _ _ _ _ | intro _ _ _ | intro _ _ | intro _
theorem fr_fJ0_length_8abf5_s6 {A : Nat → Bool}   (μ : Mem) : Fm A μ (fJ0_length_8abf5_s6   μ) := by
  unfold fJ0_length_8abf5_s6
  with_reducible repeat' first | assumption | exact Fr.refl | refine fr_sI ?_ rfl | refine fr_sL ?_ rfl | refine fr_sC ?_ rfl | exact fm_none | refine fm_some ?_ | refine fm_gd ?_ | refine fm_ite ?_ ?_ | refine fm_ltm ?_ (fun _ _ => ?_) | refine fm_lt ?_ | intro _ _ _ _ _ _ _ _ _ _ | intro _ _ _ _ _ _ _ _ _ | intro _ _ _ _ _ _ _ _ | intro _ _ _ _ _ _ _ | intro _ _ _ _ _ _ | intro _ _ _ _ _ | intro _ _ _ _ | intro _ _ _ | intro _ _ | intro _ | (apply fm_bnd; first | refine fr_fJ0_coder_7d493_s6  _) | (apply fm_tl; first | refine fr_fJ0_coder_7d493_s6  _)
theorem fr_fJ1_indexOfChar_4cfef_v6_b7 {A : Nat → Bool}  : ∀ n a0 a1 a2 μ, Fm A μ (fJ1_indexOfChar_4cfef_v6_b7  n a0 a1 a2 μ) := by
  intro n
  induction n with
  | zero =>
    intros
    exact fm_none
  | succ n ih =>
    intro a0 a1 a2 μ
    rw [fJ1_indexOfChar_4cfef_v6_b7]
    with_reducible repeat' first | assumption | exact Fr.refl | refine fr_sI ?_ rfl | refine fr_sL ?_ rfl | refine fr_sC ?_ rfl | exact fm_none | refine fm_some ?_ | refine fm_gd ?_ | refine fm_ite ?_ ?_ | refine fm_ltm ?_ (fun _ _ => ?_) | refine fm_lt ?_ | intro _ _ _ _ _ _ _ _ _ _ | intro _ _ _ _ _ _ _ _ _ | intro _ _ _ _ _ _ _ _ | intro _ _ _ _ _ _ _ | intro _ _ _ _ _ _ | intro _ _ _ _ _ | intro _ _ _ _ | intro _ _ _ | intro _ _ | intro _ | (apply fm_bnd; first | exact ih _ _ _ _) | (apply fm_tl; first | exact ih _ _ _ _)
theorem fr_fJ1_indexOfChar_4cfef_v6 {A : Nat → Bool}  (v1 : Int32) (v2 : Int32) (v3 : Int32) (μ : Mem) : Fm A μ (fJ1_indexOfChar_4cfef_v6  v1 v2 v3 μ) := by
  unfold fJ1_indexOfChar_4cfef_v6
  with_reducible repeat' first | assumption | exact Fr.refl | refine fr_sI ?_ rfl | refine fr_sL ?_ rfl | refine fr_sC ?_ rfl | exact fm_none | refine fm_some ?_ | refine fm_gd ?_ | refine fm_ite ?_ ?_ | refine fm_ltm ?_ (fun _ _ => ?_) | refine fm_lt ?_ | intro _ _ _ _ _ _ _ _ _ _ | intro _ _ _ _ _ _ _ _ _ | intro _ _ _ _ _ _ _ _ | intro _ _ _ _ _ _ _ | intro _ _ _ _ _ _ | intro _ _ _ _ _ | intro _ _ _ _ | intro _ _ _ | intro _ _ | intro _ | (apply fm_bnd; first | refine fr_fJ1_indexOfChar_4cfef_v6_b7  _ _ _ _ _) | (apply fm_tl; first | refine fr_fJ1_indexOfChar_4cfef_v6_b7  _ _ _ _ _)
theorem fr_fJ1_indexOf_4cfef_v6 {A : Nat → Bool}  (v1 : Int32) (v2 : Int32) (v3 : Int32) (μ : Mem) : Fm A μ (fJ1_indexOf_4cfef_v6  v1 v2 v3 μ) := by
  unfold fJ1_indexOf_4cfef_v6
  with_reducible repeat' first | assumption | exact Fr.refl | refine fr_sI ?_ rfl | refine fr_sL ?_ rfl | refine fr_sC ?_ rfl | exact fm_none | refine fm_some ?_ | refine fm_gd ?_ | refine fm_ite ?_ ?_ | refine fm_ltm ?_ (fun _ _ => ?_) | refine fm_lt ?_ | intro _ _ _ _ _ _ _ _ _ _ | intro _ _ _ _ _ _ _ _ _ | intro _ _ _ _ _ _ _ _ | intro _ _ _ _ _ _ _ | intro _ _ _ _ _ _ | intro _ _ _ _ _ | intro _ _ _ _ | intro _ _ _ | intro _ _ | intro _ | (apply fm_bnd; first | refine fr_fJ1_canEncode_9a6ad  _ _ | refine fr_fJ1_indexOfChar_4cfef_v6  _ _ _ _) | (apply fm_tl; first | refine fr_fJ1_canEncode_9a6ad  _ _ | refine fr_fJ1_indexOfChar_4cfef_v6  _ _ _ _)
theorem fr_fJ0_indexOf_7cf53_s6 {A : Nat → Bool}  (v1 : Int32) (v2 : Int32) (μ : Mem) : Fm A μ (fJ0_indexOf_7cf53_s6  v1 v2 μ) := by
  unfold fJ0_indexOf_7cf53_s6
  with_reducible repeat' first | assumption | exact Fr.refl | refine fr_sI ?_ rfl | refine fr_sL ?_ rfl | refine fr_sC ?_ rfl | exact fm_none | refine fm_some ?_ | refine fm_gd ?_ | refine fm_ite ?_ ?_ | refine fm_ltm ?_ (fun _ _ => ?_) | refine fm_lt ?_ | intro _ _ _ _ _ _ _ _ _ _ | intro _ _ _ _ _ _ _ _ _ | intro _ _ _ _ _ _ _ _ | intro _ _ _ _ _ _ _ | intro _ _ _ _ _ _ | intro _ _ _ _ _ | intro _ _ _ _ | intro _ _ _ | intro _ _ | intro _ | (apply fm_bnd; first | refine fr_fJ0_isLatin1_aae02_s6  _ | refine fr_fJ0_length_8abf5_s6  _ | refine fr_fJ1_indexOf_4cfef_v6  _ _ _ _) | (apply fm_tl; first | refine fr_fJ0_isLatin1_aae02_s6  _ | refine fr_fJ0_length_8abf5_s6  _ | refine fr_fJ1_indexOf_4cfef_v6  _ _ _ _)
theorem fr_fJ0_indexOf_0f7a4_s6 {A : Nat → Bool}  (v1 : Int32) (μ : Mem) : Fm A μ (fJ0_indexOf_0f7a4_s6  v1 μ) := by
  unfold fJ0_indexOf_0f7a4_s6
  with_reducible repeat' first | assumption | exact Fr.refl | refine fr_sI ?_ rfl | refine fr_sL ?_ rfl | refine fr_sC ?_ rfl | exact fm_none | refine fm_some ?_ | refine fm_gd ?_ | refine fm_ite ?_ ?_ | refine fm_ltm ?_ (fun _ _ => ?_) | refine fm_lt ?_ | intro _ _ _ _ _ _ _ _ _ _ | intro _ _ _ _ _ _ _ _ _ | intro _ _ _ _ _ _ _ _ | intro _ _ _ _ _ _ _ | intro _ _ _ _ _ _ | intro _ _ _ _ _ | intro _ _ _ _ | intro _ _ _ | intro _ _ | intro _ | (apply fm_bnd; first | refine fr_fJ0_indexOf_7cf53_s6  _ _ _) | (apply fm_tl; first | refine fr_fJ0_indexOf_7cf53_s6  _ _ _)
theorem fr_fX9_takesOneOf_1_s6   (μ : Mem) : Fm aC μ (fX9_takesOneOf_1_s6   μ) := by
  unfold fX9_takesOneOf_1_s6
  with_reducible repeat' first | assumption | exact Fr.refl | refine fr_sI ?_ rfl | refine fr_sL ?_ rfl | refine fr_sC ?_ rfl | exact fm_none | refine fm_some ?_ | refine fm_gd ?_ | refine fm_ite ?_ ?_ | refine fm_ltm ?_ (fun _ _ => ?_) | refine fm_lt ?_ | intro _ _ _ _ _ _ _ _ _ _ | intro _ _ _ _ _ _ _ _ _ | intro _ _ _ _ _ _ _ _ | intro _ _ _ _ _ _ _ | intro _ _ _ _ _ _ | intro _ _ _ _ _ | intro _ _ _ _ | intro _ _ _ | intro _ _ | intro _ | (apply fm_bnd; first | refine fr_fJ0_indexOf_0f7a4_s6  _ _) | (apply fm_tl; first | refine fr_fJ0_indexOf_0f7a4_s6  _ _)
theorem fr_fX8_readsSigned_19_1_b34 {rc : Int32 → Mem → Option (Int32 × Mem)} (hrc : ∀ x0 m, Fm aC m (rc x0 m)) : ∀ n a0 a1 a2 μ, Fm aC μ (fX8_readsSigned_19_1_b34 rc n a0 a1 a2 μ) := by
  intro n
  induction n with
  | zero =>
    intros
    exact fm_none
  | succ n ih =>
    intro a0 a1 a2 μ
    rw [fX8_readsSigned_19_1_b34]
    with_reducible repeat' first | assumption | exact Fr.refl | refine fr_sI ?_ rfl | refine fr_sL ?_ rfl | refine fr_sC ?_ rfl | exact fm_none | refine fm_some ?_ | refine fm_gd ?_ | refine fm_ite ?_ ?_ | refine fm_ltm ?_ (fun _ _ => ?_) | refine fm_lt ?_ | intro _ _ _ _ _ _ _ _ _ _ | intro _ _ _ _ _ _ _ _ _ | intro _ _ _ _ _ _ _ _ | intro _ _ _ _ _ _ _ | intro _ _ _ _ _ _ | intro _ _ _ _ _ | intro _ _ _ _ | intro _ _ _ | intro _ _ | intro _ | (apply fm_bnd; first | refine fr_fX8_drafts_19  _ _ | exact ih _ _ _ _ | exact hrc _ _) | (apply fm_tl; first | refine fr_fX8_drafts_19  _ _ | exact ih _ _ _ _ | exact hrc _ _)
theorem fr_fX8_readsSigned_19_1_b23 {rc : Int32 → Mem → Option (Int32 × Mem)} (hrc : ∀ x0 m, Fm aC m (rc x0 m)) (p2 : Int32) (p3 : Int32) (μ : Mem) : Fm aC μ (fX8_readsSigned_19_1_b23 rc p2 p3 μ) := by
  unfold fX8_readsSigned_19_1_b23
  with_reducible repeat' first | assumption | exact Fr.refl | refine fr_sI ?_ rfl | refine fr_sL ?_ rfl | refine fr_sC ?_ rfl | exact fm_none | refine fm_some ?_ | refine fm_gd ?_ | refine fm_ite ?_ ?_ | refine fm_ltm ?_ (fun _ _ => ?_) | refine fm_lt ?_ | intro _ _ _ _ _ _ _ _ _ _ | intro _ _ _ _ _ _ _ _ _ | intro _ _ _ _ _ _ _ _ | intro _ _ _ _ _ _ _ | intro _ _ _ _ _ _ | intro _ _ _ _ _ | intro _ _ _ _ | intro _ _ _ | intro _ _ | intro _ | (apply fm_bnd; first | refine fr_fX8_readsSigned_19_1_b34 ?_ _ _ _ _ _ | exact hrc _ _) | (apply fm_tl; first | refine fr_fX8_readsSigned_19_1_b34 ?_ _ _ _ _ _ | exact hrc _ _)
theorem fr_fX8_readsSigned_19_1_b2 {rc : Int32 → Mem → Option (Int32 × Mem)} (hrc : ∀ x0 m, Fm aC m (rc x0 m)) : ∀ n a0 a1 μ, Fm aC μ (fX8_readsSigned_19_1_b2 rc n a0 a1 μ) := by
  intro n
  induction n with
  | zero =>
    intros
    exact fm_none
  | succ n ih =>
    intro a0 a1 μ
    rw [fX8_readsSigned_19_1_b2]
    with_reducible repeat' first | assumption | exact Fr.refl | refine fr_sI ?_ rfl | refine fr_sL ?_ rfl | refine fr_sC ?_ rfl | exact fm_none | refine fm_some ?_ | refine fm_gd ?_ | refine fm_ite ?_ ?_ | refine fm_ltm ?_ (fun _ _ => ?_) | refine fm_lt ?_ | intro _ _ _ _ _ _ _ _ _ _ | intro _ _ _ _ _ _ _ _ _ | intro _ _ _ _ _ _ _ _ | intro _ _ _ _ _ _ _ | intro _ _ _ _ _ _ | intro _ _ _ _ _ | intro _ _ _ _ | intro _ _ _ | intro _ _ | intro _ | (apply fm_bnd; first | refine fr_fX9_takes_1  _ _ | refine fr_fX8_readsSigned_19_1_b23 ?_ _ _ _ | exact ih _ _ _ | exact hrc _ _) | (apply fm_tl; first | refine fr_fX9_takes_1  _ _ | refine fr_fX8_readsSigned_19_1_b23 ?_ _ _ _ | exact ih _ _ _ | exact hrc _ _)
theorem fr_fX8_readsSigned_19_1 {rc : Int32 → Mem → Option (Int32 × Mem)} (hrc : ∀ x0 m, Fm aC m (rc x0 m)) (v2 : Int32) (μ : Mem) : Fm aC μ (fX8_readsSigned_19_1 rc v2 μ) := by
  unfold fX8_readsSigned_19_1
  with_reducible repeat' first | assumption | exact Fr.refl | refine fr_sI ?_ rfl | refine fr_sL ?_ rfl | refine fr_sC ?_ rfl | exact fm_none | refine fm_some ?_ | refine fm_gd ?_ | refine fm_ite ?_ ?_ | refine fm_ltm ?_ (fun _ _ => ?_) | refine fm_lt ?_ | intro _ _ _ _ _ _ _ _ _ _ | intro _ _ _ _ _ _ _ _ _ | intro _ _ _ _ _ _ _ _ | intro _ _ _ _ _ _ _ | intro _ _ _ _ _ _ | intro _ _ _ _ _ | intro _ _ _ _ | intro _ _ _ | intro _ _ | intro _ | (apply fm_bnd; first | refine fr_fX8_readsSigned_19_1_b2 ?_ _ _ _ _ | exact hrc _ _) | (apply fm_tl; first | refine fr_fX8_readsSigned_19_1_b2 ?_ _ _ _ _ | exact hrc _ _)
theorem fr_fX8_readsProduct_19_1_b65 {rc : Int32 → Mem → Option (Int32 × Mem)} (hrc : ∀ x0 m, Fm aC m (rc x0 m)) {k26 : Int32 → Int32 → Int32 → Int32 → Mem → Option (Int32 × Mem)} (hk26 : ∀ x0 x1 x2 x3 m, Fm aC m (k26 x0 x1 x2 x3 m)) (p2 : Int32) (p5 : Int32) (q0 : Int32) (μ : Mem) : Fm aC μ (fX8_readsProduct_19_1_b65 rc k26 p2 p5 q0 μ) := by
  unfold fX8_readsProduct_19_1_b65
  with_reducible repeat' first | assumption | exact Fr.refl | refine fr_sI ?_ rfl | refine fr_sL ?_ rfl | refine fr_sC ?_ rfl | exact fm_none | refine fm_some ?_ | refine fm_gd ?_ | refine fm_ite ?_ ?_ | refine fm_ltm ?_ (fun _ _ => ?_) | refine fm_lt ?_ | intro _ _ _ _ _ _ _ _ _ _ | intro _ _ _ _ _ _ _ _ _ | intro _ _ _ _ _ _ _ _ | intro _ _ _ _ _ _ _ | intro _ _ _ _ _ _ | intro _ _ _ _ _ | intro _ _ _ _ | intro _ _ _ | intro _ _ | intro _ | (apply fm_bnd; first | refine fr_fX9_takesOneOf_1_s4  _ | exact hrc _ _ | exact hk26 _ _ _ _ _) | (apply fm_tl; first | refine fr_fX9_takesOneOf_1_s4  _ | exact hrc _ _ | exact hk26 _ _ _ _ _)
theorem fr_fX8_readsProduct_19_1_b64 {rc : Int32 → Mem → Option (Int32 × Mem)} (hrc : ∀ x0 m, Fm aC m (rc x0 m)) {k26 : Int32 → Int32 → Int32 → Int32 → Mem → Option (Int32 × Mem)} (hk26 : ∀ x0 x1 x2 x3 m, Fm aC m (k26 x0 x1 x2 x3 m)) (p2 : Int32) (p5 : Int32) (μ : Mem) : Fm aC μ (fX8_readsProduct_19_1_b64 rc k26 p2 p5 μ) := by
  unfold fX8_readsProduct_19_1_b64
  with_reducible repeat' first | assumption | exact Fr.refl | refine fr_sI ?_ rfl | refine fr_sL ?_ rfl | refine fr_sC ?_ rfl | exact fm_none | refine fm_some ?_ | refine fm_gd ?_ | refine fm_ite ?_ ?_ | refine fm_ltm ?_ (fun _ _ => ?_) | refine fm_lt ?_ | intro _ _ _ _ _ _ _ _ _ _ | intro _ _ _ _ _ _ _ _ _ | intro _ _ _ _ _ _ _ _ | intro _ _ _ _ _ _ _ | intro _ _ _ _ _ _ | intro _ _ _ _ _ | intro _ _ _ _ | intro _ _ _ | intro _ _ | intro _ | (apply fm_bnd; first | refine fr_fX8_readsProduct_19_1_b65 ?_ ?_ _ _ _ _ | exact hrc _ _ | exact hk26 _ _ _ _ _) | (apply fm_tl; first | refine fr_fX8_readsProduct_19_1_b65 ?_ ?_ _ _ _ _ | exact hrc _ _ | exact hk26 _ _ _ _ _)
theorem fr_fX8_readsProduct_19_1_b26 {rc : Int32 → Mem → Option (Int32 × Mem)} (hrc : ∀ x0 m, Fm aC m (rc x0 m)) : ∀ n a0 a1 a2 a3 μ, Fm aC μ (fX8_readsProduct_19_1_b26 rc n a0 a1 a2 a3 μ) := by
  intro n
  induction n with
  | zero =>
    intros
    exact fm_none
  | succ n ih =>
    intro a0 a1 a2 a3 μ
    rw [fX8_readsProduct_19_1_b26]
    with_reducible repeat' first | assumption | exact Fr.refl | refine fr_sI ?_ rfl | refine fr_sL ?_ rfl | refine fr_sC ?_ rfl | exact fm_none | refine fm_some ?_ | refine fm_gd ?_ | refine fm_ite ?_ ?_ | refine fm_ltm ?_ (fun _ _ => ?_) | refine fm_lt ?_ | intro _ _ _ _ _ _ _ _ _ _ | intro _ _ _ _ _ _ _ _ _ | intro _ _ _ _ _ _ _ _ | intro _ _ _ _ _ _ _ | intro _ _ _ _ _ _ | intro _ _ _ _ _ | intro _ _ _ _ | intro _ _ _ | intro _ _ | intro _ | (apply fm_bnd; first | refine fr_fX8_readsProduct_19_1_b64 ?_ ?_ _ _ _ | refine fr_fX8_readsProduct_19_1_b65 ?_ ?_ _ _ _ _ | exact ih _ _ _ _ _ | refine fr_fX8_drafts_19  _ _ | refine fr_fX8_readsSigned_19_1 ?_ _ _ | exact hrc _ _) | (apply fm_tl; first | refine fr_fX8_readsProduct_19_1_b64 ?_ ?_ _ _ _ | refine fr_fX8_readsProduct_19_1_b65 ?_ ?_ _ _ _ _ | exact ih _ _ _ _ _ | refine fr_fX8_drafts_19  _ _ | refine fr_fX8_readsSigned_19_1 ?_ _ _ | exact hrc _ _)
theorem fr_fX8_readsProduct_19_1 {rc : Int32 → Mem → Option (Int32 × Mem)} (hrc : ∀ x0 m, Fm aC m (rc x0 m)) (v2 : Int32) (μ : Mem) : Fm aC μ (fX8_readsProduct_19_1 rc v2 μ) := by
  unfold fX8_readsProduct_19_1
  with_reducible repeat' first | assumption | exact Fr.refl | refine fr_sI ?_ rfl | refine fr_sL ?_ rfl | refine fr_sC ?_ rfl | exact fm_none | refine fm_some ?_ | refine fm_gd ?_ | refine fm_ite ?_ ?_ | refine fm_ltm ?_ (fun _ _ => ?_) | refine fm_lt ?_ | intro _ _ _ _ _ _ _ _ _ _ | intro _ _ _ _ _ _ _ _ _ | intro _ _ _ _ _ _ _ _ | intro _ _ _ _ _ _ _ | intro _ _ _ _ _ _ | intro _ _ _ _ _ | intro _ _ _ _ | intro _ _ _ | intro _ _ | intro _ | (apply fm_bnd; first | refine fr_fX9_takesOneOf_1_s4  _ | refine fr_fX8_readsSigned_19_1 ?_ _ _ | refine fr_fX8_readsProduct_19_1_b26 ?_ _ _ _ _ _ _ | exact hrc _ _) | (apply fm_tl; first | refine fr_fX9_takesOneOf_1_s4  _ | refine fr_fX8_readsSigned_19_1 ?_ _ _ | refine fr_fX8_readsProduct_19_1_b26 ?_ _ _ _ _ _ _ | exact hrc _ _)
theorem fr_fX8_readsSum_19_1_b65 {rc : Int32 → Mem → Option (Int32 × Mem)} (hrc : ∀ x0 m, Fm aC m (rc x0 m)) {k26 : Int32 → Int32 → Int32 → Int32 → Mem → Option (Int32 × Mem)} (hk26 : ∀ x0 x1 x2 x3 m, Fm aC m (k26 x0 x1 x2 x3 m)) (p2 : Int32) (p5 : Int32) (q0 : Int32) (μ : Mem) : Fm aC μ (fX8_readsSum_19_1_b65 rc k26 p2 p5 q0 μ) := by
  unfold fX8_readsSum_19_1_b65
  with_reducible repeat' first | assumption | exact Fr.refl | refine fr_sI ?_ rfl | refine fr_sL ?_ rfl | refine fr_sC ?_ rfl | exact fm_none | refine fm_some ?_ | refine fm_gd ?_ | refine fm_ite ?_ ?_ | refine fm_ltm ?_ (fun _ _ => ?_) | refine fm_lt ?_ | intro _ _ _ _ _ _ _ _ _ _ | intro _ _ _ _ _ _ _ _ _ | intro _ _ _ _ _ _ _ _ | intro _ _ _ _ _ _ _ | intro _ _ _ _ _ _ | intro _ _ _ _ _ | intro _ _ _ _ | intro _ _ _ | intro _ _ | intro _ | (apply fm_bnd; first | refine fr_fX9_takesOneOf_1_s5  _ | exact hrc _ _ | exact hk26 _ _ _ _ _) | (apply fm_tl; first | refine fr_fX9_takesOneOf_1_s5  _ | exact hrc _ _ | exact hk26 _ _ _ _ _)
theorem fr_fX8_readsSum_19_1_b64 {rc : Int32 → Mem → Option (Int32 × Mem)} (hrc : ∀ x0 m, Fm aC m (rc x0 m)) {k26 : Int32 → Int32 → Int32 → Int32 → Mem → Option (Int32 × Mem)} (hk26 : ∀ x0 x1 x2 x3 m, Fm aC m (k26 x0 x1 x2 x3 m)) (p2 : Int32) (p5 : Int32) (μ : Mem) : Fm aC μ (fX8_readsSum_19_1_b64 rc k26 p2 p5 μ) := by
  unfold fX8_readsSum_19_1_b64
  with_reducible repeat' first | assumption | exact Fr.refl | refine fr_sI ?_ rfl | refine fr_sL ?_ rfl | refine fr_sC ?_ rfl | exact fm_none | refine fm_some ?_ | refine fm_gd ?_ | refine fm_ite ?_ ?_ | refine fm_ltm ?_ (fun _ _ => ?_) | refine fm_lt ?_ | intro _ _ _ _ _ _ _ _ _ _ | intro _ _ _ _ _ _ _ _ _ | intro _ _ _ _ _ _ _ _ | intro _ _ _ _ _ _ _ | intro _ _ _ _ _ _ | intro _ _ _ _ _ | intro _ _ _ _ | intro _ _ _ | intro _ _ | intro _ | (apply fm_bnd; first | refine fr_fX8_readsSum_19_1_b65 ?_ ?_ _ _ _ _ | exact hrc _ _ | exact hk26 _ _ _ _ _) | (apply fm_tl; first | refine fr_fX8_readsSum_19_1_b65 ?_ ?_ _ _ _ _ | exact hrc _ _ | exact hk26 _ _ _ _ _)
theorem fr_fX8_readsSum_19_1_b26 {rc : Int32 → Mem → Option (Int32 × Mem)} (hrc : ∀ x0 m, Fm aC m (rc x0 m)) : ∀ n a0 a1 a2 a3 μ, Fm aC μ (fX8_readsSum_19_1_b26 rc n a0 a1 a2 a3 μ) := by
  intro n
  induction n with
  | zero =>
    intros
    exact fm_none
  | succ n ih =>
    intro a0 a1 a2 a3 μ
    rw [fX8_readsSum_19_1_b26]
    with_reducible repeat' first | assumption | exact Fr.refl | refine fr_sI ?_ rfl | refine fr_sL ?_ rfl | refine fr_sC ?_ rfl | exact fm_none | refine fm_some ?_ | refine fm_gd ?_ | refine fm_ite ?_ ?_ | refine fm_ltm ?_ (fun _ _ => ?_) | refine fm_lt ?_ | intro _ _ _ _ _ _ _ _ _ _ | intro _ _ _ _ _ _ _ _ _ | intro _ _ _ _ _ _ _ _ | intro _ _ _ _ _ _ _ | intro _ _ _ _ _ _ | intro _ _ _ _ _ | intro _ _ _ _ | intro _ _ _ | intro _ _ | intro _ | (apply fm_bnd; first | refine fr_fX8_readsSum_19_1_b65 ?_ ?_ _ _ _ _ | refine fr_fX8_readsSum_19_1_b64 ?_ ?_ _ _ _ | refine fr_fX8_drafts_19  _ _ | exact ih _ _ _ _ _ | refine fr_fX8_readsProduct_19_1 ?_ _ _ | exact hrc _ _) | (apply fm_tl; first | refine fr_fX8_readsSum_19_1_b65 ?_ ?_ _ _ _ _ | refine fr_fX8_readsSum_19_1_b64 ?_ ?_ _ _ _ | refine fr_fX8_drafts_19  _ _ | exact ih _ _ _ _ _ | refine fr_fX8_readsProduct_19_1 ?_ _ _ | exact hrc _ _)
theorem fr_fX8_readsSum_19_1 {rc : Int32 → Mem → Option (Int32 × Mem)} (hrc : ∀ x0 m, Fm aC m (rc x0 m)) (v2 : Int32) (μ : Mem) : Fm aC μ (fX8_readsSum_19_1 rc v2 μ) := by
  unfold fX8_readsSum_19_1
  with_reducible repeat' first | assumption | exact Fr.refl | refine fr_sI ?_ rfl | refine fr_sL ?_ rfl | refine fr_sC ?_ rfl | exact fm_none | refine fm_some ?_ | refine fm_gd ?_ | refine fm_ite ?_ ?_ | refine fm_ltm ?_ (fun _ _ => ?_) | refine fm_lt ?_ | intro _ _ _ _ _ _ _ _ _ _ | intro _ _ _ _ _ _ _ _ _ | intro _ _ _ _ _ _ _ _ | intro _ _ _ _ _ _ _ | intro _ _ _ _ _ _ | intro _ _ _ _ _ | intro _ _ _ _ | intro _ _ _ | intro _ _ | intro _ | (apply fm_bnd; first | refine fr_fX9_takesOneOf_1_s5  _ | refine fr_fX8_readsSum_19_1_b26 ?_ _ _ _ _ _ _ | refine fr_fX8_readsProduct_19_1 ?_ _ _ | exact hrc _ _) | (apply fm_tl; first | refine fr_fX9_takesOneOf_1_s5  _ | refine fr_fX8_readsSum_19_1_b26 ?_ _ _ _ _ _ _ | refine fr_fX8_readsProduct_19_1 ?_ _ _ | exact hrc _ _)
theorem fr_fX8_readsExpression_19_1 {rc : Int32 → Mem → Option (Int32 × Mem)} (hrc : ∀ x0 m, Fm aC m (rc x0 m)) (v2 : Int32) (μ : Mem) : Fm aC μ (fX8_readsExpression_19_1 rc v2 μ) := by
  unfold fX8_readsExpression_19_1
  with_reducible repeat' first | assumption | exact Fr.refl | refine fr_sI ?_ rfl | refine fr_sL ?_ rfl | refine fr_sC ?_ rfl | exact fm_none | refine fm_some ?_ | refine fm_gd ?_ | refine fm_ite ?_ ?_ | refine fm_ltm ?_ (fun _ _ => ?_) | refine fm_lt ?_ | intro _ _ _ _ _ _ _ _ _ _ | intro _ _ _ _ _ _ _ _ _ | intro _ _ _ _ _ _ _ _ | intro _ _ _ _ _ _ _ | intro _ _ _ _ _ _ | intro _ _ _ _ _ | intro _ _ _ _ | intro _ _ _ | intro _ _ | intro _ | (apply fm_bnd; first | refine fr_fX9_takesOneOf_1_s6  _ | refine fr_fX8_drafts_19  _ _ | refine fr_fX8_readsSum_19_1 ?_ _ _ | exact hrc _ _) | (apply fm_tl; first | refine fr_fX9_takesOneOf_1_s6  _ | refine fr_fX8_drafts_19  _ _ | refine fr_fX8_readsSum_19_1 ?_ _ _ | exact hrc _ _)
theorem fr_fX8_readsThing_19_1_r {rc : Int32 → Mem → Option (Int32 × Mem)} (hrc : ∀ x0 m, Fm aC m (rc x0 m)) (v2 : Int32) (μ : Mem) : Fm aC μ (fX8_readsThing_19_1_r rc v2 μ) := by
  unfold fX8_readsThing_19_1_r
  with_reducible repeat' first | assumption | exact Fr.refl | refine fr_sI ?_ rfl | refine fr_sL ?_ rfl | refine fr_sC ?_ rfl | exact fm_none | refine fm_some ?_ | refine fm_gd ?_ | refine fm_ite ?_ ?_ | refine fm_ltm ?_ (fun _ _ => ?_) | refine fm_lt ?_ | intro _ _ _ _ _ _ _ _ _ _ | intro _ _ _ _ _ _ _ _ _ | intro _ _ _ _ _ _ _ _ | intro _ _ _ _ _ _ _ | intro _ _ _ _ _ _ | intro _ _ _ _ _ | intro _ _ _ _ | intro _ _ _ | intro _ _ | intro _ | (apply fm_bnd; first | refine fr_fX9_takes_1  _ _ | refine fr_fX8_readsExpression_19_1 ?_ _ _ | refine fr_fX9_number_1  _ _ | refine fr_fX8_drafts_19  _ _ | refine fr_fX9_takesOneOf_1_s0  _ | exact hrc _ _) | (apply fm_tl; first | refine fr_fX9_takes_1  _ _ | refine fr_fX8_readsExpression_19_1 ?_ _ _ | refine fr_fX9_number_1  _ _ | refine fr_fX8_drafts_19  _ _ | refine fr_fX9_takesOneOf_1_s0  _ | exact hrc _ _)
theorem fr_fX8_readsThing_19_1  : ∀ n a0 μ, Fm aC μ (fX8_readsThing_19_1  n a0 μ) := by
  intro n
  induction n with
  | zero =>
    intros
    exact fm_none
  | succ n ih =>
    intro a0 μ
    rw [fX8_readsThing_19_1]
    with_reducible repeat' first | assumption | exact Fr.refl | refine fr_sI ?_ rfl | refine fr_sL ?_ rfl | refine fr_sC ?_ rfl | exact fm_none | refine fm_some ?_ | refine fm_gd ?_ | refine fm_ite ?_ ?_ | refine fm_ltm ?_ (fun _ _ => ?_) | refine fm_lt ?_ | intro _ _ _ _ _ _ _ _ _ _ | intro _ _ _ _ _ _ _ _ _ | intro _ _ _ _ _ _ _ _ | intro _ _ _ _ _ _ _ | intro _ _ _ _ _ _ | intro _ _ _ _ _ | intro _ _ _ _ | intro _ _ _ | intro _ _ | intro _ | (apply fm_bnd; first | exact ih _ _ | refine fr_fX8_readsThing_19_1_r ?_ _ _) | (apply fm_tl; first | exact ih _ _ | refine fr_fX8_readsThing_19_1_r ?_ _ _)
theorem fr_fX8_read_19_1_b39   (μ : Mem) : Fm aC μ (fX8_read_19_1_b39   μ) := by
  unfold fX8_read_19_1_b39
  with_reducible repeat' first | assumption | exact Fr.refl | refine fr_sI ?_ rfl | refine fr_sL ?_ rfl | refine fr_sC ?_ rfl | exact fm_none | refine fm_some ?_ | refine fm_gd ?_ | refine fm_ite ?_ ?_ | refine fm_ltm ?_ (fun _ _ => ?_) | refine fm_lt ?_ | intro _ _ _ _ _ _ _ _ _ _ | intro _ _ _ _ _ _ _ _ _ | intro _ _ _ _ _ _ _ _ | intro _ _ _ _ _ _ _ | intro _ _ _ _ _ _ | intro _ _ _ _ _ | intro _ _ _ _ | intro _ _ _ | intro _ _ | intro _
theorem fr_fX8_read_19_1_b34 {A : Nat → Bool}   (μ : Mem) : Fm A μ (fX8_read_19_1_b34   μ) := by
  unfold fX8_read_19_1_b34
  with_reducible repeat' first | assumption | exact Fr.refl | refine fr_sI ?_ rfl | refine fr_sL ?_ rfl | refine fr_sC ?_ rfl | exact fm_none | refine fm_some ?_ | refine fm_gd ?_ | refine fm_ite ?_ ?_ | refine fm_ltm ?_ (fun _ _ => ?_) | refine fm_lt ?_ | intro _ _ _ _ _ _ _ _ _ _ | intro _ _ _ _ _ _ _ _ _ | intro _ _ _ _ _ _ _ _ | intro _ _ _ _ _ _ _ | intro _ _ _ _ _ _ | intro _ _ _ _ _ | intro _ _ _ _ | intro _ _ _ | intro _ _ | intro _ | (apply fm_bnd; first | refine fr_fX9_wrong_1  _) | (apply fm_tl; first | refine fr_fX9_wrong_1  _)
theorem fr_fX8_read_19_1   (μ : Mem) : Fm aC μ (fX8_read_19_1   μ) := by
  unfold fX8_read_19_1
  with_reducible repeat' first | assumption | exact Fr.refl | refine fr_sI ?_ rfl | refine fr_sL ?_ rfl | refine fr_sC ?_ rfl | exact fm_none | refine fm_some ?_ | refine fm_gd ?_ | refine fm_ite ?_ ?_ | refine fm_ltm ?_ (fun _ _ => ?_) | refine fm_lt ?_ | intro _ _ _ _ _ _ _ _ _ _ | intro _ _ _ _ _ _ _ _ _ | intro _ _ _ _ _ _ _ _ | intro _ _ _ _ _ _ _ | intro _ _ _ _ _ _ | intro _ _ _ _ _ | intro _ _ _ _ | intro _ _ _ | intro _ _ | intro _ | (apply fm_bnd; first | refine fr_fX8_read_19_1_b34  _ | refine fr_fX8_readsThing_19_1  _ _ _ | refine fr_fX9_open_1  _ _ | refine fr_fX8_readsExpression_19_1 ?_ _ _ | refine fr_fX8_read_19_1_b39  _ | refine fr_fX9_isRead_1  _) | (apply fm_tl; first | refine fr_fX8_read_19_1_b34  _ | refine fr_fX8_readsThing_19_1  _ _ _ | refine fr_fX9_open_1  _ _ | refine fr_fX8_readsExpression_19_1 ?_ _ _ | refine fr_fX8_read_19_1_b39  _ | refine fr_fX9_isRead_1  _)
theorem fr_fX11_rule_0   (μ : Mem) : Fm aC μ (fX11_rule_0   μ) := by
  unfold fX11_rule_0
  with_reducible repeat' first | assumption | exact Fr.refl | refine fr_sI ?_ rfl | refine fr_sL ?_ rfl | refine fr_sC ?_ rfl | exact fm_none | refine fm_some ?_ | refine fm_gd ?_ | refine fm_ite ?_ ?_ | refine fm_ltm ?_ (fun _ _ => ?_) | refine fm_lt ?_ | intro _ _ _ _ _ _ _ _ _ _ | intro _ _ _ _ _ _ _ _ _ | intro _ _ _ _ _ _ _ _ | intro _ _ _ _ _ _ _ | intro _ _ _ _ _ _ | intro _ _ _ _ _ | intro _ _ _ _ | intro _ _ _ | intro _ _ | intro _ | (apply fm_bnd; first | refine fr_fX8_read_19_1  _ | refine fr_fX9_empty_1  _) | (apply fm_tl; first | refine fr_fX8_read_19_1  _ | refine fr_fX9_empty_1  _)
theorem fr_fX12_letterOf {A : Nat → Bool}  (v0 : Int32) (μ : Mem) : Fm A μ (fX12_letterOf  v0 μ) := by
  unfold fX12_letterOf
  with_reducible repeat' first | assumption | exact Fr.refl | refine fr_sI ?_ rfl | refine fr_sL ?_ rfl | refine fr_sC ?_ rfl | exact fm_none | refine fm_some ?_ | refine fm_gd ?_ | refine fm_ite ?_ ?_ | refine fm_ltm ?_ (fun _ _ => ?_) | refine fm_lt ?_ | intro _ _ _ _ _ _ _ _ _ _ | intro _ _ _ _ _ _ _ _ _ | intro _ _ _ _ _ _ _ _ | intro _ _ _ _ _ _ _ | intro _ _ _ _ _ _ | intro _ _ _ _ _ | intro _ _ _ _ | intro _ _ _ | intro _ _ | intro _
theorem fr_fX12_product_122_b45 {rc : Int32 → Mem → Option (Int32 × Mem)} (hrc : ∀ x0 m, Fm aM m (rc x0 m)) {k6 : Int32 → Int32 → Mem → Option (Int32 × Mem)} (hk6 : ∀ x0 x1 m, Fm aM m (k6 x0 x1 m)) (p1 : Int32) (p2 : Int32) (q0 : Int32) (μ : Mem) : Fm aM μ (fX12_product_122_b45 rc k6 p1 p2 q0 μ) := by
  unfold fX12_product_122_b45
  with_reducible repeat' first | assumption | exact Fr.refl | refine fr_sI ?_ rfl | refine fr_sL ?_ rfl | refine fr_sC ?_ rfl | exact fm_none | refine fm_some ?_ | refine fm_gd ?_ | refine fm_ite ?_ ?_ | refine fm_ltm ?_ (fun _ _ => ?_) | refine fm_lt ?_ | intro _ _ _ _ _ _ _ _ _ _ | intro _ _ _ _ _ _ _ _ _ | intro _ _ _ _ _ _ _ _ | intro _ _ _ _ _ _ _ | intro _ _ _ _ _ _ | intro _ _ _ _ _ | intro _ _ _ _ | intro _ _ _ | intro _ _ | intro _ | (apply fm_bnd; first | exact hrc _ _ | exact hk6 _ _ _) | (apply fm_tl; first | exact hrc _ _ | exact hk6 _ _ _)
theorem fr_fX12_product_122_b31 {rc : Int32 → Mem → Option (Int32 × Mem)} (hrc : ∀ x0 m, Fm aM m (rc x0 m)) {k6 : Int32 → Int32 → Mem → Option (Int32 × Mem)} (hk6 : ∀ x0 x1 m, Fm aM m (k6 x0 x1 m)) (p1 : Int32) (p2 : Int32) (μ : Mem) : Fm aM μ (fX12_product_122_b31 rc k6 p1 p2 μ) := by
  unfold fX12_product_122_b31
  with_reducible repeat' first | assumption | exact Fr.refl | refine fr_sI ?_ rfl | refine fr_sL ?_ rfl | refine fr_sC ?_ rfl | exact fm_none | refine fm_some ?_ | refine fm_gd ?_ | refine fm_ite ?_ ?_ | refine fm_ltm ?_ (fun _ _ => ?_) | refine fm_lt ?_ | intro _ _ _ _ _ _ _ _ _ _ | intro _ _ _ _ _ _ _ _ _ | intro _ _ _ _ _ _ _ _ | intro _ _ _ _ _ _ _ | intro _ _ _ _ _ _ | intro _ _ _ _ _ | intro _ _ _ _ | intro _ _ _ | intro _ _ | intro _ | (apply fm_bnd; first | refine fr_fX12_here_122  _ | refine fr_fX12_product_122_b45 ?_ ?_ _ _ _ _ | exact hrc _ _ | exact hk6 _ _ _) | (apply fm_tl; first | refine fr_fX12_here_122  _ | refine fr_fX12_product_122_b45 ?_ ?_ _ _ _ _ | exact hrc _ _ | exact hk6 _ _ _)
theorem fr_fX12_product_122_b6 {rc : Int32 → Mem → Option (Int32 × Mem)} (hrc : ∀ x0 m, Fm aM m (rc x0 m)) : ∀ n a0 a1 μ, Fm aM μ (fX12_product_122_b6 rc n a0 a1 μ) := by
  intro n
  induction n with
  | zero =>
    intros
    exact fm_none
  | succ n ih =>
    intro a0 a1 μ
    rw [fX12_product_122_b6]
    with_reducible repeat' first | assumption | exact Fr.refl | refine fr_sI ?_ rfl | refine fr_sL ?_ rfl | refine fr_sC ?_ rfl | exact fm_none | refine fm_some ?_ | refine fm_gd ?_ | refine fm_ite ?_ ?_ | refine fm_ltm ?_ (fun _ _ => ?_) | refine fm_lt ?_ | intro _ _ _ _ _ _ _ _ _ _ | intro _ _ _ _ _ _ _ _ _ | intro _ _ _ _ _ _ _ _ | intro _ _ _ _ _ _ _ | intro _ _ _ _ _ _ | intro _ _ _ _ _ | intro _ _ _ _ | intro _ _ _ | intro _ _ | intro _ | (apply fm_bnd; first | refine fr_fX12_here_122  _ | refine fr_fX12_fine_122  _ | exact ih _ _ _ | refine fr_fX12_product_122_b31 ?_ ?_ _ _ _ | exact hrc _ _) | (apply fm_tl; first | refine fr_fX12_here_122  _ | refine fr_fX12_fine_122  _ | exact ih _ _ _ | refine fr_fX12_product_122_b31 ?_ ?_ _ _ _ | exact hrc _ _)
theorem fr_fX12_product_122 {rc : Int32 → Mem → Option (Int32 × Mem)} (hrc : ∀ x0 m, Fm aM m (rc x0 m)) (v1 : Int32) (μ : Mem) : Fm aM μ (fX12_product_122 rc v1 μ) := by
  unfold fX12_product_122
  with_reducible repeat' first | assumption | exact Fr.refl | refine fr_sI ?_ rfl | refine fr_sL ?_ rfl | refine fr_sC ?_ rfl | exact fm_none | refine fm_some ?_ | refine fm_gd ?_ | refine fm_ite ?_ ?_ | refine fm_ltm ?_ (fun _ _ => ?_) | refine fm_lt ?_ | intro _ _ _ _ _ _ _ _ _ _ | intro _ _ _ _ _ _ _ _ _ | intro _ _ _ _ _ _ _ _ | intro _ _ _ _ _ _ _ | intro _ _ _ _ _ _ | intro _ _ _ _ _ | intro _ _ _ _ | intro _ _ _ | intro _ _ | intro _ | (apply fm_bnd; first | refine fr_fX12_product_122_b6 ?_ _ _ _ _ | exact hrc _ _) | (apply fm_tl; first | refine fr_fX12_product_122_b6 ?_ _ _ _ _ | exact hrc _ _)
theorem fr_fX12_sum_122_b45 {rc : Int32 → Mem → Option (Int32 × Mem)} (hrc : ∀ x0 m, Fm aM m (rc x0 m)) {k6 : Int32 → Int32 → Mem → Option (Int32 × Mem)} (hk6 : ∀ x0 x1 m, Fm aM m (k6 x0 x1 m)) (p1 : Int32) (p2 : Int32) (q0 : Int32) (μ : Mem) : Fm aM μ (fX12_sum_122_b45 rc k6 p1 p2 q0 μ) := by
  unfold fX12_sum_122_b45
  with_reducible repeat' first | assumption | exact Fr.refl | refine fr_sI ?_ rfl | refine fr_sL ?_ rfl | refine fr_sC ?_ rfl | exact fm_none | refine fm_some ?_ | refine fm_gd ?_ | refine fm_ite ?_ ?_ | refine fm_ltm ?_ (fun _ _ => ?_) | refine fm_lt ?_ | intro _ _ _ _ _ _ _ _ _ _ | intro _ _ _ _ _ _ _ _ _ | intro _ _ _ _ _ _ _ _ | intro _ _ _ _ _ _ _ | intro _ _ _ _ _ _ | intro _ _ _ _ _ | intro _ _ _ _ | intro _ _ _ | intro _ _ | intro _ | (apply fm_bnd; first | refine fr_fX12_product_122 ?_ _ _ | exact hrc _ _ | exact hk6 _ _ _) | (apply fm_tl; first | refine fr_fX12_product_122 ?_ _ _ | exact hrc _ _ | exact hk6 _ _ _)
theorem fr_fX12_sum_122_b31 {rc : Int32 → Mem → Option (Int32 × Mem)} (hrc : ∀ x0 m, Fm aM m (rc x0 m)) {k6 : Int32 → Int32 → Mem → Option (Int32 × Mem)} (hk6 : ∀ x0 x1 m, Fm aM m (k6 x0 x1 m)) (p1 : Int32) (p2 : Int32) (μ : Mem) : Fm aM μ (fX12_sum_122_b31 rc k6 p1 p2 μ) := by
  unfold fX12_sum_122_b31
  with_reducible repeat' first | assumption | exact Fr.refl | refine fr_sI ?_ rfl | refine fr_sL ?_ rfl | refine fr_sC ?_ rfl | exact fm_none | refine fm_some ?_ | refine fm_gd ?_ | refine fm_ite ?_ ?_ | refine fm_ltm ?_ (fun _ _ => ?_) | refine fm_lt ?_ | intro _ _ _ _ _ _ _ _ _ _ | intro _ _ _ _ _ _ _ _ _ | intro _ _ _ _ _ _ _ _ | intro _ _ _ _ _ _ _ | intro _ _ _ _ _ _ | intro _ _ _ _ _ | intro _ _ _ _ | intro _ _ _ | intro _ _ | intro _ | (apply fm_bnd; first | refine fr_fX12_here_122  _ | refine fr_fX12_sum_122_b45 ?_ ?_ _ _ _ _ | exact hrc _ _ | exact hk6 _ _ _) | (apply fm_tl; first | refine fr_fX12_here_122  _ | refine fr_fX12_sum_122_b45 ?_ ?_ _ _ _ _ | exact hrc _ _ | exact hk6 _ _ _)
theorem fr_fX12_sum_122_b6 {rc : Int32 → Mem → Option (Int32 × Mem)} (hrc : ∀ x0 m, Fm aM m (rc x0 m)) : ∀ n a0 a1 μ, Fm aM μ (fX12_sum_122_b6 rc n a0 a1 μ) := by
  intro n
  induction n with
  | zero =>
    intros
    exact fm_none
  | succ n ih =>
    intro a0 a1 μ
    rw [fX12_sum_122_b6]
    with_reducible repeat' first | assumption | exact Fr.refl | refine fr_sI ?_ rfl | refine fr_sL ?_ rfl | refine fr_sC ?_ rfl | exact fm_none | refine fm_some ?_ | refine fm_gd ?_ | refine fm_ite ?_ ?_ | refine fm_ltm ?_ (fun _ _ => ?_) | refine fm_lt ?_ | intro _ _ _ _ _ _ _ _ _ _ | intro _ _ _ _ _ _ _ _ _ | intro _ _ _ _ _ _ _ _ | intro _ _ _ _ _ _ _ | intro _ _ _ _ _ _ | intro _ _ _ _ _ | intro _ _ _ _ | intro _ _ _ | intro _ _ | intro _ | (apply fm_bnd; first | refine fr_fX12_here_122  _ | refine fr_fX12_fine_122  _ | refine fr_fX12_sum_122_b31 ?_ ?_ _ _ _ | exact ih _ _ _ | exact hrc _ _) | (apply fm_tl; first | refine fr_fX12_here_122  _ | refine fr_fX12_fine_122  _ | refine fr_fX12_sum_122_b31 ?_ ?_ _ _ _ | exact ih _ _ _ | exact hrc _ _)
theorem fr_fX12_sum_122 {rc : Int32 → Mem → Option (Int32 × Mem)} (hrc : ∀ x0 m, Fm aM m (rc x0 m)) (v1 : Int32) (μ : Mem) : Fm aM μ (fX12_sum_122 rc v1 μ) := by
  unfold fX12_sum_122
  with_reducible repeat' first | assumption | exact Fr.refl | refine fr_sI ?_ rfl | refine fr_sL ?_ rfl | refine fr_sC ?_ rfl | exact fm_none | refine fm_some ?_ | refine fm_gd ?_ | refine fm_ite ?_ ?_ | refine fm_ltm ?_ (fun _ _ => ?_) | refine fm_lt ?_ | intro _ _ _ _ _ _ _ _ _ _ | intro _ _ _ _ _ _ _ _ _ | intro _ _ _ _ _ _ _ _ | intro _ _ _ _ _ _ _ | intro _ _ _ _ _ _ | intro _ _ _ _ _ | intro _ _ _ _ | intro _ _ _ | intro _ _ | intro _ | (apply fm_bnd; first | refine fr_fX12_product_122 ?_ _ _ | refine fr_fX12_sum_122_b6 ?_ _ _ _ _ | exact hrc _ _) | (apply fm_tl; first | refine fr_fX12_product_122 ?_ _ _ | refine fr_fX12_sum_122_b6 ?_ _ _ _ _ | exact hrc _ _)
theorem fr_fX12_held_122 {rc : Int32 → Mem → Option (Int32 × Mem)} (hrc : ∀ x0 m, Fm aM m (rc x0 m)) (v1 : Int32) (μ : Mem) : Fm aM μ (fX12_held_122 rc v1 μ) := by
  unfold fX12_held_122
  with_reducible repeat' first | assumption | exact Fr.refl | refine fr_sI ?_ rfl | refine fr_sL ?_ rfl | refine fr_sC ?_ rfl | exact fm_none | refine fm_some ?_ | refine fm_gd ?_ | refine fm_ite ?_ ?_ | refine fm_ltm ?_ (fun _ _ => ?_) | refine fm_lt ?_ | intro _ _ _ _ _ _ _ _ _ _ | intro _ _ _ _ _ _ _ _ _ | intro _ _ _ _ _ _ _ _ | intro _ _ _ _ _ _ _ | intro _ _ _ _ _ _ | intro _ _ _ _ _ | intro _ _ _ _ | intro _ _ _ | intro _ _ | intro _ | (apply fm_bnd; first | refine fr_fX12_sum_122 ?_ _ _ | refine fr_fX12_passes_122  _ _ | exact hrc _ _) | (apply fm_tl; first | refine fr_fX12_sum_122 ?_ _ _ | refine fr_fX12_passes_122  _ _ | exact hrc _ _)
theorem fr_fX12_thing_122_b67 {rc : Int32 → Mem → Option (Int32 × Mem)} (hrc : ∀ x0 m, Fm aM m (rc x0 m)) (p2 : Int32) (μ : Mem) : Fm aM μ (fX12_thing_122_b67 rc p2 μ) := by
  unfold fX12_thing_122_b67
  with_reducible repeat' first | assumption | exact Fr.refl | refine fr_sI ?_ rfl | refine fr_sL ?_ rfl | refine fr_sC ?_ rfl | exact fm_none | refine fm_some ?_ | refine fm_gd ?_ | refine fm_ite ?_ ?_ | refine fm_ltm ?_ (fun _ _ => ?_) | refine fm_lt ?_ | intro _ _ _ _ _ _ _ _ _ _ | intro _ _ _ _ _ _ _ _ _ | intro _ _ _ _ _ _ _ _ | intro _ _ _ _ _ _ _ | intro _ _ _ _ _ _ | intro _ _ _ _ _ | intro _ _ _ _ | intro _ _ _ | intro _ _ | intro _ | (apply fm_bnd; first | refine fr_fX12_fault_122  _ _ | refine fr_fX12_number_122  _ _ | refine fr_fX12_letterOf  _ _ | refine fr_fX12_in  _ _ _ _ | exact hrc _ _) | (apply fm_tl; first | refine fr_fX12_fault_122  _ _ | refine fr_fX12_number_122  _ _ | refine fr_fX12_letterOf  _ _ | refine fr_fX12_in  _ _ _ _ | exact hrc _ _)
theorem fr_fX12_thing_122_r {rc : Int32 → Mem → Option (Int32 × Mem)} (hrc : ∀ x0 m, Fm aM m (rc x0 m)) (v1 : Int32) (μ : Mem) : Fm aM μ (fX12_thing_122_r rc v1 μ) := by
  unfold fX12_thing_122_r
  with_reducible repeat' first | assumption | exact Fr.refl | refine fr_sI ?_ rfl | refine fr_sL ?_ rfl | refine fr_sC ?_ rfl | exact fm_none | refine fm_some ?_ | refine fm_gd ?_ | refine fm_ite ?_ ?_ | refine fm_ltm ?_ (fun _ _ => ?_) | refine fm_lt ?_ | intro _ _ _ _ _ _ _ _ _ _ | intro _ _ _ _ _ _ _ _ _ | intro _ _ _ _ _ _ _ _ | intro _ _ _ _ _ _ _ | intro _ _ _ _ _ _ | intro _ _ _ _ _ | intro _ _ _ _ | intro _ _ _ | intro _ _ | intro _ | (apply fm_bnd; first | refine fr_fX12_here_122  _ | refine fr_fX12_thing_122_b67 ?_ _ _ | refine fr_fX12_passes_122  _ _ | refine fr_fX12_need_122  _ _ | refine fr_fX12_fine_122  _ | refine fr_fX12_held_122 ?_ _ _ | exact hrc _ _) | (apply fm_tl; first | refine fr_fX12_here_122  _ | refine fr_fX12_thing_122_b67 ?_ _ _ | refine fr_fX12_passes_122  _ _ | refine fr_fX12_need_122  _ _ | refine fr_fX12_fine_122  _ | refine fr_fX12_held_122 ?_ _ _ | exact hrc _ _)
theorem fr_fX12_thing_122  : ∀ n a0 μ, Fm aM μ (fX12_thing_122  n a0 μ) := by
  intro n
  induction n with
  | zero =>
    intros
    exact fm_none
  | succ n ih =>
    intro a0 μ
    rw [fX12_thing_122]
    with_reducible repeat' first | assumption | exact Fr.refl | refine fr_sI ?_ rfl | refine fr_sL ?_ rfl | refine fr_sC ?_ rfl | exact fm_none | refine fm_some ?_ | refine fm_gd ?_ | refine fm_ite ?_ ?_ | refine fm_ltm ?_ (fun _ _ => ?_) | refine fm_lt ?_ | intro _ _ _ _ _ _ _ _ _ _ | intro _ _ _ _ _ _ _ _ _ | intro _ _ _ _ _ _ _ _ | intro _ _ _ _ _ _ _ | intro _ _ _ _ _ _ | intro _ _ _ _ _ | intro _ _ _ _ | intro _ _ _ | intro _ _ | intro _ | (apply fm_bnd; first | refine fr_fX12_thing_122_r ?_ _ _ | exact ih _ _) | (apply fm_tl; first | refine fr_fX12_thing_122_r ?_ _ _ | exact ih _ _)
theorem fr_fX12_rule_122_b47  : ∀ n a0 a1 μ, Fm aM μ (fX12_rule_122_b47  n a0 a1 μ) := by
  intro n
  induction n with
  | zero =>
    intros
    exact fm_none
  | succ n ih =>
    intro a0 a1 μ
    rw [fX12_rule_122_b47]
    with_reducible repeat' first | assumption | exact Fr.refl | refine fr_sI ?_ rfl | refine fr_sL ?_ rfl | refine fr_sC ?_ rfl | exact fm_none | refine fm_some ?_ | refine fm_gd ?_ | refine fm_ite ?_ ?_ | refine fm_ltm ?_ (fun _ _ => ?_) | refine fm_lt ?_ | intro _ _ _ _ _ _ _ _ _ _ | intro _ _ _ _ _ _ _ _ _ | intro _ _ _ _ _ _ _ _ | intro _ _ _ _ _ _ _ | intro _ _ _ _ _ _ | intro _ _ _ _ _ | intro _ _ _ _ | intro _ _ _ | intro _ _ | intro _ | (apply fm_bnd; first | exact ih _ _ _) | (apply fm_tl; first | exact ih _ _ _)
theorem fr_fX12_rule_122_b31  (p1 : Int32) (μ : Mem) : Fm aM μ (fX12_rule_122_b31  p1 μ) := by
  unfold fX12_rule_122_b31
  with_reducible repeat' first | assumption | exact Fr.refl | refine fr_sI ?_ rfl | refine fr_sL ?_ rfl | refine fr_sC ?_ rfl | exact fm_none | refine fm_some ?_ | refine fm_gd ?_ | refine fm_ite ?_ ?_ | refine fm_ltm ?_ (fun _ _ => ?_) | refine fm_lt ?_ | intro _ _ _ _ _ _ _ _ _ _ | intro _ _ _ _ _ _ _ _ _ | intro _ _ _ _ _ _ _ _ | intro _ _ _ _ _ _ _ | intro _ _ _ _ _ _ | intro _ _ _ _ _ | intro _ _ _ _ | intro _ _ _ | intro _ _ | intro _ | (apply fm_bnd; first | refine fr_fX12_wasRight_122  _ | refine fr_fX12_rule_122_b47  _ _ _ _) | (apply fm_tl; first | refine fr_fX12_wasRight_122  _ | refine fr_fX12_rule_122_b47  _ _ _ _)
theorem fr_fX12_rule_122   (μ : Mem) : Fm aM μ (fX12_rule_122   μ) := by
  unfold fX12_rule_122
  with_reducible repeat' first | assumption | exact Fr.refl | refine fr_sI ?_ rfl | refine fr_sL ?_ rfl | refine fr_sC ?_ rfl | exact fm_none | refine fm_some ?_ | refine fm_gd ?_ | refine fm_ite ?_ ?_ | refine fm_ltm ?_ (fun _ _ => ?_) | refine fm_lt ?_ | intro _ _ _ _ _ _ _ _ _ _ | intro _ _ _ _ _ _ _ _ _ | intro _ _ _ _ _ _ _ _ | intro _ _ _ _ _ _ _ | intro _ _ _ _ _ _ | intro _ _ _ _ _ | intro _ _ _ _ | intro _ _ _ | intro _ _ | intro _ | (apply fm_bnd; first | refine fr_fX12_beginText_122  _ _ | refine fr_fX12_rule_122_b31  _ _ | refine fr_fX12_thing_122  _ _ _ | refine fr_fX12_held_122 ?_ _ _) | (apply fm_tl; first | refine fr_fX12_beginText_122  _ _ | refine fr_fX12_rule_122_b31  _ _ | refine fr_fX12_thing_122  _ _ _ | refine fr_fX12_held_122 ?_ _ _)
theorem fr_fX12_isMan_122 {A : Nat → Bool}  (v1 : Int32) (μ : Mem) : Fm A μ (fX12_isMan_122  v1 μ) := by
  unfold fX12_isMan_122
  with_reducible repeat' first | assumption | exact Fr.refl | refine fr_sI ?_ rfl | refine fr_sL ?_ rfl | refine fr_sC ?_ rfl | exact fm_none | refine fm_some ?_ | refine fm_gd ?_ | refine fm_ite ?_ ?_ | refine fm_ltm ?_ (fun _ _ => ?_) | refine fm_lt ?_ | intro _ _ _ _ _ _ _ _ _ _ | intro _ _ _ _ _ _ _ _ _ | intro _ _ _ _ _ _ _ _ | intro _ _ _ _ _ _ _ | intro _ _ _ _ _ _ | intro _ _ _ _ _ | intro _ _ _ _ | intro _ _ _ | intro _ _ | intro _ | (apply fm_bnd; first | refine fr_fX12_in  _ _ _ _) | (apply fm_tl; first | refine fr_fX12_in  _ _ _ _)
theorem fr_fX12_begin_122_136  (v2 : Int32) (v3 : Int32) (μ : Mem) : Fm aM μ (fX12_begin_122_136  v2 v3 μ) := by
  unfold fX12_begin_122_136
  with_reducible repeat' first | assumption | exact Fr.refl | refine fr_sI ?_ rfl | refine fr_sL ?_ rfl | refine fr_sC ?_ rfl | exact fm_none | refine fm_some ?_ | refine fm_gd ?_ | refine fm_ite ?_ ?_ | refine fm_ltm ?_ (fun _ _ => ?_) | refine fm_lt ?_ | intro _ _ _ _ _ _ _ _ _ _ | intro _ _ _ _ _ _ _ _ _ | intro _ _ _ _ _ _ _ _ | intro _ _ _ _ _ _ _ | intro _ _ _ _ _ _ | intro _ _ _ _ _ | intro _ _ _ _ | intro _ _ _ | intro _ _ | intro _
theorem fr_fX12_leftOf_122_b114 {A : Nat → Bool}  (p5 : Int32) (μ : Mem) : Fm A μ (fX12_leftOf_122_b114  p5 μ) := by
  unfold fX12_leftOf_122_b114
  with_reducible repeat' first | assumption | exact Fr.refl | refine fr_sI ?_ rfl | refine fr_sL ?_ rfl | refine fr_sC ?_ rfl | exact fm_none | refine fm_some ?_ | refine fm_gd ?_ | refine fm_ite ?_ ?_ | refine fm_ltm ?_ (fun _ _ => ?_) | refine fm_lt ?_ | intro _ _ _ _ _ _ _ _ _ _ | intro _ _ _ _ _ _ _ _ _ | intro _ _ _ _ _ _ _ _ | intro _ _ _ _ _ _ _ | intro _ _ _ _ _ _ | intro _ _ _ _ _ | intro _ _ _ _ | intro _ _ _ | intro _ _ | intro _
theorem fr_fX12_leftOf_122  (v1 : Int32) (v2 : Int32) (v3 : Int32) (v4 : Int32) (μ : Mem) : Fm aM μ (fX12_leftOf_122  v1 v2 v3 v4 μ) := by
  unfold fX12_leftOf_122
  with_reducible repeat' first | assumption | exact Fr.refl | refine fr_sI ?_ rfl | refine fr_sL ?_ rfl | refine fr_sC ?_ rfl | exact fm_none | refine fm_some ?_ | refine fm_gd ?_ | refine fm_ite ?_ ?_ | refine fm_ltm ?_ (fun _ _ => ?_) | refine fm_lt ?_ | intro _ _ _ _ _ _ _ _ _ _ | intro _ _ _ _ _ _ _ _ _ | intro _ _ _ _ _ _ _ _ | intro _ _ _ _ _ _ _ | intro _ _ _ _ _ _ | intro _ _ _ _ _ | intro _ _ _ _ | intro _ _ _ | intro _ _ | intro _ | (apply fm_bnd; first | refine fr_fX12_leftOf_122_b114  _ _ | refine fr_fX12_begin_122_136  _ _ _ | refine fr_fX12_thing_122  _ _ _ | refine fr_fX12_held_122 ?_ _ _) | (apply fm_tl; first | refine fr_fX12_leftOf_122_b114  _ _ | refine fr_fX12_begin_122_136  _ _ _ | refine fr_fX12_thing_122  _ _ _ | refine fr_fX12_held_122 ?_ _ _)
theorem fr_fX12_leftNow_122_123  (v2 : Int32) (μ : Mem) : Fm aM μ (fX12_leftNow_122_123  v2 μ) := by
  unfold fX12_leftNow_122_123
  with_reducible repeat' first | assumption | exact Fr.refl | refine fr_sI ?_ rfl | refine fr_sL ?_ rfl | refine fr_sC ?_ rfl | exact fm_none | refine fm_some ?_ | refine fm_gd ?_ | refine fm_ite ?_ ?_ | refine fm_ltm ?_ (fun _ _ => ?_) | refine fm_lt ?_ | intro _ _ _ _ _ _ _ _ _ _ | intro _ _ _ _ _ _ _ _ _ | intro _ _ _ _ _ _ _ _ | intro _ _ _ _ _ _ _ | intro _ _ _ _ _ _ | intro _ _ _ _ _ | intro _ _ _ _ | intro _ _ _ | intro _ _ | intro _ | (apply fm_bnd; first | refine fr_fX12_leftOf_122  _ _ _ _ _) | (apply fm_tl; first | refine fr_fX12_leftOf_122  _ _ _ _ _)
theorem fr_fX12_lost_122   (μ : Mem) : Fm aM μ (fX12_lost_122   μ) := by
  unfold fX12_lost_122
  with_reducible repeat' first | assumption | exact Fr.refl | refine fr_sI ?_ rfl | refine fr_sL ?_ rfl | refine fr_sC ?_ rfl | exact fm_none | refine fm_some ?_ | refine fm_gd ?_ | refine fm_ite ?_ ?_ | refine fm_ltm ?_ (fun _ _ => ?_) | refine fm_lt ?_ | intro _ _ _ _ _ _ _ _ _ _ | intro _ _ _ _ _ _ _ _ _ | intro _ _ _ _ _ _ _ _ | intro _ _ _ _ _ _ _ | intro _ _ _ _ _ _ | intro _ _ _ _ _ | intro _ _ _ _ | intro _ _ _ | intro _ _ | intro _
theorem fr_fX12_proofIn_122_123_b6 {A : Nat → Bool}  : ∀ n a0 a1 a2 a3 μ, Fm A μ (fX12_proofIn_122_123_b6  n a0 a1 a2 a3 μ) := by
  intro n
  induction n with
  | zero =>
    intros
    exact fm_none
  | succ n ih =>
    intro a0 a1 a2 a3 μ
    rw [fX12_proofIn_122_123_b6]
    with_reducible repeat' first | assumption | exact Fr.refl | refine fr_sI ?_ rfl | refine fr_sL ?_ rfl | refine fr_sC ?_ rfl | exact fm_none | refine fm_some ?_ | refine fm_gd ?_ | refine fm_ite ?_ ?_ | refine fm_ltm ?_ (fun _ _ => ?_) | refine fm_lt ?_ | intro _ _ _ _ _ _ _ _ _ _ | intro _ _ _ _ _ _ _ _ _ | intro _ _ _ _ _ _ _ _ | intro _ _ _ _ _ _ _ | intro _ _ _ _ _ _ | intro _ _ _ _ _ | intro _ _ _ _ | intro _ _ _ | intro _ _ | intro _ | (apply fm_bnd; first | exact ih _ _ _ _ _) | (apply fm_tl; first | exact ih _ _ _ _ _)
theorem fr_fX12_proofIn_122_123 {A : Nat → Bool}  (v2 : Int32) (v3 : Int32) (μ : Mem) : Fm A μ (fX12_proofIn_122_123  v2 v3 μ) := by
  unfold fX12_proofIn_122_123
  with_reducible repeat' first | assumption | exact Fr.refl | refine fr_sI ?_ rfl | refine fr_sL ?_ rfl | refine fr_sC ?_ rfl | exact fm_none | refine fm_some ?_ | refine fm_gd ?_ | refine fm_ite ?_ ?_ | refine fm_ltm ?_ (fun _ _ => ?_) | refine fm_lt ?_ | intro _ _ _ _ _ _ _ _ _ _ | intro _ _ _ _ _ _ _ _ _ | intro _ _ _ _ _ _ _ _ | intro _ _ _ _ _ _ _ | intro _ _ _ _ _ _ | intro _ _ _ _ _ | intro _ _ _ _ | intro _ _ _ | intro _ _ | intro _ | (apply fm_bnd; first | refine fr_fX12_proofIn_122_123_b6  _ _ _ _ _ _) | (apply fm_tl; first | refine fr_fX12_proofIn_122_123_b6  _ _ _ _ _ _)
theorem fr_fX12_valuesOf_122_b4 {A : Nat → Bool}  : ∀ n a0 a1 a2 μ, Fm A μ (fX12_valuesOf_122_b4  n a0 a1 a2 μ) := by
  intro n
  induction n with
  | zero =>
    intros
    exact fm_none
  | succ n ih =>
    intro a0 a1 a2 μ
    rw [fX12_valuesOf_122_b4]
    with_reducible repeat' first | assumption | exact Fr.refl | refine fr_sI ?_ rfl | refine fr_sL ?_ rfl | refine fr_sC ?_ rfl | exact fm_none | refine fm_some ?_ | refine fm_gd ?_ | refine fm_ite ?_ ?_ | refine fm_ltm ?_ (fun _ _ => ?_) | refine fm_lt ?_ | intro _ _ _ _ _ _ _ _ _ _ | intro _ _ _ _ _ _ _ _ _ | intro _ _ _ _ _ _ _ _ | intro _ _ _ _ _ _ _ | intro _ _ _ _ _ _ | intro _ _ _ _ _ | intro _ _ _ _ | intro _ _ _ | intro _ _ | intro _ | (apply fm_bnd; first | refine fr_fX12_has  _ _ _ | exact ih _ _ _ _) | (apply fm_tl; first | refine fr_fX12_has  _ _ _ | exact ih _ _ _ _)
theorem fr_fX12_valuesOf_122 {A : Nat → Bool}  (v1 : Int32) (μ : Mem) : Fm A μ (fX12_valuesOf_122  v1 μ) := by
  unfold fX12_valuesOf_122
  with_reducible repeat' first | assumption | exact Fr.refl | refine fr_sI ?_ rfl | refine fr_sL ?_ rfl | refine fr_sC ?_ rfl | exact fm_none | refine fm_some ?_ | refine fm_gd ?_ | refine fm_ite ?_ ?_ | refine fm_ltm ?_ (fun _ _ => ?_) | refine fm_lt ?_ | intro _ _ _ _ _ _ _ _ _ _ | intro _ _ _ _ _ _ _ _ _ | intro _ _ _ _ _ _ _ _ | intro _ _ _ _ _ _ _ | intro _ _ _ _ _ _ | intro _ _ _ _ _ | intro _ _ _ _ | intro _ _ _ | intro _ _ | intro _ | (apply fm_bnd; first | refine fr_fX12_valuesOf_122_b4  _ _ _ _ _) | (apply fm_tl; first | refine fr_fX12_valuesOf_122_b4  _ _ _ _ _)
theorem fr_fX12_prisoner_122_b23   (μ : Mem) : Fm aM μ (fX12_prisoner_122_b23   μ) := by
  unfold fX12_prisoner_122_b23
  with_reducible repeat' first | assumption | exact Fr.refl | refine fr_sI ?_ rfl | refine fr_sL ?_ rfl | refine fr_sC ?_ rfl | exact fm_none | refine fm_some ?_ | refine fm_gd ?_ | refine fm_ite ?_ ?_ | refine fm_ltm ?_ (fun _ _ => ?_) | refine fm_lt ?_ | intro _ _ _ _ _ _ _ _ _ _ | intro _ _ _ _ _ _ _ _ _ | intro _ _ _ _ _ _ _ _ | intro _ _ _ _ _ _ _ | intro _ _ _ _ _ _ | intro _ _ _ _ _ | intro _ _ _ _ | intro _ _ _ | intro _ _ | intro _ | (apply fm_bnd; first | refine fr_fX12_lost_122  _) | (apply fm_tl; first | refine fr_fX12_lost_122  _)
theorem fr_fX12_prisoner_122  (v1 : Int32) (v2 : Int32) (μ : Mem) : Fm aM μ (fX12_prisoner_122  v1 v2 μ) := by
  unfold fX12_prisoner_122
  with_reducible repeat' first | assumption | exact Fr.refl | refine fr_sI ?_ rfl | refine fr_sL ?_ rfl | refine fr_sC ?_ rfl | exact fm_none | refine fm_some ?_ | refine fm_gd ?_ | refine fm_ite ?_ ?_ | refine fm_ltm ?_ (fun _ _ => ?_) | refine fm_lt ?_ | intro _ _ _ _ _ _ _ _ _ _ | intro _ _ _ _ _ _ _ _ _ | intro _ _ _ _ _ _ _ _ | intro _ _ _ _ _ _ _ | intro _ _ _ _ _ _ | intro _ _ _ _ _ | intro _ _ _ _ | intro _ _ _ | intro _ _ | intro _ | (apply fm_bnd; first | refine fr_fX12_in  _ _ _ _ | refine fr_fX12_isMan_122  _ _ | refine fr_fX12_prisoner_122_b23  _ | refine fr_fX12_proofIn_122_123  _ _ _ | refine fr_fX12_leftNow_122_123  _ _ | refine fr_fX12_valuesOf_122  _ _) | (apply fm_tl; first | refine fr_fX12_in  _ _ _ _ | refine fr_fX12_isMan_122  _ _ | refine fr_fX12_prisoner_122_b23  _ | refine fr_fX12_proofIn_122_123  _ _ _ | refine fr_fX12_leftNow_122_123  _ _ | refine fr_fX12_valuesOf_122  _ _)
theorem fr_fX12_thrown_122 {A : Nat → Bool}   (μ : Mem) : Fm A μ (fX12_thrown_122   μ) := by
  unfold fX12_thrown_122
  with_reducible repeat' first | assumption | exact Fr.refl | refine fr_sI ?_ rfl | refine fr_sL ?_ rfl | refine fr_sC ?_ rfl | exact fm_none | refine fm_some ?_ | refine fm_gd ?_ | refine fm_ite ?_ ?_ | refine fm_ltm ?_ (fun _ _ => ?_) | refine fm_lt ?_ | intro _ _ _ _ _ _ _ _ _ _ | intro _ _ _ _ _ _ _ _ _ | intro _ _ _ _ _ _ _ _ | intro _ _ _ _ _ _ _ | intro _ _ _ _ _ _ | intro _ _ _ _ _ | intro _ _ _ _ | intro _ _ _ | intro _ _ | intro _
theorem fr_fX12_witness_122_b28   (μ : Mem) : Fm aM μ (fX12_witness_122_b28   μ) := by
  unfold fX12_witness_122_b28
  with_reducible repeat' first | assumption | exact Fr.refl | refine fr_sI ?_ rfl | refine fr_sL ?_ rfl | refine fr_sC ?_ rfl | exact fm_none | refine fm_some ?_ | refine fm_gd ?_ | refine fm_ite ?_ ?_ | refine fm_ltm ?_ (fun _ _ => ?_) | refine fm_lt ?_ | intro _ _ _ _ _ _ _ _ _ _ | intro _ _ _ _ _ _ _ _ _ | intro _ _ _ _ _ _ _ _ | intro _ _ _ _ _ _ _ | intro _ _ _ _ _ _ | intro _ _ _ _ _ | intro _ _ _ _ | intro _ _ _ | intro _ _ | intro _ | (apply fm_bnd; first | refine fr_fX12_lost_122  _) | (apply fm_tl; first | refine fr_fX12_lost_122  _)
theorem fr_fX12_witness_122  (v1 : Int32) (v2 : Int32) (μ : Mem) : Fm aM μ (fX12_witness_122  v1 v2 μ) := by
  unfold fX12_witness_122
  with_reducible repeat' first | assumption | exact Fr.refl | refine fr_sI ?_ rfl | refine fr_sL ?_ rfl | refine fr_sC ?_ rfl | exact fm_none | refine fm_some ?_ | refine fm_gd ?_ | refine fm_ite ?_ ?_ | refine fm_ltm ?_ (fun _ _ => ?_) | refine fm_lt ?_ | intro _ _ _ _ _ _ _ _ _ _ | intro _ _ _ _ _ _ _ _ _ | intro _ _ _ _ _ _ _ _ | intro _ _ _ _ _ _ _ | intro _ _ _ _ _ _ | intro _ _ _ _ _ | intro _ _ _ _ | intro _ _ _ | intro _ _ | intro _ | (apply fm_bnd; first | refine fr_fX12_witness_122_b28  _ | refine fr_fX12_in  _ _ _ _) | (apply fm_tl; first | refine fr_fX12_witness_122_b28  _ | refine fr_fX12_in  _ _ _ _)
theorem fr_fX11_ends_0  (v1 : Int32) (μ : Mem) : Fm aC μ (fX11_ends_0  v1 μ) := by
  unfold fX11_ends_0
  with_reducible repeat' first | assumption | exact Fr.refl | refine fr_sI ?_ rfl | refine fr_sL ?_ rfl | refine fr_sC ?_ rfl | exact fm_none | refine fm_some ?_ | refine fm_gd ?_ | refine fm_ite ?_ ?_ | refine fm_ltm ?_ (fun _ _ => ?_) | refine fm_lt ?_ | intro _ _ _ _ _ _ _ _ _ _ | intro _ _ _ _ _ _ _ _ _ | intro _ _ _ _ _ _ _ _ | intro _ _ _ _ _ _ _ | intro _ _ _ _ _ _ | intro _ _ _ _ _ | intro _ _ _ _ | intro _ _ _ | intro _ _ | intro _
theorem fr_fX12_ends_122  (v1 : Int32) (μ : Mem) : Fm aM μ (fX12_ends_122  v1 μ) := by
  unfold fX12_ends_122
  with_reducible repeat' first | assumption | exact Fr.refl | refine fr_sI ?_ rfl | refine fr_sL ?_ rfl | refine fr_sC ?_ rfl | exact fm_none | refine fm_some ?_ | refine fm_gd ?_ | refine fm_ite ?_ ?_ | refine fm_ltm ?_ (fun _ _ => ?_) | refine fm_lt ?_ | intro _ _ _ _ _ _ _ _ _ _ | intro _ _ _ _ _ _ _ _ _ | intro _ _ _ _ _ _ _ _ | intro _ _ _ _ _ _ _ | intro _ _ _ _ _ _ | intro _ _ _ _ _ | intro _ _ _ _ | intro _ _ _ | intro _ _ | intro _
theorem fr_fX11_fearOnSheet_b20 {A : Nat → Bool}  (p2 : Int32) (μ : Mem) : Fm A μ (fX11_fearOnSheet_b20  p2 μ) := by
  unfold fX11_fearOnSheet_b20
  with_reducible repeat' first | assumption | exact Fr.refl | refine fr_sI ?_ rfl | refine fr_sL ?_ rfl | refine fr_sC ?_ rfl | exact fm_none | refine fm_some ?_ | refine fm_gd ?_ | refine fm_ite ?_ ?_ | refine fm_ltm ?_ (fun _ _ => ?_) | refine fm_lt ?_ | intro _ _ _ _ _ _ _ _ _ _ | intro _ _ _ _ _ _ _ _ _ | intro _ _ _ _ _ _ _ _ | intro _ _ _ _ _ _ _ | intro _ _ _ _ _ _ | intro _ _ _ _ _ | intro _ _ _ _ | intro _ _ _ | intro _ _ | intro _
theorem fr_fX11_fearOnSheet {A : Nat → Bool}  (v0 : Int32) (v1 : Int32) (μ : Mem) : Fm A μ (fX11_fearOnSheet  v0 v1 μ) := by
  unfold fX11_fearOnSheet
  with_reducible repeat' first | assumption | exact Fr.refl | refine fr_sI ?_ rfl | refine fr_sL ?_ rfl | refine fr_sC ?_ rfl | exact fm_none | refine fm_some ?_ | refine fm_gd ?_ | refine fm_ite ?_ ?_ | refine fm_ltm ?_ (fun _ _ => ?_) | refine fm_lt ?_ | intro _ _ _ _ _ _ _ _ _ _ | intro _ _ _ _ _ _ _ _ _ | intro _ _ _ _ _ _ _ _ | intro _ _ _ _ _ _ _ | intro _ _ _ _ _ _ | intro _ _ _ _ _ | intro _ _ _ _ | intro _ _ _ | intro _ _ | intro _ | (apply fm_bnd; first | refine fr_fX11_fearOnSheet_b20  _ _) | (apply fm_tl; first | refine fr_fX11_fearOnSheet_b20  _ _)
theorem fr_fX11_sheet_0_b106 {k47 : Int32 → Int32 → Int32 → Int32 → Int32 → Int32 → Int32 → Mem → Option (Int32 × Mem)} (hk47 : ∀ x0 x1 x2 x3 x4 x5 x6 m, Fm aC m (k47 x0 x1 x2 x3 x4 x5 x6 m)) (p1 : Int32) (p2 : Int32) (p3 : Int32) (p4 : Int32) (p5 : Int32) (p6 : Int32) (p7 : Int32) (q0 : Int32) (q1 : Int32) (μ : Mem) : Fm aC μ (fX11_sheet_0_b106 k47 p1 p2 p3 p4 p5 p6 p7 q0 q1 μ) := by
  unfold fX11_sheet_0_b106
  with_reducible repeat' first | assumption | exact Fr.refl | refine fr_sI ?_ rfl | refine fr_sL ?_ rfl | refine fr_sC ?_ rfl | exact fm_none | refine fm_some ?_ | refine fm_gd ?_ | refine fm_ite ?_ ?_ | refine fm_ltm ?_ (fun _ _ => ?_) | refine fm_lt ?_ | intro _ _ _ _ _ _ _ _ _ _ | intro _ _ _ _ _ _ _ _ _ | intro _ _ _ _ _ _ _ _ | intro _ _ _ _ _ _ _ | intro _ _ _ _ _ _ | intro _ _ _ _ _ | intro _ _ _ _ | intro _ _ _ | intro _ _ | intro _ | (apply fm_bnd; first | exact hk47 _ _ _ _ _ _ _ _) | (apply fm_tl; first | exact hk47 _ _ _ _ _ _ _ _)
theorem fr_fX11_sheet_0_b75 {k47 : Int32 → Int32 → Int32 → Int32 → Int32 → Int32 → Int32 → Mem → Option (Int32 × Mem)} (hk47 : ∀ x0 x1 x2 x3 x4 x5 x6 m, Fm aC m (k47 x0 x1 x2 x3 x4 x5 x6 m)) (p1 : Int32) (p2 : Int32) (p3 : Int32) (p4 : Int32) (p5 : Int32) (p6 : Int32) (p7 : Int32) (q0 : Int32) (μ : Mem) : Fm aC μ (fX11_sheet_0_b75 k47 p1 p2 p3 p4 p5 p6 p7 q0 μ) := by
  unfold fX11_sheet_0_b75
  with_reducible repeat' first | assumption | exact Fr.refl | refine fr_sI ?_ rfl | refine fr_sL ?_ rfl | refine fr_sC ?_ rfl | exact fm_none | refine fm_some ?_ | refine fm_gd ?_ | refine fm_ite ?_ ?_ | refine fm_ltm ?_ (fun _ _ => ?_) | refine fm_lt ?_ | intro _ _ _ _ _ _ _ _ _ _ | intro _ _ _ _ _ _ _ _ _ | intro _ _ _ _ _ _ _ _ | intro _ _ _ _ _ _ _ | intro _ _ _ _ _ _ | intro _ _ _ _ _ | intro _ _ _ _ | intro _ _ _ | intro _ _ | intro _ | (apply fm_bnd; first | refine fr_fX11_sheet_0_b106 ?_ _ _ _ _ _ _ _ _ _ _ | refine fr_fX11_fearOnSheet  _ _ _ | exact hk47 _ _ _ _ _ _ _ _) | (apply fm_tl; first | refine fr_fX11_sheet_0_b106 ?_ _ _ _ _ _ _ _ _ _ _ | refine fr_fX11_fearOnSheet  _ _ _ | exact hk47 _ _ _ _ _ _ _ _)
theorem fr_fX11_sheet_0_b74 {k47 : Int32 → Int32 → Int32 → Int32 → Int32 → Int32 → Int32 → Mem → Option (Int32 × Mem)} (hk47 : ∀ x0 x1 x2 x3 x4 x5 x6 m, Fm aC m (k47 x0 x1 x2 x3 x4 x5 x6 m)) (p1 : Int32) (p2 : Int32) (p3 : Int32) (p4 : Int32) (p5 : Int32) (p6 : Int32) (p7 : Int32) (μ : Mem) : Fm aC μ (fX11_sheet_0_b74 k47 p1 p2 p3 p4 p5 p6 p7 μ) := by
  unfold fX11_sheet_0_b74
  with_reducible repeat' first | assumption | exact Fr.refl | refine fr_sI ?_ rfl | refine fr_sL ?_ rfl | refine fr_sC ?_ rfl | exact fm_none | refine fm_some ?_ | refine fm_gd ?_ | refine fm_ite ?_ ?_ | refine fm_ltm ?_ (fun _ _ => ?_) | refine fm_lt ?_ | intro _ _ _ _ _ _ _ _ _ _ | intro _ _ _ _ _ _ _ _ _ | intro _ _ _ _ _ _ _ _ | intro _ _ _ _ _ _ _ | intro _ _ _ _ _ _ | intro _ _ _ _ _ | intro _ _ _ _ | intro _ _ _ | intro _ _ | intro _ | (apply fm_bnd; first | refine fr_fX11_sheet_0_b75 ?_ _ _ _ _ _ _ _ _ _ | exact hk47 _ _ _ _ _ _ _ _) | (apply fm_tl; first | refine fr_fX11_sheet_0_b75 ?_ _ _ _ _ _ _ _ _ _ | exact hk47 _ _ _ _ _ _ _ _)
theorem fr_fX11_sheet_0_b47  : ∀ n a0 a1 a2 a3 a4 a5 a6 μ, Fm aC μ (fX11_sheet_0_b47  n a0 a1 a2 a3 a4 a5 a6 μ) := by
  intro n
  induction n with
  | zero =>
    intros
    exact fm_none
  | succ n ih =>
    intro a0 a1 a2 a3 a4 a5 a6 μ
    rw [fX11_sheet_0_b47]
    with_reducible repeat' first | assumption | exact Fr.refl | refine fr_sI ?_ rfl | refine fr_sL ?_ rfl | refine fr_sC ?_ rfl | exact fm_none | refine fm_some ?_ | refine fm_gd ?_ | refine fm_ite ?_ ?_ | refine fm_ltm ?_ (fun _ _ => ?_) | refine fm_lt ?_ | intro _ _ _ _ _ _ _ _ _ _ | intro _ _ _ _ _ _ _ _ _ | intro _ _ _ _ _ _ _ _ | intro _ _ _ _ _ _ _ | intro _ _ _ _ _ _ | intro _ _ _ _ _ | intro _ _ _ _ | intro _ _ _ | intro _ _ | intro _ | (apply fm_bnd; first | refine fr_fX11_sheet_0_b75 ?_ _ _ _ _ _ _ _ _ _ | exact ih _ _ _ _ _ _ _ _ | refine fr_fX11_sheet_0_b74 ?_ _ _ _ _ _ _ _ _) | (apply fm_tl; first | refine fr_fX11_sheet_0_b75 ?_ _ _ _ _ _ _ _ _ _ | exact ih _ _ _ _ _ _ _ _ | refine fr_fX11_sheet_0_b74 ?_ _ _ _ _ _ _ _ _)
theorem fr_fX11_sheet_0_b27  (p1 : Int32) (p2 : Int32) (p3 : Int32) (p4 : Int32) (q0 : Int32) (μ : Mem) : Fm aC μ (fX11_sheet_0_b27  p1 p2 p3 p4 q0 μ) := by
  unfold fX11_sheet_0_b27
  with_reducible repeat' first | assumption | exact Fr.refl | refine fr_sI ?_ rfl | refine fr_sL ?_ rfl | refine fr_sC ?_ rfl | exact fm_none | refine fm_some ?_ | refine fm_gd ?_ | refine fm_ite ?_ ?_ | refine fm_ltm ?_ (fun _ _ => ?_) | refine fm_lt ?_ | intro _ _ _ _ _ _ _ _ _ _ | intro _ _ _ _ _ _ _ _ _ | intro _ _ _ _ _ _ _ _ | intro _ _ _ _ _ _ _ | intro _ _ _ _ _ _ | intro _ _ _ _ _ | intro _ _ _ _ | intro _ _ _ | intro _ _ | intro _ | (apply fm_bnd; first | refine fr_fX11_sheet_0_b47  _ _ _ _ _ _ _ _ _) | (apply fm_tl; first | refine fr_fX11_sheet_0_b47  _ _ _ _ _ _ _ _ _)
theorem fr_fX11_sheet_0  (v1 : Int32) (v2 : Int32) (v3 : Int32) (v4 : Int32) (μ : Mem) : Fm aC μ (fX11_sheet_0  v1 v2 v3 v4 μ) := by
  unfold fX11_sheet_0
  with_reducible repeat' first | assumption | exact Fr.refl | refine fr_sI ?_ rfl | refine fr_sL ?_ rfl | refine fr_sC ?_ rfl | exact fm_none | refine fm_some ?_ | refine fm_gd ?_ | refine fm_ite ?_ ?_ | refine fm_ltm ?_ (fun _ _ => ?_) | refine fm_lt ?_ | intro _ _ _ _ _ _ _ _ _ _ | intro _ _ _ _ _ _ _ _ _ | intro _ _ _ _ _ _ _ _ | intro _ _ _ _ _ _ _ | intro _ _ _ _ _ _ | intro _ _ _ _ _ | intro _ _ _ _ | intro _ _ _ | intro _ _ | intro _ | (apply fm_bnd; first | refine fr_fX11_sheet_0_b27  _ _ _ _ _ _) | (apply fm_tl; first | refine fr_fX11_sheet_0_b27  _ _ _ _ _ _)
theorem fr_fX12_sheet_122_b109 {k43 : Int32 → Int32 → Int32 → Int32 → Int32 → Int32 → Mem → Option (Int32 × Mem)} (hk43 : ∀ x0 x1 x2 x3 x4 x5 m, Fm aM m (k43 x0 x1 x2 x3 x4 x5 m)) (p1 : Int32) (p2 : Int32) (p4 : Int32) (p5 : Int32) (p6 : Int32) (p7 : Int32) (q0 : Int32) (q1 : Int32) (μ : Mem) : Fm aM μ (fX12_sheet_122_b109 k43 p1 p2 p4 p5 p6 p7 q0 q1 μ) := by
  unfold fX12_sheet_122_b109
  with_reducible repeat' first | assumption | exact Fr.refl | refine fr_sI ?_ rfl | refine fr_sL ?_ rfl | refine fr_sC ?_ rfl | exact fm_none | refine fm_some ?_ | refine fm_gd ?_ | refine fm_ite ?_ ?_ | refine fm_ltm ?_ (fun _ _ => ?_) | refine fm_lt ?_ | intro _ _ _ _ _ _ _ _ _ _ | intro _ _ _ _ _ _ _ _ _ | intro _ _ _ _ _ _ _ _ | intro _ _ _ _ _ _ _ | intro _ _ _ _ _ _ | intro _ _ _ _ _ | intro _ _ _ _ | intro _ _ _ | intro _ _ | intro _ | (apply fm_bnd; first | exact hk43 _ _ _ _ _ _ _) | (apply fm_tl; first | exact hk43 _ _ _ _ _ _ _)
theorem fr_fX12_sheet_122_b75 {k43 : Int32 → Int32 → Int32 → Int32 → Int32 → Int32 → Mem → Option (Int32 × Mem)} (hk43 : ∀ x0 x1 x2 x3 x4 x5 m, Fm aM m (k43 x0 x1 x2 x3 x4 x5 m)) (p1 : Int32) (p2 : Int32) (p4 : Int32) (p5 : Int32) (p6 : Int32) (p7 : Int32) (q0 : Int32) (μ : Mem) : Fm aM μ (fX12_sheet_122_b75 k43 p1 p2 p4 p5 p6 p7 q0 μ) := by
  unfold fX12_sheet_122_b75
  with_reducible repeat' first | assumption | exact Fr.refl | refine fr_sI ?_ rfl | refine fr_sL ?_ rfl | refine fr_sC ?_ rfl | exact fm_none | refine fm_some ?_ | refine fm_gd ?_ | refine fm_ite ?_ ?_ | refine fm_ltm ?_ (fun _ _ => ?_) | refine fm_lt ?_ | intro _ _ _ _ _ _ _ _ _ _ | intro _ _ _ _ _ _ _ _ _ | intro _ _ _ _ _ _ _ _ | intro _ _ _ _ _ _ _ | intro _ _ _ _ _ _ | intro _ _ _ _ _ | intro _ _ _ _ | intro _ _ _ | intro _ _ | intro _ | (apply fm_bnd; first | refine fr_fX12_sheet_122_b109 ?_ _ _ _ _ _ _ _ _ _ | exact hk43 _ _ _ _ _ _ _) | (apply fm_tl; first | refine fr_fX12_sheet_122_b109 ?_ _ _ _ _ _ _ _ _ _ | exact hk43 _ _ _ _ _ _ _)
theorem fr_fX12_sheet_122_b43  : ∀ n a0 a1 a2 a3 a4 a5 μ, Fm aM μ (fX12_sheet_122_b43  n a0 a1 a2 a3 a4 a5 μ) := by
  intro n
  induction n with
  | zero =>
    intros
    exact fm_none
  | succ n ih =>
    intro a0 a1 a2 a3 a4 a5 μ
    rw [fX12_sheet_122_b43]
    with_reducible repeat' first | assumption | exact Fr.refl | refine fr_sI ?_ rfl | refine fr_sL ?_ rfl | refine fr_sC ?_ rfl | exact fm_none | refine fm_some ?_ | refine fm_gd ?_ | refine fm_ite ?_ ?_ | refine fm_ltm ?_ (fun _ _ => ?_) | refine fm_lt ?_ | intro _ _ _ _ _ _ _ _ _ _ | intro _ _ _ _ _ _ _ _ _ | intro _ _ _ _ _ _ _ _ | intro _ _ _ _ _ _ _ | intro _ _ _ _ _ _ | intro _ _ _ _ _ | intro _ _ _ _ | intro _ _ _ | intro _ _ | intro _ | (apply fm_bnd; first | refine fr_fX12_sheet_122_b75 ?_ _ _ _ _ _ _ _ _ | exact ih _ _ _ _ _ _ _) | (apply fm_tl; first | refine fr_fX12_sheet_122_b75 ?_ _ _ _ _ _ _ _ _ | exact ih _ _ _ _ _ _ _)
theorem fr_fX12_sheet_122_b34  (p1 : Int32) (p2 : Int32) (p3 : Int32) (p4 : Int32) (μ : Mem) : Fm aM μ (fX12_sheet_122_b34  p1 p2 p3 p4 μ) := by
  unfold fX12_sheet_122_b34
  with_reducible repeat' first | assumption | exact Fr.refl | refine fr_sI ?_ rfl | refine fr_sL ?_ rfl | refine fr_sC ?_ rfl | exact fm_none | refine fm_some ?_ | refine fm_gd ?_ | refine fm_ite ?_ ?_ | refine fm_ltm ?_ (fun _ _ => ?_) | refine fm_lt ?_ | intro _ _ _ _ _ _ _ _ _ _ | intro _ _ _ _ _ _ _ _ _ | intro _ _ _ _ _ _ _ _ | intro _ _ _ _ _ _ _ | intro _ _ _ _ _ _ | intro _ _ _ _ _ | intro _ _ _ _ | intro _ _ _ | intro _ _ | intro _ | (apply fm_bnd; first | refine fr_fX12_sheet_122_b43  _ _ _ _ _ _ _ _) | (apply fm_tl; first | refine fr_fX12_sheet_122_b43  _ _ _ _ _ _ _ _)
theorem fr_fX12_sheet_122  (v1 : Int32) (v2 : Int32) (v3 : Int32) (v4 : Int32) (μ : Mem) : Fm aM μ (fX12_sheet_122  v1 v2 v3 v4 μ) := by
  unfold fX12_sheet_122
  with_reducible repeat' first | assumption | exact Fr.refl | refine fr_sI ?_ rfl | refine fr_sL ?_ rfl | refine fr_sC ?_ rfl | exact fm_none | refine fm_some ?_ | refine fm_gd ?_ | refine fm_ite ?_ ?_ | refine fm_ltm ?_ (fun _ _ => ?_) | refine fm_lt ?_ | intro _ _ _ _ _ _ _ _ _ _ | intro _ _ _ _ _ _ _ _ _ | intro _ _ _ _ _ _ _ _ | intro _ _ _ _ _ _ _ | intro _ _ _ _ _ _ | intro _ _ _ _ _ | intro _ _ _ _ | intro _ _ _ | intro _ _ | intro _ | (apply fm_bnd; first | refine fr_fX12_sheet_122_b34  _ _ _ _ _ | refine fr_fX12_in  _ _ _ _) | (apply fm_tl; first | refine fr_fX12_sheet_122_b34  _ _ _ _ _ | refine fr_fX12_in  _ _ _ _)
theorem fr_fX6_seal_29   (μ : Mem) : Fm aC μ (fX6_seal_29   μ) := by
  unfold fX6_seal_29
  with_reducible repeat' first | assumption | exact Fr.refl | refine fr_sI ?_ rfl | refine fr_sL ?_ rfl | refine fr_sC ?_ rfl | exact fm_none | refine fm_some ?_ | refine fm_gd ?_ | refine fm_ite ?_ ?_ | refine fm_ltm ?_ (fun _ _ => ?_) | refine fm_lt ?_ | intro _ _ _ _ _ _ _ _ _ _ | intro _ _ _ _ _ _ _ _ _ | intro _ _ _ _ _ _ _ _ | intro _ _ _ _ _ _ _ | intro _ _ _ _ _ _ | intro _ _ _ _ _ | intro _ _ _ _ | intro _ _ _ | intro _ _ | intro _
theorem fr_fX11_doneBy_0  (v1 : Int32) (μ : Mem) : Fm aC μ (fX11_doneBy_0  v1 μ) := by
  unfold fX11_doneBy_0
  with_reducible repeat' first | assumption | exact Fr.refl | refine fr_sI ?_ rfl | refine fr_sL ?_ rfl | refine fr_sC ?_ rfl | exact fm_none | refine fm_some ?_ | refine fm_gd ?_ | refine fm_ite ?_ ?_ | refine fm_ltm ?_ (fun _ _ => ?_) | refine fm_lt ?_ | intro _ _ _ _ _ _ _ _ _ _ | intro _ _ _ _ _ _ _ _ _ | intro _ _ _ _ _ _ _ _ | intro _ _ _ _ _ _ _ | intro _ _ _ _ _ _ | intro _ _ _ _ _ | intro _ _ _ _ | intro _ _ _ | intro _ _ | intro _ | (apply fm_bnd; first | refine fr_fX6_seal_29  _) | (apply fm_tl; first | refine fr_fX6_seal_29  _)
theorem fr_fX4_has_33 {A : Nat → Bool}  (v1 : Int32) (μ : Mem) : Fm A μ (fX4_has_33  v1 μ) := by
  unfold fX4_has_33
  with_reducible repeat' first | assumption | exact Fr.refl | refine fr_sI ?_ rfl | refine fr_sL ?_ rfl | refine fr_sC ?_ rfl | exact fm_none | refine fm_some ?_ | refine fm_gd ?_ | refine fm_ite ?_ ?_ | refine fm_ltm ?_ (fun _ _ => ?_) | refine fm_lt ?_ | intro _ _ _ _ _ _ _ _ _ _ | intro _ _ _ _ _ _ _ _ _ | intro _ _ _ _ _ _ _ _ | intro _ _ _ _ _ _ _ | intro _ _ _ _ _ _ | intro _ _ _ _ _ | intro _ _ _ _ | intro _ _ _ | intro _ _ | intro _
theorem fr_fX4_isSilent_33 {A : Nat → Bool}  (v1 : Int32) (μ : Mem) : Fm A μ (fX4_isSilent_33  v1 μ) := by
  unfold fX4_isSilent_33
  with_reducible repeat' first | assumption | exact Fr.refl | refine fr_sI ?_ rfl | refine fr_sL ?_ rfl | refine fr_sC ?_ rfl | exact fm_none | refine fm_some ?_ | refine fm_gd ?_ | refine fm_ite ?_ ?_ | refine fm_ltm ?_ (fun _ _ => ?_) | refine fm_lt ?_ | intro _ _ _ _ _ _ _ _ _ _ | intro _ _ _ _ _ _ _ _ _ | intro _ _ _ _ _ _ _ _ | intro _ _ _ _ _ _ _ | intro _ _ _ _ _ _ | intro _ _ _ _ _ | intro _ _ _ _ | intro _ _ _ | intro _ _ | intro _
theorem fr_fX4_layOn_33  (v1 : Int32) (v2 : Int32) (μ : Mem) : Fm aC μ (fX4_layOn_33  v1 v2 μ) := by
  unfold fX4_layOn_33
  with_reducible repeat' first | assumption | exact Fr.refl | refine fr_sI ?_ rfl | refine fr_sL ?_ rfl | refine fr_sC ?_ rfl | exact fm_none | refine fm_some ?_ | refine fm_gd ?_ | refine fm_ite ?_ ?_ | refine fm_ltm ?_ (fun _ _ => ?_) | refine fm_lt ?_ | intro _ _ _ _ _ _ _ _ _ _ | intro _ _ _ _ _ _ _ _ _ | intro _ _ _ _ _ _ _ _ | intro _ _ _ _ _ _ _ | intro _ _ _ _ _ _ | intro _ _ _ _ _ | intro _ _ _ _ | intro _ _ _ | intro _ _ | intro _ | (apply fm_bnd; first | refine fr_fX4_isSilent_33  _ _ | refine fr_fX4_has_33  _ _) | (apply fm_tl; first | refine fr_fX4_isSilent_33  _ _ | refine fr_fX4_has_33  _ _)
theorem fr_fX4_take_103_33   (μ : Mem) : Fm aC μ (fX4_take_103_33   μ) := by
  unfold fX4_take_103_33
  with_reducible repeat' first | assumption | exact Fr.refl | refine fr_sI ?_ rfl | refine fr_sL ?_ rfl | refine fr_sC ?_ rfl | exact fm_none | refine fm_some ?_ | refine fm_gd ?_ | refine fm_ite ?_ ?_ | refine fm_ltm ?_ (fun _ _ => ?_) | refine fm_lt ?_ | intro _ _ _ _ _ _ _ _ _ _ | intro _ _ _ _ _ _ _ _ _ | intro _ _ _ _ _ _ _ _ | intro _ _ _ _ _ _ _ | intro _ _ _ _ _ _ | intro _ _ _ _ _ | intro _ _ _ _ | intro _ _ _ | intro _ _ | intro _
theorem fr_fX4_take_43_33   (μ : Mem) : Fm aC μ (fX4_take_43_33   μ) := by
  unfold fX4_take_43_33
  with_reducible repeat' first | assumption | exact Fr.refl | refine fr_sI ?_ rfl | refine fr_sL ?_ rfl | refine fr_sC ?_ rfl | exact fm_none | refine fm_some ?_ | refine fm_gd ?_ | refine fm_ite ?_ ?_ | refine fm_ltm ?_ (fun _ _ => ?_) | refine fm_lt ?_ | intro _ _ _ _ _ _ _ _ _ _ | intro _ _ _ _ _ _ _ _ _ | intro _ _ _ _ _ _ _ _ | intro _ _ _ _ _ _ _ | intro _ _ _ _ _ _ | intro _ _ _ _ _ | intro _ _ _ _ | intro _ _ _ | intro _ _ | intro _
theorem fr_fX4_take_48_33   (μ : Mem) : Fm aC μ (fX4_take_48_33   μ) := by
  unfold fX4_take_48_33
  with_reducible repeat' first | assumption | exact Fr.refl | refine fr_sI ?_ rfl | refine fr_sL ?_ rfl | refine fr_sC ?_ rfl | exact fm_none | refine fm_some ?_ | refine fm_gd ?_ | refine fm_ite ?_ ?_ | refine fm_ltm ?_ (fun _ _ => ?_) | refine fm_lt ?_ | intro _ _ _ _ _ _ _ _ _ _ | intro _ _ _ _ _ _ _ _ _ | intro _ _ _ _ _ _ _ _ | intro _ _ _ _ _ _ _ | intro _ _ _ _ _ _ | intro _ _ _ _ _ | intro _ _ _ _ | intro _ _ _ | intro _ _ | intro _
theorem fr_fX4_take_53_33   (μ : Mem) : Fm aC μ (fX4_take_53_33   μ) := by
  unfold fX4_take_53_33
  with_reducible repeat' first | assumption | exact Fr.refl | refine fr_sI ?_ rfl | refine fr_sL ?_ rfl | refine fr_sC ?_ rfl | exact fm_none | refine fm_some ?_ | refine fm_gd ?_ | refine fm_ite ?_ ?_ | refine fm_ltm ?_ (fun _ _ => ?_) | refine fm_lt ?_ | intro _ _ _ _ _ _ _ _ _ _ | intro _ _ _ _ _ _ _ _ _ | intro _ _ _ _ _ _ _ _ | intro _ _ _ _ _ _ _ | intro _ _ _ _ _ _ | intro _ _ _ _ _ | intro _ _ _ _ | intro _ _ _ | intro _ _ | intro _
theorem fr_fX4_take_58_33   (μ : Mem) : Fm aC μ (fX4_take_58_33   μ) := by
  unfold fX4_take_58_33
  with_reducible repeat' first | assumption | exact Fr.refl | refine fr_sI ?_ rfl | refine fr_sL ?_ rfl | refine fr_sC ?_ rfl | exact fm_none | refine fm_some ?_ | refine fm_gd ?_ | refine fm_ite ?_ ?_ | refine fm_ltm ?_ (fun _ _ => ?_) | refine fm_lt ?_ | intro _ _ _ _ _ _ _ _ _ _ | intro _ _ _ _ _ _ _ _ _ | intro _ _ _ _ _ _ _ _ | intro _ _ _ _ _ _ _ | intro _ _ _ _ _ _ | intro _ _ _ _ _ | intro _ _ _ _ | intro _ _ _ | intro _ _ | intro _
theorem fr_fX4_take_63_33   (μ : Mem) : Fm aC μ (fX4_take_63_33   μ) := by
  unfold fX4_take_63_33
  with_reducible repeat' first | assumption | exact Fr.refl | refine fr_sI ?_ rfl | refine fr_sL ?_ rfl | refine fr_sC ?_ rfl | exact fm_none | refine fm_some ?_ | refine fm_gd ?_ | refine fm_ite ?_ ?_ | refine fm_ltm ?_ (fun _ _ => ?_) | refine fm_lt ?_ | intro _ _ _ _ _ _ _ _ _ _ | intro _ _ _ _ _ _ _ _ _ | intro _ _ _ _ _ _ _ _ | intro _ _ _ _ _ _ _ | intro _ _ _ _ _ _ | intro _ _ _ _ _ | intro _ _ _ _ | intro _ _ _ | intro _ _ | intro _
theorem fr_fX4_take_68_33   (μ : Mem) : Fm aC μ (fX4_take_68_33   μ) := by
  unfold fX4_take_68_33
  with_reducible repeat' first | assumption | exact Fr.refl | refine fr_sI ?_ rfl | refine fr_sL ?_ rfl | refine fr_sC ?_ rfl | exact fm_none | refine fm_some ?_ | refine fm_gd ?_ | refine fm_ite ?_ ?_ | refine fm_ltm ?_ (fun _ _ => ?_) | refine fm_lt ?_ | intro _ _ _ _ _ _ _ _ _ _ | intro _ _ _ _ _ _ _ _ _ | intro _ _ _ _ _ _ _ _ | intro _ _ _ _ _ _ _ | intro _ _ _ _ _ _ | intro _ _ _ _ _ | intro _ _ _ _ | intro _ _ _ | intro _ _ | intro _
theorem fr_fX4_take_73_33   (μ : Mem) : Fm aC μ (fX4_take_73_33   μ) := by
  unfold fX4_take_73_33
  with_reducible repeat' first | assumption | exact Fr.refl | refine fr_sI ?_ rfl | refine fr_sL ?_ rfl | refine fr_sC ?_ rfl | exact fm_none | refine fm_some ?_ | refine fm_gd ?_ | refine fm_ite ?_ ?_ | refine fm_ltm ?_ (fun _ _ => ?_) | refine fm_lt ?_ | intro _ _ _ _ _ _ _ _ _ _ | intro _ _ _ _ _ _ _ _ _ | intro _ _ _ _ _ _ _ _ | intro _ _ _ _ _ _ _ | intro _ _ _ _ _ _ | intro _ _ _ _ _ | intro _ _ _ _ | intro _ _ _ | intro _ _ | intro _
theorem fr_fX4_take_78_33   (μ : Mem) : Fm aC μ (fX4_take_78_33   μ) := by
  unfold fX4_take_78_33
  with_reducible repeat' first | assumption | exact Fr.refl | refine fr_sI ?_ rfl | refine fr_sL ?_ rfl | refine fr_sC ?_ rfl | exact fm_none | refine fm_some ?_ | refine fm_gd ?_ | refine fm_ite ?_ ?_ | refine fm_ltm ?_ (fun _ _ => ?_) | refine fm_lt ?_ | intro _ _ _ _ _ _ _ _ _ _ | intro _ _ _ _ _ _ _ _ _ | intro _ _ _ _ _ _ _ _ | intro _ _ _ _ _ _ _ | intro _ _ _ _ _ _ | intro _ _ _ _ _ | intro _ _ _ _ | intro _ _ _ | intro _ _ | intro _
theorem fr_fX4_take_83_33   (μ : Mem) : Fm aC μ (fX4_take_83_33   μ) := by
  unfold fX4_take_83_33
  with_reducible repeat' first | assumption | exact Fr.refl | refine fr_sI ?_ rfl | refine fr_sL ?_ rfl | refine fr_sC ?_ rfl | exact fm_none | refine fm_some ?_ | refine fm_gd ?_ | refine fm_ite ?_ ?_ | refine fm_ltm ?_ (fun _ _ => ?_) | refine fm_lt ?_ | intro _ _ _ _ _ _ _ _ _ _ | intro _ _ _ _ _ _ _ _ _ | intro _ _ _ _ _ _ _ _ | intro _ _ _ _ _ _ _ | intro _ _ _ _ _ _ | intro _ _ _ _ _ | intro _ _ _ _ | intro _ _ _ | intro _ _ | intro _
theorem fr_fX4_take_88_33   (μ : Mem) : Fm aC μ (fX4_take_88_33   μ) := by
  unfold fX4_take_88_33
  with_reducible repeat' first | assumption | exact Fr.refl | refine fr_sI ?_ rfl | refine fr_sL ?_ rfl | refine fr_sC ?_ rfl | exact fm_none | refine fm_some ?_ | refine fm_gd ?_ | refine fm_ite ?_ ?_ | refine fm_ltm ?_ (fun _ _ => ?_) | refine fm_lt ?_ | intro _ _ _ _ _ _ _ _ _ _ | intro _ _ _ _ _ _ _ _ _ | intro _ _ _ _ _ _ _ _ | intro _ _ _ _ _ _ _ | intro _ _ _ _ _ _ | intro _ _ _ _ _ | intro _ _ _ _ | intro _ _ _ | intro _ _ | intro _
theorem fr_fX4_take_93_33   (μ : Mem) : Fm aC μ (fX4_take_93_33   μ) := by
  unfold fX4_take_93_33
  with_reducible repeat' first | assumption | exact Fr.refl | refine fr_sI ?_ rfl | refine fr_sL ?_ rfl | refine fr_sC ?_ rfl | exact fm_none | refine fm_some ?_ | refine fm_gd ?_ | refine fm_ite ?_ ?_ | refine fm_ltm ?_ (fun _ _ => ?_) | refine fm_lt ?_ | intro _ _ _ _ _ _ _ _ _ _ | intro _ _ _ _ _ _ _ _ _ | intro _ _ _ _ _ _ _ _ | intro _ _ _ _ _ _ _ | intro _ _ _ _ _ _ | intro _ _ _ _ _ | intro _ _ _ _ | intro _ _ _ | intro _ _ | intro _
theorem fr_fX4_take_98_33   (μ : Mem) : Fm aC μ (fX4_take_98_33   μ) := by
  unfold fX4_take_98_33
  with_reducible repeat' first | assumption | exact Fr.refl | refine fr_sI ?_ rfl | refine fr_sL ?_ rfl | refine fr_sC ?_ rfl | exact fm_none | refine fm_some ?_ | refine fm_gd ?_ | refine fm_ite ?_ ?_ | refine fm_ltm ?_ (fun _ _ => ?_) | refine fm_lt ?_ | intro _ _ _ _ _ _ _ _ _ _ | intro _ _ _ _ _ _ _ _ _ | intro _ _ _ _ _ _ _ _ | intro _ _ _ _ _ _ _ | intro _ _ _ _ _ _ | intro _ _ _ _ _ | intro _ _ _ _ | intro _ _ _ | intro _ _ | intro _
theorem fr_fX6_note_29_33   (μ : Mem) : Fm aC μ (fX6_note_29_33   μ) := by
  unfold fX6_note_29_33
  with_reducible repeat' first | assumption | exact Fr.refl | refine fr_sI ?_ rfl | refine fr_sL ?_ rfl | refine fr_sC ?_ rfl | exact fm_none | refine fm_some ?_ | refine fm_gd ?_ | refine fm_ite ?_ ?_ | refine fm_ltm ?_ (fun _ _ => ?_) | refine fm_lt ?_ | intro _ _ _ _ _ _ _ _ _ _ | intro _ _ _ _ _ _ _ _ _ | intro _ _ _ _ _ _ _ _ | intro _ _ _ _ _ _ _ | intro _ _ _ _ _ _ | intro _ _ _ _ _ | intro _ _ _ _ | intro _ _ _ | intro _ _ | intro _ | (apply fm_bnd; first | refine fr_fX4_take_83_33  _ | refine fr_fX4_take_53_33  _ | refine fr_fX4_take_103_33  _ | refine fr_fX4_take_73_33  _ | refine fr_fX4_take_48_33  _ | refine fr_fX4_take_98_33  _ | refine fr_fX4_take_58_33  _ | refine fr_fX4_take_88_33  _ | refine fr_fX4_take_78_33  _ | refine fr_fX4_take_68_33  _ | refine fr_fX4_take_43_33  _ | refine fr_fX4_take_63_33  _ | refine fr_fX4_take_93_33  _) | (apply fm_tl; first | refine fr_fX4_take_83_33  _ | refine fr_fX4_take_53_33  _ | refine fr_fX4_take_103_33  _ | refine fr_fX4_take_73_33  _ | refine fr_fX4_take_48_33  _ | refine fr_fX4_take_98_33  _ | refine fr_fX4_take_58_33  _ | refine fr_fX4_take_88_33  _ | refine fr_fX4_take_78_33  _ | refine fr_fX4_take_68_33  _ | refine fr_fX4_take_43_33  _ | refine fr_fX4_take_63_33  _ | refine fr_fX4_take_93_33  _)
theorem fr_fX11_lay_0  (v1 : Int32) (v2 : Int32) (μ : Mem) : Fm aC μ (fX11_lay_0  v1 v2 μ) := by
  unfold fX11_lay_0
  with_reducible repeat' first | assumption | exact Fr.refl | refine fr_sI ?_ rfl | refine fr_sL ?_ rfl | refine fr_sC ?_ rfl | exact fm_none | refine fm_some ?_ | refine fm_gd ?_ | refine fm_ite ?_ ?_ | refine fm_ltm ?_ (fun _ _ => ?_) | refine fm_lt ?_ | intro _ _ _ _ _ _ _ _ _ _ | intro _ _ _ _ _ _ _ _ _ | intro _ _ _ _ _ _ _ _ | intro _ _ _ _ _ _ _ | intro _ _ _ _ _ _ | intro _ _ _ _ _ | intro _ _ _ _ | intro _ _ _ | intro _ _ | intro _ | (apply fm_bnd; first | refine fr_fX6_note_29_33  _ | refine fr_fX11_doneBy_0  _ _ | refine fr_fX4_layOn_33  _ _ _) | (apply fm_tl; first | refine fr_fX6_note_29_33  _ | refine fr_fX11_doneBy_0  _ _ | refine fr_fX4_layOn_33  _ _ _)
theorem fr_fX12_goLay_123  (v1 : Int32) (v2 : Int32) (μ : Mem) : Fm aM μ (fX12_goLay_123  v1 v2 μ) := by
  unfold fX12_goLay_123
  with_reducible repeat' first | assumption | exact Fr.refl | refine fr_sI ?_ rfl | refine fr_sL ?_ rfl | refine fr_sC ?_ rfl | exact fm_none | refine fm_some ?_ | refine fm_gd ?_ | refine fm_ite ?_ ?_ | refine fm_ltm ?_ (fun _ _ => ?_) | refine fm_lt ?_ | intro _ _ _ _ _ _ _ _ _ _ | intro _ _ _ _ _ _ _ _ _ | intro _ _ _ _ _ _ _ _ | intro _ _ _ _ _ _ _ | intro _ _ _ _ _ _ | intro _ _ _ _ _ | intro _ _ _ _ | intro _ _ _ | intro _ _ | intro _
theorem fr_fX12_refusesLay_122 {A : Nat → Bool}  (v1 : Int32) (v2 : Int32) (μ : Mem) : Fm A μ (fX12_refusesLay_122  v1 v2 μ) := by
  unfold fX12_refusesLay_122
  with_reducible repeat' first | assumption | exact Fr.refl | refine fr_sI ?_ rfl | refine fr_sL ?_ rfl | refine fr_sC ?_ rfl | exact fm_none | refine fm_some ?_ | refine fm_gd ?_ | refine fm_ite ?_ ?_ | refine fm_ltm ?_ (fun _ _ => ?_) | refine fm_lt ?_ | intro _ _ _ _ _ _ _ _ _ _ | intro _ _ _ _ _ _ _ _ _ | intro _ _ _ _ _ _ _ _ | intro _ _ _ _ _ _ _ | intro _ _ _ _ _ _ | intro _ _ _ _ _ | intro _ _ _ _ | intro _ _ _ | intro _ _ | intro _ | (apply fm_bnd; first | refine fr_fX12_isMan_122  _ _ | refine fr_fX12_in  _ _ _ _) | (apply fm_tl; first | refine fr_fX12_isMan_122  _ _ | refine fr_fX12_in  _ _ _ _)
theorem fr_fX12_lay_123_138_b2  : ∀ n a0 a1 μ, Fm aM μ (fX12_lay_123_138_b2  n a0 a1 μ) := by
  intro n
  induction n with
  | zero =>
    intros
    exact fm_none
  | succ n ih =>
    intro a0 a1 μ
    rw [fX12_lay_123_138_b2]
    with_reducible repeat' first | assumption | exact Fr.refl | refine fr_sI ?_ rfl | refine fr_sL ?_ rfl | refine fr_sC ?_ rfl | exact fm_none | refine fm_some ?_ | refine fm_gd ?_ | refine fm_ite ?_ ?_ | refine fm_ltm ?_ (fun _ _ => ?_) | refine fm_lt ?_ | intro _ _ _ _ _ _ _ _ _ _ | intro _ _ _ _ _ _ _ _ _ | intro _ _ _ _ _ _ _ _ | intro _ _ _ _ _ _ _ | intro _ _ _ _ _ _ | intro _ _ _ _ _ | intro _ _ _ _ | intro _ _ _ | intro _ _ | intro _ | (apply fm_bnd; first | exact ih _ _ _) | (apply fm_tl; first | exact ih _ _ _)
theorem fr_fX12_lay_123_138  (v2 : Int32) (μ : Mem) : Fm aM μ (fX12_lay_123_138  v2 μ) := by
  unfold fX12_lay_123_138
  with_reducible repeat' first | assumption | exact Fr.refl | refine fr_sI ?_ rfl | refine fr_sL ?_ rfl | refine fr_sC ?_ rfl | exact fm_none | refine fm_some ?_ | refine fm_gd ?_ | refine fm_ite ?_ ?_ | refine fm_ltm ?_ (fun _ _ => ?_) | refine fm_lt ?_ | intro _ _ _ _ _ _ _ _ _ _ | intro _ _ _ _ _ _ _ _ _ | intro _ _ _ _ _ _ _ _ | intro _ _ _ _ _ _ _ | intro _ _ _ _ _ _ | intro _ _ _ _ _ | intro _ _ _ _ | intro _ _ _ | intro _ _ | intro _ | (apply fm_bnd; first | refine fr_fX12_lay_123_138_b2  _ _ _ _) | (apply fm_tl; first | refine fr_fX12_lay_123_138_b2  _ _ _ _)
theorem fr_fX12_remember_122_123_b49   (μ : Mem) : Fm aM μ (fX12_remember_122_123_b49   μ) := by
  unfold fX12_remember_122_123_b49
  with_reducible repeat' first | assumption | exact Fr.refl | refine fr_sI ?_ rfl | refine fr_sL ?_ rfl | refine fr_sC ?_ rfl | exact fm_none | refine fm_some ?_ | refine fm_gd ?_ | refine fm_ite ?_ ?_ | refine fm_ltm ?_ (fun _ _ => ?_) | refine fm_lt ?_ | intro _ _ _ _ _ _ _ _ _ _ | intro _ _ _ _ _ _ _ _ _ | intro _ _ _ _ _ _ _ _ | intro _ _ _ _ _ _ _ | intro _ _ _ _ _ _ | intro _ _ _ _ _ | intro _ _ _ _ | intro _ _ _ | intro _ _ | intro _ | (apply fm_bnd; first | refine fr_fX12_lay_123_138  _ _) | (apply fm_tl; first | refine fr_fX12_lay_123_138  _ _)
theorem fr_fX12_remember_122_123_b11  : ∀ n a0 μ, Fm aM μ (fX12_remember_122_123_b11  n a0 μ) := by
  intro n
  induction n with
  | zero =>
    intros
    exact fm_none
  | succ n ih =>
    intro a0 μ
    rw [fX12_remember_122_123_b11]
    with_reducible repeat' first | assumption | exact Fr.refl | refine fr_sI ?_ rfl | refine fr_sL ?_ rfl | refine fr_sC ?_ rfl | exact fm_none | refine fm_some ?_ | refine fm_gd ?_ | refine fm_ite ?_ ?_ | refine fm_ltm ?_ (fun _ _ => ?_) | refine fm_lt ?_ | intro _ _ _ _ _ _ _ _ _ _ | intro _ _ _ _ _ _ _ _ _ | intro _ _ _ _ _ _ _ _ | intro _ _ _ _ _ _ _ | intro _ _ _ _ _ _ | intro _ _ _ _ _ | intro _ _ _ _ | intro _ _ _ | intro _ _ | intro _ | (apply fm_bnd; first | exact ih _ _ | refine fr_fX12_remember_122_123_b49  _) | (apply fm_tl; first | exact ih _ _ | refine fr_fX12_remember_122_123_b49  _)
theorem fr_fX12_remember_122_123   (μ : Mem) : Fm aM μ (fX12_remember_122_123   μ) := by
  unfold fX12_remember_122_123
  with_reducible repeat' first | assumption | exact Fr.refl | refine fr_sI ?_ rfl | refine fr_sL ?_ rfl | refine fr_sC ?_ rfl | exact fm_none | refine fm_some ?_ | refine fm_gd ?_ | refine fm_ite ?_ ?_ | refine fm_ltm ?_ (fun _ _ => ?_) | refine fm_lt ?_ | intro _ _ _ _ _ _ _ _ _ _ | intro _ _ _ _ _ _ _ _ _ | intro _ _ _ _ _ _ _ _ | intro _ _ _ _ _ _ _ | intro _ _ _ _ _ _ | intro _ _ _ _ _ | intro _ _ _ _ | intro _ _ _ | intro _ _ | intro _ | (apply fm_bnd; first | refine fr_fX12_remember_122_123_b11  _ _ _ | refine fr_fX12_remember_122_123_b49  _) | (apply fm_tl; first | refine fr_fX12_remember_122_123_b11  _ _ _ | refine fr_fX12_remember_122_123_b49  _)
theorem fr_fX12_lay__122  (v1 : Int32) (v2 : Int32) (μ : Mem) : Fm aM μ (fX12_lay__122  v1 v2 μ) := by
  unfold fX12_lay__122
  with_reducible repeat' first | assumption | exact Fr.refl | refine fr_sI ?_ rfl | refine fr_sL ?_ rfl | refine fr_sC ?_ rfl | exact fm_none | refine fm_some ?_ | refine fm_gd ?_ | refine fm_ite ?_ ?_ | refine fm_ltm ?_ (fun _ _ => ?_) | refine fm_lt ?_ | intro _ _ _ _ _ _ _ _ _ _ | intro _ _ _ _ _ _ _ _ _ | intro _ _ _ _ _ _ _ _ | intro _ _ _ _ _ _ _ | intro _ _ _ _ _ _ | intro _ _ _ _ _ | intro _ _ _ _ | intro _ _ _ | intro _ _ | intro _ | (apply fm_bnd; first | refine fr_fX12_refusesLay_122  _ _ _ | refine fr_fX12_remember_122_123  _ | refine fr_fX12_goLay_123  _ _ _) | (apply fm_tl; first | refine fr_fX12_refusesLay_122  _ _ _ | refine fr_fX12_remember_122_123  _ | refine fr_fX12_goLay_123  _ _ _)
theorem fr_fX8_joined {A : Nat → Bool}  (v0 : Int32) (v1 : Int32) (v2 : Int32) (μ : Mem) : Fm A μ (fX8_joined  v0 v1 v2 μ) := by
  unfold fX8_joined
  with_reducible repeat' first | assumption | exact Fr.refl | refine fr_sI ?_ rfl | refine fr_sL ?_ rfl | refine fr_sC ?_ rfl | exact fm_none | refine fm_some ?_ | refine fm_gd ?_ | refine fm_ite ?_ ?_ | refine fm_ltm ?_ (fun _ _ => ?_) | refine fm_lt ?_ | intro _ _ _ _ _ _ _ _ _ _ | intro _ _ _ _ _ _ _ _ _ | intro _ _ _ _ _ _ _ _ | intro _ _ _ _ _ _ _ | intro _ _ _ _ _ _ | intro _ _ _ _ _ | intro _ _ _ _ | intro _ _ _ | intro _ _ | intro _
theorem fr_fX8_worth_19_b245 {A : Nat → Bool}   (μ : Mem) : Fm A μ (fX8_worth_19_b245   μ) := by
  unfold fX8_worth_19_b245
  with_reducible repeat' first | assumption | exact Fr.refl | refine fr_sI ?_ rfl | refine fr_sL ?_ rfl | refine fr_sC ?_ rfl | exact fm_none | refine fm_some ?_ | refine fm_gd ?_ | refine fm_ite ?_ ?_ | refine fm_ltm ?_ (fun _ _ => ?_) | refine fm_lt ?_ | intro _ _ _ _ _ _ _ _ _ _ | intro _ _ _ _ _ _ _ _ _ | intro _ _ _ _ _ _ _ _ | intro _ _ _ _ _ _ _ | intro _ _ _ _ _ _ | intro _ _ _ _ _ | intro _ _ _ _ | intro _ _ _ | intro _ _ | intro _
theorem fr_fX8_worth_19_b192 {k71 : Int32 → Int32 → Mem → Option (Int32 × Mem)} (hk71 : ∀ x0 x1 m, Fm aC m (k71 x0 x1 m)) (p7 : Int32) (p8 : Int32) (p9 : Int32) (μ : Mem) : Fm aC μ (fX8_worth_19_b192 k71 p7 p8 p9 μ) := by
  unfold fX8_worth_19_b192
  with_reducible repeat' first | assumption | exact Fr.refl | refine fr_sI ?_ rfl | refine fr_sL ?_ rfl | refine fr_sC ?_ rfl | exact fm_none | refine fm_some ?_ | refine fm_gd ?_ | refine fm_ite ?_ ?_ | refine fm_ltm ?_ (fun _ _ => ?_) | refine fm_lt ?_ | intro _ _ _ _ _ _ _ _ _ _ | intro _ _ _ _ _ _ _ _ _ | intro _ _ _ _ _ _ _ _ | intro _ _ _ _ _ _ _ | intro _ _ _ _ _ _ | intro _ _ _ _ _ | intro _ _ _ _ | intro _ _ _ | intro _ _ | intro _ | (apply fm_bnd; first | refine fr_fX8_joined  _ _ _ _ | exact hk71 _ _ _) | (apply fm_tl; first | refine fr_fX8_joined  _ _ _ _ | exact hk71 _ _ _)
theorem fr_fX8_worth_19_b71  : ∀ n a0 a1 μ, Fm aC μ (fX8_worth_19_b71  n a0 a1 μ) := by
  intro n
  induction n with
  | zero =>
    intros
    exact fm_none
  | succ n ih =>
    intro a0 a1 μ
    rw [fX8_worth_19_b71]
    with_reducible repeat' first | assumption | exact Fr.refl | refine fr_sI ?_ rfl | refine fr_sL ?_ rfl | refine fr_sC ?_ rfl | exact fm_none | refine fm_some ?_ | refine fm_gd ?_ | refine fm_ite ?_ ?_ | refine fm_ltm ?_ (fun _ _ => ?_) | refine fm_lt ?_ | intro _ _ _ _ _ _ _ _ _ _ | intro _ _ _ _ _ _ _ _ _ | intro _ _ _ _ _ _ _ _ | intro _ _ _ _ _ _ _ | intro _ _ _ _ _ _ | intro _ _ _ _ _ | intro _ _ _ _ | intro _ _ _ | intro _ _ | intro _ | (apply fm_bnd; first | refine fr_fX8_worth_19_b192 ?_ _ _ _ _ | exact ih _ _ _ | refine fr_fX8_worth_19_b245  _) | (apply fm_tl; first | refine fr_fX8_worth_19_b192 ?_ _ _ _ _ | exact ih _ _ _ | refine fr_fX8_worth_19_b245  _)
theorem fr_fX8_worth_19  (v1 : Int32) (v2 : Int32) (v3 : Int32) (v4 : Int32) (v5 : Int32) (v6 : Int32) (μ : Mem) : Fm aC μ (fX8_worth_19  v1 v2 v3 v4 v5 v6 μ) := by
  unfold fX8_worth_19
  with_reducible repeat' first | assumption | exact Fr.refl | refine fr_sI ?_ rfl | refine fr_sL ?_ rfl | refine fr_sC ?_ rfl | exact fm_none | refine fm_some ?_ | refine fm_gd ?_ | refine fm_ite ?_ ?_ | refine fm_ltm ?_ (fun _ _ => ?_) | refine fm_lt ?_ | intro _ _ _ _ _ _ _ _ _ _ | intro _ _ _ _ _ _ _ _ _ | intro _ _ _ _ _ _ _ _ | intro _ _ _ _ _ _ _ | intro _ _ _ _ _ _ | intro _ _ _ _ _ | intro _ _ _ _ | intro _ _ _ | intro _ _ | intro _ | (apply fm_bnd; first | refine fr_fX8_worth_19_b71  _ _ _ _) | (apply fm_tl; first | refine fr_fX8_worth_19_b71  _ _ _ _)
theorem fr_fX4_leftWith_33  (v1 : Int32) (v2 : Int32) (v3 : Int32) (v4 : Int32) (μ : Mem) : Fm aC μ (fX4_leftWith_33  v1 v2 v3 v4 μ) := by
  unfold fX4_leftWith_33
  with_reducible repeat' first | assumption | exact Fr.refl | refine fr_sI ?_ rfl | refine fr_sL ?_ rfl | refine fr_sC ?_ rfl | exact fm_none | refine fm_some ?_ | refine fm_gd ?_ | refine fm_ite ?_ ?_ | refine fm_ltm ?_ (fun _ _ => ?_) | refine fm_lt ?_ | intro _ _ _ _ _ _ _ _ _ _ | intro _ _ _ _ _ _ _ _ _ | intro _ _ _ _ _ _ _ _ | intro _ _ _ _ _ _ _ | intro _ _ _ _ _ _ | intro _ _ _ _ _ | intro _ _ _ _ | intro _ _ _ | intro _ _ | intro _ | (apply fm_bnd; first | refine fr_fX8_worth_19  _ _ _ _ _ _ _) | (apply fm_tl; first | refine fr_fX8_worth_19  _ _ _ _ _ _ _)
theorem fr_fX4_leftNow_33  (v1 : Int32) (μ : Mem) : Fm aC μ (fX4_leftNow_33  v1 μ) := by
  unfold fX4_leftNow_33
  with_reducible repeat' first | assumption | exact Fr.refl | refine fr_sI ?_ rfl | refine fr_sL ?_ rfl | refine fr_sC ?_ rfl | exact fm_none | refine fm_some ?_ | refine fm_gd ?_ | refine fm_ite ?_ ?_ | refine fm_ltm ?_ (fun _ _ => ?_) | refine fm_lt ?_ | intro _ _ _ _ _ _ _ _ _ _ | intro _ _ _ _ _ _ _ _ _ | intro _ _ _ _ _ _ _ _ | intro _ _ _ _ _ _ _ | intro _ _ _ _ _ _ | intro _ _ _ _ _ | intro _ _ _ _ | intro _ _ _ | intro _ _ | intro _ | (apply fm_bnd; first | refine fr_fX4_leftWith_33  _ _ _ _ _) | (apply fm_tl; first | refine fr_fX4_leftWith_33  _ _ _ _ _)
theorem fr_fX4_askOf_33  (v1 : Int32) (μ : Mem) : Fm aC μ (fX4_askOf_33  v1 μ) := by
  unfold fX4_askOf_33
  with_reducible repeat' first | assumption | exact Fr.refl | refine fr_sI ?_ rfl | refine fr_sL ?_ rfl | refine fr_sC ?_ rfl | exact fm_none | refine fm_some ?_ | refine fm_gd ?_ | refine fm_ite ?_ ?_ | refine fm_ltm ?_ (fun _ _ => ?_) | refine fm_lt ?_ | intro _ _ _ _ _ _ _ _ _ _ | intro _ _ _ _ _ _ _ _ _ | intro _ _ _ _ _ _ _ _ | intro _ _ _ _ _ _ _ | intro _ _ _ _ _ _ | intro _ _ _ _ _ | intro _ _ _ _ | intro _ _ _ | intro _ _ | intro _ | (apply fm_bnd; first | refine fr_fX4_isSilent_33  _ _ | refine fr_fX4_has_33  _ _ | refine fr_fX4_leftNow_33  _ _) | (apply fm_tl; first | refine fr_fX4_isSilent_33  _ _ | refine fr_fX4_has_33  _ _ | refine fr_fX4_leftNow_33  _ _)
theorem fr_fX11_ask_0  (v1 : Int32) (μ : Mem) : Fm aC μ (fX11_ask_0  v1 μ) := by
  unfold fX11_ask_0
  with_reducible repeat' first | assumption | exact Fr.refl | refine fr_sI ?_ rfl | refine fr_sL ?_ rfl | refine fr_sC ?_ rfl | exact fm_none | refine fm_some ?_ | refine fm_gd ?_ | refine fm_ite ?_ ?_ | refine fm_ltm ?_ (fun _ _ => ?_) | refine fm_lt ?_ | intro _ _ _ _ _ _ _ _ _ _ | intro _ _ _ _ _ _ _ _ _ | intro _ _ _ _ _ _ _ _ | intro _ _ _ _ _ _ _ | intro _ _ _ _ _ _ | intro _ _ _ _ _ | intro _ _ _ _ | intro _ _ _ | intro _ _ | intro _ | (apply fm_bnd; first | refine fr_fX6_note_29_33  _ | refine fr_fX4_askOf_33  _ _ | refine fr_fX11_doneBy_0  _ _) | (apply fm_tl; first | refine fr_fX6_note_29_33  _ | refine fr_fX4_askOf_33  _ _ | refine fr_fX11_doneBy_0  _ _)
theorem fr_fX12_doesSpeak_122 {A : Nat → Bool}  (v1 : Int32) (v2 : Int32) (μ : Mem) : Fm A μ (fX12_doesSpeak_122  v1 v2 μ) := by
  unfold fX12_doesSpeak_122
  with_reducible repeat' first | assumption | exact Fr.refl | refine fr_sI ?_ rfl | refine fr_sL ?_ rfl | refine fr_sC ?_ rfl | exact fm_none | refine fm_some ?_ | refine fm_gd ?_ | refine fm_ite ?_ ?_ | refine fm_ltm ?_ (fun _ _ => ?_) | refine fm_lt ?_ | intro _ _ _ _ _ _ _ _ _ _ | intro _ _ _ _ _ _ _ _ _ | intro _ _ _ _ _ _ _ _ | intro _ _ _ _ _ _ _ | intro _ _ _ _ _ _ | intro _ _ _ _ _ | intro _ _ _ _ | intro _ _ _ | intro _ _ | intro _
theorem fr_fX12_goPlead_123  (v1 : Int32) (μ : Mem) : Fm aM μ (fX12_goPlead_123  v1 μ) := by
  unfold fX12_goPlead_123
  with_reducible repeat' first | assumption | exact Fr.refl | refine fr_sI ?_ rfl | refine fr_sL ?_ rfl | refine fr_sC ?_ rfl | exact fm_none | refine fm_some ?_ | refine fm_gd ?_ | refine fm_ite ?_ ?_ | refine fm_ltm ?_ (fun _ _ => ?_) | refine fm_lt ?_ | intro _ _ _ _ _ _ _ _ _ _ | intro _ _ _ _ _ _ _ _ _ | intro _ _ _ _ _ _ _ _ | intro _ _ _ _ _ _ _ | intro _ _ _ _ _ _ | intro _ _ _ _ _ | intro _ _ _ _ | intro _ _ _ | intro _ _ | intro _
theorem fr_fX12_ask_122  (v1 : Int32) (μ : Mem) : Fm aM μ (fX12_ask_122  v1 μ) := by
  unfold fX12_ask_122
  with_reducible repeat' first | assumption | exact Fr.refl | refine fr_sI ?_ rfl | refine fr_sL ?_ rfl | refine fr_sC ?_ rfl | exact fm_none | refine fm_some ?_ | refine fm_gd ?_ | refine fm_ite ?_ ?_ | refine fm_ltm ?_ (fun _ _ => ?_) | refine fm_lt ?_ | intro _ _ _ _ _ _ _ _ _ _ | intro _ _ _ _ _ _ _ _ _ | intro _ _ _ _ _ _ _ _ | intro _ _ _ _ _ _ _ | intro _ _ _ _ _ _ | intro _ _ _ _ _ | intro _ _ _ _ | intro _ _ _ | intro _ _ | intro _ | (apply fm_bnd; first | refine fr_fX12_goPlead_123  _ _ | refine fr_fX12_isMan_122  _ _ | refine fr_fX12_doesSpeak_122  _ _ _ | refine fr_fX12_remember_122_123  _ | refine fr_fX12_leftNow_122_123  _ _) | (apply fm_tl; first | refine fr_fX12_goPlead_123  _ _ | refine fr_fX12_isMan_122  _ _ | refine fr_fX12_doesSpeak_122  _ _ _ | refine fr_fX12_remember_122_123  _ | refine fr_fX12_leftNow_122_123  _ _)
theorem fr_fX4_wordIn_33 {A : Nat → Bool}  (v1 : Int32) (v2 : Int32) (μ : Mem) : Fm A μ (fX4_wordIn_33  v1 v2 μ) := by
  unfold fX4_wordIn_33
  with_reducible repeat' first | assumption | exact Fr.refl | refine fr_sI ?_ rfl | refine fr_sL ?_ rfl | refine fr_sC ?_ rfl | exact fm_none | refine fm_some ?_ | refine fm_gd ?_ | refine fm_ite ?_ ?_ | refine fm_ltm ?_ (fun _ _ => ?_) | refine fm_lt ?_ | intro _ _ _ _ _ _ _ _ _ _ | intro _ _ _ _ _ _ _ _ _ | intro _ _ _ _ _ _ _ _ | intro _ _ _ _ _ _ _ | intro _ _ _ _ _ _ | intro _ _ _ _ _ | intro _ _ _ _ | intro _ _ _ | intro _ _ | intro _
theorem fr_fX4_proofIn_33_b5 {A : Nat → Bool}  : ∀ n a0 a1 a2 a3 μ, Fm A μ (fX4_proofIn_33_b5  n a0 a1 a2 a3 μ) := by
  intro n
  induction n with
  | zero =>
    intros
    exact fm_none
  | succ n ih =>
    intro a0 a1 a2 a3 μ
    rw [fX4_proofIn_33_b5]
    with_reducible repeat' first | assumption | exact Fr.refl | refine fr_sI ?_ rfl | refine fr_sL ?_ rfl | refine fr_sC ?_ rfl | exact fm_none | refine fm_some ?_ | refine fm_gd ?_ | refine fm_ite ?_ ?_ | refine fm_ltm ?_ (fun _ _ => ?_) | refine fm_lt ?_ | intro _ _ _ _ _ _ _ _ _ _ | intro _ _ _ _ _ _ _ _ _ | intro _ _ _ _ _ _ _ _ | intro _ _ _ _ _ _ _ | intro _ _ _ _ _ _ | intro _ _ _ _ _ | intro _ _ _ _ | intro _ _ _ | intro _ _ | intro _ | (apply fm_bnd; first | refine fr_fX4_wordIn_33  _ _ _ | exact ih _ _ _ _ _) | (apply fm_tl; first | refine fr_fX4_wordIn_33  _ _ _ | exact ih _ _ _ _ _)
theorem fr_fX4_proofIn_33 {A : Nat → Bool}  (v1 : Int32) (v2 : Int32) (μ : Mem) : Fm A μ (fX4_proofIn_33  v1 v2 μ) := by
  unfold fX4_proofIn_33
  with_reducible repeat' first | assumption | exact Fr.refl | refine fr_sI ?_ rfl | refine fr_sL ?_ rfl | refine fr_sC ?_ rfl | exact fm_none | refine fm_some ?_ | refine fm_gd ?_ | refine fm_ite ?_ ?_ | refine fm_ltm ?_ (fun _ _ => ?_) | refine fm_lt ?_ | intro _ _ _ _ _ _ _ _ _ _ | intro _ _ _ _ _ _ _ _ _ | intro _ _ _ _ _ _ _ _ | intro _ _ _ _ _ _ _ | intro _ _ _ _ _ _ | intro _ _ _ _ _ | intro _ _ _ _ | intro _ _ _ | intro _ _ | intro _ | (apply fm_bnd; first | refine fr_fX4_proofIn_33_b5  _ _ _ _ _ _) | (apply fm_tl; first | refine fr_fX4_proofIn_33_b5  _ _ _ _ _ _)
theorem fr_fX4_verdictIn_33 {A : Nat → Bool}  (v1 : Int32) (v2 : Int32) (μ : Mem) : Fm A μ (fX4_verdictIn_33  v1 v2 μ) := by
  unfold fX4_verdictIn_33
  with_reducible repeat' first | assumption | exact Fr.refl | refine fr_sI ?_ rfl | refine fr_sL ?_ rfl | refine fr_sC ?_ rfl | exact fm_none | refine fm_some ?_ | refine fm_gd ?_ | refine fm_ite ?_ ?_ | refine fm_ltm ?_ (fun _ _ => ?_) | refine fm_lt ?_ | intro _ _ _ _ _ _ _ _ _ _ | intro _ _ _ _ _ _ _ _ _ | intro _ _ _ _ _ _ _ _ | intro _ _ _ _ _ _ _ | intro _ _ _ _ _ _ | intro _ _ _ _ _ | intro _ _ _ _ | intro _ _ _ | intro _ _ | intro _ | (apply fm_bnd; first | refine fr_fX4_proofIn_33  _ _ _) | (apply fm_tl; first | refine fr_fX4_proofIn_33  _ _ _)
theorem fr_fX4_tryNow_33  (v1 : Int32) (μ : Mem) : Fm aC μ (fX4_tryNow_33  v1 μ) := by
  unfold fX4_tryNow_33
  with_reducible repeat' first | assumption | exact Fr.refl | refine fr_sI ?_ rfl | refine fr_sL ?_ rfl | refine fr_sC ?_ rfl | exact fm_none | refine fm_some ?_ | refine fm_gd ?_ | refine fm_ite ?_ ?_ | refine fm_ltm ?_ (fun _ _ => ?_) | refine fm_lt ?_ | intro _ _ _ _ _ _ _ _ _ _ | intro _ _ _ _ _ _ _ _ _ | intro _ _ _ _ _ _ _ _ | intro _ _ _ _ _ _ _ | intro _ _ _ _ _ _ | intro _ _ _ _ _ | intro _ _ _ _ | intro _ _ _ | intro _ _ | intro _ | (apply fm_bnd; first | refine fr_fX4_verdictIn_33  _ _ _ | refine fr_fX4_has_33  _ _) | (apply fm_tl; first | refine fr_fX4_verdictIn_33  _ _ _ | refine fr_fX4_has_33  _ _)
theorem fr_fX7_add_3  (v1 : Int64) (μ : Mem) : Fm aC μ (fX7_add_3  v1 μ) := by
  unfold fX7_add_3
  with_reducible repeat' first | assumption | exact Fr.refl | refine fr_sI ?_ rfl | refine fr_sL ?_ rfl | refine fr_sC ?_ rfl | exact fm_none | refine fm_some ?_ | refine fm_gd ?_ | refine fm_ite ?_ ?_ | refine fm_ltm ?_ (fun _ _ => ?_) | refine fm_lt ?_ | intro _ _ _ _ _ _ _ _ _ _ | intro _ _ _ _ _ _ _ _ _ | intro _ _ _ _ _ _ _ _ | intro _ _ _ _ _ _ _ | intro _ _ _ _ _ _ | intro _ _ _ _ _ | intro _ _ _ _ | intro _ _ _ | intro _ _ | intro _
theorem fr_fX7_clear_3   (μ : Mem) : Fm aC μ (fX7_clear_3   μ) := by
  unfold fX7_clear_3
  with_reducible repeat' first | assumption | exact Fr.refl | refine fr_sI ?_ rfl | refine fr_sL ?_ rfl | refine fr_sC ?_ rfl | exact fm_none | refine fm_some ?_ | refine fm_gd ?_ | refine fm_ite ?_ ?_ | refine fm_ltm ?_ (fun _ _ => ?_) | refine fm_lt ?_ | intro _ _ _ _ _ _ _ _ _ _ | intro _ _ _ _ _ _ _ _ _ | intro _ _ _ _ _ _ _ _ | intro _ _ _ _ _ _ _ | intro _ _ _ _ _ _ | intro _ _ _ _ _ | intro _ _ _ _ | intro _ _ _ | intro _ _ | intro _
theorem fr_fX7_tell_3  (v1 : Int64) (μ : Mem) : Fm aC μ (fX7_tell_3  v1 μ) := by
  unfold fX7_tell_3
  with_reducible repeat' first | assumption | exact Fr.refl | refine fr_sI ?_ rfl | refine fr_sL ?_ rfl | refine fr_sC ?_ rfl | exact fm_none | refine fm_some ?_ | refine fm_gd ?_ | refine fm_ite ?_ ?_ | refine fm_ltm ?_ (fun _ _ => ?_) | refine fm_lt ?_ | intro _ _ _ _ _ _ _ _ _ _ | intro _ _ _ _ _ _ _ _ _ | intro _ _ _ _ _ _ _ _ | intro _ _ _ _ _ _ _ | intro _ _ _ _ _ _ | intro _ _ _ _ _ | intro _ _ _ _ | intro _ _ _ | intro _ _ | intro _ | (apply fm_bnd; first | refine fr_fX7_clear_3  _ | refine fr_fX7_add_3  _ _) | (apply fm_tl; first | refine fr_fX7_clear_3  _ | refine fr_fX7_add_3  _ _)
theorem fr_fX11_judge_0  (v1 : Int32) (μ : Mem) : Fm aC μ (fX11_judge_0  v1 μ) := by
  unfold fX11_judge_0
  with_reducible repeat' first | assumption | exact Fr.refl | refine fr_sI ?_ rfl | refine fr_sL ?_ rfl | refine fr_sC ?_ rfl | exact fm_none | refine fm_some ?_ | refine fm_gd ?_ | refine fm_ite ?_ ?_ | refine fm_ltm ?_ (fun _ _ => ?_) | refine fm_lt ?_ | intro _ _ _ _ _ _ _ _ _ _ | intro _ _ _ _ _ _ _ _ _ | intro _ _ _ _ _ _ _ _ | intro _ _ _ _ _ _ _ | intro _ _ _ _ _ _ | intro _ _ _ _ _ | intro _ _ _ _ | intro _ _ _ | intro _ _ | intro _ | (apply fm_bnd; first | refine fr_fX7_tell_3  _ _ | refine fr_fX11_doneBy_0  _ _ | refine fr_fX4_tryNow_33  _ _ | refine fr_fX6_note_29_33  _ | refine fr_fX4_proofIn_33  _ _ _) | (apply fm_tl; first | refine fr_fX7_tell_3  _ _ | refine fr_fX11_doneBy_0  _ _ | refine fr_fX4_tryNow_33  _ _ | refine fr_fX6_note_29_33  _ | refine fr_fX4_proofIn_33  _ _ _)
theorem fr_fX12_ending_122 {A : Nat → Bool}  (v1 : Int32) (μ : Mem) : Fm A μ (fX12_ending_122  v1 μ) := by
  unfold fX12_ending_122
  with_reducible repeat' first | assumption | exact Fr.refl | refine fr_sI ?_ rfl | refine fr_sL ?_ rfl | refine fr_sC ?_ rfl | exact fm_none | refine fm_some ?_ | refine fm_gd ?_ | refine fm_ite ?_ ?_ | refine fm_ltm ?_ (fun _ _ => ?_) | refine fm_lt ?_ | intro _ _ _ _ _ _ _ _ _ _ | intro _ _ _ _ _ _ _ _ _ | intro _ _ _ _ _ _ _ _ | intro _ _ _ _ _ _ _ | intro _ _ _ _ _ _ | intro _ _ _ _ _ | intro _ _ _ _ | intro _ _ _ | intro _ _ | intro _
theorem fr_fX12_tell_122  (v1 : Int64) (μ : Mem) : Fm aM μ (fX12_tell_122  v1 μ) := by
  unfold fX12_tell_122
  with_reducible repeat' first | assumption | exact Fr.refl | refine fr_sI ?_ rfl | refine fr_sL ?_ rfl | refine fr_sC ?_ rfl | exact fm_none | refine fm_some ?_ | refine fm_gd ?_ | refine fm_ite ?_ ?_ | refine fm_ltm ?_ (fun _ _ => ?_) | refine fm_lt ?_ | intro _ _ _ _ _ _ _ _ _ _ | intro _ _ _ _ _ _ _ _ _ | intro _ _ _ _ _ _ _ _ | intro _ _ _ _ _ _ _ | intro _ _ _ _ _ _ | intro _ _ _ _ _ | intro _ _ _ _ | intro _ _ _ | intro _ _ | intro _
theorem fr_fX12_judge_122  (v1 : Int32) (μ : Mem) : Fm aM μ (fX12_judge_122  v1 μ) := by
  unfold fX12_judge_122
  with_reducible repeat' first | assumption | exact Fr.refl | refine fr_sI ?_ rfl | refine fr_sL ?_ rfl | refine fr_sC ?_ rfl | exact fm_none | refine fm_some ?_ | refine fm_gd ?_ | refine fm_ite ?_ ?_ | refine fm_ltm ?_ (fun _ _ => ?_) | refine fm_lt ?_ | intro _ _ _ _ _ _ _ _ _ _ | intro _ _ _ _ _ _ _ _ _ | intro _ _ _ _ _ _ _ _ | intro _ _ _ _ _ _ _ | intro _ _ _ _ _ _ | intro _ _ _ _ _ | intro _ _ _ _ | intro _ _ _ | intro _ _ | intro _ | (apply fm_bnd; first | refine fr_fX12_tell_122  _ _ | refine fr_fX12_isMan_122  _ _ | refine fr_fX12_ending_122  _ _ | refine fr_fX12_proofIn_122_123  _ _ _ | refine fr_fX12_remember_122_123  _) | (apply fm_tl; first | refine fr_fX12_tell_122  _ _ | refine fr_fX12_isMan_122  _ _ | refine fr_fX12_ending_122  _ _ | refine fr_fX12_proofIn_122_123  _ _ _ | refine fr_fX12_remember_122_123  _)
theorem fr_fX11_diedOf {A : Nat → Bool}  (v0 : Int32) (μ : Mem) : Fm A μ (fX11_diedOf  v0 μ) := by
  unfold fX11_diedOf
  with_reducible repeat' first | assumption | exact Fr.refl | refine fr_sI ?_ rfl | refine fr_sL ?_ rfl | refine fr_sC ?_ rfl | exact fm_none | refine fm_some ?_ | refine fm_gd ?_ | refine fm_ite ?_ ?_ | refine fm_ltm ?_ (fun _ _ => ?_) | refine fm_lt ?_ | intro _ _ _ _ _ _ _ _ _ _ | intro _ _ _ _ _ _ _ _ _ | intro _ _ _ _ _ _ _ _ | intro _ _ _ _ _ _ _ | intro _ _ _ _ _ _ | intro _ _ _ _ _ | intro _ _ _ _ | intro _ _ _ | intro _ _ | intro _
theorem fr_fX11_overOf {A : Nat → Bool}  (v0 : Int32) (μ : Mem) : Fm A μ (fX11_overOf  v0 μ) := by
  unfold fX11_overOf
  with_reducible repeat' first | assumption | exact Fr.refl | refine fr_sI ?_ rfl | refine fr_sL ?_ rfl | refine fr_sC ?_ rfl | exact fm_none | refine fm_some ?_ | refine fm_gd ?_ | refine fm_ite ?_ ?_ | refine fm_ltm ?_ (fun _ _ => ?_) | refine fm_lt ?_ | intro _ _ _ _ _ _ _ _ _ _ | intro _ _ _ _ _ _ _ _ _ | intro _ _ _ _ _ _ _ _ | intro _ _ _ _ _ _ _ | intro _ _ _ _ _ _ | intro _ _ _ _ _ | intro _ _ _ _ | intro _ _ _ | intro _ _ | intro _
theorem fr_fX4_leaveOver_33_b34 {k4 : Int32 → Int32 → Mem → Option (Int32 × Mem)} (hk4 : ∀ x0 x1 m, Fm aC m (k4 x0 x1 m)) (p1 : Int32) (p2 : Int32) (μ : Mem) : Fm aC μ (fX4_leaveOver_33_b34 k4 p1 p2 μ) := by
  unfold fX4_leaveOver_33_b34
  with_reducible repeat' first | assumption | exact Fr.refl | refine fr_sI ?_ rfl | refine fr_sL ?_ rfl | refine fr_sC ?_ rfl | exact fm_none | refine fm_some ?_ | refine fm_gd ?_ | refine fm_ite ?_ ?_ | refine fm_ltm ?_ (fun _ _ => ?_) | refine fm_lt ?_ | intro _ _ _ _ _ _ _ _ _ _ | intro _ _ _ _ _ _ _ _ _ | intro _ _ _ _ _ _ _ _ | intro _ _ _ _ _ _ _ | intro _ _ _ _ _ _ | intro _ _ _ _ _ | intro _ _ _ _ | intro _ _ _ | intro _ _ | intro _ | (apply fm_bnd; first | exact hk4 _ _ _) | (apply fm_tl; first | exact hk4 _ _ _)
theorem fr_fX4_leaveOver_33_b4  : ∀ n a0 a1 μ, Fm aC μ (fX4_leaveOver_33_b4  n a0 a1 μ) := by
  intro n
  induction n with
  | zero =>
    intros
    exact fm_none
  | succ n ih =>
    intro a0 a1 μ
    rw [fX4_leaveOver_33_b4]
    with_reducible repeat' first | assumption | exact Fr.refl | refine fr_sI ?_ rfl | refine fr_sL ?_ rfl | refine fr_sC ?_ rfl | exact fm_none | refine fm_some ?_ | refine fm_gd ?_ | refine fm_ite ?_ ?_ | refine fm_ltm ?_ (fun _ _ => ?_) | refine fm_lt ?_ | intro _ _ _ _ _ _ _ _ _ _ | intro _ _ _ _ _ _ _ _ _ | intro _ _ _ _ _ _ _ _ | intro _ _ _ _ _ _ _ | intro _ _ _ _ _ _ | intro _ _ _ _ _ | intro _ _ _ _ | intro _ _ _ | intro _ _ | intro _ | (apply fm_bnd; first | exact ih _ _ _ | refine fr_fX4_leaveOver_33_b34 ?_ _ _ _) | (apply fm_tl; first | exact ih _ _ _ | refine fr_fX4_leaveOver_33_b34 ?_ _ _ _)
theorem fr_fX4_leaveOver_33   (μ : Mem) : Fm aC μ (fX4_leaveOver_33   μ) := by
  unfold fX4_leaveOver_33
  with_reducible repeat' first | assumption | exact Fr.refl | refine fr_sI ?_ rfl | refine fr_sL ?_ rfl | refine fr_sC ?_ rfl | exact fm_none | refine fm_some ?_ | refine fm_gd ?_ | refine fm_ite ?_ ?_ | refine fm_ltm ?_ (fun _ _ => ?_) | refine fm_lt ?_ | intro _ _ _ _ _ _ _ _ _ _ | intro _ _ _ _ _ _ _ _ _ | intro _ _ _ _ _ _ _ _ | intro _ _ _ _ _ _ _ | intro _ _ _ _ _ _ | intro _ _ _ _ _ | intro _ _ _ _ | intro _ _ _ | intro _ _ | intro _ | (apply fm_bnd; first | refine fr_fX4_leaveOver_33_b4  _ _ _ _) | (apply fm_tl; first | refine fr_fX4_leaveOver_33_b4  _ _ _ _)
theorem fr_fX4_night_33_b87  : ∀ n a0 a1 a2 μ, Fm aC μ (fX4_night_33_b87  n a0 a1 a2 μ) := by
  intro n
  induction n with
  | zero =>
    intros
    exact fm_none
  | succ n ih =>
    intro a0 a1 a2 μ
    rw [fX4_night_33_b87]
    with_reducible repeat' first | assumption | exact Fr.refl | refine fr_sI ?_ rfl | refine fr_sL ?_ rfl | refine fr_sC ?_ rfl | exact fm_none | refine fm_some ?_ | refine fm_gd ?_ | refine fm_ite ?_ ?_ | refine fm_ltm ?_ (fun _ _ => ?_) | refine fm_lt ?_ | intro _ _ _ _ _ _ _ _ _ _ | intro _ _ _ _ _ _ _ _ _ | intro _ _ _ _ _ _ _ _ | intro _ _ _ _ _ _ _ | intro _ _ _ _ _ _ | intro _ _ _ _ _ | intro _ _ _ _ | intro _ _ _ | intro _ _ | intro _ | (apply fm_bnd; first | refine fr_fX4_leaveOver_33  _ | exact ih _ _ _ _) | (apply fm_tl; first | refine fr_fX4_leaveOver_33  _ | exact ih _ _ _ _)
theorem fr_fX4_night_33_b4  : ∀ n a0 a1 a2 μ, Fm aC μ (fX4_night_33_b4  n a0 a1 a2 μ) := by
  intro n
  induction n with
  | zero =>
    intros
    exact fm_none
  | succ n ih =>
    intro a0 a1 a2 μ
    rw [fX4_night_33_b4]
    with_reducible repeat' first | assumption | exact Fr.refl | refine fr_sI ?_ rfl | refine fr_sL ?_ rfl | refine fr_sC ?_ rfl | exact fm_none | refine fm_some ?_ | refine fm_gd ?_ | refine fm_ite ?_ ?_ | refine fm_ltm ?_ (fun _ _ => ?_) | refine fm_lt ?_ | intro _ _ _ _ _ _ _ _ _ _ | intro _ _ _ _ _ _ _ _ _ | intro _ _ _ _ _ _ _ _ | intro _ _ _ _ _ _ _ | intro _ _ _ _ _ _ | intro _ _ _ _ _ | intro _ _ _ _ | intro _ _ _ | intro _ _ | intro _ | (apply fm_bnd; first | refine fr_fX4_isSilent_33  _ _ | exact ih _ _ _ _ | refine fr_fX4_leftWith_33  _ _ _ _ _ | refine fr_fX4_night_33_b87  _ _ _ _ _) | (apply fm_tl; first | refine fr_fX4_isSilent_33  _ _ | exact ih _ _ _ _ | refine fr_fX4_leftWith_33  _ _ _ _ _ | refine fr_fX4_night_33_b87  _ _ _ _ _)
theorem fr_fX4_night_33  (v1 : Int32) (μ : Mem) : Fm aC μ (fX4_night_33  v1 μ) := by
  unfold fX4_night_33
  with_reducible repeat' first | assumption | exact Fr.refl | refine fr_sI ?_ rfl | refine fr_sL ?_ rfl | refine fr_sC ?_ rfl | exact fm_none | refine fm_some ?_ | refine fm_gd ?_ | refine fm_ite ?_ ?_ | refine fm_ltm ?_ (fun _ _ => ?_) | refine fm_lt ?_ | intro _ _ _ _ _ _ _ _ _ _ | intro _ _ _ _ _ _ _ _ _ | intro _ _ _ _ _ _ _ _ | intro _ _ _ _ _ _ _ | intro _ _ _ _ _ _ | intro _ _ _ _ _ | intro _ _ _ _ | intro _ _ _ | intro _ _ | intro _ | (apply fm_bnd; first | refine fr_fX4_night_33_b4  _ _ _ _ _) | (apply fm_tl; first | refine fr_fX4_night_33_b4  _ _ _ _ _)
theorem fr_fX4_pass_33_b5  : ∀ n a0 a1 a2 a3 μ, Fm aC μ (fX4_pass_33_b5  n a0 a1 a2 a3 μ) := by
  intro n
  induction n with
  | zero =>
    intros
    exact fm_none
  | succ n ih =>
    intro a0 a1 a2 a3 μ
    rw [fX4_pass_33_b5]
    with_reducible repeat' first | assumption | exact Fr.refl | refine fr_sI ?_ rfl | refine fr_sL ?_ rfl | refine fr_sC ?_ rfl | exact fm_none | refine fm_some ?_ | refine fm_gd ?_ | refine fm_ite ?_ ?_ | refine fm_ltm ?_ (fun _ _ => ?_) | refine fm_lt ?_ | intro _ _ _ _ _ _ _ _ _ _ | intro _ _ _ _ _ _ _ _ _ | intro _ _ _ _ _ _ _ _ | intro _ _ _ _ _ _ _ | intro _ _ _ _ _ _ | intro _ _ _ _ _ | intro _ _ _ _ | intro _ _ _ | intro _ _ | intro _ | (apply fm_bnd; first | exact ih _ _ _ _ _ | refine fr_fX4_night_33  _ _) | (apply fm_tl; first | exact ih _ _ _ _ _ | refine fr_fX4_night_33  _ _)
theorem fr_fX4_pass_33  (v1 : Int32) (v2 : Int32) (μ : Mem) : Fm aC μ (fX4_pass_33  v1 v2 μ) := by
  unfold fX4_pass_33
  with_reducible repeat' first | assumption | exact Fr.refl | refine fr_sI ?_ rfl | refine fr_sL ?_ rfl | refine fr_sC ?_ rfl | exact fm_none | refine fm_some ?_ | refine fm_gd ?_ | refine fm_ite ?_ ?_ | refine fm_ltm ?_ (fun _ _ => ?_) | refine fm_lt ?_ | intro _ _ _ _ _ _ _ _ _ _ | intro _ _ _ _ _ _ _ _ _ | intro _ _ _ _ _ _ _ _ | intro _ _ _ _ _ _ _ | intro _ _ _ _ _ _ | intro _ _ _ _ _ | intro _ _ _ _ | intro _ _ _ | intro _ _ | intro _ | (apply fm_bnd; first | refine fr_fX4_pass_33_b5  _ _ _ _ _ _) | (apply fm_tl; first | refine fr_fX4_pass_33_b5  _ _ _ _ _ _)
theorem fr_fX7_tell__3  (v1 : Int64) (v3 : Int64) (μ : Mem) : Fm aC μ (fX7_tell__3  v1 v3 μ) := by
  unfold fX7_tell__3
  with_reducible repeat' first | assumption | exact Fr.refl | refine fr_sI ?_ rfl | refine fr_sL ?_ rfl | refine fr_sC ?_ rfl | exact fm_none | refine fm_some ?_ | refine fm_gd ?_ | refine fm_ite ?_ ?_ | refine fm_ltm ?_ (fun _ _ => ?_) | refine fm_lt ?_ | intro _ _ _ _ _ _ _ _ _ _ | intro _ _ _ _ _ _ _ _ _ | intro _ _ _ _ _ _ _ _ | intro _ _ _ _ _ _ _ | intro _ _ _ _ _ _ | intro _ _ _ _ _ | intro _ _ _ _ | intro _ _ _ | intro _ _ | intro _ | (apply fm_bnd; first | refine fr_fX7_tell_3  _ _ | refine fr_fX7_add_3  _ _) | (apply fm_tl; first | refine fr_fX7_tell_3  _ _ | refine fr_fX7_add_3  _ _)
theorem fr_fX11_nights_0_b47  (p2 : Int32) (μ : Mem) : Fm aC μ (fX11_nights_0_b47  p2 μ) := by
  unfold fX11_nights_0_b47
  with_reducible repeat' first | assumption | exact Fr.refl | refine fr_sI ?_ rfl | refine fr_sL ?_ rfl | refine fr_sC ?_ rfl | exact fm_none | refine fm_some ?_ | refine fm_gd ?_ | refine fm_ite ?_ ?_ | refine fm_ltm ?_ (fun _ _ => ?_) | refine fm_lt ?_ | intro _ _ _ _ _ _ _ _ _ _ | intro _ _ _ _ _ _ _ _ _ | intro _ _ _ _ _ _ _ _ | intro _ _ _ _ _ _ _ | intro _ _ _ _ _ _ | intro _ _ _ _ _ | intro _ _ _ _ | intro _ _ _ | intro _ _ | intro _ | (apply fm_bnd; first | refine fr_fX11_overOf  _ _ | refine fr_fX7_tell__3  _ _ _ | refine fr_fX11_diedOf  _ _) | (apply fm_tl; first | refine fr_fX11_overOf  _ _ | refine fr_fX7_tell__3  _ _ _ | refine fr_fX11_diedOf  _ _)
theorem fr_fX11_nights_0  (v1 : Int32) (μ : Mem) : Fm aC μ (fX11_nights_0  v1 μ) := by
  unfold fX11_nights_0
  with_reducible repeat' first | assumption | exact Fr.refl | refine fr_sI ?_ rfl | refine fr_sL ?_ rfl | refine fr_sC ?_ rfl | exact fm_none | refine fm_some ?_ | refine fm_gd ?_ | refine fm_ite ?_ ?_ | refine fm_ltm ?_ (fun _ _ => ?_) | refine fm_lt ?_ | intro _ _ _ _ _ _ _ _ _ _ | intro _ _ _ _ _ _ _ _ _ | intro _ _ _ _ _ _ _ _ | intro _ _ _ _ _ _ _ | intro _ _ _ _ _ _ | intro _ _ _ _ _ | intro _ _ _ _ | intro _ _ _ | intro _ _ | intro _ | (apply fm_bnd; first | refine fr_fX11_nights_0_b47  _ _ | refine fr_fX6_note_29_33  _ | refine fr_fX6_seal_29  _ | refine fr_fX4_pass_33  _ _ _) | (apply fm_tl; first | refine fr_fX11_nights_0_b47  _ _ | refine fr_fX6_note_29_33  _ | refine fr_fX6_seal_29  _ | refine fr_fX4_pass_33  _ _ _)
theorem fr_fX12_goNight_122_123_b139 {k118 : Int32 → Mem → Option (Unit × Mem)} (hk118 : ∀ x0 m, Fm aM m (k118 x0 m)) (p2 : Int32) (μ : Mem) : Fm aM μ (fX12_goNight_122_123_b139 k118 p2 μ) := by
  unfold fX12_goNight_122_123_b139
  with_reducible repeat' first | assumption | exact Fr.refl | refine fr_sI ?_ rfl | refine fr_sL ?_ rfl | refine fr_sC ?_ rfl | exact fm_none | refine fm_some ?_ | refine fm_gd ?_ | refine fm_ite ?_ ?_ | refine fm_ltm ?_ (fun _ _ => ?_) | refine fm_lt ?_ | intro _ _ _ _ _ _ _ _ _ _ | intro _ _ _ _ _ _ _ _ _ | intro _ _ _ _ _ _ _ _ | intro _ _ _ _ _ _ _ | intro _ _ _ _ _ _ | intro _ _ _ _ _ | intro _ _ _ _ | intro _ _ _ | intro _ _ | intro _ | (apply fm_bnd; first | exact hk118 _ _) | (apply fm_tl; first | exact hk118 _ _)
theorem fr_fX12_goNight_122_123_b118  : ∀ n a0 μ, Fm aM μ (fX12_goNight_122_123_b118  n a0 μ) := by
  intro n
  induction n with
  | zero =>
    intros
    exact fm_none
  | succ n ih =>
    intro a0 μ
    rw [fX12_goNight_122_123_b118]
    with_reducible repeat' first | assumption | exact Fr.refl | refine fr_sI ?_ rfl | refine fr_sL ?_ rfl | refine fr_sC ?_ rfl | exact fm_none | refine fm_some ?_ | refine fm_gd ?_ | refine fm_ite ?_ ?_ | refine fm_ltm ?_ (fun _ _ => ?_) | refine fm_lt ?_ | intro _ _ _ _ _ _ _ _ _ _ | intro _ _ _ _ _ _ _ _ _ | intro _ _ _ _ _ _ _ _ | intro _ _ _ _ _ _ _ | intro _ _ _ _ _ _ | intro _ _ _ _ _ | intro _ _ _ _ | intro _ _ _ | intro _ _ | intro _ | (apply fm_bnd; first | refine fr_fX12_goNight_122_123_b139 ?_ _ _ | exact ih _ _) | (apply fm_tl; first | refine fr_fX12_goNight_122_123_b139 ?_ _ _ | exact ih _ _)
theorem fr_fX12_goNight_122_123_b59  : ∀ n a0 μ, Fm aM μ (fX12_goNight_122_123_b59  n a0 μ) := by
  intro n
  induction n with
  | zero =>
    intros
    exact fm_none
  | succ n ih =>
    intro a0 μ
    rw [fX12_goNight_122_123_b59]
    with_reducible repeat' first | assumption | exact Fr.refl | refine fr_sI ?_ rfl | refine fr_sL ?_ rfl | refine fr_sC ?_ rfl | exact fm_none | refine fm_some ?_ | refine fm_gd ?_ | refine fm_ite ?_ ?_ | refine fm_ltm ?_ (fun _ _ => ?_) | refine fm_lt ?_ | intro _ _ _ _ _ _ _ _ _ _ | intro _ _ _ _ _ _ _ _ _ | intro _ _ _ _ _ _ _ _ | intro _ _ _ _ _ _ _ | intro _ _ _ _ _ _ | intro _ _ _ _ _ | intro _ _ _ _ | intro _ _ _ | intro _ _ | intro _ | (apply fm_bnd; first | exact ih _ _ | refine fr_fX12_goNight_122_123_b118  _ _ _) | (apply fm_tl; first | exact ih _ _ | refine fr_fX12_goNight_122_123_b118  _ _ _)
theorem fr_fX12_goNight_122_123_b2  : ∀ n a0 μ, Fm aM μ (fX12_goNight_122_123_b2  n a0 μ) := by
  intro n
  induction n with
  | zero =>
    intros
    exact fm_none
  | succ n ih =>
    intro a0 μ
    rw [fX12_goNight_122_123_b2]
    with_reducible repeat' first | assumption | exact Fr.refl | refine fr_sI ?_ rfl | refine fr_sL ?_ rfl | refine fr_sC ?_ rfl | exact fm_none | refine fm_some ?_ | refine fm_gd ?_ | refine fm_ite ?_ ?_ | refine fm_ltm ?_ (fun _ _ => ?_) | refine fm_lt ?_ | intro _ _ _ _ _ _ _ _ _ _ | intro _ _ _ _ _ _ _ _ _ | intro _ _ _ _ _ _ _ _ | intro _ _ _ _ _ _ _ | intro _ _ _ _ _ _ | intro _ _ _ _ _ | intro _ _ _ _ | intro _ _ _ | intro _ _ | intro _ | (apply fm_bnd; first | exact ih _ _ | refine fr_fX12_goNight_122_123_b59  _ _ _ | refine fr_fX12_leftNow_122_123  _ _) | (apply fm_tl; first | exact ih _ _ | refine fr_fX12_goNight_122_123_b59  _ _ _ | refine fr_fX12_leftNow_122_123  _ _)
theorem fr_fX12_goNight_122_123   (μ : Mem) : Fm aM μ (fX12_goNight_122_123   μ) := by
  unfold fX12_goNight_122_123
  with_reducible repeat' first | assumption | exact Fr.refl | refine fr_sI ?_ rfl | refine fr_sL ?_ rfl | refine fr_sC ?_ rfl | exact fm_none | refine fm_some ?_ | refine fm_gd ?_ | refine fm_ite ?_ ?_ | refine fm_ltm ?_ (fun _ _ => ?_) | refine fm_lt ?_ | intro _ _ _ _ _ _ _ _ _ _ | intro _ _ _ _ _ _ _ _ _ | intro _ _ _ _ _ _ _ _ | intro _ _ _ _ _ _ _ | intro _ _ _ _ _ _ | intro _ _ _ _ _ | intro _ _ _ _ | intro _ _ _ | intro _ _ | intro _ | (apply fm_bnd; first | refine fr_fX12_goNight_122_123_b2  _ _ _) | (apply fm_tl; first | refine fr_fX12_goNight_122_123_b2  _ _ _)
theorem fr_fX12_ofKind_122_123_b5 {A : Nat → Bool}  : ∀ n a0 a1 a2 μ, Fm A μ (fX12_ofKind_122_123_b5  n a0 a1 a2 μ) := by
  intro n
  induction n with
  | zero =>
    intros
    exact fm_none
  | succ n ih =>
    intro a0 a1 a2 μ
    rw [fX12_ofKind_122_123_b5]
    with_reducible repeat' first | assumption | exact Fr.refl | refine fr_sI ?_ rfl | refine fr_sL ?_ rfl | refine fr_sC ?_ rfl | exact fm_none | refine fm_some ?_ | refine fm_gd ?_ | refine fm_ite ?_ ?_ | refine fm_ltm ?_ (fun _ _ => ?_) | refine fm_lt ?_ | intro _ _ _ _ _ _ _ _ _ _ | intro _ _ _ _ _ _ _ _ _ | intro _ _ _ _ _ _ _ _ | intro _ _ _ _ _ _ _ | intro _ _ _ _ _ _ | intro _ _ _ _ _ | intro _ _ _ _ | intro _ _ _ | intro _ _ | intro _ | (apply fm_bnd; first | exact ih _ _ _ _) | (apply fm_tl; first | exact ih _ _ _ _)
theorem fr_fX12_ofKind_122_123 {A : Nat → Bool}  (v2 : Int32) (μ : Mem) : Fm A μ (fX12_ofKind_122_123  v2 μ) := by
  unfold fX12_ofKind_122_123
  with_reducible repeat' first | assumption | exact Fr.refl | refine fr_sI ?_ rfl | refine fr_sL ?_ rfl | refine fr_sC ?_ rfl | exact fm_none | refine fm_some ?_ | refine fm_gd ?_ | refine fm_ite ?_ ?_ | refine fm_ltm ?_ (fun _ _ => ?_) | refine fm_lt ?_ | intro _ _ _ _ _ _ _ _ _ _ | intro _ _ _ _ _ _ _ _ _ | intro _ _ _ _ _ _ _ _ | intro _ _ _ _ _ _ _ | intro _ _ _ _ _ _ | intro _ _ _ _ _ | intro _ _ _ _ | intro _ _ _ | intro _ _ | intro _ | (apply fm_bnd; first | refine fr_fX12_ofKind_122_123_b5  _ _ _ _ _) | (apply fm_tl; first | refine fr_fX12_ofKind_122_123_b5  _ _ _ _ _)
theorem fr_fX12_nights_122_b52  : ∀ n a0 a1 a2 a3 μ, Fm aM μ (fX12_nights_122_b52  n a0 a1 a2 a3 μ) := by
  intro n
  induction n with
  | zero =>
    intros
    exact fm_none
  | succ n ih =>
    intro a0 a1 a2 a3 μ
    rw [fX12_nights_122_b52]
    with_reducible repeat' first | assumption | exact Fr.refl | refine fr_sI ?_ rfl | refine fr_sL ?_ rfl | refine fr_sC ?_ rfl | exact fm_none | refine fm_some ?_ | refine fm_gd ?_ | refine fm_ite ?_ ?_ | refine fm_ltm ?_ (fun _ _ => ?_) | refine fm_lt ?_ | intro _ _ _ _ _ _ _ _ _ _ | intro _ _ _ _ _ _ _ _ _ | intro _ _ _ _ _ _ _ _ | intro _ _ _ _ _ _ _ | intro _ _ _ _ _ _ | intro _ _ _ _ _ | intro _ _ _ _ | intro _ _ _ | intro _ _ | intro _ | (apply fm_bnd; first | exact ih _ _ _ _ _ | refine fr_fX12_tell_122  _ _ | refine fr_fX12_goNight_122_123  _ | refine fr_fX12_ofKind_122_123  _ _) | (apply fm_tl; first | exact ih _ _ _ _ _ | refine fr_fX12_tell_122  _ _ | refine fr_fX12_goNight_122_123  _ | refine fr_fX12_ofKind_122_123  _ _)
theorem fr_fX12_nights_122_b29  (p1 : Int32) (μ : Mem) : Fm aM μ (fX12_nights_122_b29  p1 μ) := by
  unfold fX12_nights_122_b29
  with_reducible repeat' first | assumption | exact Fr.refl | refine fr_sI ?_ rfl | refine fr_sL ?_ rfl | refine fr_sC ?_ rfl | exact fm_none | refine fm_some ?_ | refine fm_gd ?_ | refine fm_ite ?_ ?_ | refine fm_ltm ?_ (fun _ _ => ?_) | refine fm_lt ?_ | intro _ _ _ _ _ _ _ _ _ _ | intro _ _ _ _ _ _ _ _ _ | intro _ _ _ _ _ _ _ _ | intro _ _ _ _ _ _ _ | intro _ _ _ _ _ _ | intro _ _ _ _ _ | intro _ _ _ _ | intro _ _ _ | intro _ _ | intro _ | (apply fm_bnd; first | refine fr_fX12_nights_122_b52  _ _ _ _ _ _ | refine fr_fX12_ofKind_122_123  _ _) | (apply fm_tl; first | refine fr_fX12_nights_122_b52  _ _ _ _ _ _ | refine fr_fX12_ofKind_122_123  _ _)
theorem fr_fX12_nights_122  (v1 : Int32) (μ : Mem) : Fm aM μ (fX12_nights_122  v1 μ) := by
  unfold fX12_nights_122
  with_reducible repeat' first | assumption | exact Fr.refl | refine fr_sI ?_ rfl | refine fr_sL ?_ rfl | refine fr_sC ?_ rfl | exact fm_none | refine fm_some ?_ | refine fm_gd ?_ | refine fm_ite ?_ ?_ | refine fm_ltm ?_ (fun _ _ => ?_) | refine fm_lt ?_ | intro _ _ _ _ _ _ _ _ _ _ | intro _ _ _ _ _ _ _ _ _ | intro _ _ _ _ _ _ _ _ | intro _ _ _ _ _ _ _ | intro _ _ _ _ _ _ | intro _ _ _ _ _ | intro _ _ _ _ | intro _ _ _ | intro _ _ | intro _ | (apply fm_bnd; first | refine fr_fX12_remember_122_123  _ | refine fr_fX12_in  _ _ _ _ | refine fr_fX12_nights_122_b29  _ _) | (apply fm_tl; first | refine fr_fX12_remember_122_123  _ | refine fr_fX12_in  _ _ _ _ | refine fr_fX12_nights_122_b29  _ _)
theorem fr_fX4_perform_33_15  (v2 : Int32) (v3 : Int32) (μ : Mem) : Fm aC μ (fX4_perform_33_15  v2 v3 μ) := by
  unfold fX4_perform_33_15
  with_reducible repeat' first | assumption | exact Fr.refl | refine fr_sI ?_ rfl | refine fr_sL ?_ rfl | refine fr_sC ?_ rfl | exact fm_none | refine fm_some ?_ | refine fm_gd ?_ | refine fm_ite ?_ ?_ | refine fm_ltm ?_ (fun _ _ => ?_) | refine fm_lt ?_ | intro _ _ _ _ _ _ _ _ _ _ | intro _ _ _ _ _ _ _ _ _ | intro _ _ _ _ _ _ _ _ | intro _ _ _ _ _ _ _ | intro _ _ _ _ _ _ | intro _ _ _ _ _ | intro _ _ _ _ | intro _ _ _ | intro _ _ | intro _ | (apply fm_bnd; first | refine fr_fX4_layOn_33  _ _ _ | refine fr_fX4_askOf_33  _ _ | refine fr_fX4_tryNow_33  _ _ | refine fr_fX4_pass_33  _ _ _) | (apply fm_tl; first | refine fr_fX4_layOn_33  _ _ _ | refine fr_fX4_askOf_33  _ _ | refine fr_fX4_tryNow_33  _ _ | refine fr_fX4_pass_33  _ _ _)
theorem fr_fJ0_isLatin1_aae02_s1 {A : Nat → Bool}   (μ : Mem) : Fm A μ (fJ0_isLatin1_aae02_s1   μ) := by
  unfold fJ0_isLatin1_aae02_s1
  with_reducible repeat' first | assumption | exact Fr.refl | refine fr_sI ?_ rfl | refine fr_sL ?_ rfl | refine fr_sC ?_ rfl | exact fm_none | refine fm_some ?_ | refine fm_gd ?_ | refine fm_ite ?_ ?_ | refine fm_ltm ?_ (fun _ _ => ?_) | refine fm_lt ?_ | intro _ _ _ _ _ _ _ _ _ _ | intro _ _ _ _ _ _ _ _ _ | intro _ _ _ _ _ _ _ _ | intro _ _ _ _ _ _ _ | intro _ _ _ _ _ _ | intro _ _ _ _ _ | intro _ _ _ _ | intro _ _ _ | intro _ _ | intro _
theorem fr_fJ0_coder_7d493_s1 {A : Nat → Bool}   (μ : Mem) : Fm A μ (fJ0_coder_7d493_s1   μ) := by
  unfold fJ0_coder_7d493_s1
  with_reducible repeat' first | assumption | exact Fr.refl | refine fr_sI ?_ rfl | refine fr_sL ?_ rfl | refine fr_sC ?_ rfl | exact fm_none | refine fm_some ?_ | refine fm_gd ?_ | refine fm_ite ?_ ?_ | refine fm_ltm ?_ (fun _ _ => ?_) | refine fm_lt ?_ | intro _ _ _ _ _ _ _ _ _ _ | intro _ _ _ _ _ _ _ _ _ | intro _ _ _ _ _ _ _ _ | intro _ _ _ _ _ _ _ | intro _ _ _ _ _ _ | intro _ _ _ _ _ | intro _ _ _ _ | intro _ _ _ | intro _ _ | intro _
theorem fr_fJ0_length_8abf5_s1 {A : Nat → Bool}   (μ : Mem) : Fm A μ (fJ0_length_8abf5_s1   μ) := by
  unfold fJ0_length_8abf5_s1
  with_reducible repeat' first | assumption | exact Fr.refl | refine fr_sI ?_ rfl | refine fr_sL ?_ rfl | refine fr_sC ?_ rfl | exact fm_none | refine fm_some ?_ | refine fm_gd ?_ | refine fm_ite ?_ ?_ | refine fm_ltm ?_ (fun _ _ => ?_) | refine fm_lt ?_ | intro _ _ _ _ _ _ _ _ _ _ | intro _ _ _ _ _ _ _ _ _ | intro _ _ _ _ _ _ _ _ | intro _ _ _ _ _ _ _ | intro _ _ _ _ _ _ | intro _ _ _ _ _ | intro _ _ _ _ | intro _ _ _ | intro _ _ | intro _ | (apply fm_bnd; first | refine fr_fJ0_coder_7d493_s1  _) | (apply fm_tl; first | refine fr_fJ0_coder_7d493_s1  _)
theorem fr_fJ1_indexOfChar_4cfef_v1_b7 {A : Nat → Bool}  : ∀ n a0 a1 a2 μ, Fm A μ (fJ1_indexOfChar_4cfef_v1_b7  n a0 a1 a2 μ) := by
  intro n
  induction n with
  | zero =>
    intros
    exact fm_none
  | succ n ih =>
    intro a0 a1 a2 μ
    rw [fJ1_indexOfChar_4cfef_v1_b7]
    with_reducible repeat' first | assumption | exact Fr.refl | refine fr_sI ?_ rfl | refine fr_sL ?_ rfl | refine fr_sC ?_ rfl | exact fm_none | refine fm_some ?_ | refine fm_gd ?_ | refine fm_ite ?_ ?_ | refine fm_ltm ?_ (fun _ _ => ?_) | refine fm_lt ?_ | intro _ _ _ _ _ _ _ _ _ _ | intro _ _ _ _ _ _ _ _ _ | intro _ _ _ _ _ _ _ _ | intro _ _ _ _ _ _ _ | intro _ _ _ _ _ _ | intro _ _ _ _ _ | intro _ _ _ _ | intro _ _ _ | intro _ _ | intro _ | (apply fm_bnd; first | exact ih _ _ _ _) | (apply fm_tl; first | exact ih _ _ _ _)
theorem fr_fJ1_indexOfChar_4cfef_v1 {A : Nat → Bool}  (v1 : Int32) (v2 : Int32) (v3 : Int32) (μ : Mem) : Fm A μ (fJ1_indexOfChar_4cfef_v1  v1 v2 v3 μ) := by
  unfold fJ1_indexOfChar_4cfef_v1
  with_reducible repeat' first | assumption | exact Fr.refl | refine fr_sI ?_ rfl | refine fr_sL ?_ rfl | refine fr_sC ?_ rfl | exact fm_none | refine fm_some ?_ | refine fm_gd ?_ | refine fm_ite ?_ ?_ | refine fm_ltm ?_ (fun _ _ => ?_) | refine fm_lt ?_ | intro _ _ _ _ _ _ _ _ _ _ | intro _ _ _ _ _ _ _ _ _ | intro _ _ _ _ _ _ _ _ | intro _ _ _ _ _ _ _ | intro _ _ _ _ _ _ | intro _ _ _ _ _ | intro _ _ _ _ | intro _ _ _ | intro _ _ | intro _ | (apply fm_bnd; first | refine fr_fJ1_indexOfChar_4cfef_v1_b7  _ _ _ _ _) | (apply fm_tl; first | refine fr_fJ1_indexOfChar_4cfef_v1_b7  _ _ _ _ _)
theorem fr_fJ1_indexOf_4cfef_v1 {A : Nat → Bool}  (v1 : Int32) (v2 : Int32) (v3 : Int32) (μ : Mem) : Fm A μ (fJ1_indexOf_4cfef_v1  v1 v2 v3 μ) := by
  unfold fJ1_indexOf_4cfef_v1
  with_reducible repeat' first | assumption | exact Fr.refl | refine fr_sI ?_ rfl | refine fr_sL ?_ rfl | refine fr_sC ?_ rfl | exact fm_none | refine fm_some ?_ | refine fm_gd ?_ | refine fm_ite ?_ ?_ | refine fm_ltm ?_ (fun _ _ => ?_) | refine fm_lt ?_ | intro _ _ _ _ _ _ _ _ _ _ | intro _ _ _ _ _ _ _ _ _ | intro _ _ _ _ _ _ _ _ | intro _ _ _ _ _ _ _ | intro _ _ _ _ _ _ | intro _ _ _ _ _ | intro _ _ _ _ | intro _ _ _ | intro _ _ | intro _ | (apply fm_bnd; first | refine fr_fJ1_canEncode_9a6ad  _ _ | refine fr_fJ1_indexOfChar_4cfef_v1  _ _ _ _) | (apply fm_tl; first | refine fr_fJ1_canEncode_9a6ad  _ _ | refine fr_fJ1_indexOfChar_4cfef_v1  _ _ _ _)
theorem fr_fJ0_indexOf_7cf53_s1 {A : Nat → Bool}  (v1 : Int32) (v2 : Int32) (μ : Mem) : Fm A μ (fJ0_indexOf_7cf53_s1  v1 v2 μ) := by
  unfold fJ0_indexOf_7cf53_s1
  with_reducible repeat' first | assumption | exact Fr.refl | refine fr_sI ?_ rfl | refine fr_sL ?_ rfl | refine fr_sC ?_ rfl | exact fm_none | refine fm_some ?_ | refine fm_gd ?_ | refine fm_ite ?_ ?_ | refine fm_ltm ?_ (fun _ _ => ?_) | refine fm_lt ?_ | intro _ _ _ _ _ _ _ _ _ _ | intro _ _ _ _ _ _ _ _ _ | intro _ _ _ _ _ _ _ _ | intro _ _ _ _ _ _ _ | intro _ _ _ _ _ _ | intro _ _ _ _ _ | intro _ _ _ _ | intro _ _ _ | intro _ _ | intro _ | (apply fm_bnd; first | refine fr_fJ1_indexOf_4cfef_v1  _ _ _ _ | refine fr_fJ0_length_8abf5_s1  _ | refine fr_fJ0_isLatin1_aae02_s1  _) | (apply fm_tl; first | refine fr_fJ1_indexOf_4cfef_v1  _ _ _ _ | refine fr_fJ0_length_8abf5_s1  _ | refine fr_fJ0_isLatin1_aae02_s1  _)
theorem fr_fJ0_indexOf_0f7a4_s1 {A : Nat → Bool}  (v1 : Int32) (μ : Mem) : Fm A μ (fJ0_indexOf_0f7a4_s1  v1 μ) := by
  unfold fJ0_indexOf_0f7a4_s1
  with_reducible repeat' first | assumption | exact Fr.refl | refine fr_sI ?_ rfl | refine fr_sL ?_ rfl | refine fr_sC ?_ rfl | exact fm_none | refine fm_some ?_ | refine fm_gd ?_ | refine fm_ite ?_ ?_ | refine fm_ltm ?_ (fun _ _ => ?_) | refine fm_lt ?_ | intro _ _ _ _ _ _ _ _ _ _ | intro _ _ _ _ _ _ _ _ _ | intro _ _ _ _ _ _ _ _ | intro _ _ _ _ _ _ _ | intro _ _ _ _ _ _ | intro _ _ _ _ _ | intro _ _ _ _ | intro _ _ _ | intro _ _ | intro _ | (apply fm_bnd; first | refine fr_fJ0_indexOf_7cf53_s1  _ _ _) | (apply fm_tl; first | refine fr_fJ0_indexOf_7cf53_s1  _ _ _)
theorem fr_fX9_takesOneOf_1_s1   (μ : Mem) : Fm aC μ (fX9_takesOneOf_1_s1   μ) := by
  unfold fX9_takesOneOf_1_s1
  with_reducible repeat' first | assumption | exact Fr.refl | refine fr_sI ?_ rfl | refine fr_sL ?_ rfl | refine fr_sC ?_ rfl | exact fm_none | refine fm_some ?_ | refine fm_gd ?_ | refine fm_ite ?_ ?_ | refine fm_ltm ?_ (fun _ _ => ?_) | refine fm_lt ?_ | intro _ _ _ _ _ _ _ _ _ _ | intro _ _ _ _ _ _ _ _ _ | intro _ _ _ _ _ _ _ _ | intro _ _ _ _ _ _ _ | intro _ _ _ _ _ _ | intro _ _ _ _ _ | intro _ _ _ _ | intro _ _ _ | intro _ _ | intro _ | (apply fm_bnd; first | refine fr_fJ0_indexOf_0f7a4_s1  _ _) | (apply fm_tl; first | refine fr_fJ0_indexOf_0f7a4_s1  _ _)
theorem fr_fX0_readsOne_15_1_b116  (p2 : Int32) (q0 : Int32) (q1 : Int32) (μ : Mem) : Fm aC μ (fX0_readsOne_15_1_b116  p2 q0 q1 μ) := by
  unfold fX0_readsOne_15_1_b116
  with_reducible repeat' first | assumption | exact Fr.refl | refine fr_sI ?_ rfl | refine fr_sL ?_ rfl | refine fr_sC ?_ rfl | exact fm_none | refine fm_some ?_ | refine fm_gd ?_ | refine fm_ite ?_ ?_ | refine fm_ltm ?_ (fun _ _ => ?_) | refine fm_lt ?_ | intro _ _ _ _ _ _ _ _ _ _ | intro _ _ _ _ _ _ _ _ _ | intro _ _ _ _ _ _ _ _ | intro _ _ _ _ _ _ _ | intro _ _ _ _ _ _ | intro _ _ _ _ _ | intro _ _ _ _ | intro _ _ _ | intro _ _ | intro _
theorem fr_fX0_readsOne_15_1_b97  (p2 : Int32) (q0 : Int32) (μ : Mem) : Fm aC μ (fX0_readsOne_15_1_b97  p2 q0 μ) := by
  unfold fX0_readsOne_15_1_b97
  with_reducible repeat' first | assumption | exact Fr.refl | refine fr_sI ?_ rfl | refine fr_sL ?_ rfl | refine fr_sC ?_ rfl | exact fm_none | refine fm_some ?_ | refine fm_gd ?_ | refine fm_ite ?_ ?_ | refine fm_ltm ?_ (fun _ _ => ?_) | refine fm_lt ?_ | intro _ _ _ _ _ _ _ _ _ _ | intro _ _ _ _ _ _ _ _ _ | intro _ _ _ _ _ _ _ _ | intro _ _ _ _ _ _ _ | intro _ _ _ _ _ _ | intro _ _ _ _ _ | intro _ _ _ _ | intro _ _ _ | intro _ _ | intro _ | (apply fm_bnd; first | refine fr_fX0_readsOne_15_1_b116  _ _ _ _ | refine fr_fX9_number_1  _ _) | (apply fm_tl; first | refine fr_fX0_readsOne_15_1_b116  _ _ _ _ | refine fr_fX9_number_1  _ _)
theorem fr_fX0_readsOne_15_1_b96  (p2 : Int32) (μ : Mem) : Fm aC μ (fX0_readsOne_15_1_b96  p2 μ) := by
  unfold fX0_readsOne_15_1_b96
  with_reducible repeat' first | assumption | exact Fr.refl | refine fr_sI ?_ rfl | refine fr_sL ?_ rfl | refine fr_sC ?_ rfl | exact fm_none | refine fm_some ?_ | refine fm_gd ?_ | refine fm_ite ?_ ?_ | refine fm_ltm ?_ (fun _ _ => ?_) | refine fm_lt ?_ | intro _ _ _ _ _ _ _ _ _ _ | intro _ _ _ _ _ _ _ _ _ | intro _ _ _ _ _ _ _ _ | intro _ _ _ _ _ _ _ | intro _ _ _ _ _ _ | intro _ _ _ _ _ | intro _ _ _ _ | intro _ _ _ | intro _ _ | intro _ | (apply fm_bnd; first | refine fr_fX0_readsOne_15_1_b97  _ _ _) | (apply fm_tl; first | refine fr_fX0_readsOne_15_1_b97  _ _ _)
theorem fr_fX0_readsOne_15_1_b60  (p2 : Int32) (q0 : Int32) (q1 : Int32) (μ : Mem) : Fm aC μ (fX0_readsOne_15_1_b60  p2 q0 q1 μ) := by
  unfold fX0_readsOne_15_1_b60
  with_reducible repeat' first | assumption | exact Fr.refl | refine fr_sI ?_ rfl | refine fr_sL ?_ rfl | refine fr_sC ?_ rfl | exact fm_none | refine fm_some ?_ | refine fm_gd ?_ | refine fm_ite ?_ ?_ | refine fm_ltm ?_ (fun _ _ => ?_) | refine fm_lt ?_ | intro _ _ _ _ _ _ _ _ _ _ | intro _ _ _ _ _ _ _ _ _ | intro _ _ _ _ _ _ _ _ | intro _ _ _ _ _ _ _ | intro _ _ _ _ _ _ | intro _ _ _ _ _ | intro _ _ _ _ | intro _ _ _ | intro _ _ | intro _ | (apply fm_bnd; first | refine fr_fX0_readsOne_15_1_b96  _ _ | refine fr_fX0_readsOne_15_1_b97  _ _ _) | (apply fm_tl; first | refine fr_fX0_readsOne_15_1_b96  _ _ | refine fr_fX0_readsOne_15_1_b97  _ _ _)
theorem fr_fX0_readsOne_15_1  (v2 : Int32) (μ : Mem) : Fm aC μ (fX0_readsOne_15_1  v2 μ) := by
  unfold fX0_readsOne_15_1
  with_reducible repeat' first | assumption | exact Fr.refl | refine fr_sI ?_ rfl | refine fr_sL ?_ rfl | refine fr_sC ?_ rfl | exact fm_none | refine fm_some ?_ | refine fm_gd ?_ | refine fm_ite ?_ ?_ | refine fm_ltm ?_ (fun _ _ => ?_) | refine fm_lt ?_ | intro _ _ _ _ _ _ _ _ _ _ | intro _ _ _ _ _ _ _ _ _ | intro _ _ _ _ _ _ _ _ | intro _ _ _ _ _ _ _ | intro _ _ _ _ _ _ | intro _ _ _ _ _ | intro _ _ _ _ | intro _ _ _ | intro _ _ | intro _ | (apply fm_bnd; first | refine fr_fX9_takesOneOf_1_s1  _ | refine fr_fX9_digit_1  _ _ | refine fr_fX0_readsOne_15_1_b60  _ _ _ _) | (apply fm_tl; first | refine fr_fX9_takesOneOf_1_s1  _ | refine fr_fX9_digit_1  _ _ | refine fr_fX0_readsOne_15_1_b60  _ _ _ _)
theorem fr_fX5_readAll_15_1_b16  : ∀ n a0 μ, Fm aC μ (fX5_readAll_15_1_b16  n a0 μ) := by
  intro n
  induction n with
  | zero =>
    intros
    exact fm_none
  | succ n ih =>
    intro a0 μ
    rw [fX5_readAll_15_1_b16]
    with_reducible repeat' first | assumption | exact Fr.refl | refine fr_sI ?_ rfl | refine fr_sL ?_ rfl | refine fr_sC ?_ rfl | exact fm_none | refine fm_some ?_ | refine fm_gd ?_ | refine fm_ite ?_ ?_ | refine fm_ltm ?_ (fun _ _ => ?_) | refine fm_lt ?_ | intro _ _ _ _ _ _ _ _ _ _ | intro _ _ _ _ _ _ _ _ _ | intro _ _ _ _ _ _ _ _ | intro _ _ _ _ _ _ _ | intro _ _ _ _ _ _ | intro _ _ _ _ _ | intro _ _ _ _ | intro _ _ _ | intro _ _ | intro _ | (apply fm_bnd; first | refine fr_fX9_wrong_1  _ | refine fr_fX9_takes_1  _ _ | exact ih _ _ | refine fr_fX0_readsOne_15_1  _ _ | refine fr_fX9_isRead_1  _) | (apply fm_tl; first | refine fr_fX9_wrong_1  _ | refine fr_fX9_takes_1  _ _ | exact ih _ _ | refine fr_fX0_readsOne_15_1  _ _ | refine fr_fX9_isRead_1  _)
theorem fr_fX5_readAll_15_1  (v2 : Int32) (μ : Mem) : Fm aC μ (fX5_readAll_15_1  v2 μ) := by
  unfold fX5_readAll_15_1
  with_reducible repeat' first | assumption | exact Fr.refl | refine fr_sI ?_ rfl | refine fr_sL ?_ rfl | refine fr_sC ?_ rfl | exact fm_none | refine fm_some ?_ | refine fm_gd ?_ | refine fm_ite ?_ ?_ | refine fm_ltm ?_ (fun _ _ => ?_) | refine fm_lt ?_ | intro _ _ _ _ _ _ _ _ _ _ | intro _ _ _ _ _ _ _ _ _ | intro _ _ _ _ _ _ _ _ | intro _ _ _ _ _ _ _ | intro _ _ _ _ _ _ | intro _ _ _ _ _ | intro _ _ _ _ | intro _ _ _ | intro _ _ | intro _ | (apply fm_bnd; first | refine fr_fX5_readAll_15_1_b16  _ _ _ | refine fr_fX9_open_1  _ _ | refine fr_fX9_isRead_1  _) | (apply fm_tl; first | refine fr_fX5_readAll_15_1_b16  _ _ _ | refine fr_fX9_open_1  _ _ | refine fr_fX9_isRead_1  _)
theorem fr_fX11_assize_0_b95  (p2 : Int32) (q0 : Int64) (μ : Mem) : Fm aC μ (fX11_assize_0_b95  p2 q0 μ) := by
  unfold fX11_assize_0_b95
  with_reducible repeat' first | assumption | exact Fr.refl | refine fr_sI ?_ rfl | refine fr_sL ?_ rfl | refine fr_sC ?_ rfl | exact fm_none | refine fm_some ?_ | refine fm_gd ?_ | refine fm_ite ?_ ?_ | refine fm_ltm ?_ (fun _ _ => ?_) | refine fm_lt ?_ | intro _ _ _ _ _ _ _ _ _ _ | intro _ _ _ _ _ _ _ _ _ | intro _ _ _ _ _ _ _ _ | intro _ _ _ _ _ _ _ | intro _ _ _ _ _ _ | intro _ _ _ _ _ | intro _ _ _ _ | intro _ _ _ | intro _ _ | intro _ | (apply fm_bnd; first | refine fr_fX7_tell__3  _ _ _) | (apply fm_tl; first | refine fr_fX7_tell__3  _ _ _)
theorem fr_fX11_assize_0_b81  (p1 : Int32) (p2 : Int32) (μ : Mem) : Fm aC μ (fX11_assize_0_b81  p1 p2 μ) := by
  unfold fX11_assize_0_b81
  with_reducible repeat' first | assumption | exact Fr.refl | refine fr_sI ?_ rfl | refine fr_sL ?_ rfl | refine fr_sC ?_ rfl | exact fm_none | refine fm_some ?_ | refine fm_gd ?_ | refine fm_ite ?_ ?_ | refine fm_ltm ?_ (fun _ _ => ?_) | refine fm_lt ?_ | intro _ _ _ _ _ _ _ _ _ _ | intro _ _ _ _ _ _ _ _ _ | intro _ _ _ _ _ _ _ _ | intro _ _ _ _ _ _ _ | intro _ _ _ _ _ _ | intro _ _ _ _ _ | intro _ _ _ _ | intro _ _ _ | intro _ _ | intro _ | (apply fm_bnd; first | refine fr_fX11_assize_0_b95  _ _ _) | (apply fm_tl; first | refine fr_fX11_assize_0_b95  _ _ _)
theorem fr_fX11_assize_0_b70  (p1 : Int32) (p2 : Int32) (μ : Mem) : Fm aC μ (fX11_assize_0_b70  p1 p2 μ) := by
  unfold fX11_assize_0_b70
  with_reducible repeat' first | assumption | exact Fr.refl | refine fr_sI ?_ rfl | refine fr_sL ?_ rfl | refine fr_sC ?_ rfl | exact fm_none | refine fm_some ?_ | refine fm_gd ?_ | refine fm_ite ?_ ?_ | refine fm_ltm ?_ (fun _ _ => ?_) | refine fm_lt ?_ | intro _ _ _ _ _ _ _ _ _ _ | intro _ _ _ _ _ _ _ _ _ | intro _ _ _ _ _ _ _ _ | intro _ _ _ _ _ _ _ | intro _ _ _ _ _ _ | intro _ _ _ _ _ | intro _ _ _ _ | intro _ _ _ | intro _ _ | intro _ | (apply fm_bnd; first | refine fr_fX6_seal_29  _ | refine fr_fX11_assize_0_b81  _ _ _) | (apply fm_tl; first | refine fr_fX6_seal_29  _ | refine fr_fX11_assize_0_b81  _ _ _)
theorem fr_fX11_assize_0_b40  : ∀ n a0 a1 μ, Fm aC μ (fX11_assize_0_b40  n a0 a1 μ) := by
  intro n
  induction n with
  | zero =>
    intros
    exact fm_none
  | succ n ih =>
    intro a0 a1 μ
    rw [fX11_assize_0_b40]
    with_reducible repeat' first | assumption | exact Fr.refl | refine fr_sI ?_ rfl | refine fr_sL ?_ rfl | refine fr_sC ?_ rfl | exact fm_none | refine fm_some ?_ | refine fm_gd ?_ | refine fm_ite ?_ ?_ | refine fm_ltm ?_ (fun _ _ => ?_) | refine fm_lt ?_ | intro _ _ _ _ _ _ _ _ _ _ | intro _ _ _ _ _ _ _ _ _ | intro _ _ _ _ _ _ _ _ | intro _ _ _ _ _ _ _ | intro _ _ _ _ _ _ | intro _ _ _ _ _ | intro _ _ _ _ | intro _ _ _ | intro _ _ | intro _ | (apply fm_bnd; first | refine fr_fX11_assize_0_b70  _ _ _ | exact ih _ _ _ | refine fr_fX4_perform_33_15  _ _ _) | (apply fm_tl; first | refine fr_fX11_assize_0_b70  _ _ _ | exact ih _ _ _ | refine fr_fX4_perform_33_15  _ _ _)
theorem fr_fX11_assize_0   (μ : Mem) : Fm aC μ (fX11_assize_0   μ) := by
  unfold fX11_assize_0
  with_reducible repeat' first | assumption | exact Fr.refl | refine fr_sI ?_ rfl | refine fr_sL ?_ rfl | refine fr_sC ?_ rfl | exact fm_none | refine fm_some ?_ | refine fm_gd ?_ | refine fm_ite ?_ ?_ | refine fm_ltm ?_ (fun _ _ => ?_) | refine fm_lt ?_ | intro _ _ _ _ _ _ _ _ _ _ | intro _ _ _ _ _ _ _ _ _ | intro _ _ _ _ _ _ _ _ | intro _ _ _ _ _ _ _ | intro _ _ _ _ _ _ | intro _ _ _ _ _ | intro _ _ _ _ | intro _ _ _ | intro _ _ | intro _ | (apply fm_bnd; first | refine fr_fX11_assize_0_b40  _ _ _ _ | refine fr_fX5_readAll_15_1  _ _ | refine fr_fX9_empty_1  _ | refine fr_fX6_note_29_33  _) | (apply fm_tl; first | refine fr_fX11_assize_0_b40  _ _ _ _ | refine fr_fX5_readAll_15_1  _ _ | refine fr_fX9_empty_1  _ | refine fr_fX6_note_29_33  _)
theorem fr_fX12_act_122_b56  (p2 : Int32) (q0 : Int32) (μ : Mem) : Fm aM μ (fX12_act_122_b56  p2 q0 μ) := by
  unfold fX12_act_122_b56
  with_reducible repeat' first | assumption | exact Fr.refl | refine fr_sI ?_ rfl | refine fr_sL ?_ rfl | refine fr_sC ?_ rfl | exact fm_none | refine fm_some ?_ | refine fm_gd ?_ | refine fm_ite ?_ ?_ | refine fm_ltm ?_ (fun _ _ => ?_) | refine fm_lt ?_ | intro _ _ _ _ _ _ _ _ _ _ | intro _ _ _ _ _ _ _ _ _ | intro _ _ _ _ _ _ _ _ | intro _ _ _ _ _ _ _ | intro _ _ _ _ _ _ | intro _ _ _ _ _ | intro _ _ _ _ | intro _ _ _ | intro _ _ | intro _ | (apply fm_bnd; first | refine fr_fX12_refusesLay_122  _ _ _ | refine fr_fX12_goLay_123  _ _ _) | (apply fm_tl; first | refine fr_fX12_refusesLay_122  _ _ _ | refine fr_fX12_goLay_123  _ _ _)
theorem fr_fX12_act_122_b181  : ∀ n a0 a1 μ, Fm aM μ (fX12_act_122_b181  n a0 a1 μ) := by
  intro n
  induction n with
  | zero =>
    intros
    exact fm_none
  | succ n ih =>
    intro a0 a1 μ
    rw [fX12_act_122_b181]
    with_reducible repeat' first | assumption | exact Fr.refl | refine fr_sI ?_ rfl | refine fr_sL ?_ rfl | refine fr_sC ?_ rfl | exact fm_none | refine fm_some ?_ | refine fm_gd ?_ | refine fm_ite ?_ ?_ | refine fm_ltm ?_ (fun _ _ => ?_) | refine fm_lt ?_ | intro _ _ _ _ _ _ _ _ _ _ | intro _ _ _ _ _ _ _ _ _ | intro _ _ _ _ _ _ _ _ | intro _ _ _ _ _ _ _ | intro _ _ _ _ _ _ | intro _ _ _ _ _ | intro _ _ _ _ | intro _ _ _ | intro _ _ | intro _ | (apply fm_bnd; first | refine fr_fX12_goNight_122_123  _ | exact ih _ _ _) | (apply fm_tl; first | refine fr_fX12_goNight_122_123  _ | exact ih _ _ _)
theorem fr_fX12_act_122  (v1 : Int32) (v2 : Int32) (v3 : Int32) (μ : Mem) : Fm aM μ (fX12_act_122  v1 v2 v3 μ) := by
  unfold fX12_act_122
  with_reducible repeat' first | assumption | exact Fr.refl | refine fr_sI ?_ rfl | refine fr_sL ?_ rfl | refine fr_sC ?_ rfl | exact fm_none | refine fm_some ?_ | refine fm_gd ?_ | refine fm_ite ?_ ?_ | refine fm_ltm ?_ (fun _ _ => ?_) | refine fm_lt ?_ | intro _ _ _ _ _ _ _ _ _ _ | intro _ _ _ _ _ _ _ _ _ | intro _ _ _ _ _ _ _ _ | intro _ _ _ _ _ _ _ | intro _ _ _ _ _ _ | intro _ _ _ _ _ | intro _ _ _ _ | intro _ _ _ | intro _ _ | intro _ | (apply fm_bnd; first | refine fr_fX12_goPlead_123  _ _ | refine fr_fX12_isMan_122  _ _ | refine fr_fX12_ending_122  _ _ | refine fr_fX12_doesSpeak_122  _ _ _ | refine fr_fX12_proofIn_122_123  _ _ _ | refine fr_fX12_act_122_b181  _ _ _ _ | refine fr_fX12_leftNow_122_123  _ _ | refine fr_fX12_act_122_b56  _ _ _) | (apply fm_tl; first | refine fr_fX12_goPlead_123  _ _ | refine fr_fX12_isMan_122  _ _ | refine fr_fX12_ending_122  _ _ | refine fr_fX12_doesSpeak_122  _ _ _ | refine fr_fX12_proofIn_122_123  _ _ _ | refine fr_fX12_act_122_b181  _ _ _ _ | refine fr_fX12_leftNow_122_123  _ _ | refine fr_fX12_act_122_b56  _ _ _)
theorem fr_fX12_lay_123_139_b2  : ∀ n a0 a1 μ, Fm aM μ (fX12_lay_123_139_b2  n a0 a1 μ) := by
  intro n
  induction n with
  | zero =>
    intros
    exact fm_none
  | succ n ih =>
    intro a0 a1 μ
    rw [fX12_lay_123_139_b2]
    with_reducible repeat' first | assumption | exact Fr.refl | refine fr_sI ?_ rfl | refine fr_sL ?_ rfl | refine fr_sC ?_ rfl | exact fm_none | refine fm_some ?_ | refine fm_gd ?_ | refine fm_ite ?_ ?_ | refine fm_ltm ?_ (fun _ _ => ?_) | refine fm_lt ?_ | intro _ _ _ _ _ _ _ _ _ _ | intro _ _ _ _ _ _ _ _ _ | intro _ _ _ _ _ _ _ _ | intro _ _ _ _ _ _ _ | intro _ _ _ _ _ _ | intro _ _ _ _ _ | intro _ _ _ _ | intro _ _ _ | intro _ _ | intro _ | (apply fm_bnd; first | exact ih _ _ _) | (apply fm_tl; first | exact ih _ _ _)
theorem fr_fX12_lay_123_139  (v2 : Int32) (μ : Mem) : Fm aM μ (fX12_lay_123_139  v2 μ) := by
  unfold fX12_lay_123_139
  with_reducible repeat' first | assumption | exact Fr.refl | refine fr_sI ?_ rfl | refine fr_sL ?_ rfl | refine fr_sC ?_ rfl | exact fm_none | refine fm_some ?_ | refine fm_gd ?_ | refine fm_ite ?_ ?_ | refine fm_ltm ?_ (fun _ _ => ?_) | refine fm_lt ?_ | intro _ _ _ _ _ _ _ _ _ _ | intro _ _ _ _ _ _ _ _ _ | intro _ _ _ _ _ _ _ _ | intro _ _ _ _ _ _ _ | intro _ _ _ _ _ _ | intro _ _ _ _ _ | intro _ _ _ _ | intro _ _ _ | intro _ _ | intro _ | (apply fm_bnd; first | refine fr_fX12_lay_123_139_b2  _ _ _ _) | (apply fm_tl; first | refine fr_fX12_lay_123_139_b2  _ _ _ _)
theorem fr_fX12_readAct_122_b102  (p1 : Int32) (μ : Mem) : Fm aM μ (fX12_readAct_122_b102  p1 μ) := by
  unfold fX12_readAct_122_b102
  with_reducible repeat' first | assumption | exact Fr.refl | refine fr_sI ?_ rfl | refine fr_sL ?_ rfl | refine fr_sC ?_ rfl | exact fm_none | refine fm_some ?_ | refine fm_gd ?_ | refine fm_ite ?_ ?_ | refine fm_ltm ?_ (fun _ _ => ?_) | refine fm_lt ?_ | intro _ _ _ _ _ _ _ _ _ _ | intro _ _ _ _ _ _ _ _ _ | intro _ _ _ _ _ _ _ _ | intro _ _ _ _ _ _ _ | intro _ _ _ _ _ _ | intro _ _ _ _ _ | intro _ _ _ _ | intro _ _ _ | intro _ _ | intro _ | (apply fm_bnd; first | refine fr_fX12_number_122  _ _) | (apply fm_tl; first | refine fr_fX12_number_122  _ _)
theorem fr_fX12_readAct_122_b89  (p1 : Int32) (p2 : Int32) (q0 : Int32) (q1 : Int32) (μ : Mem) : Fm aM μ (fX12_readAct_122_b89  p1 p2 q0 q1 μ) := by
  unfold fX12_readAct_122_b89
  with_reducible repeat' first | assumption | exact Fr.refl | refine fr_sI ?_ rfl | refine fr_sL ?_ rfl | refine fr_sC ?_ rfl | exact fm_none | refine fm_some ?_ | refine fm_gd ?_ | refine fm_ite ?_ ?_ | refine fm_ltm ?_ (fun _ _ => ?_) | refine fm_lt ?_ | intro _ _ _ _ _ _ _ _ _ _ | intro _ _ _ _ _ _ _ _ _ | intro _ _ _ _ _ _ _ _ | intro _ _ _ _ _ _ _ | intro _ _ _ _ _ _ | intro _ _ _ _ _ | intro _ _ _ _ | intro _ _ _ | intro _ _ | intro _ | (apply fm_bnd; first | refine fr_fX12_readAct_122_b102  _ _) | (apply fm_tl; first | refine fr_fX12_readAct_122_b102  _ _)
theorem fr_fX12_readAct_122_b43  (p1 : Int32) (p2 : Int32) (μ : Mem) : Fm aM μ (fX12_readAct_122_b43  p1 p2 μ) := by
  unfold fX12_readAct_122_b43
  with_reducible repeat' first | assumption | exact Fr.refl | refine fr_sI ?_ rfl | refine fr_sL ?_ rfl | refine fr_sC ?_ rfl | exact fm_none | refine fm_some ?_ | refine fm_gd ?_ | refine fm_ite ?_ ?_ | refine fm_ltm ?_ (fun _ _ => ?_) | refine fm_lt ?_ | intro _ _ _ _ _ _ _ _ _ _ | intro _ _ _ _ _ _ _ _ _ | intro _ _ _ _ _ _ _ _ | intro _ _ _ _ _ _ _ | intro _ _ _ _ _ _ | intro _ _ _ _ _ | intro _ _ _ _ | intro _ _ _ | intro _ _ | intro _ | (apply fm_bnd; first | refine fr_fX12_number_122  _ _ | refine fr_fX12_readAct_122_b89  _ _ _ _ _ | refine fr_fX12_oneOf_122  _ _ _) | (apply fm_tl; first | refine fr_fX12_number_122  _ _ | refine fr_fX12_readAct_122_b89  _ _ _ _ _ | refine fr_fX12_oneOf_122  _ _ _)
theorem fr_fX12_readAct_122  (v1 : Int32) (μ : Mem) : Fm aM μ (fX12_readAct_122  v1 μ) := by
  unfold fX12_readAct_122
  with_reducible repeat' first | assumption | exact Fr.refl | refine fr_sI ?_ rfl | refine fr_sL ?_ rfl | refine fr_sC ?_ rfl | exact fm_none | refine fm_some ?_ | refine fm_gd ?_ | refine fm_ite ?_ ?_ | refine fm_ltm ?_ (fun _ _ => ?_) | refine fm_lt ?_ | intro _ _ _ _ _ _ _ _ _ _ | intro _ _ _ _ _ _ _ _ _ | intro _ _ _ _ _ _ _ _ | intro _ _ _ _ _ _ _ | intro _ _ _ _ _ _ | intro _ _ _ _ _ | intro _ _ _ _ | intro _ _ _ | intro _ _ | intro _ | (apply fm_bnd; first | refine fr_fX12_here_122  _ | refine fr_fX12_fault_122  _ _ | refine fr_fX12_readAct_122_b43  _ _ _) | (apply fm_tl; first | refine fr_fX12_here_122  _ | refine fr_fX12_fault_122  _ _ | refine fr_fX12_readAct_122_b43  _ _ _)
theorem fr_fX12_lay_139_138_b2  : ∀ n a0 a1 μ, Fm aM μ (fX12_lay_139_138_b2  n a0 a1 μ) := by
  intro n
  induction n with
  | zero =>
    intros
    exact fm_none
  | succ n ih =>
    intro a0 a1 μ
    rw [fX12_lay_139_138_b2]
    with_reducible repeat' first | assumption | exact Fr.refl | refine fr_sI ?_ rfl | refine fr_sL ?_ rfl | refine fr_sC ?_ rfl | exact fm_none | refine fm_some ?_ | refine fm_gd ?_ | refine fm_ite ?_ ?_ | refine fm_ltm ?_ (fun _ _ => ?_) | refine fm_lt ?_ | intro _ _ _ _ _ _ _ _ _ _ | intro _ _ _ _ _ _ _ _ _ | intro _ _ _ _ _ _ _ _ | intro _ _ _ _ _ _ _ | intro _ _ _ _ _ _ | intro _ _ _ _ _ | intro _ _ _ _ | intro _ _ _ | intro _ _ | intro _ | (apply fm_bnd; first | exact ih _ _ _) | (apply fm_tl; first | exact ih _ _ _)
theorem fr_fX12_lay_139_138  (v2 : Int32) (μ : Mem) : Fm aM μ (fX12_lay_139_138  v2 μ) := by
  unfold fX12_lay_139_138
  with_reducible repeat' first | assumption | exact Fr.refl | refine fr_sI ?_ rfl | refine fr_sL ?_ rfl | refine fr_sC ?_ rfl | exact fm_none | refine fm_some ?_ | refine fm_gd ?_ | refine fm_ite ?_ ?_ | refine fm_ltm ?_ (fun _ _ => ?_) | refine fm_lt ?_ | intro _ _ _ _ _ _ _ _ _ _ | intro _ _ _ _ _ _ _ _ _ | intro _ _ _ _ _ _ _ _ | intro _ _ _ _ _ _ _ | intro _ _ _ _ _ _ | intro _ _ _ _ _ | intro _ _ _ _ | intro _ _ _ | intro _ _ | intro _ | (apply fm_bnd; first | refine fr_fX12_lay_139_138_b2  _ _ _ _) | (apply fm_tl; first | refine fr_fX12_lay_139_138_b2  _ _ _ _)
theorem fr_fX12_remember_122_139_b49   (μ : Mem) : Fm aM μ (fX12_remember_122_139_b49   μ) := by
  unfold fX12_remember_122_139_b49
  with_reducible repeat' first | assumption | exact Fr.refl | refine fr_sI ?_ rfl | refine fr_sL ?_ rfl | refine fr_sC ?_ rfl | exact fm_none | refine fm_some ?_ | refine fm_gd ?_ | refine fm_ite ?_ ?_ | refine fm_ltm ?_ (fun _ _ => ?_) | refine fm_lt ?_ | intro _ _ _ _ _ _ _ _ _ _ | intro _ _ _ _ _ _ _ _ _ | intro _ _ _ _ _ _ _ _ | intro _ _ _ _ _ _ _ | intro _ _ _ _ _ _ | intro _ _ _ _ _ | intro _ _ _ _ | intro _ _ _ | intro _ _ | intro _ | (apply fm_bnd; first | refine fr_fX12_lay_139_138  _ _) | (apply fm_tl; first | refine fr_fX12_lay_139_138  _ _)
theorem fr_fX12_remember_122_139_b11  : ∀ n a0 μ, Fm aM μ (fX12_remember_122_139_b11  n a0 μ) := by
  intro n
  induction n with
  | zero =>
    intros
    exact fm_none
  | succ n ih =>
    intro a0 μ
    rw [fX12_remember_122_139_b11]
    with_reducible repeat' first | assumption | exact Fr.refl | refine fr_sI ?_ rfl | refine fr_sL ?_ rfl | refine fr_sC ?_ rfl | exact fm_none | refine fm_some ?_ | refine fm_gd ?_ | refine fm_ite ?_ ?_ | refine fm_ltm ?_ (fun _ _ => ?_) | refine fm_lt ?_ | intro _ _ _ _ _ _ _ _ _ _ | intro _ _ _ _ _ _ _ _ _ | intro _ _ _ _ _ _ _ _ | intro _ _ _ _ _ _ _ | intro _ _ _ _ _ _ | intro _ _ _ _ _ | intro _ _ _ _ | intro _ _ _ | intro _ _ | intro _ | (apply fm_bnd; first | refine fr_fX12_remember_122_139_b49  _ | exact ih _ _) | (apply fm_tl; first | refine fr_fX12_remember_122_139_b49  _ | exact ih _ _)
theorem fr_fX12_remember_122_139   (μ : Mem) : Fm aM μ (fX12_remember_122_139   μ) := by
  unfold fX12_remember_122_139
  with_reducible repeat' first | assumption | exact Fr.refl | refine fr_sI ?_ rfl | refine fr_sL ?_ rfl | refine fr_sC ?_ rfl | exact fm_none | refine fm_some ?_ | refine fm_gd ?_ | refine fm_ite ?_ ?_ | refine fm_ltm ?_ (fun _ _ => ?_) | refine fm_lt ?_ | intro _ _ _ _ _ _ _ _ _ _ | intro _ _ _ _ _ _ _ _ _ | intro _ _ _ _ _ _ _ _ | intro _ _ _ _ _ _ _ | intro _ _ _ _ _ _ | intro _ _ _ _ _ | intro _ _ _ _ | intro _ _ _ | intro _ _ | intro _ | (apply fm_bnd; first | refine fr_fX12_remember_122_139_b49  _ | refine fr_fX12_remember_122_139_b11  _ _ _) | (apply fm_tl; first | refine fr_fX12_remember_122_139_b49  _ | refine fr_fX12_remember_122_139_b11  _ _ _)
theorem fr_fX12_assize_122_b159  (p3 : Int32) (q0 : Int64) (μ : Mem) : Fm aM μ (fX12_assize_122_b159  p3 q0 μ) := by
  unfold fX12_assize_122_b159
  with_reducible repeat' first | assumption | exact Fr.refl | refine fr_sI ?_ rfl | refine fr_sL ?_ rfl | refine fr_sC ?_ rfl | exact fm_none | refine fm_some ?_ | refine fm_gd ?_ | refine fm_ite ?_ ?_ | refine fm_ltm ?_ (fun _ _ => ?_) | refine fm_lt ?_ | intro _ _ _ _ _ _ _ _ _ _ | intro _ _ _ _ _ _ _ _ _ | intro _ _ _ _ _ _ _ _ | intro _ _ _ _ _ _ _ | intro _ _ _ _ _ _ | intro _ _ _ _ _ | intro _ _ _ _ | intro _ _ _ | intro _ _ | intro _ | (apply fm_bnd; first | refine fr_fX12_tell_122  _ _) | (apply fm_tl; first | refine fr_fX12_tell_122  _ _)
theorem fr_fX12_assize_122_b143  (p1 : Int32) (p3 : Int32) (μ : Mem) : Fm aM μ (fX12_assize_122_b143  p1 p3 μ) := by
  unfold fX12_assize_122_b143
  with_reducible repeat' first | assumption | exact Fr.refl | refine fr_sI ?_ rfl | refine fr_sL ?_ rfl | refine fr_sC ?_ rfl | exact fm_none | refine fm_some ?_ | refine fm_gd ?_ | refine fm_ite ?_ ?_ | refine fm_ltm ?_ (fun _ _ => ?_) | refine fm_lt ?_ | intro _ _ _ _ _ _ _ _ _ _ | intro _ _ _ _ _ _ _ _ _ | intro _ _ _ _ _ _ _ _ | intro _ _ _ _ _ _ _ | intro _ _ _ _ _ _ | intro _ _ _ _ _ | intro _ _ _ _ | intro _ _ _ | intro _ _ | intro _ | (apply fm_bnd; first | refine fr_fX12_assize_122_b159  _ _ _) | (apply fm_tl; first | refine fr_fX12_assize_122_b159  _ _ _)
theorem fr_fX12_assize_122_b131  (p1 : Int32) (p3 : Int32) (μ : Mem) : Fm aM μ (fX12_assize_122_b131  p1 p3 μ) := by
  unfold fX12_assize_122_b131
  with_reducible repeat' first | assumption | exact Fr.refl | refine fr_sI ?_ rfl | refine fr_sL ?_ rfl | refine fr_sC ?_ rfl | exact fm_none | refine fm_some ?_ | refine fm_gd ?_ | refine fm_ite ?_ ?_ | refine fm_ltm ?_ (fun _ _ => ?_) | refine fm_lt ?_ | intro _ _ _ _ _ _ _ _ _ _ | intro _ _ _ _ _ _ _ _ _ | intro _ _ _ _ _ _ _ _ | intro _ _ _ _ _ _ _ | intro _ _ _ _ _ _ | intro _ _ _ _ _ | intro _ _ _ _ | intro _ _ _ | intro _ _ | intro _ | (apply fm_bnd; first | refine fr_fX12_assize_122_b143  _ _ _ | refine fr_fX12_remember_122_139  _) | (apply fm_tl; first | refine fr_fX12_assize_122_b143  _ _ _ | refine fr_fX12_remember_122_139  _)
theorem fr_fX12_assize_122_b85  : ∀ n a0 a1 μ, Fm aM μ (fX12_assize_122_b85  n a0 a1 μ) := by
  intro n
  induction n with
  | zero =>
    intros
    exact fm_none
  | succ n ih =>
    intro a0 a1 μ
    rw [fX12_assize_122_b85]
    with_reducible repeat' first | assumption | exact Fr.refl | refine fr_sI ?_ rfl | refine fr_sL ?_ rfl | refine fr_sC ?_ rfl | exact fm_none | refine fm_some ?_ | refine fm_gd ?_ | refine fm_ite ?_ ?_ | refine fm_ltm ?_ (fun _ _ => ?_) | refine fm_lt ?_ | intro _ _ _ _ _ _ _ _ _ _ | intro _ _ _ _ _ _ _ _ _ | intro _ _ _ _ _ _ _ _ | intro _ _ _ _ _ _ _ | intro _ _ _ _ _ _ | intro _ _ _ _ _ | intro _ _ _ _ | intro _ _ _ | intro _ _ | intro _ | (apply fm_bnd; first | refine fr_fX12_assize_122_b131  _ _ _ | exact ih _ _ _ | refine fr_fX12_act_122  _ _ _ _) | (apply fm_tl; first | refine fr_fX12_assize_122_b131  _ _ _ | exact ih _ _ _ | refine fr_fX12_act_122  _ _ _ _)
theorem fr_fX12_assize_122_b57  (p1 : Int32) (μ : Mem) : Fm aM μ (fX12_assize_122_b57  p1 μ) := by
  unfold fX12_assize_122_b57
  with_reducible repeat' first | assumption | exact Fr.refl | refine fr_sI ?_ rfl | refine fr_sL ?_ rfl | refine fr_sC ?_ rfl | exact fm_none | refine fm_some ?_ | refine fm_gd ?_ | refine fm_ite ?_ ?_ | refine fm_ltm ?_ (fun _ _ => ?_) | refine fm_lt ?_ | intro _ _ _ _ _ _ _ _ _ _ | intro _ _ _ _ _ _ _ _ _ | intro _ _ _ _ _ _ _ _ | intro _ _ _ _ _ _ _ | intro _ _ _ _ _ _ | intro _ _ _ _ _ | intro _ _ _ _ | intro _ _ _ | intro _ _ | intro _ | (apply fm_bnd; first | refine fr_fX12_lay_123_139  _ _ | refine fr_fX12_assize_122_b85  _ _ _ _ | refine fr_fX12_wasRight_122  _) | (apply fm_tl; first | refine fr_fX12_lay_123_139  _ _ | refine fr_fX12_assize_122_b85  _ _ _ _ | refine fr_fX12_wasRight_122  _)
theorem fr_fX12_assize_122_b26  : ∀ n a0 a1 μ, Fm aM μ (fX12_assize_122_b26  n a0 a1 μ) := by
  intro n
  induction n with
  | zero =>
    intros
    exact fm_none
  | succ n ih =>
    intro a0 a1 μ
    rw [fX12_assize_122_b26]
    with_reducible repeat' first | assumption | exact Fr.refl | refine fr_sI ?_ rfl | refine fr_sL ?_ rfl | refine fr_sC ?_ rfl | exact fm_none | refine fm_some ?_ | refine fm_gd ?_ | refine fm_ite ?_ ?_ | refine fm_ltm ?_ (fun _ _ => ?_) | refine fm_lt ?_ | intro _ _ _ _ _ _ _ _ _ _ | intro _ _ _ _ _ _ _ _ _ | intro _ _ _ _ _ _ _ _ | intro _ _ _ _ _ _ _ | intro _ _ _ _ _ _ | intro _ _ _ _ _ | intro _ _ _ _ | intro _ _ _ | intro _ _ | intro _ | (apply fm_bnd; first | exact ih _ _ _ | refine fr_fX12_passes_122  _ _ | refine fr_fX12_readAct_122  _ _ | refine fr_fX12_assize_122_b57  _ _ | refine fr_fX12_fine_122  _) | (apply fm_tl; first | exact ih _ _ _ | refine fr_fX12_passes_122  _ _ | refine fr_fX12_readAct_122  _ _ | refine fr_fX12_assize_122_b57  _ _ | refine fr_fX12_fine_122  _)
theorem fr_fX12_assize_122   (μ : Mem) : Fm aM μ (fX12_assize_122   μ) := by
  unfold fX12_assize_122
  with_reducible repeat' first | assumption | exact Fr.refl | refine fr_sI ?_ rfl | refine fr_sL ?_ rfl | refine fr_sC ?_ rfl | exact fm_none | refine fm_some ?_ | refine fm_gd ?_ | refine fm_ite ?_ ?_ | refine fm_ltm ?_ (fun _ _ => ?_) | refine fm_lt ?_ | intro _ _ _ _ _ _ _ _ _ _ | intro _ _ _ _ _ _ _ _ _ | intro _ _ _ _ _ _ _ _ | intro _ _ _ _ _ _ _ | intro _ _ _ _ _ _ | intro _ _ _ _ _ | intro _ _ _ _ | intro _ _ _ | intro _ _ | intro _ | (apply fm_bnd; first | refine fr_fX12_beginText_122  _ _ | refine fr_fX12_assize_122_b26  _ _ _ _) | (apply fm_tl; first | refine fr_fX12_beginText_122  _ _ | refine fr_fX12_assize_122_b26  _ _ _ _)
theorem fr_fX4_take_33_103   (μ : Mem) : Fm aC μ (fX4_take_33_103   μ) := by
  unfold fX4_take_33_103
  with_reducible repeat' first | assumption | exact Fr.refl | refine fr_sI ?_ rfl | refine fr_sL ?_ rfl | refine fr_sC ?_ rfl | exact fm_none | refine fm_some ?_ | refine fm_gd ?_ | refine fm_ite ?_ ?_ | refine fm_ltm ?_ (fun _ _ => ?_) | refine fm_lt ?_ | intro _ _ _ _ _ _ _ _ _ _ | intro _ _ _ _ _ _ _ _ _ | intro _ _ _ _ _ _ _ _ | intro _ _ _ _ _ _ _ | intro _ _ _ _ _ _ | intro _ _ _ _ _ | intro _ _ _ _ | intro _ _ _ | intro _ _ | intro _
theorem fr_fX4_take_33_43   (μ : Mem) : Fm aC μ (fX4_take_33_43   μ) := by
  unfold fX4_take_33_43
  with_reducible repeat' first | assumption | exact Fr.refl | refine fr_sI ?_ rfl | refine fr_sL ?_ rfl | refine fr_sC ?_ rfl | exact fm_none | refine fm_some ?_ | refine fm_gd ?_ | refine fm_ite ?_ ?_ | refine fm_ltm ?_ (fun _ _ => ?_) | refine fm_lt ?_ | intro _ _ _ _ _ _ _ _ _ _ | intro _ _ _ _ _ _ _ _ _ | intro _ _ _ _ _ _ _ _ | intro _ _ _ _ _ _ _ | intro _ _ _ _ _ _ | intro _ _ _ _ _ | intro _ _ _ _ | intro _ _ _ | intro _ _ | intro _
theorem fr_fX4_take_33_48   (μ : Mem) : Fm aC μ (fX4_take_33_48   μ) := by
  unfold fX4_take_33_48
  with_reducible repeat' first | assumption | exact Fr.refl | refine fr_sI ?_ rfl | refine fr_sL ?_ rfl | refine fr_sC ?_ rfl | exact fm_none | refine fm_some ?_ | refine fm_gd ?_ | refine fm_ite ?_ ?_ | refine fm_ltm ?_ (fun _ _ => ?_) | refine fm_lt ?_ | intro _ _ _ _ _ _ _ _ _ _ | intro _ _ _ _ _ _ _ _ _ | intro _ _ _ _ _ _ _ _ | intro _ _ _ _ _ _ _ | intro _ _ _ _ _ _ | intro _ _ _ _ _ | intro _ _ _ _ | intro _ _ _ | intro _ _ | intro _
theorem fr_fX4_take_33_53   (μ : Mem) : Fm aC μ (fX4_take_33_53   μ) := by
  unfold fX4_take_33_53
  with_reducible repeat' first | assumption | exact Fr.refl | refine fr_sI ?_ rfl | refine fr_sL ?_ rfl | refine fr_sC ?_ rfl | exact fm_none | refine fm_some ?_ | refine fm_gd ?_ | refine fm_ite ?_ ?_ | refine fm_ltm ?_ (fun _ _ => ?_) | refine fm_lt ?_ | intro _ _ _ _ _ _ _ _ _ _ | intro _ _ _ _ _ _ _ _ _ | intro _ _ _ _ _ _ _ _ | intro _ _ _ _ _ _ _ | intro _ _ _ _ _ _ | intro _ _ _ _ _ | intro _ _ _ _ | intro _ _ _ | intro _ _ | intro _
theorem fr_fX4_take_33_58   (μ : Mem) : Fm aC μ (fX4_take_33_58   μ) := by
  unfold fX4_take_33_58
  with_reducible repeat' first | assumption | exact Fr.refl | refine fr_sI ?_ rfl | refine fr_sL ?_ rfl | refine fr_sC ?_ rfl | exact fm_none | refine fm_some ?_ | refine fm_gd ?_ | refine fm_ite ?_ ?_ | refine fm_ltm ?_ (fun _ _ => ?_) | refine fm_lt ?_ | intro _ _ _ _ _ _ _ _ _ _ | intro _ _ _ _ _ _ _ _ _ | intro _ _ _ _ _ _ _ _ | intro _ _ _ _ _ _ _ | intro _ _ _ _ _ _ | intro _ _ _ _ _ | intro _ _ _ _ | intro _ _ _ | intro _ _ | intro _
theorem fr_fX4_take_33_63   (μ : Mem) : Fm aC μ (fX4_take_33_63   μ) := by
  unfold fX4_take_33_63
  with_reducible repeat' first | assumption | exact Fr.refl | refine fr_sI ?_ rfl | refine fr_sL ?_ rfl | refine fr_sC ?_ rfl | exact fm_none | refine fm_some ?_ | refine fm_gd ?_ | refine fm_ite ?_ ?_ | refine fm_ltm ?_ (fun _ _ => ?_) | refine fm_lt ?_ | intro _ _ _ _ _ _ _ _ _ _ | intro _ _ _ _ _ _ _ _ _ | intro _ _ _ _ _ _ _ _ | intro _ _ _ _ _ _ _ | intro _ _ _ _ _ _ | intro _ _ _ _ _ | intro _ _ _ _ | intro _ _ _ | intro _ _ | intro _
theorem fr_fX4_take_33_68   (μ : Mem) : Fm aC μ (fX4_take_33_68   μ) := by
  unfold fX4_take_33_68
  with_reducible repeat' first | assumption | exact Fr.refl | refine fr_sI ?_ rfl | refine fr_sL ?_ rfl | refine fr_sC ?_ rfl | exact fm_none | refine fm_some ?_ | refine fm_gd ?_ | refine fm_ite ?_ ?_ | refine fm_ltm ?_ (fun _ _ => ?_) | refine fm_lt ?_ | intro _ _ _ _ _ _ _ _ _ _ | intro _ _ _ _ _ _ _ _ _ | intro _ _ _ _ _ _ _ _ | intro _ _ _ _ _ _ _ | intro _ _ _ _ _ _ | intro _ _ _ _ _ | intro _ _ _ _ | intro _ _ _ | intro _ _ | intro _
theorem fr_fX4_take_33_73   (μ : Mem) : Fm aC μ (fX4_take_33_73   μ) := by
  unfold fX4_take_33_73
  with_reducible repeat' first | assumption | exact Fr.refl | refine fr_sI ?_ rfl | refine fr_sL ?_ rfl | refine fr_sC ?_ rfl | exact fm_none | refine fm_some ?_ | refine fm_gd ?_ | refine fm_ite ?_ ?_ | refine fm_ltm ?_ (fun _ _ => ?_) | refine fm_lt ?_ | intro _ _ _ _ _ _ _ _ _ _ | intro _ _ _ _ _ _ _ _ _ | intro _ _ _ _ _ _ _ _ | intro _ _ _ _ _ _ _ | intro _ _ _ _ _ _ | intro _ _ _ _ _ | intro _ _ _ _ | intro _ _ _ | intro _ _ | intro _
theorem fr_fX4_take_33_78   (μ : Mem) : Fm aC μ (fX4_take_33_78   μ) := by
  unfold fX4_take_33_78
  with_reducible repeat' first | assumption | exact Fr.refl | refine fr_sI ?_ rfl | refine fr_sL ?_ rfl | refine fr_sC ?_ rfl | exact fm_none | refine fm_some ?_ | refine fm_gd ?_ | refine fm_ite ?_ ?_ | refine fm_ltm ?_ (fun _ _ => ?_) | refine fm_lt ?_ | intro _ _ _ _ _ _ _ _ _ _ | intro _ _ _ _ _ _ _ _ _ | intro _ _ _ _ _ _ _ _ | intro _ _ _ _ _ _ _ | intro _ _ _ _ _ _ | intro _ _ _ _ _ | intro _ _ _ _ | intro _ _ _ | intro _ _ | intro _
theorem fr_fX4_take_33_83   (μ : Mem) : Fm aC μ (fX4_take_33_83   μ) := by
  unfold fX4_take_33_83
  with_reducible repeat' first | assumption | exact Fr.refl | refine fr_sI ?_ rfl | refine fr_sL ?_ rfl | refine fr_sC ?_ rfl | exact fm_none | refine fm_some ?_ | refine fm_gd ?_ | refine fm_ite ?_ ?_ | refine fm_ltm ?_ (fun _ _ => ?_) | refine fm_lt ?_ | intro _ _ _ _ _ _ _ _ _ _ | intro _ _ _ _ _ _ _ _ _ | intro _ _ _ _ _ _ _ _ | intro _ _ _ _ _ _ _ | intro _ _ _ _ _ _ | intro _ _ _ _ _ | intro _ _ _ _ | intro _ _ _ | intro _ _ | intro _
theorem fr_fX4_take_33_88   (μ : Mem) : Fm aC μ (fX4_take_33_88   μ) := by
  unfold fX4_take_33_88
  with_reducible repeat' first | assumption | exact Fr.refl | refine fr_sI ?_ rfl | refine fr_sL ?_ rfl | refine fr_sC ?_ rfl | exact fm_none | refine fm_some ?_ | refine fm_gd ?_ | refine fm_ite ?_ ?_ | refine fm_ltm ?_ (fun _ _ => ?_) | refine fm_lt ?_ | intro _ _ _ _ _ _ _ _ _ _ | intro _ _ _ _ _ _ _ _ _ | intro _ _ _ _ _ _ _ _ | intro _ _ _ _ _ _ _ | intro _ _ _ _ _ _ | intro _ _ _ _ _ | intro _ _ _ _ | intro _ _ _ | intro _ _ | intro _
theorem fr_fX4_take_33_93   (μ : Mem) : Fm aC μ (fX4_take_33_93   μ) := by
  unfold fX4_take_33_93
  with_reducible repeat' first | assumption | exact Fr.refl | refine fr_sI ?_ rfl | refine fr_sL ?_ rfl | refine fr_sC ?_ rfl | exact fm_none | refine fm_some ?_ | refine fm_gd ?_ | refine fm_ite ?_ ?_ | refine fm_ltm ?_ (fun _ _ => ?_) | refine fm_lt ?_ | intro _ _ _ _ _ _ _ _ _ _ | intro _ _ _ _ _ _ _ _ _ | intro _ _ _ _ _ _ _ _ | intro _ _ _ _ _ _ _ | intro _ _ _ _ _ _ | intro _ _ _ _ _ | intro _ _ _ _ | intro _ _ _ | intro _ _ | intro _
theorem fr_fX4_take_33_98   (μ : Mem) : Fm aC μ (fX4_take_33_98   μ) := by
  unfold fX4_take_33_98
  with_reducible repeat' first | assumption | exact Fr.refl | refine fr_sI ?_ rfl | refine fr_sL ?_ rfl | refine fr_sC ?_ rfl | exact fm_none | refine fm_some ?_ | refine fm_gd ?_ | refine fm_ite ?_ ?_ | refine fm_ltm ?_ (fun _ _ => ?_) | refine fm_lt ?_ | intro _ _ _ _ _ _ _ _ _ _ | intro _ _ _ _ _ _ _ _ _ | intro _ _ _ _ _ _ _ _ | intro _ _ _ _ _ _ _ | intro _ _ _ _ _ _ | intro _ _ _ _ _ | intro _ _ _ _ | intro _ _ _ | intro _ _ | intro _
theorem fr_fX6_restore_29_33   (μ : Mem) : Fm aC μ (fX6_restore_29_33   μ) := by
  unfold fX6_restore_29_33
  with_reducible repeat' first | assumption | exact Fr.refl | refine fr_sI ?_ rfl | refine fr_sL ?_ rfl | refine fr_sC ?_ rfl | exact fm_none | refine fm_some ?_ | refine fm_gd ?_ | refine fm_ite ?_ ?_ | refine fm_ltm ?_ (fun _ _ => ?_) | refine fm_lt ?_ | intro _ _ _ _ _ _ _ _ _ _ | intro _ _ _ _ _ _ _ _ _ | intro _ _ _ _ _ _ _ _ | intro _ _ _ _ _ _ _ | intro _ _ _ _ _ _ | intro _ _ _ _ _ | intro _ _ _ _ | intro _ _ _ | intro _ _ | intro _ | (apply fm_bnd; first | refine fr_fX4_take_33_43  _ | refine fr_fX4_take_33_63  _ | refine fr_fX4_take_33_78  _ | refine fr_fX4_take_33_103  _ | refine fr_fX4_take_33_68  _ | refine fr_fX4_take_33_48  _ | refine fr_fX4_take_33_83  _ | refine fr_fX4_take_33_98  _ | refine fr_fX4_take_33_58  _ | refine fr_fX4_take_33_93  _ | refine fr_fX4_take_33_73  _ | refine fr_fX4_take_33_53  _ | refine fr_fX4_take_33_88  _) | (apply fm_tl; first | refine fr_fX4_take_33_43  _ | refine fr_fX4_take_33_63  _ | refine fr_fX4_take_33_78  _ | refine fr_fX4_take_33_103  _ | refine fr_fX4_take_33_68  _ | refine fr_fX4_take_33_48  _ | refine fr_fX4_take_33_83  _ | refine fr_fX4_take_33_98  _ | refine fr_fX4_take_33_58  _ | refine fr_fX4_take_33_93  _ | refine fr_fX4_take_33_73  _ | refine fr_fX4_take_33_53  _ | refine fr_fX4_take_33_88  _)
theorem fr_fX11_undo_0   (μ : Mem) : Fm aC μ (fX11_undo_0   μ) := by
  unfold fX11_undo_0
  with_reducible repeat' first | assumption | exact Fr.refl | refine fr_sI ?_ rfl | refine fr_sL ?_ rfl | refine fr_sC ?_ rfl | exact fm_none | refine fm_some ?_ | refine fm_gd ?_ | refine fm_ite ?_ ?_ | refine fm_ltm ?_ (fun _ _ => ?_) | refine fm_lt ?_ | intro _ _ _ _ _ _ _ _ _ _ | intro _ _ _ _ _ _ _ _ _ | intro _ _ _ _ _ _ _ _ | intro _ _ _ _ _ _ _ | intro _ _ _ _ _ _ | intro _ _ _ _ _ | intro _ _ _ _ | intro _ _ _ | intro _ _ | intro _ | (apply fm_bnd; first | refine fr_fX6_restore_29_33  _) | (apply fm_tl; first | refine fr_fX6_restore_29_33  _)
theorem fr_fX12_undo_122_b26  : ∀ n a0 μ, Fm aM μ (fX12_undo_122_b26  n a0 μ) := by
  intro n
  induction n with
  | zero =>
    intros
    exact fm_none
  | succ n ih =>
    intro a0 μ
    rw [fX12_undo_122_b26]
    with_reducible repeat' first | assumption | exact Fr.refl | refine fr_sI ?_ rfl | refine fr_sL ?_ rfl | refine fr_sC ?_ rfl | exact fm_none | refine fm_some ?_ | refine fm_gd ?_ | refine fm_ite ?_ ?_ | refine fm_ltm ?_ (fun _ _ => ?_) | refine fm_lt ?_ | intro _ _ _ _ _ _ _ _ _ _ | intro _ _ _ _ _ _ _ _ _ | intro _ _ _ _ _ _ _ _ | intro _ _ _ _ _ _ _ | intro _ _ _ _ _ _ | intro _ _ _ _ _ | intro _ _ _ _ | intro _ _ _ | intro _ _ | intro _ | (apply fm_bnd; first | exact ih _ _) | (apply fm_tl; first | exact ih _ _)
theorem fr_fX12_undo_122   (μ : Mem) : Fm aM μ (fX12_undo_122   μ) := by
  unfold fX12_undo_122
  with_reducible repeat' first | assumption | exact Fr.refl | refine fr_sI ?_ rfl | refine fr_sL ?_ rfl | refine fr_sC ?_ rfl | exact fm_none | refine fm_some ?_ | refine fm_gd ?_ | refine fm_ite ?_ ?_ | refine fm_ltm ?_ (fun _ _ => ?_) | refine fm_lt ?_ | intro _ _ _ _ _ _ _ _ _ _ | intro _ _ _ _ _ _ _ _ _ | intro _ _ _ _ _ _ _ _ | intro _ _ _ _ _ _ _ | intro _ _ _ _ _ _ | intro _ _ _ _ _ | intro _ _ _ _ | intro _ _ _ | intro _ _ | intro _ | (apply fm_bnd; first | refine fr_fX12_undo_122_b26  _ _ _) | (apply fm_tl; first | refine fr_fX12_undo_122_b26  _ _ _)
theorem fr_fX11_isThere_0 {A : Nat → Bool}  (v1 : Int32) (μ : Mem) : Fm A μ (fX11_isThere_0  v1 μ) := by
  unfold fX11_isThere_0
  with_reducible repeat' first | assumption | exact Fr.refl | refine fr_sI ?_ rfl | refine fr_sL ?_ rfl | refine fr_sC ?_ rfl | exact fm_none | refine fm_some ?_ | refine fm_gd ?_ | refine fm_ite ?_ ?_ | refine fm_ltm ?_ (fun _ _ => ?_) | refine fm_lt ?_ | intro _ _ _ _ _ _ _ _ _ _ | intro _ _ _ _ _ _ _ _ _ | intro _ _ _ _ _ _ _ _ | intro _ _ _ _ _ _ _ | intro _ _ _ _ _ _ | intro _ _ _ _ _ | intro _ _ _ _ | intro _ _ _ | intro _ _ | intro _
theorem fr_fX4_leftIn_33_b24  (p3 : Int32) (q0 : Int32) (q1 : Int32) (q2 : Int32) (μ : Mem) : Fm aC μ (fX4_leftIn_33_b24  p3 q0 q1 q2 μ) := by
  unfold fX4_leftIn_33_b24
  with_reducible repeat' first | assumption | exact Fr.refl | refine fr_sI ?_ rfl | refine fr_sL ?_ rfl | refine fr_sC ?_ rfl | exact fm_none | refine fm_some ?_ | refine fm_gd ?_ | refine fm_ite ?_ ?_ | refine fm_ltm ?_ (fun _ _ => ?_) | refine fm_lt ?_ | intro _ _ _ _ _ _ _ _ _ _ | intro _ _ _ _ _ _ _ _ _ | intro _ _ _ _ _ _ _ _ | intro _ _ _ _ _ _ _ | intro _ _ _ _ _ _ | intro _ _ _ _ _ | intro _ _ _ _ | intro _ _ _ | intro _ _ | intro _ | (apply fm_bnd; first | refine fr_fX4_leftWith_33  _ _ _ _ _) | (apply fm_tl; first | refine fr_fX4_leftWith_33  _ _ _ _ _)
theorem fr_fX4_leftIn_33  (v1 : Int32) (v2 : Int32) (v3 : Int32) (μ : Mem) : Fm aC μ (fX4_leftIn_33  v1 v2 v3 μ) := by
  unfold fX4_leftIn_33
  with_reducible repeat' first | assumption | exact Fr.refl | refine fr_sI ?_ rfl | refine fr_sL ?_ rfl | refine fr_sC ?_ rfl | exact fm_none | refine fm_some ?_ | refine fm_gd ?_ | refine fm_ite ?_ ?_ | refine fm_ltm ?_ (fun _ _ => ?_) | refine fm_lt ?_ | intro _ _ _ _ _ _ _ _ _ _ | intro _ _ _ _ _ _ _ _ _ | intro _ _ _ _ _ _ _ _ | intro _ _ _ _ _ _ _ | intro _ _ _ _ _ _ | intro _ _ _ _ _ | intro _ _ _ _ | intro _ _ _ | intro _ _ | intro _ | (apply fm_bnd; first | refine fr_fX4_leftIn_33_b24  _ _ _ _ _) | (apply fm_tl; first | refine fr_fX4_leftIn_33_b24  _ _ _ _ _)
theorem fr_fX11_left_0  (v1 : Int32) (v2 : Int32) (μ : Mem) : Fm aC μ (fX11_left_0  v1 v2 μ) := by
  unfold fX11_left_0
  with_reducible repeat' first | assumption | exact Fr.refl | refine fr_sI ?_ rfl | refine fr_sL ?_ rfl | refine fr_sC ?_ rfl | exact fm_none | refine fm_some ?_ | refine fm_gd ?_ | refine fm_ite ?_ ?_ | refine fm_ltm ?_ (fun _ _ => ?_) | refine fm_lt ?_ | intro _ _ _ _ _ _ _ _ _ _ | intro _ _ _ _ _ _ _ _ _ | intro _ _ _ _ _ _ _ _ | intro _ _ _ _ _ _ _ | intro _ _ _ _ _ _ | intro _ _ _ _ _ | intro _ _ _ _ | intro _ _ _ | intro _ _ | intro _ | (apply fm_bnd; first | refine fr_fX11_isThere_0  _ _ | refine fr_fX4_leftIn_33  _ _ _ _) | (apply fm_tl; first | refine fr_fX11_isThere_0  _ _ | refine fr_fX4_leftIn_33  _ _ _ _)
theorem fr_fX12_left_122_b59  (p2 : Int32) (q0 : Int32) (q1 : Int32) (q2 : Int32) (q3 : Int32) (q5 : Int32) (μ : Mem) : Fm aM μ (fX12_left_122_b59  p2 q0 q1 q2 q3 q5 μ) := by
  unfold fX12_left_122_b59
  with_reducible repeat' first | assumption | exact Fr.refl | refine fr_sI ?_ rfl | refine fr_sL ?_ rfl | refine fr_sC ?_ rfl | exact fm_none | refine fm_some ?_ | refine fm_gd ?_ | refine fm_ite ?_ ?_ | refine fm_ltm ?_ (fun _ _ => ?_) | refine fm_lt ?_ | intro _ _ _ _ _ _ _ _ _ _ | intro _ _ _ _ _ _ _ _ _ | intro _ _ _ _ _ _ _ _ | intro _ _ _ _ _ _ _ | intro _ _ _ _ _ _ | intro _ _ _ _ _ | intro _ _ _ _ | intro _ _ _ | intro _ _ | intro _ | (apply fm_bnd; first | refine fr_fX12_leftOf_122  _ _ _ _ _) | (apply fm_tl; first | refine fr_fX12_leftOf_122  _ _ _ _ _)
theorem fr_fX12_left_122  (v1 : Int32) (v2 : Int32) (μ : Mem) : Fm aM μ (fX12_left_122  v1 v2 μ) := by
  unfold fX12_left_122
  with_reducible repeat' first | assumption | exact Fr.refl | refine fr_sI ?_ rfl | refine fr_sL ?_ rfl | refine fr_sC ?_ rfl | exact fm_none | refine fm_some ?_ | refine fm_gd ?_ | refine fm_ite ?_ ?_ | refine fm_ltm ?_ (fun _ _ => ?_) | refine fm_lt ?_ | intro _ _ _ _ _ _ _ _ _ _ | intro _ _ _ _ _ _ _ _ _ | intro _ _ _ _ _ _ _ _ | intro _ _ _ _ _ _ _ | intro _ _ _ _ _ _ | intro _ _ _ _ _ | intro _ _ _ _ | intro _ _ _ | intro _ _ | intro _ | (apply fm_bnd; first | refine fr_fX12_isMan_122  _ _ | refine fr_fX12_left_122_b59  _ _ _ _ _ _ _ | refine fr_fX12_in  _ _ _ _) | (apply fm_tl; first | refine fr_fX12_isMan_122  _ _ | refine fr_fX12_left_122_b59  _ _ _ _ _ _ _ | refine fr_fX12_in  _ _ _ _)
theorem fr_fX4_leftDying_33  (v1 : Int32) (v2 : Int32) (v3 : Int32) (μ : Mem) : Fm aC μ (fX4_leftDying_33  v1 v2 v3 μ) := by
  unfold fX4_leftDying_33
  with_reducible repeat' first | assumption | exact Fr.refl | refine fr_sI ?_ rfl | refine fr_sL ?_ rfl | refine fr_sC ?_ rfl | exact fm_none | refine fm_some ?_ | refine fm_gd ?_ | refine fm_ite ?_ ?_ | refine fm_ltm ?_ (fun _ _ => ?_) | refine fm_lt ?_ | intro _ _ _ _ _ _ _ _ _ _ | intro _ _ _ _ _ _ _ _ _ | intro _ _ _ _ _ _ _ _ | intro _ _ _ _ _ _ _ | intro _ _ _ _ _ _ | intro _ _ _ _ _ | intro _ _ _ _ | intro _ _ _ | intro _ _ | intro _ | (apply fm_bnd; first | refine fr_fX4_leftWith_33  _ _ _ _ _) | (apply fm_tl; first | refine fr_fX4_leftWith_33  _ _ _ _ _)
theorem fr_fX4_diesIn_33_b10  : ∀ n a0 a1 a2 a3 a4 μ, Fm aC μ (fX4_diesIn_33_b10  n a0 a1 a2 a3 a4 μ) := by
  intro n
  induction n with
  | zero =>
    intros
    exact fm_none
  | succ n ih =>
    intro a0 a1 a2 a3 a4 μ
    rw [fX4_diesIn_33_b10]
    with_reducible repeat' first | assumption | exact Fr.refl | refine fr_sI ?_ rfl | refine fr_sL ?_ rfl | refine fr_sC ?_ rfl | exact fm_none | refine fm_some ?_ | refine fm_gd ?_ | refine fm_ite ?_ ?_ | refine fm_ltm ?_ (fun _ _ => ?_) | refine fm_lt ?_ | intro _ _ _ _ _ _ _ _ _ _ | intro _ _ _ _ _ _ _ _ _ | intro _ _ _ _ _ _ _ _ | intro _ _ _ _ _ _ _ | intro _ _ _ _ _ _ | intro _ _ _ _ _ | intro _ _ _ _ | intro _ _ _ | intro _ _ | intro _ | (apply fm_bnd; first | exact ih _ _ _ _ _ _ | refine fr_fX4_leftDying_33  _ _ _ _) | (apply fm_tl; first | exact ih _ _ _ _ _ _ | refine fr_fX4_leftDying_33  _ _ _ _)
theorem fr_fX4_diesIn_33  (v1 : Int32) (v2 : Int32) (v3 : Int32) (v4 : Int32) (μ : Mem) : Fm aC μ (fX4_diesIn_33  v1 v2 v3 v4 μ) := by
  unfold fX4_diesIn_33
  with_reducible repeat' first | assumption | exact Fr.refl | refine fr_sI ?_ rfl | refine fr_sL ?_ rfl | refine fr_sC ?_ rfl | exact fm_none | refine fm_some ?_ | refine fm_gd ?_ | refine fm_ite ?_ ?_ | refine fm_ltm ?_ (fun _ _ => ?_) | refine fm_lt ?_ | intro _ _ _ _ _ _ _ _ _ _ | intro _ _ _ _ _ _ _ _ _ | intro _ _ _ _ _ _ _ _ | intro _ _ _ _ _ _ _ | intro _ _ _ _ _ _ | intro _ _ _ _ _ | intro _ _ _ _ | intro _ _ _ | intro _ _ | intro _ | (apply fm_bnd; first | refine fr_fX4_diesIn_33_b10  _ _ _ _ _ _ _) | (apply fm_tl; first | refine fr_fX4_diesIn_33_b10  _ _ _ _ _ _ _)
theorem fr_fX11_dies_0  (v1 : Int32) (μ : Mem) : Fm aC μ (fX11_dies_0  v1 μ) := by
  unfold fX11_dies_0
  with_reducible repeat' first | assumption | exact Fr.refl | refine fr_sI ?_ rfl | refine fr_sL ?_ rfl | refine fr_sC ?_ rfl | exact fm_none | refine fm_some ?_ | refine fm_gd ?_ | refine fm_ite ?_ ?_ | refine fm_ltm ?_ (fun _ _ => ?_) | refine fm_lt ?_ | intro _ _ _ _ _ _ _ _ _ _ | intro _ _ _ _ _ _ _ _ _ | intro _ _ _ _ _ _ _ _ | intro _ _ _ _ _ _ _ | intro _ _ _ _ _ _ | intro _ _ _ _ _ | intro _ _ _ _ | intro _ _ _ | intro _ _ | intro _ | (apply fm_bnd; first | refine fr_fX4_isSilent_33  _ _ | refine fr_fX7_tell_3  _ _ | refine fr_fX11_isThere_0  _ _ | refine fr_fX4_diesIn_33  _ _ _ _ _ | refine fr_fX4_leftDying_33  _ _ _ _) | (apply fm_tl; first | refine fr_fX4_isSilent_33  _ _ | refine fr_fX7_tell_3  _ _ | refine fr_fX11_isThere_0  _ _ | refine fr_fX4_diesIn_33  _ _ _ _ _ | refine fr_fX4_leftDying_33  _ _ _ _)
theorem fr_fX12_dieNight_122_b3  : ∀ n a0 a1 a2 a3 a4 μ, Fm aM μ (fX12_dieNight_122_b3  n a0 a1 a2 a3 a4 μ) := by
  intro n
  induction n with
  | zero =>
    intros
    exact fm_none
  | succ n ih =>
    intro a0 a1 a2 a3 a4 μ
    rw [fX12_dieNight_122_b3]
    with_reducible repeat' first | assumption | exact Fr.refl | refine fr_sI ?_ rfl | refine fr_sL ?_ rfl | refine fr_sC ?_ rfl | exact fm_none | refine fm_some ?_ | refine fm_gd ?_ | refine fm_ite ?_ ?_ | refine fm_ltm ?_ (fun _ _ => ?_) | refine fm_lt ?_ | intro _ _ _ _ _ _ _ _ _ _ | intro _ _ _ _ _ _ _ _ _ | intro _ _ _ _ _ _ _ _ | intro _ _ _ _ _ _ _ | intro _ _ _ _ _ _ | intro _ _ _ _ _ | intro _ _ _ _ | intro _ _ _ | intro _ _ | intro _ | (apply fm_bnd; first | refine fr_fX12_leftOf_122  _ _ _ _ _ | exact ih _ _ _ _ _ _) | (apply fm_tl; first | refine fr_fX12_leftOf_122  _ _ _ _ _ | exact ih _ _ _ _ _ _)
theorem fr_fX12_dieNight_122  (v1 : Int32) (v2 : Int32) (v3 : Int32) (v4 : Int32) (μ : Mem) : Fm aM μ (fX12_dieNight_122  v1 v2 v3 v4 μ) := by
  unfold fX12_dieNight_122
  with_reducible repeat' first | assumption | exact Fr.refl | refine fr_sI ?_ rfl | refine fr_sL ?_ rfl | refine fr_sC ?_ rfl | exact fm_none | refine fm_some ?_ | refine fm_gd ?_ | refine fm_ite ?_ ?_ | refine fm_ltm ?_ (fun _ _ => ?_) | refine fm_lt ?_ | intro _ _ _ _ _ _ _ _ _ _ | intro _ _ _ _ _ _ _ _ _ | intro _ _ _ _ _ _ _ _ | intro _ _ _ _ _ _ _ | intro _ _ _ _ _ _ | intro _ _ _ _ _ | intro _ _ _ _ | intro _ _ _ | intro _ _ | intro _ | (apply fm_bnd; first | refine fr_fX12_dieNight_122_b3  _ _ _ _ _ _ _) | (apply fm_tl; first | refine fr_fX12_dieNight_122_b3  _ _ _ _ _ _ _)
theorem fr_fX12_dies_122  (v1 : Int32) (μ : Mem) : Fm aM μ (fX12_dies_122  v1 μ) := by
  unfold fX12_dies_122
  with_reducible repeat' first | assumption | exact Fr.refl | refine fr_sI ?_ rfl | refine fr_sL ?_ rfl | refine fr_sC ?_ rfl | exact fm_none | refine fm_some ?_ | refine fm_gd ?_ | refine fm_ite ?_ ?_ | refine fm_ltm ?_ (fun _ _ => ?_) | refine fm_lt ?_ | intro _ _ _ _ _ _ _ _ _ _ | intro _ _ _ _ _ _ _ _ _ | intro _ _ _ _ _ _ _ _ | intro _ _ _ _ _ _ _ | intro _ _ _ _ _ _ | intro _ _ _ _ _ | intro _ _ _ _ | intro _ _ _ | intro _ _ | intro _ | (apply fm_bnd; first | refine fr_fX12_isMan_122  _ _ | refine fr_fX12_dieNight_122  _ _ _ _ _ | refine fr_fX12_tell_122  _ _) | (apply fm_tl; first | refine fr_fX12_isMan_122  _ _ | refine fr_fX12_dieNight_122  _ _ _ _ _ | refine fr_fX12_tell_122  _ _)
theorem fr_fX4_pleadsIn_33_b70 {k18 : Int32 → Int32 → Int32 → Int32 → Mem → Option (Int32 × Mem)} (hk18 : ∀ x0 x1 x2 x3 m, Fm aC m (k18 x0 x1 x2 x3 m)) (p1 : Int32) (p2 : Int32) (p3 : Int32) (p4 : Int32) (q0 : Int32) (μ : Mem) : Fm aC μ (fX4_pleadsIn_33_b70 k18 p1 p2 p3 p4 q0 μ) := by
  unfold fX4_pleadsIn_33_b70
  with_reducible repeat' first | assumption | exact Fr.refl | refine fr_sI ?_ rfl | refine fr_sL ?_ rfl | refine fr_sC ?_ rfl | exact fm_none | refine fm_some ?_ | refine fm_gd ?_ | refine fm_ite ?_ ?_ | refine fm_ltm ?_ (fun _ _ => ?_) | refine fm_lt ?_ | intro _ _ _ _ _ _ _ _ _ _ | intro _ _ _ _ _ _ _ _ _ | intro _ _ _ _ _ _ _ _ | intro _ _ _ _ _ _ _ | intro _ _ _ _ _ _ | intro _ _ _ _ _ | intro _ _ _ _ | intro _ _ _ | intro _ _ | intro _ | (apply fm_bnd; first | exact hk18 _ _ _ _ _) | (apply fm_tl; first | exact hk18 _ _ _ _ _)
theorem fr_fX4_pleadsIn_33_b69 {k18 : Int32 → Int32 → Int32 → Int32 → Mem → Option (Int32 × Mem)} (hk18 : ∀ x0 x1 x2 x3 m, Fm aC m (k18 x0 x1 x2 x3 m)) (p1 : Int32) (p2 : Int32) (p3 : Int32) (p4 : Int32) (μ : Mem) : Fm aC μ (fX4_pleadsIn_33_b69 k18 p1 p2 p3 p4 μ) := by
  unfold fX4_pleadsIn_33_b69
  with_reducible repeat' first | assumption | exact Fr.refl | refine fr_sI ?_ rfl | refine fr_sL ?_ rfl | refine fr_sC ?_ rfl | exact fm_none | refine fm_some ?_ | refine fm_gd ?_ | refine fm_ite ?_ ?_ | refine fm_ltm ?_ (fun _ _ => ?_) | refine fm_lt ?_ | intro _ _ _ _ _ _ _ _ _ _ | intro _ _ _ _ _ _ _ _ _ | intro _ _ _ _ _ _ _ _ | intro _ _ _ _ _ _ _ | intro _ _ _ _ _ _ | intro _ _ _ _ _ | intro _ _ _ _ | intro _ _ _ | intro _ _ | intro _ | (apply fm_bnd; first | refine fr_fX4_pleadsIn_33_b70 ?_ _ _ _ _ _ _ | exact hk18 _ _ _ _ _) | (apply fm_tl; first | refine fr_fX4_pleadsIn_33_b70 ?_ _ _ _ _ _ _ | exact hk18 _ _ _ _ _)
theorem fr_fX4_pleadsIn_33_b18  : ∀ n a0 a1 a2 a3 μ, Fm aC μ (fX4_pleadsIn_33_b18  n a0 a1 a2 a3 μ) := by
  intro n
  induction n with
  | zero =>
    intros
    exact fm_none
  | succ n ih =>
    intro a0 a1 a2 a3 μ
    rw [fX4_pleadsIn_33_b18]
    with_reducible repeat' first | assumption | exact Fr.refl | refine fr_sI ?_ rfl | refine fr_sL ?_ rfl | refine fr_sC ?_ rfl | exact fm_none | refine fm_some ?_ | refine fm_gd ?_ | refine fm_ite ?_ ?_ | refine fm_ltm ?_ (fun _ _ => ?_) | refine fm_lt ?_ | intro _ _ _ _ _ _ _ _ _ _ | intro _ _ _ _ _ _ _ _ _ | intro _ _ _ _ _ _ _ _ | intro _ _ _ _ _ _ _ | intro _ _ _ _ _ _ | intro _ _ _ _ _ | intro _ _ _ _ | intro _ _ _ | intro _ _ | intro _ | (apply fm_bnd; first | refine fr_fX4_pleadsIn_33_b69 ?_ _ _ _ _ _ | refine fr_fX4_leftDying_33  _ _ _ _ | exact ih _ _ _ _ _ | refine fr_fX4_pleadsIn_33_b70 ?_ _ _ _ _ _ _ | refine fr_fX4_leftIn_33  _ _ _ _) | (apply fm_tl; first | refine fr_fX4_pleadsIn_33_b69 ?_ _ _ _ _ _ | refine fr_fX4_leftDying_33  _ _ _ _ | exact ih _ _ _ _ _ | refine fr_fX4_pleadsIn_33_b70 ?_ _ _ _ _ _ _ | refine fr_fX4_leftIn_33  _ _ _ _)
theorem fr_fX4_pleadsIn_33  (v1 : Int32) (v2 : Int32) (v3 : Int32) (μ : Mem) : Fm aC μ (fX4_pleadsIn_33  v1 v2 v3 μ) := by
  unfold fX4_pleadsIn_33
  with_reducible repeat' first | assumption | exact Fr.refl | refine fr_sI ?_ rfl | refine fr_sL ?_ rfl | refine fr_sC ?_ rfl | exact fm_none | refine fm_some ?_ | refine fm_gd ?_ | refine fm_ite ?_ ?_ | refine fm_ltm ?_ (fun _ _ => ?_) | refine fm_lt ?_ | intro _ _ _ _ _ _ _ _ _ _ | intro _ _ _ _ _ _ _ _ _ | intro _ _ _ _ _ _ _ _ | intro _ _ _ _ _ _ _ | intro _ _ _ _ _ _ | intro _ _ _ _ _ | intro _ _ _ _ | intro _ _ _ | intro _ _ | intro _ | (apply fm_bnd; first | refine fr_fX4_pleadsIn_33_b18  _ _ _ _ _ _) | (apply fm_tl; first | refine fr_fX4_pleadsIn_33_b18  _ _ _ _ _ _)
theorem fr_fX11_speaks_0  (v1 : Int32) (v2 : Int32) (μ : Mem) : Fm aC μ (fX11_speaks_0  v1 v2 μ) := by
  unfold fX11_speaks_0
  with_reducible repeat' first | assumption | exact Fr.refl | refine fr_sI ?_ rfl | refine fr_sL ?_ rfl | refine fr_sC ?_ rfl | exact fm_none | refine fm_some ?_ | refine fm_gd ?_ | refine fm_ite ?_ ?_ | refine fm_ltm ?_ (fun _ _ => ?_) | refine fm_lt ?_ | intro _ _ _ _ _ _ _ _ _ _ | intro _ _ _ _ _ _ _ _ _ | intro _ _ _ _ _ _ _ _ | intro _ _ _ _ _ _ _ | intro _ _ _ _ _ _ | intro _ _ _ _ _ | intro _ _ _ _ | intro _ _ _ | intro _ _ | intro _ | (apply fm_bnd; first | refine fr_fX4_isSilent_33  _ _ | refine fr_fX7_tell_3  _ _ | refine fr_fX11_isThere_0  _ _ | refine fr_fX4_pleadsIn_33  _ _ _ _ | refine fr_fX4_leftIn_33  _ _ _ _) | (apply fm_tl; first | refine fr_fX4_isSilent_33  _ _ | refine fr_fX7_tell_3  _ _ | refine fr_fX11_isThere_0  _ _ | refine fr_fX4_pleadsIn_33  _ _ _ _ | refine fr_fX4_leftIn_33  _ _ _ _)
theorem fr_fX12_speakNight_122_b93 {k2 : Int32 → Int32 → Int32 → Mem → Option (Int32 × Mem)} (hk2 : ∀ x0 x1 x2 m, Fm aM m (k2 x0 x1 x2 m)) (p1 : Int32) (p2 : Int32) (p3 : Int32) (μ : Mem) : Fm aM μ (fX12_speakNight_122_b93 k2 p1 p2 p3 μ) := by
  unfold fX12_speakNight_122_b93
  with_reducible repeat' first | assumption | exact Fr.refl | refine fr_sI ?_ rfl | refine fr_sL ?_ rfl | refine fr_sC ?_ rfl | exact fm_none | refine fm_some ?_ | refine fm_gd ?_ | refine fm_ite ?_ ?_ | refine fm_ltm ?_ (fun _ _ => ?_) | refine fm_lt ?_ | intro _ _ _ _ _ _ _ _ _ _ | intro _ _ _ _ _ _ _ _ _ | intro _ _ _ _ _ _ _ _ | intro _ _ _ _ _ _ _ | intro _ _ _ _ _ _ | intro _ _ _ _ _ | intro _ _ _ _ | intro _ _ _ | intro _ _ | intro _ | (apply fm_bnd; first | exact hk2 _ _ _ _) | (apply fm_tl; first | exact hk2 _ _ _ _)
theorem fr_fX12_speakNight_122_b26 {k2 : Int32 → Int32 → Int32 → Mem → Option (Int32 × Mem)} (hk2 : ∀ x0 x1 x2 m, Fm aM m (k2 x0 x1 x2 m)) (p1 : Int32) (p2 : Int32) (p3 : Int32) (q0 : Int32) (q1 : Int32) (μ : Mem) : Fm aM μ (fX12_speakNight_122_b26 k2 p1 p2 p3 q0 q1 μ) := by
  unfold fX12_speakNight_122_b26
  with_reducible repeat' first | assumption | exact Fr.refl | refine fr_sI ?_ rfl | refine fr_sL ?_ rfl | refine fr_sC ?_ rfl | exact fm_none | refine fm_some ?_ | refine fm_gd ?_ | refine fm_ite ?_ ?_ | refine fm_ltm ?_ (fun _ _ => ?_) | refine fm_lt ?_ | intro _ _ _ _ _ _ _ _ _ _ | intro _ _ _ _ _ _ _ _ _ | intro _ _ _ _ _ _ _ _ | intro _ _ _ _ _ _ _ | intro _ _ _ _ _ _ | intro _ _ _ _ _ | intro _ _ _ _ | intro _ _ _ | intro _ _ | intro _ | (apply fm_bnd; first | refine fr_fX12_leftOf_122  _ _ _ _ _ | refine fr_fX12_doesSpeak_122  _ _ _ | refine fr_fX12_speakNight_122_b93 ?_ _ _ _ _ | exact hk2 _ _ _ _) | (apply fm_tl; first | refine fr_fX12_leftOf_122  _ _ _ _ _ | refine fr_fX12_doesSpeak_122  _ _ _ | refine fr_fX12_speakNight_122_b93 ?_ _ _ _ _ | exact hk2 _ _ _ _)
theorem fr_fX12_speakNight_122_b2  : ∀ n a0 a1 a2 μ, Fm aM μ (fX12_speakNight_122_b2  n a0 a1 a2 μ) := by
  intro n
  induction n with
  | zero =>
    intros
    exact fm_none
  | succ n ih =>
    intro a0 a1 a2 μ
    rw [fX12_speakNight_122_b2]
    with_reducible repeat' first | assumption | exact Fr.refl | refine fr_sI ?_ rfl | refine fr_sL ?_ rfl | refine fr_sC ?_ rfl | exact fm_none | refine fm_some ?_ | refine fm_gd ?_ | refine fm_ite ?_ ?_ | refine fm_ltm ?_ (fun _ _ => ?_) | refine fm_lt ?_ | intro _ _ _ _ _ _ _ _ _ _ | intro _ _ _ _ _ _ _ _ _ | intro _ _ _ _ _ _ _ _ | intro _ _ _ _ _ _ _ | intro _ _ _ _ _ _ | intro _ _ _ _ _ | intro _ _ _ _ | intro _ _ _ | intro _ _ | intro _ | (apply fm_bnd; first | refine fr_fX12_speakNight_122_b26 ?_ _ _ _ _ _ _ | exact ih _ _ _ _) | (apply fm_tl; first | refine fr_fX12_speakNight_122_b26 ?_ _ _ _ _ _ _ | exact ih _ _ _ _)
theorem fr_fX12_speakNight_122  (v1 : Int32) (v2 : Int32) (μ : Mem) : Fm aM μ (fX12_speakNight_122  v1 v2 μ) := by
  unfold fX12_speakNight_122
  with_reducible repeat' first | assumption | exact Fr.refl | refine fr_sI ?_ rfl | refine fr_sL ?_ rfl | refine fr_sC ?_ rfl | exact fm_none | refine fm_some ?_ | refine fm_gd ?_ | refine fm_ite ?_ ?_ | refine fm_ltm ?_ (fun _ _ => ?_) | refine fm_lt ?_ | intro _ _ _ _ _ _ _ _ _ _ | intro _ _ _ _ _ _ _ _ _ | intro _ _ _ _ _ _ _ _ | intro _ _ _ _ _ _ _ | intro _ _ _ _ _ _ | intro _ _ _ _ _ | intro _ _ _ _ | intro _ _ _ | intro _ _ | intro _ | (apply fm_bnd; first | refine fr_fX12_speakNight_122_b2  _ _ _ _ _) | (apply fm_tl; first | refine fr_fX12_speakNight_122_b2  _ _ _ _ _)
theorem fr_fX12_speaks_122  (v1 : Int32) (v2 : Int32) (μ : Mem) : Fm aM μ (fX12_speaks_122  v1 v2 μ) := by
  unfold fX12_speaks_122
  with_reducible repeat' first | assumption | exact Fr.refl | refine fr_sI ?_ rfl | refine fr_sL ?_ rfl | refine fr_sC ?_ rfl | exact fm_none | refine fm_some ?_ | refine fm_gd ?_ | refine fm_ite ?_ ?_ | refine fm_ltm ?_ (fun _ _ => ?_) | refine fm_lt ?_ | intro _ _ _ _ _ _ _ _ _ _ | intro _ _ _ _ _ _ _ _ _ | intro _ _ _ _ _ _ _ _ | intro _ _ _ _ _ _ _ | intro _ _ _ _ _ _ | intro _ _ _ _ _ | intro _ _ _ _ | intro _ _ _ | intro _ _ | intro _ | (apply fm_bnd; first | refine fr_fX12_isMan_122  _ _ | refine fr_fX12_speakNight_122  _ _ _ | refine fr_fX12_tell_122  _ _ | refine fr_fX12_in  _ _ _ _) | (apply fm_tl; first | refine fr_fX12_isMan_122  _ _ | refine fr_fX12_speakNight_122  _ _ _ | refine fr_fX12_tell_122  _ _ | refine fr_fX12_in  _ _ _ _)
theorem fr_fX11_least_0_b36  : ∀ n a0 a1 a2 μ, Fm aC μ (fX11_least_0_b36  n a0 a1 a2 μ) := by
  intro n
  induction n with
  | zero =>
    intros
    exact fm_none
  | succ n ih =>
    intro a0 a1 a2 μ
    rw [fX11_least_0_b36]
    with_reducible repeat' first | assumption | exact Fr.refl | refine fr_sI ?_ rfl | refine fr_sL ?_ rfl | refine fr_sC ?_ rfl | exact fm_none | refine fm_some ?_ | refine fm_gd ?_ | refine fm_ite ?_ ?_ | refine fm_ltm ?_ (fun _ _ => ?_) | refine fm_lt ?_ | intro _ _ _ _ _ _ _ _ _ _ | intro _ _ _ _ _ _ _ _ _ | intro _ _ _ _ _ _ _ _ | intro _ _ _ _ _ _ _ | intro _ _ _ _ _ _ | intro _ _ _ _ _ | intro _ _ _ _ | intro _ _ _ | intro _ _ | intro _ | (apply fm_bnd; first | refine fr_fX4_pleadsIn_33  _ _ _ _ | refine fr_fX7_tell_3  _ _ | exact ih _ _ _ _) | (apply fm_tl; first | refine fr_fX4_pleadsIn_33  _ _ _ _ | refine fr_fX7_tell_3  _ _ | exact ih _ _ _ _)
theorem fr_fX11_least_0  (v1 : Int32) (v2 : Int32) (μ : Mem) : Fm aC μ (fX11_least_0  v1 v2 μ) := by
  unfold fX11_least_0
  with_reducible repeat' first | assumption | exact Fr.refl | refine fr_sI ?_ rfl | refine fr_sL ?_ rfl | refine fr_sC ?_ rfl | exact fm_none | refine fm_some ?_ | refine fm_gd ?_ | refine fm_ite ?_ ?_ | refine fm_ltm ?_ (fun _ _ => ?_) | refine fm_lt ?_ | intro _ _ _ _ _ _ _ _ _ _ | intro _ _ _ _ _ _ _ _ _ | intro _ _ _ _ _ _ _ _ | intro _ _ _ _ _ _ _ | intro _ _ _ _ _ _ | intro _ _ _ _ _ | intro _ _ _ _ | intro _ _ _ | intro _ _ | intro _ | (apply fm_bnd; first | refine fr_fX4_isSilent_33  _ _ | refine fr_fX11_isThere_0  _ _ | refine fr_fX11_least_0_b36  _ _ _ _ _) | (apply fm_tl; first | refine fr_fX4_isSilent_33  _ _ | refine fr_fX11_isThere_0  _ _ | refine fr_fX11_least_0_b36  _ _ _ _ _)
theorem fr_fX12_least_122_b39  : ∀ n a0 a1 a2 μ, Fm aM μ (fX12_least_122_b39  n a0 a1 a2 μ) := by
  intro n
  induction n with
  | zero =>
    intros
    exact fm_none
  | succ n ih =>
    intro a0 a1 a2 μ
    rw [fX12_least_122_b39]
    with_reducible repeat' first | assumption | exact Fr.refl | refine fr_sI ?_ rfl | refine fr_sL ?_ rfl | refine fr_sC ?_ rfl | exact fm_none | refine fm_some ?_ | refine fm_gd ?_ | refine fm_ite ?_ ?_ | refine fm_ltm ?_ (fun _ _ => ?_) | refine fm_lt ?_ | intro _ _ _ _ _ _ _ _ _ _ | intro _ _ _ _ _ _ _ _ _ | intro _ _ _ _ _ _ _ _ | intro _ _ _ _ _ _ _ | intro _ _ _ _ _ _ | intro _ _ _ _ _ | intro _ _ _ _ | intro _ _ _ | intro _ _ | intro _ | (apply fm_bnd; first | refine fr_fX12_tell_122  _ _ | refine fr_fX12_speakNight_122  _ _ _ | exact ih _ _ _ _ | refine fr_fX12_in  _ _ _ _) | (apply fm_tl; first | refine fr_fX12_tell_122  _ _ | refine fr_fX12_speakNight_122  _ _ _ | exact ih _ _ _ _ | refine fr_fX12_in  _ _ _ _)
theorem fr_fX12_least_122  (v1 : Int32) (v2 : Int32) (μ : Mem) : Fm aM μ (fX12_least_122  v1 v2 μ) := by
  unfold fX12_least_122
  with_reducible repeat' first | assumption | exact Fr.refl | refine fr_sI ?_ rfl | refine fr_sL ?_ rfl | refine fr_sC ?_ rfl | exact fm_none | refine fm_some ?_ | refine fm_gd ?_ | refine fm_ite ?_ ?_ | refine fm_ltm ?_ (fun _ _ => ?_) | refine fm_lt ?_ | intro _ _ _ _ _ _ _ _ _ _ | intro _ _ _ _ _ _ _ _ _ | intro _ _ _ _ _ _ _ _ | intro _ _ _ _ _ _ _ | intro _ _ _ _ _ _ | intro _ _ _ _ _ | intro _ _ _ _ | intro _ _ _ | intro _ _ | intro _ | (apply fm_bnd; first | refine fr_fX12_isMan_122  _ _ | refine fr_fX12_least_122_b39  _ _ _ _ _ | refine fr_fX12_in  _ _ _ _) | (apply fm_tl; first | refine fr_fX12_isMan_122  _ _ | refine fr_fX12_least_122_b39  _ _ _ _ _ | refine fr_fX12_in  _ _ _ _)
theorem fr_fX11_mercy_0_b38  : ∀ n a0 a1 a2 μ, Fm aC μ (fX11_mercy_0_b38  n a0 a1 a2 μ) := by
  intro n
  induction n with
  | zero =>
    intros
    exact fm_none
  | succ n ih =>
    intro a0 a1 a2 μ
    rw [fX11_mercy_0_b38]
    with_reducible repeat' first | assumption | exact Fr.refl | refine fr_sI ?_ rfl | refine fr_sL ?_ rfl | refine fr_sC ?_ rfl | exact fm_none | refine fm_some ?_ | refine fm_gd ?_ | refine fm_ite ?_ ?_ | refine fm_ltm ?_ (fun _ _ => ?_) | refine fm_lt ?_ | intro _ _ _ _ _ _ _ _ _ _ | intro _ _ _ _ _ _ _ _ _ | intro _ _ _ _ _ _ _ _ | intro _ _ _ _ _ _ _ | intro _ _ _ _ _ _ | intro _ _ _ _ _ | intro _ _ _ _ | intro _ _ _ | intro _ _ | intro _ | (apply fm_bnd; first | refine fr_fX4_diesIn_33  _ _ _ _ _ | exact ih _ _ _ _) | (apply fm_tl; first | refine fr_fX4_diesIn_33  _ _ _ _ _ | exact ih _ _ _ _)
theorem fr_fX11_mercy_0  (v1 : Int32) (v2 : Int32) (μ : Mem) : Fm aC μ (fX11_mercy_0  v1 v2 μ) := by
  unfold fX11_mercy_0
  with_reducible repeat' first | assumption | exact Fr.refl | refine fr_sI ?_ rfl | refine fr_sL ?_ rfl | refine fr_sC ?_ rfl | exact fm_none | refine fm_some ?_ | refine fm_gd ?_ | refine fm_ite ?_ ?_ | refine fm_ltm ?_ (fun _ _ => ?_) | refine fm_lt ?_ | intro _ _ _ _ _ _ _ _ _ _ | intro _ _ _ _ _ _ _ _ _ | intro _ _ _ _ _ _ _ _ | intro _ _ _ _ _ _ _ | intro _ _ _ _ _ _ | intro _ _ _ _ _ | intro _ _ _ _ | intro _ _ _ | intro _ _ | intro _ | (apply fm_bnd; first | refine fr_fX4_isSilent_33  _ _ | refine fr_fX11_mercy_0_b38  _ _ _ _ _ | refine fr_fX11_isThere_0  _ _) | (apply fm_tl; first | refine fr_fX4_isSilent_33  _ _ | refine fr_fX11_mercy_0_b38  _ _ _ _ _ | refine fr_fX11_isThere_0  _ _)
theorem fr_fX12_mercy_122_b40  : ∀ n a0 a1 a2 μ, Fm aM μ (fX12_mercy_122_b40  n a0 a1 a2 μ) := by
  intro n
  induction n with
  | zero =>
    intros
    exact fm_none
  | succ n ih =>
    intro a0 a1 a2 μ
    rw [fX12_mercy_122_b40]
    with_reducible repeat' first | assumption | exact Fr.refl | refine fr_sI ?_ rfl | refine fr_sL ?_ rfl | refine fr_sC ?_ rfl | exact fm_none | refine fm_some ?_ | refine fm_gd ?_ | refine fm_ite ?_ ?_ | refine fm_ltm ?_ (fun _ _ => ?_) | refine fm_lt ?_ | intro _ _ _ _ _ _ _ _ _ _ | intro _ _ _ _ _ _ _ _ _ | intro _ _ _ _ _ _ _ _ | intro _ _ _ _ _ _ _ | intro _ _ _ _ _ _ | intro _ _ _ _ _ | intro _ _ _ _ | intro _ _ _ | intro _ _ | intro _ | (apply fm_bnd; first | refine fr_fX12_dieNight_122  _ _ _ _ _ | exact ih _ _ _ _) | (apply fm_tl; first | refine fr_fX12_dieNight_122  _ _ _ _ _ | exact ih _ _ _ _)
theorem fr_fX12_mercy_122  (v1 : Int32) (v2 : Int32) (μ : Mem) : Fm aM μ (fX12_mercy_122  v1 v2 μ) := by
  unfold fX12_mercy_122
  with_reducible repeat' first | assumption | exact Fr.refl | refine fr_sI ?_ rfl | refine fr_sL ?_ rfl | refine fr_sC ?_ rfl | exact fm_none | refine fm_some ?_ | refine fm_gd ?_ | refine fm_ite ?_ ?_ | refine fm_ltm ?_ (fun _ _ => ?_) | refine fm_lt ?_ | intro _ _ _ _ _ _ _ _ _ _ | intro _ _ _ _ _ _ _ _ _ | intro _ _ _ _ _ _ _ _ | intro _ _ _ _ _ _ _ | intro _ _ _ _ _ _ | intro _ _ _ _ _ | intro _ _ _ _ | intro _ _ _ | intro _ _ | intro _ | (apply fm_bnd; first | refine fr_fX12_isMan_122  _ _ | refine fr_fX12_mercy_122_b40  _ _ _ _ _ | refine fr_fX12_in  _ _ _ _) | (apply fm_tl; first | refine fr_fX12_isMan_122  _ _ | refine fr_fX12_mercy_122_b40  _ _ _ _ _ | refine fr_fX12_in  _ _ _ _)
theorem fr_fX11_longest_0_b33  : ∀ n a0 a1 a2 a3 μ, Fm aC μ (fX11_longest_0_b33  n a0 a1 a2 a3 μ) := by
  intro n
  induction n with
  | zero =>
    intros
    exact fm_none
  | succ n ih =>
    intro a0 a1 a2 a3 μ
    rw [fX11_longest_0_b33]
    with_reducible repeat' first | assumption | exact Fr.refl | refine fr_sI ?_ rfl | refine fr_sL ?_ rfl | refine fr_sC ?_ rfl | exact fm_none | refine fm_some ?_ | refine fm_gd ?_ | refine fm_ite ?_ ?_ | refine fm_ltm ?_ (fun _ _ => ?_) | refine fm_lt ?_ | intro _ _ _ _ _ _ _ _ _ _ | intro _ _ _ _ _ _ _ _ _ | intro _ _ _ _ _ _ _ _ | intro _ _ _ _ _ _ _ | intro _ _ _ _ _ _ | intro _ _ _ _ _ | intro _ _ _ _ | intro _ _ _ | intro _ _ | intro _ | (apply fm_bnd; first | refine fr_fX4_pleadsIn_33  _ _ _ _ | refine fr_fX7_tell_3  _ _ | exact ih _ _ _ _ _) | (apply fm_tl; first | refine fr_fX4_pleadsIn_33  _ _ _ _ | refine fr_fX7_tell_3  _ _ | exact ih _ _ _ _ _)
theorem fr_fX11_longest_0  (v1 : Int32) (μ : Mem) : Fm aC μ (fX11_longest_0  v1 μ) := by
  unfold fX11_longest_0
  with_reducible repeat' first | assumption | exact Fr.refl | refine fr_sI ?_ rfl | refine fr_sL ?_ rfl | refine fr_sC ?_ rfl | exact fm_none | refine fm_some ?_ | refine fm_gd ?_ | refine fm_ite ?_ ?_ | refine fm_ltm ?_ (fun _ _ => ?_) | refine fm_lt ?_ | intro _ _ _ _ _ _ _ _ _ _ | intro _ _ _ _ _ _ _ _ _ | intro _ _ _ _ _ _ _ _ | intro _ _ _ _ _ _ _ | intro _ _ _ _ _ _ | intro _ _ _ _ _ | intro _ _ _ _ | intro _ _ _ | intro _ _ | intro _ | (apply fm_bnd; first | refine fr_fX4_isSilent_33  _ _ | refine fr_fX11_isThere_0  _ _ | refine fr_fX11_longest_0_b33  _ _ _ _ _ _) | (apply fm_tl; first | refine fr_fX4_isSilent_33  _ _ | refine fr_fX11_isThere_0  _ _ | refine fr_fX11_longest_0_b33  _ _ _ _ _ _)
theorem fr_fX12_longest_122_b35  : ∀ n a0 a1 a2 a3 μ, Fm aM μ (fX12_longest_122_b35  n a0 a1 a2 a3 μ) := by
  intro n
  induction n with
  | zero =>
    intros
    exact fm_none
  | succ n ih =>
    intro a0 a1 a2 a3 μ
    rw [fX12_longest_122_b35]
    with_reducible repeat' first | assumption | exact Fr.refl | refine fr_sI ?_ rfl | refine fr_sL ?_ rfl | refine fr_sC ?_ rfl | exact fm_none | refine fm_some ?_ | refine fm_gd ?_ | refine fm_ite ?_ ?_ | refine fm_ltm ?_ (fun _ _ => ?_) | refine fm_lt ?_ | intro _ _ _ _ _ _ _ _ _ _ | intro _ _ _ _ _ _ _ _ _ | intro _ _ _ _ _ _ _ _ | intro _ _ _ _ _ _ _ | intro _ _ _ _ _ _ | intro _ _ _ _ _ | intro _ _ _ _ | intro _ _ _ | intro _ _ | intro _ | (apply fm_bnd; first | exact ih _ _ _ _ _ | refine fr_fX12_tell_122  _ _ | refine fr_fX12_speakNight_122  _ _ _) | (apply fm_tl; first | exact ih _ _ _ _ _ | refine fr_fX12_tell_122  _ _ | refine fr_fX12_speakNight_122  _ _ _)
theorem fr_fX12_longest_122  (v1 : Int32) (μ : Mem) : Fm aM μ (fX12_longest_122  v1 μ) := by
  unfold fX12_longest_122
  with_reducible repeat' first | assumption | exact Fr.refl | refine fr_sI ?_ rfl | refine fr_sL ?_ rfl | refine fr_sC ?_ rfl | exact fm_none | refine fm_some ?_ | refine fm_gd ?_ | refine fm_ite ?_ ?_ | refine fm_ltm ?_ (fun _ _ => ?_) | refine fm_lt ?_ | intro _ _ _ _ _ _ _ _ _ _ | intro _ _ _ _ _ _ _ _ _ | intro _ _ _ _ _ _ _ _ | intro _ _ _ _ _ _ _ | intro _ _ _ _ _ _ | intro _ _ _ _ _ | intro _ _ _ _ | intro _ _ _ | intro _ _ | intro _ | (apply fm_bnd; first | refine fr_fX12_longest_122_b35  _ _ _ _ _ _ | refine fr_fX12_isMan_122  _ _) | (apply fm_tl; first | refine fr_fX12_longest_122_b35  _ _ _ _ _ _ | refine fr_fX12_isMan_122  _ _)
theorem fr_fX11_alike_0_b56  : ∀ n a0 a1 a2 a3 a4 μ, Fm aC μ (fX11_alike_0_b56  n a0 a1 a2 a3 a4 μ) := by
  intro n
  induction n with
  | zero =>
    intros
    exact fm_none
  | succ n ih =>
    intro a0 a1 a2 a3 a4 μ
    rw [fX11_alike_0_b56]
    with_reducible repeat' first | assumption | exact Fr.refl | refine fr_sI ?_ rfl | refine fr_sL ?_ rfl | refine fr_sC ?_ rfl | exact fm_none | refine fm_some ?_ | refine fm_gd ?_ | refine fm_ite ?_ ?_ | refine fm_ltm ?_ (fun _ _ => ?_) | refine fm_lt ?_ | intro _ _ _ _ _ _ _ _ _ _ | intro _ _ _ _ _ _ _ _ _ | intro _ _ _ _ _ _ _ _ | intro _ _ _ _ _ _ _ | intro _ _ _ _ _ _ | intro _ _ _ _ _ | intro _ _ _ _ | intro _ _ _ | intro _ _ | intro _ | (apply fm_bnd; first | refine fr_fX4_pleadsIn_33  _ _ _ _ | refine fr_fX7_tell_3  _ _ | exact ih _ _ _ _ _ _) | (apply fm_tl; first | refine fr_fX4_pleadsIn_33  _ _ _ _ | refine fr_fX7_tell_3  _ _ | exact ih _ _ _ _ _ _)
theorem fr_fX11_alike_0  (v1 : Int32) (v2 : Int32) (μ : Mem) : Fm aC μ (fX11_alike_0  v1 v2 μ) := by
  unfold fX11_alike_0
  with_reducible repeat' first | assumption | exact Fr.refl | refine fr_sI ?_ rfl | refine fr_sL ?_ rfl | refine fr_sC ?_ rfl | exact fm_none | refine fm_some ?_ | refine fm_gd ?_ | refine fm_ite ?_ ?_ | refine fm_ltm ?_ (fun _ _ => ?_) | refine fm_lt ?_ | intro _ _ _ _ _ _ _ _ _ _ | intro _ _ _ _ _ _ _ _ _ | intro _ _ _ _ _ _ _ _ | intro _ _ _ _ _ _ _ | intro _ _ _ _ _ _ | intro _ _ _ _ _ | intro _ _ _ _ | intro _ _ _ | intro _ _ | intro _ | (apply fm_bnd; first | refine fr_fX4_isSilent_33  _ _ | refine fr_fX11_isThere_0  _ _ | refine fr_fX11_alike_0_b56  _ _ _ _ _ _ _) | (apply fm_tl; first | refine fr_fX4_isSilent_33  _ _ | refine fr_fX11_isThere_0  _ _ | refine fr_fX11_alike_0_b56  _ _ _ _ _ _ _)
theorem fr_fX12_alike_122_b57  : ∀ n a0 a1 a2 a3 a4 μ, Fm aM μ (fX12_alike_122_b57  n a0 a1 a2 a3 a4 μ) := by
  intro n
  induction n with
  | zero =>
    intros
    exact fm_none
  | succ n ih =>
    intro a0 a1 a2 a3 a4 μ
    rw [fX12_alike_122_b57]
    with_reducible repeat' first | assumption | exact Fr.refl | refine fr_sI ?_ rfl | refine fr_sL ?_ rfl | refine fr_sC ?_ rfl | exact fm_none | refine fm_some ?_ | refine fm_gd ?_ | refine fm_ite ?_ ?_ | refine fm_ltm ?_ (fun _ _ => ?_) | refine fm_lt ?_ | intro _ _ _ _ _ _ _ _ _ _ | intro _ _ _ _ _ _ _ _ _ | intro _ _ _ _ _ _ _ _ | intro _ _ _ _ _ _ _ | intro _ _ _ _ _ _ | intro _ _ _ _ _ | intro _ _ _ _ | intro _ _ _ | intro _ _ | intro _ | (apply fm_bnd; first | refine fr_fX12_tell_122  _ _ | refine fr_fX12_speakNight_122  _ _ _ | exact ih _ _ _ _ _ _) | (apply fm_tl; first | refine fr_fX12_tell_122  _ _ | refine fr_fX12_speakNight_122  _ _ _ | exact ih _ _ _ _ _ _)
theorem fr_fX12_alike_122  (v1 : Int32) (v2 : Int32) (μ : Mem) : Fm aM μ (fX12_alike_122  v1 v2 μ) := by
  unfold fX12_alike_122
  with_reducible repeat' first | assumption | exact Fr.refl | refine fr_sI ?_ rfl | refine fr_sL ?_ rfl | refine fr_sC ?_ rfl | exact fm_none | refine fm_some ?_ | refine fm_gd ?_ | refine fm_ite ?_ ?_ | refine fm_ltm ?_ (fun _ _ => ?_) | refine fm_lt ?_ | intro _ _ _ _ _ _ _ _ _ _ | intro _ _ _ _ _ _ _ _ _ | intro _ _ _ _ _ _ _ _ | intro _ _ _ _ _ _ _ | intro _ _ _ _ _ _ | intro _ _ _ _ _ | intro _ _ _ _ | intro _ _ _ | intro _ _ | intro _ | (apply fm_bnd; first | refine fr_fX12_isMan_122  _ _ | refine fr_fX12_alike_122_b57  _ _ _ _ _ _ _) | (apply fm_tl; first | refine fr_fX12_isMan_122  _ _ | refine fr_fX12_alike_122_b57  _ _ _ _ _ _ _)
theorem fr_fJ6_bitCount_0f7a4 {A : Nat → Bool}  (v0 : Int32) (μ : Mem) : Fm A μ (fJ6_bitCount_0f7a4  v0 μ) := by
  unfold fJ6_bitCount_0f7a4
  with_reducible repeat' first | assumption | exact Fr.refl | refine fr_sI ?_ rfl | refine fr_sL ?_ rfl | refine fr_sC ?_ rfl | exact fm_none | refine fm_some ?_ | refine fm_gd ?_ | refine fm_ite ?_ ?_ | refine fm_ltm ?_ (fun _ _ => ?_) | refine fm_lt ?_ | intro _ _ _ _ _ _ _ _ _ _ | intro _ _ _ _ _ _ _ _ _ | intro _ _ _ _ _ _ _ _ | intro _ _ _ _ _ _ _ | intro _ _ _ _ _ _ | intro _ _ _ _ _ | intro _ _ _ _ | intro _ _ _ | intro _ _ | intro _
theorem fr_fX11_stonesOnOne_0 {A : Nat → Bool}  (v1 : Int32) (v2 : Int32) (μ : Mem) : Fm A μ (fX11_stonesOnOne_0  v1 v2 μ) := by
  unfold fX11_stonesOnOne_0
  with_reducible repeat' first | assumption | exact Fr.refl | refine fr_sI ?_ rfl | refine fr_sL ?_ rfl | refine fr_sC ?_ rfl | exact fm_none | refine fm_some ?_ | refine fm_gd ?_ | refine fm_ite ?_ ?_ | refine fm_ltm ?_ (fun _ _ => ?_) | refine fm_lt ?_ | intro _ _ _ _ _ _ _ _ _ _ | intro _ _ _ _ _ _ _ _ _ | intro _ _ _ _ _ _ _ _ | intro _ _ _ _ _ _ _ | intro _ _ _ _ _ _ | intro _ _ _ _ _ | intro _ _ _ _ | intro _ _ _ | intro _ _ | intro _
theorem fr_fX11_stonesOn_0_b4 {A : Nat → Bool}  : ∀ n a0 a1 a2 μ, Fm A μ (fX11_stonesOn_0_b4  n a0 a1 a2 μ) := by
  intro n
  induction n with
  | zero =>
    intros
    exact fm_none
  | succ n ih =>
    intro a0 a1 a2 μ
    rw [fX11_stonesOn_0_b4]
    with_reducible repeat' first | assumption | exact Fr.refl | refine fr_sI ?_ rfl | refine fr_sL ?_ rfl | refine fr_sC ?_ rfl | exact fm_none | refine fm_some ?_ | refine fm_gd ?_ | refine fm_ite ?_ ?_ | refine fm_ltm ?_ (fun _ _ => ?_) | refine fm_lt ?_ | intro _ _ _ _ _ _ _ _ _ _ | intro _ _ _ _ _ _ _ _ _ | intro _ _ _ _ _ _ _ _ | intro _ _ _ _ _ _ _ | intro _ _ _ _ _ _ | intro _ _ _ _ _ | intro _ _ _ _ | intro _ _ _ | intro _ _ | intro _ | (apply fm_bnd; first | refine fr_fX11_stonesOnOne_0  _ _ _ | exact ih _ _ _ _) | (apply fm_tl; first | refine fr_fX11_stonesOnOne_0  _ _ _ | exact ih _ _ _ _)
theorem fr_fX11_stonesOn_0 {A : Nat → Bool}  (v1 : Int32) (μ : Mem) : Fm A μ (fX11_stonesOn_0  v1 μ) := by
  unfold fX11_stonesOn_0
  with_reducible repeat' first | assumption | exact Fr.refl | refine fr_sI ?_ rfl | refine fr_sL ?_ rfl | refine fr_sC ?_ rfl | exact fm_none | refine fm_some ?_ | refine fm_gd ?_ | refine fm_ite ?_ ?_ | refine fm_ltm ?_ (fun _ _ => ?_) | refine fm_lt ?_ | intro _ _ _ _ _ _ _ _ _ _ | intro _ _ _ _ _ _ _ _ _ | intro _ _ _ _ _ _ _ _ | intro _ _ _ _ _ _ _ | intro _ _ _ _ _ _ | intro _ _ _ _ _ | intro _ _ _ _ | intro _ _ _ | intro _ _ | intro _ | (apply fm_bnd; first | refine fr_fX11_stonesOn_0_b4  _ _ _ _ _) | (apply fm_tl; first | refine fr_fX11_stonesOn_0_b4  _ _ _ _ _)
theorem fr_fX11_isBetterLaid_0_b32 {A : Nat → Bool}  (p3 : Int32) (p4 : Int32) (μ : Mem) : Fm A μ (fX11_isBetterLaid_0_b32  p3 p4 μ) := by
  unfold fX11_isBetterLaid_0_b32
  with_reducible repeat' first | assumption | exact Fr.refl | refine fr_sI ?_ rfl | refine fr_sL ?_ rfl | refine fr_sC ?_ rfl | exact fm_none | refine fm_some ?_ | refine fm_gd ?_ | refine fm_ite ?_ ?_ | refine fm_ltm ?_ (fun _ _ => ?_) | refine fm_lt ?_ | intro _ _ _ _ _ _ _ _ _ _ | intro _ _ _ _ _ _ _ _ _ | intro _ _ _ _ _ _ _ _ | intro _ _ _ _ _ _ _ | intro _ _ _ _ _ _ | intro _ _ _ _ _ | intro _ _ _ _ | intro _ _ _ | intro _ _ | intro _
theorem fr_fX11_isBetterLaid_0_b54 {A : Nat → Bool}  : ∀ n a0 a1 a2 μ, Fm A μ (fX11_isBetterLaid_0_b54  n a0 a1 a2 μ) := by
  intro n
  induction n with
  | zero =>
    intros
    exact fm_none
  | succ n ih =>
    intro a0 a1 a2 μ
    rw [fX11_isBetterLaid_0_b54]
    with_reducible repeat' first | assumption | exact Fr.refl | refine fr_sI ?_ rfl | refine fr_sL ?_ rfl | refine fr_sC ?_ rfl | exact fm_none | refine fm_some ?_ | refine fm_gd ?_ | refine fm_ite ?_ ?_ | refine fm_ltm ?_ (fun _ _ => ?_) | refine fm_lt ?_ | intro _ _ _ _ _ _ _ _ _ _ | intro _ _ _ _ _ _ _ _ _ | intro _ _ _ _ _ _ _ _ | intro _ _ _ _ _ _ _ | intro _ _ _ _ _ _ | intro _ _ _ _ _ | intro _ _ _ _ | intro _ _ _ | intro _ _ | intro _ | (apply fm_bnd; first | refine fr_fX11_stonesOnOne_0  _ _ _ | exact ih _ _ _ _) | (apply fm_tl; first | refine fr_fX11_stonesOnOne_0  _ _ _ | exact ih _ _ _ _)
theorem fr_fX11_isBetterLaid_0 {A : Nat → Bool}  (v1 : Int32) (v2 : Int32) (μ : Mem) : Fm A μ (fX11_isBetterLaid_0  v1 v2 μ) := by
  unfold fX11_isBetterLaid_0
  with_reducible repeat' first | assumption | exact Fr.refl | refine fr_sI ?_ rfl | refine fr_sL ?_ rfl | refine fr_sC ?_ rfl | exact fm_none | refine fm_some ?_ | refine fm_gd ?_ | refine fm_ite ?_ ?_ | refine fm_ltm ?_ (fun _ _ => ?_) | refine fm_lt ?_ | intro _ _ _ _ _ _ _ _ _ _ | intro _ _ _ _ _ _ _ _ _ | intro _ _ _ _ _ _ _ _ | intro _ _ _ _ _ _ _ | intro _ _ _ _ _ _ | intro _ _ _ _ _ | intro _ _ _ _ | intro _ _ _ | intro _ _ | intro _ | (apply fm_bnd; first | refine fr_fJ6_bitCount_0f7a4  _ _ | refine fr_fX11_stonesOn_0  _ _ | refine fr_fX11_isBetterLaid_0_b54  _ _ _ _ _ | refine fr_fX11_isBetterLaid_0_b32  _ _ _) | (apply fm_tl; first | refine fr_fJ6_bitCount_0f7a4  _ _ | refine fr_fX11_stonesOn_0  _ _ | refine fr_fX11_isBetterLaid_0_b54  _ _ _ _ _ | refine fr_fX11_isBetterLaid_0_b32  _ _ _)
theorem fr_fX11_leastStones_0_b15  : ∀ n a0 a1 μ, Fm aC μ (fX11_leastStones_0_b15  n a0 a1 μ) := by
  intro n
  induction n with
  | zero =>
    intros
    exact fm_none
  | succ n ih =>
    intro a0 a1 μ
    rw [fX11_leastStones_0_b15]
    with_reducible repeat' first | assumption | exact Fr.refl | refine fr_sI ?_ rfl | refine fr_sL ?_ rfl | refine fr_sC ?_ rfl | exact fm_none | refine fm_some ?_ | refine fm_gd ?_ | refine fm_ite ?_ ?_ | refine fm_ltm ?_ (fun _ _ => ?_) | refine fm_lt ?_ | intro _ _ _ _ _ _ _ _ _ _ | intro _ _ _ _ _ _ _ _ _ | intro _ _ _ _ _ _ _ _ | intro _ _ _ _ _ _ _ | intro _ _ _ _ _ _ | intro _ _ _ _ _ | intro _ _ _ _ | intro _ _ _ | intro _ _ | intro _ | (apply fm_bnd; first | refine fr_fX4_pleadsIn_33  _ _ _ _ | exact ih _ _ _) | (apply fm_tl; first | refine fr_fX4_pleadsIn_33  _ _ _ _ | exact ih _ _ _)
theorem fr_fX11_leastStones_0  (v1 : Int32) (μ : Mem) : Fm aC μ (fX11_leastStones_0  v1 μ) := by
  unfold fX11_leastStones_0
  with_reducible repeat' first | assumption | exact Fr.refl | refine fr_sI ?_ rfl | refine fr_sL ?_ rfl | refine fr_sC ?_ rfl | exact fm_none | refine fm_some ?_ | refine fm_gd ?_ | refine fm_ite ?_ ?_ | refine fm_ltm ?_ (fun _ _ => ?_) | refine fm_lt ?_ | intro _ _ _ _ _ _ _ _ _ _ | intro _ _ _ _ _ _ _ _ _ | intro _ _ _ _ _ _ _ _ | intro _ _ _ _ _ _ _ | intro _ _ _ _ _ _ | intro _ _ _ _ _ | intro _ _ _ _ | intro _ _ _ | intro _ _ | intro _ | (apply fm_bnd; first | refine fr_fX4_isSilent_33  _ _ | refine fr_fX11_leastStones_0_b15  _ _ _ _) | (apply fm_tl; first | refine fr_fX4_isSilent_33  _ _ | refine fr_fX11_leastStones_0_b15  _ _ _ _)
theorem fr_fX11_stones_0_b104  : ∀ n a0 a1 μ, Fm aC μ (fX11_stones_0_b104  n a0 a1 μ) := by
  intro n
  induction n with
  | zero =>
    intros
    exact fm_none
  | succ n ih =>
    intro a0 a1 μ
    rw [fX11_stones_0_b104]
    with_reducible repeat' first | assumption | exact Fr.refl | refine fr_sI ?_ rfl | refine fr_sL ?_ rfl | refine fr_sC ?_ rfl | exact fm_none | refine fm_some ?_ | refine fm_gd ?_ | refine fm_ite ?_ ?_ | refine fm_ltm ?_ (fun _ _ => ?_) | refine fm_lt ?_ | intro _ _ _ _ _ _ _ _ _ _ | intro _ _ _ _ _ _ _ _ _ | intro _ _ _ _ _ _ _ _ | intro _ _ _ _ _ _ _ | intro _ _ _ _ _ _ | intro _ _ _ _ _ | intro _ _ _ _ | intro _ _ _ | intro _ _ | intro _ | (apply fm_bnd; first | refine fr_fJ6_bitCount_0f7a4  _ _ | refine fr_fX11_stonesOnOne_0  _ _ _ | exact ih _ _ _ | refine fr_fX7_add_3  _ _) | (apply fm_tl; first | refine fr_fJ6_bitCount_0f7a4  _ _ | refine fr_fX11_stonesOnOne_0  _ _ _ | exact ih _ _ _ | refine fr_fX7_add_3  _ _)
theorem fr_fX11_stones_0_b47  : ∀ n a0 a1 a2 μ, Fm aC μ (fX11_stones_0_b47  n a0 a1 a2 μ) := by
  intro n
  induction n with
  | zero =>
    intros
    exact fm_none
  | succ n ih =>
    intro a0 a1 a2 μ
    rw [fX11_stones_0_b47]
    with_reducible repeat' first | assumption | exact Fr.refl | refine fr_sI ?_ rfl | refine fr_sL ?_ rfl | refine fr_sC ?_ rfl | exact fm_none | refine fm_some ?_ | refine fm_gd ?_ | refine fm_ite ?_ ?_ | refine fm_ltm ?_ (fun _ _ => ?_) | refine fm_lt ?_ | intro _ _ _ _ _ _ _ _ _ _ | intro _ _ _ _ _ _ _ _ _ | intro _ _ _ _ _ _ _ _ | intro _ _ _ _ _ _ _ | intro _ _ _ _ _ _ | intro _ _ _ _ _ | intro _ _ _ _ | intro _ _ _ | intro _ _ | intro _ | (apply fm_bnd; first | refine fr_fX11_isBetterLaid_0  _ _ _ | refine fr_fX11_stones_0_b104  _ _ _ _ | exact ih _ _ _ _ | refine fr_fX7_clear_3  _ | refine fr_fX11_stonesOn_0  _ _) | (apply fm_tl; first | refine fr_fX11_isBetterLaid_0  _ _ _ | refine fr_fX11_stones_0_b104  _ _ _ _ | exact ih _ _ _ _ | refine fr_fX7_clear_3  _ | refine fr_fX11_stonesOn_0  _ _)
theorem fr_fX11_stones_0_b15  : ∀ n a0 a1 μ, Fm aC μ (fX11_stones_0_b15  n a0 a1 μ) := by
  intro n
  induction n with
  | zero =>
    intros
    exact fm_none
  | succ n ih =>
    intro a0 a1 μ
    rw [fX11_stones_0_b15]
    with_reducible repeat' first | assumption | exact Fr.refl | refine fr_sI ?_ rfl | refine fr_sL ?_ rfl | refine fr_sC ?_ rfl | exact fm_none | refine fm_some ?_ | refine fm_gd ?_ | refine fm_ite ?_ ?_ | refine fm_ltm ?_ (fun _ _ => ?_) | refine fm_lt ?_ | intro _ _ _ _ _ _ _ _ _ _ | intro _ _ _ _ _ _ _ _ _ | intro _ _ _ _ _ _ _ _ | intro _ _ _ _ _ _ _ | intro _ _ _ _ _ _ | intro _ _ _ _ _ | intro _ _ _ _ | intro _ _ _ | intro _ _ | intro _ | (apply fm_bnd; first | refine fr_fX11_leastStones_0  _ _ | exact ih _ _ _ | refine fr_fX11_stones_0_b47  _ _ _ _ _) | (apply fm_tl; first | refine fr_fX11_leastStones_0  _ _ | exact ih _ _ _ | refine fr_fX11_stones_0_b47  _ _ _ _ _)
theorem fr_fX11_stones_0  (v1 : Int32) (μ : Mem) : Fm aC μ (fX11_stones_0  v1 μ) := by
  unfold fX11_stones_0
  with_reducible repeat' first | assumption | exact Fr.refl | refine fr_sI ?_ rfl | refine fr_sL ?_ rfl | refine fr_sC ?_ rfl | exact fm_none | refine fm_some ?_ | refine fm_gd ?_ | refine fm_ite ?_ ?_ | refine fm_ltm ?_ (fun _ _ => ?_) | refine fm_lt ?_ | intro _ _ _ _ _ _ _ _ _ _ | intro _ _ _ _ _ _ _ _ _ | intro _ _ _ _ _ _ _ _ | intro _ _ _ _ _ _ _ | intro _ _ _ _ _ _ | intro _ _ _ _ _ | intro _ _ _ _ | intro _ _ _ | intro _ _ | intro _ | (apply fm_bnd; first | refine fr_fX11_stones_0_b15  _ _ _ _) | (apply fm_tl; first | refine fr_fX11_stones_0_b15  _ _ _ _)
theorem fr_fX12_isLessRow_122_b48 {k2 : Int32 → Int32 → Int32 → Mem → Option (Int32 × Mem)} (hk2 : ∀ x0 x1 x2 m, Fm aM m (k2 x0 x1 x2 m)) (p1 : Int32) (p2 : Int32) (p3 : Int32) (p4 : Int32) (q0 : Int32) (μ : Mem) : Fm aM μ (fX12_isLessRow_122_b48 k2 p1 p2 p3 p4 q0 μ) := by
  unfold fX12_isLessRow_122_b48
  with_reducible repeat' first | assumption | exact Fr.refl | refine fr_sI ?_ rfl | refine fr_sL ?_ rfl | refine fr_sC ?_ rfl | exact fm_none | refine fm_some ?_ | refine fm_gd ?_ | refine fm_ite ?_ ?_ | refine fm_ltm ?_ (fun _ _ => ?_) | refine fm_lt ?_ | intro _ _ _ _ _ _ _ _ _ _ | intro _ _ _ _ _ _ _ _ _ | intro _ _ _ _ _ _ _ _ | intro _ _ _ _ _ _ _ | intro _ _ _ _ _ _ | intro _ _ _ _ _ | intro _ _ _ _ | intro _ _ _ | intro _ _ | intro _ | (apply fm_bnd; first | exact hk2 _ _ _ _) | (apply fm_tl; first | exact hk2 _ _ _ _)
theorem fr_fX12_isLessRow_122_b28 {k2 : Int32 → Int32 → Int32 → Mem → Option (Int32 × Mem)} (hk2 : ∀ x0 x1 x2 m, Fm aM m (k2 x0 x1 x2 m)) (p1 : Int32) (p2 : Int32) (p3 : Int32) (q0 : Int32) (μ : Mem) : Fm aM μ (fX12_isLessRow_122_b28 k2 p1 p2 p3 q0 μ) := by
  unfold fX12_isLessRow_122_b28
  with_reducible repeat' first | assumption | exact Fr.refl | refine fr_sI ?_ rfl | refine fr_sL ?_ rfl | refine fr_sC ?_ rfl | exact fm_none | refine fm_some ?_ | refine fm_gd ?_ | refine fm_ite ?_ ?_ | refine fm_ltm ?_ (fun _ _ => ?_) | refine fm_lt ?_ | intro _ _ _ _ _ _ _ _ _ _ | intro _ _ _ _ _ _ _ _ _ | intro _ _ _ _ _ _ _ _ | intro _ _ _ _ _ _ _ | intro _ _ _ _ _ _ | intro _ _ _ _ _ | intro _ _ _ _ | intro _ _ _ | intro _ _ | intro _ | (apply fm_bnd; first | refine fr_fX12_has  _ _ _ | refine fr_fX12_isLessRow_122_b48 ?_ _ _ _ _ _ _ | exact hk2 _ _ _ _) | (apply fm_tl; first | refine fr_fX12_has  _ _ _ | refine fr_fX12_isLessRow_122_b48 ?_ _ _ _ _ _ _ | exact hk2 _ _ _ _)
theorem fr_fX12_isLessRow_122_b2  : ∀ n a0 a1 a2 μ, Fm aM μ (fX12_isLessRow_122_b2  n a0 a1 a2 μ) := by
  intro n
  induction n with
  | zero =>
    intros
    exact fm_none
  | succ n ih =>
    intro a0 a1 a2 μ
    rw [fX12_isLessRow_122_b2]
    with_reducible repeat' first | assumption | exact Fr.refl | refine fr_sI ?_ rfl | refine fr_sL ?_ rfl | refine fr_sC ?_ rfl | exact fm_none | refine fm_some ?_ | refine fm_gd ?_ | refine fm_ite ?_ ?_ | refine fm_ltm ?_ (fun _ _ => ?_) | refine fm_lt ?_ | intro _ _ _ _ _ _ _ _ _ _ | intro _ _ _ _ _ _ _ _ _ | intro _ _ _ _ _ _ _ _ | intro _ _ _ _ _ _ _ | intro _ _ _ _ _ _ | intro _ _ _ _ _ | intro _ _ _ _ | intro _ _ _ | intro _ _ | intro _ | (apply fm_bnd; first | exact ih _ _ _ _ | refine fr_fX12_isLessRow_122_b28 ?_ _ _ _ _ _ | refine fr_fX12_has  _ _ _) | (apply fm_tl; first | exact ih _ _ _ _ | refine fr_fX12_isLessRow_122_b28 ?_ _ _ _ _ _ | refine fr_fX12_has  _ _ _)
theorem fr_fX12_isLessRow_122  (v1 : Int32) (v2 : Int32) (μ : Mem) : Fm aM μ (fX12_isLessRow_122  v1 v2 μ) := by
  unfold fX12_isLessRow_122
  with_reducible repeat' first | assumption | exact Fr.refl | refine fr_sI ?_ rfl | refine fr_sL ?_ rfl | refine fr_sC ?_ rfl | exact fm_none | refine fm_some ?_ | refine fm_gd ?_ | refine fm_ite ?_ ?_ | refine fm_ltm ?_ (fun _ _ => ?_) | refine fm_lt ?_ | intro _ _ _ _ _ _ _ _ _ _ | intro _ _ _ _ _ _ _ _ _ | intro _ _ _ _ _ _ _ _ | intro _ _ _ _ _ _ _ | intro _ _ _ _ _ _ | intro _ _ _ _ _ | intro _ _ _ _ | intro _ _ _ | intro _ _ | intro _ | (apply fm_bnd; first | refine fr_fX12_isLessRow_122_b2  _ _ _ _ _) | (apply fm_tl; first | refine fr_fX12_isLessRow_122_b2  _ _ _ _ _)
theorem fr_fX12_stonesOf_122_b4 {A : Nat → Bool}  : ∀ n a0 a1 a2 μ, Fm A μ (fX12_stonesOf_122_b4  n a0 a1 a2 μ) := by
  intro n
  induction n with
  | zero =>
    intros
    exact fm_none
  | succ n ih =>
    intro a0 a1 a2 μ
    rw [fX12_stonesOf_122_b4]
    with_reducible repeat' first | assumption | exact Fr.refl | refine fr_sI ?_ rfl | refine fr_sL ?_ rfl | refine fr_sC ?_ rfl | exact fm_none | refine fm_some ?_ | refine fm_gd ?_ | refine fm_ite ?_ ?_ | refine fm_ltm ?_ (fun _ _ => ?_) | refine fm_lt ?_ | intro _ _ _ _ _ _ _ _ _ _ | intro _ _ _ _ _ _ _ _ _ | intro _ _ _ _ _ _ _ _ | intro _ _ _ _ _ _ _ | intro _ _ _ _ _ _ | intro _ _ _ _ _ | intro _ _ _ _ | intro _ _ _ | intro _ _ | intro _ | (apply fm_bnd; first | refine fr_fX12_has  _ _ _ | exact ih _ _ _ _) | (apply fm_tl; first | refine fr_fX12_has  _ _ _ | exact ih _ _ _ _)
theorem fr_fX12_stonesOf_122 {A : Nat → Bool}  (v1 : Int32) (μ : Mem) : Fm A μ (fX12_stonesOf_122  v1 μ) := by
  unfold fX12_stonesOf_122
  with_reducible repeat' first | assumption | exact Fr.refl | refine fr_sI ?_ rfl | refine fr_sL ?_ rfl | refine fr_sC ?_ rfl | exact fm_none | refine fm_some ?_ | refine fm_gd ?_ | refine fm_ite ?_ ?_ | refine fm_ltm ?_ (fun _ _ => ?_) | refine fm_lt ?_ | intro _ _ _ _ _ _ _ _ _ _ | intro _ _ _ _ _ _ _ _ _ | intro _ _ _ _ _ _ _ _ | intro _ _ _ _ _ _ _ | intro _ _ _ _ _ _ | intro _ _ _ _ _ | intro _ _ _ _ | intro _ _ _ | intro _ _ | intro _ | (apply fm_bnd; first | refine fr_fX12_stonesOf_122_b4  _ _ _ _ _) | (apply fm_tl; first | refine fr_fX12_stonesOf_122_b4  _ _ _ _ _)
theorem fr_fX12_stones_122_b242 {k211 : Int32 → Int32 → Mem → Option (Int32 × Mem)} (hk211 : ∀ x0 x1 m, Fm aM m (k211 x0 x1 m)) (p3 : Int32) (p4 : Int32) (q0 : Int64) (μ : Mem) : Fm aM μ (fX12_stones_122_b242 k211 p3 p4 q0 μ) := by
  unfold fX12_stones_122_b242
  with_reducible repeat' first | assumption | exact Fr.refl | refine fr_sI ?_ rfl | refine fr_sL ?_ rfl | refine fr_sC ?_ rfl | exact fm_none | refine fm_some ?_ | refine fm_gd ?_ | refine fm_ite ?_ ?_ | refine fm_ltm ?_ (fun _ _ => ?_) | refine fm_lt ?_ | intro _ _ _ _ _ _ _ _ _ _ | intro _ _ _ _ _ _ _ _ _ | intro _ _ _ _ _ _ _ _ | intro _ _ _ _ _ _ _ | intro _ _ _ _ _ _ | intro _ _ _ _ _ | intro _ _ _ _ | intro _ _ _ | intro _ _ | intro _ | (apply fm_bnd; first | refine fr_fX12_tell_122  _ _ | exact hk211 _ _ _) | (apply fm_tl; first | refine fr_fX12_tell_122  _ _ | exact hk211 _ _ _)
theorem fr_fX12_stones_122_b211  : ∀ n a0 a1 μ, Fm aM μ (fX12_stones_122_b211  n a0 a1 μ) := by
  intro n
  induction n with
  | zero =>
    intros
    exact fm_none
  | succ n ih =>
    intro a0 a1 μ
    rw [fX12_stones_122_b211]
    with_reducible repeat' first | assumption | exact Fr.refl | refine fr_sI ?_ rfl | refine fr_sL ?_ rfl | refine fr_sC ?_ rfl | exact fm_none | refine fm_some ?_ | refine fm_gd ?_ | refine fm_ite ?_ ?_ | refine fm_ltm ?_ (fun _ _ => ?_) | refine fm_lt ?_ | intro _ _ _ _ _ _ _ _ _ _ | intro _ _ _ _ _ _ _ _ _ | intro _ _ _ _ _ _ _ _ | intro _ _ _ _ _ _ _ | intro _ _ _ _ _ _ | intro _ _ _ _ _ | intro _ _ _ _ | intro _ _ _ | intro _ _ | intro _ | (apply fm_bnd; first | refine fr_fJ6_bitCount_0f7a4  _ _ | exact ih _ _ _ | refine fr_fX12_has  _ _ _ | refine fr_fX12_stones_122_b242 ?_ _ _ _ _) | (apply fm_tl; first | refine fr_fJ6_bitCount_0f7a4  _ _ | exact ih _ _ _ | refine fr_fX12_has  _ _ _ | refine fr_fX12_stones_122_b242 ?_ _ _ _ _)
theorem fr_fX12_stones_122_b110  : ∀ n a0 a1 a2 a3 μ, Fm aM μ (fX12_stones_122_b110  n a0 a1 a2 a3 μ) := by
  intro n
  induction n with
  | zero =>
    intros
    exact fm_none
  | succ n ih =>
    intro a0 a1 a2 a3 μ
    rw [fX12_stones_122_b110]
    with_reducible repeat' first | assumption | exact Fr.refl | refine fr_sI ?_ rfl | refine fr_sL ?_ rfl | refine fr_sC ?_ rfl | exact fm_none | refine fm_some ?_ | refine fm_gd ?_ | refine fm_ite ?_ ?_ | refine fm_ltm ?_ (fun _ _ => ?_) | refine fm_lt ?_ | intro _ _ _ _ _ _ _ _ _ _ | intro _ _ _ _ _ _ _ _ _ | intro _ _ _ _ _ _ _ _ | intro _ _ _ _ _ _ _ | intro _ _ _ _ _ _ | intro _ _ _ _ _ | intro _ _ _ _ | intro _ _ _ | intro _ _ | intro _ | (apply fm_bnd; first | refine fr_fX12_stones_122_b211  _ _ _ _ | refine fr_fX12_stonesOf_122  _ _ | exact ih _ _ _ _ _ | refine fr_fJ6_bitCount_0f7a4  _ _ | refine fr_fX12_isLessRow_122  _ _ _) | (apply fm_tl; first | refine fr_fX12_stones_122_b211  _ _ _ _ | refine fr_fX12_stonesOf_122  _ _ | exact ih _ _ _ _ _ | refine fr_fJ6_bitCount_0f7a4  _ _ | refine fr_fX12_isLessRow_122  _ _ _)
theorem fr_fX12_stones_122_b41 {k22 : Int32 → Int32 → Int32 → Mem → Option (Int32 × Mem)} (hk22 : ∀ x0 x1 x2 m, Fm aM m (k22 x0 x1 x2 m)) : ∀ n a0 a1 a2 a3 μ, Fm aM μ (fX12_stones_122_b41 k22 n a0 a1 a2 a3 μ) := by
  intro n
  induction n with
  | zero =>
    intros
    exact fm_none
  | succ n ih =>
    intro a0 a1 a2 a3 μ
    rw [fX12_stones_122_b41]
    with_reducible repeat' first | assumption | exact Fr.refl | refine fr_sI ?_ rfl | refine fr_sL ?_ rfl | refine fr_sC ?_ rfl | exact fm_none | refine fm_some ?_ | refine fm_gd ?_ | refine fm_ite ?_ ?_ | refine fm_ltm ?_ (fun _ _ => ?_) | refine fm_lt ?_ | intro _ _ _ _ _ _ _ _ _ _ | intro _ _ _ _ _ _ _ _ _ | intro _ _ _ _ _ _ _ _ | intro _ _ _ _ _ _ _ | intro _ _ _ _ _ _ | intro _ _ _ _ _ | intro _ _ _ _ | intro _ _ _ | intro _ _ | intro _ | (apply fm_bnd; first | refine fr_fX12_speakNight_122  _ _ _ | exact ih _ _ _ _ _ | exact hk22 _ _ _ _) | (apply fm_tl; first | refine fr_fX12_speakNight_122  _ _ _ | exact ih _ _ _ _ _ | exact hk22 _ _ _ _)
theorem fr_fX12_stones_122_b22  : ∀ n a0 a1 a2 μ, Fm aM μ (fX12_stones_122_b22  n a0 a1 a2 μ) := by
  intro n
  induction n with
  | zero =>
    intros
    exact fm_none
  | succ n ih =>
    intro a0 a1 a2 μ
    rw [fX12_stones_122_b22]
    with_reducible repeat' first | assumption | exact Fr.refl | refine fr_sI ?_ rfl | refine fr_sL ?_ rfl | refine fr_sC ?_ rfl | exact fm_none | refine fm_some ?_ | refine fm_gd ?_ | refine fm_ite ?_ ?_ | refine fm_ltm ?_ (fun _ _ => ?_) | refine fm_lt ?_ | intro _ _ _ _ _ _ _ _ _ _ | intro _ _ _ _ _ _ _ _ _ | intro _ _ _ _ _ _ _ _ | intro _ _ _ _ _ _ _ | intro _ _ _ _ _ _ | intro _ _ _ _ _ | intro _ _ _ _ | intro _ _ _ | intro _ _ | intro _ | (apply fm_bnd; first | refine fr_fX12_stones_122_b41 ?_ _ _ _ _ _ _ | exact ih _ _ _ _ | refine fr_fX12_stones_122_b110  _ _ _ _ _ _) | (apply fm_tl; first | refine fr_fX12_stones_122_b41 ?_ _ _ _ _ _ _ | exact ih _ _ _ _ | refine fr_fX12_stones_122_b110  _ _ _ _ _ _)
theorem fr_fX12_stones_122  (v1 : Int32) (μ : Mem) : Fm aM μ (fX12_stones_122  v1 μ) := by
  unfold fX12_stones_122
  with_reducible repeat' first | assumption | exact Fr.refl | refine fr_sI ?_ rfl | refine fr_sL ?_ rfl | refine fr_sC ?_ rfl | exact fm_none | refine fm_some ?_ | refine fm_gd ?_ | refine fm_ite ?_ ?_ | refine fm_ltm ?_ (fun _ _ => ?_) | refine fm_lt ?_ | intro _ _ _ _ _ _ _ _ _ _ | intro _ _ _ _ _ _ _ _ _ | intro _ _ _ _ _ _ _ _ | intro _ _ _ _ _ _ _ | intro _ _ _ _ _ _ | intro _ _ _ _ _ | intro _ _ _ _ | intro _ _ _ | intro _ _ | intro _ | (apply fm_bnd; first | refine fr_fX12_stones_122_b22  _ _ _ _ _ | refine fr_fX12_in  _ _ _ _) | (apply fm_tl; first | refine fr_fX12_stones_122_b22  _ _ _ _ _ | refine fr_fX12_in  _ _ _ _)
theorem fr_fX4_isSilent_38 {A : Nat → Bool}  (v1 : Int32) (μ : Mem) : Fm A μ (fX4_isSilent_38  v1 μ) := by
  unfold fX4_isSilent_38
  with_reducible repeat' first | assumption | exact Fr.refl | refine fr_sI ?_ rfl | refine fr_sL ?_ rfl | refine fr_sC ?_ rfl | exact fm_none | refine fm_some ?_ | refine fm_gd ?_ | refine fm_ite ?_ ?_ | refine fm_ltm ?_ (fun _ _ => ?_) | refine fm_lt ?_ | intro _ _ _ _ _ _ _ _ _ _ | intro _ _ _ _ _ _ _ _ _ | intro _ _ _ _ _ _ _ _ | intro _ _ _ _ _ _ _ | intro _ _ _ _ _ _ | intro _ _ _ _ _ | intro _ _ _ _ | intro _ _ _ | intro _ _ | intro _
theorem fr_fX4_leaveOver_38_b34 {k4 : Int32 → Int32 → Mem → Option (Int32 × Mem)} (hk4 : ∀ x0 x1 m, Fm aC m (k4 x0 x1 m)) (p1 : Int32) (p2 : Int32) (μ : Mem) : Fm aC μ (fX4_leaveOver_38_b34 k4 p1 p2 μ) := by
  unfold fX4_leaveOver_38_b34
  with_reducible repeat' first | assumption | exact Fr.refl | refine fr_sI ?_ rfl | refine fr_sL ?_ rfl | refine fr_sC ?_ rfl | exact fm_none | refine fm_some ?_ | refine fm_gd ?_ | refine fm_ite ?_ ?_ | refine fm_ltm ?_ (fun _ _ => ?_) | refine fm_lt ?_ | intro _ _ _ _ _ _ _ _ _ _ | intro _ _ _ _ _ _ _ _ _ | intro _ _ _ _ _ _ _ _ | intro _ _ _ _ _ _ _ | intro _ _ _ _ _ _ | intro _ _ _ _ _ | intro _ _ _ _ | intro _ _ _ | intro _ _ | intro _ | (apply fm_bnd; first | exact hk4 _ _ _) | (apply fm_tl; first | exact hk4 _ _ _)
theorem fr_fX4_leaveOver_38_b4  : ∀ n a0 a1 μ, Fm aC μ (fX4_leaveOver_38_b4  n a0 a1 μ) := by
  intro n
  induction n with
  | zero =>
    intros
    exact fm_none
  | succ n ih =>
    intro a0 a1 μ
    rw [fX4_leaveOver_38_b4]
    with_reducible repeat' first | assumption | exact Fr.refl | refine fr_sI ?_ rfl | refine fr_sL ?_ rfl | refine fr_sC ?_ rfl | exact fm_none | refine fm_some ?_ | refine fm_gd ?_ | refine fm_ite ?_ ?_ | refine fm_ltm ?_ (fun _ _ => ?_) | refine fm_lt ?_ | intro _ _ _ _ _ _ _ _ _ _ | intro _ _ _ _ _ _ _ _ _ | intro _ _ _ _ _ _ _ _ | intro _ _ _ _ _ _ _ | intro _ _ _ _ _ _ | intro _ _ _ _ _ | intro _ _ _ _ | intro _ _ _ | intro _ _ | intro _ | (apply fm_bnd; first | exact ih _ _ _ | refine fr_fX4_leaveOver_38_b34 ?_ _ _ _) | (apply fm_tl; first | exact ih _ _ _ | refine fr_fX4_leaveOver_38_b34 ?_ _ _ _)
theorem fr_fX4_leaveOver_38   (μ : Mem) : Fm aC μ (fX4_leaveOver_38   μ) := by
  unfold fX4_leaveOver_38
  with_reducible repeat' first | assumption | exact Fr.refl | refine fr_sI ?_ rfl | refine fr_sL ?_ rfl | refine fr_sC ?_ rfl | exact fm_none | refine fm_some ?_ | refine fm_gd ?_ | refine fm_ite ?_ ?_ | refine fm_ltm ?_ (fun _ _ => ?_) | refine fm_lt ?_ | intro _ _ _ _ _ _ _ _ _ _ | intro _ _ _ _ _ _ _ _ _ | intro _ _ _ _ _ _ _ _ | intro _ _ _ _ _ _ _ | intro _ _ _ _ _ _ | intro _ _ _ _ _ | intro _ _ _ _ | intro _ _ _ | intro _ _ | intro _ | (apply fm_bnd; first | refine fr_fX4_leaveOver_38_b4  _ _ _ _) | (apply fm_tl; first | refine fr_fX4_leaveOver_38_b4  _ _ _ _)
theorem fr_fX4_leftWith_38  (v1 : Int32) (v2 : Int32) (v3 : Int32) (v4 : Int32) (μ : Mem) : Fm aC μ (fX4_leftWith_38  v1 v2 v3 v4 μ) := by
  unfold fX4_leftWith_38
  with_reducible repeat' first | assumption | exact Fr.refl | refine fr_sI ?_ rfl | refine fr_sL ?_ rfl | refine fr_sC ?_ rfl | exact fm_none | refine fm_some ?_ | refine fm_gd ?_ | refine fm_ite ?_ ?_ | refine fm_ltm ?_ (fun _ _ => ?_) | refine fm_lt ?_ | intro _ _ _ _ _ _ _ _ _ _ | intro _ _ _ _ _ _ _ _ _ | intro _ _ _ _ _ _ _ _ | intro _ _ _ _ _ _ _ | intro _ _ _ _ _ _ | intro _ _ _ _ _ | intro _ _ _ _ | intro _ _ _ | intro _ _ | intro _ | (apply fm_bnd; first | refine fr_fX8_worth_19  _ _ _ _ _ _ _) | (apply fm_tl; first | refine fr_fX8_worth_19  _ _ _ _ _ _ _)
theorem fr_fX4_night_38_b87  : ∀ n a0 a1 a2 μ, Fm aC μ (fX4_night_38_b87  n a0 a1 a2 μ) := by
  intro n
  induction n with
  | zero =>
    intros
    exact fm_none
  | succ n ih =>
    intro a0 a1 a2 μ
    rw [fX4_night_38_b87]
    with_reducible repeat' first | assumption | exact Fr.refl | refine fr_sI ?_ rfl | refine fr_sL ?_ rfl | refine fr_sC ?_ rfl | exact fm_none | refine fm_some ?_ | refine fm_gd ?_ | refine fm_ite ?_ ?_ | refine fm_ltm ?_ (fun _ _ => ?_) | refine fm_lt ?_ | intro _ _ _ _ _ _ _ _ _ _ | intro _ _ _ _ _ _ _ _ _ | intro _ _ _ _ _ _ _ _ | intro _ _ _ _ _ _ _ | intro _ _ _ _ _ _ | intro _ _ _ _ _ | intro _ _ _ _ | intro _ _ _ | intro _ _ | intro _ | (apply fm_bnd; first | refine fr_fX4_leaveOver_38  _ | exact ih _ _ _ _) | (apply fm_tl; first | refine fr_fX4_leaveOver_38  _ | exact ih _ _ _ _)
theorem fr_fX4_night_38_b4  : ∀ n a0 a1 a2 μ, Fm aC μ (fX4_night_38_b4  n a0 a1 a2 μ) := by
  intro n
  induction n with
  | zero =>
    intros
    exact fm_none
  | succ n ih =>
    intro a0 a1 a2 μ
    rw [fX4_night_38_b4]
    with_reducible repeat' first | assumption | exact Fr.refl | refine fr_sI ?_ rfl | refine fr_sL ?_ rfl | refine fr_sC ?_ rfl | exact fm_none | refine fm_some ?_ | refine fm_gd ?_ | refine fm_ite ?_ ?_ | refine fm_ltm ?_ (fun _ _ => ?_) | refine fm_lt ?_ | intro _ _ _ _ _ _ _ _ _ _ | intro _ _ _ _ _ _ _ _ _ | intro _ _ _ _ _ _ _ _ | intro _ _ _ _ _ _ _ | intro _ _ _ _ _ _ | intro _ _ _ _ _ | intro _ _ _ _ | intro _ _ _ | intro _ _ | intro _ | (apply fm_bnd; first | refine fr_fX4_isSilent_38  _ _ | exact ih _ _ _ _ | refine fr_fX4_night_38_b87  _ _ _ _ _ | refine fr_fX4_leftWith_38  _ _ _ _ _) | (apply fm_tl; first | refine fr_fX4_isSilent_38  _ _ | exact ih _ _ _ _ | refine fr_fX4_night_38_b87  _ _ _ _ _ | refine fr_fX4_leftWith_38  _ _ _ _ _)
theorem fr_fX4_night_38  (v1 : Int32) (μ : Mem) : Fm aC μ (fX4_night_38  v1 μ) := by
  unfold fX4_night_38
  with_reducible repeat' first | assumption | exact Fr.refl | refine fr_sI ?_ rfl | refine fr_sL ?_ rfl | refine fr_sC ?_ rfl | exact fm_none | refine fm_some ?_ | refine fm_gd ?_ | refine fm_ite ?_ ?_ | refine fm_ltm ?_ (fun _ _ => ?_) | refine fm_lt ?_ | intro _ _ _ _ _ _ _ _ _ _ | intro _ _ _ _ _ _ _ _ _ | intro _ _ _ _ _ _ _ _ | intro _ _ _ _ _ _ _ | intro _ _ _ _ _ _ | intro _ _ _ _ _ | intro _ _ _ _ | intro _ _ _ | intro _ _ | intro _ | (apply fm_bnd; first | refine fr_fX4_night_38_b4  _ _ _ _ _) | (apply fm_tl; first | refine fr_fX4_night_38_b4  _ _ _ _ _)
theorem fr_fX4_pass_38_b5  : ∀ n a0 a1 a2 a3 μ, Fm aC μ (fX4_pass_38_b5  n a0 a1 a2 a3 μ) := by
  intro n
  induction n with
  | zero =>
    intros
    exact fm_none
  | succ n ih =>
    intro a0 a1 a2 a3 μ
    rw [fX4_pass_38_b5]
    with_reducible repeat' first | assumption | exact Fr.refl | refine fr_sI ?_ rfl | refine fr_sL ?_ rfl | refine fr_sC ?_ rfl | exact fm_none | refine fm_some ?_ | refine fm_gd ?_ | refine fm_ite ?_ ?_ | refine fm_ltm ?_ (fun _ _ => ?_) | refine fm_lt ?_ | intro _ _ _ _ _ _ _ _ _ _ | intro _ _ _ _ _ _ _ _ _ | intro _ _ _ _ _ _ _ _ | intro _ _ _ _ _ _ _ | intro _ _ _ _ _ _ | intro _ _ _ _ _ | intro _ _ _ _ | intro _ _ _ | intro _ _ | intro _ | (apply fm_bnd; first | refine fr_fX4_night_38  _ _ | exact ih _ _ _ _ _) | (apply fm_tl; first | refine fr_fX4_night_38  _ _ | exact ih _ _ _ _ _)
theorem fr_fX4_pass_38  (v1 : Int32) (v2 : Int32) (μ : Mem) : Fm aC μ (fX4_pass_38  v1 v2 μ) := by
  unfold fX4_pass_38
  with_reducible repeat' first | assumption | exact Fr.refl | refine fr_sI ?_ rfl | refine fr_sL ?_ rfl | refine fr_sC ?_ rfl | exact fm_none | refine fm_some ?_ | refine fm_gd ?_ | refine fm_ite ?_ ?_ | refine fm_ltm ?_ (fun _ _ => ?_) | refine fm_lt ?_ | intro _ _ _ _ _ _ _ _ _ _ | intro _ _ _ _ _ _ _ _ _ | intro _ _ _ _ _ _ _ _ | intro _ _ _ _ _ _ _ | intro _ _ _ _ _ _ | intro _ _ _ _ _ | intro _ _ _ _ | intro _ _ _ | intro _ _ | intro _ | (apply fm_bnd; first | refine fr_fX4_pass_38_b5  _ _ _ _ _ _) | (apply fm_tl; first | refine fr_fX4_pass_38_b5  _ _ _ _ _ _)
theorem fr_fX4_take_38_33   (μ : Mem) : Fm aC μ (fX4_take_38_33   μ) := by
  unfold fX4_take_38_33
  with_reducible repeat' first | assumption | exact Fr.refl | refine fr_sI ?_ rfl | refine fr_sL ?_ rfl | refine fr_sC ?_ rfl | exact fm_none | refine fm_some ?_ | refine fm_gd ?_ | refine fm_ite ?_ ?_ | refine fm_ltm ?_ (fun _ _ => ?_) | refine fm_lt ?_ | intro _ _ _ _ _ _ _ _ _ _ | intro _ _ _ _ _ _ _ _ _ | intro _ _ _ _ _ _ _ _ | intro _ _ _ _ _ _ _ | intro _ _ _ _ _ _ | intro _ _ _ _ _ | intro _ _ _ _ | intro _ _ _ | intro _ _ | intro _
theorem fr_fX4_thoseWho_38_b4 {A : Nat → Bool}  : ∀ n a0 a1 a2 μ, Fm A μ (fX4_thoseWho_38_b4  n a0 a1 a2 μ) := by
  intro n
  induction n with
  | zero =>
    intros
    exact fm_none
  | succ n ih =>
    intro a0 a1 a2 μ
    rw [fX4_thoseWho_38_b4]
    with_reducible repeat' first | assumption | exact Fr.refl | refine fr_sI ?_ rfl | refine fr_sL ?_ rfl | refine fr_sC ?_ rfl | exact fm_none | refine fm_some ?_ | refine fm_gd ?_ | refine fm_ite ?_ ?_ | refine fm_ltm ?_ (fun _ _ => ?_) | refine fm_lt ?_ | intro _ _ _ _ _ _ _ _ _ _ | intro _ _ _ _ _ _ _ _ _ | intro _ _ _ _ _ _ _ _ | intro _ _ _ _ _ _ _ | intro _ _ _ _ _ _ | intro _ _ _ _ _ | intro _ _ _ _ | intro _ _ _ | intro _ _ | intro _ | (apply fm_bnd; first | exact ih _ _ _ _) | (apply fm_tl; first | exact ih _ _ _ _)
theorem fr_fX4_thoseWho_38 {A : Nat → Bool}  (v1 : Int32) (μ : Mem) : Fm A μ (fX4_thoseWho_38  v1 μ) := by
  unfold fX4_thoseWho_38
  with_reducible repeat' first | assumption | exact Fr.refl | refine fr_sI ?_ rfl | refine fr_sL ?_ rfl | refine fr_sC ?_ rfl | exact fm_none | refine fm_some ?_ | refine fm_gd ?_ | refine fm_ite ?_ ?_ | refine fm_ltm ?_ (fun _ _ => ?_) | refine fm_lt ?_ | intro _ _ _ _ _ _ _ _ _ _ | intro _ _ _ _ _ _ _ _ _ | intro _ _ _ _ _ _ _ _ | intro _ _ _ _ _ _ _ | intro _ _ _ _ _ _ | intro _ _ _ _ _ | intro _ _ _ _ | intro _ _ _ | intro _ _ | intro _ | (apply fm_bnd; first | refine fr_fX4_thoseWho_38_b4  _ _ _ _ _) | (apply fm_tl; first | refine fr_fX4_thoseWho_38_b4  _ _ _ _ _)
theorem fr_fX11_silent_0  (v1 : Int32) (μ : Mem) : Fm aC μ (fX11_silent_0  v1 μ) := by
  unfold fX11_silent_0
  with_reducible repeat' first | assumption | exact Fr.refl | refine fr_sI ?_ rfl | refine fr_sL ?_ rfl | refine fr_sC ?_ rfl | exact fm_none | refine fm_some ?_ | refine fm_gd ?_ | refine fm_ite ?_ ?_ | refine fm_ltm ?_ (fun _ _ => ?_) | refine fm_lt ?_ | intro _ _ _ _ _ _ _ _ _ _ | intro _ _ _ _ _ _ _ _ _ | intro _ _ _ _ _ _ _ _ | intro _ _ _ _ _ _ _ | intro _ _ _ _ _ _ | intro _ _ _ _ _ | intro _ _ _ _ | intro _ _ _ | intro _ _ | intro _ | (apply fm_bnd; first | refine fr_fX11_overOf  _ _ | refine fr_fX4_thoseWho_38  _ _ | refine fr_fX4_take_38_33  _ | refine fr_fJ6_bitCount_0f7a4  _ _ | refine fr_fX7_tell__3  _ _ _ | refine fr_fX11_diedOf  _ _ | refine fr_fX4_pass_38  _ _ _) | (apply fm_tl; first | refine fr_fX11_overOf  _ _ | refine fr_fX4_thoseWho_38  _ _ | refine fr_fX4_take_38_33  _ | refine fr_fJ6_bitCount_0f7a4  _ _ | refine fr_fX7_tell__3  _ _ _ | refine fr_fX11_diedOf  _ _ | refine fr_fX4_pass_38  _ _ _)
theorem fr_fX12_leftNow_122_140  (v2 : Int32) (μ : Mem) : Fm aM μ (fX12_leftNow_122_140  v2 μ) := by
  unfold fX12_leftNow_122_140
  with_reducible repeat' first | assumption | exact Fr.refl | refine fr_sI ?_ rfl | refine fr_sL ?_ rfl | refine fr_sC ?_ rfl | exact fm_none | refine fm_some ?_ | refine fm_gd ?_ | refine fm_ite ?_ ?_ | refine fm_ltm ?_ (fun _ _ => ?_) | refine fm_lt ?_ | intro _ _ _ _ _ _ _ _ _ _ | intro _ _ _ _ _ _ _ _ _ | intro _ _ _ _ _ _ _ _ | intro _ _ _ _ _ _ _ | intro _ _ _ _ _ _ | intro _ _ _ _ _ | intro _ _ _ _ | intro _ _ _ | intro _ _ | intro _ | (apply fm_bnd; first | refine fr_fX12_leftOf_122  _ _ _ _ _) | (apply fm_tl; first | refine fr_fX12_leftOf_122  _ _ _ _ _)
theorem fr_fX12_goNight_122_140_b139 {k118 : Int32 → Mem → Option (Unit × Mem)} (hk118 : ∀ x0 m, Fm aM m (k118 x0 m)) (p2 : Int32) (μ : Mem) : Fm aM μ (fX12_goNight_122_140_b139 k118 p2 μ) := by
  unfold fX12_goNight_122_140_b139
  with_reducible repeat' first | assumption | exact Fr.refl | refine fr_sI ?_ rfl | refine fr_sL ?_ rfl | refine fr_sC ?_ rfl | exact fm_none | refine fm_some ?_ | refine fm_gd ?_ | refine fm_ite ?_ ?_ | refine fm_ltm ?_ (fun _ _ => ?_) | refine fm_lt ?_ | intro _ _ _ _ _ _ _ _ _ _ | intro _ _ _ _ _ _ _ _ _ | intro _ _ _ _ _ _ _ _ | intro _ _ _ _ _ _ _ | intro _ _ _ _ _ _ | intro _ _ _ _ _ | intro _ _ _ _ | intro _ _ _ | intro _ _ | intro _ | (apply fm_bnd; first | exact hk118 _ _) | (apply fm_tl; first | exact hk118 _ _)
theorem fr_fX12_goNight_122_140_b118  : ∀ n a0 μ, Fm aM μ (fX12_goNight_122_140_b118  n a0 μ) := by
  intro n
  induction n with
  | zero =>
    intros
    exact fm_none
  | succ n ih =>
    intro a0 μ
    rw [fX12_goNight_122_140_b118]
    with_reducible repeat' first | assumption | exact Fr.refl | refine fr_sI ?_ rfl | refine fr_sL ?_ rfl | refine fr_sC ?_ rfl | exact fm_none | refine fm_some ?_ | refine fm_gd ?_ | refine fm_ite ?_ ?_ | refine fm_ltm ?_ (fun _ _ => ?_) | refine fm_lt ?_ | intro _ _ _ _ _ _ _ _ _ _ | intro _ _ _ _ _ _ _ _ _ | intro _ _ _ _ _ _ _ _ | intro _ _ _ _ _ _ _ | intro _ _ _ _ _ _ | intro _ _ _ _ _ | intro _ _ _ _ | intro _ _ _ | intro _ _ | intro _ | (apply fm_bnd; first | exact ih _ _ | refine fr_fX12_goNight_122_140_b139 ?_ _ _) | (apply fm_tl; first | exact ih _ _ | refine fr_fX12_goNight_122_140_b139 ?_ _ _)
theorem fr_fX12_goNight_122_140_b59  : ∀ n a0 μ, Fm aM μ (fX12_goNight_122_140_b59  n a0 μ) := by
  intro n
  induction n with
  | zero =>
    intros
    exact fm_none
  | succ n ih =>
    intro a0 μ
    rw [fX12_goNight_122_140_b59]
    with_reducible repeat' first | assumption | exact Fr.refl | refine fr_sI ?_ rfl | refine fr_sL ?_ rfl | refine fr_sC ?_ rfl | exact fm_none | refine fm_some ?_ | refine fm_gd ?_ | refine fm_ite ?_ ?_ | refine fm_ltm ?_ (fun _ _ => ?_) | refine fm_lt ?_ | intro _ _ _ _ _ _ _ _ _ _ | intro _ _ _ _ _ _ _ _ _ | intro _ _ _ _ _ _ _ _ | intro _ _ _ _ _ _ _ | intro _ _ _ _ _ _ | intro _ _ _ _ _ | intro _ _ _ _ | intro _ _ _ | intro _ _ | intro _ | (apply fm_bnd; first | refine fr_fX12_goNight_122_140_b118  _ _ _ | exact ih _ _) | (apply fm_tl; first | refine fr_fX12_goNight_122_140_b118  _ _ _ | exact ih _ _)
theorem fr_fX12_goNight_122_140_b2  : ∀ n a0 μ, Fm aM μ (fX12_goNight_122_140_b2  n a0 μ) := by
  intro n
  induction n with
  | zero =>
    intros
    exact fm_none
  | succ n ih =>
    intro a0 μ
    rw [fX12_goNight_122_140_b2]
    with_reducible repeat' first | assumption | exact Fr.refl | refine fr_sI ?_ rfl | refine fr_sL ?_ rfl | refine fr_sC ?_ rfl | exact fm_none | refine fm_some ?_ | refine fm_gd ?_ | refine fm_ite ?_ ?_ | refine fm_ltm ?_ (fun _ _ => ?_) | refine fm_lt ?_ | intro _ _ _ _ _ _ _ _ _ _ | intro _ _ _ _ _ _ _ _ _ | intro _ _ _ _ _ _ _ _ | intro _ _ _ _ _ _ _ | intro _ _ _ _ _ _ | intro _ _ _ _ _ | intro _ _ _ _ | intro _ _ _ | intro _ _ | intro _ | (apply fm_bnd; first | refine fr_fX12_goNight_122_140_b59  _ _ _ | refine fr_fX12_leftNow_122_140  _ _ | exact ih _ _) | (apply fm_tl; first | refine fr_fX12_goNight_122_140_b59  _ _ _ | refine fr_fX12_leftNow_122_140  _ _ | exact ih _ _)
theorem fr_fX12_goNight_122_140   (μ : Mem) : Fm aM μ (fX12_goNight_122_140   μ) := by
  unfold fX12_goNight_122_140
  with_reducible repeat' first | assumption | exact Fr.refl | refine fr_sI ?_ rfl | refine fr_sL ?_ rfl | refine fr_sC ?_ rfl | exact fm_none | refine fm_some ?_ | refine fm_gd ?_ | refine fm_ite ?_ ?_ | refine fm_ltm ?_ (fun _ _ => ?_) | refine fm_lt ?_ | intro _ _ _ _ _ _ _ _ _ _ | intro _ _ _ _ _ _ _ _ _ | intro _ _ _ _ _ _ _ _ | intro _ _ _ _ _ _ _ | intro _ _ _ _ _ _ | intro _ _ _ _ _ | intro _ _ _ _ | intro _ _ _ | intro _ _ | intro _ | (apply fm_bnd; first | refine fr_fX12_goNight_122_140_b2  _ _ _) | (apply fm_tl; first | refine fr_fX12_goNight_122_140_b2  _ _ _)
theorem fr_fX12_lay_123_140_b2  : ∀ n a0 a1 μ, Fm aM μ (fX12_lay_123_140_b2  n a0 a1 μ) := by
  intro n
  induction n with
  | zero =>
    intros
    exact fm_none
  | succ n ih =>
    intro a0 a1 μ
    rw [fX12_lay_123_140_b2]
    with_reducible repeat' first | assumption | exact Fr.refl | refine fr_sI ?_ rfl | refine fr_sL ?_ rfl | refine fr_sC ?_ rfl | exact fm_none | refine fm_some ?_ | refine fm_gd ?_ | refine fm_ite ?_ ?_ | refine fm_ltm ?_ (fun _ _ => ?_) | refine fm_lt ?_ | intro _ _ _ _ _ _ _ _ _ _ | intro _ _ _ _ _ _ _ _ _ | intro _ _ _ _ _ _ _ _ | intro _ _ _ _ _ _ _ | intro _ _ _ _ _ _ | intro _ _ _ _ _ | intro _ _ _ _ | intro _ _ _ | intro _ _ | intro _ | (apply fm_bnd; first | exact ih _ _ _) | (apply fm_tl; first | exact ih _ _ _)
theorem fr_fX12_lay_123_140  (v2 : Int32) (μ : Mem) : Fm aM μ (fX12_lay_123_140  v2 μ) := by
  unfold fX12_lay_123_140
  with_reducible repeat' first | assumption | exact Fr.refl | refine fr_sI ?_ rfl | refine fr_sL ?_ rfl | refine fr_sC ?_ rfl | exact fm_none | refine fm_some ?_ | refine fm_gd ?_ | refine fm_ite ?_ ?_ | refine fm_ltm ?_ (fun _ _ => ?_) | refine fm_lt ?_ | intro _ _ _ _ _ _ _ _ _ _ | intro _ _ _ _ _ _ _ _ _ | intro _ _ _ _ _ _ _ _ | intro _ _ _ _ _ _ _ | intro _ _ _ _ _ _ | intro _ _ _ _ _ | intro _ _ _ _ | intro _ _ _ | intro _ _ | intro _ | (apply fm_bnd; first | refine fr_fX12_lay_123_140_b2  _ _ _ _) | (apply fm_tl; first | refine fr_fX12_lay_123_140_b2  _ _ _ _)
theorem fr_fX12_ofKind_122_140_b5 {A : Nat → Bool}  : ∀ n a0 a1 a2 μ, Fm A μ (fX12_ofKind_122_140_b5  n a0 a1 a2 μ) := by
  intro n
  induction n with
  | zero =>
    intros
    exact fm_none
  | succ n ih =>
    intro a0 a1 a2 μ
    rw [fX12_ofKind_122_140_b5]
    with_reducible repeat' first | assumption | exact Fr.refl | refine fr_sI ?_ rfl | refine fr_sL ?_ rfl | refine fr_sC ?_ rfl | exact fm_none | refine fm_some ?_ | refine fm_gd ?_ | refine fm_ite ?_ ?_ | refine fm_ltm ?_ (fun _ _ => ?_) | refine fm_lt ?_ | intro _ _ _ _ _ _ _ _ _ _ | intro _ _ _ _ _ _ _ _ _ | intro _ _ _ _ _ _ _ _ | intro _ _ _ _ _ _ _ | intro _ _ _ _ _ _ | intro _ _ _ _ _ | intro _ _ _ _ | intro _ _ _ | intro _ _ | intro _ | (apply fm_bnd; first | exact ih _ _ _ _) | (apply fm_tl; first | exact ih _ _ _ _)
theorem fr_fX12_ofKind_122_140 {A : Nat → Bool}  (v2 : Int32) (μ : Mem) : Fm A μ (fX12_ofKind_122_140  v2 μ) := by
  unfold fX12_ofKind_122_140
  with_reducible repeat' first | assumption | exact Fr.refl | refine fr_sI ?_ rfl | refine fr_sL ?_ rfl | refine fr_sC ?_ rfl | exact fm_none | refine fm_some ?_ | refine fm_gd ?_ | refine fm_ite ?_ ?_ | refine fm_ltm ?_ (fun _ _ => ?_) | refine fm_lt ?_ | intro _ _ _ _ _ _ _ _ _ _ | intro _ _ _ _ _ _ _ _ _ | intro _ _ _ _ _ _ _ _ | intro _ _ _ _ _ _ _ | intro _ _ _ _ _ _ | intro _ _ _ _ _ | intro _ _ _ _ | intro _ _ _ | intro _ _ | intro _ | (apply fm_bnd; first | refine fr_fX12_ofKind_122_140_b5  _ _ _ _ _) | (apply fm_tl; first | refine fr_fX12_ofKind_122_140_b5  _ _ _ _ _)
theorem fr_fX12_silent_122_b31  : ∀ n a0 a1 μ, Fm aM μ (fX12_silent_122_b31  n a0 a1 μ) := by
  intro n
  induction n with
  | zero =>
    intros
    exact fm_none
  | succ n ih =>
    intro a0 a1 μ
    rw [fX12_silent_122_b31]
    with_reducible repeat' first | assumption | exact Fr.refl | refine fr_sI ?_ rfl | refine fr_sL ?_ rfl | refine fr_sC ?_ rfl | exact fm_none | refine fm_some ?_ | refine fm_gd ?_ | refine fm_ite ?_ ?_ | refine fm_ltm ?_ (fun _ _ => ?_) | refine fm_lt ?_ | intro _ _ _ _ _ _ _ _ _ _ | intro _ _ _ _ _ _ _ _ _ | intro _ _ _ _ _ _ _ _ | intro _ _ _ _ _ _ _ | intro _ _ _ _ _ _ | intro _ _ _ _ _ | intro _ _ _ _ | intro _ _ _ | intro _ _ | intro _ | (apply fm_bnd; first | refine fr_fX12_tell_122  _ _ | refine fr_fX12_ofKind_122_123  _ _ | refine fr_fX12_goNight_122_140  _ | exact ih _ _ _ | refine fr_fX12_ofKind_122_140  _ _ | refine fr_fJ6_bitCount_0f7a4  _ _) | (apply fm_tl; first | refine fr_fX12_tell_122  _ _ | refine fr_fX12_ofKind_122_123  _ _ | refine fr_fX12_goNight_122_140  _ | exact ih _ _ _ | refine fr_fX12_ofKind_122_140  _ _ | refine fr_fJ6_bitCount_0f7a4  _ _)
theorem fr_fX12_silent_122  (v1 : Int32) (μ : Mem) : Fm aM μ (fX12_silent_122  v1 μ) := by
  unfold fX12_silent_122
  with_reducible repeat' first | assumption | exact Fr.refl | refine fr_sI ?_ rfl | refine fr_sL ?_ rfl | refine fr_sC ?_ rfl | exact fm_none | refine fm_some ?_ | refine fm_gd ?_ | refine fm_ite ?_ ?_ | refine fm_ltm ?_ (fun _ _ => ?_) | refine fm_lt ?_ | intro _ _ _ _ _ _ _ _ _ _ | intro _ _ _ _ _ _ _ _ _ | intro _ _ _ _ _ _ _ _ | intro _ _ _ _ _ _ _ | intro _ _ _ _ _ _ | intro _ _ _ _ _ | intro _ _ _ _ | intro _ _ _ | intro _ _ | intro _ | (apply fm_bnd; first | refine fr_fX12_lay_123_140  _ _ | refine fr_fX12_silent_122_b31  _ _ _ _ | refine fr_fX12_in  _ _ _ _) | (apply fm_tl; first | refine fr_fX12_lay_123_140  _ _ | refine fr_fX12_silent_122_b31  _ _ _ _ | refine fr_fX12_in  _ _ _ _)
theorem fr_fX4_speakersIn_33_b5 {A : Nat → Bool}  : ∀ n a0 a1 a2 a3 μ, Fm A μ (fX4_speakersIn_33_b5  n a0 a1 a2 a3 μ) := by
  intro n
  induction n with
  | zero =>
    intros
    exact fm_none
  | succ n ih =>
    intro a0 a1 a2 a3 μ
    rw [fX4_speakersIn_33_b5]
    with_reducible repeat' first | assumption | exact Fr.refl | refine fr_sI ?_ rfl | refine fr_sL ?_ rfl | refine fr_sC ?_ rfl | exact fm_none | refine fm_some ?_ | refine fm_gd ?_ | refine fm_ite ?_ ?_ | refine fm_ltm ?_ (fun _ _ => ?_) | refine fm_lt ?_ | intro _ _ _ _ _ _ _ _ _ _ | intro _ _ _ _ _ _ _ _ _ | intro _ _ _ _ _ _ _ _ | intro _ _ _ _ _ _ _ | intro _ _ _ _ _ _ | intro _ _ _ _ _ | intro _ _ _ _ | intro _ _ _ | intro _ _ | intro _ | (apply fm_bnd; first | refine fr_fX4_wordIn_33  _ _ _ | exact ih _ _ _ _ _) | (apply fm_tl; first | refine fr_fX4_wordIn_33  _ _ _ | exact ih _ _ _ _ _)
theorem fr_fX4_speakersIn_33 {A : Nat → Bool}  (v1 : Int32) (v2 : Int32) (μ : Mem) : Fm A μ (fX4_speakersIn_33  v1 v2 μ) := by
  unfold fX4_speakersIn_33
  with_reducible repeat' first | assumption | exact Fr.refl | refine fr_sI ?_ rfl | refine fr_sL ?_ rfl | refine fr_sC ?_ rfl | exact fm_none | refine fm_some ?_ | refine fm_gd ?_ | refine fm_ite ?_ ?_ | refine fm_ltm ?_ (fun _ _ => ?_) | refine fm_lt ?_ | intro _ _ _ _ _ _ _ _ _ _ | intro _ _ _ _ _ _ _ _ _ | intro _ _ _ _ _ _ _ _ | intro _ _ _ _ _ _ _ | intro _ _ _ _ _ _ | intro _ _ _ _ _ | intro _ _ _ _ | intro _ _ _ | intro _ _ | intro _ | (apply fm_bnd; first | refine fr_fX4_speakersIn_33_b5  _ _ _ _ _ _) | (apply fm_tl; first | refine fr_fX4_speakersIn_33_b5  _ _ _ _ _ _)
theorem fr_fX11_proof_0_b45  (p1 : Int32) (p2 : Int32) (p3 : Int32) (q0 : Int64) (μ : Mem) : Fm aC μ (fX11_proof_0_b45  p1 p2 p3 q0 μ) := by
  unfold fX11_proof_0_b45
  with_reducible repeat' first | assumption | exact Fr.refl | refine fr_sI ?_ rfl | refine fr_sL ?_ rfl | refine fr_sC ?_ rfl | exact fm_none | refine fm_some ?_ | refine fm_gd ?_ | refine fm_ite ?_ ?_ | refine fm_ltm ?_ (fun _ _ => ?_) | refine fm_lt ?_ | intro _ _ _ _ _ _ _ _ _ _ | intro _ _ _ _ _ _ _ _ _ | intro _ _ _ _ _ _ _ _ | intro _ _ _ _ _ _ _ | intro _ _ _ _ _ _ | intro _ _ _ _ _ | intro _ _ _ _ | intro _ _ _ | intro _ _ | intro _ | (apply fm_bnd; first | refine fr_fX7_tell__3  _ _ _ | refine fr_fX4_speakersIn_33  _ _ _) | (apply fm_tl; first | refine fr_fX7_tell__3  _ _ _ | refine fr_fX4_speakersIn_33  _ _ _)
theorem fr_fX11_proof_0  (v1 : Int32) (v2 : Int32) (μ : Mem) : Fm aC μ (fX11_proof_0  v1 v2 μ) := by
  unfold fX11_proof_0
  with_reducible repeat' first | assumption | exact Fr.refl | refine fr_sI ?_ rfl | refine fr_sL ?_ rfl | refine fr_sC ?_ rfl | exact fm_none | refine fm_some ?_ | refine fm_gd ?_ | refine fm_ite ?_ ?_ | refine fm_ltm ?_ (fun _ _ => ?_) | refine fm_lt ?_ | intro _ _ _ _ _ _ _ _ _ _ | intro _ _ _ _ _ _ _ _ _ | intro _ _ _ _ _ _ _ _ | intro _ _ _ _ _ _ _ | intro _ _ _ _ _ _ | intro _ _ _ _ _ | intro _ _ _ _ | intro _ _ _ | intro _ _ | intro _ | (apply fm_bnd; first | refine fr_fX11_proof_0_b45  _ _ _ _ _ | refine fr_fX11_isThere_0  _ _ | refine fr_fX4_proofIn_33  _ _ _) | (apply fm_tl; first | refine fr_fX11_proof_0_b45  _ _ _ _ _ | refine fr_fX11_isThere_0  _ _ | refine fr_fX4_proofIn_33  _ _ _)
theorem fr_fX12_proof_122_b116  (p3 : Int32) (p4 : Int32) (q0 : Int64) (μ : Mem) : Fm aM μ (fX12_proof_122_b116  p3 p4 q0 μ) := by
  unfold fX12_proof_122_b116
  with_reducible repeat' first | assumption | exact Fr.refl | refine fr_sI ?_ rfl | refine fr_sL ?_ rfl | refine fr_sC ?_ rfl | exact fm_none | refine fm_some ?_ | refine fm_gd ?_ | refine fm_ite ?_ ?_ | refine fm_ltm ?_ (fun _ _ => ?_) | refine fm_lt ?_ | intro _ _ _ _ _ _ _ _ _ _ | intro _ _ _ _ _ _ _ _ _ | intro _ _ _ _ _ _ _ _ | intro _ _ _ _ _ _ _ | intro _ _ _ _ _ _ | intro _ _ _ _ _ | intro _ _ _ _ | intro _ _ _ | intro _ _ | intro _ | (apply fm_bnd; first | refine fr_fX12_tell_122  _ _) | (apply fm_tl; first | refine fr_fX12_tell_122  _ _)
theorem fr_fX12_proof_122_b30  : ∀ n a0 a1 a2 a3 μ, Fm aM μ (fX12_proof_122_b30  n a0 a1 a2 a3 μ) := by
  intro n
  induction n with
  | zero =>
    intros
    exact fm_none
  | succ n ih =>
    intro a0 a1 a2 a3 μ
    rw [fX12_proof_122_b30]
    with_reducible repeat' first | assumption | exact Fr.refl | refine fr_sI ?_ rfl | refine fr_sL ?_ rfl | refine fr_sC ?_ rfl | exact fm_none | refine fm_some ?_ | refine fm_gd ?_ | refine fm_ite ?_ ?_ | refine fm_ltm ?_ (fun _ _ => ?_) | refine fm_lt ?_ | intro _ _ _ _ _ _ _ _ _ _ | intro _ _ _ _ _ _ _ _ _ | intro _ _ _ _ _ _ _ _ | intro _ _ _ _ _ _ _ | intro _ _ _ _ _ _ | intro _ _ _ _ _ | intro _ _ _ _ | intro _ _ _ | intro _ _ | intro _ | (apply fm_bnd; first | refine fr_fX12_proof_122_b116  _ _ _ _ | refine fr_fX12_proofIn_122_123  _ _ _ | exact ih _ _ _ _ _) | (apply fm_tl; first | refine fr_fX12_proof_122_b116  _ _ _ _ | refine fr_fX12_proofIn_122_123  _ _ _ | exact ih _ _ _ _ _)
theorem fr_fX12_proof_122  (v1 : Int32) (v2 : Int32) (μ : Mem) : Fm aM μ (fX12_proof_122  v1 v2 μ) := by
  unfold fX12_proof_122
  with_reducible repeat' first | assumption | exact Fr.refl | refine fr_sI ?_ rfl | refine fr_sL ?_ rfl | refine fr_sC ?_ rfl | exact fm_none | refine fm_some ?_ | refine fm_gd ?_ | refine fm_ite ?_ ?_ | refine fm_ltm ?_ (fun _ _ => ?_) | refine fm_lt ?_ | intro _ _ _ _ _ _ _ _ _ _ | intro _ _ _ _ _ _ _ _ _ | intro _ _ _ _ _ _ _ _ | intro _ _ _ _ _ _ _ | intro _ _ _ _ _ _ | intro _ _ _ _ _ | intro _ _ _ _ | intro _ _ _ | intro _ _ | intro _ | (apply fm_bnd; first | refine fr_fX12_isMan_122  _ _ | refine fr_fX12_in  _ _ _ _ | refine fr_fX12_proof_122_b30  _ _ _ _ _ _) | (apply fm_tl; first | refine fr_fX12_isMan_122  _ _ | refine fr_fX12_in  _ _ _ _ | refine fr_fX12_proof_122_b30  _ _ _ _ _ _)
theorem fr_fX11_till_0_b33 {A : Nat → Bool}  : ∀ n a0 a1 a2 μ, Fm A μ (fX11_till_0_b33  n a0 a1 a2 μ) := by
  intro n
  induction n with
  | zero =>
    intros
    exact fm_none
  | succ n ih =>
    intro a0 a1 a2 μ
    rw [fX11_till_0_b33]
    with_reducible repeat' first | assumption | exact Fr.refl | refine fr_sI ?_ rfl | refine fr_sL ?_ rfl | refine fr_sC ?_ rfl | exact fm_none | refine fm_some ?_ | refine fm_gd ?_ | refine fm_ite ?_ ?_ | refine fm_ltm ?_ (fun _ _ => ?_) | refine fm_lt ?_ | intro _ _ _ _ _ _ _ _ _ _ | intro _ _ _ _ _ _ _ _ _ | intro _ _ _ _ _ _ _ _ | intro _ _ _ _ _ _ _ | intro _ _ _ _ _ _ | intro _ _ _ _ _ | intro _ _ _ _ | intro _ _ _ | intro _ _ | intro _ | (apply fm_bnd; first | exact ih _ _ _ _ | refine fr_fX4_proofIn_33  _ _ _) | (apply fm_tl; first | exact ih _ _ _ _ | refine fr_fX4_proofIn_33  _ _ _)
theorem fr_fX11_till_0 {A : Nat → Bool}  (v1 : Int32) (μ : Mem) : Fm A μ (fX11_till_0  v1 μ) := by
  unfold fX11_till_0
  with_reducible repeat' first | assumption | exact Fr.refl | refine fr_sI ?_ rfl | refine fr_sL ?_ rfl | refine fr_sC ?_ rfl | exact fm_none | refine fm_some ?_ | refine fm_gd ?_ | refine fm_ite ?_ ?_ | refine fm_ltm ?_ (fun _ _ => ?_) | refine fm_lt ?_ | intro _ _ _ _ _ _ _ _ _ _ | intro _ _ _ _ _ _ _ _ _ | intro _ _ _ _ _ _ _ _ | intro _ _ _ _ _ _ _ | intro _ _ _ _ _ _ | intro _ _ _ _ _ | intro _ _ _ _ | intro _ _ _ | intro _ _ | intro _ | (apply fm_bnd; first | refine fr_fX11_till_0_b33  _ _ _ _ _ | refine fr_fX11_isThere_0  _ _ | refine fr_fX4_proofIn_33  _ _ _) | (apply fm_tl; first | refine fr_fX11_till_0_b33  _ _ _ _ _ | refine fr_fX11_isThere_0  _ _ | refine fr_fX4_proofIn_33  _ _ _)
theorem fr_fX12_till_122_b54 {A : Nat → Bool}  : ∀ n a0 a1 μ, Fm A μ (fX12_till_122_b54  n a0 a1 μ) := by
  intro n
  induction n with
  | zero =>
    intros
    exact fm_none
  | succ n ih =>
    intro a0 a1 μ
    rw [fX12_till_122_b54]
    with_reducible repeat' first | assumption | exact Fr.refl | refine fr_sI ?_ rfl | refine fr_sL ?_ rfl | refine fr_sC ?_ rfl | exact fm_none | refine fm_some ?_ | refine fm_gd ?_ | refine fm_ite ?_ ?_ | refine fm_ltm ?_ (fun _ _ => ?_) | refine fm_lt ?_ | intro _ _ _ _ _ _ _ _ _ _ | intro _ _ _ _ _ _ _ _ _ | intro _ _ _ _ _ _ _ _ | intro _ _ _ _ _ _ _ | intro _ _ _ _ _ _ | intro _ _ _ _ _ | intro _ _ _ _ | intro _ _ _ | intro _ _ | intro _ | (apply fm_bnd; first | exact ih _ _ _ | refine fr_fX12_proofIn_122_123  _ _ _) | (apply fm_tl; first | exact ih _ _ _ | refine fr_fX12_proofIn_122_123  _ _ _)
theorem fr_fX12_till_122  (v1 : Int32) (μ : Mem) : Fm aM μ (fX12_till_122  v1 μ) := by
  unfold fX12_till_122
  with_reducible repeat' first | assumption | exact Fr.refl | refine fr_sI ?_ rfl | refine fr_sL ?_ rfl | refine fr_sC ?_ rfl | exact fm_none | refine fm_some ?_ | refine fm_gd ?_ | refine fm_ite ?_ ?_ | refine fm_ltm ?_ (fun _ _ => ?_) | refine fm_lt ?_ | intro _ _ _ _ _ _ _ _ _ _ | intro _ _ _ _ _ _ _ _ _ | intro _ _ _ _ _ _ _ _ | intro _ _ _ _ _ _ _ | intro _ _ _ _ _ _ | intro _ _ _ _ _ | intro _ _ _ _ | intro _ _ _ | intro _ _ | intro _ | (apply fm_bnd; first | refine fr_fX12_till_122_b54  _ _ _ _ | refine fr_fX12_isMan_122  _ _ | refine fr_fX12_proofIn_122_123  _ _ _) | (apply fm_tl; first | refine fr_fX12_till_122_b54  _ _ _ _ | refine fr_fX12_isMan_122  _ _ | refine fr_fX12_proofIn_122_123  _ _ _)
theorem fr_fX2_worthOf_24_b4 {A : Nat → Bool}  : ∀ n a0 a1 a2 μ, Fm A μ (fX2_worthOf_24_b4  n a0 a1 a2 μ) := by
  intro n
  induction n with
  | zero =>
    intros
    exact fm_none
  | succ n ih =>
    intro a0 a1 a2 μ
    rw [fX2_worthOf_24_b4]
    with_reducible repeat' first | assumption | exact Fr.refl | refine fr_sI ?_ rfl | refine fr_sL ?_ rfl | refine fr_sC ?_ rfl | exact fm_none | refine fm_some ?_ | refine fm_gd ?_ | refine fm_ite ?_ ?_ | refine fm_ltm ?_ (fun _ _ => ?_) | refine fm_lt ?_ | intro _ _ _ _ _ _ _ _ _ _ | intro _ _ _ _ _ _ _ _ _ | intro _ _ _ _ _ _ _ _ | intro _ _ _ _ _ _ _ | intro _ _ _ _ _ _ | intro _ _ _ _ _ | intro _ _ _ _ | intro _ _ _ | intro _ _ | intro _ | (apply fm_bnd; first | exact ih _ _ _ _) | (apply fm_tl; first | exact ih _ _ _ _)
theorem fr_fX2_worthOf_24 {A : Nat → Bool}  (v1 : Int32) (μ : Mem) : Fm A μ (fX2_worthOf_24  v1 μ) := by
  unfold fX2_worthOf_24
  with_reducible repeat' first | assumption | exact Fr.refl | refine fr_sI ?_ rfl | refine fr_sL ?_ rfl | refine fr_sC ?_ rfl | exact fm_none | refine fm_some ?_ | refine fm_gd ?_ | refine fm_ite ?_ ?_ | refine fm_ltm ?_ (fun _ _ => ?_) | refine fm_lt ?_ | intro _ _ _ _ _ _ _ _ _ _ | intro _ _ _ _ _ _ _ _ _ | intro _ _ _ _ _ _ _ _ | intro _ _ _ _ _ _ _ | intro _ _ _ _ _ _ | intro _ _ _ _ _ | intro _ _ _ _ | intro _ _ _ | intro _ _ | intro _ | (apply fm_bnd; first | refine fr_fX2_worthOf_24_b4  _ _ _ _ _) | (apply fm_tl; first | refine fr_fX2_worthOf_24_b4  _ _ _ _ _)
theorem fr_fX2_has_24_b32 {A : Nat → Bool}  (p1 : Int32) (q0 : Int32) (μ : Mem) : Fm A μ (fX2_has_24_b32  p1 q0 μ) := by
  unfold fX2_has_24_b32
  with_reducible repeat' first | assumption | exact Fr.refl | refine fr_sI ?_ rfl | refine fr_sL ?_ rfl | refine fr_sC ?_ rfl | exact fm_none | refine fm_some ?_ | refine fm_gd ?_ | refine fm_ite ?_ ?_ | refine fm_ltm ?_ (fun _ _ => ?_) | refine fm_lt ?_ | intro _ _ _ _ _ _ _ _ _ _ | intro _ _ _ _ _ _ _ _ _ | intro _ _ _ _ _ _ _ _ | intro _ _ _ _ _ _ _ | intro _ _ _ _ _ _ | intro _ _ _ _ _ | intro _ _ _ _ | intro _ _ _ | intro _ _ | intro _ | (apply fm_bnd; first | refine fr_fX2_worthOf_24  _ _) | (apply fm_tl; first | refine fr_fX2_worthOf_24  _ _)
theorem fr_fX2_has_24_b31 {A : Nat → Bool}  (p1 : Int32) (μ : Mem) : Fm A μ (fX2_has_24_b31  p1 μ) := by
  unfold fX2_has_24_b31
  with_reducible repeat' first | assumption | exact Fr.refl | refine fr_sI ?_ rfl | refine fr_sL ?_ rfl | refine fr_sC ?_ rfl | exact fm_none | refine fm_some ?_ | refine fm_gd ?_ | refine fm_ite ?_ ?_ | refine fm_ltm ?_ (fun _ _ => ?_) | refine fm_lt ?_ | intro _ _ _ _ _ _ _ _ _ _ | intro _ _ _ _ _ _ _ _ _ | intro _ _ _ _ _ _ _ _ | intro _ _ _ _ _ _ _ | intro _ _ _ _ _ _ | intro _ _ _ _ _ | intro _ _ _ _ | intro _ _ _ | intro _ _ | intro _ | (apply fm_bnd; first | refine fr_fX2_has_24_b32  _ _ _) | (apply fm_tl; first | refine fr_fX2_has_24_b32  _ _ _)
theorem fr_fX2_has_24 {A : Nat → Bool}  (v1 : Int32) (v2 : Int32) (v3 : Int32) (μ : Mem) : Fm A μ (fX2_has_24  v1 v2 v3 μ) := by
  unfold fX2_has_24
  with_reducible repeat' first | assumption | exact Fr.refl | refine fr_sI ?_ rfl | refine fr_sL ?_ rfl | refine fr_sC ?_ rfl | exact fm_none | refine fm_some ?_ | refine fm_gd ?_ | refine fm_ite ?_ ?_ | refine fm_ltm ?_ (fun _ _ => ?_) | refine fm_lt ?_ | intro _ _ _ _ _ _ _ _ _ _ | intro _ _ _ _ _ _ _ _ _ | intro _ _ _ _ _ _ _ _ | intro _ _ _ _ _ _ _ | intro _ _ _ _ _ _ | intro _ _ _ _ _ | intro _ _ _ _ | intro _ _ _ | intro _ _ | intro _ | (apply fm_bnd; first | refine fr_fX2_has_24_b31  _ _ | refine fr_fX2_has_24_b32  _ _ _) | (apply fm_tl; first | refine fr_fX2_has_24_b31  _ _ | refine fr_fX2_has_24_b32  _ _ _)
theorem fr_fX2_heAndHeir_24 {A : Nat → Bool}  (v1 : Int32) (v2 : Int32) (μ : Mem) : Fm A μ (fX2_heAndHeir_24  v1 v2 μ) := by
  unfold fX2_heAndHeir_24
  with_reducible repeat' first | assumption | exact Fr.refl | refine fr_sI ?_ rfl | refine fr_sL ?_ rfl | refine fr_sC ?_ rfl | exact fm_none | refine fm_some ?_ | refine fm_gd ?_ | refine fm_ite ?_ ?_ | refine fm_ltm ?_ (fun _ _ => ?_) | refine fm_lt ?_ | intro _ _ _ _ _ _ _ _ _ _ | intro _ _ _ _ _ _ _ _ _ | intro _ _ _ _ _ _ _ _ | intro _ _ _ _ _ _ _ | intro _ _ _ _ _ _ | intro _ _ _ _ _ | intro _ _ _ _ | intro _ _ _ | intro _ _ | intro _ | (apply fm_bnd; first | refine fr_fX2_has_24  _ _ _ _) | (apply fm_tl; first | refine fr_fX2_has_24  _ _ _ _)
theorem fr_fX11_gains_0  (v1 : Int32) (v2 : Int32) (μ : Mem) : Fm aC μ (fX11_gains_0  v1 v2 μ) := by
  unfold fX11_gains_0
  with_reducible repeat' first | assumption | exact Fr.refl | refine fr_sI ?_ rfl | refine fr_sL ?_ rfl | refine fr_sC ?_ rfl | exact fm_none | refine fm_some ?_ | refine fm_gd ?_ | refine fm_ite ?_ ?_ | refine fm_ltm ?_ (fun _ _ => ?_) | refine fm_lt ?_ | intro _ _ _ _ _ _ _ _ _ _ | intro _ _ _ _ _ _ _ _ _ | intro _ _ _ _ _ _ _ _ | intro _ _ _ _ _ _ _ | intro _ _ _ _ _ _ | intro _ _ _ _ _ | intro _ _ _ _ | intro _ _ _ | intro _ _ | intro _ | (apply fm_bnd; first | refine fr_fX4_isSilent_33  _ _ | refine fr_fX11_isThere_0  _ _ | refine fr_fX2_heAndHeir_24  _ _ _ | refine fr_fX4_verdictIn_33  _ _ _ | refine fr_fX7_tell__3  _ _ _) | (apply fm_tl; first | refine fr_fX4_isSilent_33  _ _ | refine fr_fX11_isThere_0  _ _ | refine fr_fX2_heAndHeir_24  _ _ _ | refine fr_fX4_verdictIn_33  _ _ _ | refine fr_fX7_tell__3  _ _ _)
theorem fr_fX12_whose_122 {A : Nat → Bool}  (v1 : Int32) (μ : Mem) : Fm A μ (fX12_whose_122  v1 μ) := by
  unfold fX12_whose_122
  with_reducible repeat' first | assumption | exact Fr.refl | refine fr_sI ?_ rfl | refine fr_sL ?_ rfl | refine fr_sC ?_ rfl | exact fm_none | refine fm_some ?_ | refine fm_gd ?_ | refine fm_ite ?_ ?_ | refine fm_ltm ?_ (fun _ _ => ?_) | refine fm_lt ?_ | intro _ _ _ _ _ _ _ _ _ _ | intro _ _ _ _ _ _ _ _ _ | intro _ _ _ _ _ _ _ _ | intro _ _ _ _ _ _ _ | intro _ _ _ _ _ _ | intro _ _ _ _ _ | intro _ _ _ _ | intro _ _ _ | intro _ _ | intro _
theorem fr_fX12_theirs_122 {A : Nat → Bool}  (v1 : Int32) (v2 : Int32) (μ : Mem) : Fm A μ (fX12_theirs_122  v1 v2 μ) := by
  unfold fX12_theirs_122
  with_reducible repeat' first | assumption | exact Fr.refl | refine fr_sI ?_ rfl | refine fr_sL ?_ rfl | refine fr_sC ?_ rfl | exact fm_none | refine fm_some ?_ | refine fm_gd ?_ | refine fm_ite ?_ ?_ | refine fm_ltm ?_ (fun _ _ => ?_) | refine fm_lt ?_ | intro _ _ _ _ _ _ _ _ _ _ | intro _ _ _ _ _ _ _ _ _ | intro _ _ _ _ _ _ _ _ | intro _ _ _ _ _ _ _ | intro _ _ _ _ _ _ | intro _ _ _ _ _ | intro _ _ _ _ | intro _ _ _ | intro _ _ | intro _ | (apply fm_bnd; first | refine fr_fX12_valuesOf_122  _ _ | refine fr_fX12_whose_122  _ _) | (apply fm_tl; first | refine fr_fX12_valuesOf_122  _ _ | refine fr_fX12_whose_122  _ _)
theorem fr_fX12_gains_122  (v1 : Int32) (v2 : Int32) (μ : Mem) : Fm aM μ (fX12_gains_122  v1 v2 μ) := by
  unfold fX12_gains_122
  with_reducible repeat' first | assumption | exact Fr.refl | refine fr_sI ?_ rfl | refine fr_sL ?_ rfl | refine fr_sC ?_ rfl | exact fm_none | refine fm_some ?_ | refine fm_gd ?_ | refine fm_ite ?_ ?_ | refine fm_ltm ?_ (fun _ _ => ?_) | refine fm_lt ?_ | intro _ _ _ _ _ _ _ _ _ _ | intro _ _ _ _ _ _ _ _ _ | intro _ _ _ _ _ _ _ _ | intro _ _ _ _ _ _ _ | intro _ _ _ _ _ _ | intro _ _ _ _ _ | intro _ _ _ _ | intro _ _ _ | intro _ _ | intro _ | (apply fm_bnd; first | refine fr_fX12_tell_122  _ _ | refine fr_fX12_in  _ _ _ _ | refine fr_fX12_theirs_122  _ _ _ | refine fr_fX12_isMan_122  _ _ | refine fr_fX12_ending_122  _ _ | refine fr_fX12_proofIn_122_123  _ _ _) | (apply fm_tl; first | refine fr_fX12_tell_122  _ _ | refine fr_fX12_in  _ _ _ _ | refine fr_fX12_theirs_122  _ _ _ | refine fr_fX12_isMan_122  _ _ | refine fr_fX12_ending_122  _ _ | refine fr_fX12_proofIn_122_123  _ _ _)
theorem fr_fX4_lackIn_33 {A : Nat → Bool}  (v1 : Int32) (v2 : Int32) (μ : Mem) : Fm A μ (fX4_lackIn_33  v1 v2 μ) := by
  unfold fX4_lackIn_33
  with_reducible repeat' first | assumption | exact Fr.refl | refine fr_sI ?_ rfl | refine fr_sL ?_ rfl | refine fr_sC ?_ rfl | exact fm_none | refine fm_some ?_ | refine fm_gd ?_ | refine fm_ite ?_ ?_ | refine fm_ltm ?_ (fun _ _ => ?_) | refine fm_lt ?_ | intro _ _ _ _ _ _ _ _ _ _ | intro _ _ _ _ _ _ _ _ _ | intro _ _ _ _ _ _ _ _ | intro _ _ _ _ _ _ _ | intro _ _ _ _ _ _ | intro _ _ _ _ _ | intro _ _ _ _ | intro _ _ _ | intro _ _ | intro _ | (apply fm_bnd; first | refine fr_fX4_proofIn_33  _ _ _) | (apply fm_tl; first | refine fr_fX4_proofIn_33  _ _ _)
theorem fr_fX11_lacks_0_b36  : ∀ n a0 a1 a2 a3 μ, Fm aC μ (fX11_lacks_0_b36  n a0 a1 a2 a3 μ) := by
  intro n
  induction n with
  | zero =>
    intros
    exact fm_none
  | succ n ih =>
    intro a0 a1 a2 a3 μ
    rw [fX11_lacks_0_b36]
    with_reducible repeat' first | assumption | exact Fr.refl | refine fr_sI ?_ rfl | refine fr_sL ?_ rfl | refine fr_sC ?_ rfl | exact fm_none | refine fm_some ?_ | refine fm_gd ?_ | refine fm_ite ?_ ?_ | refine fm_ltm ?_ (fun _ _ => ?_) | refine fm_lt ?_ | intro _ _ _ _ _ _ _ _ _ _ | intro _ _ _ _ _ _ _ _ _ | intro _ _ _ _ _ _ _ _ | intro _ _ _ _ _ _ _ | intro _ _ _ _ _ _ | intro _ _ _ _ _ | intro _ _ _ _ | intro _ _ _ | intro _ _ | intro _ | (apply fm_bnd; first | refine fr_fX7_tell_3  _ _ | refine fr_fX4_lackIn_33  _ _ _ | exact ih _ _ _ _ _) | (apply fm_tl; first | refine fr_fX7_tell_3  _ _ | refine fr_fX4_lackIn_33  _ _ _ | exact ih _ _ _ _ _)
theorem fr_fX11_lacks_0  (v1 : Int32) (v2 : Int32) (μ : Mem) : Fm aC μ (fX11_lacks_0  v1 v2 μ) := by
  unfold fX11_lacks_0
  with_reducible repeat' first | assumption | exact Fr.refl | refine fr_sI ?_ rfl | refine fr_sL ?_ rfl | refine fr_sC ?_ rfl | exact fm_none | refine fm_some ?_ | refine fm_gd ?_ | refine fm_ite ?_ ?_ | refine fm_ltm ?_ (fun _ _ => ?_) | refine fm_lt ?_ | intro _ _ _ _ _ _ _ _ _ _ | intro _ _ _ _ _ _ _ _ _ | intro _ _ _ _ _ _ _ _ | intro _ _ _ _ _ _ _ | intro _ _ _ _ _ _ | intro _ _ _ _ _ | intro _ _ _ _ | intro _ _ _ | intro _ _ | intro _ | (apply fm_bnd; first | refine fr_fX11_lacks_0_b36  _ _ _ _ _ _ | refine fr_fX11_isThere_0  _ _ | refine fr_fX4_lackIn_33  _ _ _) | (apply fm_tl; first | refine fr_fX11_lacks_0_b36  _ _ _ _ _ _ | refine fr_fX11_isThere_0  _ _ | refine fr_fX4_lackIn_33  _ _ _)
theorem fr_fX12_lackOf_122 {A : Nat → Bool}  (v1 : Int32) (v2 : Int32) (μ : Mem) : Fm A μ (fX12_lackOf_122  v1 v2 μ) := by
  unfold fX12_lackOf_122
  with_reducible repeat' first | assumption | exact Fr.refl | refine fr_sI ?_ rfl | refine fr_sL ?_ rfl | refine fr_sC ?_ rfl | exact fm_none | refine fm_some ?_ | refine fm_gd ?_ | refine fm_ite ?_ ?_ | refine fm_ltm ?_ (fun _ _ => ?_) | refine fm_lt ?_ | intro _ _ _ _ _ _ _ _ _ _ | intro _ _ _ _ _ _ _ _ _ | intro _ _ _ _ _ _ _ _ | intro _ _ _ _ _ _ _ | intro _ _ _ _ _ _ | intro _ _ _ _ _ | intro _ _ _ _ | intro _ _ _ | intro _ _ | intro _ | (apply fm_bnd; first | refine fr_fX12_proofIn_122_123  _ _ _) | (apply fm_tl; first | refine fr_fX12_proofIn_122_123  _ _ _)
theorem fr_fX12_lacks_122_b30  : ∀ n a0 a1 a2 a3 μ, Fm aM μ (fX12_lacks_122_b30  n a0 a1 a2 a3 μ) := by
  intro n
  induction n with
  | zero =>
    intros
    exact fm_none
  | succ n ih =>
    intro a0 a1 a2 a3 μ
    rw [fX12_lacks_122_b30]
    with_reducible repeat' first | assumption | exact Fr.refl | refine fr_sI ?_ rfl | refine fr_sL ?_ rfl | refine fr_sC ?_ rfl | exact fm_none | refine fm_some ?_ | refine fm_gd ?_ | refine fm_ite ?_ ?_ | refine fm_ltm ?_ (fun _ _ => ?_) | refine fm_lt ?_ | intro _ _ _ _ _ _ _ _ _ _ | intro _ _ _ _ _ _ _ _ _ | intro _ _ _ _ _ _ _ _ | intro _ _ _ _ _ _ _ | intro _ _ _ _ _ _ | intro _ _ _ _ _ | intro _ _ _ _ | intro _ _ _ | intro _ _ | intro _ | (apply fm_bnd; first | exact ih _ _ _ _ _ | refine fr_fX12_tell_122  _ _ | refine fr_fX12_lackOf_122  _ _ _) | (apply fm_tl; first | exact ih _ _ _ _ _ | refine fr_fX12_tell_122  _ _ | refine fr_fX12_lackOf_122  _ _ _)
theorem fr_fX12_lacks_122  (v1 : Int32) (v2 : Int32) (μ : Mem) : Fm aM μ (fX12_lacks_122  v1 v2 μ) := by
  unfold fX12_lacks_122
  with_reducible repeat' first | assumption | exact Fr.refl | refine fr_sI ?_ rfl | refine fr_sL ?_ rfl | refine fr_sC ?_ rfl | exact fm_none | refine fm_some ?_ | refine fm_gd ?_ | refine fm_ite ?_ ?_ | refine fm_ltm ?_ (fun _ _ => ?_) | refine fm_lt ?_ | intro _ _ _ _ _ _ _ _ _ _ | intro _ _ _ _ _ _ _ _ _ | intro _ _ _ _ _ _ _ _ | intro _ _ _ _ _ _ _ | intro _ _ _ _ _ _ | intro _ _ _ _ _ | intro _ _ _ _ | intro _ _ _ | intro _ _ | intro _ | (apply fm_bnd; first | refine fr_fX12_isMan_122  _ _ | refine fr_fX12_lacks_122_b30  _ _ _ _ _ _ | refine fr_fX12_in  _ _ _ _) | (apply fm_tl; first | refine fr_fX12_isMan_122  _ _ | refine fr_fX12_lacks_122_b30  _ _ _ _ _ _ | refine fr_fX12_in  _ _ _ _)
theorem fr_fX11_daysLeft_0 {A : Nat → Bool}   (μ : Mem) : Fm A μ (fX11_daysLeft_0   μ) := by
  unfold fX11_daysLeft_0
  with_reducible repeat' first | assumption | exact Fr.refl | refine fr_sI ?_ rfl | refine fr_sL ?_ rfl | refine fr_sC ?_ rfl | exact fm_none | refine fm_some ?_ | refine fm_gd ?_ | refine fm_ite ?_ ?_ | refine fm_ltm ?_ (fun _ _ => ?_) | refine fm_lt ?_ | intro _ _ _ _ _ _ _ _ _ _ | intro _ _ _ _ _ _ _ _ _ | intro _ _ _ _ _ _ _ _ | intro _ _ _ _ _ _ _ | intro _ _ _ _ _ _ | intro _ _ _ _ _ | intro _ _ _ _ | intro _ _ _ | intro _ _ | intro _
theorem fr_fX7_tell___3  (v1 : Int64) (v3 : Int64) (v5 : Int64) (μ : Mem) : Fm aC μ (fX7_tell___3  v1 v3 v5 μ) := by
  unfold fX7_tell___3
  with_reducible repeat' first | assumption | exact Fr.refl | refine fr_sI ?_ rfl | refine fr_sL ?_ rfl | refine fr_sC ?_ rfl | exact fm_none | refine fm_some ?_ | refine fm_gd ?_ | refine fm_ite ?_ ?_ | refine fm_ltm ?_ (fun _ _ => ?_) | refine fm_lt ?_ | intro _ _ _ _ _ _ _ _ _ _ | intro _ _ _ _ _ _ _ _ _ | intro _ _ _ _ _ _ _ _ | intro _ _ _ _ _ _ _ | intro _ _ _ _ _ _ | intro _ _ _ _ _ | intro _ _ _ _ | intro _ _ _ | intro _ _ | intro _ | (apply fm_bnd; first | refine fr_fX7_tell__3  _ _ _ | refine fr_fX7_add_3  _ _) | (apply fm_tl; first | refine fr_fX7_tell__3  _ _ _ | refine fr_fX7_add_3  _ _)
theorem fr_fX11_best_0_b85  (p1 : Int32) (p2 : Int32) (p3 : Int32) (μ : Mem) : Fm aC μ (fX11_best_0_b85  p1 p2 p3 μ) := by
  unfold fX11_best_0_b85
  with_reducible repeat' first | assumption | exact Fr.refl | refine fr_sI ?_ rfl | refine fr_sL ?_ rfl | refine fr_sC ?_ rfl | exact fm_none | refine fm_some ?_ | refine fm_gd ?_ | refine fm_ite ?_ ?_ | refine fm_ltm ?_ (fun _ _ => ?_) | refine fm_lt ?_ | intro _ _ _ _ _ _ _ _ _ _ | intro _ _ _ _ _ _ _ _ _ | intro _ _ _ _ _ _ _ _ | intro _ _ _ _ _ _ _ | intro _ _ _ _ _ _ | intro _ _ _ _ _ | intro _ _ _ _ | intro _ _ _ | intro _ _ | intro _ | (apply fm_bnd; first | refine fr_fX2_heAndHeir_24  _ _ _ | refine fr_fX7_tell___3  _ _ _ _) | (apply fm_tl; first | refine fr_fX2_heAndHeir_24  _ _ _ | refine fr_fX7_tell___3  _ _ _ _)
theorem fr_fX11_best_0_b31  : ∀ n a0 a1 a2 a3 μ, Fm aC μ (fX11_best_0_b31  n a0 a1 a2 a3 μ) := by
  intro n
  induction n with
  | zero =>
    intros
    exact fm_none
  | succ n ih =>
    intro a0 a1 a2 a3 μ
    rw [fX11_best_0_b31]
    with_reducible repeat' first | assumption | exact Fr.refl | refine fr_sI ?_ rfl | refine fr_sL ?_ rfl | refine fr_sC ?_ rfl | exact fm_none | refine fm_some ?_ | refine fm_gd ?_ | refine fm_ite ?_ ?_ | refine fm_ltm ?_ (fun _ _ => ?_) | refine fm_lt ?_ | intro _ _ _ _ _ _ _ _ _ _ | intro _ _ _ _ _ _ _ _ _ | intro _ _ _ _ _ _ _ _ | intro _ _ _ _ _ _ _ | intro _ _ _ _ _ _ | intro _ _ _ _ _ | intro _ _ _ _ | intro _ _ _ | intro _ _ | intro _ | (apply fm_bnd; first | refine fr_fX11_best_0_b85  _ _ _ _ | refine fr_fX2_heAndHeir_24  _ _ _ | refine fr_fX4_verdictIn_33  _ _ _ | refine fr_fX11_daysLeft_0  _ | exact ih _ _ _ _ _) | (apply fm_tl; first | refine fr_fX11_best_0_b85  _ _ _ _ | refine fr_fX2_heAndHeir_24  _ _ _ | refine fr_fX4_verdictIn_33  _ _ _ | refine fr_fX11_daysLeft_0  _ | exact ih _ _ _ _ _)
theorem fr_fX11_best_0  (v1 : Int32) (μ : Mem) : Fm aC μ (fX11_best_0  v1 μ) := by
  unfold fX11_best_0
  with_reducible repeat' first | assumption | exact Fr.refl | refine fr_sI ?_ rfl | refine fr_sL ?_ rfl | refine fr_sC ?_ rfl | exact fm_none | refine fm_some ?_ | refine fm_gd ?_ | refine fm_ite ?_ ?_ | refine fm_ltm ?_ (fun _ _ => ?_) | refine fm_lt ?_ | intro _ _ _ _ _ _ _ _ _ _ | intro _ _ _ _ _ _ _ _ _ | intro _ _ _ _ _ _ _ _ | intro _ _ _ _ _ _ _ | intro _ _ _ _ _ _ | intro _ _ _ _ _ | intro _ _ _ _ | intro _ _ _ | intro _ _ | intro _ | (apply fm_bnd; first | refine fr_fX4_isSilent_33  _ _ | refine fr_fX11_isThere_0  _ _ | refine fr_fX11_best_0_b31  _ _ _ _ _ _) | (apply fm_tl; first | refine fr_fX4_isSilent_33  _ _ | refine fr_fX11_isThere_0  _ _ | refine fr_fX11_best_0_b31  _ _ _ _ _ _)
theorem fr_fX12_isAhead_122 {A : Nat → Bool}  (v1 : Int32) (μ : Mem) : Fm A μ (fX12_isAhead_122  v1 μ) := by
  unfold fX12_isAhead_122
  with_reducible repeat' first | assumption | exact Fr.refl | refine fr_sI ?_ rfl | refine fr_sL ?_ rfl | refine fr_sC ?_ rfl | exact fm_none | refine fm_some ?_ | refine fm_gd ?_ | refine fm_ite ?_ ?_ | refine fm_ltm ?_ (fun _ _ => ?_) | refine fm_lt ?_ | intro _ _ _ _ _ _ _ _ _ _ | intro _ _ _ _ _ _ _ _ _ | intro _ _ _ _ _ _ _ _ | intro _ _ _ _ _ _ _ | intro _ _ _ _ _ _ | intro _ _ _ _ _ | intro _ _ _ _ | intro _ _ _ | intro _ _ | intro _
theorem fr_fX12_best_122_b34  : ∀ n a0 a1 a2 a3 μ, Fm aM μ (fX12_best_122_b34  n a0 a1 a2 a3 μ) := by
  intro n
  induction n with
  | zero =>
    intros
    exact fm_none
  | succ n ih =>
    intro a0 a1 a2 a3 μ
    rw [fX12_best_122_b34]
    with_reducible repeat' first | assumption | exact Fr.refl | refine fr_sI ?_ rfl | refine fr_sL ?_ rfl | refine fr_sC ?_ rfl | exact fm_none | refine fm_some ?_ | refine fm_gd ?_ | refine fm_ite ?_ ?_ | refine fm_ltm ?_ (fun _ _ => ?_) | refine fm_lt ?_ | intro _ _ _ _ _ _ _ _ _ _ | intro _ _ _ _ _ _ _ _ _ | intro _ _ _ _ _ _ _ _ | intro _ _ _ _ _ _ _ | intro _ _ _ _ _ _ | intro _ _ _ _ _ | intro _ _ _ _ | intro _ _ _ | intro _ _ | intro _ | (apply fm_bnd; first | refine fr_fX12_tell_122  _ _ | refine fr_fX12_isAhead_122  _ _ | refine fr_fX12_theirs_122  _ _ _ | refine fr_fX12_ending_122  _ _ | refine fr_fX12_proofIn_122_123  _ _ _ | exact ih _ _ _ _ _) | (apply fm_tl; first | refine fr_fX12_tell_122  _ _ | refine fr_fX12_isAhead_122  _ _ | refine fr_fX12_theirs_122  _ _ _ | refine fr_fX12_ending_122  _ _ | refine fr_fX12_proofIn_122_123  _ _ _ | exact ih _ _ _ _ _)
theorem fr_fX12_best_122  (v1 : Int32) (μ : Mem) : Fm aM μ (fX12_best_122  v1 μ) := by
  unfold fX12_best_122
  with_reducible repeat' first | assumption | exact Fr.refl | refine fr_sI ?_ rfl | refine fr_sL ?_ rfl | refine fr_sC ?_ rfl | exact fm_none | refine fm_some ?_ | refine fm_gd ?_ | refine fm_ite ?_ ?_ | refine fm_ltm ?_ (fun _ _ => ?_) | refine fm_lt ?_ | intro _ _ _ _ _ _ _ _ _ _ | intro _ _ _ _ _ _ _ _ _ | intro _ _ _ _ _ _ _ _ | intro _ _ _ _ _ _ _ | intro _ _ _ _ _ _ | intro _ _ _ _ _ | intro _ _ _ _ | intro _ _ _ | intro _ _ | intro _ | (apply fm_bnd; first | refine fr_fX12_isMan_122  _ _ | refine fr_fX12_best_122_b34  _ _ _ _ _ _) | (apply fm_tl; first | refine fr_fX12_isMan_122  _ _ | refine fr_fX12_best_122_b34  _ _ _ _ _ _)
theorem fr_fX10_gainOf_31 {A : Nat → Bool}  (v1 : Int32) (v2 : Int32) (μ : Mem) : Fm A μ (fX10_gainOf_31  v1 v2 μ) := by
  unfold fX10_gainOf_31
  with_reducible repeat' first | assumption | exact Fr.refl | refine fr_sI ?_ rfl | refine fr_sL ?_ rfl | refine fr_sC ?_ rfl | exact fm_none | refine fm_some ?_ | refine fm_gd ?_ | refine fm_ite ?_ ?_ | refine fm_ltm ?_ (fun _ _ => ?_) | refine fm_lt ?_ | intro _ _ _ _ _ _ _ _ _ _ | intro _ _ _ _ _ _ _ _ _ | intro _ _ _ _ _ _ _ _ | intro _ _ _ _ _ _ _ | intro _ _ _ _ _ _ | intro _ _ _ _ _ | intro _ _ _ _ | intro _ _ _ | intro _ _ | intro _ | (apply fm_bnd; first | refine fr_fX2_has_24  _ _ _ _) | (apply fm_tl; first | refine fr_fX2_has_24  _ _ _ _)
theorem fr_fX10_isPleaded_31 {A : Nat → Bool}  (v1 : Int32) (μ : Mem) : Fm A μ (fX10_isPleaded_31  v1 μ) := by
  unfold fX10_isPleaded_31
  with_reducible repeat' first | assumption | exact Fr.refl | refine fr_sI ?_ rfl | refine fr_sL ?_ rfl | refine fr_sC ?_ rfl | exact fm_none | refine fm_some ?_ | refine fm_gd ?_ | refine fm_ite ?_ ?_ | refine fm_ltm ?_ (fun _ _ => ?_) | refine fm_lt ?_ | intro _ _ _ _ _ _ _ _ _ _ | intro _ _ _ _ _ _ _ _ _ | intro _ _ _ _ _ _ _ _ | intro _ _ _ _ _ _ _ | intro _ _ _ _ _ _ | intro _ _ _ _ _ | intro _ _ _ _ | intro _ _ _ | intro _ _ | intro _
theorem fr_fX10_goOn_31_b137 {rc : Int32 → Int32 → Int32 → Mem → Option (Unit × Mem)} (hrc : ∀ x0 x1 x2 m, Fm aC m (rc x0 x1 x2 m)) {k66 : Int32 → Int32 → Int32 → Int32 → Mem → Option (Unit × Mem)} (hk66 : ∀ x0 x1 x2 x3 m, Fm aC m (k66 x0 x1 x2 x3 m)) (p1 : Int32) (p2 : Int32) (p3 : Int32) (p4 : Int32) (p6 : Int32) (μ : Mem) : Fm aC μ (fX10_goOn_31_b137 rc k66 p1 p2 p3 p4 p6 μ) := by
  unfold fX10_goOn_31_b137
  with_reducible repeat' first | assumption | exact Fr.refl | refine fr_sI ?_ rfl | refine fr_sL ?_ rfl | refine fr_sC ?_ rfl | exact fm_none | refine fm_some ?_ | refine fm_gd ?_ | refine fm_ite ?_ ?_ | refine fm_ltm ?_ (fun _ _ => ?_) | refine fm_lt ?_ | intro _ _ _ _ _ _ _ _ _ _ | intro _ _ _ _ _ _ _ _ _ | intro _ _ _ _ _ _ _ _ | intro _ _ _ _ _ _ _ | intro _ _ _ _ _ _ | intro _ _ _ _ _ | intro _ _ _ _ | intro _ _ _ | intro _ _ | intro _ | (apply fm_bnd; first | refine fr_fX10_gainOf_31  _ _ _ | exact hrc _ _ _ _ | exact hk66 _ _ _ _ _) | (apply fm_tl; first | refine fr_fX10_gainOf_31  _ _ _ | exact hrc _ _ _ _ | exact hk66 _ _ _ _ _)
theorem fr_fX10_goOn_31_b117 {rc : Int32 → Int32 → Int32 → Mem → Option (Unit × Mem)} (hrc : ∀ x0 x1 x2 m, Fm aC m (rc x0 x1 x2 m)) {k66 : Int32 → Int32 → Int32 → Int32 → Mem → Option (Unit × Mem)} (hk66 : ∀ x0 x1 x2 x3 m, Fm aC m (k66 x0 x1 x2 x3 m)) (p1 : Int32) (p2 : Int32) (p3 : Int32) (p4 : Int32) (p5 : Int32) (q0 : Int32) (μ : Mem) : Fm aC μ (fX10_goOn_31_b117 rc k66 p1 p2 p3 p4 p5 q0 μ) := by
  unfold fX10_goOn_31_b117
  with_reducible repeat' first | assumption | exact Fr.refl | refine fr_sI ?_ rfl | refine fr_sL ?_ rfl | refine fr_sC ?_ rfl | exact fm_none | refine fm_some ?_ | refine fm_gd ?_ | refine fm_ite ?_ ?_ | refine fm_ltm ?_ (fun _ _ => ?_) | refine fm_lt ?_ | intro _ _ _ _ _ _ _ _ _ _ | intro _ _ _ _ _ _ _ _ _ | intro _ _ _ _ _ _ _ _ | intro _ _ _ _ _ _ _ | intro _ _ _ _ _ _ | intro _ _ _ _ _ | intro _ _ _ _ | intro _ _ _ | intro _ _ | intro _ | (apply fm_bnd; first | refine fr_fX10_goOn_31_b137 ?_ ?_ _ _ _ _ _ _ | exact hrc _ _ _ _ | exact hk66 _ _ _ _ _) | (apply fm_tl; first | refine fr_fX10_goOn_31_b137 ?_ ?_ _ _ _ _ _ _ | exact hrc _ _ _ _ | exact hk66 _ _ _ _ _)
theorem fr_fX10_goOn_31_b96 {rc : Int32 → Int32 → Int32 → Mem → Option (Unit × Mem)} (hrc : ∀ x0 x1 x2 m, Fm aC m (rc x0 x1 x2 m)) {k66 : Int32 → Int32 → Int32 → Int32 → Mem → Option (Unit × Mem)} (hk66 : ∀ x0 x1 x2 x3 m, Fm aC m (k66 x0 x1 x2 x3 m)) (p1 : Int32) (p2 : Int32) (p3 : Int32) (p4 : Int32) (q0 : Int32) (μ : Mem) : Fm aC μ (fX10_goOn_31_b96 rc k66 p1 p2 p3 p4 q0 μ) := by
  unfold fX10_goOn_31_b96
  with_reducible repeat' first | assumption | exact Fr.refl | refine fr_sI ?_ rfl | refine fr_sL ?_ rfl | refine fr_sC ?_ rfl | exact fm_none | refine fm_some ?_ | refine fm_gd ?_ | refine fm_ite ?_ ?_ | refine fm_ltm ?_ (fun _ _ => ?_) | refine fm_lt ?_ | intro _ _ _ _ _ _ _ _ _ _ | intro _ _ _ _ _ _ _ _ _ | intro _ _ _ _ _ _ _ _ | intro _ _ _ _ _ _ _ | intro _ _ _ _ _ _ | intro _ _ _ _ _ | intro _ _ _ _ | intro _ _ _ | intro _ _ | intro _ | (apply fm_bnd; first | refine fr_fX4_verdictIn_33  _ _ _ | refine fr_fX10_goOn_31_b117 ?_ ?_ _ _ _ _ _ _ _ | exact hrc _ _ _ _ | exact hk66 _ _ _ _ _) | (apply fm_tl; first | refine fr_fX4_verdictIn_33  _ _ _ | refine fr_fX10_goOn_31_b117 ?_ ?_ _ _ _ _ _ _ _ | exact hrc _ _ _ _ | exact hk66 _ _ _ _ _)
theorem fr_fX10_goOn_31_b95 {rc : Int32 → Int32 → Int32 → Mem → Option (Unit × Mem)} (hrc : ∀ x0 x1 x2 m, Fm aC m (rc x0 x1 x2 m)) {k66 : Int32 → Int32 → Int32 → Int32 → Mem → Option (Unit × Mem)} (hk66 : ∀ x0 x1 x2 x3 m, Fm aC m (k66 x0 x1 x2 x3 m)) (p1 : Int32) (p2 : Int32) (p3 : Int32) (p4 : Int32) (μ : Mem) : Fm aC μ (fX10_goOn_31_b95 rc k66 p1 p2 p3 p4 μ) := by
  unfold fX10_goOn_31_b95
  with_reducible repeat' first | assumption | exact Fr.refl | refine fr_sI ?_ rfl | refine fr_sL ?_ rfl | refine fr_sC ?_ rfl | exact fm_none | refine fm_some ?_ | refine fm_gd ?_ | refine fm_ite ?_ ?_ | refine fm_ltm ?_ (fun _ _ => ?_) | refine fm_lt ?_ | intro _ _ _ _ _ _ _ _ _ _ | intro _ _ _ _ _ _ _ _ _ | intro _ _ _ _ _ _ _ _ | intro _ _ _ _ _ _ _ | intro _ _ _ _ _ _ | intro _ _ _ _ _ | intro _ _ _ _ | intro _ _ _ | intro _ _ | intro _ | (apply fm_bnd; first | refine fr_fX10_goOn_31_b96 ?_ ?_ _ _ _ _ _ _ | exact hrc _ _ _ _ | exact hk66 _ _ _ _ _) | (apply fm_tl; first | refine fr_fX10_goOn_31_b96 ?_ ?_ _ _ _ _ _ _ | exact hrc _ _ _ _ | exact hk66 _ _ _ _ _)
theorem fr_fX10_goOn_31_b66 {rc : Int32 → Int32 → Int32 → Mem → Option (Unit × Mem)} (hrc : ∀ x0 x1 x2 m, Fm aC m (rc x0 x1 x2 m)) : ∀ n a0 a1 a2 a3 μ, Fm aC μ (fX10_goOn_31_b66 rc n a0 a1 a2 a3 μ) := by
  intro n
  induction n with
  | zero =>
    intros
    exact fm_none
  | succ n ih =>
    intro a0 a1 a2 a3 μ
    rw [fX10_goOn_31_b66]
    with_reducible repeat' first | assumption | exact Fr.refl | refine fr_sI ?_ rfl | refine fr_sL ?_ rfl | refine fr_sC ?_ rfl | exact fm_none | refine fm_some ?_ | refine fm_gd ?_ | refine fm_ite ?_ ?_ | refine fm_ltm ?_ (fun _ _ => ?_) | refine fm_lt ?_ | intro _ _ _ _ _ _ _ _ _ _ | intro _ _ _ _ _ _ _ _ _ | intro _ _ _ _ _ _ _ _ | intro _ _ _ _ _ _ _ | intro _ _ _ _ _ _ | intro _ _ _ _ _ | intro _ _ _ _ | intro _ _ _ | intro _ _ | intro _ | (apply fm_bnd; first | exact ih _ _ _ _ _ | refine fr_fX10_goOn_31_b95 ?_ ?_ _ _ _ _ _ | refine fr_fX10_isPleaded_31  _ _ | refine fr_fX10_goOn_31_b96 ?_ ?_ _ _ _ _ _ _ | exact hrc _ _ _ _) | (apply fm_tl; first | exact ih _ _ _ _ _ | refine fr_fX10_goOn_31_b95 ?_ ?_ _ _ _ _ _ | refine fr_fX10_isPleaded_31  _ _ | refine fr_fX10_goOn_31_b96 ?_ ?_ _ _ _ _ _ _ | exact hrc _ _ _ _)
theorem fr_fX10_goOn_31_b48 {rc : Int32 → Int32 → Int32 → Mem → Option (Unit × Mem)} (hrc : ∀ x0 x1 x2 m, Fm aC m (rc x0 x1 x2 m)) (p1 : Int32) (p2 : Int32) (p3 : Int32) (μ : Mem) : Fm aC μ (fX10_goOn_31_b48 rc p1 p2 p3 μ) := by
  unfold fX10_goOn_31_b48
  with_reducible repeat' first | assumption | exact Fr.refl | refine fr_sI ?_ rfl | refine fr_sL ?_ rfl | refine fr_sC ?_ rfl | exact fm_none | refine fm_some ?_ | refine fm_gd ?_ | refine fm_ite ?_ ?_ | refine fm_ltm ?_ (fun _ _ => ?_) | refine fm_lt ?_ | intro _ _ _ _ _ _ _ _ _ _ | intro _ _ _ _ _ _ _ _ _ | intro _ _ _ _ _ _ _ _ | intro _ _ _ _ _ _ _ | intro _ _ _ _ _ _ | intro _ _ _ _ _ | intro _ _ _ _ | intro _ _ _ | intro _ _ | intro _ | (apply fm_bnd; first | refine fr_fX10_goOn_31_b66 ?_ _ _ _ _ _ _ | exact hrc _ _ _ _) | (apply fm_tl; first | refine fr_fX10_goOn_31_b66 ?_ _ _ _ _ _ _ | exact hrc _ _ _ _)
theorem fr_fX10_goOn_31_b24 {rc : Int32 → Int32 → Int32 → Mem → Option (Unit × Mem)} (hrc : ∀ x0 x1 x2 m, Fm aC m (rc x0 x1 x2 m)) (p1 : Int32) (p2 : Int32) (p3 : Int32) (μ : Mem) : Fm aC μ (fX10_goOn_31_b24 rc p1 p2 p3 μ) := by
  unfold fX10_goOn_31_b24
  with_reducible repeat' first | assumption | exact Fr.refl | refine fr_sI ?_ rfl | refine fr_sL ?_ rfl | refine fr_sC ?_ rfl | exact fm_none | refine fm_some ?_ | refine fm_gd ?_ | refine fm_ite ?_ ?_ | refine fm_ltm ?_ (fun _ _ => ?_) | refine fm_lt ?_ | intro _ _ _ _ _ _ _ _ _ _ | intro _ _ _ _ _ _ _ _ _ | intro _ _ _ _ _ _ _ _ | intro _ _ _ _ _ _ _ | intro _ _ _ _ _ _ | intro _ _ _ _ _ | intro _ _ _ _ | intro _ _ _ | intro _ _ | intro _ | (apply fm_bnd; first | refine fr_fX10_goOn_31_b48 ?_ _ _ _ _ | exact hrc _ _ _ _) | (apply fm_tl; first | refine fr_fX10_goOn_31_b48 ?_ _ _ _ _ | exact hrc _ _ _ _)
theorem fr_fX10_goOn_31_r {rc : Int32 → Int32 → Int32 → Mem → Option (Unit × Mem)} (hrc : ∀ x0 x1 x2 m, Fm aC m (rc x0 x1 x2 m)) (v1 : Int32) (v2 : Int32) (v3 : Int32) (μ : Mem) : Fm aC μ (fX10_goOn_31_r rc v1 v2 v3 μ) := by
  unfold fX10_goOn_31_r
  with_reducible repeat' first | assumption | exact Fr.refl | refine fr_sI ?_ rfl | refine fr_sL ?_ rfl | refine fr_sC ?_ rfl | exact fm_none | refine fm_some ?_ | refine fm_gd ?_ | refine fm_ite ?_ ?_ | refine fm_ltm ?_ (fun _ _ => ?_) | refine fm_lt ?_ | intro _ _ _ _ _ _ _ _ _ _ | intro _ _ _ _ _ _ _ _ _ | intro _ _ _ _ _ _ _ _ | intro _ _ _ _ _ _ _ | intro _ _ _ _ _ _ | intro _ _ _ _ _ | intro _ _ _ _ | intro _ _ _ | intro _ _ | intro _ | (apply fm_bnd; first | refine fr_fX10_goOn_31_b24 ?_ _ _ _ _ | refine fr_fX10_goOn_31_b48 ?_ _ _ _ _ | exact hrc _ _ _ _) | (apply fm_tl; first | refine fr_fX10_goOn_31_b24 ?_ _ _ _ _ | refine fr_fX10_goOn_31_b48 ?_ _ _ _ _ | exact hrc _ _ _ _)
theorem fr_fX10_goOn_31  : ∀ n a0 a1 a2 μ, Fm aC μ (fX10_goOn_31  n a0 a1 a2 μ) := by
  intro n
  induction n with
  | zero =>
    intros
    exact fm_none
  | succ n ih =>
    intro a0 a1 a2 μ
    rw [fX10_goOn_31]
    with_reducible repeat' first | assumption | exact Fr.refl | refine fr_sI ?_ rfl | refine fr_sL ?_ rfl | refine fr_sC ?_ rfl | exact fm_none | refine fm_some ?_ | refine fm_gd ?_ | refine fm_ite ?_ ?_ | refine fm_ltm ?_ (fun _ _ => ?_) | refine fm_lt ?_ | intro _ _ _ _ _ _ _ _ _ _ | intro _ _ _ _ _ _ _ _ _ | intro _ _ _ _ _ _ _ _ | intro _ _ _ _ _ _ _ | intro _ _ _ _ _ _ | intro _ _ _ _ _ | intro _ _ _ _ | intro _ _ _ | intro _ _ | intro _ | (apply fm_bnd; first | exact ih _ _ _ _ | refine fr_fX10_goOn_31_r ?_ _ _ _ _) | (apply fm_tl; first | exact ih _ _ _ _ | refine fr_fX10_goOn_31_r ?_ _ _ _ _)
theorem fr_fX10_find_31  (v1 : Int32) (v2 : Int32) (μ : Mem) : Fm aC μ (fX10_find_31  v1 v2 μ) := by
  unfold fX10_find_31
  with_reducible repeat' first | assumption | exact Fr.refl | refine fr_sI ?_ rfl | refine fr_sL ?_ rfl | refine fr_sC ?_ rfl | exact fm_none | refine fm_some ?_ | refine fm_gd ?_ | refine fm_ite ?_ ?_ | refine fm_ltm ?_ (fun _ _ => ?_) | refine fm_lt ?_ | intro _ _ _ _ _ _ _ _ _ _ | intro _ _ _ _ _ _ _ _ _ | intro _ _ _ _ _ _ _ _ | intro _ _ _ _ _ _ _ | intro _ _ _ _ _ _ | intro _ _ _ _ _ | intro _ _ _ _ | intro _ _ _ | intro _ _ | intro _ | (apply fm_bnd; first | refine fr_fX10_goOn_31  _ _ _ _ _) | (apply fm_tl; first | refine fr_fX10_goOn_31  _ _ _ _ _)
theorem fr_fX10_findMostConvicted_31  (v1 : Int32) (μ : Mem) : Fm aC μ (fX10_findMostConvicted_31  v1 μ) := by
  unfold fX10_findMostConvicted_31
  with_reducible repeat' first | assumption | exact Fr.refl | refine fr_sI ?_ rfl | refine fr_sL ?_ rfl | refine fr_sC ?_ rfl | exact fm_none | refine fm_some ?_ | refine fm_gd ?_ | refine fm_ite ?_ ?_ | refine fm_ltm ?_ (fun _ _ => ?_) | refine fm_lt ?_ | intro _ _ _ _ _ _ _ _ _ _ | intro _ _ _ _ _ _ _ _ _ | intro _ _ _ _ _ _ _ _ | intro _ _ _ _ _ _ _ | intro _ _ _ _ _ _ | intro _ _ _ _ _ | intro _ _ _ _ | intro _ _ _ | intro _ _ | intro _ | (apply fm_bnd; first | refine fr_fX10_find_31  _ _ _) | (apply fm_tl; first | refine fr_fX10_find_31  _ _ _)
theorem fr_fX11_tellTurns_0_b9  : ∀ n a0 μ, Fm aC μ (fX11_tellTurns_0_b9  n a0 μ) := by
  intro n
  induction n with
  | zero =>
    intros
    exact fm_none
  | succ n ih =>
    intro a0 μ
    rw [fX11_tellTurns_0_b9]
    with_reducible repeat' first | assumption | exact Fr.refl | refine fr_sI ?_ rfl | refine fr_sL ?_ rfl | refine fr_sC ?_ rfl | exact fm_none | refine fm_some ?_ | refine fm_gd ?_ | refine fm_ite ?_ ?_ | refine fm_ltm ?_ (fun _ _ => ?_) | refine fm_lt ?_ | intro _ _ _ _ _ _ _ _ _ _ | intro _ _ _ _ _ _ _ _ _ | intro _ _ _ _ _ _ _ _ | intro _ _ _ _ _ _ _ | intro _ _ _ _ _ _ | intro _ _ _ _ _ | intro _ _ _ _ | intro _ _ _ | intro _ _ | intro _ | (apply fm_bnd; first | exact ih _ _ | refine fr_fX7_add_3  _ _) | (apply fm_tl; first | exact ih _ _ | refine fr_fX7_add_3  _ _)
theorem fr_fX11_tellTurns_0   (μ : Mem) : Fm aC μ (fX11_tellTurns_0   μ) := by
  unfold fX11_tellTurns_0
  with_reducible repeat' first | assumption | exact Fr.refl | refine fr_sI ?_ rfl | refine fr_sL ?_ rfl | refine fr_sC ?_ rfl | exact fm_none | refine fm_some ?_ | refine fm_gd ?_ | refine fm_ite ?_ ?_ | refine fm_ltm ?_ (fun _ _ => ?_) | refine fm_lt ?_ | intro _ _ _ _ _ _ _ _ _ _ | intro _ _ _ _ _ _ _ _ _ | intro _ _ _ _ _ _ _ _ | intro _ _ _ _ _ _ _ | intro _ _ _ _ _ _ | intro _ _ _ _ _ | intro _ _ _ _ | intro _ _ _ | intro _ _ | intro _ | (apply fm_bnd; first | refine fr_fX7_clear_3  _ | refine fr_fX11_tellTurns_0_b9  _ _ _) | (apply fm_tl; first | refine fr_fX7_clear_3  _ | refine fr_fX11_tellTurns_0_b9  _ _ _)
theorem fr_fX11_trials_0   (μ : Mem) : Fm aC μ (fX11_trials_0   μ) := by
  unfold fX11_trials_0
  with_reducible repeat' first | assumption | exact Fr.refl | refine fr_sI ?_ rfl | refine fr_sL ?_ rfl | refine fr_sC ?_ rfl | exact fm_none | refine fm_some ?_ | refine fm_gd ?_ | refine fm_ite ?_ ?_ | refine fm_ltm ?_ (fun _ _ => ?_) | refine fm_lt ?_ | intro _ _ _ _ _ _ _ _ _ _ | intro _ _ _ _ _ _ _ _ _ | intro _ _ _ _ _ _ _ _ | intro _ _ _ _ _ _ _ | intro _ _ _ _ _ _ | intro _ _ _ _ _ | intro _ _ _ _ | intro _ _ _ | intro _ _ | intro _ | (apply fm_bnd; first | refine fr_fX11_daysLeft_0  _ | refine fr_fX11_tellTurns_0  _ | refine fr_fX10_findMostConvicted_31  _ _) | (apply fm_tl; first | refine fr_fX11_daysLeft_0  _ | refine fr_fX11_tellTurns_0  _ | refine fr_fX10_findMostConvicted_31  _ _)
theorem fr_fX12_keepLine_122_b7  : ∀ n a0 a1 μ, Fm aM μ (fX12_keepLine_122_b7  n a0 a1 μ) := by
  intro n
  induction n with
  | zero =>
    intros
    exact fm_none
  | succ n ih =>
    intro a0 a1 μ
    rw [fX12_keepLine_122_b7]
    with_reducible repeat' first | assumption | exact Fr.refl | refine fr_sI ?_ rfl | refine fr_sL ?_ rfl | refine fr_sC ?_ rfl | exact fm_none | refine fm_some ?_ | refine fm_gd ?_ | refine fm_ite ?_ ?_ | refine fm_ltm ?_ (fun _ _ => ?_) | refine fm_lt ?_ | intro _ _ _ _ _ _ _ _ _ _ | intro _ _ _ _ _ _ _ _ _ | intro _ _ _ _ _ _ _ _ | intro _ _ _ _ _ _ _ | intro _ _ _ _ _ _ | intro _ _ _ _ _ | intro _ _ _ _ | intro _ _ _ | intro _ _ | intro _ | (apply fm_bnd; first | exact ih _ _ _) | (apply fm_tl; first | exact ih _ _ _)
theorem fr_fX12_keepLine_122  (v1 : Int32) (μ : Mem) : Fm aM μ (fX12_keepLine_122  v1 μ) := by
  unfold fX12_keepLine_122
  with_reducible repeat' first | assumption | exact Fr.refl | refine fr_sI ?_ rfl | refine fr_sL ?_ rfl | refine fr_sC ?_ rfl | exact fm_none | refine fm_some ?_ | refine fm_gd ?_ | refine fm_ite ?_ ?_ | refine fm_ltm ?_ (fun _ _ => ?_) | refine fm_lt ?_ | intro _ _ _ _ _ _ _ _ _ _ | intro _ _ _ _ _ _ _ _ _ | intro _ _ _ _ _ _ _ _ | intro _ _ _ _ _ _ _ | intro _ _ _ _ _ _ | intro _ _ _ _ _ | intro _ _ _ _ | intro _ _ _ | intro _ _ | intro _ | (apply fm_bnd; first | refine fr_fX12_keepLine_122_b7  _ _ _ _) | (apply fm_tl; first | refine fr_fX12_keepLine_122_b7  _ _ _ _)
theorem fr_fX12_goTrials_122_b15 {rc : Int32 → Int32 → Mem → Option (Unit × Mem)} (hrc : ∀ x0 x1 m, Fm aM m (rc x0 x1 m)) : ∀ n a0 a1 a2 μ, Fm aM μ (fX12_goTrials_122_b15 rc n a0 a1 a2 μ) := by
  intro n
  induction n with
  | zero =>
    intros
    exact fm_none
  | succ n ih =>
    intro a0 a1 a2 μ
    rw [fX12_goTrials_122_b15]
    with_reducible repeat' first | assumption | exact Fr.refl | refine fr_sI ?_ rfl | refine fr_sL ?_ rfl | refine fr_sC ?_ rfl | exact fm_none | refine fm_some ?_ | refine fm_gd ?_ | refine fm_ite ?_ ?_ | refine fm_ltm ?_ (fun _ _ => ?_) | refine fm_lt ?_ | intro _ _ _ _ _ _ _ _ _ _ | intro _ _ _ _ _ _ _ _ _ | intro _ _ _ _ _ _ _ _ | intro _ _ _ _ _ _ _ | intro _ _ _ _ _ _ | intro _ _ _ _ _ | intro _ _ _ _ | intro _ _ _ | intro _ _ | intro _ | (apply fm_bnd; first | refine fr_fX12_isAhead_122  _ _ | refine fr_fX12_has  _ _ _ | refine fr_fX12_proofIn_122_123  _ _ _ | exact ih _ _ _ _ | exact hrc _ _ _) | (apply fm_tl; first | refine fr_fX12_isAhead_122  _ _ | refine fr_fX12_has  _ _ _ | refine fr_fX12_proofIn_122_123  _ _ _ | exact ih _ _ _ _ | exact hrc _ _ _)
theorem fr_fX12_goTrials_122_r {rc : Int32 → Int32 → Mem → Option (Unit × Mem)} (hrc : ∀ x0 x1 m, Fm aM m (rc x0 x1 m)) (v1 : Int32) (v2 : Int32) (μ : Mem) : Fm aM μ (fX12_goTrials_122_r rc v1 v2 μ) := by
  unfold fX12_goTrials_122_r
  with_reducible repeat' first | assumption | exact Fr.refl | refine fr_sI ?_ rfl | refine fr_sL ?_ rfl | refine fr_sC ?_ rfl | exact fm_none | refine fm_some ?_ | refine fm_gd ?_ | refine fm_ite ?_ ?_ | refine fm_ltm ?_ (fun _ _ => ?_) | refine fm_lt ?_ | intro _ _ _ _ _ _ _ _ _ _ | intro _ _ _ _ _ _ _ _ _ | intro _ _ _ _ _ _ _ _ | intro _ _ _ _ _ _ _ | intro _ _ _ _ _ _ | intro _ _ _ _ _ | intro _ _ _ _ | intro _ _ _ | intro _ _ | intro _ | (apply fm_bnd; first | refine fr_fX12_keepLine_122  _ _ | refine fr_fX12_goTrials_122_b15 ?_ _ _ _ _ _ | exact hrc _ _ _) | (apply fm_tl; first | refine fr_fX12_keepLine_122  _ _ | refine fr_fX12_goTrials_122_b15 ?_ _ _ _ _ _ | exact hrc _ _ _)
theorem fr_fX12_goTrials_122  : ∀ n a0 a1 μ, Fm aM μ (fX12_goTrials_122  n a0 a1 μ) := by
  intro n
  induction n with
  | zero =>
    intros
    exact fm_none
  | succ n ih =>
    intro a0 a1 μ
    rw [fX12_goTrials_122]
    with_reducible repeat' first | assumption | exact Fr.refl | refine fr_sI ?_ rfl | refine fr_sL ?_ rfl | refine fr_sC ?_ rfl | exact fm_none | refine fm_some ?_ | refine fm_gd ?_ | refine fm_ite ?_ ?_ | refine fm_ltm ?_ (fun _ _ => ?_) | refine fm_lt ?_ | intro _ _ _ _ _ _ _ _ _ _ | intro _ _ _ _ _ _ _ _ _ | intro _ _ _ _ _ _ _ _ | intro _ _ _ _ _ _ _ | intro _ _ _ _ _ _ | intro _ _ _ _ _ | intro _ _ _ _ | intro _ _ _ | intro _ _ | intro _ | (apply fm_bnd; first | refine fr_fX12_goTrials_122_r ?_ _ _ _ | exact ih _ _ _) | (apply fm_tl; first | refine fr_fX12_goTrials_122_r ?_ _ _ _ | exact ih _ _ _)
theorem fr_fX12_tellLine_122_b7  : ∀ n a0 μ, Fm aM μ (fX12_tellLine_122_b7  n a0 μ) := by
  intro n
  induction n with
  | zero =>
    intros
    exact fm_none
  | succ n ih =>
    intro a0 μ
    rw [fX12_tellLine_122_b7]
    with_reducible repeat' first | assumption | exact Fr.refl | refine fr_sI ?_ rfl | refine fr_sL ?_ rfl | refine fr_sC ?_ rfl | exact fm_none | refine fm_some ?_ | refine fm_gd ?_ | refine fm_ite ?_ ?_ | refine fm_ltm ?_ (fun _ _ => ?_) | refine fm_lt ?_ | intro _ _ _ _ _ _ _ _ _ _ | intro _ _ _ _ _ _ _ _ _ | intro _ _ _ _ _ _ _ _ | intro _ _ _ _ _ _ _ | intro _ _ _ _ _ _ | intro _ _ _ _ _ | intro _ _ _ _ | intro _ _ _ | intro _ _ | intro _ | (apply fm_bnd; first | exact ih _ _ | refine fr_fX12_tell_122  _ _) | (apply fm_tl; first | exact ih _ _ | refine fr_fX12_tell_122  _ _)
theorem fr_fX12_tellLine_122   (μ : Mem) : Fm aM μ (fX12_tellLine_122   μ) := by
  unfold fX12_tellLine_122
  with_reducible repeat' first | assumption | exact Fr.refl | refine fr_sI ?_ rfl | refine fr_sL ?_ rfl | refine fr_sC ?_ rfl | exact fm_none | refine fm_some ?_ | refine fm_gd ?_ | refine fm_ite ?_ ?_ | refine fm_ltm ?_ (fun _ _ => ?_) | refine fm_lt ?_ | intro _ _ _ _ _ _ _ _ _ _ | intro _ _ _ _ _ _ _ _ _ | intro _ _ _ _ _ _ _ _ | intro _ _ _ _ _ _ _ | intro _ _ _ _ _ _ | intro _ _ _ _ _ | intro _ _ _ _ | intro _ _ _ | intro _ _ | intro _ | (apply fm_bnd; first | refine fr_fX12_tellLine_122_b7  _ _ _) | (apply fm_tl; first | refine fr_fX12_tellLine_122_b7  _ _ _)
theorem fr_fX12_trials_122   (μ : Mem) : Fm aM μ (fX12_trials_122   μ) := by
  unfold fX12_trials_122
  with_reducible repeat' first | assumption | exact Fr.refl | refine fr_sI ?_ rfl | refine fr_sL ?_ rfl | refine fr_sC ?_ rfl | exact fm_none | refine fm_some ?_ | refine fm_gd ?_ | refine fm_ite ?_ ?_ | refine fm_ltm ?_ (fun _ _ => ?_) | refine fm_lt ?_ | intro _ _ _ _ _ _ _ _ _ _ | intro _ _ _ _ _ _ _ _ _ | intro _ _ _ _ _ _ _ _ | intro _ _ _ _ _ _ _ | intro _ _ _ _ _ _ | intro _ _ _ _ _ | intro _ _ _ _ | intro _ _ _ | intro _ _ | intro _ | (apply fm_bnd; first | refine fr_fX12_tellLine_122  _ | refine fr_fX12_goTrials_122  _ _ _ _ | refine fr_fX12_ofKind_122_123  _ _) | (apply fm_tl; first | refine fr_fX12_tellLine_122  _ | refine fr_fX12_goTrials_122  _ _ _ _ | refine fr_fX12_ofKind_122_123  _ _)
theorem fr_fX10_findMostForKing_31_b9  : ∀ n a0 a1 a2 μ, Fm aC μ (fX10_findMostForKing_31_b9  n a0 a1 a2 μ) := by
  intro n
  induction n with
  | zero =>
    intros
    exact fm_none
  | succ n ih =>
    intro a0 a1 a2 μ
    rw [fX10_findMostForKing_31_b9]
    with_reducible repeat' first | assumption | exact Fr.refl | refine fr_sI ?_ rfl | refine fr_sL ?_ rfl | refine fr_sC ?_ rfl | exact fm_none | refine fm_some ?_ | refine fm_gd ?_ | refine fm_ite ?_ ?_ | refine fm_ltm ?_ (fun _ _ => ?_) | refine fm_lt ?_ | intro _ _ _ _ _ _ _ _ _ _ | intro _ _ _ _ _ _ _ _ _ | intro _ _ _ _ _ _ _ _ | intro _ _ _ _ _ _ _ | intro _ _ _ _ _ _ | intro _ _ _ _ _ | intro _ _ _ _ | intro _ _ _ | intro _ _ | intro _ | (apply fm_bnd; first | refine fr_fX10_find_31  _ _ _ | refine fr_fX2_has_24  _ _ _ _ | exact ih _ _ _ _ | refine fr_fX10_isPleaded_31  _ _) | (apply fm_tl; first | refine fr_fX10_find_31  _ _ _ | refine fr_fX2_has_24  _ _ _ _ | exact ih _ _ _ _ | refine fr_fX10_isPleaded_31  _ _)
theorem fr_fX10_findMostForKing_31  (v1 : Int32) (μ : Mem) : Fm aC μ (fX10_findMostForKing_31  v1 μ) := by
  unfold fX10_findMostForKing_31
  with_reducible repeat' first | assumption | exact Fr.refl | refine fr_sI ?_ rfl | refine fr_sL ?_ rfl | refine fr_sC ?_ rfl | exact fm_none | refine fm_some ?_ | refine fm_gd ?_ | refine fm_ite ?_ ?_ | refine fm_ltm ?_ (fun _ _ => ?_) | refine fm_lt ?_ | intro _ _ _ _ _ _ _ _ _ _ | intro _ _ _ _ _ _ _ _ _ | intro _ _ _ _ _ _ _ _ | intro _ _ _ _ _ _ _ | intro _ _ _ _ _ _ | intro _ _ _ _ _ | intro _ _ _ _ | intro _ _ _ | intro _ _ | intro _ | (apply fm_bnd; first | refine fr_fX10_findMostForKing_31_b9  _ _ _ _ _) | (apply fm_tl; first | refine fr_fX10_findMostForKing_31_b9  _ _ _ _ _)
theorem fr_fX11_docket_0   (μ : Mem) : Fm aC μ (fX11_docket_0   μ) := by
  unfold fX11_docket_0
  with_reducible repeat' first | assumption | exact Fr.refl | refine fr_sI ?_ rfl | refine fr_sL ?_ rfl | refine fr_sC ?_ rfl | exact fm_none | refine fm_some ?_ | refine fm_gd ?_ | refine fm_ite ?_ ?_ | refine fm_ltm ?_ (fun _ _ => ?_) | refine fm_lt ?_ | intro _ _ _ _ _ _ _ _ _ _ | intro _ _ _ _ _ _ _ _ _ | intro _ _ _ _ _ _ _ _ | intro _ _ _ _ _ _ _ | intro _ _ _ _ _ _ | intro _ _ _ _ _ | intro _ _ _ _ | intro _ _ _ | intro _ _ | intro _ | (apply fm_bnd; first | refine fr_fX11_daysLeft_0  _ | refine fr_fX11_tellTurns_0  _ | refine fr_fX10_findMostForKing_31  _ _) | (apply fm_tl; first | refine fr_fX11_daysLeft_0  _ | refine fr_fX11_tellTurns_0  _ | refine fr_fX10_findMostForKing_31  _ _)
theorem fr_fX12_kingsBy_122 {A : Nat → Bool}  (v1 : Int32) (v2 : Int32) (μ : Mem) : Fm A μ (fX12_kingsBy_122  v1 v2 μ) := by
  unfold fX12_kingsBy_122
  with_reducible repeat' first | assumption | exact Fr.refl | refine fr_sI ?_ rfl | refine fr_sL ?_ rfl | refine fr_sC ?_ rfl | exact fm_none | refine fm_some ?_ | refine fm_gd ?_ | refine fm_ite ?_ ?_ | refine fm_ltm ?_ (fun _ _ => ?_) | refine fm_lt ?_ | intro _ _ _ _ _ _ _ _ _ _ | intro _ _ _ _ _ _ _ _ _ | intro _ _ _ _ _ _ _ _ | intro _ _ _ _ _ _ _ | intro _ _ _ _ _ _ | intro _ _ _ _ _ | intro _ _ _ _ | intro _ _ _ | intro _ _ | intro _ | (apply fm_bnd; first | refine fr_fX12_valuesOf_122  _ _ | refine fr_fX12_whose_122  _ _) | (apply fm_tl; first | refine fr_fX12_valuesOf_122  _ _ | refine fr_fX12_whose_122  _ _)
theorem fr_fX12_kingsOf_122_b4 {A : Nat → Bool}  : ∀ n a0 a1 a2 μ, Fm A μ (fX12_kingsOf_122_b4  n a0 a1 a2 μ) := by
  intro n
  induction n with
  | zero =>
    intros
    exact fm_none
  | succ n ih =>
    intro a0 a1 a2 μ
    rw [fX12_kingsOf_122_b4]
    with_reducible repeat' first | assumption | exact Fr.refl | refine fr_sI ?_ rfl | refine fr_sL ?_ rfl | refine fr_sC ?_ rfl | exact fm_none | refine fm_some ?_ | refine fm_gd ?_ | refine fm_ite ?_ ?_ | refine fm_ltm ?_ (fun _ _ => ?_) | refine fm_lt ?_ | intro _ _ _ _ _ _ _ _ _ _ | intro _ _ _ _ _ _ _ _ _ | intro _ _ _ _ _ _ _ _ | intro _ _ _ _ _ _ _ | intro _ _ _ _ _ _ | intro _ _ _ _ _ | intro _ _ _ _ | intro _ _ _ | intro _ _ | intro _ | (apply fm_bnd; first | refine fr_fX12_kingsBy_122  _ _ _ | refine fr_fX12_has  _ _ _ | exact ih _ _ _ _) | (apply fm_tl; first | refine fr_fX12_kingsBy_122  _ _ _ | refine fr_fX12_has  _ _ _ | exact ih _ _ _ _)
theorem fr_fX12_kingsOf_122 {A : Nat → Bool}  (v1 : Int32) (μ : Mem) : Fm A μ (fX12_kingsOf_122  v1 μ) := by
  unfold fX12_kingsOf_122
  with_reducible repeat' first | assumption | exact Fr.refl | refine fr_sI ?_ rfl | refine fr_sL ?_ rfl | refine fr_sC ?_ rfl | exact fm_none | refine fm_some ?_ | refine fm_gd ?_ | refine fm_ite ?_ ?_ | refine fm_ltm ?_ (fun _ _ => ?_) | refine fm_lt ?_ | intro _ _ _ _ _ _ _ _ _ _ | intro _ _ _ _ _ _ _ _ _ | intro _ _ _ _ _ _ _ _ | intro _ _ _ _ _ _ _ | intro _ _ _ _ _ _ | intro _ _ _ _ _ | intro _ _ _ _ | intro _ _ _ | intro _ _ | intro _ | (apply fm_bnd; first | refine fr_fX12_kingsOf_122_b4  _ _ _ _ _) | (apply fm_tl; first | refine fr_fX12_kingsOf_122_b4  _ _ _ _ _)
theorem fr_fX12_goDocket_122_b49 {rc : Int32 → Int32 → Int32 → Mem → Option (Unit × Mem)} (hrc : ∀ x0 x1 x2 m, Fm aM m (rc x0 x1 x2 m)) : ∀ n a0 a1 a2 a3 μ, Fm aM μ (fX12_goDocket_122_b49 rc n a0 a1 a2 a3 μ) := by
  intro n
  induction n with
  | zero =>
    intros
    exact fm_none
  | succ n ih =>
    intro a0 a1 a2 a3 μ
    rw [fX12_goDocket_122_b49]
    with_reducible repeat' first | assumption | exact Fr.refl | refine fr_sI ?_ rfl | refine fr_sL ?_ rfl | refine fr_sC ?_ rfl | exact fm_none | refine fm_some ?_ | refine fm_gd ?_ | refine fm_ite ?_ ?_ | refine fm_ltm ?_ (fun _ _ => ?_) | refine fm_lt ?_ | intro _ _ _ _ _ _ _ _ _ _ | intro _ _ _ _ _ _ _ _ _ | intro _ _ _ _ _ _ _ _ | intro _ _ _ _ _ _ _ | intro _ _ _ _ _ _ | intro _ _ _ _ _ | intro _ _ _ _ | intro _ _ _ | intro _ _ | intro _ | (apply fm_bnd; first | exact ih _ _ _ _ _ | refine fr_fX12_isAhead_122  _ _ | refine fr_fX12_has  _ _ _ | refine fr_fX12_ending_122  _ _ | refine fr_fX12_proofIn_122_123  _ _ _ | refine fr_fX12_kingsBy_122  _ _ _ | exact hrc _ _ _ _) | (apply fm_tl; first | exact ih _ _ _ _ _ | refine fr_fX12_isAhead_122  _ _ | refine fr_fX12_has  _ _ _ | refine fr_fX12_ending_122  _ _ | refine fr_fX12_proofIn_122_123  _ _ _ | refine fr_fX12_kingsBy_122  _ _ _ | exact hrc _ _ _ _)
theorem fr_fX12_goDocket_122_b35 {rc : Int32 → Int32 → Int32 → Mem → Option (Unit × Mem)} (hrc : ∀ x0 x1 x2 m, Fm aM m (rc x0 x1 x2 m)) (p1 : Int32) (p2 : Int32) (p3 : Int32) (p4 : Int32) (μ : Mem) : Fm aM μ (fX12_goDocket_122_b35 rc p1 p2 p3 p4 μ) := by
  unfold fX12_goDocket_122_b35
  with_reducible repeat' first | assumption | exact Fr.refl | refine fr_sI ?_ rfl | refine fr_sL ?_ rfl | refine fr_sC ?_ rfl | exact fm_none | refine fm_some ?_ | refine fm_gd ?_ | refine fm_ite ?_ ?_ | refine fm_ltm ?_ (fun _ _ => ?_) | refine fm_lt ?_ | intro _ _ _ _ _ _ _ _ _ _ | intro _ _ _ _ _ _ _ _ _ | intro _ _ _ _ _ _ _ _ | intro _ _ _ _ _ _ _ | intro _ _ _ _ _ _ | intro _ _ _ _ _ | intro _ _ _ _ | intro _ _ _ | intro _ _ | intro _ | (apply fm_bnd; first | refine fr_fX12_goDocket_122_b49 ?_ _ _ _ _ _ _ | refine fr_fX12_keepLine_122  _ _ | exact hrc _ _ _ _) | (apply fm_tl; first | refine fr_fX12_goDocket_122_b49 ?_ _ _ _ _ _ _ | refine fr_fX12_keepLine_122  _ _ | exact hrc _ _ _ _)
theorem fr_fX12_goDocket_122_r {rc : Int32 → Int32 → Int32 → Mem → Option (Unit × Mem)} (hrc : ∀ x0 x1 x2 m, Fm aM m (rc x0 x1 x2 m)) (v1 : Int32) (v2 : Int32) (v3 : Int32) (μ : Mem) : Fm aM μ (fX12_goDocket_122_r rc v1 v2 v3 μ) := by
  unfold fX12_goDocket_122_r
  with_reducible repeat' first | assumption | exact Fr.refl | refine fr_sI ?_ rfl | refine fr_sL ?_ rfl | refine fr_sC ?_ rfl | exact fm_none | refine fm_some ?_ | refine fm_gd ?_ | refine fm_ite ?_ ?_ | refine fm_ltm ?_ (fun _ _ => ?_) | refine fm_lt ?_ | intro _ _ _ _ _ _ _ _ _ _ | intro _ _ _ _ _ _ _ _ _ | intro _ _ _ _ _ _ _ _ | intro _ _ _ _ _ _ _ | intro _ _ _ _ _ _ | intro _ _ _ _ _ | intro _ _ _ _ | intro _ _ _ | intro _ _ | intro _ | (apply fm_bnd; first | refine fr_fX12_goDocket_122_b49 ?_ _ _ _ _ _ _ | refine fr_fX12_kingsOf_122  _ _ | refine fr_fX12_goDocket_122_b35 ?_ _ _ _ _ _ | exact hrc _ _ _ _) | (apply fm_tl; first | refine fr_fX12_goDocket_122_b49 ?_ _ _ _ _ _ _ | refine fr_fX12_kingsOf_122  _ _ | refine fr_fX12_goDocket_122_b35 ?_ _ _ _ _ _ | exact hrc _ _ _ _)
theorem fr_fX12_goDocket_122  : ∀ n a0 a1 a2 μ, Fm aM μ (fX12_goDocket_122  n a0 a1 a2 μ) := by
  intro n
  induction n with
  | zero =>
    intros
    exact fm_none
  | succ n ih =>
    intro a0 a1 a2 μ
    rw [fX12_goDocket_122]
    with_reducible repeat' first | assumption | exact Fr.refl | refine fr_sI ?_ rfl | refine fr_sL ?_ rfl | refine fr_sC ?_ rfl | exact fm_none | refine fm_some ?_ | refine fm_gd ?_ | refine fm_ite ?_ ?_ | refine fm_ltm ?_ (fun _ _ => ?_) | refine fm_lt ?_ | intro _ _ _ _ _ _ _ _ _ _ | intro _ _ _ _ _ _ _ _ _ | intro _ _ _ _ _ _ _ _ | intro _ _ _ _ _ _ _ | intro _ _ _ _ _ _ | intro _ _ _ _ _ | intro _ _ _ _ | intro _ _ _ | intro _ _ | intro _ | (apply fm_bnd; first | exact ih _ _ _ _ | refine fr_fX12_goDocket_122_r ?_ _ _ _ _) | (apply fm_tl; first | exact ih _ _ _ _ | refine fr_fX12_goDocket_122_r ?_ _ _ _ _)
theorem fr_fX12_docket_122   (μ : Mem) : Fm aM μ (fX12_docket_122   μ) := by
  unfold fX12_docket_122
  with_reducible repeat' first | assumption | exact Fr.refl | refine fr_sI ?_ rfl | refine fr_sL ?_ rfl | refine fr_sC ?_ rfl | exact fm_none | refine fm_some ?_ | refine fm_gd ?_ | refine fm_ite ?_ ?_ | refine fm_ltm ?_ (fun _ _ => ?_) | refine fm_lt ?_ | intro _ _ _ _ _ _ _ _ _ _ | intro _ _ _ _ _ _ _ _ _ | intro _ _ _ _ _ _ _ _ | intro _ _ _ _ _ _ _ | intro _ _ _ _ _ _ | intro _ _ _ _ _ | intro _ _ _ _ | intro _ _ _ | intro _ _ | intro _ | (apply fm_bnd; first | refine fr_fX12_goDocket_122  _ _ _ _ _ | refine fr_fX12_tellLine_122  _ | refine fr_fX12_ofKind_122_123  _ _) | (apply fm_tl; first | refine fr_fX12_goDocket_122  _ _ _ _ _ | refine fr_fX12_tellLine_122  _ | refine fr_fX12_ofKind_122_123  _ _)
theorem fr_fX11_fallsTo_0_25_b55 {k6 : Int32 → Int32 → Int32 → Int32 → Mem → Option (Int32 × Mem)} (hk6 : ∀ x0 x1 x2 x3 m, Fm aC m (k6 x0 x1 x2 x3 m)) (p2 : Int32) (p3 : Int32) (p4 : Int32) (p5 : Int32) (p6 : Int32) (q0 : Int32) (μ : Mem) : Fm aC μ (fX11_fallsTo_0_25_b55 k6 p2 p3 p4 p5 p6 q0 μ) := by
  unfold fX11_fallsTo_0_25_b55
  with_reducible repeat' first | assumption | exact Fr.refl | refine fr_sI ?_ rfl | refine fr_sL ?_ rfl | refine fr_sC ?_ rfl | exact fm_none | refine fm_some ?_ | refine fm_gd ?_ | refine fm_ite ?_ ?_ | refine fm_ltm ?_ (fun _ _ => ?_) | refine fm_lt ?_ | intro _ _ _ _ _ _ _ _ _ _ | intro _ _ _ _ _ _ _ _ _ | intro _ _ _ _ _ _ _ _ | intro _ _ _ _ _ _ _ | intro _ _ _ _ _ _ | intro _ _ _ _ _ | intro _ _ _ _ | intro _ _ _ | intro _ _ | intro _ | (apply fm_bnd; first | refine fr_fX2_worthOf_24  _ _ | exact hk6 _ _ _ _ _) | (apply fm_tl; first | refine fr_fX2_worthOf_24  _ _ | exact hk6 _ _ _ _ _)
theorem fr_fX11_fallsTo_0_25_b6  : ∀ n a0 a1 a2 a3 μ, Fm aC μ (fX11_fallsTo_0_25_b6  n a0 a1 a2 a3 μ) := by
  intro n
  induction n with
  | zero =>
    intros
    exact fm_none
  | succ n ih =>
    intro a0 a1 a2 a3 μ
    rw [fX11_fallsTo_0_25_b6]
    with_reducible repeat' first | assumption | exact Fr.refl | refine fr_sI ?_ rfl | refine fr_sL ?_ rfl | refine fr_sC ?_ rfl | exact fm_none | refine fm_some ?_ | refine fm_gd ?_ | refine fm_ite ?_ ?_ | refine fm_ltm ?_ (fun _ _ => ?_) | refine fm_lt ?_ | intro _ _ _ _ _ _ _ _ _ _ | intro _ _ _ _ _ _ _ _ _ | intro _ _ _ _ _ _ _ _ | intro _ _ _ _ _ _ _ | intro _ _ _ _ _ _ | intro _ _ _ _ _ | intro _ _ _ _ | intro _ _ _ | intro _ _ | intro _ | (apply fm_bnd; first | refine fr_fX11_fallsTo_0_25_b55 ?_ _ _ _ _ _ _ _ | exact ih _ _ _ _ _) | (apply fm_tl; first | refine fr_fX11_fallsTo_0_25_b55 ?_ _ _ _ _ _ _ _ | exact ih _ _ _ _ _)
theorem fr_fX11_fallsTo_0_25  (v2 : Int32) (v3 : Int32) (μ : Mem) : Fm aC μ (fX11_fallsTo_0_25  v2 v3 μ) := by
  unfold fX11_fallsTo_0_25
  with_reducible repeat' first | assumption | exact Fr.refl | refine fr_sI ?_ rfl | refine fr_sL ?_ rfl | refine fr_sC ?_ rfl | exact fm_none | refine fm_some ?_ | refine fm_gd ?_ | refine fm_ite ?_ ?_ | refine fm_ltm ?_ (fun _ _ => ?_) | refine fm_lt ?_ | intro _ _ _ _ _ _ _ _ _ _ | intro _ _ _ _ _ _ _ _ _ | intro _ _ _ _ _ _ _ _ | intro _ _ _ _ _ _ _ | intro _ _ _ _ _ _ | intro _ _ _ _ _ | intro _ _ _ _ | intro _ _ _ | intro _ _ | intro _ | (apply fm_bnd; first | refine fr_fX11_fallsTo_0_25_b6  _ _ _ _ _ _) | (apply fm_tl; first | refine fr_fX11_fallsTo_0_25_b6  _ _ _ _ _ _)
theorem fr_fX11_parts_0_b9  : ∀ n a0 μ, Fm aC μ (fX11_parts_0_b9  n a0 μ) := by
  intro n
  induction n with
  | zero =>
    intros
    exact fm_none
  | succ n ih =>
    intro a0 μ
    rw [fX11_parts_0_b9]
    with_reducible repeat' first | assumption | exact Fr.refl | refine fr_sI ?_ rfl | refine fr_sL ?_ rfl | refine fr_sC ?_ rfl | exact fm_none | refine fm_some ?_ | refine fm_gd ?_ | refine fm_ite ?_ ?_ | refine fm_ltm ?_ (fun _ _ => ?_) | refine fm_lt ?_ | intro _ _ _ _ _ _ _ _ _ _ | intro _ _ _ _ _ _ _ _ _ | intro _ _ _ _ _ _ _ _ | intro _ _ _ _ _ _ _ | intro _ _ _ _ _ _ | intro _ _ _ _ _ | intro _ _ _ _ | intro _ _ _ | intro _ _ | intro _ | (apply fm_bnd; first | exact ih _ _ | refine fr_fX11_fallsTo_0_25  _ _ _ | refine fr_fX7_add_3  _ _) | (apply fm_tl; first | exact ih _ _ | refine fr_fX11_fallsTo_0_25  _ _ _ | refine fr_fX7_add_3  _ _)
theorem fr_fX11_parts_0   (μ : Mem) : Fm aC μ (fX11_parts_0   μ) := by
  unfold fX11_parts_0
  with_reducible repeat' first | assumption | exact Fr.refl | refine fr_sI ?_ rfl | refine fr_sL ?_ rfl | refine fr_sC ?_ rfl | exact fm_none | refine fm_some ?_ | refine fm_gd ?_ | refine fm_ite ?_ ?_ | refine fm_ltm ?_ (fun _ _ => ?_) | refine fm_lt ?_ | intro _ _ _ _ _ _ _ _ _ _ | intro _ _ _ _ _ _ _ _ _ | intro _ _ _ _ _ _ _ _ | intro _ _ _ _ _ _ _ | intro _ _ _ _ _ _ | intro _ _ _ _ _ | intro _ _ _ _ | intro _ _ _ | intro _ _ | intro _ | (apply fm_bnd; first | refine fr_fX11_parts_0_b9  _ _ _ | refine fr_fX7_clear_3  _) | (apply fm_tl; first | refine fr_fX11_parts_0_b9  _ _ _ | refine fr_fX7_clear_3  _)
theorem fr_fX12_haveBy_122_132_b102 {k6 : Int32 → Int32 → Int32 → Int32 → Mem → Option (Int32 × Mem)} (hk6 : ∀ x0 x1 x2 x3 m, Fm aM m (k6 x0 x1 x2 x3 m)) (p2 : Int32) (p3 : Int32) (p4 : Int32) (p5 : Int32) (q0 : Int32) (μ : Mem) : Fm aM μ (fX12_haveBy_122_132_b102 k6 p2 p3 p4 p5 q0 μ) := by
  unfold fX12_haveBy_122_132_b102
  with_reducible repeat' first | assumption | exact Fr.refl | refine fr_sI ?_ rfl | refine fr_sL ?_ rfl | refine fr_sC ?_ rfl | exact fm_none | refine fm_some ?_ | refine fm_gd ?_ | refine fm_ite ?_ ?_ | refine fm_ltm ?_ (fun _ _ => ?_) | refine fm_lt ?_ | intro _ _ _ _ _ _ _ _ _ _ | intro _ _ _ _ _ _ _ _ _ | intro _ _ _ _ _ _ _ _ | intro _ _ _ _ _ _ _ | intro _ _ _ _ _ _ | intro _ _ _ _ _ | intro _ _ _ _ | intro _ _ _ | intro _ _ | intro _ | (apply fm_bnd; first | refine fr_fX12_valuesOf_122  _ _ | exact hk6 _ _ _ _ _) | (apply fm_tl; first | refine fr_fX12_valuesOf_122  _ _ | exact hk6 _ _ _ _ _)
theorem fr_fX12_haveBy_122_132_b59 {k6 : Int32 → Int32 → Int32 → Int32 → Mem → Option (Int32 × Mem)} (hk6 : ∀ x0 x1 x2 x3 m, Fm aM m (k6 x0 x1 x2 x3 m)) (p2 : Int32) (p3 : Int32) (p4 : Int32) (p5 : Int32) (p6 : Int32) (μ : Mem) : Fm aM μ (fX12_haveBy_122_132_b59 k6 p2 p3 p4 p5 p6 μ) := by
  unfold fX12_haveBy_122_132_b59
  with_reducible repeat' first | assumption | exact Fr.refl | refine fr_sI ?_ rfl | refine fr_sL ?_ rfl | refine fr_sC ?_ rfl | exact fm_none | refine fm_some ?_ | refine fm_gd ?_ | refine fm_ite ?_ ?_ | refine fm_ltm ?_ (fun _ _ => ?_) | refine fm_lt ?_ | intro _ _ _ _ _ _ _ _ _ _ | intro _ _ _ _ _ _ _ _ _ | intro _ _ _ _ _ _ _ _ | intro _ _ _ _ _ _ _ | intro _ _ _ _ _ _ | intro _ _ _ _ _ | intro _ _ _ _ | intro _ _ _ | intro _ _ | intro _ | (apply fm_bnd; first | refine fr_fX12_haveBy_122_132_b102 ?_ _ _ _ _ _ _ | exact hk6 _ _ _ _ _) | (apply fm_tl; first | refine fr_fX12_haveBy_122_132_b102 ?_ _ _ _ _ _ _ | exact hk6 _ _ _ _ _)
theorem fr_fX12_haveBy_122_132_b57 {k6 : Int32 → Int32 → Int32 → Int32 → Mem → Option (Int32 × Mem)} (hk6 : ∀ x0 x1 x2 x3 m, Fm aM m (k6 x0 x1 x2 x3 m)) (p2 : Int32) (p3 : Int32) (p4 : Int32) (p5 : Int32) (q0 : Int32) (μ : Mem) : Fm aM μ (fX12_haveBy_122_132_b57 k6 p2 p3 p4 p5 q0 μ) := by
  unfold fX12_haveBy_122_132_b57
  with_reducible repeat' first | assumption | exact Fr.refl | refine fr_sI ?_ rfl | refine fr_sL ?_ rfl | refine fr_sC ?_ rfl | exact fm_none | refine fm_some ?_ | refine fm_gd ?_ | refine fm_ite ?_ ?_ | refine fm_ltm ?_ (fun _ _ => ?_) | refine fm_lt ?_ | intro _ _ _ _ _ _ _ _ _ _ | intro _ _ _ _ _ _ _ _ _ | intro _ _ _ _ _ _ _ _ | intro _ _ _ _ _ _ _ | intro _ _ _ _ _ _ | intro _ _ _ _ _ | intro _ _ _ _ | intro _ _ _ | intro _ _ | intro _ | (apply fm_bnd; first | refine fr_fX12_haveBy_122_132_b59 ?_ _ _ _ _ _ _ | exact hk6 _ _ _ _ _) | (apply fm_tl; first | refine fr_fX12_haveBy_122_132_b59 ?_ _ _ _ _ _ _ | exact hk6 _ _ _ _ _)
theorem fr_fX12_haveBy_122_132_b6  : ∀ n a0 a1 a2 a3 μ, Fm aM μ (fX12_haveBy_122_132_b6  n a0 a1 a2 a3 μ) := by
  intro n
  induction n with
  | zero =>
    intros
    exact fm_none
  | succ n ih =>
    intro a0 a1 a2 a3 μ
    rw [fX12_haveBy_122_132_b6]
    with_reducible repeat' first | assumption | exact Fr.refl | refine fr_sI ?_ rfl | refine fr_sL ?_ rfl | refine fr_sC ?_ rfl | exact fm_none | refine fm_some ?_ | refine fm_gd ?_ | refine fm_ite ?_ ?_ | refine fm_ltm ?_ (fun _ _ => ?_) | refine fm_lt ?_ | intro _ _ _ _ _ _ _ _ _ _ | intro _ _ _ _ _ _ _ _ _ | intro _ _ _ _ _ _ _ _ | intro _ _ _ _ _ _ _ | intro _ _ _ _ _ _ | intro _ _ _ _ _ | intro _ _ _ _ | intro _ _ _ | intro _ _ | intro _ | (apply fm_bnd; first | refine fr_fX12_haveBy_122_132_b57 ?_ _ _ _ _ _ _ | refine fr_fX12_ending_122  _ _ | refine fr_fX12_proofIn_122_123  _ _ _ | exact ih _ _ _ _ _ | refine fr_fX12_haveBy_122_132_b59 ?_ _ _ _ _ _ _) | (apply fm_tl; first | refine fr_fX12_haveBy_122_132_b57 ?_ _ _ _ _ _ _ | refine fr_fX12_ending_122  _ _ | refine fr_fX12_proofIn_122_123  _ _ _ | exact ih _ _ _ _ _ | refine fr_fX12_haveBy_122_132_b59 ?_ _ _ _ _ _ _)
theorem fr_fX12_haveBy_122_132  (v2 : Int32) (v3 : Int32) (μ : Mem) : Fm aM μ (fX12_haveBy_122_132  v2 v3 μ) := by
  unfold fX12_haveBy_122_132
  with_reducible repeat' first | assumption | exact Fr.refl | refine fr_sI ?_ rfl | refine fr_sL ?_ rfl | refine fr_sC ?_ rfl | exact fm_none | refine fm_some ?_ | refine fm_gd ?_ | refine fm_ite ?_ ?_ | refine fm_ltm ?_ (fun _ _ => ?_) | refine fm_lt ?_ | intro _ _ _ _ _ _ _ _ _ _ | intro _ _ _ _ _ _ _ _ _ | intro _ _ _ _ _ _ _ _ | intro _ _ _ _ _ _ _ | intro _ _ _ _ _ _ | intro _ _ _ _ _ | intro _ _ _ _ | intro _ _ _ | intro _ _ | intro _ | (apply fm_bnd; first | refine fr_fX12_haveBy_122_132_b6  _ _ _ _ _ _) | (apply fm_tl; first | refine fr_fX12_haveBy_122_132_b6  _ _ _ _ _ _)
theorem fr_fX12_parts_122_b12  : ∀ n a0 μ, Fm aM μ (fX12_parts_122_b12  n a0 μ) := by
  intro n
  induction n with
  | zero =>
    intros
    exact fm_none
  | succ n ih =>
    intro a0 μ
    rw [fX12_parts_122_b12]
    with_reducible repeat' first | assumption | exact Fr.refl | refine fr_sI ?_ rfl | refine fr_sL ?_ rfl | refine fr_sC ?_ rfl | exact fm_none | refine fm_some ?_ | refine fm_gd ?_ | refine fm_ite ?_ ?_ | refine fm_ltm ?_ (fun _ _ => ?_) | refine fm_lt ?_ | intro _ _ _ _ _ _ _ _ _ _ | intro _ _ _ _ _ _ _ _ _ | intro _ _ _ _ _ _ _ _ | intro _ _ _ _ _ _ _ | intro _ _ _ _ _ _ | intro _ _ _ _ _ | intro _ _ _ _ | intro _ _ _ | intro _ _ | intro _ | (apply fm_bnd; first | refine fr_fX12_haveBy_122_132  _ _ _ | refine fr_fX12_tell_122  _ _ | exact ih _ _) | (apply fm_tl; first | refine fr_fX12_haveBy_122_132  _ _ _ | refine fr_fX12_tell_122  _ _ | exact ih _ _)
theorem fr_fX12_parts_122   (μ : Mem) : Fm aM μ (fX12_parts_122   μ) := by
  unfold fX12_parts_122
  with_reducible repeat' first | assumption | exact Fr.refl | refine fr_sI ?_ rfl | refine fr_sL ?_ rfl | refine fr_sC ?_ rfl | exact fm_none | refine fm_some ?_ | refine fm_gd ?_ | refine fm_ite ?_ ?_ | refine fm_ltm ?_ (fun _ _ => ?_) | refine fm_lt ?_ | intro _ _ _ _ _ _ _ _ _ _ | intro _ _ _ _ _ _ _ _ _ | intro _ _ _ _ _ _ _ _ | intro _ _ _ _ _ _ _ | intro _ _ _ _ _ _ | intro _ _ _ _ _ | intro _ _ _ _ | intro _ _ _ | intro _ _ | intro _ | (apply fm_bnd; first | refine fr_fX12_parts_122_b12  _ _ _) | (apply fm_tl; first | refine fr_fX12_parts_122_b12  _ _ _)
theorem fr_fX11_hopes_0_b21  : ∀ n a0 a1 a2 a3 a4 μ, Fm aC μ (fX11_hopes_0_b21  n a0 a1 a2 a3 a4 μ) := by
  intro n
  induction n with
  | zero =>
    intros
    exact fm_none
  | succ n ih =>
    intro a0 a1 a2 a3 a4 μ
    rw [fX11_hopes_0_b21]
    with_reducible repeat' first | assumption | exact Fr.refl | refine fr_sI ?_ rfl | refine fr_sL ?_ rfl | refine fr_sC ?_ rfl | exact fm_none | refine fm_some ?_ | refine fm_gd ?_ | refine fm_ite ?_ ?_ | refine fm_ltm ?_ (fun _ _ => ?_) | refine fm_lt ?_ | intro _ _ _ _ _ _ _ _ _ _ | intro _ _ _ _ _ _ _ _ _ | intro _ _ _ _ _ _ _ _ | intro _ _ _ _ _ _ _ | intro _ _ _ _ _ _ | intro _ _ _ _ _ | intro _ _ _ _ | intro _ _ _ | intro _ _ | intro _ | (apply fm_bnd; first | refine fr_fX4_isSilent_33  _ _ | refine fr_fX2_has_24  _ _ _ _ | refine fr_fX4_verdictIn_33  _ _ _ | refine fr_fX7_tell__3  _ _ _ | exact ih _ _ _ _ _ _) | (apply fm_tl; first | refine fr_fX4_isSilent_33  _ _ | refine fr_fX2_has_24  _ _ _ _ | refine fr_fX4_verdictIn_33  _ _ _ | refine fr_fX7_tell__3  _ _ _ | exact ih _ _ _ _ _ _)
theorem fr_fX11_hopes_0  (v1 : Int32) (μ : Mem) : Fm aC μ (fX11_hopes_0  v1 μ) := by
  unfold fX11_hopes_0
  with_reducible repeat' first | assumption | exact Fr.refl | refine fr_sI ?_ rfl | refine fr_sL ?_ rfl | refine fr_sC ?_ rfl | exact fm_none | refine fm_some ?_ | refine fm_gd ?_ | refine fm_ite ?_ ?_ | refine fm_ltm ?_ (fun _ _ => ?_) | refine fm_lt ?_ | intro _ _ _ _ _ _ _ _ _ _ | intro _ _ _ _ _ _ _ _ _ | intro _ _ _ _ _ _ _ _ | intro _ _ _ _ _ _ _ | intro _ _ _ _ _ _ | intro _ _ _ _ _ | intro _ _ _ _ | intro _ _ _ | intro _ _ | intro _ | (apply fm_bnd; first | refine fr_fX11_hopes_0_b21  _ _ _ _ _ _ _) | (apply fm_tl; first | refine fr_fX11_hopes_0_b21  _ _ _ _ _ _ _)
theorem fr_fX12_isHeir {A : Nat → Bool}  (v0 : Int32) (μ : Mem) : Fm A μ (fX12_isHeir  v0 μ) := by
  unfold fX12_isHeir
  with_reducible repeat' first | assumption | exact Fr.refl | refine fr_sI ?_ rfl | refine fr_sL ?_ rfl | refine fr_sC ?_ rfl | exact fm_none | refine fm_some ?_ | refine fm_gd ?_ | refine fm_ite ?_ ?_ | refine fm_ltm ?_ (fun _ _ => ?_) | refine fm_lt ?_ | intro _ _ _ _ _ _ _ _ _ _ | intro _ _ _ _ _ _ _ _ _ | intro _ _ _ _ _ _ _ _ | intro _ _ _ _ _ _ _ | intro _ _ _ _ _ _ | intro _ _ _ _ _ | intro _ _ _ _ | intro _ _ _ | intro _ _ | intro _ | (apply fm_bnd; first | refine fr_fX12_in  _ _ _ _) | (apply fm_tl; first | refine fr_fX12_in  _ _ _ _)
theorem fr_fX12_hopes_122  (v1 : Int32) (μ : Mem) : Fm aM μ (fX12_hopes_122  v1 μ) := by
  unfold fX12_hopes_122
  with_reducible repeat' first | assumption | exact Fr.refl | refine fr_sI ?_ rfl | refine fr_sL ?_ rfl | refine fr_sC ?_ rfl | exact fm_none | refine fm_some ?_ | refine fm_gd ?_ | refine fm_ite ?_ ?_ | refine fm_ltm ?_ (fun _ _ => ?_) | refine fm_lt ?_ | intro _ _ _ _ _ _ _ _ _ _ | intro _ _ _ _ _ _ _ _ _ | intro _ _ _ _ _ _ _ _ | intro _ _ _ _ _ _ _ | intro _ _ _ _ _ _ | intro _ _ _ _ _ | intro _ _ _ _ | intro _ _ _ | intro _ _ | intro _ | (apply fm_bnd; first | refine fr_fX12_haveBy_122_132  _ _ _ | refine fr_fX12_tell_122  _ _ | refine fr_fX12_isHeir  _ _) | (apply fm_tl; first | refine fr_fX12_haveBy_122_132  _ _ _ | refine fr_fX12_tell_122  _ _ | refine fr_fX12_isHeir  _ _)
theorem fr_fX11_fallsTo_0_26_b55 {k6 : Int32 → Int32 → Int32 → Int32 → Mem → Option (Int32 × Mem)} (hk6 : ∀ x0 x1 x2 x3 m, Fm aC m (k6 x0 x1 x2 x3 m)) (p2 : Int32) (p3 : Int32) (p4 : Int32) (p5 : Int32) (p6 : Int32) (q0 : Int32) (μ : Mem) : Fm aC μ (fX11_fallsTo_0_26_b55 k6 p2 p3 p4 p5 p6 q0 μ) := by
  unfold fX11_fallsTo_0_26_b55
  with_reducible repeat' first | assumption | exact Fr.refl | refine fr_sI ?_ rfl | refine fr_sL ?_ rfl | refine fr_sC ?_ rfl | exact fm_none | refine fm_some ?_ | refine fm_gd ?_ | refine fm_ite ?_ ?_ | refine fm_ltm ?_ (fun _ _ => ?_) | refine fm_lt ?_ | intro _ _ _ _ _ _ _ _ _ _ | intro _ _ _ _ _ _ _ _ _ | intro _ _ _ _ _ _ _ _ | intro _ _ _ _ _ _ _ | intro _ _ _ _ _ _ | intro _ _ _ _ _ | intro _ _ _ _ | intro _ _ _ | intro _ _ | intro _ | (apply fm_bnd; first | refine fr_fX2_worthOf_24  _ _ | exact hk6 _ _ _ _ _) | (apply fm_tl; first | refine fr_fX2_worthOf_24  _ _ | exact hk6 _ _ _ _ _)
theorem fr_fX11_fallsTo_0_26_b6  : ∀ n a0 a1 a2 a3 μ, Fm aC μ (fX11_fallsTo_0_26_b6  n a0 a1 a2 a3 μ) := by
  intro n
  induction n with
  | zero =>
    intros
    exact fm_none
  | succ n ih =>
    intro a0 a1 a2 a3 μ
    rw [fX11_fallsTo_0_26_b6]
    with_reducible repeat' first | assumption | exact Fr.refl | refine fr_sI ?_ rfl | refine fr_sL ?_ rfl | refine fr_sC ?_ rfl | exact fm_none | refine fm_some ?_ | refine fm_gd ?_ | refine fm_ite ?_ ?_ | refine fm_ltm ?_ (fun _ _ => ?_) | refine fm_lt ?_ | intro _ _ _ _ _ _ _ _ _ _ | intro _ _ _ _ _ _ _ _ _ | intro _ _ _ _ _ _ _ _ | intro _ _ _ _ _ _ _ | intro _ _ _ _ _ _ | intro _ _ _ _ _ | intro _ _ _ _ | intro _ _ _ | intro _ _ | intro _ | (apply fm_bnd; first | refine fr_fX11_fallsTo_0_26_b55 ?_ _ _ _ _ _ _ _ | exact ih _ _ _ _ _) | (apply fm_tl; first | refine fr_fX11_fallsTo_0_26_b55 ?_ _ _ _ _ _ _ _ | exact ih _ _ _ _ _)
theorem fr_fX11_fallsTo_0_26  (v2 : Int32) (v3 : Int32) (μ : Mem) : Fm aC μ (fX11_fallsTo_0_26  v2 v3 μ) := by
  unfold fX11_fallsTo_0_26
  with_reducible repeat' first | assumption | exact Fr.refl | refine fr_sI ?_ rfl | refine fr_sL ?_ rfl | refine fr_sC ?_ rfl | exact fm_none | refine fm_some ?_ | refine fm_gd ?_ | refine fm_ite ?_ ?_ | refine fm_ltm ?_ (fun _ _ => ?_) | refine fm_lt ?_ | intro _ _ _ _ _ _ _ _ _ _ | intro _ _ _ _ _ _ _ _ _ | intro _ _ _ _ _ _ _ _ | intro _ _ _ _ _ _ _ | intro _ _ _ _ _ _ | intro _ _ _ _ _ | intro _ _ _ _ | intro _ _ _ | intro _ _ | intro _ | (apply fm_bnd; first | refine fr_fX11_fallsTo_0_26_b6  _ _ _ _ _ _) | (apply fm_tl; first | refine fr_fX11_fallsTo_0_26_b6  _ _ _ _ _ _)
theorem fr_fX11_reading_0   (μ : Mem) : Fm aC μ (fX11_reading_0   μ) := by
  unfold fX11_reading_0
  with_reducible repeat' first | assumption | exact Fr.refl | refine fr_sI ?_ rfl | refine fr_sL ?_ rfl | refine fr_sC ?_ rfl | exact fm_none | refine fm_some ?_ | refine fm_gd ?_ | refine fm_ite ?_ ?_ | refine fm_ltm ?_ (fun _ _ => ?_) | refine fm_lt ?_ | intro _ _ _ _ _ _ _ _ _ _ | intro _ _ _ _ _ _ _ _ _ | intro _ _ _ _ _ _ _ _ | intro _ _ _ _ _ _ _ | intro _ _ _ _ _ _ | intro _ _ _ _ _ | intro _ _ _ _ | intro _ _ _ | intro _ _ | intro _ | (apply fm_bnd; first | refine fr_fX11_fallsTo_0_26  _ _ _ | refine fr_fX11_fallsTo_0_25  _ _ _ | refine fr_fX9_empty_1  _ | refine fr_fX2_readLaw_24_1  _ | refine fr_fX7_tell__3  _ _ _) | (apply fm_tl; first | refine fr_fX11_fallsTo_0_26  _ _ _ | refine fr_fX11_fallsTo_0_25  _ _ _ | refine fr_fX9_empty_1  _ | refine fr_fX2_readLaw_24_1  _ | refine fr_fX7_tell__3  _ _ _)
theorem fr_fX12_haveBy_122_145_b102 {k6 : Int32 → Int32 → Int32 → Int32 → Mem → Option (Int32 × Mem)} (hk6 : ∀ x0 x1 x2 x3 m, Fm aM m (k6 x0 x1 x2 x3 m)) (p2 : Int32) (p3 : Int32) (p4 : Int32) (p5 : Int32) (q0 : Int32) (μ : Mem) : Fm aM μ (fX12_haveBy_122_145_b102 k6 p2 p3 p4 p5 q0 μ) := by
  unfold fX12_haveBy_122_145_b102
  with_reducible repeat' first | assumption | exact Fr.refl | refine fr_sI ?_ rfl | refine fr_sL ?_ rfl | refine fr_sC ?_ rfl | exact fm_none | refine fm_some ?_ | refine fm_gd ?_ | refine fm_ite ?_ ?_ | refine fm_ltm ?_ (fun _ _ => ?_) | refine fm_lt ?_ | intro _ _ _ _ _ _ _ _ _ _ | intro _ _ _ _ _ _ _ _ _ | intro _ _ _ _ _ _ _ _ | intro _ _ _ _ _ _ _ | intro _ _ _ _ _ _ | intro _ _ _ _ _ | intro _ _ _ _ | intro _ _ _ | intro _ _ | intro _ | (apply fm_bnd; first | refine fr_fX12_valuesOf_122  _ _ | exact hk6 _ _ _ _ _) | (apply fm_tl; first | refine fr_fX12_valuesOf_122  _ _ | exact hk6 _ _ _ _ _)
theorem fr_fX12_haveBy_122_145_b59 {k6 : Int32 → Int32 → Int32 → Int32 → Mem → Option (Int32 × Mem)} (hk6 : ∀ x0 x1 x2 x3 m, Fm aM m (k6 x0 x1 x2 x3 m)) (p2 : Int32) (p3 : Int32) (p4 : Int32) (p5 : Int32) (p6 : Int32) (μ : Mem) : Fm aM μ (fX12_haveBy_122_145_b59 k6 p2 p3 p4 p5 p6 μ) := by
  unfold fX12_haveBy_122_145_b59
  with_reducible repeat' first | assumption | exact Fr.refl | refine fr_sI ?_ rfl | refine fr_sL ?_ rfl | refine fr_sC ?_ rfl | exact fm_none | refine fm_some ?_ | refine fm_gd ?_ | refine fm_ite ?_ ?_ | refine fm_ltm ?_ (fun _ _ => ?_) | refine fm_lt ?_ | intro _ _ _ _ _ _ _ _ _ _ | intro _ _ _ _ _ _ _ _ _ | intro _ _ _ _ _ _ _ _ | intro _ _ _ _ _ _ _ | intro _ _ _ _ _ _ | intro _ _ _ _ _ | intro _ _ _ _ | intro _ _ _ | intro _ _ | intro _ | (apply fm_bnd; first | refine fr_fX12_haveBy_122_145_b102 ?_ _ _ _ _ _ _ | exact hk6 _ _ _ _ _) | (apply fm_tl; first | refine fr_fX12_haveBy_122_145_b102 ?_ _ _ _ _ _ _ | exact hk6 _ _ _ _ _)
theorem fr_fX12_haveBy_122_145_b57 {k6 : Int32 → Int32 → Int32 → Int32 → Mem → Option (Int32 × Mem)} (hk6 : ∀ x0 x1 x2 x3 m, Fm aM m (k6 x0 x1 x2 x3 m)) (p2 : Int32) (p3 : Int32) (p4 : Int32) (p5 : Int32) (q0 : Int32) (μ : Mem) : Fm aM μ (fX12_haveBy_122_145_b57 k6 p2 p3 p4 p5 q0 μ) := by
  unfold fX12_haveBy_122_145_b57
  with_reducible repeat' first | assumption | exact Fr.refl | refine fr_sI ?_ rfl | refine fr_sL ?_ rfl | refine fr_sC ?_ rfl | exact fm_none | refine fm_some ?_ | refine fm_gd ?_ | refine fm_ite ?_ ?_ | refine fm_ltm ?_ (fun _ _ => ?_) | refine fm_lt ?_ | intro _ _ _ _ _ _ _ _ _ _ | intro _ _ _ _ _ _ _ _ _ | intro _ _ _ _ _ _ _ _ | intro _ _ _ _ _ _ _ | intro _ _ _ _ _ _ | intro _ _ _ _ _ | intro _ _ _ _ | intro _ _ _ | intro _ _ | intro _ | (apply fm_bnd; first | refine fr_fX12_haveBy_122_145_b59 ?_ _ _ _ _ _ _ | exact hk6 _ _ _ _ _) | (apply fm_tl; first | refine fr_fX12_haveBy_122_145_b59 ?_ _ _ _ _ _ _ | exact hk6 _ _ _ _ _)
theorem fr_fX12_haveBy_122_145_b6  : ∀ n a0 a1 a2 a3 μ, Fm aM μ (fX12_haveBy_122_145_b6  n a0 a1 a2 a3 μ) := by
  intro n
  induction n with
  | zero =>
    intros
    exact fm_none
  | succ n ih =>
    intro a0 a1 a2 a3 μ
    rw [fX12_haveBy_122_145_b6]
    with_reducible repeat' first | assumption | exact Fr.refl | refine fr_sI ?_ rfl | refine fr_sL ?_ rfl | refine fr_sC ?_ rfl | exact fm_none | refine fm_some ?_ | refine fm_gd ?_ | refine fm_ite ?_ ?_ | refine fm_ltm ?_ (fun _ _ => ?_) | refine fm_lt ?_ | intro _ _ _ _ _ _ _ _ _ _ | intro _ _ _ _ _ _ _ _ _ | intro _ _ _ _ _ _ _ _ | intro _ _ _ _ _ _ _ | intro _ _ _ _ _ _ | intro _ _ _ _ _ | intro _ _ _ _ | intro _ _ _ | intro _ _ | intro _ | (apply fm_bnd; first | exact ih _ _ _ _ _ | refine fr_fX12_ending_122  _ _ | refine fr_fX12_haveBy_122_145_b59 ?_ _ _ _ _ _ _ | refine fr_fX12_proofIn_122_123  _ _ _ | refine fr_fX12_haveBy_122_145_b57 ?_ _ _ _ _ _ _) | (apply fm_tl; first | exact ih _ _ _ _ _ | refine fr_fX12_ending_122  _ _ | refine fr_fX12_haveBy_122_145_b59 ?_ _ _ _ _ _ _ | refine fr_fX12_proofIn_122_123  _ _ _ | refine fr_fX12_haveBy_122_145_b57 ?_ _ _ _ _ _ _)
theorem fr_fX12_haveBy_122_145  (v2 : Int32) (v3 : Int32) (μ : Mem) : Fm aM μ (fX12_haveBy_122_145  v2 v3 μ) := by
  unfold fX12_haveBy_122_145
  with_reducible repeat' first | assumption | exact Fr.refl | refine fr_sI ?_ rfl | refine fr_sL ?_ rfl | refine fr_sC ?_ rfl | exact fm_none | refine fm_some ?_ | refine fm_gd ?_ | refine fm_ite ?_ ?_ | refine fm_ltm ?_ (fun _ _ => ?_) | refine fm_lt ?_ | intro _ _ _ _ _ _ _ _ _ _ | intro _ _ _ _ _ _ _ _ _ | intro _ _ _ _ _ _ _ _ | intro _ _ _ _ _ _ _ | intro _ _ _ _ _ _ | intro _ _ _ _ _ | intro _ _ _ _ | intro _ _ _ | intro _ _ | intro _ | (apply fm_bnd; first | refine fr_fX12_haveBy_122_145_b6  _ _ _ _ _ _) | (apply fm_tl; first | refine fr_fX12_haveBy_122_145_b6  _ _ _ _ _ _)
theorem fr_fX12_reading_122_b23  : ∀ n a0 μ, Fm aM μ (fX12_reading_122_b23  n a0 μ) := by
  intro n
  induction n with
  | zero =>
    intros
    exact fm_none
  | succ n ih =>
    intro a0 μ
    rw [fX12_reading_122_b23]
    with_reducible repeat' first | assumption | exact Fr.refl | refine fr_sI ?_ rfl | refine fr_sL ?_ rfl | refine fr_sC ?_ rfl | exact fm_none | refine fm_some ?_ | refine fm_gd ?_ | refine fm_ite ?_ ?_ | refine fm_ltm ?_ (fun _ _ => ?_) | refine fm_lt ?_ | intro _ _ _ _ _ _ _ _ _ _ | intro _ _ _ _ _ _ _ _ _ | intro _ _ _ _ _ _ _ _ | intro _ _ _ _ _ _ _ | intro _ _ _ _ _ _ | intro _ _ _ _ _ | intro _ _ _ _ | intro _ _ _ | intro _ _ | intro _ | (apply fm_bnd; first | refine fr_fX12_haveBy_122_132  _ _ _ | refine fr_fX12_haveBy_122_145  _ _ _ | exact ih _ _ | refine fr_fX12_tell_122  _ _) | (apply fm_tl; first | refine fr_fX12_haveBy_122_132  _ _ _ | refine fr_fX12_haveBy_122_145  _ _ _ | exact ih _ _ | refine fr_fX12_tell_122  _ _)
theorem fr_fX12_reading_122   (μ : Mem) : Fm aM μ (fX12_reading_122   μ) := by
  unfold fX12_reading_122
  with_reducible repeat' first | assumption | exact Fr.refl | refine fr_sI ?_ rfl | refine fr_sL ?_ rfl | refine fr_sC ?_ rfl | exact fm_none | refine fm_some ?_ | refine fm_gd ?_ | refine fm_ite ?_ ?_ | refine fm_ltm ?_ (fun _ _ => ?_) | refine fm_lt ?_ | intro _ _ _ _ _ _ _ _ _ _ | intro _ _ _ _ _ _ _ _ _ | intro _ _ _ _ _ _ _ _ | intro _ _ _ _ _ _ _ | intro _ _ _ _ _ _ | intro _ _ _ _ _ | intro _ _ _ _ | intro _ _ _ | intro _ _ | intro _ | (apply fm_bnd; first | refine fr_fX12_reading_122_b23  _ _ _ | refine fr_fX12_readLaw_122  _) | (apply fm_tl; first | refine fr_fX12_reading_122_b23  _ _ _ | refine fr_fX12_readLaw_122  _)
theorem fr_fX2_changedEndings_24_b4 {A : Nat → Bool}  : ∀ n a0 a1 μ, Fm A μ (fX2_changedEndings_24_b4  n a0 a1 μ) := by
  intro n
  induction n with
  | zero =>
    intros
    exact fm_none
  | succ n ih =>
    intro a0 a1 μ
    rw [fX2_changedEndings_24_b4]
    with_reducible repeat' first | assumption | exact Fr.refl | refine fr_sI ?_ rfl | refine fr_sL ?_ rfl | refine fr_sC ?_ rfl | exact fm_none | refine fm_some ?_ | refine fm_gd ?_ | refine fm_ite ?_ ?_ | refine fm_ltm ?_ (fun _ _ => ?_) | refine fm_lt ?_ | intro _ _ _ _ _ _ _ _ _ _ | intro _ _ _ _ _ _ _ _ _ | intro _ _ _ _ _ _ _ _ | intro _ _ _ _ _ _ _ | intro _ _ _ _ _ _ | intro _ _ _ _ _ | intro _ _ _ _ | intro _ _ _ | intro _ _ | intro _ | (apply fm_bnd; first | exact ih _ _ _) | (apply fm_tl; first | exact ih _ _ _)
theorem fr_fX2_changedEndings_24 {A : Nat → Bool}   (μ : Mem) : Fm A μ (fX2_changedEndings_24   μ) := by
  unfold fX2_changedEndings_24
  with_reducible repeat' first | assumption | exact Fr.refl | refine fr_sI ?_ rfl | refine fr_sL ?_ rfl | refine fr_sC ?_ rfl | exact fm_none | refine fm_some ?_ | refine fm_gd ?_ | refine fm_ite ?_ ?_ | refine fm_ltm ?_ (fun _ _ => ?_) | refine fm_lt ?_ | intro _ _ _ _ _ _ _ _ _ _ | intro _ _ _ _ _ _ _ _ _ | intro _ _ _ _ _ _ _ _ | intro _ _ _ _ _ _ _ | intro _ _ _ _ _ _ | intro _ _ _ _ _ | intro _ _ _ _ | intro _ _ _ | intro _ _ | intro _ | (apply fm_bnd; first | refine fr_fX2_changedEndings_24_b4  _ _ _ _) | (apply fm_tl; first | refine fr_fX2_changedEndings_24_b4  _ _ _ _)
theorem fr_fX2_tellReading_24_b4  : ∀ n a0 a1 μ, Fm aC μ (fX2_tellReading_24_b4  n a0 a1 μ) := by
  intro n
  induction n with
  | zero =>
    intros
    exact fm_none
  | succ n ih =>
    intro a0 a1 μ
    rw [fX2_tellReading_24_b4]
    with_reducible repeat' first | assumption | exact Fr.refl | refine fr_sI ?_ rfl | refine fr_sL ?_ rfl | refine fr_sC ?_ rfl | exact fm_none | refine fm_some ?_ | refine fm_gd ?_ | refine fm_ite ?_ ?_ | refine fm_ltm ?_ (fun _ _ => ?_) | refine fm_lt ?_ | intro _ _ _ _ _ _ _ _ _ _ | intro _ _ _ _ _ _ _ _ _ | intro _ _ _ _ _ _ _ _ | intro _ _ _ _ _ _ _ | intro _ _ _ _ _ _ | intro _ _ _ _ _ | intro _ _ _ _ | intro _ _ _ | intro _ _ | intro _ | (apply fm_bnd; first | exact ih _ _ _) | (apply fm_tl; first | exact ih _ _ _)
theorem fr_fX2_tellReading_24  (v1 : Int32) (μ : Mem) : Fm aC μ (fX2_tellReading_24  v1 μ) := by
  unfold fX2_tellReading_24
  with_reducible repeat' first | assumption | exact Fr.refl | refine fr_sI ?_ rfl | refine fr_sL ?_ rfl | refine fr_sC ?_ rfl | exact fm_none | refine fm_some ?_ | refine fm_gd ?_ | refine fm_ite ?_ ?_ | refine fm_ltm ?_ (fun _ _ => ?_) | refine fm_lt ?_ | intro _ _ _ _ _ _ _ _ _ _ | intro _ _ _ _ _ _ _ _ _ | intro _ _ _ _ _ _ _ _ | intro _ _ _ _ _ _ _ | intro _ _ _ _ _ _ | intro _ _ _ _ _ | intro _ _ _ _ | intro _ _ _ | intro _ _ | intro _ | (apply fm_bnd; first | refine fr_fX2_tellReading_24_b4  _ _ _ _) | (apply fm_tl; first | refine fr_fX2_tellReading_24_b4  _ _ _ _)
theorem fr_fX11_wants_0_b80 {k21 : Int32 → Int32 → Int32 → Int32 → Int32 → Mem → Option (Int32 × Mem)} (hk21 : ∀ x0 x1 x2 x3 x4 m, Fm aC m (k21 x0 x1 x2 x3 x4 m)) (p1 : Int32) (p5 : Int32) (p6 : Int32) (p7 : Int32) (μ : Mem) : Fm aC μ (fX11_wants_0_b80 k21 p1 p5 p6 p7 μ) := by
  unfold fX11_wants_0_b80
  with_reducible repeat' first | assumption | exact Fr.refl | refine fr_sI ?_ rfl | refine fr_sL ?_ rfl | refine fr_sC ?_ rfl | exact fm_none | refine fm_some ?_ | refine fm_gd ?_ | refine fm_ite ?_ ?_ | refine fm_ltm ?_ (fun _ _ => ?_) | refine fm_lt ?_ | intro _ _ _ _ _ _ _ _ _ _ | intro _ _ _ _ _ _ _ _ _ | intro _ _ _ _ _ _ _ _ | intro _ _ _ _ _ _ _ | intro _ _ _ _ _ _ | intro _ _ _ _ _ | intro _ _ _ _ | intro _ _ _ | intro _ _ | intro _ | (apply fm_bnd; first | exact hk21 _ _ _ _ _ _) | (apply fm_tl; first | exact hk21 _ _ _ _ _ _)
theorem fr_fX11_wants_0_b21  : ∀ n a0 a1 a2 a3 a4 μ, Fm aC μ (fX11_wants_0_b21  n a0 a1 a2 a3 a4 μ) := by
  intro n
  induction n with
  | zero =>
    intros
    exact fm_none
  | succ n ih =>
    intro a0 a1 a2 a3 a4 μ
    rw [fX11_wants_0_b21]
    with_reducible repeat' first | assumption | exact Fr.refl | refine fr_sI ?_ rfl | refine fr_sL ?_ rfl | refine fr_sC ?_ rfl | exact fm_none | refine fm_some ?_ | refine fm_gd ?_ | refine fm_ite ?_ ?_ | refine fm_ltm ?_ (fun _ _ => ?_) | refine fm_lt ?_ | intro _ _ _ _ _ _ _ _ _ _ | intro _ _ _ _ _ _ _ _ _ | intro _ _ _ _ _ _ _ _ | intro _ _ _ _ _ _ _ | intro _ _ _ _ _ _ | intro _ _ _ _ _ | intro _ _ _ _ | intro _ _ _ | intro _ _ | intro _ | (apply fm_bnd; first | refine fr_fX11_fallsTo_0_26  _ _ _ | refine fr_fX11_wants_0_b80 ?_ _ _ _ _ _ | refine fr_fX11_fallsTo_0_25  _ _ _ | refine fr_fX2_tellReading_24  _ _ | exact ih _ _ _ _ _ _ | refine fr_fX2_changedEndings_24  _ | refine fr_fX7_tell__3  _ _ _) | (apply fm_tl; first | refine fr_fX11_fallsTo_0_26  _ _ _ | refine fr_fX11_wants_0_b80 ?_ _ _ _ _ _ | refine fr_fX11_fallsTo_0_25  _ _ _ | refine fr_fX2_tellReading_24  _ _ | exact ih _ _ _ _ _ _ | refine fr_fX2_changedEndings_24  _ | refine fr_fX7_tell__3  _ _ _)
theorem fr_fX11_wants_0  (v1 : Int32) (μ : Mem) : Fm aC μ (fX11_wants_0  v1 μ) := by
  unfold fX11_wants_0
  with_reducible repeat' first | assumption | exact Fr.refl | refine fr_sI ?_ rfl | refine fr_sL ?_ rfl | refine fr_sC ?_ rfl | exact fm_none | refine fm_some ?_ | refine fm_gd ?_ | refine fm_ite ?_ ?_ | refine fm_ltm ?_ (fun _ _ => ?_) | refine fm_lt ?_ | intro _ _ _ _ _ _ _ _ _ _ | intro _ _ _ _ _ _ _ _ _ | intro _ _ _ _ _ _ _ _ | intro _ _ _ _ _ _ _ | intro _ _ _ _ _ _ | intro _ _ _ _ _ | intro _ _ _ _ | intro _ _ _ | intro _ _ | intro _ | (apply fm_bnd; first | refine fr_fX11_wants_0_b21  _ _ _ _ _ _ _) | (apply fm_tl; first | refine fr_fX11_wants_0_b21  _ _ _ _ _ _ _)
theorem fr_fX12_wants_122_b130 {k24 : Int32 → Int32 → Int32 → Int32 → Int32 → Mem → Option (Int32 × Mem)} (hk24 : ∀ x0 x1 x2 x3 x4 m, Fm aM m (k24 x0 x1 x2 x3 x4 m)) (p1 : Int32) (p5 : Int32) (p6 : Int32) (p8 : Int32) (μ : Mem) : Fm aM μ (fX12_wants_122_b130 k24 p1 p5 p6 p8 μ) := by
  unfold fX12_wants_122_b130
  with_reducible repeat' first | assumption | exact Fr.refl | refine fr_sI ?_ rfl | refine fr_sL ?_ rfl | refine fr_sC ?_ rfl | exact fm_none | refine fm_some ?_ | refine fm_gd ?_ | refine fm_ite ?_ ?_ | refine fm_ltm ?_ (fun _ _ => ?_) | refine fm_lt ?_ | intro _ _ _ _ _ _ _ _ _ _ | intro _ _ _ _ _ _ _ _ _ | intro _ _ _ _ _ _ _ _ | intro _ _ _ _ _ _ _ | intro _ _ _ _ _ _ | intro _ _ _ _ _ | intro _ _ _ _ | intro _ _ _ | intro _ _ | intro _ | (apply fm_bnd; first | exact hk24 _ _ _ _ _ _) | (apply fm_tl; first | exact hk24 _ _ _ _ _ _)
theorem fr_fX12_wants_122_b41 {k24 : Int32 → Int32 → Int32 → Int32 → Int32 → Mem → Option (Int32 × Mem)} (hk24 : ∀ x0 x1 x2 x3 x4 m, Fm aM m (k24 x0 x1 x2 x3 x4 m)) : ∀ n a0 a1 a2 a3 a4 a5 a6 a7 μ, Fm aM μ (fX12_wants_122_b41 k24 n a0 a1 a2 a3 a4 a5 a6 a7 μ) := by
  intro n
  induction n with
  | zero =>
    intros
    exact fm_none
  | succ n ih =>
    intro a0 a1 a2 a3 a4 a5 a6 a7 μ
    rw [fX12_wants_122_b41]
    with_reducible repeat' first | assumption | exact Fr.refl | refine fr_sI ?_ rfl | refine fr_sL ?_ rfl | refine fr_sC ?_ rfl | exact fm_none | refine fm_some ?_ | refine fm_gd ?_ | refine fm_ite ?_ ?_ | refine fm_ltm ?_ (fun _ _ => ?_) | refine fm_lt ?_ | intro _ _ _ _ _ _ _ _ _ _ | intro _ _ _ _ _ _ _ _ _ | intro _ _ _ _ _ _ _ _ | intro _ _ _ _ _ _ _ | intro _ _ _ _ _ _ | intro _ _ _ _ _ | intro _ _ _ _ | intro _ _ _ | intro _ _ | intro _ | (apply fm_bnd; first | refine fr_fX12_wants_122_b130 ?_ _ _ _ _ _ | refine fr_fX12_haveBy_122_145  _ _ _ | exact ih _ _ _ _ _ _ _ _ _ | exact hk24 _ _ _ _ _ _) | (apply fm_tl; first | refine fr_fX12_wants_122_b130 ?_ _ _ _ _ _ | refine fr_fX12_haveBy_122_145  _ _ _ | exact ih _ _ _ _ _ _ _ _ _ | exact hk24 _ _ _ _ _ _)
theorem fr_fX12_wants_122_b24  : ∀ n a0 a1 a2 a3 a4 μ, Fm aM μ (fX12_wants_122_b24  n a0 a1 a2 a3 a4 μ) := by
  intro n
  induction n with
  | zero =>
    intros
    exact fm_none
  | succ n ih =>
    intro a0 a1 a2 a3 a4 μ
    rw [fX12_wants_122_b24]
    with_reducible repeat' first | assumption | exact Fr.refl | refine fr_sI ?_ rfl | refine fr_sL ?_ rfl | refine fr_sC ?_ rfl | exact fm_none | refine fm_some ?_ | refine fm_gd ?_ | refine fm_ite ?_ ?_ | refine fm_ltm ?_ (fun _ _ => ?_) | refine fm_lt ?_ | intro _ _ _ _ _ _ _ _ _ _ | intro _ _ _ _ _ _ _ _ _ | intro _ _ _ _ _ _ _ _ | intro _ _ _ _ _ _ _ | intro _ _ _ _ _ _ | intro _ _ _ _ _ | intro _ _ _ _ | intro _ _ _ | intro _ _ | intro _ | (apply fm_bnd; first | refine fr_fX12_haveBy_122_132  _ _ _ | refine fr_fX12_tell_122  _ _ | exact ih _ _ _ _ _ _ | refine fr_fX12_wants_122_b41 ?_ _ _ _ _ _ _ _ _ _ _) | (apply fm_tl; first | refine fr_fX12_haveBy_122_132  _ _ _ | refine fr_fX12_tell_122  _ _ | exact ih _ _ _ _ _ _ | refine fr_fX12_wants_122_b41 ?_ _ _ _ _ _ _ _ _ _ _)
theorem fr_fX12_wants_122  (v1 : Int32) (μ : Mem) : Fm aM μ (fX12_wants_122  v1 μ) := by
  unfold fX12_wants_122
  with_reducible repeat' first | assumption | exact Fr.refl | refine fr_sI ?_ rfl | refine fr_sL ?_ rfl | refine fr_sC ?_ rfl | exact fm_none | refine fm_some ?_ | refine fm_gd ?_ | refine fm_ite ?_ ?_ | refine fm_ltm ?_ (fun _ _ => ?_) | refine fm_lt ?_ | intro _ _ _ _ _ _ _ _ _ _ | intro _ _ _ _ _ _ _ _ _ | intro _ _ _ _ _ _ _ _ | intro _ _ _ _ _ _ _ | intro _ _ _ _ _ _ | intro _ _ _ _ _ | intro _ _ _ _ | intro _ _ _ | intro _ _ | intro _ | (apply fm_bnd; first | refine fr_fX12_wants_122_b24  _ _ _ _ _ _ _ | refine fr_fX12_isHeir  _ _) | (apply fm_tl; first | refine fr_fX12_wants_122_b24  _ _ _ _ _ _ _ | refine fr_fX12_isHeir  _ _)
theorem fr_fX11_commonDivisor_b9 {A : Nat → Bool}  : ∀ n a0 a1 a2 μ, Fm A μ (fX11_commonDivisor_b9  n a0 a1 a2 μ) := by
  intro n
  induction n with
  | zero =>
    intros
    exact fm_none
  | succ n ih =>
    intro a0 a1 a2 μ
    rw [fX11_commonDivisor_b9]
    with_reducible repeat' first | assumption | exact Fr.refl | refine fr_sI ?_ rfl | refine fr_sL ?_ rfl | refine fr_sC ?_ rfl | exact fm_none | refine fm_some ?_ | refine fm_gd ?_ | refine fm_ite ?_ ?_ | refine fm_ltm ?_ (fun _ _ => ?_) | refine fm_lt ?_ | intro _ _ _ _ _ _ _ _ _ _ | intro _ _ _ _ _ _ _ _ _ | intro _ _ _ _ _ _ _ _ | intro _ _ _ _ _ _ _ | intro _ _ _ _ _ _ | intro _ _ _ _ _ | intro _ _ _ _ | intro _ _ _ | intro _ _ | intro _ | (apply fm_bnd; first | exact ih _ _ _ _) | (apply fm_tl; first | exact ih _ _ _ _)
theorem fr_fX11_commonDivisor {A : Nat → Bool}  (v0 : Int64) (v2 : Int64) (μ : Mem) : Fm A μ (fX11_commonDivisor  v0 v2 μ) := by
  unfold fX11_commonDivisor
  with_reducible repeat' first | assumption | exact Fr.refl | refine fr_sI ?_ rfl | refine fr_sL ?_ rfl | refine fr_sC ?_ rfl | exact fm_none | refine fm_some ?_ | refine fm_gd ?_ | refine fm_ite ?_ ?_ | refine fm_ltm ?_ (fun _ _ => ?_) | refine fm_lt ?_ | intro _ _ _ _ _ _ _ _ _ _ | intro _ _ _ _ _ _ _ _ _ | intro _ _ _ _ _ _ _ _ | intro _ _ _ _ _ _ _ | intro _ _ _ _ _ _ | intro _ _ _ _ _ | intro _ _ _ _ | intro _ _ _ | intro _ _ | intro _ | (apply fm_bnd; first | refine fr_fX11_commonDivisor_b9  _ _ _ _ _) | (apply fm_tl; first | refine fr_fX11_commonDivisor_b9  _ _ _ _ _)
theorem fr_fX11_isTenths {A : Nat → Bool}  (v0 : Int32) (μ : Mem) : Fm A μ (fX11_isTenths  v0 μ) := by
  unfold fX11_isTenths
  with_reducible repeat' first | assumption | exact Fr.refl | refine fr_sI ?_ rfl | refine fr_sL ?_ rfl | refine fr_sC ?_ rfl | exact fm_none | refine fm_some ?_ | refine fm_gd ?_ | refine fm_ite ?_ ?_ | refine fm_ltm ?_ (fun _ _ => ?_) | refine fm_lt ?_ | intro _ _ _ _ _ _ _ _ _ _ | intro _ _ _ _ _ _ _ _ _ | intro _ _ _ _ _ _ _ _ | intro _ _ _ _ _ _ _ | intro _ _ _ _ _ _ | intro _ _ _ _ _ | intro _ _ _ _ | intro _ _ _ | intro _ _ | intro _
theorem fr_fX11_power_b5 {A : Nat → Bool}  : ∀ n a0 a1 a2 a3 μ, Fm A μ (fX11_power_b5  n a0 a1 a2 a3 μ) := by
  intro n
  induction n with
  | zero =>
    intros
    exact fm_none
  | succ n ih =>
    intro a0 a1 a2 a3 μ
    rw [fX11_power_b5]
    with_reducible repeat' first | assumption | exact Fr.refl | refine fr_sI ?_ rfl | refine fr_sL ?_ rfl | refine fr_sC ?_ rfl | exact fm_none | refine fm_some ?_ | refine fm_gd ?_ | refine fm_ite ?_ ?_ | refine fm_ltm ?_ (fun _ _ => ?_) | refine fm_lt ?_ | intro _ _ _ _ _ _ _ _ _ _ | intro _ _ _ _ _ _ _ _ _ | intro _ _ _ _ _ _ _ _ | intro _ _ _ _ _ _ _ | intro _ _ _ _ _ _ | intro _ _ _ _ _ | intro _ _ _ _ | intro _ _ _ | intro _ _ | intro _ | (apply fm_bnd; first | exact ih _ _ _ _ _) | (apply fm_tl; first | exact ih _ _ _ _ _)
theorem fr_fX11_power {A : Nat → Bool}  (v0 : Int32) (v1 : Int32) (μ : Mem) : Fm A μ (fX11_power  v0 v1 μ) := by
  unfold fX11_power
  with_reducible repeat' first | assumption | exact Fr.refl | refine fr_sI ?_ rfl | refine fr_sL ?_ rfl | refine fr_sC ?_ rfl | exact fm_none | refine fm_some ?_ | refine fm_gd ?_ | refine fm_ite ?_ ?_ | refine fm_ltm ?_ (fun _ _ => ?_) | refine fm_lt ?_ | intro _ _ _ _ _ _ _ _ _ _ | intro _ _ _ _ _ _ _ _ _ | intro _ _ _ _ _ _ _ _ | intro _ _ _ _ _ _ _ | intro _ _ _ _ _ _ | intro _ _ _ _ _ | intro _ _ _ _ | intro _ _ _ | intro _ _ | intro _ | (apply fm_bnd; first | refine fr_fX11_power_b5  _ _ _ _ _ _) | (apply fm_tl; first | refine fr_fX11_power_b5  _ _ _ _ _ _)
theorem fr_fX11_likelyDumb {A : Nat → Bool}  (v0 : Int32) (v1 : Int32) (μ : Mem) : Fm A μ (fX11_likelyDumb  v0 v1 μ) := by
  unfold fX11_likelyDumb
  with_reducible repeat' first | assumption | exact Fr.refl | refine fr_sI ?_ rfl | refine fr_sL ?_ rfl | refine fr_sC ?_ rfl | exact fm_none | refine fm_some ?_ | refine fm_gd ?_ | refine fm_ite ?_ ?_ | refine fm_ltm ?_ (fun _ _ => ?_) | refine fm_lt ?_ | intro _ _ _ _ _ _ _ _ _ _ | intro _ _ _ _ _ _ _ _ _ | intro _ _ _ _ _ _ _ _ | intro _ _ _ _ _ _ _ | intro _ _ _ _ _ _ | intro _ _ _ _ _ | intro _ _ _ _ | intro _ _ _ | intro _ _ | intro _ | (apply fm_bnd; first | refine fr_fX11_power  _ _ _) | (apply fm_tl; first | refine fr_fX11_power  _ _ _)
theorem fr_fX11_likelyMute {A : Nat → Bool}  (v0 : Int32) (v1 : Int32) (v2 : Int32) (μ : Mem) : Fm A μ (fX11_likelyMute  v0 v1 v2 μ) := by
  unfold fX11_likelyMute
  with_reducible repeat' first | assumption | exact Fr.refl | refine fr_sI ?_ rfl | refine fr_sL ?_ rfl | refine fr_sC ?_ rfl | exact fm_none | refine fm_some ?_ | refine fm_gd ?_ | refine fm_ite ?_ ?_ | refine fm_ltm ?_ (fun _ _ => ?_) | refine fm_lt ?_ | intro _ _ _ _ _ _ _ _ _ _ | intro _ _ _ _ _ _ _ _ _ | intro _ _ _ _ _ _ _ _ | intro _ _ _ _ _ _ _ | intro _ _ _ _ _ _ | intro _ _ _ _ _ | intro _ _ _ _ | intro _ _ _ | intro _ _ | intro _ | (apply fm_bnd; first | refine fr_fX11_likelyDumb  _ _ _ | refine fr_fX11_power  _ _ _) | (apply fm_tl; first | refine fr_fX11_likelyDumb  _ _ _ | refine fr_fX11_power  _ _ _)
theorem fr_fX11_dumb_0  (v1 : Int32) (v2 : Int32) (v3 : Int32) (μ : Mem) : Fm aC μ (fX11_dumb_0  v1 v2 v3 μ) := by
  unfold fX11_dumb_0
  with_reducible repeat' first | assumption | exact Fr.refl | refine fr_sI ?_ rfl | refine fr_sL ?_ rfl | refine fr_sC ?_ rfl | exact fm_none | refine fm_some ?_ | refine fm_gd ?_ | refine fm_ite ?_ ?_ | refine fm_ltm ?_ (fun _ _ => ?_) | refine fm_lt ?_ | intro _ _ _ _ _ _ _ _ _ _ | intro _ _ _ _ _ _ _ _ _ | intro _ _ _ _ _ _ _ _ | intro _ _ _ _ _ _ _ | intro _ _ _ _ _ _ | intro _ _ _ _ _ | intro _ _ _ _ | intro _ _ _ | intro _ _ | intro _ | (apply fm_bnd; first | refine fr_fX11_likelyDumb  _ _ _ | refine fr_fX11_likelyMute  _ _ _ _ | refine fr_fX11_commonDivisor  _ _ _ | refine fr_fX7_tell__3  _ _ _ | refine fr_fX11_isTenths  _ _) | (apply fm_tl; first | refine fr_fX11_likelyDumb  _ _ _ | refine fr_fX11_likelyMute  _ _ _ _ | refine fr_fX11_commonDivisor  _ _ _ | refine fr_fX7_tell__3  _ _ _ | refine fr_fX11_isTenths  _ _)
theorem fr_fX12_common_r {rc : Int64 → Int64 → Mem → Option (Int64 × Mem)} (hrc : ∀ x0 x1 m, Fm aM m (rc x0 x1 m)) (v0 : Int64) (v2 : Int64) (μ : Mem) : Fm aM μ (fX12_common_r rc v0 v2 μ) := by
  unfold fX12_common_r
  with_reducible repeat' first | assumption | exact Fr.refl | refine fr_sI ?_ rfl | refine fr_sL ?_ rfl | refine fr_sC ?_ rfl | exact fm_none | refine fm_some ?_ | refine fm_gd ?_ | refine fm_ite ?_ ?_ | refine fm_ltm ?_ (fun _ _ => ?_) | refine fm_lt ?_ | intro _ _ _ _ _ _ _ _ _ _ | intro _ _ _ _ _ _ _ _ _ | intro _ _ _ _ _ _ _ _ | intro _ _ _ _ _ _ _ | intro _ _ _ _ _ _ | intro _ _ _ _ _ | intro _ _ _ _ | intro _ _ _ | intro _ _ | intro _ | (apply fm_bnd; first | exact hrc _ _ _) | (apply fm_tl; first | exact hrc _ _ _)
theorem fr_fX12_common  : ∀ n a0 a1 μ, Fm aM μ (fX12_common  n a0 a1 μ) := by
  intro n
  induction n with
  | zero =>
    intros
    exact fm_none
  | succ n ih =>
    intro a0 a1 μ
    rw [fX12_common]
    with_reducible repeat' first | assumption | exact Fr.refl | refine fr_sI ?_ rfl | refine fr_sL ?_ rfl | refine fr_sC ?_ rfl | exact fm_none | refine fm_some ?_ | refine fm_gd ?_ | refine fm_ite ?_ ?_ | refine fm_ltm ?_ (fun _ _ => ?_) | refine fm_lt ?_ | intro _ _ _ _ _ _ _ _ _ _ | intro _ _ _ _ _ _ _ _ _ | intro _ _ _ _ _ _ _ _ | intro _ _ _ _ _ _ _ | intro _ _ _ _ _ _ | intro _ _ _ _ _ | intro _ _ _ _ | intro _ _ _ | intro _ _ | intro _ | (apply fm_bnd; first | refine fr_fX12_common_r ?_ _ _ _ | exact ih _ _ _) | (apply fm_tl; first | refine fr_fX12_common_r ?_ _ _ _ | exact ih _ _ _)
theorem fr_fX12_power_b5 {A : Nat → Bool}  : ∀ n a0 a1 a2 a3 μ, Fm A μ (fX12_power_b5  n a0 a1 a2 a3 μ) := by
  intro n
  induction n with
  | zero =>
    intros
    exact fm_none
  | succ n ih =>
    intro a0 a1 a2 a3 μ
    rw [fX12_power_b5]
    with_reducible repeat' first | assumption | exact Fr.refl | refine fr_sI ?_ rfl | refine fr_sL ?_ rfl | refine fr_sC ?_ rfl | exact fm_none | refine fm_some ?_ | refine fm_gd ?_ | refine fm_ite ?_ ?_ | refine fm_ltm ?_ (fun _ _ => ?_) | refine fm_lt ?_ | intro _ _ _ _ _ _ _ _ _ _ | intro _ _ _ _ _ _ _ _ _ | intro _ _ _ _ _ _ _ _ | intro _ _ _ _ _ _ _ | intro _ _ _ _ _ _ | intro _ _ _ _ _ | intro _ _ _ _ | intro _ _ _ | intro _ _ | intro _ | (apply fm_bnd; first | exact ih _ _ _ _ _) | (apply fm_tl; first | exact ih _ _ _ _ _)
theorem fr_fX12_power {A : Nat → Bool}  (v0 : Int64) (v2 : Int32) (μ : Mem) : Fm A μ (fX12_power  v0 v2 μ) := by
  unfold fX12_power
  with_reducible repeat' first | assumption | exact Fr.refl | refine fr_sI ?_ rfl | refine fr_sL ?_ rfl | refine fr_sC ?_ rfl | exact fm_none | refine fm_some ?_ | refine fm_gd ?_ | refine fm_ite ?_ ?_ | refine fm_ltm ?_ (fun _ _ => ?_) | refine fm_lt ?_ | intro _ _ _ _ _ _ _ _ _ _ | intro _ _ _ _ _ _ _ _ _ | intro _ _ _ _ _ _ _ _ | intro _ _ _ _ _ _ _ | intro _ _ _ _ _ _ | intro _ _ _ _ _ | intro _ _ _ _ | intro _ _ _ | intro _ _ | intro _ | (apply fm_bnd; first | refine fr_fX12_power_b5  _ _ _ _ _ _) | (apply fm_tl; first | refine fr_fX12_power_b5  _ _ _ _ _ _)
theorem fr_fX12_dumbPart {A : Nat → Bool}  (v0 : Int32) (v1 : Int32) (μ : Mem) : Fm A μ (fX12_dumbPart  v0 v1 μ) := by
  unfold fX12_dumbPart
  with_reducible repeat' first | assumption | exact Fr.refl | refine fr_sI ?_ rfl | refine fr_sL ?_ rfl | refine fr_sC ?_ rfl | exact fm_none | refine fm_some ?_ | refine fm_gd ?_ | refine fm_ite ?_ ?_ | refine fm_ltm ?_ (fun _ _ => ?_) | refine fm_lt ?_ | intro _ _ _ _ _ _ _ _ _ _ | intro _ _ _ _ _ _ _ _ _ | intro _ _ _ _ _ _ _ _ | intro _ _ _ _ _ _ _ | intro _ _ _ _ _ _ | intro _ _ _ _ _ | intro _ _ _ _ | intro _ _ _ | intro _ _ | intro _ | (apply fm_bnd; first | refine fr_fX12_power  _ _ _) | (apply fm_tl; first | refine fr_fX12_power  _ _ _)
theorem fr_fX12_wholePart {A : Nat → Bool}  (v0 : Int32) (v1 : Int32) (v2 : Int32) (μ : Mem) : Fm A μ (fX12_wholePart  v0 v1 v2 μ) := by
  unfold fX12_wholePart
  with_reducible repeat' first | assumption | exact Fr.refl | refine fr_sI ?_ rfl | refine fr_sL ?_ rfl | refine fr_sC ?_ rfl | exact fm_none | refine fm_some ?_ | refine fm_gd ?_ | refine fm_ite ?_ ?_ | refine fm_ltm ?_ (fun _ _ => ?_) | refine fm_lt ?_ | intro _ _ _ _ _ _ _ _ _ _ | intro _ _ _ _ _ _ _ _ _ | intro _ _ _ _ _ _ _ _ | intro _ _ _ _ _ _ _ | intro _ _ _ _ _ _ | intro _ _ _ _ _ | intro _ _ _ _ | intro _ _ _ | intro _ _ | intro _ | (apply fm_bnd; first | refine fr_fX12_dumbPart  _ _ _ | refine fr_fX12_power  _ _ _) | (apply fm_tl; first | refine fr_fX12_dumbPart  _ _ _ | refine fr_fX12_power  _ _ _)
theorem fr_fX12_dumb_122  (v1 : Int32) (v2 : Int32) (v3 : Int32) (μ : Mem) : Fm aM μ (fX12_dumb_122  v1 v2 v3 μ) := by
  unfold fX12_dumb_122
  with_reducible repeat' first | assumption | exact Fr.refl | refine fr_sI ?_ rfl | refine fr_sL ?_ rfl | refine fr_sC ?_ rfl | exact fm_none | refine fm_some ?_ | refine fm_gd ?_ | refine fm_ite ?_ ?_ | refine fm_ltm ?_ (fun _ _ => ?_) | refine fm_lt ?_ | intro _ _ _ _ _ _ _ _ _ _ | intro _ _ _ _ _ _ _ _ _ | intro _ _ _ _ _ _ _ _ | intro _ _ _ _ _ _ _ | intro _ _ _ _ _ _ | intro _ _ _ _ _ | intro _ _ _ _ | intro _ _ _ | intro _ _ | intro _ | (apply fm_bnd; first | refine fr_fX12_dumbPart  _ _ _ | refine fr_fX12_tell_122  _ _ | refine fr_fX12_in  _ _ _ _ | refine fr_fX12_wholePart  _ _ _ _ | refine fr_fX12_common  _ _ _ _) | (apply fm_tl; first | refine fr_fX12_dumbPart  _ _ _ | refine fr_fX12_tell_122  _ _ | refine fr_fX12_in  _ _ _ _ | refine fr_fX12_wholePart  _ _ _ _ | refine fr_fX12_common  _ _ _ _)
theorem fr_fX11_sure_0_b29 {A : Nat → Bool}  : ∀ n a0 a1 a2 a3 μ, Fm A μ (fX11_sure_0_b29  n a0 a1 a2 a3 μ) := by
  intro n
  induction n with
  | zero =>
    intros
    exact fm_none
  | succ n ih =>
    intro a0 a1 a2 a3 μ
    rw [fX11_sure_0_b29]
    with_reducible repeat' first | assumption | exact Fr.refl | refine fr_sI ?_ rfl | refine fr_sL ?_ rfl | refine fr_sC ?_ rfl | exact fm_none | refine fm_some ?_ | refine fm_gd ?_ | refine fm_ite ?_ ?_ | refine fm_ltm ?_ (fun _ _ => ?_) | refine fm_lt ?_ | intro _ _ _ _ _ _ _ _ _ _ | intro _ _ _ _ _ _ _ _ _ | intro _ _ _ _ _ _ _ _ | intro _ _ _ _ _ _ _ | intro _ _ _ _ _ _ | intro _ _ _ _ _ | intro _ _ _ _ | intro _ _ _ | intro _ _ | intro _ | (apply fm_bnd; first | exact ih _ _ _ _ _ | refine fr_fX11_likelyDumb  _ _ _ | refine fr_fX11_likelyMute  _ _ _ _) | (apply fm_tl; first | exact ih _ _ _ _ _ | refine fr_fX11_likelyDumb  _ _ _ | refine fr_fX11_likelyMute  _ _ _ _)
theorem fr_fX11_sure_0 {A : Nat → Bool}  (v1 : Int32) (v2 : Int32) (v3 : Int32) (μ : Mem) : Fm A μ (fX11_sure_0  v1 v2 v3 μ) := by
  unfold fX11_sure_0
  with_reducible repeat' first | assumption | exact Fr.refl | refine fr_sI ?_ rfl | refine fr_sL ?_ rfl | refine fr_sC ?_ rfl | exact fm_none | refine fm_some ?_ | refine fm_gd ?_ | refine fm_ite ?_ ?_ | refine fm_ltm ?_ (fun _ _ => ?_) | refine fm_lt ?_ | intro _ _ _ _ _ _ _ _ _ _ | intro _ _ _ _ _ _ _ _ _ | intro _ _ _ _ _ _ _ _ | intro _ _ _ _ _ _ _ | intro _ _ _ _ _ _ | intro _ _ _ _ _ | intro _ _ _ _ | intro _ _ _ | intro _ _ | intro _ | (apply fm_bnd; first | refine fr_fX11_sure_0_b29  _ _ _ _ _ _ | refine fr_fX11_isTenths  _ _) | (apply fm_tl; first | refine fr_fX11_sure_0_b29  _ _ _ _ _ _ | refine fr_fX11_isTenths  _ _)
theorem fr_fX12_sure_122_b40 {A : Nat → Bool}  : ∀ n a0 a1 a2 a3 μ, Fm A μ (fX12_sure_122_b40  n a0 a1 a2 a3 μ) := by
  intro n
  induction n with
  | zero =>
    intros
    exact fm_none
  | succ n ih =>
    intro a0 a1 a2 a3 μ
    rw [fX12_sure_122_b40]
    with_reducible repeat' first | assumption | exact Fr.refl | refine fr_sI ?_ rfl | refine fr_sL ?_ rfl | refine fr_sC ?_ rfl | exact fm_none | refine fm_some ?_ | refine fm_gd ?_ | refine fm_ite ?_ ?_ | refine fm_ltm ?_ (fun _ _ => ?_) | refine fm_lt ?_ | intro _ _ _ _ _ _ _ _ _ _ | intro _ _ _ _ _ _ _ _ _ | intro _ _ _ _ _ _ _ _ | intro _ _ _ _ _ _ _ | intro _ _ _ _ _ _ | intro _ _ _ _ _ | intro _ _ _ _ | intro _ _ _ | intro _ _ | intro _ | (apply fm_bnd; first | refine fr_fX12_dumbPart  _ _ _ | refine fr_fX12_wholePart  _ _ _ _ | exact ih _ _ _ _ _) | (apply fm_tl; first | refine fr_fX12_dumbPart  _ _ _ | refine fr_fX12_wholePart  _ _ _ _ | exact ih _ _ _ _ _)
theorem fr_fX12_sure_122  (v1 : Int32) (v2 : Int32) (v3 : Int32) (μ : Mem) : Fm aM μ (fX12_sure_122  v1 v2 v3 μ) := by
  unfold fX12_sure_122
  with_reducible repeat' first | assumption | exact Fr.refl | refine fr_sI ?_ rfl | refine fr_sL ?_ rfl | refine fr_sC ?_ rfl | exact fm_none | refine fm_some ?_ | refine fm_gd ?_ | refine fm_ite ?_ ?_ | refine fm_ltm ?_ (fun _ _ => ?_) | refine fm_lt ?_ | intro _ _ _ _ _ _ _ _ _ _ | intro _ _ _ _ _ _ _ _ _ | intro _ _ _ _ _ _ _ _ | intro _ _ _ _ _ _ _ | intro _ _ _ _ _ _ | intro _ _ _ _ _ | intro _ _ _ _ | intro _ _ _ | intro _ _ | intro _ | (apply fm_bnd; first | refine fr_fX12_in  _ _ _ _ | refine fr_fX12_sure_122_b40  _ _ _ _ _ _) | (apply fm_tl; first | refine fr_fX12_in  _ _ _ _ | refine fr_fX12_sure_122_b40  _ _ _ _ _ _)
theorem fr_fX11_isSuchPart_0 {A : Nat → Bool}  (v1 : Int32) (v2 : Int32) (v3 : Int32) (μ : Mem) : Fm A μ (fX11_isSuchPart_0  v1 v2 v3 μ) := by
  unfold fX11_isSuchPart_0
  with_reducible repeat' first | assumption | exact Fr.refl | refine fr_sI ?_ rfl | refine fr_sL ?_ rfl | refine fr_sC ?_ rfl | exact fm_none | refine fm_some ?_ | refine fm_gd ?_ | refine fm_ite ?_ ?_ | refine fm_ltm ?_ (fun _ _ => ?_) | refine fm_lt ?_ | intro _ _ _ _ _ _ _ _ _ _ | intro _ _ _ _ _ _ _ _ _ | intro _ _ _ _ _ _ _ _ | intro _ _ _ _ _ _ _ | intro _ _ _ _ _ _ | intro _ _ _ _ _ | intro _ _ _ _ | intro _ _ _ | intro _ _ | intro _ | (apply fm_bnd; first | refine fr_fX2_worthOf_24  _ _) | (apply fm_tl; first | refine fr_fX2_worthOf_24  _ _)
theorem fr_fX11_house_0_b111  (p4 : Int32) (q0 : Int64) (q1 : Int64) (μ : Mem) : Fm aC μ (fX11_house_0_b111  p4 q0 q1 μ) := by
  unfold fX11_house_0_b111
  with_reducible repeat' first | assumption | exact Fr.refl | refine fr_sI ?_ rfl | refine fr_sL ?_ rfl | refine fr_sC ?_ rfl | exact fm_none | refine fm_some ?_ | refine fm_gd ?_ | refine fm_ite ?_ ?_ | refine fm_ltm ?_ (fun _ _ => ?_) | refine fm_lt ?_ | intro _ _ _ _ _ _ _ _ _ _ | intro _ _ _ _ _ _ _ _ _ | intro _ _ _ _ _ _ _ _ | intro _ _ _ _ _ _ _ | intro _ _ _ _ _ _ | intro _ _ _ _ _ | intro _ _ _ _ | intro _ _ _ | intro _ _ | intro _ | (apply fm_bnd; first | refine fr_fX7_tell__3  _ _ _) | (apply fm_tl; first | refine fr_fX7_tell__3  _ _ _)
theorem fr_fX11_house_0_b74 {k43 : Int32 → Int32 → Int32 → Int32 → Int32 → Int32 → Mem → Option (Int32 × Mem)} (hk43 : ∀ x0 x1 x2 x3 x4 x5 m, Fm aC m (k43 x0 x1 x2 x3 x4 x5 m)) (p2 : Int32) (p3 : Int32) (p4 : Int32) (p6 : Int32) (p7 : Int32) (q0 : Int32) (μ : Mem) : Fm aC μ (fX11_house_0_b74 k43 p2 p3 p4 p6 p7 q0 μ) := by
  unfold fX11_house_0_b74
  with_reducible repeat' first | assumption | exact Fr.refl | refine fr_sI ?_ rfl | refine fr_sL ?_ rfl | refine fr_sC ?_ rfl | exact fm_none | refine fm_some ?_ | refine fm_gd ?_ | refine fm_ite ?_ ?_ | refine fm_ltm ?_ (fun _ _ => ?_) | refine fm_lt ?_ | intro _ _ _ _ _ _ _ _ _ _ | intro _ _ _ _ _ _ _ _ _ | intro _ _ _ _ _ _ _ _ | intro _ _ _ _ _ _ _ | intro _ _ _ _ _ _ | intro _ _ _ _ _ | intro _ _ _ _ | intro _ _ _ | intro _ _ | intro _ | (apply fm_bnd; first | exact hk43 _ _ _ _ _ _ _) | (apply fm_tl; first | exact hk43 _ _ _ _ _ _ _)
theorem fr_fX11_house_0_b43  : ∀ n a0 a1 a2 a3 a4 a5 μ, Fm aC μ (fX11_house_0_b43  n a0 a1 a2 a3 a4 a5 μ) := by
  intro n
  induction n with
  | zero =>
    intros
    exact fm_none
  | succ n ih =>
    intro a0 a1 a2 a3 a4 a5 μ
    rw [fX11_house_0_b43]
    with_reducible repeat' first | assumption | exact Fr.refl | refine fr_sI ?_ rfl | refine fr_sL ?_ rfl | refine fr_sC ?_ rfl | exact fm_none | refine fm_some ?_ | refine fm_gd ?_ | refine fm_ite ?_ ?_ | refine fm_ltm ?_ (fun _ _ => ?_) | refine fm_lt ?_ | intro _ _ _ _ _ _ _ _ _ _ | intro _ _ _ _ _ _ _ _ _ | intro _ _ _ _ _ _ _ _ | intro _ _ _ _ _ _ _ | intro _ _ _ _ _ _ | intro _ _ _ _ _ | intro _ _ _ _ | intro _ _ _ | intro _ _ | intro _ | (apply fm_bnd; first | exact ih _ _ _ _ _ _ _ | refine fr_fX11_isSuchPart_0  _ _ _ _ | refine fr_fX11_house_0_b111  _ _ _ _ | refine fr_fX11_house_0_b74 ?_ _ _ _ _ _ _ _) | (apply fm_tl; first | exact ih _ _ _ _ _ _ _ | refine fr_fX11_isSuchPart_0  _ _ _ _ | refine fr_fX11_house_0_b111  _ _ _ _ | refine fr_fX11_house_0_b74 ?_ _ _ _ _ _ _ _)
theorem fr_fX11_house_0  (v1 : Int32) (v2 : Int32) (μ : Mem) : Fm aC μ (fX11_house_0  v1 v2 μ) := by
  unfold fX11_house_0
  with_reducible repeat' first | assumption | exact Fr.refl | refine fr_sI ?_ rfl | refine fr_sL ?_ rfl | refine fr_sC ?_ rfl | exact fm_none | refine fm_some ?_ | refine fm_gd ?_ | refine fm_ite ?_ ?_ | refine fm_ltm ?_ (fun _ _ => ?_) | refine fm_lt ?_ | intro _ _ _ _ _ _ _ _ _ _ | intro _ _ _ _ _ _ _ _ _ | intro _ _ _ _ _ _ _ _ | intro _ _ _ _ _ _ _ | intro _ _ _ _ _ _ | intro _ _ _ _ _ | intro _ _ _ _ | intro _ _ _ | intro _ _ | intro _ | (apply fm_bnd; first | refine fr_fX11_house_0_b43  _ _ _ _ _ _ _ _ | refine fr_fX11_isThere_0  _ _) | (apply fm_tl; first | refine fr_fX11_house_0_b43  _ _ _ _ _ _ _ _ | refine fr_fX11_isThere_0  _ _)
theorem fr_fX12_house_122_b133  (p3 : Int32) (q0 : Int64) (μ : Mem) : Fm aM μ (fX12_house_122_b133  p3 q0 μ) := by
  unfold fX12_house_122_b133
  with_reducible repeat' first | assumption | exact Fr.refl | refine fr_sI ?_ rfl | refine fr_sL ?_ rfl | refine fr_sC ?_ rfl | exact fm_none | refine fm_some ?_ | refine fm_gd ?_ | refine fm_ite ?_ ?_ | refine fm_ltm ?_ (fun _ _ => ?_) | refine fm_lt ?_ | intro _ _ _ _ _ _ _ _ _ _ | intro _ _ _ _ _ _ _ _ _ | intro _ _ _ _ _ _ _ _ | intro _ _ _ _ _ _ _ | intro _ _ _ _ _ _ | intro _ _ _ _ _ | intro _ _ _ _ | intro _ _ _ | intro _ _ | intro _ | (apply fm_bnd; first | refine fr_fX12_tell_122  _ _) | (apply fm_tl; first | refine fr_fX12_tell_122  _ _)
theorem fr_fX12_house_122_b91 {k42 : Int32 → Int32 → Int32 → Int32 → Int32 → Int32 → Mem → Option (Int32 × Mem)} (hk42 : ∀ x0 x1 x2 x3 x4 x5 m, Fm aM m (k42 x0 x1 x2 x3 x4 x5 m)) (p1 : Int32) (p2 : Int32) (p3 : Int32) (p5 : Int32) (p6 : Int32) (q0 : Int32) (μ : Mem) : Fm aM μ (fX12_house_122_b91 k42 p1 p2 p3 p5 p6 q0 μ) := by
  unfold fX12_house_122_b91
  with_reducible repeat' first | assumption | exact Fr.refl | refine fr_sI ?_ rfl | refine fr_sL ?_ rfl | refine fr_sC ?_ rfl | exact fm_none | refine fm_some ?_ | refine fm_gd ?_ | refine fm_ite ?_ ?_ | refine fm_ltm ?_ (fun _ _ => ?_) | refine fm_lt ?_ | intro _ _ _ _ _ _ _ _ _ _ | intro _ _ _ _ _ _ _ _ _ | intro _ _ _ _ _ _ _ _ | intro _ _ _ _ _ _ _ | intro _ _ _ _ _ _ | intro _ _ _ _ _ | intro _ _ _ _ | intro _ _ _ | intro _ _ | intro _ | (apply fm_bnd; first | exact hk42 _ _ _ _ _ _ _) | (apply fm_tl; first | exact hk42 _ _ _ _ _ _ _)
theorem fr_fX12_house_122_b42  : ∀ n a0 a1 a2 a3 a4 a5 μ, Fm aM μ (fX12_house_122_b42  n a0 a1 a2 a3 a4 a5 μ) := by
  intro n
  induction n with
  | zero =>
    intros
    exact fm_none
  | succ n ih =>
    intro a0 a1 a2 a3 a4 a5 μ
    rw [fX12_house_122_b42]
    with_reducible repeat' first | assumption | exact Fr.refl | refine fr_sI ?_ rfl | refine fr_sL ?_ rfl | refine fr_sC ?_ rfl | exact fm_none | refine fm_some ?_ | refine fm_gd ?_ | refine fm_ite ?_ ?_ | refine fm_ltm ?_ (fun _ _ => ?_) | refine fm_lt ?_ | intro _ _ _ _ _ _ _ _ _ _ | intro _ _ _ _ _ _ _ _ _ | intro _ _ _ _ _ _ _ _ | intro _ _ _ _ _ _ _ | intro _ _ _ _ _ _ | intro _ _ _ _ _ | intro _ _ _ _ | intro _ _ _ | intro _ _ | intro _ | (apply fm_bnd; first | refine fr_fX12_house_122_b91 ?_ _ _ _ _ _ _ _ | exact ih _ _ _ _ _ _ _ | refine fr_fX12_tell_122  _ _ | refine fr_fX12_house_122_b133  _ _ _ | refine fr_fX12_valuesOf_122  _ _) | (apply fm_tl; first | refine fr_fX12_house_122_b91 ?_ _ _ _ _ _ _ _ | exact ih _ _ _ _ _ _ _ | refine fr_fX12_tell_122  _ _ | refine fr_fX12_house_122_b133  _ _ _ | refine fr_fX12_valuesOf_122  _ _)
theorem fr_fX12_house_122  (v1 : Int32) (v2 : Int32) (μ : Mem) : Fm aM μ (fX12_house_122  v1 v2 μ) := by
  unfold fX12_house_122
  with_reducible repeat' first | assumption | exact Fr.refl | refine fr_sI ?_ rfl | refine fr_sL ?_ rfl | refine fr_sC ?_ rfl | exact fm_none | refine fm_some ?_ | refine fm_gd ?_ | refine fm_ite ?_ ?_ | refine fm_ltm ?_ (fun _ _ => ?_) | refine fm_lt ?_ | intro _ _ _ _ _ _ _ _ _ _ | intro _ _ _ _ _ _ _ _ _ | intro _ _ _ _ _ _ _ _ | intro _ _ _ _ _ _ _ | intro _ _ _ _ _ _ | intro _ _ _ _ _ | intro _ _ _ _ | intro _ _ _ | intro _ _ | intro _ | (apply fm_bnd; first | refine fr_fX12_house_122_b42  _ _ _ _ _ _ _ _ | refine fr_fX12_isMan_122  _ _ | refine fr_fX12_in  _ _ _ _) | (apply fm_tl; first | refine fr_fX12_house_122_b42  _ _ _ _ _ _ _ _ | refine fr_fX12_isMan_122  _ _ | refine fr_fX12_in  _ _ _ _)
theorem fr_fX11_partsWith_0_b6 {A : Nat → Bool}  : ∀ n a0 a1 a2 a3 a4 μ, Fm A μ (fX11_partsWith_0_b6  n a0 a1 a2 a3 a4 μ) := by
  intro n
  induction n with
  | zero =>
    intros
    exact fm_none
  | succ n ih =>
    intro a0 a1 a2 a3 a4 μ
    rw [fX11_partsWith_0_b6]
    with_reducible repeat' first | assumption | exact Fr.refl | refine fr_sI ?_ rfl | refine fr_sL ?_ rfl | refine fr_sC ?_ rfl | exact fm_none | refine fm_some ?_ | refine fm_gd ?_ | refine fm_ite ?_ ?_ | refine fm_ltm ?_ (fun _ _ => ?_) | refine fm_lt ?_ | intro _ _ _ _ _ _ _ _ _ _ | intro _ _ _ _ _ _ _ _ _ | intro _ _ _ _ _ _ _ _ | intro _ _ _ _ _ _ _ | intro _ _ _ _ _ _ | intro _ _ _ _ _ | intro _ _ _ _ | intro _ _ _ | intro _ _ | intro _ | (apply fm_bnd; first | refine fr_fX11_isSuchPart_0  _ _ _ _ | exact ih _ _ _ _ _ _) | (apply fm_tl; first | refine fr_fX11_isSuchPart_0  _ _ _ _ | exact ih _ _ _ _ _ _)
theorem fr_fX11_partsWith_0 {A : Nat → Bool}  (v1 : Int32) (v2 : Int32) (v3 : Int32) (μ : Mem) : Fm A μ (fX11_partsWith_0  v1 v2 v3 μ) := by
  unfold fX11_partsWith_0
  with_reducible repeat' first | assumption | exact Fr.refl | refine fr_sI ?_ rfl | refine fr_sL ?_ rfl | refine fr_sC ?_ rfl | exact fm_none | refine fm_some ?_ | refine fm_gd ?_ | refine fm_ite ?_ ?_ | refine fm_ltm ?_ (fun _ _ => ?_) | refine fm_lt ?_ | intro _ _ _ _ _ _ _ _ _ _ | intro _ _ _ _ _ _ _ _ _ | intro _ _ _ _ _ _ _ _ | intro _ _ _ _ _ _ _ | intro _ _ _ _ _ _ | intro _ _ _ _ _ | intro _ _ _ _ | intro _ _ _ | intro _ _ | intro _ | (apply fm_bnd; first | refine fr_fX11_partsWith_0_b6  _ _ _ _ _ _ _) | (apply fm_tl; first | refine fr_fX11_partsWith_0_b6  _ _ _ _ _ _ _)
theorem fr_fX11_search_0_b122  (p5 : Int32) (p6 : Int32) (μ : Mem) : Fm aC μ (fX11_search_0_b122  p5 p6 μ) := by
  unfold fX11_search_0_b122
  with_reducible repeat' first | assumption | exact Fr.refl | refine fr_sI ?_ rfl | refine fr_sL ?_ rfl | refine fr_sC ?_ rfl | exact fm_none | refine fm_some ?_ | refine fm_gd ?_ | refine fm_ite ?_ ?_ | refine fm_ltm ?_ (fun _ _ => ?_) | refine fm_lt ?_ | intro _ _ _ _ _ _ _ _ _ _ | intro _ _ _ _ _ _ _ _ _ | intro _ _ _ _ _ _ _ _ | intro _ _ _ _ _ _ _ | intro _ _ _ _ _ _ | intro _ _ _ _ _ | intro _ _ _ _ | intro _ _ _ | intro _ _ | intro _ | (apply fm_bnd; first | refine fr_fX7_tell_3  _ _) | (apply fm_tl; first | refine fr_fX7_tell_3  _ _)
theorem fr_fX11_search_0_b53  : ∀ n a0 a1 a2 a3 a4 a5 μ, Fm aC μ (fX11_search_0_b53  n a0 a1 a2 a3 a4 a5 μ) := by
  intro n
  induction n with
  | zero =>
    intros
    exact fm_none
  | succ n ih =>
    intro a0 a1 a2 a3 a4 a5 μ
    rw [fX11_search_0_b53]
    with_reducible repeat' first | assumption | exact Fr.refl | refine fr_sI ?_ rfl | refine fr_sL ?_ rfl | refine fr_sC ?_ rfl | exact fm_none | refine fm_some ?_ | refine fm_gd ?_ | refine fm_ite ?_ ?_ | refine fm_ltm ?_ (fun _ _ => ?_) | refine fm_lt ?_ | intro _ _ _ _ _ _ _ _ _ _ | intro _ _ _ _ _ _ _ _ _ | intro _ _ _ _ _ _ _ _ | intro _ _ _ _ _ _ _ | intro _ _ _ _ _ _ | intro _ _ _ _ _ | intro _ _ _ _ | intro _ _ _ | intro _ _ | intro _ | (apply fm_bnd; first | refine fr_fX11_search_0_b122  _ _ _ | exact ih _ _ _ _ _ _ _ | refine fr_fX11_partsWith_0  _ _ _ _) | (apply fm_tl; first | refine fr_fX11_search_0_b122  _ _ _ | exact ih _ _ _ _ _ _ _ | refine fr_fX11_partsWith_0  _ _ _ _)
theorem fr_fX11_search_0  (v1 : Int32) (v2 : Int32) (μ : Mem) : Fm aC μ (fX11_search_0  v1 v2 μ) := by
  unfold fX11_search_0
  with_reducible repeat' first | assumption | exact Fr.refl | refine fr_sI ?_ rfl | refine fr_sL ?_ rfl | refine fr_sC ?_ rfl | exact fm_none | refine fm_some ?_ | refine fm_gd ?_ | refine fm_ite ?_ ?_ | refine fm_ltm ?_ (fun _ _ => ?_) | refine fm_lt ?_ | intro _ _ _ _ _ _ _ _ _ _ | intro _ _ _ _ _ _ _ _ _ | intro _ _ _ _ _ _ _ _ | intro _ _ _ _ _ _ _ | intro _ _ _ _ _ _ | intro _ _ _ _ _ | intro _ _ _ _ | intro _ _ _ | intro _ _ | intro _ | (apply fm_bnd; first | refine fr_fX11_isThere_0  _ _ | refine fr_fX11_search_0_b53  _ _ _ _ _ _ _ _ | refine fr_fX11_partsWith_0  _ _ _ _) | (apply fm_tl; first | refine fr_fX11_isThere_0  _ _ | refine fr_fX11_search_0_b53  _ _ _ _ _ _ _ _ | refine fr_fX11_partsWith_0  _ _ _ _)
theorem fr_fX12_search_122_b69 {k36 : Int32 → Int32 → Int32 → Int32 → Int32 → Mem → Option (Int32 × Mem)} (hk36 : ∀ x0 x1 x2 x3 x4 m, Fm aM m (k36 x0 x1 x2 x3 x4 m)) : ∀ n a0 a1 a2 a3 a4 a5 a6 a7 μ, Fm aM μ (fX12_search_122_b69 k36 n a0 a1 a2 a3 a4 a5 a6 a7 μ) := by
  intro n
  induction n with
  | zero =>
    intros
    exact fm_none
  | succ n ih =>
    intro a0 a1 a2 a3 a4 a5 a6 a7 μ
    rw [fX12_search_122_b69]
    with_reducible repeat' first | assumption | exact Fr.refl | refine fr_sI ?_ rfl | refine fr_sL ?_ rfl | refine fr_sC ?_ rfl | exact fm_none | refine fm_some ?_ | refine fm_gd ?_ | refine fm_ite ?_ ?_ | refine fm_ltm ?_ (fun _ _ => ?_) | refine fm_lt ?_ | intro _ _ _ _ _ _ _ _ _ _ | intro _ _ _ _ _ _ _ _ _ | intro _ _ _ _ _ _ _ _ | intro _ _ _ _ _ _ _ | intro _ _ _ _ _ _ | intro _ _ _ _ _ | intro _ _ _ _ | intro _ _ _ | intro _ _ | intro _ | (apply fm_bnd; first | refine fr_fX12_has  _ _ _ | exact ih _ _ _ _ _ _ _ _ _ | refine fr_fX12_valuesOf_122  _ _ | exact hk36 _ _ _ _ _ _) | (apply fm_tl; first | refine fr_fX12_has  _ _ _ | exact ih _ _ _ _ _ _ _ _ _ | refine fr_fX12_valuesOf_122  _ _ | exact hk36 _ _ _ _ _ _)
theorem fr_fX12_search_122_b36  : ∀ n a0 a1 a2 a3 a4 μ, Fm aM μ (fX12_search_122_b36  n a0 a1 a2 a3 a4 μ) := by
  intro n
  induction n with
  | zero =>
    intros
    exact fm_none
  | succ n ih =>
    intro a0 a1 a2 a3 a4 μ
    rw [fX12_search_122_b36]
    with_reducible repeat' first | assumption | exact Fr.refl | refine fr_sI ?_ rfl | refine fr_sL ?_ rfl | refine fr_sC ?_ rfl | exact fm_none | refine fm_some ?_ | refine fm_gd ?_ | refine fm_ite ?_ ?_ | refine fm_ltm ?_ (fun _ _ => ?_) | refine fm_lt ?_ | intro _ _ _ _ _ _ _ _ _ _ | intro _ _ _ _ _ _ _ _ _ | intro _ _ _ _ _ _ _ _ | intro _ _ _ _ _ _ _ | intro _ _ _ _ _ _ | intro _ _ _ _ _ | intro _ _ _ _ | intro _ _ _ | intro _ _ | intro _ | (apply fm_bnd; first | refine fr_fX12_tell_122  _ _ | refine fr_fX12_has  _ _ _ | exact ih _ _ _ _ _ _ | refine fr_fX12_search_122_b69 ?_ _ _ _ _ _ _ _ _ _ _) | (apply fm_tl; first | refine fr_fX12_tell_122  _ _ | refine fr_fX12_has  _ _ _ | exact ih _ _ _ _ _ _ | refine fr_fX12_search_122_b69 ?_ _ _ _ _ _ _ _ _ _ _)
theorem fr_fX12_search_122  (v1 : Int32) (v2 : Int32) (μ : Mem) : Fm aM μ (fX12_search_122  v1 v2 μ) := by
  unfold fX12_search_122
  with_reducible repeat' first | assumption | exact Fr.refl | refine fr_sI ?_ rfl | refine fr_sL ?_ rfl | refine fr_sC ?_ rfl | exact fm_none | refine fm_some ?_ | refine fm_gd ?_ | refine fm_ite ?_ ?_ | refine fm_ltm ?_ (fun _ _ => ?_) | refine fm_lt ?_ | intro _ _ _ _ _ _ _ _ _ _ | intro _ _ _ _ _ _ _ _ _ | intro _ _ _ _ _ _ _ _ | intro _ _ _ _ _ _ _ | intro _ _ _ _ _ _ | intro _ _ _ _ _ | intro _ _ _ _ | intro _ _ _ | intro _ _ | intro _ | (apply fm_bnd; first | refine fr_fX12_isMan_122  _ _ | refine fr_fX12_search_122_b36  _ _ _ _ _ _ _ | refine fr_fX12_in  _ _ _ _) | (apply fm_tl; first | refine fr_fX12_isMan_122  _ _ | refine fr_fX12_search_122_b36  _ _ _ _ _ _ _ | refine fr_fX12_in  _ _ _ _)
theorem fr_fX11_ofJudge {A : Nat → Bool}  (v0 : Int32) (v1 : Int32) (v2 : Int32) (v3 : Int32) (μ : Mem) : Fm A μ (fX11_ofJudge  v0 v1 v2 v3 μ) := by
  unfold fX11_ofJudge
  with_reducible repeat' first | assumption | exact Fr.refl | refine fr_sI ?_ rfl | refine fr_sL ?_ rfl | refine fr_sC ?_ rfl | exact fm_none | refine fm_some ?_ | refine fm_gd ?_ | refine fm_ite ?_ ?_ | refine fm_ltm ?_ (fun _ _ => ?_) | refine fm_lt ?_ | intro _ _ _ _ _ _ _ _ _ _ | intro _ _ _ _ _ _ _ _ _ | intro _ _ _ _ _ _ _ _ | intro _ _ _ _ _ _ _ | intro _ _ _ _ _ _ | intro _ _ _ _ _ | intro _ _ _ _ | intro _ _ _ | intro _ _ | intro _
theorem fr_fX11_ofPrisoner {A : Nat → Bool}  (v0 : Int32) (v1 : Int32) (v2 : Int32) (v3 : Int32) (μ : Mem) : Fm A μ (fX11_ofPrisoner  v0 v1 v2 v3 μ) := by
  unfold fX11_ofPrisoner
  with_reducible repeat' first | assumption | exact Fr.refl | refine fr_sI ?_ rfl | refine fr_sL ?_ rfl | refine fr_sC ?_ rfl | exact fm_none | refine fm_some ?_ | refine fm_gd ?_ | refine fm_ite ?_ ?_ | refine fm_ltm ?_ (fun _ _ => ?_) | refine fm_lt ?_ | intro _ _ _ _ _ _ _ _ _ _ | intro _ _ _ _ _ _ _ _ _ | intro _ _ _ _ _ _ _ _ | intro _ _ _ _ _ _ _ | intro _ _ _ _ _ _ | intro _ _ _ _ _ | intro _ _ _ _ | intro _ _ _ | intro _ _ | intro _
theorem fr_fX11_isAtRest_b21 {A : Nat → Bool}  : ∀ n a0 a1 a2 a3 a4 a5 a6 μ, Fm A μ (fX11_isAtRest_b21  n a0 a1 a2 a3 a4 a5 a6 μ) := by
  intro n
  induction n with
  | zero =>
    intros
    exact fm_none
  | succ n ih =>
    intro a0 a1 a2 a3 a4 a5 a6 μ
    rw [fX11_isAtRest_b21]
    with_reducible repeat' first | assumption | exact Fr.refl | refine fr_sI ?_ rfl | refine fr_sL ?_ rfl | refine fr_sC ?_ rfl | exact fm_none | refine fm_some ?_ | refine fm_gd ?_ | refine fm_ite ?_ ?_ | refine fm_ltm ?_ (fun _ _ => ?_) | refine fm_lt ?_ | intro _ _ _ _ _ _ _ _ _ _ | intro _ _ _ _ _ _ _ _ _ | intro _ _ _ _ _ _ _ _ | intro _ _ _ _ _ _ _ | intro _ _ _ _ _ _ | intro _ _ _ _ _ | intro _ _ _ _ | intro _ _ _ | intro _ _ | intro _ | (apply fm_bnd; first | exact ih _ _ _ _ _ _ _ _ | refine fr_fX11_ofJudge  _ _ _ _ _ | refine fr_fX11_ofPrisoner  _ _ _ _ _) | (apply fm_tl; first | exact ih _ _ _ _ _ _ _ _ | refine fr_fX11_ofJudge  _ _ _ _ _ | refine fr_fX11_ofPrisoner  _ _ _ _ _)
theorem fr_fX11_isAtRest {A : Nat → Bool}  (v0 : Int32) (v1 : Int32) (v2 : Int32) (v3 : Int32) (μ : Mem) : Fm A μ (fX11_isAtRest  v0 v1 v2 v3 μ) := by
  unfold fX11_isAtRest
  with_reducible repeat' first | assumption | exact Fr.refl | refine fr_sI ?_ rfl | refine fr_sL ?_ rfl | refine fr_sC ?_ rfl | exact fm_none | refine fm_some ?_ | refine fm_gd ?_ | refine fm_ite ?_ ?_ | refine fm_ltm ?_ (fun _ _ => ?_) | refine fm_lt ?_ | intro _ _ _ _ _ _ _ _ _ _ | intro _ _ _ _ _ _ _ _ _ | intro _ _ _ _ _ _ _ _ | intro _ _ _ _ _ _ _ | intro _ _ _ _ _ _ | intro _ _ _ _ _ | intro _ _ _ _ | intro _ _ _ | intro _ _ | intro _ | (apply fm_bnd; first | refine fr_fX11_isAtRest_b21  _ _ _ _ _ _ _ _ _ | refine fr_fX11_ofJudge  _ _ _ _ _ | refine fr_fX11_ofPrisoner  _ _ _ _ _) | (apply fm_tl; first | refine fr_fX11_isAtRest_b21  _ _ _ _ _ _ _ _ _ | refine fr_fX11_ofJudge  _ _ _ _ _ | refine fr_fX11_ofPrisoner  _ _ _ _ _)
theorem fr_fX11_rests_0_b44 {k34 : Int32 → Int32 → Int32 → Int32 → Mem → Option (Int32 × Mem)} (hk34 : ∀ x0 x1 x2 x3 m, Fm aC m (k34 x0 x1 x2 x3 m)) : ∀ n a0 a1 a2 a3 a4 μ, Fm aC μ (fX11_rests_0_b44 k34 n a0 a1 a2 a3 a4 μ) := by
  intro n
  induction n with
  | zero =>
    intros
    exact fm_none
  | succ n ih =>
    intro a0 a1 a2 a3 a4 μ
    rw [fX11_rests_0_b44]
    with_reducible repeat' first | assumption | exact Fr.refl | refine fr_sI ?_ rfl | refine fr_sL ?_ rfl | refine fr_sC ?_ rfl | exact fm_none | refine fm_some ?_ | refine fm_gd ?_ | refine fm_ite ?_ ?_ | refine fm_ltm ?_ (fun _ _ => ?_) | refine fm_lt ?_ | intro _ _ _ _ _ _ _ _ _ _ | intro _ _ _ _ _ _ _ _ _ | intro _ _ _ _ _ _ _ _ | intro _ _ _ _ _ _ _ | intro _ _ _ _ _ _ | intro _ _ _ _ _ | intro _ _ _ _ | intro _ _ _ | intro _ _ | intro _ | (apply fm_bnd; first | exact ih _ _ _ _ _ _ | refine fr_fX7_tell__3  _ _ _ | refine fr_fX11_isAtRest  _ _ _ _ _ | exact hk34 _ _ _ _ _) | (apply fm_tl; first | exact ih _ _ _ _ _ _ | refine fr_fX7_tell__3  _ _ _ | refine fr_fX11_isAtRest  _ _ _ _ _ | exact hk34 _ _ _ _ _)
theorem fr_fX11_rests_0_b34  : ∀ n a0 a1 a2 a3 μ, Fm aC μ (fX11_rests_0_b34  n a0 a1 a2 a3 μ) := by
  intro n
  induction n with
  | zero =>
    intros
    exact fm_none
  | succ n ih =>
    intro a0 a1 a2 a3 μ
    rw [fX11_rests_0_b34]
    with_reducible repeat' first | assumption | exact Fr.refl | refine fr_sI ?_ rfl | refine fr_sL ?_ rfl | refine fr_sC ?_ rfl | exact fm_none | refine fm_some ?_ | refine fm_gd ?_ | refine fm_ite ?_ ?_ | refine fm_ltm ?_ (fun _ _ => ?_) | refine fm_lt ?_ | intro _ _ _ _ _ _ _ _ _ _ | intro _ _ _ _ _ _ _ _ _ | intro _ _ _ _ _ _ _ _ | intro _ _ _ _ _ _ _ | intro _ _ _ _ _ _ | intro _ _ _ _ _ | intro _ _ _ _ | intro _ _ _ | intro _ _ | intro _ | (apply fm_bnd; first | refine fr_fX11_rests_0_b44 ?_ _ _ _ _ _ _ _ | exact ih _ _ _ _ _) | (apply fm_tl; first | refine fr_fX11_rests_0_b44 ?_ _ _ _ _ _ _ _ | exact ih _ _ _ _ _)
theorem fr_fX11_rests_0  (v1 : Int32) (v2 : Int32) (μ : Mem) : Fm aC μ (fX11_rests_0  v1 v2 μ) := by
  unfold fX11_rests_0
  with_reducible repeat' first | assumption | exact Fr.refl | refine fr_sI ?_ rfl | refine fr_sL ?_ rfl | refine fr_sC ?_ rfl | exact fm_none | refine fm_some ?_ | refine fm_gd ?_ | refine fm_ite ?_ ?_ | refine fm_ltm ?_ (fun _ _ => ?_) | refine fm_lt ?_ | intro _ _ _ _ _ _ _ _ _ _ | intro _ _ _ _ _ _ _ _ _ | intro _ _ _ _ _ _ _ _ | intro _ _ _ _ _ _ _ | intro _ _ _ _ _ _ | intro _ _ _ _ _ | intro _ _ _ _ | intro _ _ _ | intro _ _ | intro _ | (apply fm_bnd; first | refine fr_fX7_clear_3  _ | refine fr_fX11_rests_0_b34  _ _ _ _ _ _) | (apply fm_tl; first | refine fr_fX7_clear_3  _ | refine fr_fX11_rests_0_b34  _ _ _ _ _ _)
theorem fr_fX12_judgeGets {A : Nat → Bool}  (v0 : Int32) (v1 : Int32) (v2 : Int32) (v3 : Int32) (μ : Mem) : Fm A μ (fX12_judgeGets  v0 v1 v2 v3 μ) := by
  unfold fX12_judgeGets
  with_reducible repeat' first | assumption | exact Fr.refl | refine fr_sI ?_ rfl | refine fr_sL ?_ rfl | refine fr_sC ?_ rfl | exact fm_none | refine fm_some ?_ | refine fm_gd ?_ | refine fm_ite ?_ ?_ | refine fm_ltm ?_ (fun _ _ => ?_) | refine fm_lt ?_ | intro _ _ _ _ _ _ _ _ _ _ | intro _ _ _ _ _ _ _ _ _ | intro _ _ _ _ _ _ _ _ | intro _ _ _ _ _ _ _ | intro _ _ _ _ _ _ | intro _ _ _ _ _ | intro _ _ _ _ | intro _ _ _ | intro _ _ | intro _
theorem fr_fX12_manGets {A : Nat → Bool}  (v0 : Int32) (v1 : Int32) (v2 : Int32) (v3 : Int32) (μ : Mem) : Fm A μ (fX12_manGets  v0 v1 v2 v3 μ) := by
  unfold fX12_manGets
  with_reducible repeat' first | assumption | exact Fr.refl | refine fr_sI ?_ rfl | refine fr_sL ?_ rfl | refine fr_sC ?_ rfl | exact fm_none | refine fm_some ?_ | refine fm_gd ?_ | refine fm_ite ?_ ?_ | refine fm_ltm ?_ (fun _ _ => ?_) | refine fm_lt ?_ | intro _ _ _ _ _ _ _ _ _ _ | intro _ _ _ _ _ _ _ _ _ | intro _ _ _ _ _ _ _ _ | intro _ _ _ _ _ _ _ | intro _ _ _ _ _ _ | intro _ _ _ _ _ | intro _ _ _ _ | intro _ _ _ | intro _ _ | intro _
theorem fr_fX12_isRest_b3 {A : Nat → Bool}  : ∀ n a0 a1 a2 a3 a4 μ, Fm A μ (fX12_isRest_b3  n a0 a1 a2 a3 a4 μ) := by
  intro n
  induction n with
  | zero =>
    intros
    exact fm_none
  | succ n ih =>
    intro a0 a1 a2 a3 a4 μ
    rw [fX12_isRest_b3]
    with_reducible repeat' first | assumption | exact Fr.refl | refine fr_sI ?_ rfl | refine fr_sL ?_ rfl | refine fr_sC ?_ rfl | exact fm_none | refine fm_some ?_ | refine fm_gd ?_ | refine fm_ite ?_ ?_ | refine fm_ltm ?_ (fun _ _ => ?_) | refine fm_lt ?_ | intro _ _ _ _ _ _ _ _ _ _ | intro _ _ _ _ _ _ _ _ _ | intro _ _ _ _ _ _ _ _ | intro _ _ _ _ _ _ _ | intro _ _ _ _ _ _ | intro _ _ _ _ _ | intro _ _ _ _ | intro _ _ _ | intro _ _ | intro _ | (apply fm_bnd; first | exact ih _ _ _ _ _ _ | refine fr_fX12_judgeGets  _ _ _ _ _ | refine fr_fX12_manGets  _ _ _ _ _) | (apply fm_tl; first | exact ih _ _ _ _ _ _ | refine fr_fX12_judgeGets  _ _ _ _ _ | refine fr_fX12_manGets  _ _ _ _ _)
theorem fr_fX12_isRest {A : Nat → Bool}  (v0 : Int32) (v1 : Int32) (v2 : Int32) (v3 : Int32) (μ : Mem) : Fm A μ (fX12_isRest  v0 v1 v2 v3 μ) := by
  unfold fX12_isRest
  with_reducible repeat' first | assumption | exact Fr.refl | refine fr_sI ?_ rfl | refine fr_sL ?_ rfl | refine fr_sC ?_ rfl | exact fm_none | refine fm_some ?_ | refine fm_gd ?_ | refine fm_ite ?_ ?_ | refine fm_ltm ?_ (fun _ _ => ?_) | refine fm_lt ?_ | intro _ _ _ _ _ _ _ _ _ _ | intro _ _ _ _ _ _ _ _ _ | intro _ _ _ _ _ _ _ _ | intro _ _ _ _ _ _ _ | intro _ _ _ _ _ _ | intro _ _ _ _ _ | intro _ _ _ _ | intro _ _ _ | intro _ _ | intro _ | (apply fm_bnd; first | refine fr_fX12_isRest_b3  _ _ _ _ _ _ _) | (apply fm_tl; first | refine fr_fX12_isRest_b3  _ _ _ _ _ _ _)
theorem fr_fX12_rests_122_b47 {k37 : Int32 → Int32 → Int32 → Int32 → Mem → Option (Int32 × Mem)} (hk37 : ∀ x0 x1 x2 x3 m, Fm aM m (k37 x0 x1 x2 x3 m)) : ∀ n a0 a1 a2 a3 a4 μ, Fm aM μ (fX12_rests_122_b47 k37 n a0 a1 a2 a3 a4 μ) := by
  intro n
  induction n with
  | zero =>
    intros
    exact fm_none
  | succ n ih =>
    intro a0 a1 a2 a3 a4 μ
    rw [fX12_rests_122_b47]
    with_reducible repeat' first | assumption | exact Fr.refl | refine fr_sI ?_ rfl | refine fr_sL ?_ rfl | refine fr_sC ?_ rfl | exact fm_none | refine fm_some ?_ | refine fm_gd ?_ | refine fm_ite ?_ ?_ | refine fm_ltm ?_ (fun _ _ => ?_) | refine fm_lt ?_ | intro _ _ _ _ _ _ _ _ _ _ | intro _ _ _ _ _ _ _ _ _ | intro _ _ _ _ _ _ _ _ | intro _ _ _ _ _ _ _ | intro _ _ _ _ _ _ | intro _ _ _ _ _ | intro _ _ _ _ | intro _ _ _ | intro _ _ | intro _ | (apply fm_bnd; first | refine fr_fX12_tell_122  _ _ | exact ih _ _ _ _ _ _ | refine fr_fX12_isRest  _ _ _ _ _ | exact hk37 _ _ _ _ _) | (apply fm_tl; first | refine fr_fX12_tell_122  _ _ | exact ih _ _ _ _ _ _ | refine fr_fX12_isRest  _ _ _ _ _ | exact hk37 _ _ _ _ _)
theorem fr_fX12_rests_122_b37  : ∀ n a0 a1 a2 a3 μ, Fm aM μ (fX12_rests_122_b37  n a0 a1 a2 a3 μ) := by
  intro n
  induction n with
  | zero =>
    intros
    exact fm_none
  | succ n ih =>
    intro a0 a1 a2 a3 μ
    rw [fX12_rests_122_b37]
    with_reducible repeat' first | assumption | exact Fr.refl | refine fr_sI ?_ rfl | refine fr_sL ?_ rfl | refine fr_sC ?_ rfl | exact fm_none | refine fm_some ?_ | refine fm_gd ?_ | refine fm_ite ?_ ?_ | refine fm_ltm ?_ (fun _ _ => ?_) | refine fm_lt ?_ | intro _ _ _ _ _ _ _ _ _ _ | intro _ _ _ _ _ _ _ _ _ | intro _ _ _ _ _ _ _ _ | intro _ _ _ _ _ _ _ | intro _ _ _ _ _ _ | intro _ _ _ _ _ | intro _ _ _ _ | intro _ _ _ | intro _ _ | intro _ | (apply fm_bnd; first | exact ih _ _ _ _ _ | refine fr_fX12_rests_122_b47 ?_ _ _ _ _ _ _ _) | (apply fm_tl; first | exact ih _ _ _ _ _ | refine fr_fX12_rests_122_b47 ?_ _ _ _ _ _ _ _)
theorem fr_fX12_rests_122  (v1 : Int32) (v2 : Int32) (μ : Mem) : Fm aM μ (fX12_rests_122  v1 v2 μ) := by
  unfold fX12_rests_122
  with_reducible repeat' first | assumption | exact Fr.refl | refine fr_sI ?_ rfl | refine fr_sL ?_ rfl | refine fr_sC ?_ rfl | exact fm_none | refine fm_some ?_ | refine fm_gd ?_ | refine fm_ite ?_ ?_ | refine fm_ltm ?_ (fun _ _ => ?_) | refine fm_lt ?_ | intro _ _ _ _ _ _ _ _ _ _ | intro _ _ _ _ _ _ _ _ _ | intro _ _ _ _ _ _ _ _ | intro _ _ _ _ _ _ _ | intro _ _ _ _ _ _ | intro _ _ _ _ _ | intro _ _ _ _ | intro _ _ _ | intro _ _ | intro _ | (apply fm_bnd; first | refine fr_fX12_rests_122_b37  _ _ _ _ _ _ | refine fr_fX12_in  _ _ _ _) | (apply fm_tl; first | refine fr_fX12_rests_122_b37  _ _ _ _ _ _ | refine fr_fX12_in  _ _ _ _)
theorem fr_fX11_drawn {A : Nat → Bool}  (v0 : Int32) (v1 : Int32) (μ : Mem) : Fm A μ (fX11_drawn  v0 v1 μ) := by
  unfold fX11_drawn
  with_reducible repeat' first | assumption | exact Fr.refl | refine fr_sI ?_ rfl | refine fr_sL ?_ rfl | refine fr_sC ?_ rfl | exact fm_none | refine fm_some ?_ | refine fm_gd ?_ | refine fm_ite ?_ ?_ | refine fm_ltm ?_ (fun _ _ => ?_) | refine fm_lt ?_ | intro _ _ _ _ _ _ _ _ _ _ | intro _ _ _ _ _ _ _ _ _ | intro _ _ _ _ _ _ _ _ | intro _ _ _ _ _ _ _ | intro _ _ _ _ _ _ | intro _ _ _ _ _ | intro _ _ _ _ | intro _ _ _ | intro _ _ | intro _
theorem fr_fX11_stirred {A : Nat → Bool}  (v0 : Int32) (μ : Mem) : Fm A μ (fX11_stirred  v0 μ) := by
  unfold fX11_stirred
  with_reducible repeat' first | assumption | exact Fr.refl | refine fr_sI ?_ rfl | refine fr_sL ?_ rfl | refine fr_sC ?_ rfl | exact fm_none | refine fm_some ?_ | refine fm_gd ?_ | refine fm_ite ?_ ?_ | refine fm_ltm ?_ (fun _ _ => ?_) | refine fm_lt ?_ | intro _ _ _ _ _ _ _ _ _ _ | intro _ _ _ _ _ _ _ _ _ | intro _ _ _ _ _ _ _ _ | intro _ _ _ _ _ _ _ | intro _ _ _ _ _ _ | intro _ _ _ _ _ | intro _ _ _ _ | intro _ _ _ | intro _ _ | intro _
theorem fr_fX4_has_38 {A : Nat → Bool}  (v1 : Int32) (μ : Mem) : Fm A μ (fX4_has_38  v1 μ) := by
  unfold fX4_has_38
  with_reducible repeat' first | assumption | exact Fr.refl | refine fr_sI ?_ rfl | refine fr_sL ?_ rfl | refine fr_sC ?_ rfl | exact fm_none | refine fm_some ?_ | refine fm_gd ?_ | refine fm_ite ?_ ?_ | refine fm_ltm ?_ (fun _ _ => ?_) | refine fm_lt ?_ | intro _ _ _ _ _ _ _ _ _ _ | intro _ _ _ _ _ _ _ _ _ | intro _ _ _ _ _ _ _ _ | intro _ _ _ _ _ _ _ | intro _ _ _ _ _ _ | intro _ _ _ _ _ | intro _ _ _ _ | intro _ _ _ | intro _ _ | intro _
theorem fr_fX4_leftNow_38  (v1 : Int32) (μ : Mem) : Fm aC μ (fX4_leftNow_38  v1 μ) := by
  unfold fX4_leftNow_38
  with_reducible repeat' first | assumption | exact Fr.refl | refine fr_sI ?_ rfl | refine fr_sL ?_ rfl | refine fr_sC ?_ rfl | exact fm_none | refine fm_some ?_ | refine fm_gd ?_ | refine fm_ite ?_ ?_ | refine fm_ltm ?_ (fun _ _ => ?_) | refine fm_lt ?_ | intro _ _ _ _ _ _ _ _ _ _ | intro _ _ _ _ _ _ _ _ _ | intro _ _ _ _ _ _ _ _ | intro _ _ _ _ _ _ _ | intro _ _ _ _ _ _ | intro _ _ _ _ _ | intro _ _ _ _ | intro _ _ _ | intro _ _ | intro _ | (apply fm_bnd; first | refine fr_fX4_leftWith_38  _ _ _ _ _) | (apply fm_tl; first | refine fr_fX4_leftWith_38  _ _ _ _ _)
theorem fr_fX4_askOf_38  (v1 : Int32) (μ : Mem) : Fm aC μ (fX4_askOf_38  v1 μ) := by
  unfold fX4_askOf_38
  with_reducible repeat' first | assumption | exact Fr.refl | refine fr_sI ?_ rfl | refine fr_sL ?_ rfl | refine fr_sC ?_ rfl | exact fm_none | refine fm_some ?_ | refine fm_gd ?_ | refine fm_ite ?_ ?_ | refine fm_ltm ?_ (fun _ _ => ?_) | refine fm_lt ?_ | intro _ _ _ _ _ _ _ _ _ _ | intro _ _ _ _ _ _ _ _ _ | intro _ _ _ _ _ _ _ _ | intro _ _ _ _ _ _ _ | intro _ _ _ _ _ _ | intro _ _ _ _ _ | intro _ _ _ _ | intro _ _ _ | intro _ _ | intro _ | (apply fm_bnd; first | refine fr_fX4_has_38  _ _ | refine fr_fX4_isSilent_38  _ _ | refine fr_fX4_leftNow_38  _ _) | (apply fm_tl; first | refine fr_fX4_has_38  _ _ | refine fr_fX4_isSilent_38  _ _ | refine fr_fX4_leftNow_38  _ _)
theorem fr_fX4_layOn_38  (v1 : Int32) (v2 : Int32) (μ : Mem) : Fm aC μ (fX4_layOn_38  v1 v2 μ) := by
  unfold fX4_layOn_38
  with_reducible repeat' first | assumption | exact Fr.refl | refine fr_sI ?_ rfl | refine fr_sL ?_ rfl | refine fr_sC ?_ rfl | exact fm_none | refine fm_some ?_ | refine fm_gd ?_ | refine fm_ite ?_ ?_ | refine fm_ltm ?_ (fun _ _ => ?_) | refine fm_lt ?_ | intro _ _ _ _ _ _ _ _ _ _ | intro _ _ _ _ _ _ _ _ _ | intro _ _ _ _ _ _ _ _ | intro _ _ _ _ _ _ _ | intro _ _ _ _ _ _ | intro _ _ _ _ _ | intro _ _ _ _ | intro _ _ _ | intro _ _ | intro _ | (apply fm_bnd; first | refine fr_fX4_has_38  _ _ | refine fr_fX4_isSilent_38  _ _) | (apply fm_tl; first | refine fr_fX4_has_38  _ _ | refine fr_fX4_isSilent_38  _ _)
theorem fr_fX4_wordIn_38 {A : Nat → Bool}  (v1 : Int32) (v2 : Int32) (μ : Mem) : Fm A μ (fX4_wordIn_38  v1 v2 μ) := by
  unfold fX4_wordIn_38
  with_reducible repeat' first | assumption | exact Fr.refl | refine fr_sI ?_ rfl | refine fr_sL ?_ rfl | refine fr_sC ?_ rfl | exact fm_none | refine fm_some ?_ | refine fm_gd ?_ | refine fm_ite ?_ ?_ | refine fm_ltm ?_ (fun _ _ => ?_) | refine fm_lt ?_ | intro _ _ _ _ _ _ _ _ _ _ | intro _ _ _ _ _ _ _ _ _ | intro _ _ _ _ _ _ _ _ | intro _ _ _ _ _ _ _ | intro _ _ _ _ _ _ | intro _ _ _ _ _ | intro _ _ _ _ | intro _ _ _ | intro _ _ | intro _
theorem fr_fX4_proofIn_38_b5 {A : Nat → Bool}  : ∀ n a0 a1 a2 a3 μ, Fm A μ (fX4_proofIn_38_b5  n a0 a1 a2 a3 μ) := by
  intro n
  induction n with
  | zero =>
    intros
    exact fm_none
  | succ n ih =>
    intro a0 a1 a2 a3 μ
    rw [fX4_proofIn_38_b5]
    with_reducible repeat' first | assumption | exact Fr.refl | refine fr_sI ?_ rfl | refine fr_sL ?_ rfl | refine fr_sC ?_ rfl | exact fm_none | refine fm_some ?_ | refine fm_gd ?_ | refine fm_ite ?_ ?_ | refine fm_ltm ?_ (fun _ _ => ?_) | refine fm_lt ?_ | intro _ _ _ _ _ _ _ _ _ _ | intro _ _ _ _ _ _ _ _ _ | intro _ _ _ _ _ _ _ _ | intro _ _ _ _ _ _ _ | intro _ _ _ _ _ _ | intro _ _ _ _ _ | intro _ _ _ _ | intro _ _ _ | intro _ _ | intro _ | (apply fm_bnd; first | refine fr_fX4_wordIn_38  _ _ _ | exact ih _ _ _ _ _) | (apply fm_tl; first | refine fr_fX4_wordIn_38  _ _ _ | exact ih _ _ _ _ _)
theorem fr_fX4_proofIn_38 {A : Nat → Bool}  (v1 : Int32) (v2 : Int32) (μ : Mem) : Fm A μ (fX4_proofIn_38  v1 v2 μ) := by
  unfold fX4_proofIn_38
  with_reducible repeat' first | assumption | exact Fr.refl | refine fr_sI ?_ rfl | refine fr_sL ?_ rfl | refine fr_sC ?_ rfl | exact fm_none | refine fm_some ?_ | refine fm_gd ?_ | refine fm_ite ?_ ?_ | refine fm_ltm ?_ (fun _ _ => ?_) | refine fm_lt ?_ | intro _ _ _ _ _ _ _ _ _ _ | intro _ _ _ _ _ _ _ _ _ | intro _ _ _ _ _ _ _ _ | intro _ _ _ _ _ _ _ | intro _ _ _ _ _ _ | intro _ _ _ _ _ | intro _ _ _ _ | intro _ _ _ | intro _ _ | intro _ | (apply fm_bnd; first | refine fr_fX4_proofIn_38_b5  _ _ _ _ _ _) | (apply fm_tl; first | refine fr_fX4_proofIn_38_b5  _ _ _ _ _ _)
theorem fr_fX4_verdictIn_38 {A : Nat → Bool}  (v1 : Int32) (v2 : Int32) (μ : Mem) : Fm A μ (fX4_verdictIn_38  v1 v2 μ) := by
  unfold fX4_verdictIn_38
  with_reducible repeat' first | assumption | exact Fr.refl | refine fr_sI ?_ rfl | refine fr_sL ?_ rfl | refine fr_sC ?_ rfl | exact fm_none | refine fm_some ?_ | refine fm_gd ?_ | refine fm_ite ?_ ?_ | refine fm_ltm ?_ (fun _ _ => ?_) | refine fm_lt ?_ | intro _ _ _ _ _ _ _ _ _ _ | intro _ _ _ _ _ _ _ _ _ | intro _ _ _ _ _ _ _ _ | intro _ _ _ _ _ _ _ | intro _ _ _ _ _ _ | intro _ _ _ _ _ | intro _ _ _ _ | intro _ _ _ | intro _ _ | intro _ | (apply fm_bnd; first | refine fr_fX4_proofIn_38  _ _ _) | (apply fm_tl; first | refine fr_fX4_proofIn_38  _ _ _)
theorem fr_fX4_tryNow_38  (v1 : Int32) (μ : Mem) : Fm aC μ (fX4_tryNow_38  v1 μ) := by
  unfold fX4_tryNow_38
  with_reducible repeat' first | assumption | exact Fr.refl | refine fr_sI ?_ rfl | refine fr_sL ?_ rfl | refine fr_sC ?_ rfl | exact fm_none | refine fm_some ?_ | refine fm_gd ?_ | refine fm_ite ?_ ?_ | refine fm_ltm ?_ (fun _ _ => ?_) | refine fm_lt ?_ | intro _ _ _ _ _ _ _ _ _ _ | intro _ _ _ _ _ _ _ _ _ | intro _ _ _ _ _ _ _ _ | intro _ _ _ _ _ _ _ | intro _ _ _ _ _ _ | intro _ _ _ _ _ | intro _ _ _ _ | intro _ _ _ | intro _ _ | intro _ | (apply fm_bnd; first | refine fr_fX4_has_38  _ _ | refine fr_fX4_verdictIn_38  _ _ _) | (apply fm_tl; first | refine fr_fX4_has_38  _ _ | refine fr_fX4_verdictIn_38  _ _ _)
theorem fr_fX4_performDrawn_38  (v1 : Int32) (v2 : Int32) (μ : Mem) : Fm aC μ (fX4_performDrawn_38  v1 v2 μ) := by
  unfold fX4_performDrawn_38
  with_reducible repeat' first | assumption | exact Fr.refl | refine fr_sI ?_ rfl | refine fr_sL ?_ rfl | refine fr_sC ?_ rfl | exact fm_none | refine fm_some ?_ | refine fm_gd ?_ | refine fm_ite ?_ ?_ | refine fm_ltm ?_ (fun _ _ => ?_) | refine fm_lt ?_ | intro _ _ _ _ _ _ _ _ _ _ | intro _ _ _ _ _ _ _ _ _ | intro _ _ _ _ _ _ _ _ | intro _ _ _ _ _ _ _ | intro _ _ _ _ _ _ | intro _ _ _ _ _ | intro _ _ _ _ | intro _ _ _ | intro _ _ | intro _ | (apply fm_bnd; first | refine fr_fX4_tryNow_38  _ _ | refine fr_fX4_layOn_38  _ _ _ | refine fr_fX4_askOf_38  _ _) | (apply fm_tl; first | refine fr_fX4_tryNow_38  _ _ | refine fr_fX4_layOn_38  _ _ _ | refine fr_fX4_askOf_38  _ _)
theorem fr_fX4_thoseWho_33_b4 {A : Nat → Bool}  : ∀ n a0 a1 a2 μ, Fm A μ (fX4_thoseWho_33_b4  n a0 a1 a2 μ) := by
  intro n
  induction n with
  | zero =>
    intros
    exact fm_none
  | succ n ih =>
    intro a0 a1 a2 μ
    rw [fX4_thoseWho_33_b4]
    with_reducible repeat' first | assumption | exact Fr.refl | refine fr_sI ?_ rfl | refine fr_sL ?_ rfl | refine fr_sC ?_ rfl | exact fm_none | refine fm_some ?_ | refine fm_gd ?_ | refine fm_ite ?_ ?_ | refine fm_ltm ?_ (fun _ _ => ?_) | refine fm_lt ?_ | intro _ _ _ _ _ _ _ _ _ _ | intro _ _ _ _ _ _ _ _ _ | intro _ _ _ _ _ _ _ _ | intro _ _ _ _ _ _ _ | intro _ _ _ _ _ _ | intro _ _ _ _ _ | intro _ _ _ _ | intro _ _ _ | intro _ _ | intro _ | (apply fm_bnd; first | exact ih _ _ _ _) | (apply fm_tl; first | exact ih _ _ _ _)
theorem fr_fX4_thoseWho_33 {A : Nat → Bool}  (v1 : Int32) (μ : Mem) : Fm A μ (fX4_thoseWho_33  v1 μ) := by
  unfold fX4_thoseWho_33
  with_reducible repeat' first | assumption | exact Fr.refl | refine fr_sI ?_ rfl | refine fr_sL ?_ rfl | refine fr_sC ?_ rfl | exact fm_none | refine fm_some ?_ | refine fm_gd ?_ | refine fm_ite ?_ ?_ | refine fm_ltm ?_ (fun _ _ => ?_) | refine fm_lt ?_ | intro _ _ _ _ _ _ _ _ _ _ | intro _ _ _ _ _ _ _ _ _ | intro _ _ _ _ _ _ _ _ | intro _ _ _ _ _ _ _ | intro _ _ _ _ _ _ | intro _ _ _ _ _ | intro _ _ _ _ | intro _ _ _ | intro _ _ | intro _ | (apply fm_bnd; first | refine fr_fX4_thoseWho_33_b4  _ _ _ _ _) | (apply fm_tl; first | refine fr_fX4_thoseWho_33_b4  _ _ _ _ _)
theorem fr_fX11_years_0_b42  : ∀ n a0 a1 a2 μ, Fm aC μ (fX11_years_0_b42  n a0 a1 a2 μ) := by
  intro n
  induction n with
  | zero =>
    intros
    exact fm_none
  | succ n ih =>
    intro a0 a1 a2 μ
    rw [fX11_years_0_b42]
    with_reducible repeat' first | assumption | exact Fr.refl | refine fr_sI ?_ rfl | refine fr_sL ?_ rfl | refine fr_sC ?_ rfl | exact fm_none | refine fm_some ?_ | refine fm_gd ?_ | refine fm_ite ?_ ?_ | refine fm_ltm ?_ (fun _ _ => ?_) | refine fm_lt ?_ | intro _ _ _ _ _ _ _ _ _ _ | intro _ _ _ _ _ _ _ _ _ | intro _ _ _ _ _ _ _ _ | intro _ _ _ _ _ _ _ | intro _ _ _ _ _ _ | intro _ _ _ _ _ | intro _ _ _ _ | intro _ _ _ | intro _ _ | intro _ | (apply fm_bnd; first | exact ih _ _ _ _ | refine fr_fX11_stirred  _ _ | refine fr_fX4_thoseWho_33  _ _ | refine fr_fX4_thoseWho_38  _ _ | refine fr_fX11_drawn  _ _ _ | refine fr_fX4_night_38  _ _ | refine fr_fJ6_bitCount_0f7a4  _ _ | refine fr_fX4_performDrawn_38  _ _ _ | refine fr_fX7_tell__3  _ _ _) | (apply fm_tl; first | exact ih _ _ _ _ | refine fr_fX11_stirred  _ _ | refine fr_fX4_thoseWho_33  _ _ | refine fr_fX4_thoseWho_38  _ _ | refine fr_fX11_drawn  _ _ _ | refine fr_fX4_night_38  _ _ | refine fr_fJ6_bitCount_0f7a4  _ _ | refine fr_fX4_performDrawn_38  _ _ _ | refine fr_fX7_tell__3  _ _ _)
theorem fr_fX11_years_0  (v1 : Int32) (v2 : Int32) (μ : Mem) : Fm aC μ (fX11_years_0  v1 v2 μ) := by
  unfold fX11_years_0
  with_reducible repeat' first | assumption | exact Fr.refl | refine fr_sI ?_ rfl | refine fr_sL ?_ rfl | refine fr_sC ?_ rfl | exact fm_none | refine fm_some ?_ | refine fm_gd ?_ | refine fm_ite ?_ ?_ | refine fm_ltm ?_ (fun _ _ => ?_) | refine fm_lt ?_ | intro _ _ _ _ _ _ _ _ _ _ | intro _ _ _ _ _ _ _ _ _ | intro _ _ _ _ _ _ _ _ | intro _ _ _ _ _ _ _ | intro _ _ _ _ _ _ | intro _ _ _ _ _ | intro _ _ _ _ | intro _ _ _ | intro _ _ | intro _ | (apply fm_bnd; first | refine fr_fX4_take_38_33  _ | refine fr_fX11_years_0_b42  _ _ _ _ _) | (apply fm_tl; first | refine fr_fX4_take_38_33  _ | refine fr_fX11_years_0_b42  _ _ _ _ _)
theorem fr_fX12_draw_122  (v1 : Int32) (μ : Mem) : Fm aM μ (fX12_draw_122  v1 μ) := by
  unfold fX12_draw_122
  with_reducible repeat' first | assumption | exact Fr.refl | refine fr_sI ?_ rfl | refine fr_sL ?_ rfl | refine fr_sC ?_ rfl | exact fm_none | refine fm_some ?_ | refine fm_gd ?_ | refine fm_ite ?_ ?_ | refine fm_ltm ?_ (fun _ _ => ?_) | refine fm_lt ?_ | intro _ _ _ _ _ _ _ _ _ _ | intro _ _ _ _ _ _ _ _ _ | intro _ _ _ _ _ _ _ _ | intro _ _ _ _ _ _ _ | intro _ _ _ _ _ _ | intro _ _ _ _ _ | intro _ _ _ _ | intro _ _ _ | intro _ _ | intro _
theorem fr_fX12_goLay_140  (v1 : Int32) (v2 : Int32) (μ : Mem) : Fm aM μ (fX12_goLay_140  v1 v2 μ) := by
  unfold fX12_goLay_140
  with_reducible repeat' first | assumption | exact Fr.refl | refine fr_sI ?_ rfl | refine fr_sL ?_ rfl | refine fr_sC ?_ rfl | exact fm_none | refine fm_some ?_ | refine fm_gd ?_ | refine fm_ite ?_ ?_ | refine fm_ltm ?_ (fun _ _ => ?_) | refine fm_lt ?_ | intro _ _ _ _ _ _ _ _ _ _ | intro _ _ _ _ _ _ _ _ _ | intro _ _ _ _ _ _ _ _ | intro _ _ _ _ _ _ _ | intro _ _ _ _ _ _ | intro _ _ _ _ _ | intro _ _ _ _ | intro _ _ _ | intro _ _ | intro _
theorem fr_fX12_goPlead_140  (v1 : Int32) (μ : Mem) : Fm aM μ (fX12_goPlead_140  v1 μ) := by
  unfold fX12_goPlead_140
  with_reducible repeat' first | assumption | exact Fr.refl | refine fr_sI ?_ rfl | refine fr_sL ?_ rfl | refine fr_sC ?_ rfl | exact fm_none | refine fm_some ?_ | refine fm_gd ?_ | refine fm_ite ?_ ?_ | refine fm_ltm ?_ (fun _ _ => ?_) | refine fm_lt ?_ | intro _ _ _ _ _ _ _ _ _ _ | intro _ _ _ _ _ _ _ _ _ | intro _ _ _ _ _ _ _ _ | intro _ _ _ _ _ _ _ | intro _ _ _ _ _ _ | intro _ _ _ _ _ | intro _ _ _ _ | intro _ _ _ | intro _ _ | intro _
theorem fr_fX12_proofIn_122_140_b6 {A : Nat → Bool}  : ∀ n a0 a1 a2 a3 μ, Fm A μ (fX12_proofIn_122_140_b6  n a0 a1 a2 a3 μ) := by
  intro n
  induction n with
  | zero =>
    intros
    exact fm_none
  | succ n ih =>
    intro a0 a1 a2 a3 μ
    rw [fX12_proofIn_122_140_b6]
    with_reducible repeat' first | assumption | exact Fr.refl | refine fr_sI ?_ rfl | refine fr_sL ?_ rfl | refine fr_sC ?_ rfl | exact fm_none | refine fm_some ?_ | refine fm_gd ?_ | refine fm_ite ?_ ?_ | refine fm_ltm ?_ (fun _ _ => ?_) | refine fm_lt ?_ | intro _ _ _ _ _ _ _ _ _ _ | intro _ _ _ _ _ _ _ _ _ | intro _ _ _ _ _ _ _ _ | intro _ _ _ _ _ _ _ | intro _ _ _ _ _ _ | intro _ _ _ _ _ | intro _ _ _ _ | intro _ _ _ | intro _ _ | intro _ | (apply fm_bnd; first | exact ih _ _ _ _ _) | (apply fm_tl; first | exact ih _ _ _ _ _)
theorem fr_fX12_proofIn_122_140 {A : Nat → Bool}  (v2 : Int32) (v3 : Int32) (μ : Mem) : Fm A μ (fX12_proofIn_122_140  v2 v3 μ) := by
  unfold fX12_proofIn_122_140
  with_reducible repeat' first | assumption | exact Fr.refl | refine fr_sI ?_ rfl | refine fr_sL ?_ rfl | refine fr_sC ?_ rfl | exact fm_none | refine fm_some ?_ | refine fm_gd ?_ | refine fm_ite ?_ ?_ | refine fm_ltm ?_ (fun _ _ => ?_) | refine fm_lt ?_ | intro _ _ _ _ _ _ _ _ _ _ | intro _ _ _ _ _ _ _ _ _ | intro _ _ _ _ _ _ _ _ | intro _ _ _ _ _ _ _ | intro _ _ _ _ _ _ | intro _ _ _ _ _ | intro _ _ _ _ | intro _ _ _ | intro _ _ | intro _ | (apply fm_bnd; first | refine fr_fX12_proofIn_122_140_b6  _ _ _ _ _ _) | (apply fm_tl; first | refine fr_fX12_proofIn_122_140_b6  _ _ _ _ _ _)
theorem fr_fX12_years_122_b195 {k49 : Int32 → Int32 → Int32 → Mem → Option (Int32 × Mem)} (hk49 : ∀ x0 x1 x2 m, Fm aM m (k49 x0 x1 x2 m)) (p2 : Int32) (p3 : Int32) (p4 : Int32) (μ : Mem) : Fm aM μ (fX12_years_122_b195 k49 p2 p3 p4 μ) := by
  unfold fX12_years_122_b195
  with_reducible repeat' first | assumption | exact Fr.refl | refine fr_sI ?_ rfl | refine fr_sL ?_ rfl | refine fr_sC ?_ rfl | exact fm_none | refine fm_some ?_ | refine fm_gd ?_ | refine fm_ite ?_ ?_ | refine fm_ltm ?_ (fun _ _ => ?_) | refine fm_lt ?_ | intro _ _ _ _ _ _ _ _ _ _ | intro _ _ _ _ _ _ _ _ _ | intro _ _ _ _ _ _ _ _ | intro _ _ _ _ _ _ _ | intro _ _ _ _ _ _ | intro _ _ _ _ _ | intro _ _ _ _ | intro _ _ _ | intro _ _ | intro _ | (apply fm_bnd; first | refine fr_fX12_goNight_122_140  _ | exact hk49 _ _ _ _) | (apply fm_tl; first | refine fr_fX12_goNight_122_140  _ | exact hk49 _ _ _ _)
theorem fr_fX12_years_122_b156 {k49 : Int32 → Int32 → Int32 → Mem → Option (Int32 × Mem)} (hk49 : ∀ x0 x1 x2 m, Fm aM m (k49 x0 x1 x2 m)) (p2 : Int32) (p3 : Int32) (p4 : Int32) (p5 : Int32) (p6 : Int32) (μ : Mem) : Fm aM μ (fX12_years_122_b156 k49 p2 p3 p4 p5 p6 μ) := by
  unfold fX12_years_122_b156
  with_reducible repeat' first | assumption | exact Fr.refl | refine fr_sI ?_ rfl | refine fr_sL ?_ rfl | refine fr_sC ?_ rfl | exact fm_none | refine fm_some ?_ | refine fm_gd ?_ | refine fm_ite ?_ ?_ | refine fm_ltm ?_ (fun _ _ => ?_) | refine fm_lt ?_ | intro _ _ _ _ _ _ _ _ _ _ | intro _ _ _ _ _ _ _ _ _ | intro _ _ _ _ _ _ _ _ | intro _ _ _ _ _ _ _ | intro _ _ _ _ _ _ | intro _ _ _ _ _ | intro _ _ _ _ | intro _ _ _ | intro _ _ | intro _ | (apply fm_bnd; first | refine fr_fX12_years_122_b195 ?_ _ _ _ _ | refine fr_fX12_proofIn_122_140  _ _ _ | refine fr_fX12_ending_122  _ _ | exact hk49 _ _ _ _) | (apply fm_tl; first | refine fr_fX12_years_122_b195 ?_ _ _ _ _ | refine fr_fX12_proofIn_122_140  _ _ _ | refine fr_fX12_ending_122  _ _ | exact hk49 _ _ _ _)
theorem fr_fX12_years_122_b109 {k49 : Int32 → Int32 → Int32 → Mem → Option (Int32 × Mem)} (hk49 : ∀ x0 x1 x2 m, Fm aM m (k49 x0 x1 x2 m)) (p2 : Int32) (p3 : Int32) (p4 : Int32) (p5 : Int32) (p6 : Int32) (μ : Mem) : Fm aM μ (fX12_years_122_b109 k49 p2 p3 p4 p5 p6 μ) := by
  unfold fX12_years_122_b109
  with_reducible repeat' first | assumption | exact Fr.refl | refine fr_sI ?_ rfl | refine fr_sL ?_ rfl | refine fr_sC ?_ rfl | exact fm_none | refine fm_some ?_ | refine fm_gd ?_ | refine fm_ite ?_ ?_ | refine fm_ltm ?_ (fun _ _ => ?_) | refine fm_lt ?_ | intro _ _ _ _ _ _ _ _ _ _ | intro _ _ _ _ _ _ _ _ _ | intro _ _ _ _ _ _ _ _ | intro _ _ _ _ _ _ _ | intro _ _ _ _ _ _ | intro _ _ _ _ _ | intro _ _ _ _ | intro _ _ _ | intro _ _ | intro _ | (apply fm_bnd; first | refine fr_fX12_doesSpeak_122  _ _ _ | refine fr_fX12_years_122_b156 ?_ _ _ _ _ _ _ | refine fr_fX12_leftNow_122_140  _ _ | refine fr_fX12_goPlead_140  _ _ | exact hk49 _ _ _ _) | (apply fm_tl; first | refine fr_fX12_doesSpeak_122  _ _ _ | refine fr_fX12_years_122_b156 ?_ _ _ _ _ _ _ | refine fr_fX12_leftNow_122_140  _ _ | refine fr_fX12_goPlead_140  _ _ | exact hk49 _ _ _ _)
theorem fr_fX12_years_122_b106 {k49 : Int32 → Int32 → Int32 → Mem → Option (Int32 × Mem)} (hk49 : ∀ x0 x1 x2 m, Fm aM m (k49 x0 x1 x2 m)) (p2 : Int32) (p3 : Int32) (p4 : Int32) (p5 : Int32) (p6 : Int32) (q0 : Int32) (q1 : Int32) (μ : Mem) : Fm aM μ (fX12_years_122_b106 k49 p2 p3 p4 p5 p6 q0 q1 μ) := by
  unfold fX12_years_122_b106
  with_reducible repeat' first | assumption | exact Fr.refl | refine fr_sI ?_ rfl | refine fr_sL ?_ rfl | refine fr_sC ?_ rfl | exact fm_none | refine fm_some ?_ | refine fm_gd ?_ | refine fm_ite ?_ ?_ | refine fm_ltm ?_ (fun _ _ => ?_) | refine fm_lt ?_ | intro _ _ _ _ _ _ _ _ _ _ | intro _ _ _ _ _ _ _ _ _ | intro _ _ _ _ _ _ _ _ | intro _ _ _ _ _ _ _ | intro _ _ _ _ _ _ | intro _ _ _ _ _ | intro _ _ _ _ | intro _ _ _ | intro _ _ | intro _ | (apply fm_bnd; first | refine fr_fX12_years_122_b109 ?_ _ _ _ _ _ _ | refine fr_fX12_goLay_140  _ _ _ | exact hk49 _ _ _ _) | (apply fm_tl; first | refine fr_fX12_years_122_b109 ?_ _ _ _ _ _ _ | refine fr_fX12_goLay_140  _ _ _ | exact hk49 _ _ _ _)
theorem fr_fX12_years_122_b49  : ∀ n a0 a1 a2 μ, Fm aM μ (fX12_years_122_b49  n a0 a1 a2 μ) := by
  intro n
  induction n with
  | zero =>
    intros
    exact fm_none
  | succ n ih =>
    intro a0 a1 a2 μ
    rw [fX12_years_122_b49]
    with_reducible repeat' first | assumption | exact Fr.refl | refine fr_sI ?_ rfl | refine fr_sL ?_ rfl | refine fr_sC ?_ rfl | exact fm_none | refine fm_some ?_ | refine fm_gd ?_ | refine fm_ite ?_ ?_ | refine fm_ltm ?_ (fun _ _ => ?_) | refine fm_lt ?_ | intro _ _ _ _ _ _ _ _ _ _ | intro _ _ _ _ _ _ _ _ _ | intro _ _ _ _ _ _ _ _ | intro _ _ _ _ _ _ _ | intro _ _ _ _ _ _ | intro _ _ _ _ _ | intro _ _ _ _ | intro _ _ _ | intro _ _ | intro _ | (apply fm_bnd; first | refine fr_fX12_tell_122  _ _ | refine fr_fX12_draw_122  _ _ | refine fr_fX12_years_122_b109 ?_ _ _ _ _ _ _ | refine fr_fX12_ofKind_122_123  _ _ | refine fr_fX12_years_122_b106 ?_ _ _ _ _ _ _ _ _ | refine fr_fX12_ofKind_122_140  _ _ | refine fr_fJ6_bitCount_0f7a4  _ _ | exact ih _ _ _ _) | (apply fm_tl; first | refine fr_fX12_tell_122  _ _ | refine fr_fX12_draw_122  _ _ | refine fr_fX12_years_122_b109 ?_ _ _ _ _ _ _ | refine fr_fX12_ofKind_122_123  _ _ | refine fr_fX12_years_122_b106 ?_ _ _ _ _ _ _ _ _ | refine fr_fX12_ofKind_122_140  _ _ | refine fr_fJ6_bitCount_0f7a4  _ _ | exact ih _ _ _ _)
theorem fr_fX12_years_122  (v1 : Int32) (v2 : Int32) (μ : Mem) : Fm aM μ (fX12_years_122  v1 v2 μ) := by
  unfold fX12_years_122
  with_reducible repeat' first | assumption | exact Fr.refl | refine fr_sI ?_ rfl | refine fr_sL ?_ rfl | refine fr_sC ?_ rfl | exact fm_none | refine fm_some ?_ | refine fm_gd ?_ | refine fm_ite ?_ ?_ | refine fm_ltm ?_ (fun _ _ => ?_) | refine fm_lt ?_ | intro _ _ _ _ _ _ _ _ _ _ | intro _ _ _ _ _ _ _ _ _ | intro _ _ _ _ _ _ _ _ | intro _ _ _ _ _ _ _ | intro _ _ _ _ _ _ | intro _ _ _ _ _ | intro _ _ _ _ | intro _ _ _ | intro _ _ | intro _ | (apply fm_bnd; first | refine fr_fX12_lay_123_140  _ _ | refine fr_fX12_years_122_b49  _ _ _ _ _ | refine fr_fX12_in  _ _ _ _) | (apply fm_tl; first | refine fr_fX12_lay_123_140  _ _ | refine fr_fX12_years_122_b49  _ _ _ _ _ | refine fr_fX12_in  _ _ _ _)
theorem fr_fX4_take_108_33   (μ : Mem) : Fm aC μ (fX4_take_108_33   μ) := by
  unfold fX4_take_108_33
  with_reducible repeat' first | assumption | exact Fr.refl | refine fr_sI ?_ rfl | refine fr_sL ?_ rfl | refine fr_sC ?_ rfl | exact fm_none | refine fm_some ?_ | refine fm_gd ?_ | refine fm_ite ?_ ?_ | refine fm_ltm ?_ (fun _ _ => ?_) | refine fm_lt ?_ | intro _ _ _ _ _ _ _ _ _ _ | intro _ _ _ _ _ _ _ _ _ | intro _ _ _ _ _ _ _ _ | intro _ _ _ _ _ _ _ | intro _ _ _ _ _ _ | intro _ _ _ _ _ | intro _ _ _ _ | intro _ _ _ | intro _ _ | intro _
theorem fr_fX4_take_113_33   (μ : Mem) : Fm aC μ (fX4_take_113_33   μ) := by
  unfold fX4_take_113_33
  with_reducible repeat' first | assumption | exact Fr.refl | refine fr_sI ?_ rfl | refine fr_sL ?_ rfl | refine fr_sC ?_ rfl | exact fm_none | refine fm_some ?_ | refine fm_gd ?_ | refine fm_ite ?_ ?_ | refine fm_ltm ?_ (fun _ _ => ?_) | refine fm_lt ?_ | intro _ _ _ _ _ _ _ _ _ _ | intro _ _ _ _ _ _ _ _ _ | intro _ _ _ _ _ _ _ _ | intro _ _ _ _ _ _ _ | intro _ _ _ _ _ _ | intro _ _ _ _ _ | intro _ _ _ _ | intro _ _ _ | intro _ _ | intro _
theorem fr_fX11_keep_0  (v1 : Int32) (μ : Mem) : Fm aC μ (fX11_keep_0  v1 μ) := by
  unfold fX11_keep_0
  with_reducible repeat' first | assumption | exact Fr.refl | refine fr_sI ?_ rfl | refine fr_sL ?_ rfl | refine fr_sC ?_ rfl | exact fm_none | refine fm_some ?_ | refine fm_gd ?_ | refine fm_ite ?_ ?_ | refine fm_ltm ?_ (fun _ _ => ?_) | refine fm_lt ?_ | intro _ _ _ _ _ _ _ _ _ _ | intro _ _ _ _ _ _ _ _ _ | intro _ _ _ _ _ _ _ _ | intro _ _ _ _ _ _ _ | intro _ _ _ _ _ _ | intro _ _ _ _ _ | intro _ _ _ _ | intro _ _ _ | intro _ _ | intro _ | (apply fm_bnd; first | refine fr_fX4_take_113_33  _ | refine fr_fX4_take_108_33  _) | (apply fm_tl; first | refine fr_fX4_take_113_33  _ | refine fr_fX4_take_108_33  _)
theorem fr_fX12_lay_123_146_b2  : ∀ n a0 a1 μ, Fm aM μ (fX12_lay_123_146_b2  n a0 a1 μ) := by
  intro n
  induction n with
  | zero =>
    intros
    exact fm_none
  | succ n ih =>
    intro a0 a1 μ
    rw [fX12_lay_123_146_b2]
    with_reducible repeat' first | assumption | exact Fr.refl | refine fr_sI ?_ rfl | refine fr_sL ?_ rfl | refine fr_sC ?_ rfl | exact fm_none | refine fm_some ?_ | refine fm_gd ?_ | refine fm_ite ?_ ?_ | refine fm_ltm ?_ (fun _ _ => ?_) | refine fm_lt ?_ | intro _ _ _ _ _ _ _ _ _ _ | intro _ _ _ _ _ _ _ _ _ | intro _ _ _ _ _ _ _ _ | intro _ _ _ _ _ _ _ | intro _ _ _ _ _ _ | intro _ _ _ _ _ | intro _ _ _ _ | intro _ _ _ | intro _ _ | intro _ | (apply fm_bnd; first | exact ih _ _ _) | (apply fm_tl; first | exact ih _ _ _)
theorem fr_fX12_lay_123_146  (v2 : Int32) (μ : Mem) : Fm aM μ (fX12_lay_123_146  v2 μ) := by
  unfold fX12_lay_123_146
  with_reducible repeat' first | assumption | exact Fr.refl | refine fr_sI ?_ rfl | refine fr_sL ?_ rfl | refine fr_sC ?_ rfl | exact fm_none | refine fm_some ?_ | refine fm_gd ?_ | refine fm_ite ?_ ?_ | refine fm_ltm ?_ (fun _ _ => ?_) | refine fm_lt ?_ | intro _ _ _ _ _ _ _ _ _ _ | intro _ _ _ _ _ _ _ _ _ | intro _ _ _ _ _ _ _ _ | intro _ _ _ _ _ _ _ | intro _ _ _ _ _ _ | intro _ _ _ _ _ | intro _ _ _ _ | intro _ _ _ | intro _ _ | intro _ | (apply fm_bnd; first | refine fr_fX12_lay_123_146_b2  _ _ _ _) | (apply fm_tl; first | refine fr_fX12_lay_123_146_b2  _ _ _ _)
theorem fr_fX12_keep_122  (v1 : Int32) (μ : Mem) : Fm aM μ (fX12_keep_122  v1 μ) := by
  unfold fX12_keep_122
  with_reducible repeat' first | assumption | exact Fr.refl | refine fr_sI ?_ rfl | refine fr_sL ?_ rfl | refine fr_sC ?_ rfl | exact fm_none | refine fm_some ?_ | refine fm_gd ?_ | refine fm_ite ?_ ?_ | refine fm_ltm ?_ (fun _ _ => ?_) | refine fm_lt ?_ | intro _ _ _ _ _ _ _ _ _ _ | intro _ _ _ _ _ _ _ _ _ | intro _ _ _ _ _ _ _ _ | intro _ _ _ _ _ _ _ | intro _ _ _ _ _ _ | intro _ _ _ _ _ | intro _ _ _ _ | intro _ _ _ | intro _ _ | intro _ | (apply fm_bnd; first | refine fr_fX12_lay_123_146  _ _ | refine fr_fX12_in  _ _ _ _) | (apply fm_tl; first | refine fr_fX12_lay_123_146  _ _ | refine fr_fX12_in  _ _ _ _)
theorem fr_fX4_take_33_108   (μ : Mem) : Fm aC μ (fX4_take_33_108   μ) := by
  unfold fX4_take_33_108
  with_reducible repeat' first | assumption | exact Fr.refl | refine fr_sI ?_ rfl | refine fr_sL ?_ rfl | refine fr_sC ?_ rfl | exact fm_none | refine fm_some ?_ | refine fm_gd ?_ | refine fm_ite ?_ ?_ | refine fm_ltm ?_ (fun _ _ => ?_) | refine fm_lt ?_ | intro _ _ _ _ _ _ _ _ _ _ | intro _ _ _ _ _ _ _ _ _ | intro _ _ _ _ _ _ _ _ | intro _ _ _ _ _ _ _ | intro _ _ _ _ _ _ | intro _ _ _ _ _ | intro _ _ _ _ | intro _ _ _ | intro _ _ | intro _
theorem fr_fX4_take_33_113   (μ : Mem) : Fm aC μ (fX4_take_33_113   μ) := by
  unfold fX4_take_33_113
  with_reducible repeat' first | assumption | exact Fr.refl | refine fr_sI ?_ rfl | refine fr_sL ?_ rfl | refine fr_sC ?_ rfl | exact fm_none | refine fm_some ?_ | refine fm_gd ?_ | refine fm_ite ?_ ?_ | refine fm_ltm ?_ (fun _ _ => ?_) | refine fm_lt ?_ | intro _ _ _ _ _ _ _ _ _ _ | intro _ _ _ _ _ _ _ _ _ | intro _ _ _ _ _ _ _ _ | intro _ _ _ _ _ _ _ | intro _ _ _ _ _ _ | intro _ _ _ _ _ | intro _ _ _ _ | intro _ _ _ | intro _ _ | intro _
theorem fr_fX11_again_0  (v1 : Int32) (μ : Mem) : Fm aC μ (fX11_again_0  v1 μ) := by
  unfold fX11_again_0
  with_reducible repeat' first | assumption | exact Fr.refl | refine fr_sI ?_ rfl | refine fr_sL ?_ rfl | refine fr_sC ?_ rfl | exact fm_none | refine fm_some ?_ | refine fm_gd ?_ | refine fm_ite ?_ ?_ | refine fm_ltm ?_ (fun _ _ => ?_) | refine fm_lt ?_ | intro _ _ _ _ _ _ _ _ _ _ | intro _ _ _ _ _ _ _ _ _ | intro _ _ _ _ _ _ _ _ | intro _ _ _ _ _ _ _ | intro _ _ _ _ _ _ | intro _ _ _ _ _ | intro _ _ _ _ | intro _ _ _ | intro _ _ | intro _ | (apply fm_bnd; first | refine fr_fX4_take_33_108  _ | refine fr_fX4_take_33_113  _ | refine fr_fX6_forget_29  _) | (apply fm_tl; first | refine fr_fX4_take_33_108  _ | refine fr_fX4_take_33_113  _ | refine fr_fX6_forget_29  _)
theorem fr_fX12_again_122_b40  : ∀ n a0 a1 μ, Fm aM μ (fX12_again_122_b40  n a0 a1 μ) := by
  intro n
  induction n with
  | zero =>
    intros
    exact fm_none
  | succ n ih =>
    intro a0 a1 μ
    rw [fX12_again_122_b40]
    with_reducible repeat' first | assumption | exact Fr.refl | refine fr_sI ?_ rfl | refine fr_sL ?_ rfl | refine fr_sC ?_ rfl | exact fm_none | refine fm_some ?_ | refine fm_gd ?_ | refine fm_ite ?_ ?_ | refine fm_ltm ?_ (fun _ _ => ?_) | refine fm_lt ?_ | intro _ _ _ _ _ _ _ _ _ _ | intro _ _ _ _ _ _ _ _ _ | intro _ _ _ _ _ _ _ _ | intro _ _ _ _ _ _ _ | intro _ _ _ _ _ _ | intro _ _ _ _ _ | intro _ _ _ _ | intro _ _ _ | intro _ _ | intro _ | (apply fm_bnd; first | exact ih _ _ _) | (apply fm_tl; first | exact ih _ _ _)
theorem fr_fX12_again_122  (v1 : Int32) (μ : Mem) : Fm aM μ (fX12_again_122  v1 μ) := by
  unfold fX12_again_122
  with_reducible repeat' first | assumption | exact Fr.refl | refine fr_sI ?_ rfl | refine fr_sL ?_ rfl | refine fr_sC ?_ rfl | exact fm_none | refine fm_some ?_ | refine fm_gd ?_ | refine fm_ite ?_ ?_ | refine fm_ltm ?_ (fun _ _ => ?_) | refine fm_lt ?_ | intro _ _ _ _ _ _ _ _ _ _ | intro _ _ _ _ _ _ _ _ _ | intro _ _ _ _ _ _ _ _ | intro _ _ _ _ _ _ _ | intro _ _ _ _ _ _ | intro _ _ _ _ _ | intro _ _ _ _ | intro _ _ _ | intro _ _ | intro _ | (apply fm_bnd; first | refine fr_fX12_again_122_b40  _ _ _ _ | refine fr_fX12_in  _ _ _ _) | (apply fm_tl; first | refine fr_fX12_again_122_b40  _ _ _ _ | refine fr_fX12_in  _ _ _ _)
theorem fr_fX11_count_0 {A : Nat → Bool}  (v1 : Int32) (μ : Mem) : Fm A μ (fX11_count_0  v1 μ) := by
  unfold fX11_count_0
  with_reducible repeat' first | assumption | exact Fr.refl | refine fr_sI ?_ rfl | refine fr_sL ?_ rfl | refine fr_sC ?_ rfl | exact fm_none | refine fm_some ?_ | refine fm_gd ?_ | refine fm_ite ?_ ?_ | refine fm_ltm ?_ (fun _ _ => ?_) | refine fm_lt ?_ | intro _ _ _ _ _ _ _ _ _ _ | intro _ _ _ _ _ _ _ _ _ | intro _ _ _ _ _ _ _ _ | intro _ _ _ _ _ _ _ | intro _ _ _ _ _ _ | intro _ _ _ _ _ | intro _ _ _ _ | intro _ _ _ | intro _ _ | intro _ | (apply fm_bnd; first | refine fr_fX4_thoseWho_33  _ _ | refine fr_fX3_allGoods_5  _) | (apply fm_tl; first | refine fr_fX4_thoseWho_33  _ _ | refine fr_fX3_allGoods_5  _)
theorem fr_fX12_count_122  (v1 : Int32) (μ : Mem) : Fm aM μ (fX12_count_122  v1 μ) := by
  unfold fX12_count_122
  with_reducible repeat' first | assumption | exact Fr.refl | refine fr_sI ?_ rfl | refine fr_sL ?_ rfl | refine fr_sC ?_ rfl | exact fm_none | refine fm_some ?_ | refine fm_gd ?_ | refine fm_ite ?_ ?_ | refine fm_ltm ?_ (fun _ _ => ?_) | refine fm_lt ?_ | intro _ _ _ _ _ _ _ _ _ _ | intro _ _ _ _ _ _ _ _ _ | intro _ _ _ _ _ _ _ _ | intro _ _ _ _ _ _ _ | intro _ _ _ _ _ _ | intro _ _ _ _ _ | intro _ _ _ _ | intro _ _ _ | intro _ _ | intro _ | (apply fm_bnd; first | refine fr_fX12_allGoods_122  _ | refine fr_fX12_ofKind_122_123  _ _) | (apply fm_tl; first | refine fr_fX12_allGoods_122  _ | refine fr_fX12_ofKind_122_123  _ _)
theorem fr_fX12_row_122  (v1 : Int32) (μ : Mem) : Fm aM μ (fX12_row_122  v1 μ) := by
  unfold fX12_row_122
  with_reducible repeat' first | assumption | exact Fr.refl | refine fr_sI ?_ rfl | refine fr_sL ?_ rfl | refine fr_sC ?_ rfl | exact fm_none | refine fm_some ?_ | refine fm_gd ?_ | refine fm_ite ?_ ?_ | refine fm_ltm ?_ (fun _ _ => ?_) | refine fm_lt ?_ | intro _ _ _ _ _ _ _ _ _ _ | intro _ _ _ _ _ _ _ _ _ | intro _ _ _ _ _ _ _ _ | intro _ _ _ _ _ _ _ | intro _ _ _ _ _ _ | intro _ _ _ _ _ | intro _ _ _ _ | intro _ _ _ | intro _ _ | intro _ | (apply fm_bnd; first | refine fr_fX12_lost_122  _ | refine fr_fX12_in  _ _ _ _) | (apply fm_tl; first | refine fr_fX12_lost_122  _ | refine fr_fX12_in  _ _ _ _)
theorem fr_fX11_prisoner_0  (v1 : Int32) (v2 : Int32) (μ : Mem) : Fm aC μ (fX11_prisoner_0  v1 v2 μ) := by
  unfold fX11_prisoner_0
  with_reducible repeat' first | assumption | exact Fr.refl | refine fr_sI ?_ rfl | refine fr_sL ?_ rfl | refine fr_sC ?_ rfl | exact fm_none | refine fm_some ?_ | refine fm_gd ?_ | refine fm_ite ?_ ?_ | refine fm_ltm ?_ (fun _ _ => ?_) | refine fm_lt ?_ | intro _ _ _ _ _ _ _ _ _ _ | intro _ _ _ _ _ _ _ _ _ | intro _ _ _ _ _ _ _ _ | intro _ _ _ _ _ _ _ | intro _ _ _ _ _ _ | intro _ _ _ _ _ | intro _ _ _ _ | intro _ _ _ | intro _ _ | intro _ | (apply fm_bnd; first | refine fr_fX11_isThere_0  _ _ | refine fr_fX4_leftNow_33  _ _ | refine fr_fX2_worthOf_24  _ _ | refine fr_fX4_proofIn_33  _ _ _) | (apply fm_tl; first | refine fr_fX11_isThere_0  _ _ | refine fr_fX4_leftNow_33  _ _ | refine fr_fX2_worthOf_24  _ _ | refine fr_fX4_proofIn_33  _ _ _)
theorem fr_fX11_witness_0 {A : Nat → Bool}  (v1 : Int32) (v2 : Int32) (μ : Mem) : Fm A μ (fX11_witness_0  v1 v2 μ) := by
  unfold fX11_witness_0
  with_reducible repeat' first | assumption | exact Fr.refl | refine fr_sI ?_ rfl | refine fr_sL ?_ rfl | refine fr_sC ?_ rfl | exact fm_none | refine fm_some ?_ | refine fm_gd ?_ | refine fm_ite ?_ ?_ | refine fm_ltm ?_ (fun _ _ => ?_) | refine fm_lt ?_ | intro _ _ _ _ _ _ _ _ _ _ | intro _ _ _ _ _ _ _ _ _ | intro _ _ _ _ _ _ _ _ | intro _ _ _ _ _ _ _ | intro _ _ _ _ _ _ | intro _ _ _ _ _ | intro _ _ _ _ | intro _ _ _ | intro _ _ | intro _
theorem fr_fX11_row_0 {A : Nat → Bool}  (v1 : Int32) (μ : Mem) : Fm A μ (fX11_row_0  v1 μ) := by
  unfold fX11_row_0
  with_reducible repeat' first | assumption | exact Fr.refl | refine fr_sI ?_ rfl | refine fr_sL ?_ rfl | refine fr_sC ?_ rfl | exact fm_none | refine fm_some ?_ | refine fm_gd ?_ | refine fm_ite ?_ ?_ | refine fm_ltm ?_ (fun _ _ => ?_) | refine fm_lt ?_ | intro _ _ _ _ _ _ _ _ _ _ | intro _ _ _ _ _ _ _ _ _ | intro _ _ _ _ _ _ _ _ | intro _ _ _ _ _ _ _ | intro _ _ _ _ _ _ | intro _ _ _ _ _ | intro _ _ _ _ | intro _ _ _ | intro _ _ | intro _
end Frames
