section Frames2
def aD (k : Nat) : Bool := !(Nat.ble 15 k && Nat.ble k 18)
def aN (k : Nat) : Bool := !(k == 139 || k == 141)
theorem ft_fX12_fault_122  (v1 : Int32) (μ : Mem) : Fm aN μ (fX12_fault_122  v1 μ) := by
  unfold fX12_fault_122
  with_reducible repeat' first | assumption | exact Fr.refl | refine fr_sI ?_ rfl | refine fr_sL ?_ rfl | refine fr_sC ?_ rfl | exact fm_none | refine fm_some ?_ | refine fm_gd ?_ | refine fm_ite ?_ ?_ | refine fm_ltm ?_ (fun _ _ => ?_) | refine fm_lt ?_ | intro _ _ _ _ _ _ _ _ _ _ | intro _ _ _ _ _ _ _ _ _ | intro _ _ _ _ _ _ _ _ | intro _ _ _ _ _ _ _ | intro _ _ _ _ _ _ | intro _ _ _ _ _ | intro _ _ _ _ | intro _ _ _ | intro _ _ | intro _ | (apply fm_bnd; first | refine fr_fX12_fine_122  _) | (apply fm_tl; first | refine fr_fX12_fine_122  _)
theorem ft_fX12_passes_122  (v1 : Int32) (μ : Mem) : Fm aN μ (fX12_passes_122  v1 μ) := by
  unfold fX12_passes_122
  with_reducible repeat' first | assumption | exact Fr.refl | refine fr_sI ?_ rfl | refine fr_sL ?_ rfl | refine fr_sC ?_ rfl | exact fm_none | refine fm_some ?_ | refine fm_gd ?_ | refine fm_ite ?_ ?_ | refine fm_ltm ?_ (fun _ _ => ?_) | refine fm_lt ?_ | intro _ _ _ _ _ _ _ _ _ _ | intro _ _ _ _ _ _ _ _ _ | intro _ _ _ _ _ _ _ _ | intro _ _ _ _ _ _ _ | intro _ _ _ _ _ _ | intro _ _ _ _ _ | intro _ _ _ _ | intro _ _ _ | intro _ _ | intro _ | (apply fm_bnd; first | refine fr_fX12_fine_122  _ | refine fr_fX12_here_122  _) | (apply fm_tl; first | refine fr_fX12_fine_122  _ | refine fr_fX12_here_122  _)
theorem ft_fX12_need_122  (v1 : Int32) (μ : Mem) : Fm aN μ (fX12_need_122  v1 μ) := by
  unfold fX12_need_122
  with_reducible repeat' first | assumption | exact Fr.refl | refine fr_sI ?_ rfl | refine fr_sL ?_ rfl | refine fr_sC ?_ rfl | exact fm_none | refine fm_some ?_ | refine fm_gd ?_ | refine fm_ite ?_ ?_ | refine fm_ltm ?_ (fun _ _ => ?_) | refine fm_lt ?_ | intro _ _ _ _ _ _ _ _ _ _ | intro _ _ _ _ _ _ _ _ _ | intro _ _ _ _ _ _ _ _ | intro _ _ _ _ _ _ _ | intro _ _ _ _ _ _ | intro _ _ _ _ _ | intro _ _ _ _ | intro _ _ _ | intro _ _ | intro _ | (apply fm_bnd; first | refine ft_fX12_passes_122  _ _ | refine ft_fX12_fault_122  _ _) | (apply fm_tl; first | refine ft_fX12_passes_122  _ _ | refine ft_fX12_fault_122  _ _)
theorem ft_fX12_oneOf_122  (v1 : Int32) (v2 : Int32) (μ : Mem) : Fm aN μ (fX12_oneOf_122  v1 v2 μ) := by
  unfold fX12_oneOf_122
  with_reducible repeat' first | assumption | exact Fr.refl | refine fr_sI ?_ rfl | refine fr_sL ?_ rfl | refine fr_sC ?_ rfl | exact fm_none | refine fm_some ?_ | refine fm_gd ?_ | refine fm_ite ?_ ?_ | refine fm_ltm ?_ (fun _ _ => ?_) | refine fm_lt ?_ | intro _ _ _ _ _ _ _ _ _ _ | intro _ _ _ _ _ _ _ _ _ | intro _ _ _ _ _ _ _ _ | intro _ _ _ _ _ _ _ | intro _ _ _ _ _ _ | intro _ _ _ _ _ | intro _ _ _ _ | intro _ _ _ | intro _ _ | intro _ | (apply fm_bnd; first | refine fr_fX12_fine_122  _ | refine fr_fX12_in  _ _ _ _ | refine ft_fX12_fault_122  _ _ | refine fr_fX12_here_122  _) | (apply fm_tl; first | refine fr_fX12_fine_122  _ | refine fr_fX12_in  _ _ _ _ | refine ft_fX12_fault_122  _ _ | refine fr_fX12_here_122  _)
theorem ft_fX12_number_122_b11  : ∀ n a0 a1 a2 μ, Fm aN μ (fX12_number_122_b11  n a0 a1 a2 μ) := by
  intro n
  induction n with
  | zero =>
    intros
    exact fm_none
  | succ n ih =>
    intro a0 a1 a2 μ
    rw [fX12_number_122_b11]
    with_reducible repeat' first | assumption | exact Fr.refl | refine fr_sI ?_ rfl | refine fr_sL ?_ rfl | refine fr_sC ?_ rfl | exact fm_none | refine fm_some ?_ | refine fm_gd ?_ | refine fm_ite ?_ ?_ | refine fm_ltm ?_ (fun _ _ => ?_) | refine fm_lt ?_ | intro _ _ _ _ _ _ _ _ _ _ | intro _ _ _ _ _ _ _ _ _ | intro _ _ _ _ _ _ _ _ | intro _ _ _ _ _ _ _ | intro _ _ _ _ _ _ | intro _ _ _ _ _ | intro _ _ _ _ | intro _ _ _ | intro _ _ | intro _ | (apply fm_bnd; first | refine fr_fX12_fine_122  _ | refine fr_fX12_in  _ _ _ _ | refine fr_fX12_here_122  _ | exact ih _ _ _ _ | refine ft_fX12_oneOf_122  _ _ _) | (apply fm_tl; first | refine fr_fX12_fine_122  _ | refine fr_fX12_in  _ _ _ _ | refine fr_fX12_here_122  _ | exact ih _ _ _ _ | refine ft_fX12_oneOf_122  _ _ _)
theorem ft_fX12_number_122  (v1 : Int32) (μ : Mem) : Fm aN μ (fX12_number_122  v1 μ) := by
  unfold fX12_number_122
  with_reducible repeat' first | assumption | exact Fr.refl | refine fr_sI ?_ rfl | refine fr_sL ?_ rfl | refine fr_sC ?_ rfl | exact fm_none | refine fm_some ?_ | refine fm_gd ?_ | refine fm_ite ?_ ?_ | refine fm_ltm ?_ (fun _ _ => ?_) | refine fm_lt ?_ | intro _ _ _ _ _ _ _ _ _ _ | intro _ _ _ _ _ _ _ _ _ | intro _ _ _ _ _ _ _ _ | intro _ _ _ _ _ _ _ | intro _ _ _ _ _ _ | intro _ _ _ _ _ | intro _ _ _ _ | intro _ _ _ | intro _ _ | intro _ | (apply fm_bnd; first | refine ft_fX12_number_122_b11  _ _ _ _ _ | refine ft_fX12_oneOf_122  _ _ _) | (apply fm_tl; first | refine ft_fX12_number_122_b11  _ _ _ _ _ | refine ft_fX12_oneOf_122  _ _ _)
theorem ft_fX12_product_122_b45 {rc : Int32 → Mem → Option (Int32 × Mem)} (hrc : ∀ x0 m, Fm aN m (rc x0 m)) {k6 : Int32 → Int32 → Mem → Option (Int32 × Mem)} (hk6 : ∀ x0 x1 m, Fm aN m (k6 x0 x1 m)) (p1 : Int32) (p2 : Int32) (q0 : Int32) (μ : Mem) : Fm aN μ (fX12_product_122_b45 rc k6 p1 p2 q0 μ) := by
  unfold fX12_product_122_b45
  with_reducible repeat' first | assumption | exact Fr.refl | refine fr_sI ?_ rfl | refine fr_sL ?_ rfl | refine fr_sC ?_ rfl | exact fm_none | refine fm_some ?_ | refine fm_gd ?_ | refine fm_ite ?_ ?_ | refine fm_ltm ?_ (fun _ _ => ?_) | refine fm_lt ?_ | intro _ _ _ _ _ _ _ _ _ _ | intro _ _ _ _ _ _ _ _ _ | intro _ _ _ _ _ _ _ _ | intro _ _ _ _ _ _ _ | intro _ _ _ _ _ _ | intro _ _ _ _ _ | intro _ _ _ _ | intro _ _ _ | intro _ _ | intro _ | (apply fm_bnd; first | exact hrc _ _ | exact hk6 _ _ _) | (apply fm_tl; first | exact hrc _ _ | exact hk6 _ _ _)
theorem ft_fX12_product_122_b31 {rc : Int32 → Mem → Option (Int32 × Mem)} (hrc : ∀ x0 m, Fm aN m (rc x0 m)) {k6 : Int32 → Int32 → Mem → Option (Int32 × Mem)} (hk6 : ∀ x0 x1 m, Fm aN m (k6 x0 x1 m)) (p1 : Int32) (p2 : Int32) (μ : Mem) : Fm aN μ (fX12_product_122_b31 rc k6 p1 p2 μ) := by
  unfold fX12_product_122_b31
  with_reducible repeat' first | assumption | exact Fr.refl | refine fr_sI ?_ rfl | refine fr_sL ?_ rfl | refine fr_sC ?_ rfl | exact fm_none | refine fm_some ?_ | refine fm_gd ?_ | refine fm_ite ?_ ?_ | refine fm_ltm ?_ (fun _ _ => ?_) | refine fm_lt ?_ | intro _ _ _ _ _ _ _ _ _ _ | intro _ _ _ _ _ _ _ _ _ | intro _ _ _ _ _ _ _ _ | intro _ _ _ _ _ _ _ | intro _ _ _ _ _ _ | intro _ _ _ _ _ | intro _ _ _ _ | intro _ _ _ | intro _ _ | intro _ | (apply fm_bnd; first | refine ft_fX12_product_122_b45 ?_ ?_ _ _ _ _ | refine fr_fX12_here_122  _ | exact hrc _ _ | exact hk6 _ _ _) | (apply fm_tl; first | refine ft_fX12_product_122_b45 ?_ ?_ _ _ _ _ | refine fr_fX12_here_122  _ | exact hrc _ _ | exact hk6 _ _ _)
theorem ft_fX12_product_122_b6 {rc : Int32 → Mem → Option (Int32 × Mem)} (hrc : ∀ x0 m, Fm aN m (rc x0 m)) : ∀ n a0 a1 μ, Fm aN μ (fX12_product_122_b6 rc n a0 a1 μ) := by
  intro n
  induction n with
  | zero =>
    intros
    exact fm_none
  | succ n ih =>
    intro a0 a1 μ
    rw [fX12_product_122_b6]
    with_reducible repeat' first | assumption | exact Fr.refl | refine fr_sI ?_ rfl | refine fr_sL ?_ rfl | refine fr_sC ?_ rfl | exact fm_none | refine fm_some ?_ | refine fm_gd ?_ | refine fm_ite ?_ ?_ | refine fm_ltm ?_ (fun _ _ => ?_) | refine fm_lt ?_ | intro _ _ _ _ _ _ _ _ _ _ | intro _ _ _ _ _ _ _ _ _ | intro _ _ _ _ _ _ _ _ | intro _ _ _ _ _ _ _ | intro _ _ _ _ _ _ | intro _ _ _ _ _ | intro _ _ _ _ | intro _ _ _ | intro _ _ | intro _ | (apply fm_bnd; first | refine fr_fX12_fine_122  _ | refine ft_fX12_product_122_b31 ?_ ?_ _ _ _ | refine fr_fX12_here_122  _ | exact ih _ _ _ | exact hrc _ _) | (apply fm_tl; first | refine fr_fX12_fine_122  _ | refine ft_fX12_product_122_b31 ?_ ?_ _ _ _ | refine fr_fX12_here_122  _ | exact ih _ _ _ | exact hrc _ _)
theorem ft_fX12_product_122 {rc : Int32 → Mem → Option (Int32 × Mem)} (hrc : ∀ x0 m, Fm aN m (rc x0 m)) (v1 : Int32) (μ : Mem) : Fm aN μ (fX12_product_122 rc v1 μ) := by
  unfold fX12_product_122
  with_reducible repeat' first | assumption | exact Fr.refl | refine fr_sI ?_ rfl | refine fr_sL ?_ rfl | refine fr_sC ?_ rfl | exact fm_none | refine fm_some ?_ | refine fm_gd ?_ | refine fm_ite ?_ ?_ | refine fm_ltm ?_ (fun _ _ => ?_) | refine fm_lt ?_ | intro _ _ _ _ _ _ _ _ _ _ | intro _ _ _ _ _ _ _ _ _ | intro _ _ _ _ _ _ _ _ | intro _ _ _ _ _ _ _ | intro _ _ _ _ _ _ | intro _ _ _ _ _ | intro _ _ _ _ | intro _ _ _ | intro _ _ | intro _ | (apply fm_bnd; first | refine ft_fX12_product_122_b6 ?_ _ _ _ _ | exact hrc _ _) | (apply fm_tl; first | refine ft_fX12_product_122_b6 ?_ _ _ _ _ | exact hrc _ _)
theorem ft_fX12_sum_122_b45 {rc : Int32 → Mem → Option (Int32 × Mem)} (hrc : ∀ x0 m, Fm aN m (rc x0 m)) {k6 : Int32 → Int32 → Mem → Option (Int32 × Mem)} (hk6 : ∀ x0 x1 m, Fm aN m (k6 x0 x1 m)) (p1 : Int32) (p2 : Int32) (q0 : Int32) (μ : Mem) : Fm aN μ (fX12_sum_122_b45 rc k6 p1 p2 q0 μ) := by
  unfold fX12_sum_122_b45
  with_reducible repeat' first | assumption | exact Fr.refl | refine fr_sI ?_ rfl | refine fr_sL ?_ rfl | refine fr_sC ?_ rfl | exact fm_none | refine fm_some ?_ | refine fm_gd ?_ | refine fm_ite ?_ ?_ | refine fm_ltm ?_ (fun _ _ => ?_) | refine fm_lt ?_ | intro _ _ _ _ _ _ _ _ _ _ | intro _ _ _ _ _ _ _ _ _ | intro _ _ _ _ _ _ _ _ | intro _ _ _ _ _ _ _ | intro _ _ _ _ _ _ | intro _ _ _ _ _ | intro _ _ _ _ | intro _ _ _ | intro _ _ | intro _ | (apply fm_bnd; first | refine ft_fX12_product_122 ?_ _ _ | exact hrc _ _ | exact hk6 _ _ _) | (apply fm_tl; first | refine ft_fX12_product_122 ?_ _ _ | exact hrc _ _ | exact hk6 _ _ _)
theorem ft_fX12_sum_122_b31 {rc : Int32 → Mem → Option (Int32 × Mem)} (hrc : ∀ x0 m, Fm aN m (rc x0 m)) {k6 : Int32 → Int32 → Mem → Option (Int32 × Mem)} (hk6 : ∀ x0 x1 m, Fm aN m (k6 x0 x1 m)) (p1 : Int32) (p2 : Int32) (μ : Mem) : Fm aN μ (fX12_sum_122_b31 rc k6 p1 p2 μ) := by
  unfold fX12_sum_122_b31
  with_reducible repeat' first | assumption | exact Fr.refl | refine fr_sI ?_ rfl | refine fr_sL ?_ rfl | refine fr_sC ?_ rfl | exact fm_none | refine fm_some ?_ | refine fm_gd ?_ | refine fm_ite ?_ ?_ | refine fm_ltm ?_ (fun _ _ => ?_) | refine fm_lt ?_ | intro _ _ _ _ _ _ _ _ _ _ | intro _ _ _ _ _ _ _ _ _ | intro _ _ _ _ _ _ _ _ | intro _ _ _ _ _ _ _ | intro _ _ _ _ _ _ | intro _ _ _ _ _ | intro _ _ _ _ | intro _ _ _ | intro _ _ | intro _ | (apply fm_bnd; first | refine ft_fX12_sum_122_b45 ?_ ?_ _ _ _ _ | refine fr_fX12_here_122  _ | exact hrc _ _ | exact hk6 _ _ _) | (apply fm_tl; first | refine ft_fX12_sum_122_b45 ?_ ?_ _ _ _ _ | refine fr_fX12_here_122  _ | exact hrc _ _ | exact hk6 _ _ _)
theorem ft_fX12_sum_122_b6 {rc : Int32 → Mem → Option (Int32 × Mem)} (hrc : ∀ x0 m, Fm aN m (rc x0 m)) : ∀ n a0 a1 μ, Fm aN μ (fX12_sum_122_b6 rc n a0 a1 μ) := by
  intro n
  induction n with
  | zero =>
    intros
    exact fm_none
  | succ n ih =>
    intro a0 a1 μ
    rw [fX12_sum_122_b6]
    with_reducible repeat' first | assumption | exact Fr.refl | refine fr_sI ?_ rfl | refine fr_sL ?_ rfl | refine fr_sC ?_ rfl | exact fm_none | refine fm_some ?_ | refine fm_gd ?_ | refine fm_ite ?_ ?_ | refine fm_ltm ?_ (fun _ _ => ?_) | refine fm_lt ?_ | intro _ _ _ _ _ _ _ _ _ _ | intro _ _ _ _ _ _ _ _ _ | intro _ _ _ _ _ _ _ _ | intro _ _ _ _ _ _ _ | intro _ _ _ _ _ _ | intro _ _ _ _ _ | intro _ _ _ _ | intro _ _ _ | intro _ _ | intro _ | (apply fm_bnd; first | refine fr_fX12_fine_122  _ | exact ih _ _ _ | refine fr_fX12_here_122  _ | refine ft_fX12_sum_122_b31 ?_ ?_ _ _ _ | exact hrc _ _) | (apply fm_tl; first | refine fr_fX12_fine_122  _ | exact ih _ _ _ | refine fr_fX12_here_122  _ | refine ft_fX12_sum_122_b31 ?_ ?_ _ _ _ | exact hrc _ _)
theorem ft_fX12_sum_122 {rc : Int32 → Mem → Option (Int32 × Mem)} (hrc : ∀ x0 m, Fm aN m (rc x0 m)) (v1 : Int32) (μ : Mem) : Fm aN μ (fX12_sum_122 rc v1 μ) := by
  unfold fX12_sum_122
  with_reducible repeat' first | assumption | exact Fr.refl | refine fr_sI ?_ rfl | refine fr_sL ?_ rfl | refine fr_sC ?_ rfl | exact fm_none | refine fm_some ?_ | refine fm_gd ?_ | refine fm_ite ?_ ?_ | refine fm_ltm ?_ (fun _ _ => ?_) | refine fm_lt ?_ | intro _ _ _ _ _ _ _ _ _ _ | intro _ _ _ _ _ _ _ _ _ | intro _ _ _ _ _ _ _ _ | intro _ _ _ _ _ _ _ | intro _ _ _ _ _ _ | intro _ _ _ _ _ | intro _ _ _ _ | intro _ _ _ | intro _ _ | intro _ | (apply fm_bnd; first | refine ft_fX12_product_122 ?_ _ _ | refine ft_fX12_sum_122_b6 ?_ _ _ _ _ | exact hrc _ _) | (apply fm_tl; first | refine ft_fX12_product_122 ?_ _ _ | refine ft_fX12_sum_122_b6 ?_ _ _ _ _ | exact hrc _ _)
theorem ft_fX12_held_122 {rc : Int32 → Mem → Option (Int32 × Mem)} (hrc : ∀ x0 m, Fm aN m (rc x0 m)) (v1 : Int32) (μ : Mem) : Fm aN μ (fX12_held_122 rc v1 μ) := by
  unfold fX12_held_122
  with_reducible repeat' first | assumption | exact Fr.refl | refine fr_sI ?_ rfl | refine fr_sL ?_ rfl | refine fr_sC ?_ rfl | exact fm_none | refine fm_some ?_ | refine fm_gd ?_ | refine fm_ite ?_ ?_ | refine fm_ltm ?_ (fun _ _ => ?_) | refine fm_lt ?_ | intro _ _ _ _ _ _ _ _ _ _ | intro _ _ _ _ _ _ _ _ _ | intro _ _ _ _ _ _ _ _ | intro _ _ _ _ _ _ _ | intro _ _ _ _ _ _ | intro _ _ _ _ _ | intro _ _ _ _ | intro _ _ _ | intro _ _ | intro _ | (apply fm_bnd; first | refine ft_fX12_passes_122  _ _ | refine ft_fX12_sum_122 ?_ _ _ | exact hrc _ _) | (apply fm_tl; first | refine ft_fX12_passes_122  _ _ | refine ft_fX12_sum_122 ?_ _ _ | exact hrc _ _)
theorem ft_fX12_thing_122_b67 {rc : Int32 → Mem → Option (Int32 × Mem)} (hrc : ∀ x0 m, Fm aN m (rc x0 m)) (p2 : Int32) (μ : Mem) : Fm aN μ (fX12_thing_122_b67 rc p2 μ) := by
  unfold fX12_thing_122_b67
  with_reducible repeat' first | assumption | exact Fr.refl | refine fr_sI ?_ rfl | refine fr_sL ?_ rfl | refine fr_sC ?_ rfl | exact fm_none | refine fm_some ?_ | refine fm_gd ?_ | refine fm_ite ?_ ?_ | refine fm_ltm ?_ (fun _ _ => ?_) | refine fm_lt ?_ | intro _ _ _ _ _ _ _ _ _ _ | intro _ _ _ _ _ _ _ _ _ | intro _ _ _ _ _ _ _ _ | intro _ _ _ _ _ _ _ | intro _ _ _ _ _ _ | intro _ _ _ _ _ | intro _ _ _ _ | intro _ _ _ | intro _ _ | intro _ | (apply fm_bnd; first | refine fr_fX12_in  _ _ _ _ | refine ft_fX12_fault_122  _ _ | refine ft_fX12_number_122  _ _ | refine fr_fX12_letterOf  _ _ | exact hrc _ _) | (apply fm_tl; first | refine fr_fX12_in  _ _ _ _ | refine ft_fX12_fault_122  _ _ | refine ft_fX12_number_122  _ _ | refine fr_fX12_letterOf  _ _ | exact hrc _ _)
theorem ft_fX12_thing_122_r {rc : Int32 → Mem → Option (Int32 × Mem)} (hrc : ∀ x0 m, Fm aN m (rc x0 m)) (v1 : Int32) (μ : Mem) : Fm aN μ (fX12_thing_122_r rc v1 μ) := by
  unfold fX12_thing_122_r
  with_reducible repeat' first | assumption | exact Fr.refl | refine fr_sI ?_ rfl | refine fr_sL ?_ rfl | refine fr_sC ?_ rfl | exact fm_none | refine fm_some ?_ | refine fm_gd ?_ | refine fm_ite ?_ ?_ | refine fm_ltm ?_ (fun _ _ => ?_) | refine fm_lt ?_ | intro _ _ _ _ _ _ _ _ _ _ | intro _ _ _ _ _ _ _ _ _ | intro _ _ _ _ _ _ _ _ | intro _ _ _ _ _ _ _ | intro _ _ _ _ _ _ | intro _ _ _ _ _ | intro _ _ _ _ | intro _ _ _ | intro _ _ | intro _ | (apply fm_bnd; first | refine ft_fX12_held_122 ?_ _ _ | refine fr_fX12_fine_122  _ | refine ft_fX12_thing_122_b67 ?_ _ _ | refine ft_fX12_need_122  _ _ | refine fr_fX12_here_122  _ | refine ft_fX12_passes_122  _ _ | exact hrc _ _) | (apply fm_tl; first | refine ft_fX12_held_122 ?_ _ _ | refine fr_fX12_fine_122  _ | refine ft_fX12_thing_122_b67 ?_ _ _ | refine ft_fX12_need_122  _ _ | refine fr_fX12_here_122  _ | refine ft_fX12_passes_122  _ _ | exact hrc _ _)
theorem ft_fX12_thing_122  : ∀ n a0 μ, Fm aN μ (fX12_thing_122  n a0 μ) := by
  intro n
  induction n with
  | zero =>
    intros
    exact fm_none
  | succ n ih =>
    intro a0 μ
    rw [fX12_thing_122]
    with_reducible repeat' first | assumption | exact Fr.refl | refine fr_sI ?_ rfl | refine fr_sL ?_ rfl | refine fr_sC ?_ rfl | exact fm_none | refine fm_some ?_ | refine fm_gd ?_ | refine fm_ite ?_ ?_ | refine fm_ltm ?_ (fun _ _ => ?_) | refine fm_lt ?_ | intro _ _ _ _ _ _ _ _ _ _ | intro _ _ _ _ _ _ _ _ _ | intro _ _ _ _ _ _ _ _ | intro _ _ _ _ _ _ _ | intro _ _ _ _ _ _ | intro _ _ _ _ _ | intro _ _ _ _ | intro _ _ _ | intro _ _ | intro _ | (apply fm_bnd; first | refine ft_fX12_thing_122_r ?_ _ _ | exact ih _ _) | (apply fm_tl; first | refine ft_fX12_thing_122_r ?_ _ _ | exact ih _ _)
theorem ft_fX12_begin_122_136  (v2 : Int32) (v3 : Int32) (μ : Mem) : Fm aN μ (fX12_begin_122_136  v2 v3 μ) := by
  unfold fX12_begin_122_136
  with_reducible repeat' first | assumption | exact Fr.refl | refine fr_sI ?_ rfl | refine fr_sL ?_ rfl | refine fr_sC ?_ rfl | exact fm_none | refine fm_some ?_ | refine fm_gd ?_ | refine fm_ite ?_ ?_ | refine fm_ltm ?_ (fun _ _ => ?_) | refine fm_lt ?_ | intro _ _ _ _ _ _ _ _ _ _ | intro _ _ _ _ _ _ _ _ _ | intro _ _ _ _ _ _ _ _ | intro _ _ _ _ _ _ _ | intro _ _ _ _ _ _ | intro _ _ _ _ _ | intro _ _ _ _ | intro _ _ _ | intro _ _ | intro _
theorem ft_fX12_leftOf_122  (v1 : Int32) (v2 : Int32) (v3 : Int32) (v4 : Int32) (μ : Mem) : Fm aN μ (fX12_leftOf_122  v1 v2 v3 v4 μ) := by
  unfold fX12_leftOf_122
  with_reducible repeat' first | assumption | exact Fr.refl | refine fr_sI ?_ rfl | refine fr_sL ?_ rfl | refine fr_sC ?_ rfl | exact fm_none | refine fm_some ?_ | refine fm_gd ?_ | refine fm_ite ?_ ?_ | refine fm_ltm ?_ (fun _ _ => ?_) | refine fm_lt ?_ | intro _ _ _ _ _ _ _ _ _ _ | intro _ _ _ _ _ _ _ _ _ | intro _ _ _ _ _ _ _ _ | intro _ _ _ _ _ _ _ | intro _ _ _ _ _ _ | intro _ _ _ _ _ | intro _ _ _ _ | intro _ _ _ | intro _ _ | intro _ | (apply fm_bnd; first | refine ft_fX12_begin_122_136  _ _ _ | refine ft_fX12_held_122 ?_ _ _ | refine fr_fX12_leftOf_122_b114  _ _ | refine ft_fX12_thing_122  _ _ _) | (apply fm_tl; first | refine ft_fX12_begin_122_136  _ _ _ | refine ft_fX12_held_122 ?_ _ _ | refine fr_fX12_leftOf_122_b114  _ _ | refine ft_fX12_thing_122  _ _ _)
theorem ft_fX12_leftNow_122_123  (v2 : Int32) (μ : Mem) : Fm aN μ (fX12_leftNow_122_123  v2 μ) := by
  unfold fX12_leftNow_122_123
  with_reducible repeat' first | assumption | exact Fr.refl | refine fr_sI ?_ rfl | refine fr_sL ?_ rfl | refine fr_sC ?_ rfl | exact fm_none | refine fm_some ?_ | refine fm_gd ?_ | refine fm_ite ?_ ?_ | refine fm_ltm ?_ (fun _ _ => ?_) | refine fm_lt ?_ | intro _ _ _ _ _ _ _ _ _ _ | intro _ _ _ _ _ _ _ _ _ | intro _ _ _ _ _ _ _ _ | intro _ _ _ _ _ _ _ | intro _ _ _ _ _ _ | intro _ _ _ _ _ | intro _ _ _ _ | intro _ _ _ | intro _ _ | intro _ | (apply fm_bnd; first | refine ft_fX12_leftOf_122  _ _ _ _ _) | (apply fm_tl; first | refine ft_fX12_leftOf_122  _ _ _ _ _)
theorem ft_fX4_layOn_33  (v1 : Int32) (v2 : Int32) (μ : Mem) : Fm aD μ (fX4_layOn_33  v1 v2 μ) := by
  unfold fX4_layOn_33
  with_reducible repeat' first | assumption | exact Fr.refl | refine fr_sI ?_ rfl | refine fr_sL ?_ rfl | refine fr_sC ?_ rfl | exact fm_none | refine fm_some ?_ | refine fm_gd ?_ | refine fm_ite ?_ ?_ | refine fm_ltm ?_ (fun _ _ => ?_) | refine fm_lt ?_ | intro _ _ _ _ _ _ _ _ _ _ | intro _ _ _ _ _ _ _ _ _ | intro _ _ _ _ _ _ _ _ | intro _ _ _ _ _ _ _ | intro _ _ _ _ _ _ | intro _ _ _ _ _ | intro _ _ _ _ | intro _ _ _ | intro _ _ | intro _ | (apply fm_bnd; first | refine fr_fX4_has_33  _ _ | refine fr_fX4_isSilent_33  _ _) | (apply fm_tl; first | refine fr_fX4_has_33  _ _ | refine fr_fX4_isSilent_33  _ _)
theorem ft_fX12_goLay_123  (v1 : Int32) (v2 : Int32) (μ : Mem) : Fm aN μ (fX12_goLay_123  v1 v2 μ) := by
  unfold fX12_goLay_123
  with_reducible repeat' first | assumption | exact Fr.refl | refine fr_sI ?_ rfl | refine fr_sL ?_ rfl | refine fr_sC ?_ rfl | exact fm_none | refine fm_some ?_ | refine fm_gd ?_ | refine fm_ite ?_ ?_ | refine fm_ltm ?_ (fun _ _ => ?_) | refine fm_lt ?_ | intro _ _ _ _ _ _ _ _ _ _ | intro _ _ _ _ _ _ _ _ _ | intro _ _ _ _ _ _ _ _ | intro _ _ _ _ _ _ _ | intro _ _ _ _ _ _ | intro _ _ _ _ _ | intro _ _ _ _ | intro _ _ _ | intro _ _ | intro _
theorem ft_fX8_worth_19_b192 {k71 : Int32 → Int32 → Mem → Option (Int32 × Mem)} (hk71 : ∀ x0 x1 m, Fm aD m (k71 x0 x1 m)) (p7 : Int32) (p8 : Int32) (p9 : Int32) (μ : Mem) : Fm aD μ (fX8_worth_19_b192 k71 p7 p8 p9 μ) := by
  unfold fX8_worth_19_b192
  with_reducible repeat' first | assumption | exact Fr.refl | refine fr_sI ?_ rfl | refine fr_sL ?_ rfl | refine fr_sC ?_ rfl | exact fm_none | refine fm_some ?_ | refine fm_gd ?_ | refine fm_ite ?_ ?_ | refine fm_ltm ?_ (fun _ _ => ?_) | refine fm_lt ?_ | intro _ _ _ _ _ _ _ _ _ _ | intro _ _ _ _ _ _ _ _ _ | intro _ _ _ _ _ _ _ _ | intro _ _ _ _ _ _ _ | intro _ _ _ _ _ _ | intro _ _ _ _ _ | intro _ _ _ _ | intro _ _ _ | intro _ _ | intro _ | (apply fm_bnd; first | refine fr_fX8_joined  _ _ _ _ | exact hk71 _ _ _) | (apply fm_tl; first | refine fr_fX8_joined  _ _ _ _ | exact hk71 _ _ _)
theorem ft_fX8_worth_19_b71  : ∀ n a0 a1 μ, Fm aD μ (fX8_worth_19_b71  n a0 a1 μ) := by
  intro n
  induction n with
  | zero =>
    intros
    exact fm_none
  | succ n ih =>
    intro a0 a1 μ
    rw [fX8_worth_19_b71]
    with_reducible repeat' first | assumption | exact Fr.refl | refine fr_sI ?_ rfl | refine fr_sL ?_ rfl | refine fr_sC ?_ rfl | exact fm_none | refine fm_some ?_ | refine fm_gd ?_ | refine fm_ite ?_ ?_ | refine fm_ltm ?_ (fun _ _ => ?_) | refine fm_lt ?_ | intro _ _ _ _ _ _ _ _ _ _ | intro _ _ _ _ _ _ _ _ _ | intro _ _ _ _ _ _ _ _ | intro _ _ _ _ _ _ _ | intro _ _ _ _ _ _ | intro _ _ _ _ _ | intro _ _ _ _ | intro _ _ _ | intro _ _ | intro _ | (apply fm_bnd; first | exact ih _ _ _ | refine fr_fX8_worth_19_b245  _ | refine ft_fX8_worth_19_b192 ?_ _ _ _ _) | (apply fm_tl; first | exact ih _ _ _ | refine fr_fX8_worth_19_b245  _ | refine ft_fX8_worth_19_b192 ?_ _ _ _ _)
theorem ft_fX8_worth_19  (v1 : Int32) (v2 : Int32) (v3 : Int32) (v4 : Int32) (v5 : Int32) (v6 : Int32) (μ : Mem) : Fm aD μ (fX8_worth_19  v1 v2 v3 v4 v5 v6 μ) := by
  unfold fX8_worth_19
  with_reducible repeat' first | assumption | exact Fr.refl | refine fr_sI ?_ rfl | refine fr_sL ?_ rfl | refine fr_sC ?_ rfl | exact fm_none | refine fm_some ?_ | refine fm_gd ?_ | refine fm_ite ?_ ?_ | refine fm_ltm ?_ (fun _ _ => ?_) | refine fm_lt ?_ | intro _ _ _ _ _ _ _ _ _ _ | intro _ _ _ _ _ _ _ _ _ | intro _ _ _ _ _ _ _ _ | intro _ _ _ _ _ _ _ | intro _ _ _ _ _ _ | intro _ _ _ _ _ | intro _ _ _ _ | intro _ _ _ | intro _ _ | intro _ | (apply fm_bnd; first | refine ft_fX8_worth_19_b71  _ _ _ _) | (apply fm_tl; first | refine ft_fX8_worth_19_b71  _ _ _ _)
theorem ft_fX4_leftWith_33  (v1 : Int32) (v2 : Int32) (v3 : Int32) (v4 : Int32) (μ : Mem) : Fm aD μ (fX4_leftWith_33  v1 v2 v3 v4 μ) := by
  unfold fX4_leftWith_33
  with_reducible repeat' first | assumption | exact Fr.refl | refine fr_sI ?_ rfl | refine fr_sL ?_ rfl | refine fr_sC ?_ rfl | exact fm_none | refine fm_some ?_ | refine fm_gd ?_ | refine fm_ite ?_ ?_ | refine fm_ltm ?_ (fun _ _ => ?_) | refine fm_lt ?_ | intro _ _ _ _ _ _ _ _ _ _ | intro _ _ _ _ _ _ _ _ _ | intro _ _ _ _ _ _ _ _ | intro _ _ _ _ _ _ _ | intro _ _ _ _ _ _ | intro _ _ _ _ _ | intro _ _ _ _ | intro _ _ _ | intro _ _ | intro _ | (apply fm_bnd; first | refine ft_fX8_worth_19  _ _ _ _ _ _ _) | (apply fm_tl; first | refine ft_fX8_worth_19  _ _ _ _ _ _ _)
theorem ft_fX4_leftNow_33  (v1 : Int32) (μ : Mem) : Fm aD μ (fX4_leftNow_33  v1 μ) := by
  unfold fX4_leftNow_33
  with_reducible repeat' first | assumption | exact Fr.refl | refine fr_sI ?_ rfl | refine fr_sL ?_ rfl | refine fr_sC ?_ rfl | exact fm_none | refine fm_some ?_ | refine fm_gd ?_ | refine fm_ite ?_ ?_ | refine fm_ltm ?_ (fun _ _ => ?_) | refine fm_lt ?_ | intro _ _ _ _ _ _ _ _ _ _ | intro _ _ _ _ _ _ _ _ _ | intro _ _ _ _ _ _ _ _ | intro _ _ _ _ _ _ _ | intro _ _ _ _ _ _ | intro _ _ _ _ _ | intro _ _ _ _ | intro _ _ _ | intro _ _ | intro _ | (apply fm_bnd; first | refine ft_fX4_leftWith_33  _ _ _ _ _) | (apply fm_tl; first | refine ft_fX4_leftWith_33  _ _ _ _ _)
theorem ft_fX4_askOf_33  (v1 : Int32) (μ : Mem) : Fm aD μ (fX4_askOf_33  v1 μ) := by
  unfold fX4_askOf_33
  with_reducible repeat' first | assumption | exact Fr.refl | refine fr_sI ?_ rfl | refine fr_sL ?_ rfl | refine fr_sC ?_ rfl | exact fm_none | refine fm_some ?_ | refine fm_gd ?_ | refine fm_ite ?_ ?_ | refine fm_ltm ?_ (fun _ _ => ?_) | refine fm_lt ?_ | intro _ _ _ _ _ _ _ _ _ _ | intro _ _ _ _ _ _ _ _ _ | intro _ _ _ _ _ _ _ _ | intro _ _ _ _ _ _ _ | intro _ _ _ _ _ _ | intro _ _ _ _ _ | intro _ _ _ _ | intro _ _ _ | intro _ _ | intro _ | (apply fm_bnd; first | refine fr_fX4_has_33  _ _ | refine ft_fX4_leftNow_33  _ _ | refine fr_fX4_isSilent_33  _ _) | (apply fm_tl; first | refine fr_fX4_has_33  _ _ | refine ft_fX4_leftNow_33  _ _ | refine fr_fX4_isSilent_33  _ _)
theorem ft_fX12_goPlead_123  (v1 : Int32) (μ : Mem) : Fm aN μ (fX12_goPlead_123  v1 μ) := by
  unfold fX12_goPlead_123
  with_reducible repeat' first | assumption | exact Fr.refl | refine fr_sI ?_ rfl | refine fr_sL ?_ rfl | refine fr_sC ?_ rfl | exact fm_none | refine fm_some ?_ | refine fm_gd ?_ | refine fm_ite ?_ ?_ | refine fm_ltm ?_ (fun _ _ => ?_) | refine fm_lt ?_ | intro _ _ _ _ _ _ _ _ _ _ | intro _ _ _ _ _ _ _ _ _ | intro _ _ _ _ _ _ _ _ | intro _ _ _ _ _ _ _ | intro _ _ _ _ _ _ | intro _ _ _ _ _ | intro _ _ _ _ | intro _ _ _ | intro _ _ | intro _
theorem ft_fX4_tryNow_33  (v1 : Int32) (μ : Mem) : Fm aD μ (fX4_tryNow_33  v1 μ) := by
  unfold fX4_tryNow_33
  with_reducible repeat' first | assumption | exact Fr.refl | refine fr_sI ?_ rfl | refine fr_sL ?_ rfl | refine fr_sC ?_ rfl | exact fm_none | refine fm_some ?_ | refine fm_gd ?_ | refine fm_ite ?_ ?_ | refine fm_ltm ?_ (fun _ _ => ?_) | refine fm_lt ?_ | intro _ _ _ _ _ _ _ _ _ _ | intro _ _ _ _ _ _ _ _ _ | intro _ _ _ _ _ _ _ _ | intro _ _ _ _ _ _ _ | intro _ _ _ _ _ _ | intro _ _ _ _ _ | intro _ _ _ _ | intro _ _ _ | intro _ _ | intro _ | (apply fm_bnd; first | refine fr_fX4_has_33  _ _ | refine fr_fX4_verdictIn_33  _ _ _) | (apply fm_tl; first | refine fr_fX4_has_33  _ _ | refine fr_fX4_verdictIn_33  _ _ _)
theorem ft_fX4_leaveOver_33_b34 {k4 : Int32 → Int32 → Mem → Option (Int32 × Mem)} (hk4 : ∀ x0 x1 m, Fm aD m (k4 x0 x1 m)) (p1 : Int32) (p2 : Int32) (μ : Mem) : Fm aD μ (fX4_leaveOver_33_b34 k4 p1 p2 μ) := by
  unfold fX4_leaveOver_33_b34
  with_reducible repeat' first | assumption | exact Fr.refl | refine fr_sI ?_ rfl | refine fr_sL ?_ rfl | refine fr_sC ?_ rfl | exact fm_none | refine fm_some ?_ | refine fm_gd ?_ | refine fm_ite ?_ ?_ | refine fm_ltm ?_ (fun _ _ => ?_) | refine fm_lt ?_ | intro _ _ _ _ _ _ _ _ _ _ | intro _ _ _ _ _ _ _ _ _ | intro _ _ _ _ _ _ _ _ | intro _ _ _ _ _ _ _ | intro _ _ _ _ _ _ | intro _ _ _ _ _ | intro _ _ _ _ | intro _ _ _ | intro _ _ | intro _ | (apply fm_bnd; first | exact hk4 _ _ _) | (apply fm_tl; first | exact hk4 _ _ _)
theorem ft_fX4_leaveOver_33_b4  : ∀ n a0 a1 μ, Fm aD μ (fX4_leaveOver_33_b4  n a0 a1 μ) := by
  intro n
  induction n with
  | zero =>
    intros
    exact fm_none
  | succ n ih =>
    intro a0 a1 μ
    rw [fX4_leaveOver_33_b4]
    with_reducible repeat' first | assumption | exact Fr.refl | refine fr_sI ?_ rfl | refine fr_sL ?_ rfl | refine fr_sC ?_ rfl | exact fm_none | refine fm_some ?_ | refine fm_gd ?_ | refine fm_ite ?_ ?_ | refine fm_ltm ?_ (fun _ _ => ?_) | refine fm_lt ?_ | intro _ _ _ _ _ _ _ _ _ _ | intro _ _ _ _ _ _ _ _ _ | intro _ _ _ _ _ _ _ _ | intro _ _ _ _ _ _ _ | intro _ _ _ _ _ _ | intro _ _ _ _ _ | intro _ _ _ _ | intro _ _ _ | intro _ _ | intro _ | (apply fm_bnd; first | refine ft_fX4_leaveOver_33_b34 ?_ _ _ _ | exact ih _ _ _) | (apply fm_tl; first | refine ft_fX4_leaveOver_33_b34 ?_ _ _ _ | exact ih _ _ _)
theorem ft_fX4_leaveOver_33   (μ : Mem) : Fm aD μ (fX4_leaveOver_33   μ) := by
  unfold fX4_leaveOver_33
  with_reducible repeat' first | assumption | exact Fr.refl | refine fr_sI ?_ rfl | refine fr_sL ?_ rfl | refine fr_sC ?_ rfl | exact fm_none | refine fm_some ?_ | refine fm_gd ?_ | refine fm_ite ?_ ?_ | refine fm_ltm ?_ (fun _ _ => ?_) | refine fm_lt ?_ | intro _ _ _ _ _ _ _ _ _ _ | intro _ _ _ _ _ _ _ _ _ | intro _ _ _ _ _ _ _ _ | intro _ _ _ _ _ _ _ | intro _ _ _ _ _ _ | intro _ _ _ _ _ | intro _ _ _ _ | intro _ _ _ | intro _ _ | intro _ | (apply fm_bnd; first | refine ft_fX4_leaveOver_33_b4  _ _ _ _) | (apply fm_tl; first | refine ft_fX4_leaveOver_33_b4  _ _ _ _)
theorem ft_fX4_night_33_b87  : ∀ n a0 a1 a2 μ, Fm aD μ (fX4_night_33_b87  n a0 a1 a2 μ) := by
  intro n
  induction n with
  | zero =>
    intros
    exact fm_none
  | succ n ih =>
    intro a0 a1 a2 μ
    rw [fX4_night_33_b87]
    with_reducible repeat' first | assumption | exact Fr.refl | refine fr_sI ?_ rfl | refine fr_sL ?_ rfl | refine fr_sC ?_ rfl | exact fm_none | refine fm_some ?_ | refine fm_gd ?_ | refine fm_ite ?_ ?_ | refine fm_ltm ?_ (fun _ _ => ?_) | refine fm_lt ?_ | intro _ _ _ _ _ _ _ _ _ _ | intro _ _ _ _ _ _ _ _ _ | intro _ _ _ _ _ _ _ _ | intro _ _ _ _ _ _ _ | intro _ _ _ _ _ _ | intro _ _ _ _ _ | intro _ _ _ _ | intro _ _ _ | intro _ _ | intro _ | (apply fm_bnd; first | refine ft_fX4_leaveOver_33  _ | exact ih _ _ _ _) | (apply fm_tl; first | refine ft_fX4_leaveOver_33  _ | exact ih _ _ _ _)
theorem ft_fX4_night_33_b4  : ∀ n a0 a1 a2 μ, Fm aD μ (fX4_night_33_b4  n a0 a1 a2 μ) := by
  intro n
  induction n with
  | zero =>
    intros
    exact fm_none
  | succ n ih =>
    intro a0 a1 a2 μ
    rw [fX4_night_33_b4]
    with_reducible repeat' first | assumption | exact Fr.refl | refine fr_sI ?_ rfl | refine fr_sL ?_ rfl | refine fr_sC ?_ rfl | exact fm_none | refine fm_some ?_ | refine fm_gd ?_ | refine fm_ite ?_ ?_ | refine fm_ltm ?_ (fun _ _ => ?_) | refine fm_lt ?_ | intro _ _ _ _ _ _ _ _ _ _ | intro _ _ _ _ _ _ _ _ _ | intro _ _ _ _ _ _ _ _ | intro _ _ _ _ _ _ _ | intro _ _ _ _ _ _ | intro _ _ _ _ _ | intro _ _ _ _ | intro _ _ _ | intro _ _ | intro _ | (apply fm_bnd; first | exact ih _ _ _ _ | refine fr_fX4_isSilent_33  _ _ | refine ft_fX4_leftWith_33  _ _ _ _ _ | refine ft_fX4_night_33_b87  _ _ _ _ _) | (apply fm_tl; first | exact ih _ _ _ _ | refine fr_fX4_isSilent_33  _ _ | refine ft_fX4_leftWith_33  _ _ _ _ _ | refine ft_fX4_night_33_b87  _ _ _ _ _)
theorem ft_fX4_night_33  (v1 : Int32) (μ : Mem) : Fm aD μ (fX4_night_33  v1 μ) := by
  unfold fX4_night_33
  with_reducible repeat' first | assumption | exact Fr.refl | refine fr_sI ?_ rfl | refine fr_sL ?_ rfl | refine fr_sC ?_ rfl | exact fm_none | refine fm_some ?_ | refine fm_gd ?_ | refine fm_ite ?_ ?_ | refine fm_ltm ?_ (fun _ _ => ?_) | refine fm_lt ?_ | intro _ _ _ _ _ _ _ _ _ _ | intro _ _ _ _ _ _ _ _ _ | intro _ _ _ _ _ _ _ _ | intro _ _ _ _ _ _ _ | intro _ _ _ _ _ _ | intro _ _ _ _ _ | intro _ _ _ _ | intro _ _ _ | intro _ _ | intro _ | (apply fm_bnd; first | refine ft_fX4_night_33_b4  _ _ _ _ _) | (apply fm_tl; first | refine ft_fX4_night_33_b4  _ _ _ _ _)
theorem ft_fX4_pass_33_b5  : ∀ n a0 a1 a2 a3 μ, Fm aD μ (fX4_pass_33_b5  n a0 a1 a2 a3 μ) := by
  intro n
  induction n with
  | zero =>
    intros
    exact fm_none
  | succ n ih =>
    intro a0 a1 a2 a3 μ
    rw [fX4_pass_33_b5]
    with_reducible repeat' first | assumption | exact Fr.refl | refine fr_sI ?_ rfl | refine fr_sL ?_ rfl | refine fr_sC ?_ rfl | exact fm_none | refine fm_some ?_ | refine fm_gd ?_ | refine fm_ite ?_ ?_ | refine fm_ltm ?_ (fun _ _ => ?_) | refine fm_lt ?_ | intro _ _ _ _ _ _ _ _ _ _ | intro _ _ _ _ _ _ _ _ _ | intro _ _ _ _ _ _ _ _ | intro _ _ _ _ _ _ _ | intro _ _ _ _ _ _ | intro _ _ _ _ _ | intro _ _ _ _ | intro _ _ _ | intro _ _ | intro _ | (apply fm_bnd; first | refine ft_fX4_night_33  _ _ | exact ih _ _ _ _ _) | (apply fm_tl; first | refine ft_fX4_night_33  _ _ | exact ih _ _ _ _ _)
theorem ft_fX4_pass_33  (v1 : Int32) (v2 : Int32) (μ : Mem) : Fm aD μ (fX4_pass_33  v1 v2 μ) := by
  unfold fX4_pass_33
  with_reducible repeat' first | assumption | exact Fr.refl | refine fr_sI ?_ rfl | refine fr_sL ?_ rfl | refine fr_sC ?_ rfl | exact fm_none | refine fm_some ?_ | refine fm_gd ?_ | refine fm_ite ?_ ?_ | refine fm_ltm ?_ (fun _ _ => ?_) | refine fm_lt ?_ | intro _ _ _ _ _ _ _ _ _ _ | intro _ _ _ _ _ _ _ _ _ | intro _ _ _ _ _ _ _ _ | intro _ _ _ _ _ _ _ | intro _ _ _ _ _ _ | intro _ _ _ _ _ | intro _ _ _ _ | intro _ _ _ | intro _ _ | intro _ | (apply fm_bnd; first | refine ft_fX4_pass_33_b5  _ _ _ _ _ _) | (apply fm_tl; first | refine ft_fX4_pass_33_b5  _ _ _ _ _ _)
theorem ft_fX12_goNight_122_123_b139 {k118 : Int32 → Mem → Option (Unit × Mem)} (hk118 : ∀ x0 m, Fm aN m (k118 x0 m)) (p2 : Int32) (μ : Mem) : Fm aN μ (fX12_goNight_122_123_b139 k118 p2 μ) := by
  unfold fX12_goNight_122_123_b139
  with_reducible repeat' first | assumption | exact Fr.refl | refine fr_sI ?_ rfl | refine fr_sL ?_ rfl | refine fr_sC ?_ rfl | exact fm_none | refine fm_some ?_ | refine fm_gd ?_ | refine fm_ite ?_ ?_ | refine fm_ltm ?_ (fun _ _ => ?_) | refine fm_lt ?_ | intro _ _ _ _ _ _ _ _ _ _ | intro _ _ _ _ _ _ _ _ _ | intro _ _ _ _ _ _ _ _ | intro _ _ _ _ _ _ _ | intro _ _ _ _ _ _ | intro _ _ _ _ _ | intro _ _ _ _ | intro _ _ _ | intro _ _ | intro _ | (apply fm_bnd; first | exact hk118 _ _) | (apply fm_tl; first | exact hk118 _ _)
theorem ft_fX12_goNight_122_123_b118  : ∀ n a0 μ, Fm aN μ (fX12_goNight_122_123_b118  n a0 μ) := by
  intro n
  induction n with
  | zero =>
    intros
    exact fm_none
  | succ n ih =>
    intro a0 μ
    rw [fX12_goNight_122_123_b118]
    with_reducible repeat' first | assumption | exact Fr.refl | refine fr_sI ?_ rfl | refine fr_sL ?_ rfl | refine fr_sC ?_ rfl | exact fm_none | refine fm_some ?_ | refine fm_gd ?_ | refine fm_ite ?_ ?_ | refine fm_ltm ?_ (fun _ _ => ?_) | refine fm_lt ?_ | intro _ _ _ _ _ _ _ _ _ _ | intro _ _ _ _ _ _ _ _ _ | intro _ _ _ _ _ _ _ _ | intro _ _ _ _ _ _ _ | intro _ _ _ _ _ _ | intro _ _ _ _ _ | intro _ _ _ _ | intro _ _ _ | intro _ _ | intro _ | (apply fm_bnd; first | exact ih _ _ | refine ft_fX12_goNight_122_123_b139 ?_ _ _) | (apply fm_tl; first | exact ih _ _ | refine ft_fX12_goNight_122_123_b139 ?_ _ _)
theorem ft_fX12_goNight_122_123_b59  : ∀ n a0 μ, Fm aN μ (fX12_goNight_122_123_b59  n a0 μ) := by
  intro n
  induction n with
  | zero =>
    intros
    exact fm_none
  | succ n ih =>
    intro a0 μ
    rw [fX12_goNight_122_123_b59]
    with_reducible repeat' first | assumption | exact Fr.refl | refine fr_sI ?_ rfl | refine fr_sL ?_ rfl | refine fr_sC ?_ rfl | exact fm_none | refine fm_some ?_ | refine fm_gd ?_ | refine fm_ite ?_ ?_ | refine fm_ltm ?_ (fun _ _ => ?_) | refine fm_lt ?_ | intro _ _ _ _ _ _ _ _ _ _ | intro _ _ _ _ _ _ _ _ _ | intro _ _ _ _ _ _ _ _ | intro _ _ _ _ _ _ _ | intro _ _ _ _ _ _ | intro _ _ _ _ _ | intro _ _ _ _ | intro _ _ _ | intro _ _ | intro _ | (apply fm_bnd; first | refine ft_fX12_goNight_122_123_b118  _ _ _ | exact ih _ _) | (apply fm_tl; first | refine ft_fX12_goNight_122_123_b118  _ _ _ | exact ih _ _)
theorem ft_fX12_goNight_122_123_b2  : ∀ n a0 μ, Fm aN μ (fX12_goNight_122_123_b2  n a0 μ) := by
  intro n
  induction n with
  | zero =>
    intros
    exact fm_none
  | succ n ih =>
    intro a0 μ
    rw [fX12_goNight_122_123_b2]
    with_reducible repeat' first | assumption | exact Fr.refl | refine fr_sI ?_ rfl | refine fr_sL ?_ rfl | refine fr_sC ?_ rfl | exact fm_none | refine fm_some ?_ | refine fm_gd ?_ | refine fm_ite ?_ ?_ | refine fm_ltm ?_ (fun _ _ => ?_) | refine fm_lt ?_ | intro _ _ _ _ _ _ _ _ _ _ | intro _ _ _ _ _ _ _ _ _ | intro _ _ _ _ _ _ _ _ | intro _ _ _ _ _ _ _ | intro _ _ _ _ _ _ | intro _ _ _ _ _ | intro _ _ _ _ | intro _ _ _ | intro _ _ | intro _ | (apply fm_bnd; first | refine ft_fX12_leftNow_122_123  _ _ | refine ft_fX12_goNight_122_123_b59  _ _ _ | exact ih _ _) | (apply fm_tl; first | refine ft_fX12_leftNow_122_123  _ _ | refine ft_fX12_goNight_122_123_b59  _ _ _ | exact ih _ _)
theorem ft_fX12_goNight_122_123   (μ : Mem) : Fm aN μ (fX12_goNight_122_123   μ) := by
  unfold fX12_goNight_122_123
  with_reducible repeat' first | assumption | exact Fr.refl | refine fr_sI ?_ rfl | refine fr_sL ?_ rfl | refine fr_sC ?_ rfl | exact fm_none | refine fm_some ?_ | refine fm_gd ?_ | refine fm_ite ?_ ?_ | refine fm_ltm ?_ (fun _ _ => ?_) | refine fm_lt ?_ | intro _ _ _ _ _ _ _ _ _ _ | intro _ _ _ _ _ _ _ _ _ | intro _ _ _ _ _ _ _ _ | intro _ _ _ _ _ _ _ | intro _ _ _ _ _ _ | intro _ _ _ _ _ | intro _ _ _ _ | intro _ _ _ | intro _ _ | intro _ | (apply fm_bnd; first | refine ft_fX12_goNight_122_123_b2  _ _ _) | (apply fm_tl; first | refine ft_fX12_goNight_122_123_b2  _ _ _)
theorem ft_fX4_perform_33_15  (v2 : Int32) (v3 : Int32) (μ : Mem) : Fm aD μ (fX4_perform_33_15  v2 v3 μ) := by
  unfold fX4_perform_33_15
  with_reducible repeat' first | assumption | exact Fr.refl | refine fr_sI ?_ rfl | refine fr_sL ?_ rfl | refine fr_sC ?_ rfl | exact fm_none | refine fm_some ?_ | refine fm_gd ?_ | refine fm_ite ?_ ?_ | refine fm_ltm ?_ (fun _ _ => ?_) | refine fm_lt ?_ | intro _ _ _ _ _ _ _ _ _ _ | intro _ _ _ _ _ _ _ _ _ | intro _ _ _ _ _ _ _ _ | intro _ _ _ _ _ _ _ | intro _ _ _ _ _ _ | intro _ _ _ _ _ | intro _ _ _ _ | intro _ _ _ | intro _ _ | intro _ | (apply fm_bnd; first | refine ft_fX4_layOn_33  _ _ _ | refine ft_fX4_askOf_33  _ _ | refine ft_fX4_pass_33  _ _ _ | refine ft_fX4_tryNow_33  _ _) | (apply fm_tl; first | refine ft_fX4_layOn_33  _ _ _ | refine ft_fX4_askOf_33  _ _ | refine ft_fX4_pass_33  _ _ _ | refine ft_fX4_tryNow_33  _ _)
theorem ft_fX12_act_122_b56  (p2 : Int32) (q0 : Int32) (μ : Mem) : Fm aN μ (fX12_act_122_b56  p2 q0 μ) := by
  unfold fX12_act_122_b56
  with_reducible repeat' first | assumption | exact Fr.refl | refine fr_sI ?_ rfl | refine fr_sL ?_ rfl | refine fr_sC ?_ rfl | exact fm_none | refine fm_some ?_ | refine fm_gd ?_ | refine fm_ite ?_ ?_ | refine fm_ltm ?_ (fun _ _ => ?_) | refine fm_lt ?_ | intro _ _ _ _ _ _ _ _ _ _ | intro _ _ _ _ _ _ _ _ _ | intro _ _ _ _ _ _ _ _ | intro _ _ _ _ _ _ _ | intro _ _ _ _ _ _ | intro _ _ _ _ _ | intro _ _ _ _ | intro _ _ _ | intro _ _ | intro _ | (apply fm_bnd; first | refine fr_fX12_refusesLay_122  _ _ _ | refine ft_fX12_goLay_123  _ _ _) | (apply fm_tl; first | refine fr_fX12_refusesLay_122  _ _ _ | refine ft_fX12_goLay_123  _ _ _)
theorem ft_fX12_act_122_b181  : ∀ n a0 a1 μ, Fm aN μ (fX12_act_122_b181  n a0 a1 μ) := by
  intro n
  induction n with
  | zero =>
    intros
    exact fm_none
  | succ n ih =>
    intro a0 a1 μ
    rw [fX12_act_122_b181]
    with_reducible repeat' first | assumption | exact Fr.refl | refine fr_sI ?_ rfl | refine fr_sL ?_ rfl | refine fr_sC ?_ rfl | exact fm_none | refine fm_some ?_ | refine fm_gd ?_ | refine fm_ite ?_ ?_ | refine fm_ltm ?_ (fun _ _ => ?_) | refine fm_lt ?_ | intro _ _ _ _ _ _ _ _ _ _ | intro _ _ _ _ _ _ _ _ _ | intro _ _ _ _ _ _ _ _ | intro _ _ _ _ _ _ _ | intro _ _ _ _ _ _ | intro _ _ _ _ _ | intro _ _ _ _ | intro _ _ _ | intro _ _ | intro _ | (apply fm_bnd; first | refine ft_fX12_goNight_122_123  _ | exact ih _ _ _) | (apply fm_tl; first | refine ft_fX12_goNight_122_123  _ | exact ih _ _ _)
theorem ft_fX12_act_122  (v1 : Int32) (v2 : Int32) (v3 : Int32) (μ : Mem) : Fm aN μ (fX12_act_122  v1 v2 v3 μ) := by
  unfold fX12_act_122
  with_reducible repeat' first | assumption | exact Fr.refl | refine fr_sI ?_ rfl | refine fr_sL ?_ rfl | refine fr_sC ?_ rfl | exact fm_none | refine fm_some ?_ | refine fm_gd ?_ | refine fm_ite ?_ ?_ | refine fm_ltm ?_ (fun _ _ => ?_) | refine fm_lt ?_ | intro _ _ _ _ _ _ _ _ _ _ | intro _ _ _ _ _ _ _ _ _ | intro _ _ _ _ _ _ _ _ | intro _ _ _ _ _ _ _ | intro _ _ _ _ _ _ | intro _ _ _ _ _ | intro _ _ _ _ | intro _ _ _ | intro _ _ | intro _ | (apply fm_bnd; first | refine fr_fX12_proofIn_122_123  _ _ _ | refine ft_fX12_leftNow_122_123  _ _ | refine fr_fX12_ending_122  _ _ | refine ft_fX12_act_122_b56  _ _ _ | refine fr_fX12_doesSpeak_122  _ _ _ | refine ft_fX12_act_122_b181  _ _ _ _ | refine ft_fX12_goPlead_123  _ _ | refine fr_fX12_isMan_122  _ _) | (apply fm_tl; first | refine fr_fX12_proofIn_122_123  _ _ _ | refine ft_fX12_leftNow_122_123  _ _ | refine fr_fX12_ending_122  _ _ | refine ft_fX12_act_122_b56  _ _ _ | refine fr_fX12_doesSpeak_122  _ _ _ | refine ft_fX12_act_122_b181  _ _ _ _ | refine ft_fX12_goPlead_123  _ _ | refine fr_fX12_isMan_122  _ _)
end Frames2
