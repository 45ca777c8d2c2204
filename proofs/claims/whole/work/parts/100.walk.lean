def fX9_add_1_b16 : Nat → Int32 → Int32 → Mem → Option (Int32 × Mem)
  | 0, _, _, _ => none
  | n + 1, p1, p2, μ =>
  if p2 < 0 then (some ((gI μ 1 1), μ))
  else gd (inb (gI μ 1 1) 80) (lt (sI μ 2 (ix (gI μ 1 1)) (vp_nar .char (toCh ((ushr p1 p2) &&& (255 : Int32))))) fun m1 =>
    lt (sI m1 1 1 ((gI m1 1 1) + (1 : Int32))) fun m2 =>
    fX9_add_1_b16 n p1 (p2 + (-8 : Int32)) m2)
set_option maxRecDepth 100000 in
set_option maxHeartbeats 4000000 in
theorem bX9_add_1_16 {E : En} {l : Launch} {Z : Zt} (hI : Inj E) (hl0 : lZ l Z) (X : Cx E Z cX9_add RX9 3 1) (hr : rtOf Z = some .int) : ∀ (n : Nat) (p1 : Int32) (p2 : Int32) (μ : Mem), AO E Z 3 (QI E Z) 16 [(0, .ref (eAd E 1)), (1, .int p1), (2, .int p2)] [] μ (fX9_add_1_b16 n p1 p2 μ) := by
  intro n
  induction n with
  | zero =>
    intros
    exact ao_none
  | succ n ih =>
    intro p1 p2 μ
    rw [fX9_add_1_b16]
    refine ao_iload_n (pc := 16) X dX9_add_16 rfl ?_
    refine ao_if_lt (pc := 17) (tgt := 53) X dX9_add_17 (by decide) (fun _ => ?_) (fun _ => ?_)
    · refine ao_aload_n (pc := 53) X dX9_add_53 rfl ?_
      refine ao_getI (pc := 54) X dX9_add_54 fl_RX9_15 sf_1_1 ?_
      exact ao_iret (pc := 57) X hr dX9_add_57
    · refine ao_aload_n (pc := 20) X dX9_add_20 rfl ?_
      refine ao_getR (pc := 21) X dX9_add_21 fl_RX9_11 sf_1_0 ?_
      refine ao_aload_n (pc := 24) X dX9_add_24 rfl ?_
      refine ao_getI (pc := 25) X dX9_add_25 fl_RX9_15 sf_1_1 ?_
      refine ao_iload_n (pc := 28) X dX9_add_28 rfl ?_
      refine ao_iload_n (pc := 29) X dX9_add_29 rfl ?_
      refine ao_iushr (pc := 30) X dX9_add_30 ?_
      refine ao_sipush (pc := 31) X dX9_add_31 sp_255 ?_
      refine ao_iand (pc := 34) X dX9_add_34 ?_
      refine ao_i2c (pc := 35) X dX9_add_35 ?_
      refine ao_cast (pc := 36) X dX9_add_36 sa_2 ?_
      refine ao_lt (fun m1 => ?_)
      refine ao_aload_n (pc := 37) X dX9_add_37 rfl ?_
      refine ao_dup (pc := 38) X dX9_add_38 rfl ?_
      refine ao_getI (pc := 39) X dX9_add_39 fl_RX9_15 sf_1_1 ?_
      refine ao_iconst (pc := 42) X dX9_add_42 ic_1 ?_
      refine ao_iadd (pc := 43) X dX9_add_43 ?_
      refine ao_putI (pc := 44) X dX9_add_44 fp_RX9_15 sf_1_1 ?_
      refine ao_lt (fun m2 => ?_)
      refine ao_iinc (pc := 47) (k := 2) (v := p2 + (-8 : Int32)) (lv' := [(2, .int (p2 + (-8 : Int32))), (0, .ref (eAd E 1)), (1, .int p1)]) X dX9_add_47 rfl (ii_ic ic_m8) (by decide) rfl ?_
      refine ao_goto (pc := 50) (tgt := 16) X dX9_add_50 (by decide) ?_
      refine ao_sub [1, 2, 0] rfl ?_
      exact ih p1 (p2 + (-8 : Int32)) m2
def fX9_add_1 (v1 : Int32) (μ : Mem) : Option (Int32 × Mem) :=
  if ((gI μ 1 1) + (4 : Int32)) ≤ (80 : Int32) then (fX9_add_1_b16 FU v1 (24 : Int32) μ)
  else some ((-1 : Int32), μ)
set_option maxRecDepth 100000 in
set_option maxHeartbeats 4000000 in
theorem mX9_add_1 {E : En} {l : Launch} (hI : Inj E) (v1 : Int32) (μ : Mem) : MtI E l yX9_add cX9_add 3 (some .int) 1 [.ref (eAd E 1), .int v1] μ (fX9_add_1 v1 μ) := by
  refine mtI_of (own := RX9) [(0, .ref (eAd E 1)), (1, .int v1)] hI rfl (by decide) (Nat.le_of_ble_eq_true rfl) (Nat.le_of_ble_eq_true rfl) rfl (fun Z hl0 X hr => ?_)
  unfold fX9_add_1
  refine ao_aload_n (pc := 0) X dX9_add_0 rfl ?_
  refine ao_getI (pc := 1) X dX9_add_1 fl_RX9_15 sf_1_1 ?_
  refine ao_iconst (pc := 4) X dX9_add_4 ic_4 ?_
  refine ao_iadd (pc := 5) X dX9_add_5 ?_
  refine ao_bipush (pc := 6) X dX9_add_6 bp_80 ?_
  refine ao_icmp_le (pc := 8) (tgt := 13) X dX9_add_8 (by decide) (fun _ => ?_) (fun _ => ?_)
  · refine ao_bipush (pc := 13) X dX9_add_13 bp_24 ?_
    refine ao_istore_n (pc := 15) (lv' := [(2, .int (24 : Int32)), (0, .ref (eAd E 1)), (1, .int v1)]) X dX9_add_15 rfl (by decide) rfl ?_
    refine ao_sub [1, 2, 0] rfl ?_
    exact bX9_add_1_16 hI hl0 X hr FU v1 (24 : Int32) μ
  · refine ao_iconst (pc := 11) X dX9_add_11 ic_m1 ?_
    exact ao_iret (pc := 12) X hr dX9_add_12
def fX11_sign_0 (v1 : Int32) (μ : Mem) : Option (Int32 × Mem) :=
  bnd (fX9_add_1 v1 μ) fun r1 m2 =>
  some (r1, m2)
set_option maxRecDepth 100000 in
set_option maxHeartbeats 4000000 in
theorem mX11_sign_0 {E : En} {l : Launch} (hI : Inj E) (v1 : Int32) (μ : Mem) : MtI E l yX11_sign cX11_sign 2 (some .int) 2 [.ref (eAd E 0), .int v1] μ (fX11_sign_0 v1 μ) := by
  refine mtI_of (own := RX11) [(0, .ref (eAd E 0)), (1, .int v1)] hI rfl (by decide) (Nat.le_of_ble_eq_true rfl) (Nat.le_of_ble_eq_true rfl) rfl (fun Z hl0 X hr => ?_)
  unfold fX11_sign_0
  refine ao_aload_n (pc := 0) X dX11_sign_0 rfl ?_
  refine ao_getR (pc := 1) X dX11_sign_1 fl_RX11_10 sf_0_0 ?_
  refine ao_iload_n (pc := 4) X dX11_sign_4 rfl ?_
  refine ao_callVI (pc := 5) (As := [.int v1]) (st := []) X hl0 dX11_sign_5 yv_X9_add so_1 ml_RX11_104 (mX9_add_1 hI v1 μ) (Nat.le_of_ble_eq_true rfl) rfl rfl (Nat.le_of_ble_eq_true rfl) (fun r1 m2 => ?_)
  exact ao_iret (pc := 8) X hr dX11_sign_8
def fX12_sign_122_b20 : Nat → Int32 → Int32 → Mem → Option (Int32 × Mem)
  | 0, _, _, _ => none
  | n + 1, p1, p2, μ =>
  if p2 < 0 then (some ((gI μ 122 14), μ))
  else lt (sI μ 122 14 ((gI μ 122 14) + (1 : Int32))) fun m2 =>
    gd (inb (gI μ 122 14) 80) (lt (sI m2 133 (ix (gI μ 122 14)) (vp_nar .byte (Int8.toInt32 (Int32.toInt8 (p1 >>> (((8 : Int32) * p2) &&& 31)))))) fun m3 =>
    fX12_sign_122_b20 n p1 (p2 + (-1 : Int32)) m3)
set_option maxRecDepth 100000 in
set_option maxHeartbeats 4000000 in
theorem bX12_sign_122_20 {E : En} {l : Launch} {Z : Zt} (hI : Inj E) (hl0 : lZ l Z) (X : Cx E Z cX12_sign RX12 3 1) (hr : rtOf Z = some .int) : ∀ (n : Nat) (p1 : Int32) (p2 : Int32) (μ : Mem), AO E Z 3 (QI E Z) 20 [(0, .ref (eAd E 122)), (1, .int p1), (2, .int p2)] [] μ (fX12_sign_122_b20 n p1 p2 μ) := by
  intro n
  induction n with
  | zero =>
    intros
    exact ao_none
  | succ n ih =>
    intro p1 p2 μ
    rw [fX12_sign_122_b20]
    refine ao_iload_n (pc := 20) X dX12_sign_20 rfl ?_
    refine ao_if_lt (pc := 21) (tgt := 53) X dX12_sign_21 (by decide) (fun _ => ?_) (fun _ => ?_)
    · refine ao_aload_n (pc := 53) X dX12_sign_53 rfl ?_
      refine ao_getI (pc := 54) X dX12_sign_54 fl_RX12_108 sf_122_14 ?_
      exact ao_iret (pc := 57) X hr dX12_sign_57
    · refine ao_aload_n (pc := 24) X dX12_sign_24 rfl ?_
      refine ao_getR (pc := 25) X dX12_sign_25 fl_RX12_45 sf_122_13 ?_
      refine ao_aload_n (pc := 28) X dX12_sign_28 rfl ?_
      refine ao_dup (pc := 29) X dX12_sign_29 rfl ?_
      refine ao_getI (pc := 30) X dX12_sign_30 fl_RX12_108 sf_122_14 ?_
      refine ao_dup_x1 (pc := 33) X dX12_sign_33 rfl rfl ?_
      refine ao_iconst (pc := 34) X dX12_sign_34 ic_1 ?_
      refine ao_iadd (pc := 35) X dX12_sign_35 ?_
      refine ao_putI (pc := 36) X dX12_sign_36 fp_RX12_108 sf_122_14 ?_
      refine ao_lt (fun m2 => ?_)
      refine ao_iload_n (pc := 39) X dX12_sign_39 rfl ?_
      refine ao_bipush (pc := 40) X dX12_sign_40 bp_8 ?_
      refine ao_iload_n (pc := 42) X dX12_sign_42 rfl ?_
      refine ao_imul (pc := 43) X dX12_sign_43 ?_
      refine ao_ishr (pc := 44) X dX12_sign_44 ?_
      refine ao_i2b (pc := 45) X dX12_sign_45 ?_
      refine ao_bast (pc := 46) X dX12_sign_46 sa_133 ?_
      refine ao_lt (fun m3 => ?_)
      refine ao_iinc (pc := 47) (k := 2) (v := p2 + (-1 : Int32)) (lv' := [(2, .int (p2 + (-1 : Int32))), (0, .ref (eAd E 122)), (1, .int p1)]) X dX12_sign_47 rfl (ii_ic ic_m1) (by decide) rfl ?_
      refine ao_goto (pc := 50) (tgt := 20) X dX12_sign_50 (by decide) ?_
      refine ao_sub [1, 2, 0] rfl ?_
      exact ih p1 (p2 + (-1 : Int32)) m3
def fX12_sign_122 (v1 : Int32) (μ : Mem) : Option (Int32 × Mem) :=
  lt (sI μ 122 17 (0 : Int32)) fun m1 =>
  if ((gI m1 122 14) + (4 : Int32)) ≤ (80 : Int32) then (fX12_sign_122_b20 FU v1 (3 : Int32) m1)
  else some ((-1 : Int32), m1)
set_option maxRecDepth 100000 in
set_option maxHeartbeats 4000000 in
theorem mX12_sign_122 {E : En} {l : Launch} (hI : Inj E) (v1 : Int32) (μ : Mem) : MtI E l yX12_sign cX12_sign 3 (some .int) 1 [.ref (eAd E 122), .int v1] μ (fX12_sign_122 v1 μ) := by
  refine mtI_of (own := RX12) [(0, .ref (eAd E 122)), (1, .int v1)] hI rfl (by decide) (Nat.le_of_ble_eq_true rfl) (Nat.le_of_ble_eq_true rfl) rfl (fun Z hl0 X hr => ?_)
  unfold fX12_sign_122
  refine ao_aload_n (pc := 0) X dX12_sign_0 rfl ?_
  refine ao_iconst (pc := 1) X dX12_sign_1 ic_0 ?_
  refine ao_putI (pc := 2) X dX12_sign_2 fp_RX12_95 sf_122_17 ?_
  refine ao_lt (fun m1 => ?_)
  refine ao_aload_n (pc := 5) X dX12_sign_5 rfl ?_
  refine ao_getI (pc := 6) X dX12_sign_6 fl_RX12_108 sf_122_14 ?_
  refine ao_iconst (pc := 9) X dX12_sign_9 ic_4 ?_
  refine ao_iadd (pc := 10) X dX12_sign_10 ?_
  refine ao_bipush (pc := 11) X dX12_sign_11 bp_80 ?_
  refine ao_icmp_le (pc := 13) (tgt := 18) X dX12_sign_13 (by decide) (fun _ => ?_) (fun _ => ?_)
  · refine ao_iconst (pc := 18) X dX12_sign_18 ic_3 ?_
    refine ao_istore_n (pc := 19) (lv' := [(2, .int (3 : Int32)), (0, .ref (eAd E 122)), (1, .int v1)]) X dX12_sign_19 rfl (by decide) rfl ?_
    refine ao_sub [1, 2, 0] rfl ?_
    exact bX12_sign_122_20 hI hl0 X hr FU v1 (3 : Int32) m1
  · refine ao_iconst (pc := 16) X dX12_sign_16 ic_m1 ?_
    exact ao_iret (pc := 17) X hr dX12_sign_17
def fX9_cut_1 (v1 : Int32) (μ : Mem) : Option (Int32 × Mem) :=
  if v1 < 0 then (some ((0 : Int32), μ))
  else if v1 ≤ (gI μ 1 1) then (lt (sI μ 1 1 v1) fun m1 =>
      some ((1 : Int32), m1))
    else some ((0 : Int32), μ)
set_option maxRecDepth 100000 in
set_option maxHeartbeats 4000000 in
theorem mX9_cut_1 {E : En} {l : Launch} (hI : Inj E) (v1 : Int32) (μ : Mem) : MtI E l yX9_cut cX9_cut 2 (some .boolean) 1 [.ref (eAd E 1), .int v1] μ (fX9_cut_1 v1 μ) := by
  refine mtI_of (own := RX9) [(0, .ref (eAd E 1)), (1, .int v1)] hI rfl (by decide) (Nat.le_of_ble_eq_true rfl) (Nat.le_of_ble_eq_true rfl) rfl (fun Z hl0 X hr => ?_)
  unfold fX9_cut_1
  refine ao_iload_n (pc := 0) X dX9_cut_0 rfl ?_
  refine ao_if_lt (pc := 1) (tgt := 12) X dX9_cut_1 (by decide) (fun _ => ?_) (fun _ => ?_)
  · refine ao_iconst (pc := 12) X dX9_cut_12 ic_0 ?_
    exact ao_zret (pc := 13) X hr rfl dX9_cut_13
  · refine ao_iload_n (pc := 4) X dX9_cut_4 rfl ?_
    refine ao_aload_n (pc := 5) X dX9_cut_5 rfl ?_
    refine ao_getI (pc := 6) X dX9_cut_6 fl_RX9_15 sf_1_1 ?_
    refine ao_icmp_le (pc := 9) (tgt := 14) X dX9_cut_9 (by decide) (fun _ => ?_) (fun _ => ?_)
    · refine ao_aload_n (pc := 14) X dX9_cut_14 rfl ?_
      refine ao_iload_n (pc := 15) X dX9_cut_15 rfl ?_
      refine ao_putI (pc := 16) X dX9_cut_16 fp_RX9_15 sf_1_1 ?_
      refine ao_lt (fun m1 => ?_)
      refine ao_iconst (pc := 19) X dX9_cut_19 ic_1 ?_
      exact ao_zret (pc := 20) X hr rfl dX9_cut_20
    · refine ao_iconst (pc := 12) X dX9_cut_12 ic_0 ?_
      exact ao_zret (pc := 13) X hr rfl dX9_cut_13
def fX11_end_0 (v1 : Int32) (μ : Mem) : Option (Int32 × Mem) :=
  bnd (fX9_cut_1 v1 μ) fun r1 m2 =>
  gd (isZ r1) (some (r1, m2))
set_option maxRecDepth 100000 in
set_option maxHeartbeats 4000000 in
theorem mX11_end_0 {E : En} {l : Launch} (hI : Inj E) (v1 : Int32) (μ : Mem) : MtI E l yX11_end cX11_end 2 (some .boolean) 2 [.ref (eAd E 0), .int v1] μ (fX11_end_0 v1 μ) := by
  refine mtI_of (own := RX11) [(0, .ref (eAd E 0)), (1, .int v1)] hI rfl (by decide) (Nat.le_of_ble_eq_true rfl) (Nat.le_of_ble_eq_true rfl) rfl (fun Z hl0 X hr => ?_)
  unfold fX11_end_0
  refine ao_aload_n (pc := 0) X dX11_end_0 rfl ?_
  refine ao_getR (pc := 1) X dX11_end_1 fl_RX11_10 sf_0_0 ?_
  refine ao_iload_n (pc := 4) X dX11_end_4 rfl ?_
  refine ao_callVI (pc := 5) (As := [.int v1]) (st := []) X hl0 dX11_end_5 yv_X9_cut so_1 ml_RX11_108 (mX9_cut_1 hI v1 μ) (Nat.le_of_ble_eq_true rfl) rfl rfl (Nat.le_of_ble_eq_true rfl) (fun r1 m2 => ?_)
  exact ao_zretG (pc := 8) X hr dX11_end_8
def fX12_in (v0 : Int32) (v1 : Int32) (v2 : Int32) (μ : Mem) : Option (Int32 × Mem) :=
  if v0 < v1 then (some ((0 : Int32), μ))
  else if v2 < v0 then (some ((0 : Int32), μ))
    else some ((1 : Int32), μ)
set_option maxRecDepth 100000 in
set_option maxHeartbeats 4000000 in
theorem mX12_in {E : En} {l : Launch} (hI : Inj E) (v0 : Int32) (v1 : Int32) (v2 : Int32) (μ : Mem) : MtI E l yX12_in cX12_in 3 (some .boolean) 1 [.int v0, .int v1, .int v2] μ (fX12_in v0 v1 v2 μ) := by
  refine mtI_of (own := RX12) [(0, .int v0), (1, .int v1), (2, .int v2)] hI rfl (by decide) (Nat.le_of_ble_eq_true rfl) (Nat.le_of_ble_eq_true rfl) rfl (fun Z hl0 X hr => ?_)
  unfold fX12_in
  refine ao_iload_n (pc := 0) X dX12_in_0 rfl ?_
  refine ao_iload_n (pc := 1) X dX12_in_1 rfl ?_
  refine ao_icmp_lt (pc := 2) (tgt := 14) X dX12_in_2 (by decide) (fun _ => ?_) (fun _ => ?_)
  · refine ao_iconst (pc := 14) X dX12_in_14 ic_0 ?_
    exact ao_zret (pc := 15) X hr rfl dX12_in_15
  · refine ao_iload_n (pc := 5) X dX12_in_5 rfl ?_
    refine ao_iload_n (pc := 6) X dX12_in_6 rfl ?_
    refine ao_icmp_gt (pc := 7) (tgt := 14) X dX12_in_7 (by decide) (fun _ => ?_) (fun _ => ?_)
    · refine ao_iconst (pc := 14) X dX12_in_14 ic_0 ?_
      exact ao_zret (pc := 15) X hr rfl dX12_in_15
    · refine ao_iconst (pc := 10) X dX12_in_10 ic_1 ?_
      refine ao_goto (pc := 11) (tgt := 15) X dX12_in_11 (by decide) ?_
      exact ao_zret (pc := 15) X hr rfl dX12_in_15
def fX12_end_122 (v1 : Int32) (μ : Mem) : Option (Int32 × Mem) :=
  lt (sI μ 122 17 (0 : Int32)) fun m1 =>
  bnd (fX12_in v1 (0 : Int32) (gI m1 122 14) m1) fun r2 m3 =>
  if r2 = 0 then (some ((0 : Int32), m3))
  else lt (sI m3 122 14 v1) fun m4 =>
    some ((1 : Int32), m4)
set_option maxRecDepth 100000 in
set_option maxHeartbeats 4000000 in
theorem mX12_end_122 {E : En} {l : Launch} (hI : Inj E) (v1 : Int32) (μ : Mem) : MtI E l yX12_end cX12_end 2 (some .boolean) 2 [.ref (eAd E 122), .int v1] μ (fX12_end_122 v1 μ) := by
  refine mtI_of (own := RX12) [(0, .ref (eAd E 122)), (1, .int v1)] hI rfl (by decide) (Nat.le_of_ble_eq_true rfl) (Nat.le_of_ble_eq_true rfl) rfl (fun Z hl0 X hr => ?_)
  unfold fX12_end_122
  refine ao_aload_n (pc := 0) X dX12_end_0 rfl ?_
  refine ao_iconst (pc := 1) X dX12_end_1 ic_0 ?_
  refine ao_putI (pc := 2) X dX12_end_2 fp_RX12_95 sf_122_17 ?_
  refine ao_lt (fun m1 => ?_)
  refine ao_iload_n (pc := 5) X dX12_end_5 rfl ?_
  refine ao_iconst (pc := 6) X dX12_end_6 ic_0 ?_
  refine ao_aload_n (pc := 7) X dX12_end_7 rfl ?_
  refine ao_getI (pc := 8) X dX12_end_8 fl_RX12_108 sf_122_14 ?_
  refine ao_callSI (pc := 11) (As := [.int v1, .int (0 : Int32), .int (gI m1 122 14)]) (st := []) X hl0 dX12_end_11 yv_X12_in ml_RX12_104 (mX12_in hI v1 (0 : Int32) (gI m1 122 14) m1) (Nat.le_of_ble_eq_true rfl) rfl rfl (Nat.le_of_ble_eq_true rfl) (fun r2 m3 => ?_)
  refine ao_if_ne (pc := 14) (tgt := 19) X dX12_end_14 (by decide) (fun _ => ?_) (fun _ => ?_)
  · refine ao_aload_n (pc := 19) X dX12_end_19 rfl ?_
    refine ao_iload_n (pc := 20) X dX12_end_20 rfl ?_
    refine ao_putI (pc := 21) X dX12_end_21 fp_RX12_108 sf_122_14 ?_
    refine ao_lt (fun m4 => ?_)
    refine ao_iconst (pc := 24) X dX12_end_24 ic_1 ?_
    exact ao_zret (pc := 25) X hr rfl dX12_end_25
  · refine ao_iconst (pc := 17) X dX12_end_17 ic_0 ?_
    exact ao_zret (pc := 18) X hr rfl dX12_end_18
def fX6_forget_29 (μ : Mem) : Option (Unit × Mem) :=
  lt (sI μ 29 2 (0 : Int32)) fun m1 =>
  some ((), m1)
set_option maxRecDepth 100000 in
set_option maxHeartbeats 4000000 in
theorem mX6_forget_29 {E : En} {l : Launch} (hI : Inj E) (μ : Mem) : MtV E l yX6_forget cX6_forget 1 (none) 1 [.ref (eAd E 29)] μ (fX6_forget_29 μ) := by
  refine mtV_of (own := RX6) [(0, .ref (eAd E 29))] hI rfl (by decide) (Nat.le_of_ble_eq_true rfl) (Nat.le_of_ble_eq_true rfl) rfl (fun Z hl0 X hr => ?_)
  unfold fX6_forget_29
  refine ao_aload_n (pc := 0) X dX6_forget_0 rfl ?_
  refine ao_iconst (pc := 1) X dX6_forget_1 ic_0 ?_
  refine ao_putI (pc := 2) X dX6_forget_2 fp_RX6_19 sf_29_2 ?_
  refine ao_lt (fun m1 => ?_)
  exact ao_vret (pc := 5) X hr dX6_forget_5
def fX11_forgetWhatWas_0_b9 : Nat → Int32 → Mem → Option (Unit × Mem)
  | 0, _, _ => none
  | n + 1, p1, μ =>
  if (2 : Int32) ≤ p1 then (some ((), μ))
  else gd (inb p1 2) (lt (sI μ 120 (ix p1) (vp_nar .boolean (0 : Int32))) fun m3 =>
    fX11_forgetWhatWas_0_b9 n (p1 + (1 : Int32)) m3)
set_option maxRecDepth 100000 in
set_option maxHeartbeats 4000000 in
theorem bX11_forgetWhatWas_0_9 {E : En} {l : Launch} {Z : Zt} (hI : Inj E) (hl0 : lZ l Z) (X : Cx E Z cX11_forgetWhatWas RX11 2 2) (hr : rtOf Z = none) : ∀ (n : Nat) (p1 : Int32) (μ : Mem), AO E Z 2 (QV E Z) 9 [(0, .ref (eAd E 0)), (1, .int p1)] [] μ (fX11_forgetWhatWas_0_b9 n p1 μ) := by
  intro n
  induction n with
  | zero =>
    intros
    exact ao_none
  | succ n ih =>
    intro p1 μ
    rw [fX11_forgetWhatWas_0_b9]
    refine ao_iload_n (pc := 9) X dX11_forgetWhatWas_9 rfl ?_
    refine ao_iconst (pc := 10) X dX11_forgetWhatWas_10 ic_2 ?_
    refine ao_icmp_ge (pc := 11) (tgt := 27) X dX11_forgetWhatWas_11 (by decide) (fun _ => ?_) (fun _ => ?_)
    · exact ao_vret (pc := 27) X hr dX11_forgetWhatWas_27
    · refine ao_aload_n (pc := 14) X dX11_forgetWhatWas_14 rfl ?_
      refine ao_getR (pc := 15) X dX11_forgetWhatWas_15 fl_RX11_92 sf_0_12 ?_
      refine ao_iload_n (pc := 18) X dX11_forgetWhatWas_18 rfl ?_
      refine ao_iconst (pc := 19) X dX11_forgetWhatWas_19 ic_0 ?_
      refine ao_zast (pc := 20) X dX11_forgetWhatWas_20 sa_120 ?_
      refine ao_lt (fun m3 => ?_)
      refine ao_iinc (pc := 21) (k := 1) (v := p1 + (1 : Int32)) (lv' := [(1, .int (p1 + (1 : Int32))), (0, .ref (eAd E 0))]) X dX11_forgetWhatWas_21 rfl (ii_ic ic_1) (by decide) rfl ?_
      refine ao_goto (pc := 24) (tgt := 9) X dX11_forgetWhatWas_24 (by decide) ?_
      refine ao_sub [1, 0] rfl ?_
      exact ih (p1 + (1 : Int32)) m3
def fX11_forgetWhatWas_0 (μ : Mem) : Option (Unit × Mem) :=
  bnd (fX6_forget_29 μ) fun r1 m2 =>
  fX11_forgetWhatWas_0_b9 FU (0 : Int32) m2
set_option maxRecDepth 100000 in
set_option maxHeartbeats 4000000 in
theorem mX11_forgetWhatWas_0 {E : En} {l : Launch} (hI : Inj E) (μ : Mem) : MtV E l yX11_forgetWhatWas cX11_forgetWhatWas 2 (none) 2 [.ref (eAd E 0)] μ (fX11_forgetWhatWas_0 μ) := by
  refine mtV_of (own := RX11) [(0, .ref (eAd E 0))] hI rfl (by decide) (Nat.le_of_ble_eq_true rfl) (Nat.le_of_ble_eq_true rfl) rfl (fun Z hl0 X hr => ?_)
  unfold fX11_forgetWhatWas_0
  refine ao_aload_n (pc := 0) X dX11_forgetWhatWas_0 rfl ?_
  refine ao_getR (pc := 1) X dX11_forgetWhatWas_1 fl_RX11_75 sf_0_9 ?_
  refine ao_callVV (pc := 4) (As := []) (st := []) X hl0 dX11_forgetWhatWas_4 yv_X6_forget so_29 ml_RX11_402 (mX6_forget_29 hI μ) (Nat.le_of_ble_eq_true rfl) rfl rfl (Nat.le_of_ble_eq_true rfl) (fun r1 m2 => ?_)
  refine ao_iconst (pc := 7) X dX11_forgetWhatWas_7 ic_0 ?_
  refine ao_istore_n (pc := 8) (lv' := [(1, .int (0 : Int32)), (0, .ref (eAd E 0))]) X dX11_forgetWhatWas_8 rfl (by decide) rfl ?_
  refine ao_sub [1, 0] rfl ?_
  exact bX11_forgetWhatWas_0_9 hI hl0 X hr FU (0 : Int32) m2
def fX4_receive_33_b2 : Nat → Int32 → Int32 → Mem → Option (Unit × Mem)
  | 0, _, _, _ => none
  | n + 1, p2, p3, μ =>
  if p2 ≤ p3 then (some ((), μ))
  else if (6 : Int32) ≤ p3 then (some ((), μ))
    else gd (inb p3 6) (lt (sI μ 34 (ix p3) (0 : Int32)) fun m1 =>
      gd (inb p3 6) (lt (sI m1 35 (ix p3) (0 : Int32)) fun m2 =>
      gd (inb p3 6) (lt (sI m2 36 (ix p3) (0 : Int32)) fun m3 =>
      fX4_receive_33_b2 n p2 (p3 + (1 : Int32)) m3)))
set_option maxRecDepth 100000 in
set_option maxHeartbeats 4000000 in
theorem bX4_receive_33_2 {E : En} {l : Launch} {Z : Zt} (hI : Inj E) (hl0 : lZ l Z) (X : Cx E Z cX4_receive RX4 4 1) (hr : rtOf Z = none) : ∀ (n : Nat) (p2 : Int32) (p3 : Int32) (μ : Mem), AO E Z 4 (QV E Z) 2 [(0, .ref (eAd E 33)), (2, .int p2), (3, .int p3)] [] μ (fX4_receive_33_b2 n p2 p3 μ) := by
  intro n
  induction n with
  | zero =>
    intros
    exact ao_none
  | succ n ih =>
    intro p2 p3 μ
    rw [fX4_receive_33_b2]
    refine ao_iload_n (pc := 2) X dX4_receive_2 rfl ?_
    refine ao_iload_n (pc := 3) X dX4_receive_3 rfl ?_
    refine ao_icmp_ge (pc := 4) (tgt := 40) X dX4_receive_4 (by decide) (fun _ => ?_) (fun _ => ?_)
    · exact ao_vret (pc := 40) X hr dX4_receive_40
    · refine ao_iload_n (pc := 7) X dX4_receive_7 rfl ?_
      refine ao_bipush (pc := 8) X dX4_receive_8 bp_6 ?_
      refine ao_icmp_ge (pc := 10) (tgt := 40) X dX4_receive_10 (by decide) (fun _ => ?_) (fun _ => ?_)
      · exact ao_vret (pc := 40) X hr dX4_receive_40
      · refine ao_aload_n (pc := 13) X dX4_receive_13 rfl ?_
        refine ao_getR (pc := 14) X dX4_receive_14 fl_RX4_9 sf_33_0 ?_
        refine ao_iload_n (pc := 17) X dX4_receive_17 rfl ?_
        refine ao_iconst (pc := 18) X dX4_receive_18 ic_0 ?_
        refine ao_iast (pc := 19) X dX4_receive_19 sa_34 ?_
        refine ao_lt (fun m1 => ?_)
        refine ao_aload_n (pc := 20) X dX4_receive_20 rfl ?_
        refine ao_getR (pc := 21) X dX4_receive_21 fl_RX4_15 sf_33_1 ?_
        refine ao_iload_n (pc := 24) X dX4_receive_24 rfl ?_
        refine ao_iconst (pc := 25) X dX4_receive_25 ic_0 ?_
        refine ao_iast (pc := 26) X dX4_receive_26 sa_35 ?_
        refine ao_lt (fun m2 => ?_)
        refine ao_aload_n (pc := 27) X dX4_receive_27 rfl ?_
        refine ao_getR (pc := 28) X dX4_receive_28 fl_RX4_18 sf_33_2 ?_
        refine ao_iload_n (pc := 31) X dX4_receive_31 rfl ?_
        refine ao_iconst (pc := 32) X dX4_receive_32 ic_0 ?_
        refine ao_iast (pc := 33) X dX4_receive_33 sa_36 ?_
        refine ao_lt (fun m3 => ?_)
        refine ao_iinc (pc := 34) (k := 2) (v := p3 + (1 : Int32)) (lv' := [(3, .int (p3 + (1 : Int32))), (0, .ref (eAd E 33)), (2, .int p2)]) X dX4_receive_34 rfl (ii_ic ic_1) (by decide) rfl ?_
        refine ao_goto (pc := 37) (tgt := 2) X dX4_receive_37 (by decide) ?_
        refine ao_sub [1, 2, 0] rfl ?_
        exact ih p2 (p3 + (1 : Int32)) m3
def fX4_receive_33 (v1 : Int32) (v2 : Int32) (μ : Mem) : Option (Unit × Mem) :=
  fX4_receive_33_b2 FU v2 v1 μ
set_option maxRecDepth 100000 in
set_option maxHeartbeats 4000000 in
theorem mX4_receive_33 {E : En} {l : Launch} (hI : Inj E) (v1 : Int32) (v2 : Int32) (μ : Mem) : MtV E l yX4_receive cX4_receive 4 (none) 1 [.ref (eAd E 33), .int v1, .int v2] μ (fX4_receive_33 v1 v2 μ) := by
  refine mtV_of (own := RX4) [(0, .ref (eAd E 33)), (1, .int v1), (2, .int v2)] hI rfl (by decide) (Nat.le_of_ble_eq_true rfl) (Nat.le_of_ble_eq_true rfl) rfl (fun Z hl0 X hr => ?_)
  unfold fX4_receive_33
  refine ao_iload_n (pc := 0) X dX4_receive_0 rfl ?_
  refine ao_istore_n (pc := 1) (lv' := [(3, .int v1), (0, .ref (eAd E 33)), (1, .int v1), (2, .int v2)]) X dX4_receive_1 rfl (by decide) rfl ?_
  refine ao_sub [1, 3, 0] rfl ?_
  exact bX4_receive_33_2 hI hl0 X hr FU v2 v1 μ
def fX3_allGoods_5_b4 : Nat → Int32 → Int32 → Mem → Option (Int32 × Mem)
  | 0, _, _, _ => none
  | n + 1, p1, p2, μ =>
  if (gI μ 5 5) ≤ p2 then (some (p1, μ))
  else gd (inb p2 6) (lt (p1 ||| (gI μ 10 (ix p2))) fun x1 =>
    fX3_allGoods_5_b4 n x1 (p2 + (1 : Int32)) μ)
set_option maxRecDepth 100000 in
set_option maxHeartbeats 4000000 in
theorem bX3_allGoods_5_4 {E : En} {l : Launch} {Z : Zt} (hI : Inj E) (hl0 : lZ l Z) (X : Cx E Z cX3_allGoods RX3 3 1) (hr : rtOf Z = some .int) : ∀ (n : Nat) (p1 : Int32) (p2 : Int32) (μ : Mem), AO E Z 3 (QI E Z) 4 [(0, .ref (eAd E 5)), (1, .int p1), (2, .int p2)] [] μ (fX3_allGoods_5_b4 n p1 p2 μ) := by
  intro n
  induction n with
  | zero =>
    intros
    exact ao_none
  | succ n ih =>
    intro p1 p2 μ
    rw [fX3_allGoods_5_b4]
    refine ao_iload_n (pc := 4) X dX3_allGoods_4 rfl ?_
    refine ao_aload_n (pc := 5) X dX3_allGoods_5 rfl ?_
    refine ao_getI (pc := 6) X dX3_allGoods_6 fl_RX3_28 sf_5_5 ?_
    refine ao_icmp_ge (pc := 9) (tgt := 27) X dX3_allGoods_9 (by decide) (fun _ => ?_) (fun _ => ?_)
    · refine ao_iload_n (pc := 27) X dX3_allGoods_27 rfl ?_
      exact ao_iret (pc := 28) X hr dX3_allGoods_28
    · refine ao_iload_n (pc := 12) X dX3_allGoods_12 rfl ?_
      refine ao_aload_n (pc := 13) X dX3_allGoods_13 rfl ?_
      refine ao_getR (pc := 14) X dX3_allGoods_14 fl_RX3_25 sf_5_4 ?_
      refine ao_iload_n (pc := 17) X dX3_allGoods_17 rfl ?_
      refine ao_iald (pc := 18) X dX3_allGoods_18 sa_10 ?_
      refine ao_ior (pc := 19) X dX3_allGoods_19 ?_
      refine ao_ltI (fun x1 => ?_)
      refine ao_istore_n (pc := 20) (lv' := [(1, .int x1), (0, .ref (eAd E 5)), (2, .int p2)]) X dX3_allGoods_20 rfl (by decide) rfl ?_
      refine ao_iinc (pc := 21) (k := 2) (v := p2 + (1 : Int32)) (lv' := [(2, .int (p2 + (1 : Int32))), (1, .int x1), (0, .ref (eAd E 5))]) X dX3_allGoods_21 rfl (ii_ic ic_1) (by decide) rfl ?_
      refine ao_goto (pc := 24) (tgt := 4) X dX3_allGoods_24 (by decide) ?_
      refine ao_sub [2, 1, 0] rfl ?_
      exact ih x1 (p2 + (1 : Int32)) μ
def fX3_allGoods_5 (μ : Mem) : Option (Int32 × Mem) :=
  fX3_allGoods_5_b4 FU (0 : Int32) (0 : Int32) μ
set_option maxRecDepth 100000 in
set_option maxHeartbeats 4000000 in
theorem mX3_allGoods_5 {E : En} {l : Launch} (hI : Inj E) (μ : Mem) : MtI E l yX3_allGoods cX3_allGoods 3 (some .int) 1 [.ref (eAd E 5)] μ (fX3_allGoods_5 μ) := by
  refine mtI_of (own := RX3) [(0, .ref (eAd E 5))] hI rfl (by decide) (Nat.le_of_ble_eq_true rfl) (Nat.le_of_ble_eq_true rfl) rfl (fun Z hl0 X hr => ?_)
  unfold fX3_allGoods_5
  refine ao_iconst (pc := 0) X dX3_allGoods_0 ic_0 ?_
  refine ao_istore_n (pc := 1) (lv' := [(1, .int (0 : Int32)), (0, .ref (eAd E 5))]) X dX3_allGoods_1 rfl (by decide) rfl ?_
  refine ao_iconst (pc := 2) X dX3_allGoods_2 ic_0 ?_
  refine ao_istore_n (pc := 3) (lv' := [(2, .int (0 : Int32)), (1, .int (0 : Int32)), (0, .ref (eAd E 5))]) X dX3_allGoods_3 rfl (by decide) rfl ?_
  refine ao_sub [2, 1, 0] rfl ?_
  exact bX3_allGoods_5_4 hI hl0 X hr FU (0 : Int32) (0 : Int32) μ
def fX9_back_1 (μ : Mem) : Option (Unit × Mem) :=
  lt (sI μ 1 2 (imax (0 : Int32) ((gI μ 1 2) - (1 : Int32)))) fun m1 =>
  some ((), m1)
set_option maxRecDepth 100000 in
set_option maxHeartbeats 4000000 in
theorem mX9_back_1 {E : En} {l : Launch} (hI : Inj E) (μ : Mem) : MtV E l yX9_back cX9_back 1 (none) 1 [.ref (eAd E 1)] μ (fX9_back_1 μ) := by
  refine mtV_of (own := RX9) [(0, .ref (eAd E 1))] hI rfl (by decide) (Nat.le_of_ble_eq_true rfl) (Nat.le_of_ble_eq_true rfl) rfl (fun Z hl0 X hr => ?_)
  unfold fX9_back_1
  refine ao_aload_n (pc := 0) X dX9_back_0 rfl ?_
  refine ao_iconst (pc := 1) X dX9_back_1 ic_0 ?_
  refine ao_aload_n (pc := 2) X dX9_back_2 rfl ?_
  refine ao_getI (pc := 3) X dX9_back_3 fl_RX9_19 sf_1_2 ?_
  refine ao_iconst (pc := 6) X dX9_back_6 ic_1 ?_
  refine ao_isub (pc := 7) X dX9_back_7 ?_
  refine ao_max (pc := 8) X dX9_back_8 ml_RX9_31 MaxW_ok (Nat.le_of_ble_eq_true rfl) ?_
  refine ao_putI (pc := 11) X dX9_back_11 fp_RX9_19 sf_1_2 ?_
  refine ao_lt (fun m1 => ?_)
  exact ao_vret (pc := 14) X hr dX9_back_14
def fX9_digit_1 (v1 : Int32) (μ : Mem) : Option (Int32 × Mem) :=
  if (gI μ 1 3) ≤ (gI μ 1 2) then (some ((-1 : Int32), μ))
  else gd (inb (gI μ 1 2) 80) (if (gI μ 2 (ix (gI μ 1 2))) < (48 : Int32) then (some ((-1 : Int32), μ))
    else gd (inb (gI μ 1 2) 80) (if ((gI μ 2 (ix (gI μ 1 2))) - (48 : Int32)) < v1 then (gd (inb (gI μ 1 2) 80) (lt ((gI μ 2 (ix (gI μ 1 2))) - (48 : Int32)) fun x1 =>
        lt (sI μ 1 2 ((gI μ 1 2) + (1 : Int32))) fun m2 =>
        some (x1, m2)))
      else some ((-1 : Int32), μ)))
set_option maxRecDepth 100000 in
set_option maxHeartbeats 4000000 in
theorem mX9_digit_1 {E : En} {l : Launch} (hI : Inj E) (v1 : Int32) (μ : Mem) : MtI E l yX9_digit cX9_digit 3 (some .int) 1 [.ref (eAd E 1), .int v1] μ (fX9_digit_1 v1 μ) := by
  refine mtI_of (own := RX9) [(0, .ref (eAd E 1)), (1, .int v1)] hI rfl (by decide) (Nat.le_of_ble_eq_true rfl) (Nat.le_of_ble_eq_true rfl) rfl (fun Z hl0 X hr => ?_)
  unfold fX9_digit_1
  refine ao_aload_n (pc := 0) X dX9_digit_0 rfl ?_
  refine ao_getI (pc := 1) X dX9_digit_1 fl_RX9_19 sf_1_2 ?_
  refine ao_aload_n (pc := 4) X dX9_digit_4 rfl ?_
  refine ao_getI (pc := 5) X dX9_digit_5 fl_RX9_22 sf_1_3 ?_
  refine ao_icmp_ge (pc := 8) (tgt := 41) X dX9_digit_8 (by decide) (fun _ => ?_) (fun _ => ?_)
  · refine ao_iconst (pc := 41) X dX9_digit_41 ic_m1 ?_
    exact ao_iret (pc := 42) X hr dX9_digit_42
  · refine ao_aload_n (pc := 11) X dX9_digit_11 rfl ?_
    refine ao_getR (pc := 12) X dX9_digit_12 fl_RX9_11 sf_1_0 ?_
    refine ao_aload_n (pc := 15) X dX9_digit_15 rfl ?_
    refine ao_getI (pc := 16) X dX9_digit_16 fl_RX9_19 sf_1_2 ?_
    refine ao_cald (pc := 19) X dX9_digit_19 sa_2 ?_
    refine ao_bipush (pc := 20) X dX9_digit_20 bp_48 ?_
    refine ao_icmp_lt (pc := 22) (tgt := 41) X dX9_digit_22 (by decide) (fun _ => ?_) (fun _ => ?_)
    · refine ao_iconst (pc := 41) X dX9_digit_41 ic_m1 ?_
      exact ao_iret (pc := 42) X hr dX9_digit_42
    · refine ao_aload_n (pc := 25) X dX9_digit_25 rfl ?_
      refine ao_getR (pc := 26) X dX9_digit_26 fl_RX9_11 sf_1_0 ?_
      refine ao_aload_n (pc := 29) X dX9_digit_29 rfl ?_
      refine ao_getI (pc := 30) X dX9_digit_30 fl_RX9_19 sf_1_2 ?_
      refine ao_cald (pc := 33) X dX9_digit_33 sa_2 ?_
      refine ao_bipush (pc := 34) X dX9_digit_34 bp_48 ?_
      refine ao_isub (pc := 36) X dX9_digit_36 ?_
      refine ao_iload_n (pc := 37) X dX9_digit_37 rfl ?_
      refine ao_icmp_lt (pc := 38) (tgt := 43) X dX9_digit_38 (by decide) (fun _ => ?_) (fun _ => ?_)
      · refine ao_aload_n (pc := 43) X dX9_digit_43 rfl ?_
        refine ao_getR (pc := 44) X dX9_digit_44 fl_RX9_11 sf_1_0 ?_
        refine ao_aload_n (pc := 47) X dX9_digit_47 rfl ?_
        refine ao_getI (pc := 48) X dX9_digit_48 fl_RX9_19 sf_1_2 ?_
        refine ao_cald (pc := 51) X dX9_digit_51 sa_2 ?_
        refine ao_bipush (pc := 52) X dX9_digit_52 bp_48 ?_
        refine ao_isub (pc := 54) X dX9_digit_54 ?_
        refine ao_ltI (fun x1 => ?_)
        refine ao_istore_n (pc := 55) (lv' := [(2, .int x1), (0, .ref (eAd E 1)), (1, .int v1)]) X dX9_digit_55 rfl (by decide) rfl ?_
        refine ao_aload_n (pc := 56) X dX9_digit_56 rfl ?_
        refine ao_dup (pc := 57) X dX9_digit_57 rfl ?_
        refine ao_getI (pc := 58) X dX9_digit_58 fl_RX9_19 sf_1_2 ?_
        refine ao_iconst (pc := 61) X dX9_digit_61 ic_1 ?_
        refine ao_iadd (pc := 62) X dX9_digit_62 ?_
        refine ao_putI (pc := 63) X dX9_digit_63 fp_RX9_19 sf_1_2 ?_
        refine ao_lt (fun m2 => ?_)
        refine ao_iload_n (pc := 66) X dX9_digit_66 rfl ?_
        exact ao_iret (pc := 67) X hr dX9_digit_67
      · refine ao_iconst (pc := 41) X dX9_digit_41 ic_m1 ?_
        exact ao_iret (pc := 42) X hr dX9_digit_42
def fX9_number_1_b12 : Nat → Int32 → Int32 → Int32 → Int32 → Mem → Option (Int32 × Mem)
  | 0, _, _, _, _, _ => none
  | n + 1, p1, p2, p3, p4, μ =>
  if p1 ≤ p4 then (some (p2, μ))
  else if p3 < 0 then (some (p2, μ))
    else bnd (fX9_digit_1 (10 : Int32) μ) fun r3 m4 =>
      if 0 ≤ r3 then (lt ((p2 * (10 : Int32)) + r3) fun x5 =>
        fX9_number_1_b12 n p1 x5 r3 (p4 + (1 : Int32)) m4)
      else fX9_number_1_b12 n p1 p2 r3 (p4 + (1 : Int32)) m4
set_option maxRecDepth 100000 in
set_option maxHeartbeats 4000000 in
theorem bX9_number_1_12 {E : En} {l : Launch} {Z : Zt} (hI : Inj E) (hl0 : lZ l Z) (X : Cx E Z cX9_number RX9 5 2) (hr : rtOf Z = some .int) : ∀ (n : Nat) (p1 : Int32) (p2 : Int32) (p3 : Int32) (p4 : Int32) (μ : Mem), AO E Z 5 (QI E Z) 12 [(0, .ref (eAd E 1)), (1, .int p1), (2, .int p2), (3, .int p3), (4, .int p4)] [] μ (fX9_number_1_b12 n p1 p2 p3 p4 μ) := by
  intro n
  induction n with
  | zero =>
    intros
    exact ao_none
  | succ n ih =>
    intro p1 p2 p3 p4 μ
    rw [fX9_number_1_b12]
    refine ao_iload (pc := 12) X dX9_number_12 rfl ?_
    refine ao_iload_n (pc := 14) X dX9_number_14 rfl ?_
    refine ao_icmp_ge (pc := 15) (tgt := 50) X dX9_number_15 (by decide) (fun _ => ?_) (fun _ => ?_)
    · refine ao_iload_n (pc := 50) X dX9_number_50 rfl ?_
      exact ao_iret (pc := 51) X hr dX9_number_51
    · refine ao_iload_n (pc := 18) X dX9_number_18 rfl ?_
      refine ao_if_lt (pc := 19) (tgt := 50) X dX9_number_19 (by decide) (fun _ => ?_) (fun _ => ?_)
      · refine ao_iload_n (pc := 50) X dX9_number_50 rfl ?_
        exact ao_iret (pc := 51) X hr dX9_number_51
      · refine ao_aload_n (pc := 22) X dX9_number_22 rfl ?_
        refine ao_bipush (pc := 23) X dX9_number_23 bp_10 ?_
        refine ao_callVI (pc := 25) (As := [.int (10 : Int32)]) (st := []) X hl0 dX9_number_25 yv_X9_digit so_1 ml_RX9_40 (mX9_digit_1 hI (10 : Int32) μ) (Nat.le_of_ble_eq_true rfl) rfl rfl (Nat.le_of_ble_eq_true rfl) (fun r3 m4 => ?_)
        refine ao_istore_n (pc := 28) (lv' := [(3, .int r3), (0, .ref (eAd E 1)), (1, .int p1), (2, .int p2), (4, .int p4)]) X dX9_number_28 rfl (by decide) rfl ?_
        refine ao_iload_n (pc := 29) X dX9_number_29 rfl ?_
        refine ao_if_ge (pc := 30) (tgt := 37) X dX9_number_30 (by decide) (fun _ => ?_) (fun _ => ?_)
        · refine ao_iload_n (pc := 37) X dX9_number_37 rfl ?_
          refine ao_bipush (pc := 38) X dX9_number_38 bp_10 ?_
          refine ao_imul (pc := 40) X dX9_number_40 ?_
          refine ao_iload_n (pc := 41) X dX9_number_41 rfl ?_
          refine ao_iadd (pc := 42) X dX9_number_42 ?_
          refine ao_ltI (fun x5 => ?_)
          refine ao_istore_n (pc := 43) (lv' := [(2, .int x5), (3, .int r3), (0, .ref (eAd E 1)), (1, .int p1), (4, .int p4)]) X dX9_number_43 rfl (by decide) rfl ?_
          refine ao_iinc (pc := 44) (k := 4) (v := p4 + (1 : Int32)) (lv' := [(4, .int (p4 + (1 : Int32))), (2, .int x5), (3, .int r3), (0, .ref (eAd E 1)), (1, .int p1)]) X dX9_number_44 rfl (ii_ic ic_1) (by decide) rfl ?_
          refine ao_goto (pc := 47) (tgt := 12) X dX9_number_47 (by decide) ?_
          refine ao_sub [3, 4, 1, 2, 0] rfl ?_
          exact ih p1 x5 r3 (p4 + (1 : Int32)) m4
        · refine ao_iload_n (pc := 33) X dX9_number_33 rfl ?_
          refine ao_goto (pc := 34) (tgt := 43) X dX9_number_34 (by decide) ?_
          refine ao_istore_n (pc := 43) (lv' := [(2, .int p2), (3, .int r3), (0, .ref (eAd E 1)), (1, .int p1), (4, .int p4)]) X dX9_number_43 rfl (by decide) rfl ?_
          refine ao_iinc (pc := 44) (k := 4) (v := p4 + (1 : Int32)) (lv' := [(4, .int (p4 + (1 : Int32))), (2, .int p2), (3, .int r3), (0, .ref (eAd E 1)), (1, .int p1)]) X dX9_number_44 rfl (ii_ic ic_1) (by decide) rfl ?_
          refine ao_goto (pc := 47) (tgt := 12) X dX9_number_47 (by decide) ?_
          refine ao_sub [3, 4, 1, 2, 0] rfl ?_
          exact ih p1 p2 r3 (p4 + (1 : Int32)) m4
def fX9_number_1 (v1 : Int32) (μ : Mem) : Option (Int32 × Mem) :=
  bnd (fX9_digit_1 (10 : Int32) μ) fun r1 m2 =>
  fX9_number_1_b12 FU v1 r1 r1 (1 : Int32) m2
set_option maxRecDepth 100000 in
set_option maxHeartbeats 4000000 in
theorem mX9_number_1 {E : En} {l : Launch} (hI : Inj E) (v1 : Int32) (μ : Mem) : MtI E l yX9_number cX9_number 5 (some .int) 2 [.ref (eAd E 1), .int v1] μ (fX9_number_1 v1 μ) := by
  refine mtI_of (own := RX9) [(0, .ref (eAd E 1)), (1, .int v1)] hI rfl (by decide) (Nat.le_of_ble_eq_true rfl) (Nat.le_of_ble_eq_true rfl) rfl (fun Z hl0 X hr => ?_)
  unfold fX9_number_1
  refine ao_aload_n (pc := 0) X dX9_number_0 rfl ?_
  refine ao_bipush (pc := 1) X dX9_number_1 bp_10 ?_
  refine ao_callVI (pc := 3) (As := [.int (10 : Int32)]) (st := []) X hl0 dX9_number_3 yv_X9_digit so_1 ml_RX9_40 (mX9_digit_1 hI (10 : Int32) μ) (Nat.le_of_ble_eq_true rfl) rfl rfl (Nat.le_of_ble_eq_true rfl) (fun r1 m2 => ?_)
  refine ao_istore_n (pc := 6) (lv' := [(2, .int r1), (0, .ref (eAd E 1)), (1, .int v1)]) X dX9_number_6 rfl (by decide) rfl ?_
  refine ao_iload_n (pc := 7) X dX9_number_7 rfl ?_
  refine ao_istore_n (pc := 8) (lv' := [(3, .int r1), (2, .int r1), (0, .ref (eAd E 1)), (1, .int v1)]) X dX9_number_8 rfl (by decide) rfl ?_
  refine ao_iconst (pc := 9) X dX9_number_9 ic_1 ?_
  refine ao_istore (pc := 10) (lv' := [(4, .int (1 : Int32)), (3, .int r1), (2, .int r1), (0, .ref (eAd E 1)), (1, .int v1)]) X dX9_number_10 (by decide) rfl ?_
  refine ao_sub [3, 4, 2, 1, 0] rfl ?_
  exact bX9_number_1_12 hI hl0 X hr FU v1 r1 r1 (1 : Int32) m2
def fX9_takes_1 (v1 : Int32) (μ : Mem) : Option (Int32 × Mem) :=
  if (gI μ 1 3) ≤ (gI μ 1 2) then (some ((0 : Int32), μ))
  else gd (inb (gI μ 1 2) 80) (if (gI μ 2 (ix (gI μ 1 2))) = v1 then (lt (sI μ 1 2 ((gI μ 1 2) + (1 : Int32))) fun m1 =>
      some ((1 : Int32), m1))
    else some ((0 : Int32), μ))
set_option maxRecDepth 100000 in
set_option maxHeartbeats 4000000 in
theorem mX9_takes_1 {E : En} {l : Launch} (hI : Inj E) (v1 : Int32) (μ : Mem) : MtI E l yX9_takes cX9_takes 2 (some .boolean) 1 [.ref (eAd E 1), .int v1] μ (fX9_takes_1 v1 μ) := by
  refine mtI_of (own := RX9) [(0, .ref (eAd E 1)), (1, .int v1)] hI rfl (by decide) (Nat.le_of_ble_eq_true rfl) (Nat.le_of_ble_eq_true rfl) rfl (fun Z hl0 X hr => ?_)
  unfold fX9_takes_1
  refine ao_aload_n (pc := 0) X dX9_takes_0 rfl ?_
  refine ao_getI (pc := 1) X dX9_takes_1 fl_RX9_19 sf_1_2 ?_
  refine ao_aload_n (pc := 4) X dX9_takes_4 rfl ?_
  refine ao_getI (pc := 5) X dX9_takes_5 fl_RX9_22 sf_1_3 ?_
  refine ao_icmp_ge (pc := 8) (tgt := 24) X dX9_takes_8 (by decide) (fun _ => ?_) (fun _ => ?_)
  · refine ao_iconst (pc := 24) X dX9_takes_24 ic_0 ?_
    exact ao_zret (pc := 25) X hr rfl dX9_takes_25
  · refine ao_aload_n (pc := 11) X dX9_takes_11 rfl ?_
    refine ao_getR (pc := 12) X dX9_takes_12 fl_RX9_11 sf_1_0 ?_
    refine ao_aload_n (pc := 15) X dX9_takes_15 rfl ?_
    refine ao_getI (pc := 16) X dX9_takes_16 fl_RX9_19 sf_1_2 ?_
    refine ao_cald (pc := 19) X dX9_takes_19 sa_2 ?_
    refine ao_iload_n (pc := 20) X dX9_takes_20 rfl ?_
    refine ao_icmp_eq (pc := 21) (tgt := 26) X dX9_takes_21 (by decide) (fun _ => ?_) (fun _ => ?_)
    · refine ao_aload_n (pc := 26) X dX9_takes_26 rfl ?_
      refine ao_dup (pc := 27) X dX9_takes_27 rfl ?_
      refine ao_getI (pc := 28) X dX9_takes_28 fl_RX9_19 sf_1_2 ?_
      refine ao_iconst (pc := 31) X dX9_takes_31 ic_1 ?_
      refine ao_iadd (pc := 32) X dX9_takes_32 ?_
      refine ao_putI (pc := 33) X dX9_takes_33 fp_RX9_19 sf_1_2 ?_
      refine ao_lt (fun m1 => ?_)
      refine ao_iconst (pc := 36) X dX9_takes_36 ic_1 ?_
      exact ao_zret (pc := 37) X hr rfl dX9_takes_37
    · refine ao_iconst (pc := 24) X dX9_takes_24 ic_0 ?_
      exact ao_zret (pc := 25) X hr rfl dX9_takes_25
def fX3_readsMan_5_1_b24 (p2 : Int32) (μ : Mem) : Option (Int32 × Mem) :=
  gd (inb p2 6) (if (gI μ 6 (ix p2)) ≤ 0 then (some ((0 : Int32), μ))
  else bnd (fX9_takes_1 (44 : Int32) μ) fun r6 m7 =>
    if r6 = 0 then (some ((0 : Int32), m7))
    else bnd (fX9_number_1 (2 : Int32) m7) fun r8 m9 =>
      gd (inb p2 6) (lt (sI m9 7 (ix p2) r8) fun m10 =>
      gd (inb p2 6) (if (gI m10 7 (ix p2)) < 0 then (some ((0 : Int32), m10))
      else some ((1 : Int32), m10))))
set_option maxRecDepth 100000 in
set_option maxHeartbeats 4000000 in
theorem bX3_readsMan_5_1_24 {E : En} {l : Launch} {Z : Zt} (hI : Inj E) (hl0 : lZ l Z) (X : Cx E Z cX3_readsMan RX3 3 3) (hr : rtOf Z = some .boolean) (p2 : Int32) (μ : Mem) : AO E Z 3 (QI E Z) 24 [(0, .ref (eAd E 5)), (1, .ref (eAd E 1)), (2, .int p2)] [] μ (fX3_readsMan_5_1_b24 p2 μ) := by
  unfold fX3_readsMan_5_1_b24
  refine ao_aload_n (pc := 24) X dX3_readsMan_24 rfl ?_
  refine ao_getR (pc := 25) X dX3_readsMan_25 fl_RX3_9 sf_5_0 ?_
  refine ao_iload_n (pc := 28) X dX3_readsMan_28 rfl ?_
  refine ao_iald (pc := 29) X dX3_readsMan_29 sa_6 ?_
  refine ao_if_le (pc := 30) (tgt := 42) X dX3_readsMan_30 (by decide) (fun _ => ?_) (fun _ => ?_)
  · refine ao_iconst (pc := 42) X dX3_readsMan_42 ic_0 ?_
    exact ao_zret (pc := 43) X hr rfl dX3_readsMan_43
  · refine ao_aload_n (pc := 33) X dX3_readsMan_33 rfl ?_
    refine ao_bipush (pc := 34) X dX3_readsMan_34 bp_44 ?_
    refine ao_callVI (pc := 36) (As := [.int (44 : Int32)]) (st := []) X hl0 dX3_readsMan_36 yv_X9_takes so_1 ml_RX3_55 (mX9_takes_1 hI (44 : Int32) μ) (Nat.le_of_ble_eq_true rfl) rfl rfl (Nat.le_of_ble_eq_true rfl) (fun r6 m7 => ?_)
    refine ao_if_ne (pc := 39) (tgt := 44) X dX3_readsMan_39 (by decide) (fun _ => ?_) (fun _ => ?_)
    · refine ao_aload_n (pc := 44) X dX3_readsMan_44 rfl ?_
      refine ao_getR (pc := 45) X dX3_readsMan_45 fl_RX3_15 sf_5_1 ?_
      refine ao_iload_n (pc := 48) X dX3_readsMan_48 rfl ?_
      refine ao_aload_n (pc := 49) X dX3_readsMan_49 rfl ?_
      refine ao_iconst (pc := 50) X dX3_readsMan_50 ic_2 ?_
      refine ao_callVI (pc := 51) (As := [.int (2 : Int32)]) (st := [.int p2, .ref (eAd E 7)]) X hl0 dX3_readsMan_51 yv_X9_number so_1 ml_RX3_46 (mX9_number_1 hI (2 : Int32) m7) (Nat.le_of_ble_eq_true rfl) rfl rfl (Nat.le_of_ble_eq_true rfl) (fun r8 m9 => ?_)
      refine ao_iast (pc := 54) X dX3_readsMan_54 sa_7 ?_
      refine ao_lt (fun m10 => ?_)
      refine ao_aload_n (pc := 55) X dX3_readsMan_55 rfl ?_
      refine ao_getR (pc := 56) X dX3_readsMan_56 fl_RX3_15 sf_5_1 ?_
      refine ao_iload_n (pc := 59) X dX3_readsMan_59 rfl ?_
      refine ao_iald (pc := 60) X dX3_readsMan_60 sa_7 ?_
      refine ao_if_lt (pc := 61) (tgt := 68) X dX3_readsMan_61 (by decide) (fun _ => ?_) (fun _ => ?_)
      · refine ao_iconst (pc := 68) X dX3_readsMan_68 ic_0 ?_
        exact ao_zret (pc := 69) X hr rfl dX3_readsMan_69
      · refine ao_iconst (pc := 64) X dX3_readsMan_64 ic_1 ?_
        refine ao_goto (pc := 65) (tgt := 69) X dX3_readsMan_65 (by decide) ?_
        exact ao_zret (pc := 69) X hr rfl dX3_readsMan_69
    · refine ao_iconst (pc := 42) X dX3_readsMan_42 ic_0 ?_
      exact ao_zret (pc := 43) X hr rfl dX3_readsMan_43
def fX3_readsMan_5_1 (v2 : Int32) (μ : Mem) : Option (Int32 × Mem) :=
  bnd (fX9_number_1 (2 : Int32) μ) fun r1 m2 =>
  gd (inb v2 6) (lt (sI m2 6 (ix v2) r1) fun m3 =>
  gd (inb v2 6) (if (gI m3 6 (ix v2)) = 0 then (bnd (fX9_back_1 m3) fun r4 m5 =>
    fX3_readsMan_5_1_b24 v2 m5)
  else fX3_readsMan_5_1_b24 v2 m3))
set_option maxRecDepth 100000 in
set_option maxHeartbeats 4000000 in
theorem mX3_readsMan_5_1 {E : En} {l : Launch} (hI : Inj E) (v2 : Int32) (μ : Mem) : MtI E l yX3_readsMan cX3_readsMan 3 (some .boolean) 3 [.ref (eAd E 5), .ref (eAd E 1), .int v2] μ (fX3_readsMan_5_1 v2 μ) := by
  refine mtI_of (own := RX3) [(0, .ref (eAd E 5)), (1, .ref (eAd E 1)), (2, .int v2)] hI rfl (by decide) (Nat.le_of_ble_eq_true rfl) (Nat.le_of_ble_eq_true rfl) rfl (fun Z hl0 X hr => ?_)
  unfold fX3_readsMan_5_1
  refine ao_aload_n (pc := 0) X dX3_readsMan_0 rfl ?_
  refine ao_getR (pc := 1) X dX3_readsMan_1 fl_RX3_9 sf_5_0 ?_
  refine ao_iload_n (pc := 4) X dX3_readsMan_4 rfl ?_
  refine ao_aload_n (pc := 5) X dX3_readsMan_5 rfl ?_
  refine ao_iconst (pc := 6) X dX3_readsMan_6 ic_2 ?_
  refine ao_callVI (pc := 7) (As := [.int (2 : Int32)]) (st := [.int v2, .ref (eAd E 6)]) X hl0 dX3_readsMan_7 yv_X9_number so_1 ml_RX3_46 (mX9_number_1 hI (2 : Int32) μ) (Nat.le_of_ble_eq_true rfl) rfl rfl (Nat.le_of_ble_eq_true rfl) (fun r1 m2 => ?_)
  refine ao_iast (pc := 10) X dX3_readsMan_10 sa_6 ?_
  refine ao_lt (fun m3 => ?_)
  refine ao_aload_n (pc := 11) X dX3_readsMan_11 rfl ?_
  refine ao_getR (pc := 12) X dX3_readsMan_12 fl_RX3_9 sf_5_0 ?_
  refine ao_iload_n (pc := 15) X dX3_readsMan_15 rfl ?_
  refine ao_iald (pc := 16) X dX3_readsMan_16 sa_6 ?_
  refine ao_if_ne (pc := 17) (tgt := 24) X dX3_readsMan_17 (by decide) (fun _ => ?_) (fun _ => ?_)
  · refine ao_sub [0, 1, 2] rfl ?_
    exact bX3_readsMan_5_1_24 hI hl0 X hr v2 m3
  · refine ao_aload_n (pc := 20) X dX3_readsMan_20 rfl ?_
    refine ao_callVV (pc := 21) (As := []) (st := []) X hl0 dX3_readsMan_21 yv_X9_back so_1 ml_RX3_52 (mX9_back_1 hI m3) (Nat.le_of_ble_eq_true rfl) rfl rfl (Nat.le_of_ble_eq_true rfl) (fun r4 m5 => ?_)
    refine ao_sub [0, 1, 2] rfl ?_
    exact bX3_readsMan_5_1_24 hI hl0 X hr v2 m5
def fX3_readGoods_5_1_b4 : Nat → Int32 → Int32 → Mem → Option (Int32 × Mem)
  | 0, _, _, _ => none
  | n + 1, p2, p3, μ =>
  if (8 : Int32) ≤ p3 then (some (p2, μ))
  else if (((gI μ 5 6) >>> (p3 &&& 31)) &&& (1 : Int32)) = 0 then (bnd (fX9_takes_1 (toCh ((97 : Int32) + p3)) μ) fun r2 m3 =>
      if r2 = 0 then (fX3_readGoods_5_1_b4 n p2 (p3 + (1 : Int32)) m3)
      else lt (p2 ||| ((1 : Int32) <<< (p3 &&& 31))) fun x5 =>
        fX3_readGoods_5_1_b4 n x5 (p3 + (1 : Int32)) m3)
    else fX3_readGoods_5_1_b4 n p2 (p3 + (1 : Int32)) μ
set_option maxRecDepth 100000 in
set_option maxHeartbeats 4000000 in
theorem bX3_readGoods_5_1_4 {E : En} {l : Launch} {Z : Zt} (hI : Inj E) (hl0 : lZ l Z) (X : Cx E Z cX3_readGoods RX3 4 2) (hr : rtOf Z = some .int) : ∀ (n : Nat) (p2 : Int32) (p3 : Int32) (μ : Mem), AO E Z 4 (QI E Z) 4 [(0, .ref (eAd E 5)), (1, .ref (eAd E 1)), (2, .int p2), (3, .int p3)] [] μ (fX3_readGoods_5_1_b4 n p2 p3 μ) := by
  intro n
  induction n with
  | zero =>
    intros
    exact ao_none
  | succ n ih =>
    intro p2 p3 μ
    rw [fX3_readGoods_5_1_b4]
    refine ao_iload_n (pc := 4) X dX3_readGoods_4 rfl ?_
    refine ao_bipush (pc := 5) X dX3_readGoods_5 bp_8 ?_
    refine ao_icmp_ge (pc := 7) (tgt := 45) X dX3_readGoods_7 (by decide) (fun _ => ?_) (fun _ => ?_)
    · refine ao_iload_n (pc := 45) X dX3_readGoods_45 rfl ?_
      exact ao_iret (pc := 46) X hr dX3_readGoods_46
    · refine ao_aload_n (pc := 10) X dX3_readGoods_10 rfl ?_
      refine ao_getI (pc := 11) X dX3_readGoods_11 fl_RX3_32 sf_5_6 ?_
      refine ao_iload_n (pc := 14) X dX3_readGoods_14 rfl ?_
      refine ao_ishr (pc := 15) X dX3_readGoods_15 ?_
      refine ao_iconst (pc := 16) X dX3_readGoods_16 ic_1 ?_
      refine ao_iand (pc := 17) X dX3_readGoods_17 ?_
      refine ao_if_ne (pc := 18) (tgt := 39) X dX3_readGoods_18 (by decide) (fun _ => ?_) (fun _ => ?_)
      · refine ao_iinc (pc := 39) (k := 3) (v := p3 + (1 : Int32)) (lv' := [(3, .int (p3 + (1 : Int32))), (0, .ref (eAd E 5)), (1, .ref (eAd E 1)), (2, .int p2)]) X dX3_readGoods_39 rfl (ii_ic ic_1) (by decide) rfl ?_
        refine ao_goto (pc := 42) (tgt := 4) X dX3_readGoods_42 (by decide) ?_
        refine ao_sub [1, 2, 3, 0] rfl ?_
        exact ih p2 (p3 + (1 : Int32)) μ
      · refine ao_aload_n (pc := 21) X dX3_readGoods_21 rfl ?_
        refine ao_bipush (pc := 22) X dX3_readGoods_22 bp_97 ?_
        refine ao_iload_n (pc := 24) X dX3_readGoods_24 rfl ?_
        refine ao_iadd (pc := 25) X dX3_readGoods_25 ?_
        refine ao_i2c (pc := 26) X dX3_readGoods_26 ?_
        refine ao_callVI (pc := 27) (As := [.int (toCh ((97 : Int32) + p3))]) (st := []) X hl0 dX3_readGoods_27 yv_X9_takes so_1 ml_RX3_55 (mX9_takes_1 hI (toCh ((97 : Int32) + p3)) μ) (Nat.le_of_ble_eq_true rfl) rfl rfl (Nat.le_of_ble_eq_true rfl) (fun r2 m3 => ?_)
        refine ao_if_eq (pc := 30) (tgt := 39) X dX3_readGoods_30 (by decide) (fun _ => ?_) (fun _ => ?_)
        · refine ao_iinc (pc := 39) (k := 3) (v := p3 + (1 : Int32)) (lv' := [(3, .int (p3 + (1 : Int32))), (0, .ref (eAd E 5)), (1, .ref (eAd E 1)), (2, .int p2)]) X dX3_readGoods_39 rfl (ii_ic ic_1) (by decide) rfl ?_
          refine ao_goto (pc := 42) (tgt := 4) X dX3_readGoods_42 (by decide) ?_
          refine ao_sub [1, 2, 3, 0] rfl ?_
          exact ih p2 (p3 + (1 : Int32)) m3
        · refine ao_iload_n (pc := 33) X dX3_readGoods_33 rfl ?_
          refine ao_iconst (pc := 34) X dX3_readGoods_34 ic_1 ?_
          refine ao_iload_n (pc := 35) X dX3_readGoods_35 rfl ?_
          refine ao_ishl (pc := 36) X dX3_readGoods_36 ?_
          refine ao_ior (pc := 37) X dX3_readGoods_37 ?_
          refine ao_ltI (fun x5 => ?_)
          refine ao_istore_n (pc := 38) (lv' := [(2, .int x5), (0, .ref (eAd E 5)), (1, .ref (eAd E 1)), (3, .int p3)]) X dX3_readGoods_38 rfl (by decide) rfl ?_
          refine ao_iinc (pc := 39) (k := 3) (v := p3 + (1 : Int32)) (lv' := [(3, .int (p3 + (1 : Int32))), (2, .int x5), (0, .ref (eAd E 5)), (1, .ref (eAd E 1))]) X dX3_readGoods_39 rfl (ii_ic ic_1) (by decide) rfl ?_
          refine ao_goto (pc := 42) (tgt := 4) X dX3_readGoods_42 (by decide) ?_
          refine ao_sub [2, 3, 1, 0] rfl ?_
          exact ih x5 (p3 + (1 : Int32)) m3
def fX3_readGoods_5_1 (μ : Mem) : Option (Int32 × Mem) :=
  fX3_readGoods_5_1_b4 FU (0 : Int32) (0 : Int32) μ
set_option maxRecDepth 100000 in
set_option maxHeartbeats 4000000 in
theorem mX3_readGoods_5_1 {E : En} {l : Launch} (hI : Inj E) (μ : Mem) : MtI E l yX3_readGoods cX3_readGoods 4 (some .int) 2 [.ref (eAd E 5), .ref (eAd E 1)] μ (fX3_readGoods_5_1 μ) := by
  refine mtI_of (own := RX3) [(0, .ref (eAd E 5)), (1, .ref (eAd E 1))] hI rfl (by decide) (Nat.le_of_ble_eq_true rfl) (Nat.le_of_ble_eq_true rfl) rfl (fun Z hl0 X hr => ?_)
  unfold fX3_readGoods_5_1
  refine ao_iconst (pc := 0) X dX3_readGoods_0 ic_0 ?_
  refine ao_istore_n (pc := 1) (lv' := [(2, .int (0 : Int32)), (0, .ref (eAd E 5)), (1, .ref (eAd E 1))]) X dX3_readGoods_1 rfl (by decide) rfl ?_
  refine ao_iconst (pc := 2) X dX3_readGoods_2 ic_0 ?_
  refine ao_istore_n (pc := 3) (lv' := [(3, .int (0 : Int32)), (2, .int (0 : Int32)), (0, .ref (eAd E 5)), (1, .ref (eAd E 1))]) X dX3_readGoods_3 rfl (by decide) rfl ?_
  refine ao_sub [2, 3, 1, 0] rfl ?_
  exact bX3_readGoods_5_1_4 hI hl0 X hr FU (0 : Int32) (0 : Int32) μ
def fJ0_isLatin1_aae02_s2 (μ : Mem) : Option (Int32 × Mem) :=
  if (1 : Int32) = 0 then (some ((0 : Int32), μ))
  else if (0 : Int32) = 0 then (some ((1 : Int32), μ))
    else some ((0 : Int32), μ)
set_option maxRecDepth 100000 in
set_option maxHeartbeats 4000000 in
theorem mJ0_isLatin1_aae02_s2 {E : En} {l : Launch} (hI : Inj E) (μ : Mem) : MtI E l yJ0_isLatin1_aae02 cJ0_isLatin1_aae02 1 (some .boolean) 1 [.ref (eSk E 2)] μ (fJ0_isLatin1_aae02_s2 μ) := by
  refine mtI_of (own := RJ0) [(0, .ref (eSk E 2))] hI rfl (by decide) (Nat.le_of_ble_eq_true rfl) (Nat.le_of_ble_eq_true rfl) rfl (fun Z hl0 X hr => ?_)
  unfold fJ0_isLatin1_aae02_s2
  refine ao_scomp (pc := 0) X dJ0_isLatin1_aae02_0 fs_RJ0_38 ?_
  refine ao_if_eq (pc := 3) (tgt := 17) X dJ0_isLatin1_aae02_3 (by decide) (fun _ => ?_) (fun _ => ?_)
  · refine ao_iconst (pc := 17) X dJ0_isLatin1_aae02_17 ic_0 ?_
    exact ao_zret (pc := 18) X hr rfl dJ0_isLatin1_aae02_18
  · refine ao_aload_n (pc := 6) X dJ0_isLatin1_aae02_6 rfl ?_
    refine ao_scod (pc := 7) X dJ0_isLatin1_aae02_7 (by decide) fs_RJ0_15 ?_
    refine ao_if_ne (pc := 10) (tgt := 17) X dJ0_isLatin1_aae02_10 (by decide) (fun _ => ?_) (fun _ => ?_)
    · refine ao_iconst (pc := 17) X dJ0_isLatin1_aae02_17 ic_0 ?_
      exact ao_zret (pc := 18) X hr rfl dJ0_isLatin1_aae02_18
    · refine ao_iconst (pc := 13) X dJ0_isLatin1_aae02_13 ic_1 ?_
      refine ao_goto (pc := 14) (tgt := 18) X dJ0_isLatin1_aae02_14 (by decide) ?_
      exact ao_zret (pc := 18) X hr rfl dJ0_isLatin1_aae02_18
def fJ0_coder_7d493_s2 (μ : Mem) : Option (Int32 × Mem) :=
  if (1 : Int32) = 0 then (some ((1 : Int32), μ))
  else some ((0 : Int32), μ)
set_option maxRecDepth 100000 in
set_option maxHeartbeats 4000000 in
theorem mJ0_coder_7d493_s2 {E : En} {l : Launch} (hI : Inj E) (μ : Mem) : MtI E l yJ0_coder_7d493 cJ0_coder_7d493 1 (some .byte) 1 [.ref (eSk E 2)] μ (fJ0_coder_7d493_s2 μ) := by
  refine mtI_of (own := RJ0) [(0, .ref (eSk E 2))] hI rfl (by decide) (Nat.le_of_ble_eq_true rfl) (Nat.le_of_ble_eq_true rfl) rfl (fun Z hl0 X hr => ?_)
  unfold fJ0_coder_7d493_s2
  refine ao_scomp (pc := 0) X dJ0_coder_7d493_0 fs_RJ0_38 ?_
  refine ao_if_eq (pc := 3) (tgt := 13) X dJ0_coder_7d493_3 (by decide) (fun _ => ?_) (fun _ => ?_)
  · refine ao_iconst (pc := 13) X dJ0_coder_7d493_13 ic_1 ?_
    exact ao_zret (pc := 14) X hr rfl dJ0_coder_7d493_14
  · refine ao_aload_n (pc := 6) X dJ0_coder_7d493_6 rfl ?_
    refine ao_scod (pc := 7) X dJ0_coder_7d493_7 (by decide) fs_RJ0_15 ?_
    refine ao_goto (pc := 10) (tgt := 14) X dJ0_coder_7d493_10 (by decide) ?_
    exact ao_zret (pc := 14) X hr rfl dJ0_coder_7d493_14
def fJ0_length_8abf5_s2 (μ : Mem) : Option (Int32 × Mem) :=
  bnd (fJ0_coder_7d493_s2 μ) fun r1 m2 =>
  some (((2 : Int32) >>> (r1 &&& 31)), m2)
set_option maxRecDepth 100000 in
set_option maxHeartbeats 4000000 in
theorem mJ0_length_8abf5_s2 {E : En} {l : Launch} (hI : Inj E) (μ : Mem) : MtI E l yJ0_length_8abf5 cJ0_length_8abf5 1 (some .int) 2 [.ref (eSk E 2)] μ (fJ0_length_8abf5_s2 μ) := by
  refine mtI_of (own := RJ0) [(0, .ref (eSk E 2))] hI rfl (by decide) (Nat.le_of_ble_eq_true rfl) (Nat.le_of_ble_eq_true rfl) rfl (fun Z hl0 X hr => ?_)
  unfold fJ0_length_8abf5_s2
  refine ao_aload_n (pc := 0) X dJ0_length_8abf5_0 rfl ?_
  refine ao_sval (pc := 1) X dJ0_length_8abf5_1 (by decide) fs_RJ0_9 ?_
  refine ao_slen (pc := 4) (v := (2 : Int32)) X dJ0_length_8abf5_4 (by decide) (by decide) ?_
  refine ao_aload_n (pc := 5) X dJ0_length_8abf5_5 rfl ?_
  refine ao_callT (pc := 6) (As := []) (st := [.int (2 : Int32)]) X hl0 dJ0_length_8abf5_6 (by decide) yv_J0_coder_7d493 ml_RJ0_335 (mJ0_coder_7d493_s2 hI μ) (Nat.le_of_ble_eq_true rfl) rfl rfl (Nat.le_of_ble_eq_true rfl) (fun r1 m2 => ?_)
  refine ao_ishr (pc := 9) X dJ0_length_8abf5_9 ?_
  exact ao_iret (pc := 10) X hr dJ0_length_8abf5_10
def fJ1_canEncode_9a6ad (v0 : Int32) (μ : Mem) : Option (Int32 × Mem) :=
  if v0 < 0 then (some ((0 : Int32), μ))
  else if (255 : Int32) < v0 then (some ((0 : Int32), μ))
    else some ((1 : Int32), μ)
set_option maxRecDepth 100000 in
set_option maxHeartbeats 4000000 in
theorem mJ1_canEncode_9a6ad {E : En} {l : Launch} (hI : Inj E) (v0 : Int32) (μ : Mem) : MtI E l yJ1_canEncode_9a6ad cJ1_canEncode_9a6ad 1 (some .boolean) 1 [.int v0] μ (fJ1_canEncode_9a6ad v0 μ) := by
  refine mtI_of (own := RJ1) [(0, .int v0)] hI rfl (by decide) (Nat.le_of_ble_eq_true rfl) (Nat.le_of_ble_eq_true rfl) rfl (fun Z hl0 X hr => ?_)
  unfold fJ1_canEncode_9a6ad
  refine ao_iload_n (pc := 0) X dJ1_canEncode_9a6ad_0 rfl ?_
  refine ao_if_lt (pc := 1) (tgt := 15) X dJ1_canEncode_9a6ad_1 (by decide) (fun _ => ?_) (fun _ => ?_)
  · refine ao_iconst (pc := 15) X dJ1_canEncode_9a6ad_15 ic_0 ?_
    exact ao_zret (pc := 16) X hr rfl dJ1_canEncode_9a6ad_16
  · refine ao_iload_n (pc := 4) X dJ1_canEncode_9a6ad_4 rfl ?_
    refine ao_sipush (pc := 5) X dJ1_canEncode_9a6ad_5 sp_255 ?_
    refine ao_icmp_gt (pc := 8) (tgt := 15) X dJ1_canEncode_9a6ad_8 (by decide) (fun _ => ?_) (fun _ => ?_)
    · refine ao_iconst (pc := 15) X dJ1_canEncode_9a6ad_15 ic_0 ?_
      exact ao_zret (pc := 16) X hr rfl dJ1_canEncode_9a6ad_16
    · refine ao_iconst (pc := 11) X dJ1_canEncode_9a6ad_11 ic_1 ?_
      refine ao_goto (pc := 12) (tgt := 16) X dJ1_canEncode_9a6ad_12 (by decide) ?_
      exact ao_zret (pc := 16) X hr rfl dJ1_canEncode_9a6ad_16
def fJ1_indexOfChar_4cfef_v2_b7 : Nat → Int32 → Int32 → Int32 → Mem → Option (Int32 × Mem)
  | 0, _, _, _, _ => none
  | n + 1, p3, p4, p5, μ =>
  if p3 ≤ p5 then (some ((-1 : Int32), μ))
  else gd (inb p5 2) (if (sch 2 p5) = p4 then (some (p5, μ))
    else fJ1_indexOfChar_4cfef_v2_b7 n p3 p4 (p5 + (1 : Int32)) μ)
set_option maxRecDepth 100000 in
set_option maxHeartbeats 4000000 in
theorem bJ1_indexOfChar_4cfef_v2_7 {E : En} {l : Launch} {Z : Zt} (hI : Inj E) (hl0 : lZ l Z) (X : Cx E Z cJ1_indexOfChar_4cfef RJ1 6 1) (hr : rtOf Z = some .int) : ∀ (n : Nat) (p3 : Int32) (p4 : Int32) (p5 : Int32) (μ : Mem), AO E Z 6 (QI E Z) 7 [(0, .ref (eSv E 2)), (3, .int p3), (4, .int p4), (5, .int p5)] [] μ (fJ1_indexOfChar_4cfef_v2_b7 n p3 p4 p5 μ) := by
  intro n
  induction n with
  | zero =>
    intros
    exact ao_none
  | succ n ih =>
    intro p3 p4 p5 μ
    rw [fJ1_indexOfChar_4cfef_v2_b7]
    refine ao_iload (pc := 7) X dJ1_indexOfChar_4cfef_7 rfl ?_
    refine ao_iload_n (pc := 9) X dJ1_indexOfChar_4cfef_9 rfl ?_
    refine ao_icmp_ge (pc := 10) (tgt := 31) X dJ1_indexOfChar_4cfef_10 (by decide) (fun _ => ?_) (fun _ => ?_)
    · refine ao_iconst (pc := 31) X dJ1_indexOfChar_4cfef_31 ic_m1 ?_
      exact ao_iret (pc := 32) X hr dJ1_indexOfChar_4cfef_32
    · refine ao_aload_n (pc := 13) X dJ1_indexOfChar_4cfef_13 rfl ?_
      refine ao_iload (pc := 14) X dJ1_indexOfChar_4cfef_14 rfl ?_
      refine ao_sbald (pc := 16) X dJ1_indexOfChar_4cfef_16 (by decide) rfl ?_
      refine ao_iload (pc := 17) X dJ1_indexOfChar_4cfef_17 rfl ?_
      refine ao_icmp_ne (pc := 19) (tgt := 25) X dJ1_indexOfChar_4cfef_19 (by decide) (fun _ => ?_) (fun _ => ?_)
      · refine ao_iinc (pc := 25) (k := 3) (v := p5 + (1 : Int32)) (lv' := [(5, .int (p5 + (1 : Int32))), (0, .ref (eSv E 2)), (3, .int p3), (4, .int p4)]) X dJ1_indexOfChar_4cfef_25 rfl (ii_ic ic_1) (by decide) rfl ?_
        refine ao_goto (pc := 28) (tgt := 7) X dJ1_indexOfChar_4cfef_28 (by decide) ?_
        refine ao_sub [1, 2, 3, 0] rfl ?_
        exact ih p3 p4 (p5 + (1 : Int32)) μ
      · refine ao_iload (pc := 22) X dJ1_indexOfChar_4cfef_22 rfl ?_
        exact ao_iret (pc := 24) X hr dJ1_indexOfChar_4cfef_24
def fJ1_indexOfChar_4cfef_v2 (v1 : Int32) (v2 : Int32) (v3 : Int32) (μ : Mem) : Option (Int32 × Mem) :=
  lt (Int8.toInt32 (Int32.toInt8 v1)) fun x1 =>
  fJ1_indexOfChar_4cfef_v2_b7 FU v3 x1 v2 μ
set_option maxRecDepth 100000 in
set_option maxHeartbeats 4000000 in
theorem mJ1_indexOfChar_4cfef_v2 {E : En} {l : Launch} (hI : Inj E) (v1 : Int32) (v2 : Int32) (v3 : Int32) (μ : Mem) : MtI E l yJ1_indexOfChar_4cfef cJ1_indexOfChar_4cfef 6 (some .int) 1 [.ref (eSv E 2), .int v1, .int v2, .int v3] μ (fJ1_indexOfChar_4cfef_v2 v1 v2 v3 μ) := by
  refine mtI_of (own := RJ1) [(0, .ref (eSv E 2)), (1, .int v1), (2, .int v2), (3, .int v3)] hI rfl (by decide) (Nat.le_of_ble_eq_true rfl) (Nat.le_of_ble_eq_true rfl) rfl (fun Z hl0 X hr => ?_)
  unfold fJ1_indexOfChar_4cfef_v2
  refine ao_iload_n (pc := 0) X dJ1_indexOfChar_4cfef_0 rfl ?_
  refine ao_i2b (pc := 1) X dJ1_indexOfChar_4cfef_1 ?_
  refine ao_ltI (fun x1 => ?_)
  refine ao_istore (pc := 2) (lv' := [(4, .int x1), (0, .ref (eSv E 2)), (1, .int v1), (2, .int v2), (3, .int v3)]) X dJ1_indexOfChar_4cfef_2 (by decide) rfl ?_
  refine ao_iload_n (pc := 4) X dJ1_indexOfChar_4cfef_4 rfl ?_
  refine ao_istore (pc := 5) (lv' := [(5, .int v2), (4, .int x1), (0, .ref (eSv E 2)), (1, .int v1), (2, .int v2), (3, .int v3)]) X dJ1_indexOfChar_4cfef_5 (by decide) rfl ?_
  refine ao_sub [2, 5, 1, 0] rfl ?_
  exact bJ1_indexOfChar_4cfef_v2_7 hI hl0 X hr FU v3 x1 v2 μ
def fJ1_indexOf_4cfef_v2 (v1 : Int32) (v2 : Int32) (v3 : Int32) (μ : Mem) : Option (Int32 × Mem) :=
  bnd (fJ1_canEncode_9a6ad v1 μ) fun r1 m2 =>
  if r1 = 0 then (some ((-1 : Int32), m2))
  else lt (imax v2 (0 : Int32)) fun x3 =>
    lt (imin v3 (2 : Int32)) fun x4 =>
    if x3 < x4 then (bnd (fJ1_indexOfChar_4cfef_v2 v1 x3 x4 m2) fun r5 m6 =>
      some (r5, m6))
    else some ((-1 : Int32), m2)
set_option maxRecDepth 100000 in
set_option maxHeartbeats 4000000 in
theorem mJ1_indexOf_4cfef_v2 {E : En} {l : Launch} (hI : Inj E) (v1 : Int32) (v2 : Int32) (v3 : Int32) (μ : Mem) : MtI E l yJ1_indexOf_4cfef cJ1_indexOf_4cfef 4 (some .int) 2 [.ref (eSv E 2), .int v1, .int v2, .int v3] μ (fJ1_indexOf_4cfef_v2 v1 v2 v3 μ) := by
  refine mtI_of (own := RJ1) [(0, .ref (eSv E 2)), (1, .int v1), (2, .int v2), (3, .int v3)] hI rfl (by decide) (Nat.le_of_ble_eq_true rfl) (Nat.le_of_ble_eq_true rfl) rfl (fun Z hl0 X hr => ?_)
  unfold fJ1_indexOf_4cfef_v2
  refine ao_iload_n (pc := 0) X dJ1_indexOf_4cfef_0 rfl ?_
  refine ao_callSI (pc := 1) (As := [.int v1]) (st := []) X hl0 dJ1_indexOf_4cfef_1 yv_J1_canEncode_9a6ad ml_RJ1_88 (mJ1_canEncode_9a6ad hI v1 μ) (Nat.le_of_ble_eq_true rfl) rfl rfl (Nat.le_of_ble_eq_true rfl) (fun r1 m2 => ?_)
  refine ao_if_ne (pc := 4) (tgt := 9) X dJ1_indexOf_4cfef_4 (by decide) (fun _ => ?_) (fun _ => ?_)
  · refine ao_iload_n (pc := 9) X dJ1_indexOf_4cfef_9 rfl ?_
    refine ao_iconst (pc := 10) X dJ1_indexOf_4cfef_10 ic_0 ?_
    refine ao_max (pc := 11) X dJ1_indexOf_4cfef_11 ml_RJ1_92 MaxW_ok (Nat.le_of_ble_eq_true rfl) ?_
    refine ao_ltI (fun x3 => ?_)
    refine ao_istore_n (pc := 14) (lv' := [(2, .int x3), (0, .ref (eSv E 2)), (1, .int v1), (3, .int v3)]) X dJ1_indexOf_4cfef_14 rfl (by decide) rfl ?_
    refine ao_iload_n (pc := 15) X dJ1_indexOf_4cfef_15 rfl ?_
    refine ao_aload_n (pc := 16) X dJ1_indexOf_4cfef_16 rfl ?_
    refine ao_slen (pc := 17) (v := (2 : Int32)) X dJ1_indexOf_4cfef_17 (by decide) (by decide) ?_
    refine ao_min (pc := 18) X dJ1_indexOf_4cfef_18 ml_RJ1_38 MinW_ok (Nat.le_of_ble_eq_true rfl) ?_
    refine ao_ltI (fun x4 => ?_)
    refine ao_istore_n (pc := 21) (lv' := [(3, .int x4), (2, .int x3), (0, .ref (eSv E 2)), (1, .int v1)]) X dJ1_indexOf_4cfef_21 rfl (by decide) rfl ?_
    refine ao_iload_n (pc := 22) X dJ1_indexOf_4cfef_22 rfl ?_
    refine ao_iload_n (pc := 23) X dJ1_indexOf_4cfef_23 rfl ?_
    refine ao_icmp_lt (pc := 24) (tgt := 29) X dJ1_indexOf_4cfef_24 (by decide) (fun _ => ?_) (fun _ => ?_)
    · refine ao_aload_n (pc := 29) X dJ1_indexOf_4cfef_29 rfl ?_
      refine ao_iload_n (pc := 30) X dJ1_indexOf_4cfef_30 rfl ?_
      refine ao_iload_n (pc := 31) X dJ1_indexOf_4cfef_31 rfl ?_
      refine ao_iload_n (pc := 32) X dJ1_indexOf_4cfef_32 rfl ?_
      refine ao_callSI (pc := 33) (As := [.ref (eSv E 2), .int v1, .int x3, .int x4]) (st := []) X hl0 dJ1_indexOf_4cfef_33 yv_J1_indexOfChar_4cfef ml_RJ1_95 (mJ1_indexOfChar_4cfef_v2 hI v1 x3 x4 m2) (Nat.le_of_ble_eq_true rfl) rfl rfl (Nat.le_of_ble_eq_true rfl) (fun r5 m6 => ?_)
      exact ao_iret (pc := 36) X hr dJ1_indexOf_4cfef_36
    · refine ao_iconst (pc := 27) X dJ1_indexOf_4cfef_27 ic_m1 ?_
      exact ao_iret (pc := 28) X hr dJ1_indexOf_4cfef_28
  · refine ao_iconst (pc := 7) X dJ1_indexOf_4cfef_7 ic_m1 ?_
    exact ao_iret (pc := 8) X hr dJ1_indexOf_4cfef_8
def fJ0_indexOf_7cf53_s2 (v1 : Int32) (v2 : Int32) (μ : Mem) : Option (Int32 × Mem) :=
  bnd (fJ0_isLatin1_aae02_s2 μ) fun r1 m2 =>
  if r1 = 0 then (bnd (fJ0_length_8abf5_s2 m2) fun r3 m4 =>
    none)
  else bnd (fJ0_length_8abf5_s2 m2) fun r5 m6 =>
    bnd (fJ1_indexOf_4cfef_v2 v1 v2 r5 m6) fun r7 m8 =>
    some (r7, m8)
set_option maxRecDepth 100000 in
set_option maxHeartbeats 4000000 in
theorem mJ0_indexOf_7cf53_s2 {E : En} {l : Launch} (hI : Inj E) (v1 : Int32) (v2 : Int32) (μ : Mem) : MtI E l yJ0_indexOf_7cf53 cJ0_indexOf_7cf53 3 (some .int) 3 [.ref (eSk E 2), .int v1, .int v2] μ (fJ0_indexOf_7cf53_s2 v1 v2 μ) := by
  refine mtI_of (own := RJ0) [(0, .ref (eSk E 2)), (1, .int v1), (2, .int v2)] hI rfl (by decide) (Nat.le_of_ble_eq_true rfl) (Nat.le_of_ble_eq_true rfl) rfl (fun Z hl0 X hr => ?_)
  unfold fJ0_indexOf_7cf53_s2
  refine ao_aload_n (pc := 0) X dJ0_indexOf_7cf53_0 rfl ?_
  refine ao_callT (pc := 1) (As := []) (st := []) X hl0 dJ0_indexOf_7cf53_1 (by decide) yv_J0_isLatin1_aae02 ml_RJ0_492 (mJ0_isLatin1_aae02_s2 hI μ) (Nat.le_of_ble_eq_true rfl) rfl rfl (Nat.le_of_ble_eq_true rfl) (fun r1 m2 => ?_)
  refine ao_if_eq (pc := 4) (tgt := 23) X dJ0_indexOf_7cf53_4 (by decide) (fun _ => ?_) (fun _ => ?_)
  · refine ao_aload_n (pc := 23) X dJ0_indexOf_7cf53_23 rfl ?_
    refine ao_sval (pc := 24) X dJ0_indexOf_7cf53_24 (by decide) fs_RJ0_9 ?_
    refine ao_iload_n (pc := 27) X dJ0_indexOf_7cf53_27 rfl ?_
    refine ao_iload_n (pc := 28) X dJ0_indexOf_7cf53_28 rfl ?_
    refine ao_aload_n (pc := 29) X dJ0_indexOf_7cf53_29 rfl ?_
    refine ao_callT (pc := 30) (As := []) (st := [.int v2, .int v1, .ref (eSv E 2)]) X hl0 dJ0_indexOf_7cf53_30 (by decide) yv_J0_length_8abf5 ml_RJ0_505 (mJ0_length_8abf5_s2 hI m2) (Nat.le_of_ble_eq_true rfl) rfl rfl (Nat.le_of_ble_eq_true rfl) (fun r3 m4 => ?_)
    exact ao_none
  · refine ao_aload_n (pc := 7) X dJ0_indexOf_7cf53_7 rfl ?_
    refine ao_sval (pc := 8) X dJ0_indexOf_7cf53_8 (by decide) fs_RJ0_9 ?_
    refine ao_iload_n (pc := 11) X dJ0_indexOf_7cf53_11 rfl ?_
    refine ao_iload_n (pc := 12) X dJ0_indexOf_7cf53_12 rfl ?_
    refine ao_aload_n (pc := 13) X dJ0_indexOf_7cf53_13 rfl ?_
    refine ao_callT (pc := 14) (As := []) (st := [.int v2, .int v1, .ref (eSv E 2)]) X hl0 dJ0_indexOf_7cf53_14 (by decide) yv_J0_length_8abf5 ml_RJ0_505 (mJ0_length_8abf5_s2 hI m2) (Nat.le_of_ble_eq_true rfl) rfl rfl (Nat.le_of_ble_eq_true rfl) (fun r5 m6 => ?_)
    refine ao_callSI (pc := 17) (As := [.ref (eSv E 2), .int v1, .int v2, .int r5]) (st := []) X hl0 dJ0_indexOf_7cf53_17 yv_J1_indexOf_4cfef ml_RJ0_637 (mJ1_indexOf_4cfef_v2 hI v1 v2 r5 m6) (Nat.le_of_ble_eq_true rfl) rfl rfl (Nat.le_of_ble_eq_true rfl) (fun r7 m8 => ?_)
    refine ao_goto (pc := 20) (tgt := 36) X dJ0_indexOf_7cf53_20 (by decide) ?_
    exact ao_iret (pc := 36) X hr dJ0_indexOf_7cf53_36
def fJ0_indexOf_0f7a4_s2 (v1 : Int32) (μ : Mem) : Option (Int32 × Mem) :=
  bnd (fJ0_indexOf_7cf53_s2 v1 (0 : Int32) μ) fun r1 m2 =>
  some (r1, m2)
set_option maxRecDepth 100000 in
set_option maxHeartbeats 4000000 in
theorem mJ0_indexOf_0f7a4_s2 {E : En} {l : Launch} (hI : Inj E) (v1 : Int32) (μ : Mem) : MtI E l yJ0_indexOf_0f7a4 cJ0_indexOf_0f7a4 2 (some .int) 4 [.ref (eSk E 2), .int v1] μ (fJ0_indexOf_0f7a4_s2 v1 μ) := by
  refine mtI_of (own := RJ0) [(0, .ref (eSk E 2)), (1, .int v1)] hI rfl (by decide) (Nat.le_of_ble_eq_true rfl) (Nat.le_of_ble_eq_true rfl) rfl (fun Z hl0 X hr => ?_)
  unfold fJ0_indexOf_0f7a4_s2
  refine ao_aload_n (pc := 0) X dJ0_indexOf_0f7a4_0 rfl ?_
  refine ao_iload_n (pc := 1) X dJ0_indexOf_0f7a4_1 rfl ?_
  refine ao_iconst (pc := 2) X dJ0_indexOf_0f7a4_2 ic_0 ?_
  refine ao_callT (pc := 3) (As := [.int v1, .int (0 : Int32)]) (st := []) X hl0 dJ0_indexOf_0f7a4_3 (by decide) yv_J0_indexOf_7cf53 ml_RJ0_633 (mJ0_indexOf_7cf53_s2 hI v1 (0 : Int32) μ) (Nat.le_of_ble_eq_true rfl) rfl rfl (Nat.le_of_ble_eq_true rfl) (fun r1 m2 => ?_)
  exact ao_iret (pc := 6) X hr dJ0_indexOf_0f7a4_6
def fX9_takesOneOf_1_s2 (μ : Mem) : Option (Int32 × Mem) :=
  if (gI μ 1 2) < (gI μ 1 3) then (gd (inb (gI μ 1 2) 80) (bnd (fJ0_indexOf_0f7a4_s2 (gI μ 2 (ix (gI μ 1 2))) μ) fun r1 m2 =>
    if r1 < 0 then (some (r1, m2))
    else lt (sI m2 1 2 ((gI m2 1 2) + (1 : Int32))) fun m3 =>
      some (r1, m3)))
  else some ((-1 : Int32), μ)
set_option maxRecDepth 100000 in
set_option maxHeartbeats 4000000 in
theorem mX9_takesOneOf_1_s2 {E : En} {l : Launch} (hI : Inj E) (μ : Mem) : MtI E l yX9_takesOneOf cX9_takesOneOf 3 (some .int) 5 [.ref (eAd E 1), .ref (eSk E 2)] μ (fX9_takesOneOf_1_s2 μ) := by
  refine mtI_of (own := RX9) [(0, .ref (eAd E 1)), (1, .ref (eSk E 2))] hI rfl (by decide) (Nat.le_of_ble_eq_true rfl) (Nat.le_of_ble_eq_true rfl) rfl (fun Z hl0 X hr => ?_)
  unfold fX9_takesOneOf_1_s2
  refine ao_aload_n (pc := 0) X dX9_takesOneOf_0 rfl ?_
  refine ao_getI (pc := 1) X dX9_takesOneOf_1 fl_RX9_19 sf_1_2 ?_
  refine ao_aload_n (pc := 4) X dX9_takesOneOf_4 rfl ?_
  refine ao_getI (pc := 5) X dX9_takesOneOf_5 fl_RX9_22 sf_1_3 ?_
  refine ao_icmp_lt (pc := 8) (tgt := 13) X dX9_takesOneOf_8 (by decide) (fun _ => ?_) (fun _ => ?_)
  · refine ao_aload_n (pc := 13) X dX9_takesOneOf_13 rfl ?_
    refine ao_aload_n (pc := 14) X dX9_takesOneOf_14 rfl ?_
    refine ao_getR (pc := 15) X dX9_takesOneOf_15 fl_RX9_11 sf_1_0 ?_
    refine ao_aload_n (pc := 18) X dX9_takesOneOf_18 rfl ?_
    refine ao_getI (pc := 19) X dX9_takesOneOf_19 fl_RX9_19 sf_1_2 ?_
    refine ao_cald (pc := 22) X dX9_takesOneOf_22 sa_2 ?_
    refine ao_callT (pc := 23) (As := [.int (gI μ 2 (ix (gI μ 1 2)))]) (st := []) X hl0 dX9_takesOneOf_23 (by decide) yv_J0_indexOf_0f7a4 ml_RX9_34 (mJ0_indexOf_0f7a4_s2 hI (gI μ 2 (ix (gI μ 1 2))) μ) (Nat.le_of_ble_eq_true rfl) rfl rfl (Nat.le_of_ble_eq_true rfl) (fun r1 m2 => ?_)
    refine ao_istore_n (pc := 26) (lv' := [(2, .int r1), (0, .ref (eAd E 1)), (1, .ref (eSk E 2))]) X dX9_takesOneOf_26 rfl (by decide) rfl ?_
    refine ao_iload_n (pc := 27) X dX9_takesOneOf_27 rfl ?_
    refine ao_if_lt (pc := 28) (tgt := 41) X dX9_takesOneOf_28 (by decide) (fun _ => ?_) (fun _ => ?_)
    · refine ao_iload_n (pc := 41) X dX9_takesOneOf_41 rfl ?_
      exact ao_iret (pc := 42) X hr dX9_takesOneOf_42
    · refine ao_aload_n (pc := 31) X dX9_takesOneOf_31 rfl ?_
      refine ao_dup (pc := 32) X dX9_takesOneOf_32 rfl ?_
      refine ao_getI (pc := 33) X dX9_takesOneOf_33 fl_RX9_19 sf_1_2 ?_
      refine ao_iconst (pc := 36) X dX9_takesOneOf_36 ic_1 ?_
      refine ao_iadd (pc := 37) X dX9_takesOneOf_37 ?_
      refine ao_putI (pc := 38) X dX9_takesOneOf_38 fp_RX9_19 sf_1_2 ?_
      refine ao_lt (fun m3 => ?_)
      refine ao_iload_n (pc := 41) X dX9_takesOneOf_41 rfl ?_
      exact ao_iret (pc := 42) X hr dX9_takesOneOf_42
  · refine ao_iconst (pc := 11) X dX9_takesOneOf_11 ic_m1 ?_
    exact ao_iret (pc := 12) X hr dX9_takesOneOf_12
def fX3_readsRest_5_1_b27 (p2 : Int32) (q0 : Int32) (q1 : Int32) (μ : Mem) : Option (Int32 × Mem) :=
  gd (inb q1 6) (lt (sI μ 8 (ix q1) (vp_nar .boolean q0)) fun m3 =>
  bnd (fX9_digit_1 (4 : Int32) m3) fun r4 m5 =>
  gd (inb p2 6) (lt (sI m5 9 (ix p2) r4) fun m6 =>
  gd (inb p2 6) (if 0 ≤ (gI m6 9 (ix p2)) then (bnd (fX3_readGoods_5_1 m6) fun r7 m8 =>
    gd (inb p2 6) (lt (sI m8 10 (ix p2) r7) fun m9 =>
    gd (inb p2 6) (lt (sI m9 5 6 ((gI m9 5 6) ||| (gI m9 10 (ix p2)))) fun m10 =>
    some ((1 : Int32), m10))))
  else some ((0 : Int32), m6))))
set_option maxRecDepth 100000 in
set_option maxHeartbeats 4000000 in
theorem bX3_readsRest_5_1_27 {E : En} {l : Launch} {Z : Zt} (hI : Inj E) (hl0 : lZ l Z) (X : Cx E Z cX3_readsRest RX3 4 6) (hr : rtOf Z = some .boolean) (p2 : Int32) (q0 : Int32) (q1 : Int32) (μ : Mem) : AO E Z 4 (QI E Z) 27 [(0, .ref (eAd E 5)), (1, .ref (eAd E 1)), (2, .int p2)] [.int q0, .int q1, .ref (eAd E 8)] μ (fX3_readsRest_5_1_b27 p2 q0 q1 μ) := by
  unfold fX3_readsRest_5_1_b27
  refine ao_zast (pc := 27) X dX3_readsRest_27 sa_8 ?_
  refine ao_lt (fun m3 => ?_)
  refine ao_aload_n (pc := 28) X dX3_readsRest_28 rfl ?_
  refine ao_getR (pc := 29) X dX3_readsRest_29 fl_RX3_22 sf_5_3 ?_
  refine ao_iload_n (pc := 32) X dX3_readsRest_32 rfl ?_
  refine ao_aload_n (pc := 33) X dX3_readsRest_33 rfl ?_
  refine ao_iconst (pc := 34) X dX3_readsRest_34 ic_4 ?_
  refine ao_callVI (pc := 35) (As := [.int (4 : Int32)]) (st := [.int p2, .ref (eAd E 9)]) X hl0 dX3_readsRest_35 yv_X9_digit so_1 ml_RX3_65 (mX9_digit_1 hI (4 : Int32) m3) (Nat.le_of_ble_eq_true rfl) rfl rfl (Nat.le_of_ble_eq_true rfl) (fun r4 m5 => ?_)
  refine ao_iast (pc := 38) X dX3_readsRest_38 sa_9 ?_
  refine ao_lt (fun m6 => ?_)
  refine ao_aload_n (pc := 39) X dX3_readsRest_39 rfl ?_
  refine ao_getR (pc := 40) X dX3_readsRest_40 fl_RX3_22 sf_5_3 ?_
  refine ao_iload_n (pc := 43) X dX3_readsRest_43 rfl ?_
  refine ao_iald (pc := 44) X dX3_readsRest_44 sa_9 ?_
  refine ao_if_ge (pc := 45) (tgt := 50) X dX3_readsRest_45 (by decide) (fun _ => ?_) (fun _ => ?_)
  · refine ao_aload_n (pc := 50) X dX3_readsRest_50 rfl ?_
    refine ao_getR (pc := 51) X dX3_readsRest_51 fl_RX3_25 sf_5_4 ?_
    refine ao_iload_n (pc := 54) X dX3_readsRest_54 rfl ?_
    refine ao_aload_n (pc := 55) X dX3_readsRest_55 rfl ?_
    refine ao_aload_n (pc := 56) X dX3_readsRest_56 rfl ?_
    refine ao_callVI (pc := 57) (As := [.ref (eAd E 1)]) (st := [.int p2, .ref (eAd E 10)]) X hl0 dX3_readsRest_57 yv_X3_readGoods so_5 ml_RX3_68 (mX3_readGoods_5_1 hI m6) (Nat.le_of_ble_eq_true rfl) rfl rfl (Nat.le_of_ble_eq_true rfl) (fun r7 m8 => ?_)
    refine ao_iast (pc := 60) X dX3_readsRest_60 sa_10 ?_
    refine ao_lt (fun m9 => ?_)
    refine ao_aload_n (pc := 61) X dX3_readsRest_61 rfl ?_
    refine ao_dup (pc := 62) X dX3_readsRest_62 rfl ?_
    refine ao_getI (pc := 63) X dX3_readsRest_63 fl_RX3_32 sf_5_6 ?_
    refine ao_aload_n (pc := 66) X dX3_readsRest_66 rfl ?_
    refine ao_getR (pc := 67) X dX3_readsRest_67 fl_RX3_25 sf_5_4 ?_
    refine ao_iload_n (pc := 70) X dX3_readsRest_70 rfl ?_
    refine ao_iald (pc := 71) X dX3_readsRest_71 sa_10 ?_
    refine ao_ior (pc := 72) X dX3_readsRest_72 ?_
    refine ao_putI (pc := 73) X dX3_readsRest_73 fp_RX3_32 sf_5_6 ?_
    refine ao_lt (fun m10 => ?_)
    refine ao_iconst (pc := 76) X dX3_readsRest_76 ic_1 ?_
    exact ao_zret (pc := 77) X hr rfl dX3_readsRest_77
  · refine ao_iconst (pc := 48) X dX3_readsRest_48 ic_0 ?_
    exact ao_zret (pc := 49) X hr rfl dX3_readsRest_49
def fX3_readsRest_5_1 (v2 : Int32) (μ : Mem) : Option (Int32 × Mem) :=
  bnd (fX9_takesOneOf_1_s2 μ) fun r1 m2 =>
  if 0 ≤ r1 then (if r1 = 0 then (fX3_readsRest_5_1_b27 v2 (1 : Int32) v2 m2)
    else fX3_readsRest_5_1_b27 v2 (0 : Int32) v2 m2)
  else some ((0 : Int32), m2)
set_option maxRecDepth 100000 in
set_option maxHeartbeats 4000000 in
theorem mX3_readsRest_5_1 {E : En} {l : Launch} (hI : Inj E) (v2 : Int32) (μ : Mem) : MtI E l yX3_readsRest cX3_readsRest 4 (some .boolean) 6 [.ref (eAd E 5), .ref (eAd E 1), .int v2] μ (fX3_readsRest_5_1 v2 μ) := by
  refine mtI_of (own := RX3) [(0, .ref (eAd E 5)), (1, .ref (eAd E 1)), (2, .int v2)] hI rfl (by decide) (Nat.le_of_ble_eq_true rfl) (Nat.le_of_ble_eq_true rfl) rfl (fun Z hl0 X hr => ?_)
  unfold fX3_readsRest_5_1
  refine ao_aload_n (pc := 0) X dX3_readsRest_0 rfl ?_
  refine ao_ldcS (pc := 1) (tx := "-+") (i := 2) X dX3_readsRest_1 (List.mem_of_getElem? (i := 2) rfl) ?_
  refine ao_callVI (pc := 3) (As := [.ref (eSk E 2)]) (st := []) X hl0 dX3_readsRest_3 yv_X9_takesOneOf so_1 ml_RX3_61 (mX9_takesOneOf_1_s2 hI μ) (Nat.le_of_ble_eq_true rfl) rfl rfl (Nat.le_of_ble_eq_true rfl) (fun r1 m2 => ?_)
  refine ao_istore_n (pc := 6) (lv' := [(3, .int r1), (0, .ref (eAd E 5)), (1, .ref (eAd E 1)), (2, .int v2)]) X dX3_readsRest_6 rfl (by decide) rfl ?_
  refine ao_iload_n (pc := 7) X dX3_readsRest_7 rfl ?_
  refine ao_if_ge (pc := 8) (tgt := 13) X dX3_readsRest_8 (by decide) (fun _ => ?_) (fun _ => ?_)
  · refine ao_aload_n (pc := 13) X dX3_readsRest_13 rfl ?_
    refine ao_getR (pc := 14) X dX3_readsRest_14 fl_RX3_18 sf_5_2 ?_
    refine ao_iload_n (pc := 17) X dX3_readsRest_17 rfl ?_
    refine ao_iload_n (pc := 18) X dX3_readsRest_18 rfl ?_
    refine ao_if_ne (pc := 19) (tgt := 26) X dX3_readsRest_19 (by decide) (fun _ => ?_) (fun _ => ?_)
    · refine ao_iconst (pc := 26) X dX3_readsRest_26 ic_0 ?_
      refine ao_sub [1, 2, 3] rfl ?_
      exact bX3_readsRest_5_1_27 hI hl0 X hr v2 (0 : Int32) v2 m2
    · refine ao_iconst (pc := 22) X dX3_readsRest_22 ic_1 ?_
      refine ao_goto (pc := 23) (tgt := 27) X dX3_readsRest_23 (by decide) ?_
      refine ao_sub [1, 2, 3] rfl ?_
      exact bX3_readsRest_5_1_27 hI hl0 X hr v2 (1 : Int32) v2 m2
  · refine ao_iconst (pc := 11) X dX3_readsRest_11 ic_0 ?_
    exact ao_zret (pc := 12) X hr rfl dX3_readsRest_12
def fX3_readsOne_5_1_b35 (p3 : Int32) (q0 : Int32) (μ : Mem) : Option (Int32 × Mem) :=
  lt (sI μ 5 6 q0) fun m4 =>
  bnd (fX3_readsMan_5_1 p3 m4) fun r5 m6 =>
  if r5 = 0 then (some ((0 : Int32), m6))
  else bnd (fX3_readsRest_5_1 p3 m6) fun r7 m8 =>
    if r7 = 0 then (some ((0 : Int32), m8))
    else some ((1 : Int32), m8)
set_option maxRecDepth 100000 in
set_option maxHeartbeats 4000000 in
theorem bX3_readsOne_5_1_35 {E : En} {l : Launch} {Z : Zt} (hI : Inj E) (hl0 : lZ l Z) (X : Cx E Z cX3_readsOne RX3 4 7) (hr : rtOf Z = some .boolean) (p3 : Int32) (q0 : Int32) (μ : Mem) : AO E Z 4 (QI E Z) 35 [(0, .ref (eAd E 5)), (1, .ref (eAd E 1)), (3, .int p3)] [.int q0, .ref (eAd E 5)] μ (fX3_readsOne_5_1_b35 p3 q0 μ) := by
  unfold fX3_readsOne_5_1_b35
  refine ao_putI (pc := 35) X dX3_readsOne_35 fp_RX3_32 sf_5_6 ?_
  refine ao_lt (fun m4 => ?_)
  refine ao_aload_n (pc := 38) X dX3_readsOne_38 rfl ?_
  refine ao_aload_n (pc := 39) X dX3_readsOne_39 rfl ?_
  refine ao_iload_n (pc := 40) X dX3_readsOne_40 rfl ?_
  refine ao_callVI (pc := 41) (As := [.ref (eAd E 1), .int p3]) (st := []) X hl0 dX3_readsOne_41 yv_X3_readsMan so_5 ml_RX3_39 (mX3_readsMan_5_1 hI p3 m4) (Nat.le_of_ble_eq_true rfl) rfl rfl (Nat.le_of_ble_eq_true rfl) (fun r5 m6 => ?_)
  refine ao_if_eq (pc := 44) (tgt := 60) X dX3_readsOne_44 (by decide) (fun _ => ?_) (fun _ => ?_)
  · refine ao_iconst (pc := 60) X dX3_readsOne_60 ic_0 ?_
    exact ao_zret (pc := 61) X hr rfl dX3_readsOne_61
  · refine ao_aload_n (pc := 47) X dX3_readsOne_47 rfl ?_
    refine ao_aload_n (pc := 48) X dX3_readsOne_48 rfl ?_
    refine ao_iload_n (pc := 49) X dX3_readsOne_49 rfl ?_
    refine ao_callVI (pc := 50) (As := [.ref (eAd E 1), .int p3]) (st := []) X hl0 dX3_readsOne_50 yv_X3_readsRest so_5 ml_RX3_43 (mX3_readsRest_5_1 hI p3 m6) (Nat.le_of_ble_eq_true rfl) rfl rfl (Nat.le_of_ble_eq_true rfl) (fun r7 m8 => ?_)
    refine ao_if_eq (pc := 53) (tgt := 60) X dX3_readsOne_53 (by decide) (fun _ => ?_) (fun _ => ?_)
    · refine ao_iconst (pc := 60) X dX3_readsOne_60 ic_0 ?_
      exact ao_zret (pc := 61) X hr rfl dX3_readsOne_61
    · refine ao_iconst (pc := 56) X dX3_readsOne_56 ic_1 ?_
      refine ao_goto (pc := 57) (tgt := 61) X dX3_readsOne_57 (by decide) ?_
      exact ao_zret (pc := 61) X hr rfl dX3_readsOne_61
def fX3_readsOne_5_1 (v2 : Int32) (μ : Mem) : Option (Int32 × Mem) :=
  lt ((gI μ 5 5) + v2) fun x1 =>
  if x1 < 0 then (some ((0 : Int32), μ))
  else if x1 < (6 : Int32) then (if v2 = 0 then (bnd (fX3_allGoods_5 μ) fun r2 m3 =>
        fX3_readsOne_5_1_b35 x1 r2 m3)
      else fX3_readsOne_5_1_b35 x1 (gI μ 5 6) μ)
    else some ((0 : Int32), μ)
set_option maxRecDepth 100000 in
set_option maxHeartbeats 4000000 in
theorem mX3_readsOne_5_1 {E : En} {l : Launch} (hI : Inj E) (v2 : Int32) (μ : Mem) : MtI E l yX3_readsOne cX3_readsOne 4 (some .boolean) 7 [.ref (eAd E 5), .ref (eAd E 1), .int v2] μ (fX3_readsOne_5_1 v2 μ) := by
  refine mtI_of (own := RX3) [(0, .ref (eAd E 5)), (1, .ref (eAd E 1)), (2, .int v2)] hI rfl (by decide) (Nat.le_of_ble_eq_true rfl) (Nat.le_of_ble_eq_true rfl) rfl (fun Z hl0 X hr => ?_)
  unfold fX3_readsOne_5_1
  refine ao_aload_n (pc := 0) X dX3_readsOne_0 rfl ?_
  refine ao_getI (pc := 1) X dX3_readsOne_1 fl_RX3_28 sf_5_5 ?_
  refine ao_iload_n (pc := 4) X dX3_readsOne_4 rfl ?_
  refine ao_iadd (pc := 5) X dX3_readsOne_5 ?_
  refine ao_ltI (fun x1 => ?_)
  refine ao_istore_n (pc := 6) (lv' := [(3, .int x1), (0, .ref (eAd E 5)), (1, .ref (eAd E 1)), (2, .int v2)]) X dX3_readsOne_6 rfl (by decide) rfl ?_
  refine ao_iload_n (pc := 7) X dX3_readsOne_7 rfl ?_
  refine ao_if_lt (pc := 8) (tgt := 17) X dX3_readsOne_8 (by decide) (fun _ => ?_) (fun _ => ?_)
  · refine ao_iconst (pc := 17) X dX3_readsOne_17 ic_0 ?_
    exact ao_zret (pc := 18) X hr rfl dX3_readsOne_18
  · refine ao_iload_n (pc := 11) X dX3_readsOne_11 rfl ?_
    refine ao_bipush (pc := 12) X dX3_readsOne_12 bp_6 ?_
    refine ao_icmp_lt (pc := 14) (tgt := 19) X dX3_readsOne_14 (by decide) (fun _ => ?_) (fun _ => ?_)
    · refine ao_aload_n (pc := 19) X dX3_readsOne_19 rfl ?_
      refine ao_iload_n (pc := 20) X dX3_readsOne_20 rfl ?_
      refine ao_if_ne (pc := 21) (tgt := 31) X dX3_readsOne_21 (by decide) (fun _ => ?_) (fun _ => ?_)
      · refine ao_aload_n (pc := 31) X dX3_readsOne_31 rfl ?_
        refine ao_getI (pc := 32) X dX3_readsOne_32 fl_RX3_32 sf_5_6 ?_
        refine ao_sub [1, 2, 0] rfl ?_
        exact bX3_readsOne_5_1_35 hI hl0 X hr x1 (gI μ 5 6) μ
      · refine ao_aload_n (pc := 24) X dX3_readsOne_24 rfl ?_
        refine ao_callVI (pc := 25) (As := []) (st := [.ref (eAd E 5)]) X hl0 dX3_readsOne_25 yv_X3_allGoods so_5 ml_RX3_35 (mX3_allGoods_5 hI μ) (Nat.le_of_ble_eq_true rfl) rfl rfl (Nat.le_of_ble_eq_true rfl) (fun r2 m3 => ?_)
        refine ao_goto (pc := 28) (tgt := 35) X dX3_readsOne_28 (by decide) ?_
        refine ao_sub [1, 2, 0] rfl ?_
        exact bX3_readsOne_5_1_35 hI hl0 X hr x1 r2 m3
    · refine ao_iconst (pc := 17) X dX3_readsOne_17 ic_0 ?_
      exact ao_zret (pc := 18) X hr rfl dX3_readsOne_18
def fX9_isRead_1 (μ : Mem) : Option (Int32 × Mem) :=
  if (gI μ 1 2) = (gI μ 1 1) then (some ((1 : Int32), μ))
  else some ((0 : Int32), μ)
set_option maxRecDepth 100000 in
set_option maxHeartbeats 4000000 in
theorem mX9_isRead_1 {E : En} {l : Launch} (hI : Inj E) (μ : Mem) : MtI E l yX9_isRead cX9_isRead 1 (some .boolean) 1 [.ref (eAd E 1)] μ (fX9_isRead_1 μ) := by
  refine mtI_of (own := RX9) [(0, .ref (eAd E 1))] hI rfl (by decide) (Nat.le_of_ble_eq_true rfl) (Nat.le_of_ble_eq_true rfl) rfl (fun Z hl0 X hr => ?_)
  unfold fX9_isRead_1
  refine ao_aload_n (pc := 0) X dX9_isRead_0 rfl ?_
  refine ao_getI (pc := 1) X dX9_isRead_1 fl_RX9_19 sf_1_2 ?_
  refine ao_aload_n (pc := 4) X dX9_isRead_4 rfl ?_
  refine ao_getI (pc := 5) X dX9_isRead_5 fl_RX9_15 sf_1_1 ?_
  refine ao_icmp_ne (pc := 8) (tgt := 15) X dX9_isRead_8 (by decide) (fun _ => ?_) (fun _ => ?_)
  · refine ao_iconst (pc := 15) X dX9_isRead_15 ic_0 ?_
    exact ao_zret (pc := 16) X hr rfl dX9_isRead_16
  · refine ao_iconst (pc := 11) X dX9_isRead_11 ic_1 ?_
    refine ao_goto (pc := 12) (tgt := 16) X dX9_isRead_12 (by decide) ?_
    exact ao_zret (pc := 16) X hr rfl dX9_isRead_16
def fX9_open_1 (v1 : Int32) (μ : Mem) : Option (Unit × Mem) :=
  lt (sI μ 1 2 (0 : Int32)) fun m1 =>
  lt (sI m1 1 3 (imin (gI m1 1 1) v1)) fun m2 =>
  some ((), m2)
set_option maxRecDepth 100000 in
set_option maxHeartbeats 4000000 in
theorem mX9_open_1 {E : En} {l : Launch} (hI : Inj E) (v1 : Int32) (μ : Mem) : MtV E l yX9_open cX9_open 2 (none) 1 [.ref (eAd E 1), .int v1] μ (fX9_open_1 v1 μ) := by
  refine mtV_of (own := RX9) [(0, .ref (eAd E 1)), (1, .int v1)] hI rfl (by decide) (Nat.le_of_ble_eq_true rfl) (Nat.le_of_ble_eq_true rfl) rfl (fun Z hl0 X hr => ?_)
  unfold fX9_open_1
  refine ao_aload_n (pc := 0) X dX9_open_0 rfl ?_
  refine ao_iconst (pc := 1) X dX9_open_1 ic_0 ?_
  refine ao_putI (pc := 2) X dX9_open_2 fp_RX9_19 sf_1_2 ?_
  refine ao_lt (fun m1 => ?_)
  refine ao_aload_n (pc := 5) X dX9_open_5 rfl ?_
  refine ao_aload_n (pc := 6) X dX9_open_6 rfl ?_
  refine ao_getI (pc := 7) X dX9_open_7 fl_RX9_15 sf_1_1 ?_
  refine ao_iload_n (pc := 10) X dX9_open_10 rfl ?_
  refine ao_min (pc := 11) X dX9_open_11 ml_RX9_25 MinW_ok (Nat.le_of_ble_eq_true rfl) ?_
  refine ao_putI (pc := 14) X dX9_open_14 fp_RX9_22 sf_1_3 ?_
  refine ao_lt (fun m2 => ?_)
  exact ao_vret (pc := 17) X hr dX9_open_17
def fX9_wrong_1 (μ : Mem) : Option (Int32 × Mem) :=
  some (((-1 : Int32) - (gI μ 1 2)), μ)
set_option maxRecDepth 100000 in
set_option maxHeartbeats 4000000 in
theorem mX9_wrong_1 {E : En} {l : Launch} (hI : Inj E) (μ : Mem) : MtI E l yX9_wrong cX9_wrong 1 (some .int) 1 [.ref (eAd E 1)] μ (fX9_wrong_1 μ) := by
  refine mtI_of (own := RX9) [(0, .ref (eAd E 1))] hI rfl (by decide) (Nat.le_of_ble_eq_true rfl) (Nat.le_of_ble_eq_true rfl) rfl (fun Z hl0 X hr => ?_)
  unfold fX9_wrong_1
  refine ao_iconst (pc := 0) X dX9_wrong_0 ic_m1 ?_
  refine ao_aload_n (pc := 1) X dX9_wrong_1 rfl ?_
  refine ao_getI (pc := 2) X dX9_wrong_2 fl_RX9_19 sf_1_2 ?_
  refine ao_isub (pc := 5) X dX9_wrong_5 ?_
  exact ao_iret (pc := 6) X hr dX9_wrong_6
def fX5_readAll_5_1_b16 : Nat → Int32 → Mem → Option (Int32 × Mem)
  | 0, _, _ => none
  | n + 1, p3, μ =>
  if (80 : Int32) ≤ p3 then (bnd (fX9_wrong_1 μ) fun r5 m6 =>
    some (r5, m6))
  else bnd (fX3_readsOne_5_1 p3 μ) fun r7 m8 =>
    if r7 = 0 then (bnd (fX9_wrong_1 m8) fun r16 m17 =>
      some (r16, m17))
    else bnd (fX9_isRead_1 m8) fun r9 m10 =>
      if r9 = 0 then (bnd (fX9_takes_1 (59 : Int32) m10) fun r11 m12 =>
        if r11 = 0 then (bnd (fX9_wrong_1 m12) fun r14 m15 =>
          some (r14, m15))
        else fX5_readAll_5_1_b16 n (p3 + (1 : Int32)) m12)
      else some ((p3 + (1 : Int32)), m10)
set_option maxRecDepth 100000 in
set_option maxHeartbeats 4000000 in
theorem bX5_readAll_5_1_16 {E : En} {l : Launch} {Z : Zt} (hI : Inj E) (hl0 : lZ l Z) (X : Cx E Z cX5_readAll RX5 4 8) (hr : rtOf Z = some .int) : ∀ (n : Nat) (p3 : Int32) (μ : Mem), AO E Z 4 (QI E Z) 16 [(0, .ref (eAd E 5)), (1, .ref (eAd E 1)), (3, .int p3)] [] μ (fX5_readAll_5_1_b16 n p3 μ) := by
  intro n
  induction n with
  | zero =>
    intros
    exact ao_none
  | succ n ih =>
    intro p3 μ
    rw [fX5_readAll_5_1_b16]
    refine ao_iload_n (pc := 16) X dX5_readAll_16 rfl ?_
    refine ao_bipush (pc := 17) X dX5_readAll_17 bp_80 ?_
    refine ao_icmp_ge (pc := 19) (tgt := 67) X dX5_readAll_19 (by decide) (fun _ => ?_) (fun _ => ?_)
    · refine ao_aload_n (pc := 67) X dX5_readAll_67 rfl ?_
      refine ao_callVI (pc := 68) (As := []) (st := []) X hl0 dX5_readAll_68 yv_X9_wrong so_1 ml_RX5_23 (mX9_wrong_1 hI μ) (Nat.le_of_ble_eq_true rfl) rfl rfl (Nat.le_of_ble_eq_true rfl) (fun r5 m6 => ?_)
      exact ao_iret (pc := 71) X hr dX5_readAll_71
    · refine ao_aload_n (pc := 22) X dX5_readAll_22 rfl ?_
      refine ao_aload_n (pc := 23) X dX5_readAll_23 rfl ?_
      refine ao_iload_n (pc := 24) X dX5_readAll_24 rfl ?_
      refine ao_callU (pc := 25) (As := [.ref (eAd E 1), .int p3]) (st := []) X hl0 dX5_readAll_25 yu_RX5_17_RX3 so_5 (mX3_readsOne_5_1 hI p3 μ) (Nat.le_of_ble_eq_true rfl) rfl rfl (Nat.le_of_ble_eq_true rfl) (fun r7 m8 => ?_)
      refine ao_if_ne (pc := 28) (tgt := 36) X dX5_readAll_28 (by decide) (fun _ => ?_) (fun _ => ?_)
      · refine ao_aload_n (pc := 36) X dX5_readAll_36 rfl ?_
        refine ao_callVI (pc := 37) (As := []) (st := []) X hl0 dX5_readAll_37 yv_X9_isRead so_1 ml_RX5_13 (mX9_isRead_1 hI m8) (Nat.le_of_ble_eq_true rfl) rfl rfl (Nat.le_of_ble_eq_true rfl) (fun r9 m10 => ?_)
        refine ao_if_eq (pc := 40) (tgt := 47) X dX5_readAll_40 (by decide) (fun _ => ?_) (fun _ => ?_)
        · refine ao_aload_n (pc := 47) X dX5_readAll_47 rfl ?_
          refine ao_bipush (pc := 48) X dX5_readAll_48 bp_59 ?_
          refine ao_callVI (pc := 50) (As := [.int (59 : Int32)]) (st := []) X hl0 dX5_readAll_50 yv_X9_takes so_1 ml_RX5_27 (mX9_takes_1 hI (59 : Int32) m10) (Nat.le_of_ble_eq_true rfl) rfl rfl (Nat.le_of_ble_eq_true rfl) (fun r11 m12 => ?_)
          refine ao_if_ne (pc := 53) (tgt := 61) X dX5_readAll_53 (by decide) (fun _ => ?_) (fun _ => ?_)
          · refine ao_iinc (pc := 61) (k := 2) (v := p3 + (1 : Int32)) (lv' := [(3, .int (p3 + (1 : Int32))), (0, .ref (eAd E 5)), (1, .ref (eAd E 1))]) X dX5_readAll_61 rfl (ii_ic ic_1) (by decide) rfl ?_
            refine ao_goto (pc := 64) (tgt := 16) X dX5_readAll_64 (by decide) ?_
            refine ao_sub [1, 2, 0] rfl ?_
            exact ih (p3 + (1 : Int32)) m12
          · refine ao_aload_n (pc := 56) X dX5_readAll_56 rfl ?_
            refine ao_callVI (pc := 57) (As := []) (st := []) X hl0 dX5_readAll_57 yv_X9_wrong so_1 ml_RX5_23 (mX9_wrong_1 hI m12) (Nat.le_of_ble_eq_true rfl) rfl rfl (Nat.le_of_ble_eq_true rfl) (fun r14 m15 => ?_)
            exact ao_iret (pc := 60) X hr dX5_readAll_60
        · refine ao_iload_n (pc := 43) X dX5_readAll_43 rfl ?_
          refine ao_iconst (pc := 44) X dX5_readAll_44 ic_1 ?_
          refine ao_iadd (pc := 45) X dX5_readAll_45 ?_
          exact ao_iret (pc := 46) X hr dX5_readAll_46
      · refine ao_aload_n (pc := 31) X dX5_readAll_31 rfl ?_
        refine ao_callVI (pc := 32) (As := []) (st := []) X hl0 dX5_readAll_32 yv_X9_wrong so_1 ml_RX5_23 (mX9_wrong_1 hI m8) (Nat.le_of_ble_eq_true rfl) rfl rfl (Nat.le_of_ble_eq_true rfl) (fun r16 m17 => ?_)
        exact ao_iret (pc := 35) X hr dX5_readAll_35
def fX5_readAll_5_1 (v2 : Int32) (μ : Mem) : Option (Int32 × Mem) :=
  bnd (fX9_open_1 v2 μ) fun r1 m2 =>
  bnd (fX9_isRead_1 m2) fun r3 m4 =>
  if r3 = 0 then (fX5_readAll_5_1_b16 FU (0 : Int32) m4)
  else some ((0 : Int32), m4)
set_option maxRecDepth 100000 in
set_option maxHeartbeats 4000000 in
theorem mX5_readAll_5_1 {E : En} {l : Launch} (hI : Inj E) (v2 : Int32) (μ : Mem) : MtI E l yX5_readAll cX5_readAll 4 (some .int) 8 [.ref (eAd E 5), .ref (eAd E 1), .int v2] μ (fX5_readAll_5_1 v2 μ) := by
  refine mtI_of (own := RX5) [(0, .ref (eAd E 5)), (1, .ref (eAd E 1)), (2, .int v2)] hI rfl (by decide) (Nat.le_of_ble_eq_true rfl) (Nat.le_of_ble_eq_true rfl) rfl (fun Z hl0 X hr => ?_)
  unfold fX5_readAll_5_1
  refine ao_aload_n (pc := 0) X dX5_readAll_0 rfl ?_
  refine ao_iload_n (pc := 1) X dX5_readAll_1 rfl ?_
  refine ao_callVV (pc := 2) (As := [.int v2]) (st := []) X hl0 dX5_readAll_2 yv_X9_open so_1 ml_RX5_7 (mX9_open_1 hI v2 μ) (Nat.le_of_ble_eq_true rfl) rfl rfl (Nat.le_of_ble_eq_true rfl) (fun r1 m2 => ?_)
  refine ao_aload_n (pc := 5) X dX5_readAll_5 rfl ?_
  refine ao_callVI (pc := 6) (As := []) (st := []) X hl0 dX5_readAll_6 yv_X9_isRead so_1 ml_RX5_13 (mX9_isRead_1 hI m2) (Nat.le_of_ble_eq_true rfl) rfl rfl (Nat.le_of_ble_eq_true rfl) (fun r3 m4 => ?_)
  refine ao_if_eq (pc := 9) (tgt := 14) X dX5_readAll_9 (by decide) (fun _ => ?_) (fun _ => ?_)
  · refine ao_iconst (pc := 14) X dX5_readAll_14 ic_0 ?_
    refine ao_istore_n (pc := 15) (lv' := [(3, .int (0 : Int32)), (0, .ref (eAd E 5)), (1, .ref (eAd E 1)), (2, .int v2)]) X dX5_readAll_15 rfl (by decide) rfl ?_
    refine ao_sub [1, 2, 0] rfl ?_
    exact bX5_readAll_5_1_16 hI hl0 X hr FU (0 : Int32) m4
  · refine ao_iconst (pc := 12) X dX5_readAll_12 ic_0 ?_
    exact ao_iret (pc := 13) X hr dX5_readAll_13
def fX9_empty_1 (μ : Mem) : Option (Unit × Mem) :=
  lt (sI μ 1 1 (0 : Int32)) fun m1 =>
  some ((), m1)
set_option maxRecDepth 100000 in
set_option maxHeartbeats 4000000 in
theorem mX9_empty_1 {E : En} {l : Launch} (hI : Inj E) (μ : Mem) : MtV E l yX9_empty cX9_empty 1 (none) 1 [.ref (eAd E 1)] μ (fX9_empty_1 μ) := by
  refine mtV_of (own := RX9) [(0, .ref (eAd E 1))] hI rfl (by decide) (Nat.le_of_ble_eq_true rfl) (Nat.le_of_ble_eq_true rfl) rfl (fun Z hl0 X hr => ?_)
  unfold fX9_empty_1
  refine ao_aload_n (pc := 0) X dX9_empty_0 rfl ?_
  refine ao_iconst (pc := 1) X dX9_empty_1 ic_0 ?_
  refine ao_putI (pc := 2) X dX9_empty_2 fp_RX9_15 sf_1_1 ?_
  refine ao_lt (fun m1 => ?_)
  exact ao_vret (pc := 5) X hr dX9_empty_5
def fX11_prisoners_0 (μ : Mem) : Option (Int32 × Mem) :=
  bnd (fX5_readAll_5_1 (76 : Int32) μ) fun r1 m2 =>
  bnd (fX9_empty_1 m2) fun r3 m4 =>
  if r1 ≤ 0 then (some (r1, m4))
  else bnd (fX4_receive_33 (gI m4 5 5) ((gI m4 5 5) + r1) m4) fun r5 m6 =>
    lt (sI m6 5 5 ((gI m6 5 5) + r1)) fun m7 =>
    bnd (fX11_forgetWhatWas_0 m7) fun r8 m9 =>
    some (r1, m9)
set_option maxRecDepth 100000 in
set_option maxHeartbeats 4000000 in
theorem mX11_prisoners_0 {E : En} {l : Launch} (hI : Inj E) (μ : Mem) : MtI E l yX11_prisoners cX11_prisoners 2 (some .int) 9 [.ref (eAd E 0)] μ (fX11_prisoners_0 μ) := by
  refine mtI_of (own := RX11) [(0, .ref (eAd E 0))] hI rfl (by decide) (Nat.le_of_ble_eq_true rfl) (Nat.le_of_ble_eq_true rfl) rfl (fun Z hl0 X hr => ?_)
  unfold fX11_prisoners_0
  refine ao_aload_n (pc := 0) X dX11_prisoners_0 rfl ?_
  refine ao_getR (pc := 1) X dX11_prisoners_1 fl_RX11_26 sf_0_2 ?_
  refine ao_aload_n (pc := 4) X dX11_prisoners_4 rfl ?_
  refine ao_getR (pc := 5) X dX11_prisoners_5 fl_RX11_10 sf_0_0 ?_
  refine ao_bipush (pc := 8) X dX11_prisoners_8 bp_76 ?_
  refine ao_callU (pc := 10) (As := [.ref (eAd E 1), .int (76 : Int32)]) (st := []) X hl0 dX11_prisoners_10 yu_RX11_112_RX3 so_5 (mX5_readAll_5_1 hI (76 : Int32) μ) (Nat.le_of_ble_eq_true rfl) rfl rfl (Nat.le_of_ble_eq_true rfl) (fun r1 m2 => ?_)
  refine ao_istore_n (pc := 13) (lv' := [(1, .int r1), (0, .ref (eAd E 0))]) X dX11_prisoners_13 rfl (by decide) rfl ?_
  refine ao_aload_n (pc := 14) X dX11_prisoners_14 rfl ?_
  refine ao_getR (pc := 15) X dX11_prisoners_15 fl_RX11_10 sf_0_0 ?_
  refine ao_callVV (pc := 18) (As := []) (st := []) X hl0 dX11_prisoners_18 yv_X9_empty so_1 ml_RX11_116 (mX9_empty_1 hI m2) (Nat.le_of_ble_eq_true rfl) rfl rfl (Nat.le_of_ble_eq_true rfl) (fun r3 m4 => ?_)
  refine ao_iload_n (pc := 21) X dX11_prisoners_21 rfl ?_
  refine ao_if_le (pc := 22) (tgt := 65) X dX11_prisoners_22 (by decide) (fun _ => ?_) (fun _ => ?_)
  · refine ao_iload_n (pc := 65) X dX11_prisoners_65 rfl ?_
    exact ao_iret (pc := 66) X hr dX11_prisoners_66
  · refine ao_aload_n (pc := 25) X dX11_prisoners_25 rfl ?_
    refine ao_getR (pc := 26) X dX11_prisoners_26 fl_RX11_65 sf_0_7 ?_
    refine ao_aload_n (pc := 29) X dX11_prisoners_29 rfl ?_
    refine ao_getR (pc := 30) X dX11_prisoners_30 fl_RX11_26 sf_0_2 ?_
    refine ao_getI (pc := 33) X dX11_prisoners_33 fl_RX11_119 sf_5_5 ?_
    refine ao_aload_n (pc := 36) X dX11_prisoners_36 rfl ?_
    refine ao_getR (pc := 37) X dX11_prisoners_37 fl_RX11_26 sf_0_2 ?_
    refine ao_getI (pc := 40) X dX11_prisoners_40 fl_RX11_119 sf_5_5 ?_
    refine ao_iload_n (pc := 43) X dX11_prisoners_43 rfl ?_
    refine ao_iadd (pc := 44) X dX11_prisoners_44 ?_
    refine ao_callVV (pc := 45) (As := [.int (gI m4 5 5), .int ((gI m4 5 5) + r1)]) (st := []) X hl0 dX11_prisoners_45 yv_X4_receive so_33 ml_RX11_122 (mX4_receive_33 hI (gI m4 5 5) ((gI m4 5 5) + r1) m4) (Nat.le_of_ble_eq_true rfl) rfl rfl (Nat.le_of_ble_eq_true rfl) (fun r5 m6 => ?_)
    refine ao_aload_n (pc := 48) X dX11_prisoners_48 rfl ?_
    refine ao_getR (pc := 49) X dX11_prisoners_49 fl_RX11_26 sf_0_2 ?_
    refine ao_dup (pc := 52) X dX11_prisoners_52 rfl ?_
    refine ao_getI (pc := 53) X dX11_prisoners_53 fl_RX11_119 sf_5_5 ?_
    refine ao_iload_n (pc := 56) X dX11_prisoners_56 rfl ?_
    refine ao_iadd (pc := 57) X dX11_prisoners_57 ?_
    refine ao_putI (pc := 58) X dX11_prisoners_58 fp_RX11_119 sf_5_5 ?_
    refine ao_lt (fun m7 => ?_)
    refine ao_aload_n (pc := 61) X dX11_prisoners_61 rfl ?_
    refine ao_callVV (pc := 62) (As := []) (st := []) X hl0 dX11_prisoners_62 yv_X11_forgetWhatWas so_0 ml_RX11_126 (mX11_forgetWhatWas_0 hI m7) (Nat.le_of_ble_eq_true rfl) rfl rfl (Nat.le_of_ble_eq_true rfl) (fun r8 m9 => ?_)
    refine ao_iload_n (pc := 65) X dX11_prisoners_65 rfl ?_
    exact ao_iret (pc := 66) X hr dX11_prisoners_66
def fX12_allGoods_122_b4 : Nat → Int32 → Int32 → Mem → Option (Int32 × Mem)
  | 0, _, _, _ => none
  | n + 1, p1, p2, μ =>
  if (gI μ 122 1) ≤ p2 then (some (p1, μ))
  else gd (inb p2 6) (lt (p1 ||| (gI μ 128 (ix p2))) fun x1 =>
    fX12_allGoods_122_b4 n x1 (p2 + (1 : Int32)) μ)
set_option maxRecDepth 100000 in
set_option maxHeartbeats 4000000 in
theorem bX12_allGoods_122_4 {E : En} {l : Launch} {Z : Zt} (hI : Inj E) (hl0 : lZ l Z) (X : Cx E Z cX12_allGoods RX12 3 1) (hr : rtOf Z = some .int) : ∀ (n : Nat) (p1 : Int32) (p2 : Int32) (μ : Mem), AO E Z 3 (QI E Z) 4 [(0, .ref (eAd E 122)), (1, .int p1), (2, .int p2)] [] μ (fX12_allGoods_122_b4 n p1 p2 μ) := by
  intro n
  induction n with
  | zero =>
    intros
    exact ao_none
  | succ n ih =>
    intro p1 p2 μ
    rw [fX12_allGoods_122_b4]
    refine ao_iload_n (pc := 4) X dX12_allGoods_4 rfl ?_
    refine ao_aload_n (pc := 5) X dX12_allGoods_5 rfl ?_
    refine ao_getI (pc := 6) X dX12_allGoods_6 fl_RX12_101 sf_122_1 ?_
    refine ao_icmp_ge (pc := 9) (tgt := 27) X dX12_allGoods_9 (by decide) (fun _ => ?_) (fun _ => ?_)
    · refine ao_iload_n (pc := 27) X dX12_allGoods_27 rfl ?_
      exact ao_iret (pc := 28) X hr dX12_allGoods_28
    · refine ao_iload_n (pc := 12) X dX12_allGoods_12 rfl ?_
      refine ao_aload_n (pc := 13) X dX12_allGoods_13 rfl ?_
      refine ao_getR (pc := 14) X dX12_allGoods_14 fl_RX12_26 sf_122_6 ?_
      refine ao_iload_n (pc := 17) X dX12_allGoods_17 rfl ?_
      refine ao_iald (pc := 18) X dX12_allGoods_18 sa_128 ?_
      refine ao_ior (pc := 19) X dX12_allGoods_19 ?_
      refine ao_ltI (fun x1 => ?_)
      refine ao_istore_n (pc := 20) (lv' := [(1, .int x1), (0, .ref (eAd E 122)), (2, .int p2)]) X dX12_allGoods_20 rfl (by decide) rfl ?_
      refine ao_iinc (pc := 21) (k := 2) (v := p2 + (1 : Int32)) (lv' := [(2, .int (p2 + (1 : Int32))), (1, .int x1), (0, .ref (eAd E 122))]) X dX12_allGoods_21 rfl (ii_ic ic_1) (by decide) rfl ?_
      refine ao_goto (pc := 24) (tgt := 4) X dX12_allGoods_24 (by decide) ?_
      refine ao_sub [2, 1, 0] rfl ?_
      exact ih x1 (p2 + (1 : Int32)) μ
def fX12_allGoods_122 (μ : Mem) : Option (Int32 × Mem) :=
  fX12_allGoods_122_b4 FU (0 : Int32) (0 : Int32) μ
set_option maxRecDepth 100000 in
set_option maxHeartbeats 4000000 in
theorem mX12_allGoods_122 {E : En} {l : Launch} (hI : Inj E) (μ : Mem) : MtI E l yX12_allGoods cX12_allGoods 3 (some .int) 1 [.ref (eAd E 122)] μ (fX12_allGoods_122 μ) := by
  refine mtI_of (own := RX12) [(0, .ref (eAd E 122))] hI rfl (by decide) (Nat.le_of_ble_eq_true rfl) (Nat.le_of_ble_eq_true rfl) rfl (fun Z hl0 X hr => ?_)
  unfold fX12_allGoods_122
  refine ao_iconst (pc := 0) X dX12_allGoods_0 ic_0 ?_
  refine ao_istore_n (pc := 1) (lv' := [(1, .int (0 : Int32)), (0, .ref (eAd E 122))]) X dX12_allGoods_1 rfl (by decide) rfl ?_
  refine ao_iconst (pc := 2) X dX12_allGoods_2 ic_0 ?_
  refine ao_istore_n (pc := 3) (lv' := [(2, .int (0 : Int32)), (1, .int (0 : Int32)), (0, .ref (eAd E 122))]) X dX12_allGoods_3 rfl (by decide) rfl ?_
  refine ao_sub [2, 1, 0] rfl ?_
  exact bX12_allGoods_122_4 hI hl0 X hr FU (0 : Int32) (0 : Int32) μ
def fX12_begin_122_133 (v2 : Int32) (v3 : Int32) (μ : Mem) : Option (Unit × Mem) :=
  lt (sI μ 122 18 (133 : Int32)) fun m1 =>
  lt (sI m1 122 19 v2) fun m2 =>
  lt (sI m2 122 20 v3) fun m3 =>
  lt (sI m3 122 21 (0 : Int32)) fun m4 =>
  lt (sI m4 122 22 (-1 : Int32)) fun m5 =>
  some ((), m5)
set_option maxRecDepth 100000 in
set_option maxHeartbeats 4000000 in
theorem mX12_begin_122_133 {E : En} {l : Launch} (hI : Inj E) (v2 : Int32) (v3 : Int32) (μ : Mem) : MtV E l yX12_begin cX12_begin 4 (none) 1 [.ref (eAd E 122), .ref (eAd E 133), .int v2, .int v3] μ (fX12_begin_122_133 v2 v3 μ) := by
  refine mtV_of (own := RX12) [(0, .ref (eAd E 122)), (1, .ref (eAd E 133)), (2, .int v2), (3, .int v3)] hI rfl (by decide) (Nat.le_of_ble_eq_true rfl) (Nat.le_of_ble_eq_true rfl) rfl (fun Z hl0 X hr => ?_)
  unfold fX12_begin_122_133
  refine ao_aload_n (pc := 0) X dX12_begin_0 rfl ?_
  refine ao_aload_n (pc := 1) X dX12_begin_1 rfl ?_
  refine ao_putD (pc := 2) (iv := (133 : Int32)) X dX12_begin_2 fp_RX12_111 sf_122_18 (by decide) (by decide) rfl rfl ?_
  refine ao_lt (fun m1 => ?_)
  refine ao_aload_n (pc := 5) X dX12_begin_5 rfl ?_
  refine ao_iload_n (pc := 6) X dX12_begin_6 rfl ?_
  refine ao_putI (pc := 7) X dX12_begin_7 fp_RX12_114 sf_122_19 ?_
  refine ao_lt (fun m2 => ?_)
  refine ao_aload_n (pc := 10) X dX12_begin_10 rfl ?_
  refine ao_iload_n (pc := 11) X dX12_begin_11 rfl ?_
  refine ao_putI (pc := 12) X dX12_begin_12 fp_RX12_117 sf_122_20 ?_
  refine ao_lt (fun m3 => ?_)
  refine ao_aload_n (pc := 15) X dX12_begin_15 rfl ?_
  refine ao_iconst (pc := 16) X dX12_begin_16 ic_0 ?_
  refine ao_putI (pc := 17) X dX12_begin_17 fp_RX12_120 sf_122_21 ?_
  refine ao_lt (fun m4 => ?_)
  refine ao_aload_n (pc := 20) X dX12_begin_20 rfl ?_
  refine ao_iconst (pc := 21) X dX12_begin_21 ic_m1 ?_
  refine ao_putI (pc := 22) X dX12_begin_22 fp_RX12_123 sf_122_22 ?_
  refine ao_lt (fun m5 => ?_)
  exact ao_vret (pc := 25) X hr dX12_begin_25
def fX12_beginText_122 (v1 : Int32) (μ : Mem) : Option (Unit × Mem) :=
  bnd (fX12_begin_122_133 (gI μ 122 14) v1 μ) fun r1 m2 =>
  lt (sI m2 122 14 (0 : Int32)) fun m3 =>
  some ((), m3)
set_option maxRecDepth 100000 in
set_option maxHeartbeats 4000000 in
theorem mX12_beginText_122 {E : En} {l : Launch} (hI : Inj E) (v1 : Int32) (μ : Mem) : MtV E l yX12_beginText cX12_beginText 2 (none) 2 [.ref (eAd E 122), .int v1] μ (fX12_beginText_122 v1 μ) := by
  refine mtV_of (own := RX12) [(0, .ref (eAd E 122)), (1, .int v1)] hI rfl (by decide) (Nat.le_of_ble_eq_true rfl) (Nat.le_of_ble_eq_true rfl) rfl (fun Z hl0 X hr => ?_)
  unfold fX12_beginText_122
  refine ao_aload_n (pc := 0) X dX12_beginText_0 rfl ?_
  refine ao_aload_n (pc := 1) X dX12_beginText_1 rfl ?_
  refine ao_getR (pc := 2) X dX12_beginText_2 fl_RX12_45 sf_122_13 ?_
  refine ao_aload_n (pc := 5) X dX12_beginText_5 rfl ?_
  refine ao_getI (pc := 6) X dX12_beginText_6 fl_RX12_108 sf_122_14 ?_
  refine ao_iload_n (pc := 9) X dX12_beginText_9 rfl ?_
  refine ao_callVV (pc := 10) (As := [.ref (eAd E 133), .int (gI μ 122 14), .int v1]) (st := []) X hl0 dX12_beginText_10 yv_X12_begin so_122 ml_RX12_126 (mX12_begin_122_133 hI (gI μ 122 14) v1 μ) (Nat.le_of_ble_eq_true rfl) rfl rfl (Nat.le_of_ble_eq_true rfl) (fun r1 m2 => ?_)
  refine ao_aload_n (pc := 13) X dX12_beginText_13 rfl ?_
  refine ao_iconst (pc := 14) X dX12_beginText_14 ic_0 ?_
  refine ao_putI (pc := 15) X dX12_beginText_15 fp_RX12_108 sf_122_14 ?_
  refine ao_lt (fun m3 => ?_)
  exact ao_vret (pc := 18) X hr dX12_beginText_18
def fX12_fine_122 (μ : Mem) : Option (Int32 × Mem) :=
  if (gI μ 122 22) = (-1 : Int32) then (some ((1 : Int32), μ))
  else some ((0 : Int32), μ)
set_option maxRecDepth 100000 in
set_option maxHeartbeats 4000000 in
theorem mX12_fine_122 {E : En} {l : Launch} (hI : Inj E) (μ : Mem) : MtI E l yX12_fine cX12_fine 1 (some .boolean) 1 [.ref (eAd E 122)] μ (fX12_fine_122 μ) := by
  refine mtI_of (own := RX12) [(0, .ref (eAd E 122))] hI rfl (by decide) (Nat.le_of_ble_eq_true rfl) (Nat.le_of_ble_eq_true rfl) rfl (fun Z hl0 X hr => ?_)
  unfold fX12_fine_122
  refine ao_aload_n (pc := 0) X dX12_fine_0 rfl ?_
  refine ao_getI (pc := 1) X dX12_fine_1 fl_RX12_123 sf_122_22 ?_
  refine ao_iconst (pc := 4) X dX12_fine_4 ic_m1 ?_
  refine ao_icmp_ne (pc := 5) (tgt := 12) X dX12_fine_5 (by decide) (fun _ => ?_) (fun _ => ?_)
  · refine ao_iconst (pc := 12) X dX12_fine_12 ic_0 ?_
    exact ao_zret (pc := 13) X hr rfl dX12_fine_13
  · refine ao_iconst (pc := 8) X dX12_fine_8 ic_1 ?_
    refine ao_goto (pc := 9) (tgt := 13) X dX12_fine_9 (by decide) ?_
    exact ao_zret (pc := 13) X hr rfl dX12_fine_13
def fX12_fault_122 (v1 : Int32) (μ : Mem) : Option (Unit × Mem) :=
  bnd (fX12_fine_122 μ) fun r1 m2 =>
  if r1 = 0 then (some ((), m2))
  else lt (sI m2 122 22 v1) fun m3 =>
    some ((), m3)
set_option maxRecDepth 100000 in
set_option maxHeartbeats 4000000 in
theorem mX12_fault_122 {E : En} {l : Launch} (hI : Inj E) (v1 : Int32) (μ : Mem) : MtV E l yX12_fault cX12_fault 2 (none) 2 [.ref (eAd E 122), .int v1] μ (fX12_fault_122 v1 μ) := by
  refine mtV_of (own := RX12) [(0, .ref (eAd E 122)), (1, .int v1)] hI rfl (by decide) (Nat.le_of_ble_eq_true rfl) (Nat.le_of_ble_eq_true rfl) rfl (fun Z hl0 X hr => ?_)
  unfold fX12_fault_122
  refine ao_aload_n (pc := 0) X dX12_fault_0 rfl ?_
  refine ao_callVI (pc := 1) (As := []) (st := []) X hl0 dX12_fault_1 yv_X12_fine so_122 ml_RX12_130 (mX12_fine_122 hI μ) (Nat.le_of_ble_eq_true rfl) rfl rfl (Nat.le_of_ble_eq_true rfl) (fun r1 m2 => ?_)
  refine ao_if_eq (pc := 4) (tgt := 12) X dX12_fault_4 (by decide) (fun _ => ?_) (fun _ => ?_)
  · exact ao_vret (pc := 12) X hr dX12_fault_12
  · refine ao_aload_n (pc := 7) X dX12_fault_7 rfl ?_
    refine ao_iload_n (pc := 8) X dX12_fault_8 rfl ?_
    refine ao_putI (pc := 9) X dX12_fault_9 fp_RX12_123 sf_122_22 ?_
    refine ao_lt (fun m3 => ?_)
    exact ao_vret (pc := 12) X hr dX12_fault_12
def fX12_here_122 (μ : Mem) : Option (Int32 × Mem) :=
  if (gI μ 122 19) ≤ (gI μ 122 21) then (some ((-1 : Int32), μ))
  else if (gI μ 122 20) ≤ (gI μ 122 21) then (some ((-1 : Int32), μ))
    else if gI μ 122 18 = (133 : Int32) then (gd (inb (gI μ 122 21) 80) (some (((gI μ 133 (ix (gI μ 122 21))) &&& (255 : Int32)), μ)))
      else if gI μ 122 18 = (136 : Int32) then (gd (inb (gI μ 122 21) 40) (some (((gI μ 136 (ix (gI μ 122 21))) &&& (255 : Int32)), μ)))
      else none
set_option maxRecDepth 100000 in
set_option maxHeartbeats 4000000 in
theorem mX12_here_122 {E : En} {l : Launch} (hI : Inj E) (μ : Mem) : MtI E l yX12_here cX12_here 1 (some .int) 1 [.ref (eAd E 122)] μ (fX12_here_122 μ) := by
  refine mtI_of (own := RX12) [(0, .ref (eAd E 122))] hI rfl (by decide) (Nat.le_of_ble_eq_true rfl) (Nat.le_of_ble_eq_true rfl) rfl (fun Z hl0 X hr => ?_)
  unfold fX12_here_122
  refine ao_aload_n (pc := 0) X dX12_here_0 rfl ?_
  refine ao_getI (pc := 1) X dX12_here_1 fl_RX12_120 sf_122_21 ?_
  refine ao_aload_n (pc := 4) X dX12_here_4 rfl ?_
  refine ao_getI (pc := 5) X dX12_here_5 fl_RX12_114 sf_122_19 ?_
  refine ao_icmp_ge (pc := 8) (tgt := 38) X dX12_here_8 (by decide) (fun _ => ?_) (fun _ => ?_)
  · refine ao_iconst (pc := 38) X dX12_here_38 ic_m1 ?_
    exact ao_iret (pc := 39) X hr dX12_here_39
  · refine ao_aload_n (pc := 11) X dX12_here_11 rfl ?_
    refine ao_getI (pc := 12) X dX12_here_12 fl_RX12_120 sf_122_21 ?_
    refine ao_aload_n (pc := 15) X dX12_here_15 rfl ?_
    refine ao_getI (pc := 16) X dX12_here_16 fl_RX12_117 sf_122_20 ?_
    refine ao_icmp_ge (pc := 19) (tgt := 38) X dX12_here_19 (by decide) (fun _ => ?_) (fun _ => ?_)
    · refine ao_iconst (pc := 38) X dX12_here_38 ic_m1 ?_
      exact ao_iret (pc := 39) X hr dX12_here_39
    · refine ao_aload_n (pc := 22) X dX12_here_22 rfl ?_
      refine ao_ite (cd := gI μ 122 18 = (133 : Int32)) (fun c => ao_getD (pc := 23) (iv := (133 : Int32)) (t := 133) X dX12_here_23 fl_RX12_111 sf_122_18 c (by decide) (by decide) ?_) (fun _ => ?_)
      · refine ao_aload_n (pc := 26) X dX12_here_26 rfl ?_
        refine ao_getI (pc := 27) X dX12_here_27 fl_RX12_120 sf_122_21 ?_
        refine ao_bald (pc := 30) X dX12_here_30 sa_133 ?_
        refine ao_sipush (pc := 31) X dX12_here_31 sp_255 ?_
        refine ao_iand (pc := 34) X dX12_here_34 ?_
        refine ao_goto (pc := 35) (tgt := 39) X dX12_here_35 (by decide) ?_
        exact ao_iret (pc := 39) X hr dX12_here_39
      refine ao_ite (cd := gI μ 122 18 = (136 : Int32)) (fun c => ao_getD (pc := 23) (iv := (136 : Int32)) (t := 136) X dX12_here_23 fl_RX12_111 sf_122_18 c (by decide) (by decide) ?_) (fun _ => ?_)
      · refine ao_aload_n (pc := 26) X dX12_here_26 rfl ?_
        refine ao_getI (pc := 27) X dX12_here_27 fl_RX12_120 sf_122_21 ?_
        refine ao_bald (pc := 30) X dX12_here_30 sa_136 ?_
        refine ao_sipush (pc := 31) X dX12_here_31 sp_255 ?_
        refine ao_iand (pc := 34) X dX12_here_34 ?_
        refine ao_goto (pc := 35) (tgt := 39) X dX12_here_35 (by decide) ?_
        exact ao_iret (pc := 39) X hr dX12_here_39
      exact ao_none
def fX12_passes_122 (v1 : Int32) (μ : Mem) : Option (Int32 × Mem) :=
  bnd (fX12_fine_122 μ) fun r1 m2 =>
  if r1 = 0 then (some ((0 : Int32), m2))
  else bnd (fX12_here_122 m2) fun r3 m4 =>
    if r3 = v1 then (lt (sI m4 122 21 ((gI m4 122 21) + (1 : Int32))) fun m5 =>
      some ((1 : Int32), m5))
    else some ((0 : Int32), m4)
set_option maxRecDepth 100000 in
set_option maxHeartbeats 4000000 in
theorem mX12_passes_122 {E : En} {l : Launch} (hI : Inj E) (v1 : Int32) (μ : Mem) : MtI E l yX12_passes cX12_passes 2 (some .boolean) 2 [.ref (eAd E 122), .int v1] μ (fX12_passes_122 v1 μ) := by
  refine mtI_of (own := RX12) [(0, .ref (eAd E 122)), (1, .int v1)] hI rfl (by decide) (Nat.le_of_ble_eq_true rfl) (Nat.le_of_ble_eq_true rfl) rfl (fun Z hl0 X hr => ?_)
  unfold fX12_passes_122
  refine ao_aload_n (pc := 0) X dX12_passes_0 rfl ?_
  refine ao_callVI (pc := 1) (As := []) (st := []) X hl0 dX12_passes_1 yv_X12_fine so_122 ml_RX12_130 (mX12_fine_122 hI μ) (Nat.le_of_ble_eq_true rfl) rfl rfl (Nat.le_of_ble_eq_true rfl) (fun r1 m2 => ?_)
  refine ao_if_eq (pc := 4) (tgt := 15) X dX12_passes_4 (by decide) (fun _ => ?_) (fun _ => ?_)
  · refine ao_iconst (pc := 15) X dX12_passes_15 ic_0 ?_
    exact ao_zret (pc := 16) X hr rfl dX12_passes_16
  · refine ao_aload_n (pc := 7) X dX12_passes_7 rfl ?_
    refine ao_callVI (pc := 8) (As := []) (st := []) X hl0 dX12_passes_8 yv_X12_here so_122 ml_RX12_134 (mX12_here_122 hI m2) (Nat.le_of_ble_eq_true rfl) rfl rfl (Nat.le_of_ble_eq_true rfl) (fun r3 m4 => ?_)
    refine ao_iload_n (pc := 11) X dX12_passes_11 rfl ?_
    refine ao_icmp_eq (pc := 12) (tgt := 17) X dX12_passes_12 (by decide) (fun _ => ?_) (fun _ => ?_)
    · refine ao_aload_n (pc := 17) X dX12_passes_17 rfl ?_
      refine ao_dup (pc := 18) X dX12_passes_18 rfl ?_
      refine ao_getI (pc := 19) X dX12_passes_19 fl_RX12_120 sf_122_21 ?_
      refine ao_iconst (pc := 22) X dX12_passes_22 ic_1 ?_
      refine ao_iadd (pc := 23) X dX12_passes_23 ?_
      refine ao_putI (pc := 24) X dX12_passes_24 fp_RX12_120 sf_122_21 ?_
      refine ao_lt (fun m5 => ?_)
      refine ao_iconst (pc := 27) X dX12_passes_27 ic_1 ?_
      exact ao_zret (pc := 28) X hr rfl dX12_passes_28
    · refine ao_iconst (pc := 15) X dX12_passes_15 ic_0 ?_
      exact ao_zret (pc := 16) X hr rfl dX12_passes_16
def fX12_has (v0 : Int32) (v1 : Int32) (μ : Mem) : Option (Int32 × Mem) :=
  if ((v0 >>> (v1 &&& 31)) &&& (1 : Int32)) = (1 : Int32) then (some ((1 : Int32), μ))
  else some ((0 : Int32), μ)
set_option maxRecDepth 100000 in
set_option maxHeartbeats 4000000 in
theorem mX12_has {E : En} {l : Launch} (hI : Inj E) (v0 : Int32) (v1 : Int32) (μ : Mem) : MtI E l yX12_has cX12_has 2 (some .boolean) 1 [.int v0, .int v1] μ (fX12_has v0 v1 μ) := by
  refine mtI_of (own := RX12) [(0, .int v0), (1, .int v1)] hI rfl (by decide) (Nat.le_of_ble_eq_true rfl) (Nat.le_of_ble_eq_true rfl) rfl (fun Z hl0 X hr => ?_)
  unfold fX12_has
  refine ao_iload_n (pc := 0) X dX12_has_0 rfl ?_
  refine ao_iload_n (pc := 1) X dX12_has_1 rfl ?_
  refine ao_ishr (pc := 2) X dX12_has_2 ?_
  refine ao_iconst (pc := 3) X dX12_has_3 ic_1 ?_
  refine ao_iand (pc := 4) X dX12_has_4 ?_
  refine ao_iconst (pc := 5) X dX12_has_5 ic_1 ?_
  refine ao_icmp_ne (pc := 6) (tgt := 13) X dX12_has_6 (by decide) (fun _ => ?_) (fun _ => ?_)
  · refine ao_iconst (pc := 13) X dX12_has_13 ic_0 ?_
    exact ao_zret (pc := 14) X hr rfl dX12_has_14
  · refine ao_iconst (pc := 9) X dX12_has_9 ic_1 ?_
    refine ao_goto (pc := 10) (tgt := 14) X dX12_has_10 (by decide) ?_
    exact ao_zret (pc := 14) X hr rfl dX12_has_14
def fX12_need_122 (v1 : Int32) (μ : Mem) : Option (Unit × Mem) :=
  bnd (fX12_passes_122 v1 μ) fun r1 m2 =>
  if r1 = 0 then (bnd (fX12_fault_122 (gI m2 122 21) m2) fun r3 m4 =>
    some ((), m4))
  else some ((), m2)
set_option maxRecDepth 100000 in
set_option maxHeartbeats 4000000 in
theorem mX12_need_122 {E : En} {l : Launch} (hI : Inj E) (v1 : Int32) (μ : Mem) : MtV E l yX12_need cX12_need 2 (none) 3 [.ref (eAd E 122), .int v1] μ (fX12_need_122 v1 μ) := by
  refine mtV_of (own := RX12) [(0, .ref (eAd E 122)), (1, .int v1)] hI rfl (by decide) (Nat.le_of_ble_eq_true rfl) (Nat.le_of_ble_eq_true rfl) rfl (fun Z hl0 X hr => ?_)
  unfold fX12_need_122
  refine ao_aload_n (pc := 0) X dX12_need_0 rfl ?_
  refine ao_iload_n (pc := 1) X dX12_need_1 rfl ?_
  refine ao_callVI (pc := 2) (As := [.int v1]) (st := []) X hl0 dX12_need_2 yv_X12_passes so_122 ml_RX12_138 (mX12_passes_122 hI v1 μ) (Nat.le_of_ble_eq_true rfl) rfl rfl (Nat.le_of_ble_eq_true rfl) (fun r1 m2 => ?_)
  refine ao_if_ne (pc := 5) (tgt := 16) X dX12_need_5 (by decide) (fun _ => ?_) (fun _ => ?_)
  · exact ao_vret (pc := 16) X hr dX12_need_16
  · refine ao_aload_n (pc := 8) X dX12_need_8 rfl ?_
    refine ao_aload_n (pc := 9) X dX12_need_9 rfl ?_
    refine ao_getI (pc := 10) X dX12_need_10 fl_RX12_120 sf_122_21 ?_
    refine ao_callVV (pc := 13) (As := [.int (gI m2 122 21)]) (st := []) X hl0 dX12_need_13 yv_X12_fault so_122 ml_RX12_142 (mX12_fault_122 hI (gI m2 122 21) m2) (Nat.le_of_ble_eq_true rfl) rfl rfl (Nat.le_of_ble_eq_true rfl) (fun r3 m4 => ?_)
    exact ao_vret (pc := 16) X hr dX12_need_16
def fX12_oneOf_122 (v1 : Int32) (v2 : Int32) (μ : Mem) : Option (Int32 × Mem) :=
  bnd (fX12_fine_122 μ) fun r1 m2 =>
  if r1 = 0 then (some ((0 : Int32), m2))
  else bnd (fX12_here_122 m2) fun r3 m4 =>
    bnd (fX12_in r3 v1 ((v1 + v2) - (1 : Int32)) m4) fun r5 m6 =>
    if r5 = 0 then (bnd (fX12_fault_122 (gI m6 122 21) m6) fun r8 m9 =>
      some ((0 : Int32), m9))
    else lt (sI m6 122 21 ((gI m6 122 21) + (1 : Int32))) fun m7 =>
      if gI m7 122 18 = (133 : Int32) then (gd (inb ((gI m7 122 21) - (1 : Int32)) 80) (some (((gI m7 133 (ix ((gI m7 122 21) - (1 : Int32)))) - v1), m7)))
      else if gI m7 122 18 = (136 : Int32) then (gd (inb ((gI m7 122 21) - (1 : Int32)) 40) (some (((gI m7 136 (ix ((gI m7 122 21) - (1 : Int32)))) - v1), m7)))
      else none
set_option maxRecDepth 100000 in
set_option maxHeartbeats 4000000 in
theorem mX12_oneOf_122 {E : En} {l : Launch} (hI : Inj E) (v1 : Int32) (v2 : Int32) (μ : Mem) : MtI E l yX12_oneOf cX12_oneOf 3 (some .int) 3 [.ref (eAd E 122), .int v1, .int v2] μ (fX12_oneOf_122 v1 v2 μ) := by
  refine mtI_of (own := RX12) [(0, .ref (eAd E 122)), (1, .int v1), (2, .int v2)] hI rfl (by decide) (Nat.le_of_ble_eq_true rfl) (Nat.le_of_ble_eq_true rfl) rfl (fun Z hl0 X hr => ?_)
  unfold fX12_oneOf_122
  refine ao_aload_n (pc := 0) X dX12_oneOf_0 rfl ?_
  refine ao_callVI (pc := 1) (As := []) (st := []) X hl0 dX12_oneOf_1 yv_X12_fine so_122 ml_RX12_130 (mX12_fine_122 hI μ) (Nat.le_of_ble_eq_true rfl) rfl rfl (Nat.le_of_ble_eq_true rfl) (fun r1 m2 => ?_)
  refine ao_if_ne (pc := 4) (tgt := 9) X dX12_oneOf_4 (by decide) (fun _ => ?_) (fun _ => ?_)
  · refine ao_aload_n (pc := 9) X dX12_oneOf_9 rfl ?_
    refine ao_callVI (pc := 10) (As := []) (st := []) X hl0 dX12_oneOf_10 yv_X12_here so_122 ml_RX12_134 (mX12_here_122 hI m2) (Nat.le_of_ble_eq_true rfl) rfl rfl (Nat.le_of_ble_eq_true rfl) (fun r3 m4 => ?_)
    refine ao_iload_n (pc := 13) X dX12_oneOf_13 rfl ?_
    refine ao_iload_n (pc := 14) X dX12_oneOf_14 rfl ?_
    refine ao_iload_n (pc := 15) X dX12_oneOf_15 rfl ?_
    refine ao_iadd (pc := 16) X dX12_oneOf_16 ?_
    refine ao_iconst (pc := 17) X dX12_oneOf_17 ic_1 ?_
    refine ao_isub (pc := 18) X dX12_oneOf_18 ?_
    refine ao_callSI (pc := 19) (As := [.int r3, .int v1, .int ((v1 + v2) - (1 : Int32))]) (st := []) X hl0 dX12_oneOf_19 yv_X12_in ml_RX12_104 (mX12_in hI r3 v1 ((v1 + v2) - (1 : Int32)) m4) (Nat.le_of_ble_eq_true rfl) rfl rfl (Nat.le_of_ble_eq_true rfl) (fun r5 m6 => ?_)
    refine ao_if_ne (pc := 22) (tgt := 35) X dX12_oneOf_22 (by decide) (fun _ => ?_) (fun _ => ?_)
    · refine ao_aload_n (pc := 35) X dX12_oneOf_35 rfl ?_
      refine ao_dup (pc := 36) X dX12_oneOf_36 rfl ?_
      refine ao_getI (pc := 37) X dX12_oneOf_37 fl_RX12_120 sf_122_21 ?_
      refine ao_iconst (pc := 40) X dX12_oneOf_40 ic_1 ?_
      refine ao_iadd (pc := 41) X dX12_oneOf_41 ?_
      refine ao_putI (pc := 42) X dX12_oneOf_42 fp_RX12_120 sf_122_21 ?_
      refine ao_lt (fun m7 => ?_)
      refine ao_aload_n (pc := 45) X dX12_oneOf_45 rfl ?_
      refine ao_ite (cd := gI m7 122 18 = (133 : Int32)) (fun c => ao_getD (pc := 46) (iv := (133 : Int32)) (t := 133) X dX12_oneOf_46 fl_RX12_111 sf_122_18 c (by decide) (by decide) ?_) (fun _ => ?_)
      · refine ao_aload_n (pc := 49) X dX12_oneOf_49 rfl ?_
        refine ao_getI (pc := 50) X dX12_oneOf_50 fl_RX12_120 sf_122_21 ?_
        refine ao_iconst (pc := 53) X dX12_oneOf_53 ic_1 ?_
        refine ao_isub (pc := 54) X dX12_oneOf_54 ?_
        refine ao_bald (pc := 55) X dX12_oneOf_55 sa_133 ?_
        refine ao_iload_n (pc := 56) X dX12_oneOf_56 rfl ?_
        refine ao_isub (pc := 57) X dX12_oneOf_57 ?_
        exact ao_iret (pc := 58) X hr dX12_oneOf_58
      refine ao_ite (cd := gI m7 122 18 = (136 : Int32)) (fun c => ao_getD (pc := 46) (iv := (136 : Int32)) (t := 136) X dX12_oneOf_46 fl_RX12_111 sf_122_18 c (by decide) (by decide) ?_) (fun _ => ?_)
      · refine ao_aload_n (pc := 49) X dX12_oneOf_49 rfl ?_
        refine ao_getI (pc := 50) X dX12_oneOf_50 fl_RX12_120 sf_122_21 ?_
        refine ao_iconst (pc := 53) X dX12_oneOf_53 ic_1 ?_
        refine ao_isub (pc := 54) X dX12_oneOf_54 ?_
        refine ao_bald (pc := 55) X dX12_oneOf_55 sa_136 ?_
        refine ao_iload_n (pc := 56) X dX12_oneOf_56 rfl ?_
        refine ao_isub (pc := 57) X dX12_oneOf_57 ?_
        exact ao_iret (pc := 58) X hr dX12_oneOf_58
      exact ao_none
    · refine ao_aload_n (pc := 25) X dX12_oneOf_25 rfl ?_
      refine ao_aload_n (pc := 26) X dX12_oneOf_26 rfl ?_
      refine ao_getI (pc := 27) X dX12_oneOf_27 fl_RX12_120 sf_122_21 ?_
      refine ao_callVV (pc := 30) (As := [.int (gI m6 122 21)]) (st := []) X hl0 dX12_oneOf_30 yv_X12_fault so_122 ml_RX12_142 (mX12_fault_122 hI (gI m6 122 21) m6) (Nat.le_of_ble_eq_true rfl) rfl rfl (Nat.le_of_ble_eq_true rfl) (fun r8 m9 => ?_)
      refine ao_iconst (pc := 33) X dX12_oneOf_33 ic_0 ?_
      exact ao_iret (pc := 34) X hr dX12_oneOf_34
  · refine ao_iconst (pc := 7) X dX12_oneOf_7 ic_0 ?_
    exact ao_iret (pc := 8) X hr dX12_oneOf_8
def fX12_number_122_b11 : Nat → Int32 → Int32 → Int32 → Mem → Option (Int32 × Mem)
  | 0, _, _, _, _ => none
  | n + 1, p1, p2, p3, μ =>
  if p1 ≤ p3 then (some (p2, μ))
  else bnd (fX12_fine_122 μ) fun r3 m4 =>
    if r3 = 0 then (some (p2, m4))
    else bnd (fX12_here_122 m4) fun r5 m6 =>
      bnd (fX12_in r5 (48 : Int32) (57 : Int32) m6) fun r7 m8 =>
      if r7 = 0 then (some (p2, m8))
      else bnd (fX12_oneOf_122 (48 : Int32) (10 : Int32) m8) fun r9 m10 =>
        lt (((10 : Int32) * p2) + r9) fun x11 =>
        fX12_number_122_b11 n p1 x11 (p3 + (1 : Int32)) m10
set_option maxRecDepth 100000 in
set_option maxHeartbeats 4000000 in
theorem bX12_number_122_11 {E : En} {l : Launch} {Z : Zt} (hI : Inj E) (hl0 : lZ l Z) (X : Cx E Z cX12_number RX12 4 4) (hr : rtOf Z = some .int) : ∀ (n : Nat) (p1 : Int32) (p2 : Int32) (p3 : Int32) (μ : Mem), AO E Z 4 (QI E Z) 11 [(0, .ref (eAd E 122)), (1, .int p1), (2, .int p2), (3, .int p3)] [] μ (fX12_number_122_b11 n p1 p2 p3 μ) := by
  intro n
  induction n with
  | zero =>
    intros
    exact ao_none
  | succ n ih =>
    intro p1 p2 p3 μ
    rw [fX12_number_122_b11]
    refine ao_iload_n (pc := 11) X dX12_number_11 rfl ?_
    refine ao_iload_n (pc := 12) X dX12_number_12 rfl ?_
    refine ao_icmp_ge (pc := 13) (tgt := 57) X dX12_number_13 (by decide) (fun _ => ?_) (fun _ => ?_)
    · refine ao_iload_n (pc := 57) X dX12_number_57 rfl ?_
      exact ao_iret (pc := 58) X hr dX12_number_58
    · refine ao_aload_n (pc := 16) X dX12_number_16 rfl ?_
      refine ao_callVI (pc := 17) (As := []) (st := []) X hl0 dX12_number_17 yv_X12_fine so_122 ml_RX12_130 (mX12_fine_122 hI μ) (Nat.le_of_ble_eq_true rfl) rfl rfl (Nat.le_of_ble_eq_true rfl) (fun r3 m4 => ?_)
      refine ao_if_eq (pc := 20) (tgt := 57) X dX12_number_20 (by decide) (fun _ => ?_) (fun _ => ?_)
      · refine ao_iload_n (pc := 57) X dX12_number_57 rfl ?_
        exact ao_iret (pc := 58) X hr dX12_number_58
      · refine ao_aload_n (pc := 23) X dX12_number_23 rfl ?_
        refine ao_callVI (pc := 24) (As := []) (st := []) X hl0 dX12_number_24 yv_X12_here so_122 ml_RX12_134 (mX12_here_122 hI m4) (Nat.le_of_ble_eq_true rfl) rfl rfl (Nat.le_of_ble_eq_true rfl) (fun r5 m6 => ?_)
        refine ao_bipush (pc := 27) X dX12_number_27 bp_48 ?_
        refine ao_bipush (pc := 29) X dX12_number_29 bp_57 ?_
        refine ao_callSI (pc := 31) (As := [.int r5, .int (48 : Int32), .int (57 : Int32)]) (st := []) X hl0 dX12_number_31 yv_X12_in ml_RX12_104 (mX12_in hI r5 (48 : Int32) (57 : Int32) m6) (Nat.le_of_ble_eq_true rfl) rfl rfl (Nat.le_of_ble_eq_true rfl) (fun r7 m8 => ?_)
        refine ao_if_eq (pc := 34) (tgt := 57) X dX12_number_34 (by decide) (fun _ => ?_) (fun _ => ?_)
        · refine ao_iload_n (pc := 57) X dX12_number_57 rfl ?_
          exact ao_iret (pc := 58) X hr dX12_number_58
        · refine ao_bipush (pc := 37) X dX12_number_37 bp_10 ?_
          refine ao_iload_n (pc := 39) X dX12_number_39 rfl ?_
          refine ao_imul (pc := 40) X dX12_number_40 ?_
          refine ao_aload_n (pc := 41) X dX12_number_41 rfl ?_
          refine ao_bipush (pc := 42) X dX12_number_42 bp_48 ?_
          refine ao_bipush (pc := 44) X dX12_number_44 bp_10 ?_
          refine ao_callVI (pc := 46) (As := [.int (48 : Int32), .int (10 : Int32)]) (st := [.int ((10 : Int32) * p2)]) X hl0 dX12_number_46 yv_X12_oneOf so_122 ml_RX12_146 (mX12_oneOf_122 hI (48 : Int32) (10 : Int32) m8) (Nat.le_of_ble_eq_true rfl) rfl rfl (Nat.le_of_ble_eq_true rfl) (fun r9 m10 => ?_)
          refine ao_iadd (pc := 49) X dX12_number_49 ?_
          refine ao_ltI (fun x11 => ?_)
          refine ao_istore_n (pc := 50) (lv' := [(2, .int x11), (0, .ref (eAd E 122)), (1, .int p1), (3, .int p3)]) X dX12_number_50 rfl (by decide) rfl ?_
          refine ao_iinc (pc := 51) (k := 3) (v := p3 + (1 : Int32)) (lv' := [(3, .int (p3 + (1 : Int32))), (2, .int x11), (0, .ref (eAd E 122)), (1, .int p1)]) X dX12_number_51 rfl (ii_ic ic_1) (by decide) rfl ?_
          refine ao_goto (pc := 54) (tgt := 11) X dX12_number_54 (by decide) ?_
          refine ao_sub [2, 3, 1, 0] rfl ?_
          exact ih p1 x11 (p3 + (1 : Int32)) m10
def fX12_number_122 (v1 : Int32) (μ : Mem) : Option (Int32 × Mem) :=
  bnd (fX12_oneOf_122 (48 : Int32) (10 : Int32) μ) fun r1 m2 =>
  fX12_number_122_b11 FU v1 r1 (1 : Int32) m2
set_option maxRecDepth 100000 in
set_option maxHeartbeats 4000000 in
theorem mX12_number_122 {E : En} {l : Launch} (hI : Inj E) (v1 : Int32) (μ : Mem) : MtI E l yX12_number cX12_number 4 (some .int) 4 [.ref (eAd E 122), .int v1] μ (fX12_number_122 v1 μ) := by
  refine mtI_of (own := RX12) [(0, .ref (eAd E 122)), (1, .int v1)] hI rfl (by decide) (Nat.le_of_ble_eq_true rfl) (Nat.le_of_ble_eq_true rfl) rfl (fun Z hl0 X hr => ?_)
  unfold fX12_number_122
  refine ao_aload_n (pc := 0) X dX12_number_0 rfl ?_
  refine ao_bipush (pc := 1) X dX12_number_1 bp_48 ?_
  refine ao_bipush (pc := 3) X dX12_number_3 bp_10 ?_
  refine ao_callVI (pc := 5) (As := [.int (48 : Int32), .int (10 : Int32)]) (st := []) X hl0 dX12_number_5 yv_X12_oneOf so_122 ml_RX12_146 (mX12_oneOf_122 hI (48 : Int32) (10 : Int32) μ) (Nat.le_of_ble_eq_true rfl) rfl rfl (Nat.le_of_ble_eq_true rfl) (fun r1 m2 => ?_)
  refine ao_istore_n (pc := 8) (lv' := [(2, .int r1), (0, .ref (eAd E 122)), (1, .int v1)]) X dX12_number_8 rfl (by decide) rfl ?_
  refine ao_iconst (pc := 9) X dX12_number_9 ic_1 ?_
  refine ao_istore_n (pc := 10) (lv' := [(3, .int (1 : Int32)), (2, .int r1), (0, .ref (eAd E 122)), (1, .int v1)]) X dX12_number_10 rfl (by decide) rfl ?_
  refine ao_sub [2, 3, 1, 0] rfl ?_
  exact bX12_number_122_11 hI hl0 X hr FU v1 r1 (1 : Int32) m2
def fX12_readMan_122_b170 (k124 : Int32 → Int32 → Int32 → Mem → Option (Int32 × Mem)) (p1 : Int32) (p3 : Int32) (p4 : Int32) (μ : Mem) : Option (Int32 × Mem) :=
  bnd (fX12_fault_122 (gI μ 122 21) μ) fun r36 m37 =>
  k124 p1 p3 p4 m37
set_option maxRecDepth 100000 in
set_option maxHeartbeats 4000000 in
theorem bX12_readMan_122_170 {E : En} {l : Launch} {Z : Zt} (hI : Inj E) (hl0 : lZ l Z) (X : Cx E Z cX12_readMan RX12 6 5) (hr : rtOf Z = some .int) {k124 : Int32 → Int32 → Int32 → Mem → Option (Int32 × Mem)} (hk124 : ∀ (p1 : Int32) (p3 : Int32) (p4 : Int32) (m : Mem), AO E Z 6 (QI E Z) 124 [(0, .ref (eAd E 122)), (1, .int p1), (3, .int p3), (4, .int p4)] [] m (k124 p1 p3 p4 m)) (p1 : Int32) (p3 : Int32) (p4 : Int32) (μ : Mem) : AO E Z 6 (QI E Z) 170 [(0, .ref (eAd E 122)), (1, .int p1), (3, .int p3), (4, .int p4)] [] μ (fX12_readMan_122_b170 k124 p1 p3 p4 μ) := by
  unfold fX12_readMan_122_b170
  refine ao_aload_n (pc := 170) X dX12_readMan_170 rfl ?_
  refine ao_aload_n (pc := 171) X dX12_readMan_171 rfl ?_
  refine ao_getI (pc := 172) X dX12_readMan_172 fl_RX12_120 sf_122_21 ?_
  refine ao_callVV (pc := 175) (As := [.int (gI μ 122 21)]) (st := []) X hl0 dX12_readMan_175 yv_X12_fault so_122 ml_RX12_142 (mX12_fault_122 hI (gI μ 122 21) μ) (Nat.le_of_ble_eq_true rfl) rfl rfl (Nat.le_of_ble_eq_true rfl) (fun r36 m37 => ?_)
  refine ao_goto (pc := 178) (tgt := 217) X dX12_readMan_178 (by decide) ?_
  refine ao_goto (pc := 217) (tgt := 124) X dX12_readMan_217 (by decide) ?_
  refine ao_sub [0, 1, 2, 3] rfl ?_
  exact hk124 p1 p3 p4 m37
def fX12_readMan_122_b124 : Nat → Int32 → Int32 → Int32 → Mem → Option (Int32 × Mem)
  | 0, _, _, _, _ => none
  | n + 1, p1, p3, p4, μ =>
  bnd (fX12_fine_122 μ) fun r22 m23 =>
  if r22 = 0 then (some (p3, m23))
  else bnd (fX12_here_122 m23) fun r24 m25 =>
    bnd (fX12_in r24 (97 : Int32) (104 : Int32) m25) fun r26 m27 =>
    if r26 = 0 then (some (p3, m27))
    else bnd (fX12_here_122 m27) fun r28 m29 =>
      lt (r28 - (97 : Int32)) fun x30 =>
      if x30 ≤ p4 then (fX12_readMan_122_b170 (fun p1 p3 p4 m => fX12_readMan_122_b124 n p1 p3 p4 m) p1 p3 p4 m29)
      else bnd (fX12_has p3 x30 m29) fun r31 m32 =>
        if r31 = 0 then (lt (sI m32 122 21 ((gI m32 122 21) + (1 : Int32))) fun m33 =>
          gd (inb (p1 + (4 : Int32)) 40) (gd (inb (p1 + (4 : Int32)) 40) (lt (sI m33 135 (ix (p1 + (4 : Int32))) ((gI m33 135 (ix (p1 + (4 : Int32)))) ||| ((1 : Int32) <<< (x30 &&& 31)))) fun m34 =>
          lt (p3 ||| ((1 : Int32) <<< (x30 &&& 31))) fun x35 =>
          fX12_readMan_122_b124 n p1 x35 x30 m34)))
        else fX12_readMan_122_b170 (fun p1 p3 p4 m => fX12_readMan_122_b124 n p1 p3 p4 m) p1 p3 p4 m32
set_option maxRecDepth 100000 in
set_option maxHeartbeats 4000000 in
theorem bX12_readMan_122_124 {E : En} {l : Launch} {Z : Zt} (hI : Inj E) (hl0 : lZ l Z) (X : Cx E Z cX12_readMan RX12 6 5) (hr : rtOf Z = some .int) : ∀ (n : Nat) (p1 : Int32) (p3 : Int32) (p4 : Int32) (μ : Mem), AO E Z 6 (QI E Z) 124 [(0, .ref (eAd E 122)), (1, .int p1), (3, .int p3), (4, .int p4)] [] μ (fX12_readMan_122_b124 n p1 p3 p4 μ) := by
  intro n
  induction n with
  | zero =>
    intros
    exact ao_none
  | succ n ih =>
    intro p1 p3 p4 μ
    rw [fX12_readMan_122_b124]
    refine ao_aload_n (pc := 124) X dX12_readMan_124 rfl ?_
    refine ao_callVI (pc := 125) (As := []) (st := []) X hl0 dX12_readMan_125 yv_X12_fine so_122 ml_RX12_130 (mX12_fine_122 hI μ) (Nat.le_of_ble_eq_true rfl) rfl rfl (Nat.le_of_ble_eq_true rfl) (fun r22 m23 => ?_)
    refine ao_if_eq (pc := 128) (tgt := 220) X dX12_readMan_128 (by decide) (fun _ => ?_) (fun _ => ?_)
    · refine ao_iload_n (pc := 220) X dX12_readMan_220 rfl ?_
      exact ao_iret (pc := 221) X hr dX12_readMan_221
    · refine ao_aload_n (pc := 131) X dX12_readMan_131 rfl ?_
      refine ao_callVI (pc := 132) (As := []) (st := []) X hl0 dX12_readMan_132 yv_X12_here so_122 ml_RX12_134 (mX12_here_122 hI m23) (Nat.le_of_ble_eq_true rfl) rfl rfl (Nat.le_of_ble_eq_true rfl) (fun r24 m25 => ?_)
      refine ao_bipush (pc := 135) X dX12_readMan_135 bp_97 ?_
      refine ao_bipush (pc := 137) X dX12_readMan_137 bp_104 ?_
      refine ao_callSI (pc := 139) (As := [.int r24, .int (97 : Int32), .int (104 : Int32)]) (st := []) X hl0 dX12_readMan_139 yv_X12_in ml_RX12_104 (mX12_in hI r24 (97 : Int32) (104 : Int32) m25) (Nat.le_of_ble_eq_true rfl) rfl rfl (Nat.le_of_ble_eq_true rfl) (fun r26 m27 => ?_)
      refine ao_if_eq (pc := 142) (tgt := 220) X dX12_readMan_142 (by decide) (fun _ => ?_) (fun _ => ?_)
      · refine ao_iload_n (pc := 220) X dX12_readMan_220 rfl ?_
        exact ao_iret (pc := 221) X hr dX12_readMan_221
      · refine ao_aload_n (pc := 145) X dX12_readMan_145 rfl ?_
        refine ao_callVI (pc := 146) (As := []) (st := []) X hl0 dX12_readMan_146 yv_X12_here so_122 ml_RX12_134 (mX12_here_122 hI m27) (Nat.le_of_ble_eq_true rfl) rfl rfl (Nat.le_of_ble_eq_true rfl) (fun r28 m29 => ?_)
        refine ao_bipush (pc := 149) X dX12_readMan_149 bp_97 ?_
        refine ao_isub (pc := 151) X dX12_readMan_151 ?_
        refine ao_ltI (fun x30 => ?_)
        refine ao_istore (pc := 152) (lv' := [(5, .int x30), (0, .ref (eAd E 122)), (1, .int p1), (3, .int p3), (4, .int p4)]) X dX12_readMan_152 (by decide) rfl ?_
        refine ao_iload (pc := 154) X dX12_readMan_154 rfl ?_
        refine ao_iload (pc := 156) X dX12_readMan_156 rfl ?_
        refine ao_icmp_le (pc := 158) (tgt := 170) X dX12_readMan_158 (by decide) (fun _ => ?_) (fun _ => ?_)
        · refine ao_sub [1, 2, 3, 4] rfl ?_
          exact bX12_readMan_122_170 hI hl0 X hr ih p1 p3 p4 m29
        · refine ao_iload_n (pc := 161) X dX12_readMan_161 rfl ?_
          refine ao_iload (pc := 162) X dX12_readMan_162 rfl ?_
          refine ao_callSI (pc := 164) (As := [.int p3, .int x30]) (st := []) X hl0 dX12_readMan_164 yv_X12_has ml_RX12_158 (mX12_has hI p3 x30 m29) (Nat.le_of_ble_eq_true rfl) rfl rfl (Nat.le_of_ble_eq_true rfl) (fun r31 m32 => ?_)
          refine ao_if_eq (pc := 167) (tgt := 181) X dX12_readMan_167 (by decide) (fun _ => ?_) (fun _ => ?_)
          · refine ao_aload_n (pc := 181) X dX12_readMan_181 rfl ?_
            refine ao_dup (pc := 182) X dX12_readMan_182 rfl ?_
            refine ao_getI (pc := 183) X dX12_readMan_183 fl_RX12_120 sf_122_21 ?_
            refine ao_iconst (pc := 186) X dX12_readMan_186 ic_1 ?_
            refine ao_iadd (pc := 187) X dX12_readMan_187 ?_
            refine ao_putI (pc := 188) X dX12_readMan_188 fp_RX12_120 sf_122_21 ?_
            refine ao_lt (fun m33 => ?_)
            refine ao_aload_n (pc := 191) X dX12_readMan_191 rfl ?_
            refine ao_getR (pc := 192) X dX12_readMan_192 fl_RX12_53 sf_122_23 ?_
            refine ao_iload_n (pc := 195) X dX12_readMan_195 rfl ?_
            refine ao_iconst (pc := 196) X dX12_readMan_196 ic_4 ?_
            refine ao_iadd (pc := 197) X dX12_readMan_197 ?_
            refine ao_dup2 (pc := 198) X dX12_readMan_198 rfl rfl ?_
            refine ao_iald (pc := 199) X dX12_readMan_199 sa_135 ?_
            refine ao_iconst (pc := 200) X dX12_readMan_200 ic_1 ?_
            refine ao_iload (pc := 201) X dX12_readMan_201 rfl ?_
            refine ao_ishl (pc := 203) X dX12_readMan_203 ?_
            refine ao_ior (pc := 204) X dX12_readMan_204 ?_
            refine ao_iast (pc := 205) X dX12_readMan_205 sa_135 ?_
            refine ao_lt (fun m34 => ?_)
            refine ao_iload_n (pc := 206) X dX12_readMan_206 rfl ?_
            refine ao_iconst (pc := 207) X dX12_readMan_207 ic_1 ?_
            refine ao_iload (pc := 208) X dX12_readMan_208 rfl ?_
            refine ao_ishl (pc := 210) X dX12_readMan_210 ?_
            refine ao_ior (pc := 211) X dX12_readMan_211 ?_
            refine ao_ltI (fun x35 => ?_)
            refine ao_istore_n (pc := 212) (lv' := [(3, .int x35), (5, .int x30), (0, .ref (eAd E 122)), (1, .int p1), (4, .int p4)]) X dX12_readMan_212 rfl (by decide) rfl ?_
            refine ao_iload (pc := 213) X dX12_readMan_213 rfl ?_
            refine ao_istore (pc := 215) (lv' := [(4, .int x30), (3, .int x35), (5, .int x30), (0, .ref (eAd E 122)), (1, .int p1)]) X dX12_readMan_215 (by decide) rfl ?_
            refine ao_goto (pc := 217) (tgt := 124) X dX12_readMan_217 (by decide) ?_
            refine ao_sub [3, 4, 1, 0] rfl ?_
            exact ih p1 x35 x30 m34
          · refine ao_sub [1, 2, 3, 4] rfl ?_
            exact bX12_readMan_122_170 hI hl0 X hr ih p1 p3 p4 m32
def fX12_readMan_122_b97 (p1 : Int32) (p3 : Int32) (μ : Mem) : Option (Int32 × Mem) :=
  bnd (fX12_oneOf_122 (48 : Int32) (4 : Int32) μ) fun r18 m19 =>
  gd (inb (p1 + (3 : Int32)) 40) (lt (sI m19 135 (ix (p1 + (3 : Int32))) r18) fun m20 =>
  gd (inb (p1 + (4 : Int32)) 40) (lt (sI m20 135 (ix (p1 + (4 : Int32))) (0 : Int32)) fun m21 =>
  fX12_readMan_122_b124 FU p1 p3 (-1 : Int32) m21))
set_option maxRecDepth 100000 in
set_option maxHeartbeats 4000000 in
theorem bX12_readMan_122_97 {E : En} {l : Launch} {Z : Zt} (hI : Inj E) (hl0 : lZ l Z) (X : Cx E Z cX12_readMan RX12 6 5) (hr : rtOf Z = some .int) (p1 : Int32) (p3 : Int32) (μ : Mem) : AO E Z 6 (QI E Z) 97 [(0, .ref (eAd E 122)), (1, .int p1), (3, .int p3)] [] μ (fX12_readMan_122_b97 p1 p3 μ) := by
  unfold fX12_readMan_122_b97
  refine ao_aload_n (pc := 97) X dX12_readMan_97 rfl ?_
  refine ao_getR (pc := 98) X dX12_readMan_98 fl_RX12_53 sf_122_23 ?_
  refine ao_iload_n (pc := 101) X dX12_readMan_101 rfl ?_
  refine ao_iconst (pc := 102) X dX12_readMan_102 ic_3 ?_
  refine ao_iadd (pc := 103) X dX12_readMan_103 ?_
  refine ao_aload_n (pc := 104) X dX12_readMan_104 rfl ?_
  refine ao_bipush (pc := 105) X dX12_readMan_105 bp_48 ?_
  refine ao_iconst (pc := 107) X dX12_readMan_107 ic_4 ?_
  refine ao_callVI (pc := 108) (As := [.int (48 : Int32), .int (4 : Int32)]) (st := [.int (p1 + (3 : Int32)), .ref (eAd E 135)]) X hl0 dX12_readMan_108 yv_X12_oneOf so_122 ml_RX12_146 (mX12_oneOf_122 hI (48 : Int32) (4 : Int32) μ) (Nat.le_of_ble_eq_true rfl) rfl rfl (Nat.le_of_ble_eq_true rfl) (fun r18 m19 => ?_)
  refine ao_iast (pc := 111) X dX12_readMan_111 sa_135 ?_
  refine ao_lt (fun m20 => ?_)
  refine ao_aload_n (pc := 112) X dX12_readMan_112 rfl ?_
  refine ao_getR (pc := 113) X dX12_readMan_113 fl_RX12_53 sf_122_23 ?_
  refine ao_iload_n (pc := 116) X dX12_readMan_116 rfl ?_
  refine ao_iconst (pc := 117) X dX12_readMan_117 ic_4 ?_
  refine ao_iadd (pc := 118) X dX12_readMan_118 ?_
  refine ao_iconst (pc := 119) X dX12_readMan_119 ic_0 ?_
  refine ao_iast (pc := 120) X dX12_readMan_120 sa_135 ?_
  refine ao_lt (fun m21 => ?_)
  refine ao_iconst (pc := 121) X dX12_readMan_121 ic_m1 ?_
  refine ao_istore (pc := 122) (lv' := [(4, .int (-1 : Int32)), (0, .ref (eAd E 122)), (1, .int p1), (3, .int p3)]) X dX12_readMan_122 (by decide) rfl ?_
  refine ao_sub [1, 2, 3, 0] rfl ?_
  exact bX12_readMan_122_124 hI hl0 X hr FU p1 p3 (-1 : Int32) m21
def fX12_readMan_122_b79 (p1 : Int32) (p3 : Int32) (q0 : Int32) (q1 : Int32) (μ : Mem) : Option (Int32 × Mem) :=
  gd (inb q1 40) (lt (sI μ 135 (ix q1) q0) fun m15 =>
  gd (inb (p1 + (2 : Int32)) 40) (if (gI m15 135 (ix (p1 + (2 : Int32)))) = 0 then (bnd (fX12_need_122 (43 : Int32) m15) fun r16 m17 =>
    fX12_readMan_122_b97 p1 p3 m17)
  else fX12_readMan_122_b97 p1 p3 m15))
set_option maxRecDepth 100000 in
set_option maxHeartbeats 4000000 in
theorem bX12_readMan_122_79 {E : En} {l : Launch} {Z : Zt} (hI : Inj E) (hl0 : lZ l Z) (X : Cx E Z cX12_readMan RX12 6 5) (hr : rtOf Z = some .int) (p1 : Int32) (p3 : Int32) (q0 : Int32) (q1 : Int32) (μ : Mem) : AO E Z 6 (QI E Z) 79 [(0, .ref (eAd E 122)), (1, .int p1), (3, .int p3)] [.int q0, .int q1, .ref (eAd E 135)] μ (fX12_readMan_122_b79 p1 p3 q0 q1 μ) := by
  unfold fX12_readMan_122_b79
  refine ao_iast (pc := 79) X dX12_readMan_79 sa_135 ?_
  refine ao_lt (fun m15 => ?_)
  refine ao_aload_n (pc := 80) X dX12_readMan_80 rfl ?_
  refine ao_getR (pc := 81) X dX12_readMan_81 fl_RX12_53 sf_122_23 ?_
  refine ao_iload_n (pc := 84) X dX12_readMan_84 rfl ?_
  refine ao_iconst (pc := 85) X dX12_readMan_85 ic_2 ?_
  refine ao_iadd (pc := 86) X dX12_readMan_86 ?_
  refine ao_iald (pc := 87) X dX12_readMan_87 sa_135 ?_
  refine ao_if_ne (pc := 88) (tgt := 97) X dX12_readMan_88 (by decide) (fun _ => ?_) (fun _ => ?_)
  · refine ao_sub [0, 1, 2] rfl ?_
    exact bX12_readMan_122_97 hI hl0 X hr p1 p3 m15
  · refine ao_aload_n (pc := 91) X dX12_readMan_91 rfl ?_
    refine ao_bipush (pc := 92) X dX12_readMan_92 bp_43 ?_
    refine ao_callVV (pc := 94) (As := [.int (43 : Int32)]) (st := []) X hl0 dX12_readMan_94 yv_X12_need so_122 ml_RX12_154 (mX12_need_122 hI (43 : Int32) m15) (Nat.le_of_ble_eq_true rfl) rfl rfl (Nat.le_of_ble_eq_true rfl) (fun r16 m17 => ?_)
    refine ao_sub [0, 1, 2] rfl ?_
    exact bX12_readMan_122_97 hI hl0 X hr p1 p3 m17
def fX12_readMan_122_b39 (p1 : Int32) (p3 : Int32) (μ : Mem) : Option (Int32 × Mem) :=
  bnd (fX12_need_122 (44 : Int32) μ) fun r8 m9 =>
  bnd (fX12_number_122 (2 : Int32) m9) fun r10 m11 =>
  gd (inb (p1 + (1 : Int32)) 40) (lt (sI m11 135 (ix (p1 + (1 : Int32))) r10) fun m12 =>
  bnd (fX12_passes_122 (45 : Int32) m12) fun r13 m14 =>
  if r13 = 0 then (fX12_readMan_122_b79 p1 p3 (0 : Int32) (p1 + (2 : Int32)) m14)
  else fX12_readMan_122_b79 p1 p3 (1 : Int32) (p1 + (2 : Int32)) m14)
set_option maxRecDepth 100000 in
set_option maxHeartbeats 4000000 in
theorem bX12_readMan_122_39 {E : En} {l : Launch} {Z : Zt} (hI : Inj E) (hl0 : lZ l Z) (X : Cx E Z cX12_readMan RX12 6 5) (hr : rtOf Z = some .int) (p1 : Int32) (p3 : Int32) (μ : Mem) : AO E Z 6 (QI E Z) 39 [(0, .ref (eAd E 122)), (1, .int p1), (3, .int p3)] [] μ (fX12_readMan_122_b39 p1 p3 μ) := by
  unfold fX12_readMan_122_b39
  refine ao_aload_n (pc := 39) X dX12_readMan_39 rfl ?_
  refine ao_bipush (pc := 40) X dX12_readMan_40 bp_44 ?_
  refine ao_callVV (pc := 42) (As := [.int (44 : Int32)]) (st := []) X hl0 dX12_readMan_42 yv_X12_need so_122 ml_RX12_154 (mX12_need_122 hI (44 : Int32) μ) (Nat.le_of_ble_eq_true rfl) rfl rfl (Nat.le_of_ble_eq_true rfl) (fun r8 m9 => ?_)
  refine ao_aload_n (pc := 45) X dX12_readMan_45 rfl ?_
  refine ao_getR (pc := 46) X dX12_readMan_46 fl_RX12_53 sf_122_23 ?_
  refine ao_iload_n (pc := 49) X dX12_readMan_49 rfl ?_
  refine ao_iconst (pc := 50) X dX12_readMan_50 ic_1 ?_
  refine ao_iadd (pc := 51) X dX12_readMan_51 ?_
  refine ao_aload_n (pc := 52) X dX12_readMan_52 rfl ?_
  refine ao_iconst (pc := 53) X dX12_readMan_53 ic_2 ?_
  refine ao_callVI (pc := 54) (As := [.int (2 : Int32)]) (st := [.int (p1 + (1 : Int32)), .ref (eAd E 135)]) X hl0 dX12_readMan_54 yv_X12_number so_122 ml_RX12_150 (mX12_number_122 hI (2 : Int32) m9) (Nat.le_of_ble_eq_true rfl) rfl rfl (Nat.le_of_ble_eq_true rfl) (fun r10 m11 => ?_)
  refine ao_iast (pc := 57) X dX12_readMan_57 sa_135 ?_
  refine ao_lt (fun m12 => ?_)
  refine ao_aload_n (pc := 58) X dX12_readMan_58 rfl ?_
  refine ao_getR (pc := 59) X dX12_readMan_59 fl_RX12_53 sf_122_23 ?_
  refine ao_iload_n (pc := 62) X dX12_readMan_62 rfl ?_
  refine ao_iconst (pc := 63) X dX12_readMan_63 ic_2 ?_
  refine ao_iadd (pc := 64) X dX12_readMan_64 ?_
  refine ao_aload_n (pc := 65) X dX12_readMan_65 rfl ?_
  refine ao_bipush (pc := 66) X dX12_readMan_66 bp_45 ?_
  refine ao_callVI (pc := 68) (As := [.int (45 : Int32)]) (st := [.int (p1 + (2 : Int32)), .ref (eAd E 135)]) X hl0 dX12_readMan_68 yv_X12_passes so_122 ml_RX12_138 (mX12_passes_122 hI (45 : Int32) m12) (Nat.le_of_ble_eq_true rfl) rfl rfl (Nat.le_of_ble_eq_true rfl) (fun r13 m14 => ?_)
  refine ao_if_eq (pc := 71) (tgt := 78) X dX12_readMan_71 (by decide) (fun _ => ?_) (fun _ => ?_)
  · refine ao_iconst (pc := 78) X dX12_readMan_78 ic_0 ?_
    refine ao_sub [0, 1, 2] rfl ?_
    exact bX12_readMan_122_79 hI hl0 X hr p1 p3 (0 : Int32) (p1 + (2 : Int32)) m14
  · refine ao_iconst (pc := 74) X dX12_readMan_74 ic_1 ?_
    refine ao_goto (pc := 75) (tgt := 79) X dX12_readMan_75 (by decide) ?_
    refine ao_sub [0, 1, 2] rfl ?_
    exact bX12_readMan_122_79 hI hl0 X hr p1 p3 (1 : Int32) (p1 + (2 : Int32)) m14
def fX12_readMan_122 (v1 : Int32) (v2 : Int32) (μ : Mem) : Option (Int32 × Mem) :=
  bnd (fX12_number_122 (2 : Int32) μ) fun r1 m2 =>
  gd (inb v1 40) (lt (sI m2 135 (ix v1) r1) fun m3 =>
  bnd (fX12_fine_122 m3) fun r4 m5 =>
  if r4 = 0 then (fX12_readMan_122_b39 v1 v2 m5)
  else gd (inb v1 40) (if (gI m5 135 (ix v1)) = 0 then (bnd (fX12_fault_122 ((gI m5 122 21) - (1 : Int32)) m5) fun r6 m7 =>
      fX12_readMan_122_b39 v1 v2 m7)
    else fX12_readMan_122_b39 v1 v2 m5))
set_option maxRecDepth 100000 in
set_option maxHeartbeats 4000000 in
theorem mX12_readMan_122 {E : En} {l : Launch} (hI : Inj E) (v1 : Int32) (v2 : Int32) (μ : Mem) : MtI E l yX12_readMan cX12_readMan 6 (some .int) 5 [.ref (eAd E 122), .int v1, .int v2] μ (fX12_readMan_122 v1 v2 μ) := by
  refine mtI_of (own := RX12) [(0, .ref (eAd E 122)), (1, .int v1), (2, .int v2)] hI rfl (by decide) (Nat.le_of_ble_eq_true rfl) (Nat.le_of_ble_eq_true rfl) rfl (fun Z hl0 X hr => ?_)
  unfold fX12_readMan_122
  refine ao_iload_n (pc := 0) X dX12_readMan_0 rfl ?_
  refine ao_istore_n (pc := 1) (lv' := [(3, .int v2), (0, .ref (eAd E 122)), (1, .int v1), (2, .int v2)]) X dX12_readMan_1 rfl (by decide) rfl ?_
  refine ao_aload_n (pc := 2) X dX12_readMan_2 rfl ?_
  refine ao_getR (pc := 3) X dX12_readMan_3 fl_RX12_53 sf_122_23 ?_
  refine ao_iload_n (pc := 6) X dX12_readMan_6 rfl ?_
  refine ao_aload_n (pc := 7) X dX12_readMan_7 rfl ?_
  refine ao_iconst (pc := 8) X dX12_readMan_8 ic_2 ?_
  refine ao_callVI (pc := 9) (As := [.int (2 : Int32)]) (st := [.int v1, .ref (eAd E 135)]) X hl0 dX12_readMan_9 yv_X12_number so_122 ml_RX12_150 (mX12_number_122 hI (2 : Int32) μ) (Nat.le_of_ble_eq_true rfl) rfl rfl (Nat.le_of_ble_eq_true rfl) (fun r1 m2 => ?_)
  refine ao_iast (pc := 12) X dX12_readMan_12 sa_135 ?_
  refine ao_lt (fun m3 => ?_)
  refine ao_aload_n (pc := 13) X dX12_readMan_13 rfl ?_
  refine ao_callVI (pc := 14) (As := []) (st := []) X hl0 dX12_readMan_14 yv_X12_fine so_122 ml_RX12_130 (mX12_fine_122 hI m3) (Nat.le_of_ble_eq_true rfl) rfl rfl (Nat.le_of_ble_eq_true rfl) (fun r4 m5 => ?_)
  refine ao_if_eq (pc := 17) (tgt := 39) X dX12_readMan_17 (by decide) (fun _ => ?_) (fun _ => ?_)
  · refine ao_sub [1, 2, 0] rfl ?_
    exact bX12_readMan_122_39 hI hl0 X hr v1 v2 m5
  · refine ao_aload_n (pc := 20) X dX12_readMan_20 rfl ?_
    refine ao_getR (pc := 21) X dX12_readMan_21 fl_RX12_53 sf_122_23 ?_
    refine ao_iload_n (pc := 24) X dX12_readMan_24 rfl ?_
    refine ao_iald (pc := 25) X dX12_readMan_25 sa_135 ?_
    refine ao_if_ne (pc := 26) (tgt := 39) X dX12_readMan_26 (by decide) (fun _ => ?_) (fun _ => ?_)
    · refine ao_sub [1, 2, 0] rfl ?_
      exact bX12_readMan_122_39 hI hl0 X hr v1 v2 m5
    · refine ao_aload_n (pc := 29) X dX12_readMan_29 rfl ?_
      refine ao_aload_n (pc := 30) X dX12_readMan_30 rfl ?_
      refine ao_getI (pc := 31) X dX12_readMan_31 fl_RX12_120 sf_122_21 ?_
      refine ao_iconst (pc := 34) X dX12_readMan_34 ic_1 ?_
      refine ao_isub (pc := 35) X dX12_readMan_35 ?_
      refine ao_callVV (pc := 36) (As := [.int ((gI m5 122 21) - (1 : Int32))]) (st := []) X hl0 dX12_readMan_36 yv_X12_fault so_122 ml_RX12_142 (mX12_fault_122 hI ((gI m5 122 21) - (1 : Int32)) m5) (Nat.le_of_ble_eq_true rfl) rfl rfl (Nat.le_of_ble_eq_true rfl) (fun r6 m7 => ?_)
      refine ao_sub [1, 2, 0] rfl ?_
      exact bX12_readMan_122_39 hI hl0 X hr v1 v2 m7
def fX12_wasRight_122_b19 (μ : Mem) : Option (Int32 × Mem) :=
  bnd (fX12_fine_122 μ) fun r3 m4 =>
  gd (isZ r3) (some (r3, m4))
set_option maxRecDepth 100000 in
set_option maxHeartbeats 4000000 in
theorem bX12_wasRight_122_19 {E : En} {l : Launch} {Z : Zt} (hI : Inj E) (hl0 : lZ l Z) (X : Cx E Z cX12_wasRight RX12 1 3) (hr : rtOf Z = some .boolean) (μ : Mem) : AO E Z 1 (QI E Z) 19 [(0, .ref (eAd E 122))] [] μ (fX12_wasRight_122_b19 μ) := by
  unfold fX12_wasRight_122_b19
  refine ao_aload_n (pc := 19) X dX12_wasRight_19 rfl ?_
  refine ao_callVI (pc := 20) (As := []) (st := []) X hl0 dX12_wasRight_20 yv_X12_fine so_122 ml_RX12_130 (mX12_fine_122 hI μ) (Nat.le_of_ble_eq_true rfl) rfl rfl (Nat.le_of_ble_eq_true rfl) (fun r3 m4 => ?_)
  exact ao_zretG (pc := 23) X hr dX12_wasRight_23
def fX12_wasRight_122 (μ : Mem) : Option (Int32 × Mem) :=
  if (gI μ 122 19) ≤ (gI μ 122 21) then (fX12_wasRight_122_b19 μ)
  else bnd (fX12_fault_122 (gI μ 122 21) μ) fun r1 m2 =>
    fX12_wasRight_122_b19 m2
set_option maxRecDepth 100000 in
set_option maxHeartbeats 4000000 in
theorem mX12_wasRight_122 {E : En} {l : Launch} (hI : Inj E) (μ : Mem) : MtI E l yX12_wasRight cX12_wasRight 1 (some .boolean) 3 [.ref (eAd E 122)] μ (fX12_wasRight_122 μ) := by
  refine mtI_of (own := RX12) [(0, .ref (eAd E 122))] hI rfl (by decide) (Nat.le_of_ble_eq_true rfl) (Nat.le_of_ble_eq_true rfl) rfl (fun Z hl0 X hr => ?_)
  unfold fX12_wasRight_122
  refine ao_aload_n (pc := 0) X dX12_wasRight_0 rfl ?_
  refine ao_getI (pc := 1) X dX12_wasRight_1 fl_RX12_120 sf_122_21 ?_
  refine ao_aload_n (pc := 4) X dX12_wasRight_4 rfl ?_
  refine ao_getI (pc := 5) X dX12_wasRight_5 fl_RX12_114 sf_122_19 ?_
  refine ao_icmp_ge (pc := 8) (tgt := 19) X dX12_wasRight_8 (by decide) (fun _ => ?_) (fun _ => ?_)
  · refine ao_sub [0] rfl ?_
    exact bX12_wasRight_122_19 hI hl0 X hr μ
  · refine ao_aload_n (pc := 11) X dX12_wasRight_11 rfl ?_
    refine ao_aload_n (pc := 12) X dX12_wasRight_12 rfl ?_
    refine ao_getI (pc := 13) X dX12_wasRight_13 fl_RX12_120 sf_122_21 ?_
    refine ao_callVV (pc := 16) (As := [.int (gI μ 122 21)]) (st := []) X hl0 dX12_wasRight_16 yv_X12_fault so_122 ml_RX12_142 (mX12_fault_122 hI (gI μ 122 21) μ) (Nat.le_of_ble_eq_true rfl) rfl rfl (Nat.le_of_ble_eq_true rfl) (fun r1 m2 => ?_)
    refine ao_sub [0] rfl ?_
    exact bX12_wasRight_122_19 hI hl0 X hr m2
def fX12_prisoners_122_b173 (k101 : Int32 → Int32 → Mem → Option (Int32 × Mem)) (p1 : Int32) (p4 : Int32) (q0 : Int32) (q1 : Int32) (μ : Mem) : Option (Int32 × Mem) :=
  gd (inb q1 6) (lt (sI μ 126 (ix q1) (vp_nar .boolean q0)) fun m21 =>
  gd (inb (((5 : Int32) * p4) + (3 : Int32)) 40) (gd (inb (gI m21 122 1) 6) (lt (sI m21 127 (ix (gI m21 122 1)) (gI m21 135 (ix (((5 : Int32) * p4) + (3 : Int32))))) fun m22 =>
  gd (inb (((5 : Int32) * p4) + (4 : Int32)) 40) (gd (inb (gI m22 122 1) 6) (lt (sI m22 128 (ix (gI m22 122 1)) (gI m22 135 (ix (((5 : Int32) * p4) + (4 : Int32))))) fun m23 =>
  gd (inb (gI m23 122 1) 27) (lt (sI m23 123 (ix (gI m23 122 1)) (0 : Int32)) fun m24 =>
  gd (inb ((6 : Int32) + (gI m24 122 1)) 27) (lt (sI m24 123 (ix ((6 : Int32) + (gI m24 122 1))) (0 : Int32)) fun m25 =>
  gd (inb ((12 : Int32) + (gI m25 122 1)) 27) (lt (sI m25 123 (ix ((12 : Int32) + (gI m25 122 1))) (0 : Int32)) fun m26 =>
  lt (sI m26 122 1 ((gI m26 122 1) + (1 : Int32))) fun m27 =>
  k101 p1 (p4 + (1 : Int32)) m27))))))))
set_option maxRecDepth 100000 in
set_option maxHeartbeats 4000000 in
theorem bX12_prisoners_122_173 {E : En} {l : Launch} {Z : Zt} (hI : Inj E) (hl0 : lZ l Z) (X : Cx E Z cX12_prisoners RX12 5 6) (hr : rtOf Z = some .int) {k101 : Int32 → Int32 → Mem → Option (Int32 × Mem)} (hk101 : ∀ (p1 : Int32) (p4 : Int32) (m : Mem), AO E Z 5 (QI E Z) 101 [(0, .ref (eAd E 122)), (1, .int p1), (4, .int p4)] [] m (k101 p1 p4 m)) (p1 : Int32) (p4 : Int32) (q0 : Int32) (q1 : Int32) (μ : Mem) : AO E Z 5 (QI E Z) 173 [(0, .ref (eAd E 122)), (1, .int p1), (4, .int p4)] [.int q0, .int q1, .ref (eAd E 126)] μ (fX12_prisoners_122_b173 k101 p1 p4 q0 q1 μ) := by
  unfold fX12_prisoners_122_b173
  refine ao_zast (pc := 173) X dX12_prisoners_173 sa_126 ?_
  refine ao_lt (fun m21 => ?_)
  refine ao_aload_n (pc := 174) X dX12_prisoners_174 rfl ?_
  refine ao_getR (pc := 175) X dX12_prisoners_175 fl_RX12_23 sf_122_5 ?_
  refine ao_aload_n (pc := 178) X dX12_prisoners_178 rfl ?_
  refine ao_getI (pc := 179) X dX12_prisoners_179 fl_RX12_101 sf_122_1 ?_
  refine ao_aload_n (pc := 182) X dX12_prisoners_182 rfl ?_
  refine ao_getR (pc := 183) X dX12_prisoners_183 fl_RX12_53 sf_122_23 ?_
  refine ao_iconst (pc := 186) X dX12_prisoners_186 ic_5 ?_
  refine ao_iload (pc := 187) X dX12_prisoners_187 rfl ?_
  refine ao_imul (pc := 189) X dX12_prisoners_189 ?_
  refine ao_iconst (pc := 190) X dX12_prisoners_190 ic_3 ?_
  refine ao_iadd (pc := 191) X dX12_prisoners_191 ?_
  refine ao_iald (pc := 192) X dX12_prisoners_192 sa_135 ?_
  refine ao_iast (pc := 193) X dX12_prisoners_193 sa_127 ?_
  refine ao_lt (fun m22 => ?_)
  refine ao_aload_n (pc := 194) X dX12_prisoners_194 rfl ?_
  refine ao_getR (pc := 195) X dX12_prisoners_195 fl_RX12_26 sf_122_6 ?_
  refine ao_aload_n (pc := 198) X dX12_prisoners_198 rfl ?_
  refine ao_getI (pc := 199) X dX12_prisoners_199 fl_RX12_101 sf_122_1 ?_
  refine ao_aload_n (pc := 202) X dX12_prisoners_202 rfl ?_
  refine ao_getR (pc := 203) X dX12_prisoners_203 fl_RX12_53 sf_122_23 ?_
  refine ao_iconst (pc := 206) X dX12_prisoners_206 ic_5 ?_
  refine ao_iload (pc := 207) X dX12_prisoners_207 rfl ?_
  refine ao_imul (pc := 209) X dX12_prisoners_209 ?_
  refine ao_iconst (pc := 210) X dX12_prisoners_210 ic_4 ?_
  refine ao_iadd (pc := 211) X dX12_prisoners_211 ?_
  refine ao_iald (pc := 212) X dX12_prisoners_212 sa_135 ?_
  refine ao_iast (pc := 213) X dX12_prisoners_213 sa_128 ?_
  refine ao_lt (fun m23 => ?_)
  refine ao_aload_n (pc := 214) X dX12_prisoners_214 rfl ?_
  refine ao_getR (pc := 215) X dX12_prisoners_215 fl_RX12_9 sf_122_0 ?_
  refine ao_aload_n (pc := 218) X dX12_prisoners_218 rfl ?_
  refine ao_getI (pc := 219) X dX12_prisoners_219 fl_RX12_101 sf_122_1 ?_
  refine ao_iconst (pc := 222) X dX12_prisoners_222 ic_0 ?_
  refine ao_iast (pc := 223) X dX12_prisoners_223 sa_123 ?_
  refine ao_lt (fun m24 => ?_)
  refine ao_aload_n (pc := 224) X dX12_prisoners_224 rfl ?_
  refine ao_getR (pc := 225) X dX12_prisoners_225 fl_RX12_9 sf_122_0 ?_
  refine ao_bipush (pc := 228) X dX12_prisoners_228 bp_6 ?_
  refine ao_aload_n (pc := 230) X dX12_prisoners_230 rfl ?_
  refine ao_getI (pc := 231) X dX12_prisoners_231 fl_RX12_101 sf_122_1 ?_
  refine ao_iadd (pc := 234) X dX12_prisoners_234 ?_
  refine ao_iconst (pc := 235) X dX12_prisoners_235 ic_0 ?_
  refine ao_iast (pc := 236) X dX12_prisoners_236 sa_123 ?_
  refine ao_lt (fun m25 => ?_)
  refine ao_aload_n (pc := 237) X dX12_prisoners_237 rfl ?_
  refine ao_getR (pc := 238) X dX12_prisoners_238 fl_RX12_9 sf_122_0 ?_
  refine ao_bipush (pc := 241) X dX12_prisoners_241 bp_12 ?_
  refine ao_aload_n (pc := 243) X dX12_prisoners_243 rfl ?_
  refine ao_getI (pc := 244) X dX12_prisoners_244 fl_RX12_101 sf_122_1 ?_
  refine ao_iadd (pc := 247) X dX12_prisoners_247 ?_
  refine ao_iconst (pc := 248) X dX12_prisoners_248 ic_0 ?_
  refine ao_iast (pc := 249) X dX12_prisoners_249 sa_123 ?_
  refine ao_lt (fun m26 => ?_)
  refine ao_aload_n (pc := 250) X dX12_prisoners_250 rfl ?_
  refine ao_dup (pc := 251) X dX12_prisoners_251 rfl ?_
  refine ao_getI (pc := 252) X dX12_prisoners_252 fl_RX12_101 sf_122_1 ?_
  refine ao_iconst (pc := 255) X dX12_prisoners_255 ic_1 ?_
  refine ao_iadd (pc := 256) X dX12_prisoners_256 ?_
  refine ao_putI (pc := 257) X dX12_prisoners_257 fp_RX12_101 sf_122_1 ?_
  refine ao_lt (fun m27 => ?_)
  refine ao_iinc (pc := 260) (k := 2) (v := p4 + (1 : Int32)) (lv' := [(4, .int (p4 + (1 : Int32))), (0, .ref (eAd E 122)), (1, .int p1)]) X dX12_prisoners_260 rfl (ii_ic ic_1) (by decide) rfl ?_
  refine ao_goto (pc := 263) (tgt := 101) X dX12_prisoners_263 (by decide) ?_
  refine ao_sub [1, 2, 0] rfl ?_
  exact hk101 p1 (p4 + (1 : Int32)) m27
def fX12_prisoners_122_b101 : Nat → Int32 → Int32 → Mem → Option (Int32 × Mem)
  | 0, _, _, _ => none
  | n + 1, p1, p4, μ =>
  if p1 ≤ p4 then (lt (sI μ 122 29 (0 : Int32)) fun m17 =>
    lt (sI m17 122 41 ((gI m17 122 41) + (1 : Int32))) fun m18 =>
    some (p1, m18))
  else gd (inb ((5 : Int32) * p4) 40) (gd (inb (gI μ 122 1) 6) (lt (sI μ 124 (ix (gI μ 122 1)) (gI μ 135 (ix ((5 : Int32) * p4)))) fun m19 =>
    gd (inb (((5 : Int32) * p4) + (1 : Int32)) 40) (gd (inb (gI m19 122 1) 6) (lt (sI m19 125 (ix (gI m19 122 1)) (gI m19 135 (ix (((5 : Int32) * p4) + (1 : Int32))))) fun m20 =>
    gd (inb (((5 : Int32) * p4) + (2 : Int32)) 40) (if (gI m20 135 (ix (((5 : Int32) * p4) + (2 : Int32)))) = (1 : Int32) then (fX12_prisoners_122_b173 (fun p1 p4 m => fX12_prisoners_122_b101 n p1 p4 m) p1 p4 (1 : Int32) (gI m20 122 1) m20)
    else fX12_prisoners_122_b173 (fun p1 p4 m => fX12_prisoners_122_b101 n p1 p4 m) p1 p4 (0 : Int32) (gI m20 122 1) m20)))))
set_option maxRecDepth 100000 in
set_option maxHeartbeats 4000000 in
theorem bX12_prisoners_122_101 {E : En} {l : Launch} {Z : Zt} (hI : Inj E) (hl0 : lZ l Z) (X : Cx E Z cX12_prisoners RX12 5 6) (hr : rtOf Z = some .int) : ∀ (n : Nat) (p1 : Int32) (p4 : Int32) (μ : Mem), AO E Z 5 (QI E Z) 101 [(0, .ref (eAd E 122)), (1, .int p1), (4, .int p4)] [] μ (fX12_prisoners_122_b101 n p1 p4 μ) := by
  intro n
  induction n with
  | zero =>
    intros
    exact ao_none
  | succ n ih =>
    intro p1 p4 μ
    rw [fX12_prisoners_122_b101]
    refine ao_iload (pc := 101) X dX12_prisoners_101 rfl ?_
    refine ao_iload_n (pc := 103) X dX12_prisoners_103 rfl ?_
    refine ao_icmp_ge (pc := 104) (tgt := 266) X dX12_prisoners_104 (by decide) (fun _ => ?_) (fun _ => ?_)
    · refine ao_aload_n (pc := 266) X dX12_prisoners_266 rfl ?_
      refine ao_iconst (pc := 267) X dX12_prisoners_267 ic_0 ?_
      refine ao_putI (pc := 268) X dX12_prisoners_268 fp_RX12_175 sf_122_29 ?_
      refine ao_lt (fun m17 => ?_)
      refine ao_aload_n (pc := 271) X dX12_prisoners_271 rfl ?_
      refine ao_dup (pc := 272) X dX12_prisoners_272 rfl ?_
      refine ao_getI (pc := 273) X dX12_prisoners_273 fl_RX12_178 sf_122_41 ?_
      refine ao_iconst (pc := 276) X dX12_prisoners_276 ic_1 ?_
      refine ao_iadd (pc := 277) X dX12_prisoners_277 ?_
      refine ao_putI (pc := 278) X dX12_prisoners_278 fp_RX12_178 sf_122_41 ?_
      refine ao_lt (fun m18 => ?_)
      refine ao_iload_n (pc := 281) X dX12_prisoners_281 rfl ?_
      exact ao_iret (pc := 282) X hr dX12_prisoners_282
    · refine ao_aload_n (pc := 107) X dX12_prisoners_107 rfl ?_
      refine ao_getR (pc := 108) X dX12_prisoners_108 fl_RX12_13 sf_122_2 ?_
      refine ao_aload_n (pc := 111) X dX12_prisoners_111 rfl ?_
      refine ao_getI (pc := 112) X dX12_prisoners_112 fl_RX12_101 sf_122_1 ?_
      refine ao_aload_n (pc := 115) X dX12_prisoners_115 rfl ?_
      refine ao_getR (pc := 116) X dX12_prisoners_116 fl_RX12_53 sf_122_23 ?_
      refine ao_iconst (pc := 119) X dX12_prisoners_119 ic_5 ?_
      refine ao_iload (pc := 120) X dX12_prisoners_120 rfl ?_
      refine ao_imul (pc := 122) X dX12_prisoners_122 ?_
      refine ao_iald (pc := 123) X dX12_prisoners_123 sa_135 ?_
      refine ao_iast (pc := 124) X dX12_prisoners_124 sa_124 ?_
      refine ao_lt (fun m19 => ?_)
      refine ao_aload_n (pc := 125) X dX12_prisoners_125 rfl ?_
      refine ao_getR (pc := 126) X dX12_prisoners_126 fl_RX12_16 sf_122_3 ?_
      refine ao_aload_n (pc := 129) X dX12_prisoners_129 rfl ?_
      refine ao_getI (pc := 130) X dX12_prisoners_130 fl_RX12_101 sf_122_1 ?_
      refine ao_aload_n (pc := 133) X dX12_prisoners_133 rfl ?_
      refine ao_getR (pc := 134) X dX12_prisoners_134 fl_RX12_53 sf_122_23 ?_
      refine ao_iconst (pc := 137) X dX12_prisoners_137 ic_5 ?_
      refine ao_iload (pc := 138) X dX12_prisoners_138 rfl ?_
      refine ao_imul (pc := 140) X dX12_prisoners_140 ?_
      refine ao_iconst (pc := 141) X dX12_prisoners_141 ic_1 ?_
      refine ao_iadd (pc := 142) X dX12_prisoners_142 ?_
      refine ao_iald (pc := 143) X dX12_prisoners_143 sa_135 ?_
      refine ao_iast (pc := 144) X dX12_prisoners_144 sa_125 ?_
      refine ao_lt (fun m20 => ?_)
      refine ao_aload_n (pc := 145) X dX12_prisoners_145 rfl ?_
      refine ao_getR (pc := 146) X dX12_prisoners_146 fl_RX12_19 sf_122_4 ?_
      refine ao_aload_n (pc := 149) X dX12_prisoners_149 rfl ?_
      refine ao_getI (pc := 150) X dX12_prisoners_150 fl_RX12_101 sf_122_1 ?_
      refine ao_aload_n (pc := 153) X dX12_prisoners_153 rfl ?_
      refine ao_getR (pc := 154) X dX12_prisoners_154 fl_RX12_53 sf_122_23 ?_
      refine ao_iconst (pc := 157) X dX12_prisoners_157 ic_5 ?_
      refine ao_iload (pc := 158) X dX12_prisoners_158 rfl ?_
      refine ao_imul (pc := 160) X dX12_prisoners_160 ?_
      refine ao_iconst (pc := 161) X dX12_prisoners_161 ic_2 ?_
      refine ao_iadd (pc := 162) X dX12_prisoners_162 ?_
      refine ao_iald (pc := 163) X dX12_prisoners_163 sa_135 ?_
      refine ao_iconst (pc := 164) X dX12_prisoners_164 ic_1 ?_
      refine ao_icmp_ne (pc := 165) (tgt := 172) X dX12_prisoners_165 (by decide) (fun _ => ?_) (fun _ => ?_)
      · refine ao_iconst (pc := 172) X dX12_prisoners_172 ic_0 ?_
        refine ao_sub [0, 1, 2] rfl ?_
        exact bX12_prisoners_122_173 hI hl0 X hr ih p1 p4 (0 : Int32) (gI m20 122 1) m20
      · refine ao_iconst (pc := 168) X dX12_prisoners_168 ic_1 ?_
        refine ao_goto (pc := 169) (tgt := 173) X dX12_prisoners_169 (by decide) ?_
        refine ao_sub [0, 1, 2] rfl ?_
        exact bX12_prisoners_122_173 hI hl0 X hr ih p1 p4 (1 : Int32) (gI m20 122 1) m20
def fX12_prisoners_122_b84 (p1 : Int32) (μ : Mem) : Option (Int32 × Mem) :=
  bnd (fX12_wasRight_122 μ) fun r12 m13 =>
  if r12 = 0 then (some (((-1 : Int32) - (gI m13 122 22)), m13))
  else fX12_prisoners_122_b101 FU p1 (0 : Int32) m13
set_option maxRecDepth 100000 in
set_option maxHeartbeats 4000000 in
theorem bX12_prisoners_122_84 {E : En} {l : Launch} {Z : Zt} (hI : Inj E) (hl0 : lZ l Z) (X : Cx E Z cX12_prisoners RX12 5 6) (hr : rtOf Z = some .int) (p1 : Int32) (μ : Mem) : AO E Z 5 (QI E Z) 84 [(0, .ref (eAd E 122)), (1, .int p1)] [] μ (fX12_prisoners_122_b84 p1 μ) := by
  unfold fX12_prisoners_122_b84
  refine ao_aload_n (pc := 84) X dX12_prisoners_84 rfl ?_
  refine ao_callVI (pc := 85) (As := []) (st := []) X hl0 dX12_prisoners_85 yv_X12_wasRight so_122 ml_RX12_172 (mX12_wasRight_122 hI μ) (Nat.le_of_ble_eq_true rfl) rfl rfl (Nat.le_of_ble_eq_true rfl) (fun r12 m13 => ?_)
  refine ao_if_ne (pc := 88) (tgt := 98) X dX12_prisoners_88 (by decide) (fun _ => ?_) (fun _ => ?_)
  · refine ao_iconst (pc := 98) X dX12_prisoners_98 ic_0 ?_
    refine ao_istore (pc := 99) (lv' := [(4, .int (0 : Int32)), (0, .ref (eAd E 122)), (1, .int p1)]) X dX12_prisoners_99 (by decide) rfl ?_
    refine ao_sub [1, 2, 0] rfl ?_
    exact bX12_prisoners_122_101 hI hl0 X hr FU p1 (0 : Int32) m13
  · refine ao_iconst (pc := 91) X dX12_prisoners_91 ic_m1 ?_
    refine ao_aload_n (pc := 92) X dX12_prisoners_92 rfl ?_
    refine ao_getI (pc := 93) X dX12_prisoners_93 fl_RX12_123 sf_122_22 ?_
    refine ao_isub (pc := 96) X dX12_prisoners_96 ?_
    exact ao_iret (pc := 97) X hr dX12_prisoners_97
def fX12_prisoners_122_b71 (k29 : Int32 → Int32 → Int32 → Mem → Option (Int32 × Mem)) (p1 : Int32) (p2 : Int32) (μ : Mem) : Option (Int32 × Mem) :=
  bnd (fX12_passes_122 (59 : Int32) μ) fun r15 m16 =>
  k29 (p1 + (1 : Int32)) p2 r15 m16
set_option maxRecDepth 100000 in
set_option maxHeartbeats 4000000 in
theorem bX12_prisoners_122_71 {E : En} {l : Launch} {Z : Zt} (hI : Inj E) (hl0 : lZ l Z) (X : Cx E Z cX12_prisoners RX12 5 6) (hr : rtOf Z = some .int) {k29 : Int32 → Int32 → Int32 → Mem → Option (Int32 × Mem)} (hk29 : ∀ (p1 : Int32) (p2 : Int32) (p3 : Int32) (m : Mem), AO E Z 5 (QI E Z) 29 [(0, .ref (eAd E 122)), (1, .int p1), (2, .int p2), (3, .int p3)] [] m (k29 p1 p2 p3 m)) (p1 : Int32) (p2 : Int32) (μ : Mem) : AO E Z 5 (QI E Z) 71 [(0, .ref (eAd E 122)), (1, .int p1), (2, .int p2)] [] μ (fX12_prisoners_122_b71 k29 p1 p2 μ) := by
  unfold fX12_prisoners_122_b71
  refine ao_iinc (pc := 71) (k := 1) (v := p1 + (1 : Int32)) (lv' := [(1, .int (p1 + (1 : Int32))), (0, .ref (eAd E 122)), (2, .int p2)]) X dX12_prisoners_71 rfl (ii_ic ic_1) (by decide) rfl ?_
  refine ao_aload_n (pc := 74) X dX12_prisoners_74 rfl ?_
  refine ao_bipush (pc := 75) X dX12_prisoners_75 bp_59 ?_
  refine ao_callVI (pc := 77) (As := [.int (59 : Int32)]) (st := []) X hl0 dX12_prisoners_77 yv_X12_passes so_122 ml_RX12_138 (mX12_passes_122 hI (59 : Int32) μ) (Nat.le_of_ble_eq_true rfl) rfl rfl (Nat.le_of_ble_eq_true rfl) (fun r15 m16 => ?_)
  refine ao_istore_n (pc := 80) (lv' := [(3, .int r15), (1, .int (p1 + (1 : Int32))), (0, .ref (eAd E 122)), (2, .int p2)]) X dX12_prisoners_80 rfl (by decide) rfl ?_
  refine ao_goto (pc := 81) (tgt := 29) X dX12_prisoners_81 (by decide) ?_
  refine ao_sub [2, 1, 3, 0] rfl ?_
  exact hk29 (p1 + (1 : Int32)) p2 r15 m16
def fX12_prisoners_122_b29 : Nat → Int32 → Int32 → Int32 → Mem → Option (Int32 × Mem)
  | 0, _, _, _, _ => none
  | n + 1, p1, p2, p3, μ =>
  if p3 = 0 then (fX12_prisoners_122_b84 p1 μ)
  else bnd (fX12_fine_122 μ) fun r6 m7 =>
    if r6 = 0 then (fX12_prisoners_122_b84 p1 m7)
    else if ((gI m7 122 1) + p1) = (6 : Int32) then (bnd (fX12_fault_122 (gI m7 122 21) m7) fun r10 m11 =>
        fX12_prisoners_122_b71 (fun p1 p2 p3 m => fX12_prisoners_122_b29 n p1 p2 p3 m) p1 p2 m11)
      else bnd (fX12_readMan_122 ((5 : Int32) * p1) p2 m7) fun r8 m9 =>
        fX12_prisoners_122_b71 (fun p1 p2 p3 m => fX12_prisoners_122_b29 n p1 p2 p3 m) p1 r8 m9
set_option maxRecDepth 100000 in
set_option maxHeartbeats 4000000 in
theorem bX12_prisoners_122_29 {E : En} {l : Launch} {Z : Zt} (hI : Inj E) (hl0 : lZ l Z) (X : Cx E Z cX12_prisoners RX12 5 6) (hr : rtOf Z = some .int) : ∀ (n : Nat) (p1 : Int32) (p2 : Int32) (p3 : Int32) (μ : Mem), AO E Z 5 (QI E Z) 29 [(0, .ref (eAd E 122)), (1, .int p1), (2, .int p2), (3, .int p3)] [] μ (fX12_prisoners_122_b29 n p1 p2 p3 μ) := by
  intro n
  induction n with
  | zero =>
    intros
    exact ao_none
  | succ n ih =>
    intro p1 p2 p3 μ
    rw [fX12_prisoners_122_b29]
    refine ao_iload_n (pc := 29) X dX12_prisoners_29 rfl ?_
    refine ao_if_eq (pc := 30) (tgt := 84) X dX12_prisoners_30 (by decide) (fun _ => ?_) (fun _ => ?_)
    · refine ao_sub [0, 1] rfl ?_
      exact bX12_prisoners_122_84 hI hl0 X hr p1 μ
    · refine ao_aload_n (pc := 33) X dX12_prisoners_33 rfl ?_
      refine ao_callVI (pc := 34) (As := []) (st := []) X hl0 dX12_prisoners_34 yv_X12_fine so_122 ml_RX12_130 (mX12_fine_122 hI μ) (Nat.le_of_ble_eq_true rfl) rfl rfl (Nat.le_of_ble_eq_true rfl) (fun r6 m7 => ?_)
      refine ao_if_eq (pc := 37) (tgt := 84) X dX12_prisoners_37 (by decide) (fun _ => ?_) (fun _ => ?_)
      · refine ao_sub [0, 1] rfl ?_
        exact bX12_prisoners_122_84 hI hl0 X hr p1 m7
      · refine ao_aload_n (pc := 40) X dX12_prisoners_40 rfl ?_
        refine ao_getI (pc := 41) X dX12_prisoners_41 fl_RX12_101 sf_122_1 ?_
        refine ao_iload_n (pc := 44) X dX12_prisoners_44 rfl ?_
        refine ao_iadd (pc := 45) X dX12_prisoners_45 ?_
        refine ao_bipush (pc := 46) X dX12_prisoners_46 bp_6 ?_
        refine ao_icmp_ne (pc := 48) (tgt := 62) X dX12_prisoners_48 (by decide) (fun _ => ?_) (fun _ => ?_)
        · refine ao_aload_n (pc := 62) X dX12_prisoners_62 rfl ?_
          refine ao_iconst (pc := 63) X dX12_prisoners_63 ic_5 ?_
          refine ao_iload_n (pc := 64) X dX12_prisoners_64 rfl ?_
          refine ao_imul (pc := 65) X dX12_prisoners_65 ?_
          refine ao_iload_n (pc := 66) X dX12_prisoners_66 rfl ?_
          refine ao_callVI (pc := 67) (As := [.int ((5 : Int32) * p1), .int p2]) (st := []) X hl0 dX12_prisoners_67 yv_X12_readMan so_122 ml_RX12_168 (mX12_readMan_122 hI ((5 : Int32) * p1) p2 m7) (Nat.le_of_ble_eq_true rfl) rfl rfl (Nat.le_of_ble_eq_true rfl) (fun r8 m9 => ?_)
          refine ao_istore_n (pc := 70) (lv' := [(2, .int r8), (0, .ref (eAd E 122)), (1, .int p1), (3, .int p3)]) X dX12_prisoners_70 rfl (by decide) rfl ?_
          refine ao_sub [1, 2, 0] rfl ?_
          exact bX12_prisoners_122_71 hI hl0 X hr ih p1 r8 m9
        · refine ao_aload_n (pc := 51) X dX12_prisoners_51 rfl ?_
          refine ao_aload_n (pc := 52) X dX12_prisoners_52 rfl ?_
          refine ao_getI (pc := 53) X dX12_prisoners_53 fl_RX12_120 sf_122_21 ?_
          refine ao_callVV (pc := 56) (As := [.int (gI m7 122 21)]) (st := []) X hl0 dX12_prisoners_56 yv_X12_fault so_122 ml_RX12_142 (mX12_fault_122 hI (gI m7 122 21) m7) (Nat.le_of_ble_eq_true rfl) rfl rfl (Nat.le_of_ble_eq_true rfl) (fun r10 m11 => ?_)
          refine ao_goto (pc := 59) (tgt := 71) X dX12_prisoners_59 (by decide) ?_
          refine ao_sub [0, 1, 2] rfl ?_
          exact bX12_prisoners_122_71 hI hl0 X hr ih p1 p2 m11
def fX12_prisoners_122 (μ : Mem) : Option (Int32 × Mem) :=
  lt (sI μ 122 17 (0 : Int32)) fun m1 =>
  bnd (fX12_beginText_122 (76 : Int32) m1) fun r2 m3 =>
  if (gI m3 122 19) = 0 then (some ((0 : Int32), m3))
  else bnd (fX12_allGoods_122 m3) fun r4 m5 =>
    fX12_prisoners_122_b29 FU (0 : Int32) r4 (1 : Int32) m5
set_option maxRecDepth 100000 in
set_option maxHeartbeats 4000000 in
theorem mX12_prisoners_122 {E : En} {l : Launch} (hI : Inj E) (μ : Mem) : MtI E l yX12_prisoners cX12_prisoners 5 (some .int) 6 [.ref (eAd E 122)] μ (fX12_prisoners_122 μ) := by
  refine mtI_of (own := RX12) [(0, .ref (eAd E 122))] hI rfl (by decide) (Nat.le_of_ble_eq_true rfl) (Nat.le_of_ble_eq_true rfl) rfl (fun Z hl0 X hr => ?_)
  unfold fX12_prisoners_122
  refine ao_aload_n (pc := 0) X dX12_prisoners_0 rfl ?_
  refine ao_iconst (pc := 1) X dX12_prisoners_1 ic_0 ?_
  refine ao_putI (pc := 2) X dX12_prisoners_2 fp_RX12_95 sf_122_17 ?_
  refine ao_lt (fun m1 => ?_)
  refine ao_aload_n (pc := 5) X dX12_prisoners_5 rfl ?_
  refine ao_bipush (pc := 6) X dX12_prisoners_6 bp_76 ?_
  refine ao_callVV (pc := 8) (As := [.int (76 : Int32)]) (st := []) X hl0 dX12_prisoners_8 yv_X12_beginText so_122 ml_RX12_162 (mX12_beginText_122 hI (76 : Int32) m1) (Nat.le_of_ble_eq_true rfl) rfl rfl (Nat.le_of_ble_eq_true rfl) (fun r2 m3 => ?_)
  refine ao_aload_n (pc := 11) X dX12_prisoners_11 rfl ?_
  refine ao_getI (pc := 12) X dX12_prisoners_12 fl_RX12_114 sf_122_19 ?_
  refine ao_if_ne (pc := 15) (tgt := 20) X dX12_prisoners_15 (by decide) (fun _ => ?_) (fun _ => ?_)
  · refine ao_iconst (pc := 20) X dX12_prisoners_20 ic_0 ?_
    refine ao_istore_n (pc := 21) (lv' := [(1, .int (0 : Int32)), (0, .ref (eAd E 122))]) X dX12_prisoners_21 rfl (by decide) rfl ?_
    refine ao_aload_n (pc := 22) X dX12_prisoners_22 rfl ?_
    refine ao_callVI (pc := 23) (As := []) (st := []) X hl0 dX12_prisoners_23 yv_X12_allGoods so_122 ml_RX12_165 (mX12_allGoods_122 hI m3) (Nat.le_of_ble_eq_true rfl) rfl rfl (Nat.le_of_ble_eq_true rfl) (fun r4 m5 => ?_)
    refine ao_istore_n (pc := 26) (lv' := [(2, .int r4), (1, .int (0 : Int32)), (0, .ref (eAd E 122))]) X dX12_prisoners_26 rfl (by decide) rfl ?_
    refine ao_iconst (pc := 27) X dX12_prisoners_27 ic_1 ?_
    refine ao_istore_n (pc := 28) (lv' := [(3, .int (1 : Int32)), (2, .int r4), (1, .int (0 : Int32)), (0, .ref (eAd E 122))]) X dX12_prisoners_28 rfl (by decide) rfl ?_
    refine ao_sub [3, 2, 1, 0] rfl ?_
    exact bX12_prisoners_122_29 hI hl0 X hr FU (0 : Int32) r4 (1 : Int32) m5
  · refine ao_iconst (pc := 18) X dX12_prisoners_18 ic_0 ?_
    exact ao_iret (pc := 19) X hr dX12_prisoners_19
def fX2_readValues_24_1_b34 (k10 : Int32 → Int32 → Mem → Option (Int32 × Mem)) (p2 : Int32) (p3 : Int32) (μ : Mem) : Option (Int32 × Mem) :=
  bnd (fX9_number_1 (2 : Int32) μ) fun r12 m13 =>
  gd (inb p3 8) (lt (sI m13 28 (ix p3) r12) fun m14 =>
  gd (inb p3 8) (if 0 ≤ (gI m14 28 (ix p3)) then (gd (inb p3 8) (lt (p2 + (gI m14 28 (ix p3))) fun x15 =>
    k10 x15 (p3 + (1 : Int32)) m14))
  else bnd (fX9_wrong_1 m14) fun r17 m18 =>
    some (r17, m18)))
set_option maxRecDepth 100000 in
set_option maxHeartbeats 4000000 in
theorem bX2_readValues_24_1_34 {E : En} {l : Launch} {Z : Zt} (hI : Inj E) (hl0 : lZ l Z) (X : Cx E Z cX2_readValues RX2 4 3) (hr : rtOf Z = some .int) {k10 : Int32 → Int32 → Mem → Option (Int32 × Mem)} (hk10 : ∀ (p2 : Int32) (p3 : Int32) (m : Mem), AO E Z 4 (QI E Z) 10 [(0, .ref (eAd E 24)), (1, .ref (eAd E 1)), (2, .int p2), (3, .int p3)] [] m (k10 p2 p3 m)) (p2 : Int32) (p3 : Int32) (μ : Mem) : AO E Z 4 (QI E Z) 34 [(0, .ref (eAd E 24)), (1, .ref (eAd E 1)), (2, .int p2), (3, .int p3)] [] μ (fX2_readValues_24_1_b34 k10 p2 p3 μ) := by
  unfold fX2_readValues_24_1_b34
  refine ao_aload_n (pc := 34) X dX2_readValues_34 rfl ?_
  refine ao_getR (pc := 35) X dX2_readValues_35 fl_RX2_21 sf_24_3 ?_
  refine ao_iload_n (pc := 38) X dX2_readValues_38 rfl ?_
  refine ao_aload_n (pc := 39) X dX2_readValues_39 rfl ?_
  refine ao_iconst (pc := 40) X dX2_readValues_40 ic_2 ?_
  refine ao_callVI (pc := 41) (As := [.int (2 : Int32)]) (st := [.int p3, .ref (eAd E 28)]) X hl0 dX2_readValues_41 yv_X9_number so_1 ml_RX2_42 (mX9_number_1 hI (2 : Int32) μ) (Nat.le_of_ble_eq_true rfl) rfl rfl (Nat.le_of_ble_eq_true rfl) (fun r12 m13 => ?_)
  refine ao_iast (pc := 44) X dX2_readValues_44 sa_28 ?_
  refine ao_lt (fun m14 => ?_)
  refine ao_aload_n (pc := 45) X dX2_readValues_45 rfl ?_
  refine ao_getR (pc := 46) X dX2_readValues_46 fl_RX2_21 sf_24_3 ?_
  refine ao_iload_n (pc := 49) X dX2_readValues_49 rfl ?_
  refine ao_iald (pc := 50) X dX2_readValues_50 sa_28 ?_
  refine ao_if_ge (pc := 51) (tgt := 59) X dX2_readValues_51 (by decide) (fun _ => ?_) (fun _ => ?_)
  · refine ao_iload_n (pc := 59) X dX2_readValues_59 rfl ?_
    refine ao_aload_n (pc := 60) X dX2_readValues_60 rfl ?_
    refine ao_getR (pc := 61) X dX2_readValues_61 fl_RX2_21 sf_24_3 ?_
    refine ao_iload_n (pc := 64) X dX2_readValues_64 rfl ?_
    refine ao_iald (pc := 65) X dX2_readValues_65 sa_28 ?_
    refine ao_iadd (pc := 66) X dX2_readValues_66 ?_
    refine ao_ltI (fun x15 => ?_)
    refine ao_istore_n (pc := 67) (lv' := [(2, .int x15), (0, .ref (eAd E 24)), (1, .ref (eAd E 1)), (3, .int p3)]) X dX2_readValues_67 rfl (by decide) rfl ?_
    refine ao_iinc (pc := 68) (k := 3) (v := p3 + (1 : Int32)) (lv' := [(3, .int (p3 + (1 : Int32))), (2, .int x15), (0, .ref (eAd E 24)), (1, .ref (eAd E 1))]) X dX2_readValues_68 rfl (ii_ic ic_1) (by decide) rfl ?_
    refine ao_goto (pc := 71) (tgt := 10) X dX2_readValues_71 (by decide) ?_
    refine ao_sub [2, 3, 1, 0] rfl ?_
    exact hk10 x15 (p3 + (1 : Int32)) m14
  · refine ao_aload_n (pc := 54) X dX2_readValues_54 rfl ?_
    refine ao_callVI (pc := 55) (As := []) (st := []) X hl0 dX2_readValues_55 yv_X9_wrong so_1 ml_RX2_38 (mX9_wrong_1 hI m14) (Nat.le_of_ble_eq_true rfl) rfl rfl (Nat.le_of_ble_eq_true rfl) (fun r17 m18 => ?_)
    exact ao_iret (pc := 58) X hr dX2_readValues_58
def fX2_readValues_24_1_b10 : Nat → Int32 → Int32 → Mem → Option (Int32 × Mem)
  | 0, _, _, _ => none
  | n + 1, p2, p3, μ =>
  if (8 : Int32) ≤ p3 then (bnd (fX9_isRead_1 μ) fun r3 m4 =>
    if r3 = 0 then (bnd (fX9_wrong_1 m4) fun r6 m7 =>
      some (r6, m7))
    else gd (cpOK (0 : Int32) (0 : Int32) (8 : Int32) 8 8) (lt (sC m4 28 27 (ix (0 : Int32)) (ix (0 : Int32)) (ix (8 : Int32))) fun m5 =>
      some (p2, m5)))
  else if p3 ≤ 0 then (fX2_readValues_24_1_b34 (fun p2 p3 m => fX2_readValues_24_1_b10 n p2 p3 m) p2 p3 μ)
    else bnd (fX9_takes_1 (44 : Int32) μ) fun r8 m9 =>
      if r8 = 0 then (bnd (fX9_wrong_1 m9) fun r10 m11 =>
        some (r10, m11))
      else fX2_readValues_24_1_b34 (fun p2 p3 m => fX2_readValues_24_1_b10 n p2 p3 m) p2 p3 m9
set_option maxRecDepth 100000 in
set_option maxHeartbeats 4000000 in
theorem bX2_readValues_24_1_10 {E : En} {l : Launch} {Z : Zt} (hI : Inj E) (hl0 : lZ l Z) (X : Cx E Z cX2_readValues RX2 4 3) (hr : rtOf Z = some .int) : ∀ (n : Nat) (p2 : Int32) (p3 : Int32) (μ : Mem), AO E Z 4 (QI E Z) 10 [(0, .ref (eAd E 24)), (1, .ref (eAd E 1)), (2, .int p2), (3, .int p3)] [] μ (fX2_readValues_24_1_b10 n p2 p3 μ) := by
  intro n
  induction n with
  | zero =>
    intros
    exact ao_none
  | succ n ih =>
    intro p2 p3 μ
    rw [fX2_readValues_24_1_b10]
    refine ao_iload_n (pc := 10) X dX2_readValues_10 rfl ?_
    refine ao_bipush (pc := 11) X dX2_readValues_11 bp_8 ?_
    refine ao_icmp_ge (pc := 13) (tgt := 74) X dX2_readValues_13 (by decide) (fun _ => ?_) (fun _ => ?_)
    · refine ao_aload_n (pc := 74) X dX2_readValues_74 rfl ?_
      refine ao_callVI (pc := 75) (As := []) (st := []) X hl0 dX2_readValues_75 yv_X9_isRead so_1 ml_RX2_46 (mX9_isRead_1 hI μ) (Nat.le_of_ble_eq_true rfl) rfl rfl (Nat.le_of_ble_eq_true rfl) (fun r3 m4 => ?_)
      refine ao_if_ne (pc := 78) (tgt := 86) X dX2_readValues_78 (by decide) (fun _ => ?_) (fun _ => ?_)
      · refine ao_aload_n (pc := 86) X dX2_readValues_86 rfl ?_
        refine ao_getR (pc := 87) X dX2_readValues_87 fl_RX2_21 sf_24_3 ?_
        refine ao_iconst (pc := 90) X dX2_readValues_90 ic_0 ?_
        refine ao_aload_n (pc := 91) X dX2_readValues_91 rfl ?_
        refine ao_getR (pc := 92) X dX2_readValues_92 fl_RX2_18 sf_24_2 ?_
        refine ao_iconst (pc := 95) X dX2_readValues_95 ic_0 ?_
        refine ao_bipush (pc := 96) X dX2_readValues_96 bp_8 ?_
        refine ao_copy (pc := 98) X dX2_readValues_98 ml_RX2_50 CpyW_ok sa_28 sa_27 (Nat.le_of_ble_eq_true rfl) ?_
        refine ao_lt (fun m5 => ?_)
        refine ao_iload_n (pc := 101) X dX2_readValues_101 rfl ?_
        exact ao_iret (pc := 102) X hr dX2_readValues_102
      · refine ao_aload_n (pc := 81) X dX2_readValues_81 rfl ?_
        refine ao_callVI (pc := 82) (As := []) (st := []) X hl0 dX2_readValues_82 yv_X9_wrong so_1 ml_RX2_38 (mX9_wrong_1 hI m4) (Nat.le_of_ble_eq_true rfl) rfl rfl (Nat.le_of_ble_eq_true rfl) (fun r6 m7 => ?_)
        exact ao_iret (pc := 85) X hr dX2_readValues_85
    · refine ao_iload_n (pc := 16) X dX2_readValues_16 rfl ?_
      refine ao_if_le (pc := 17) (tgt := 34) X dX2_readValues_17 (by decide) (fun _ => ?_) (fun _ => ?_)
      · refine ao_sub [0, 1, 2, 3] rfl ?_
        exact bX2_readValues_24_1_34 hI hl0 X hr ih p2 p3 μ
      · refine ao_aload_n (pc := 20) X dX2_readValues_20 rfl ?_
        refine ao_bipush (pc := 21) X dX2_readValues_21 bp_44 ?_
        refine ao_callVI (pc := 23) (As := [.int (44 : Int32)]) (st := []) X hl0 dX2_readValues_23 yv_X9_takes so_1 ml_RX2_34 (mX9_takes_1 hI (44 : Int32) μ) (Nat.le_of_ble_eq_true rfl) rfl rfl (Nat.le_of_ble_eq_true rfl) (fun r8 m9 => ?_)
        refine ao_if_ne (pc := 26) (tgt := 34) X dX2_readValues_26 (by decide) (fun _ => ?_) (fun _ => ?_)
        · refine ao_sub [0, 1, 2, 3] rfl ?_
          exact bX2_readValues_24_1_34 hI hl0 X hr ih p2 p3 m9
        · refine ao_aload_n (pc := 29) X dX2_readValues_29 rfl ?_
          refine ao_callVI (pc := 30) (As := []) (st := []) X hl0 dX2_readValues_30 yv_X9_wrong so_1 ml_RX2_38 (mX9_wrong_1 hI m9) (Nat.le_of_ble_eq_true rfl) rfl rfl (Nat.le_of_ble_eq_true rfl) (fun r10 m11 => ?_)
          exact ao_iret (pc := 33) X hr dX2_readValues_33
def fX2_readValues_24_1 (μ : Mem) : Option (Int32 × Mem) :=
  bnd (fX9_open_1 (80 : Int32) μ) fun r1 m2 =>
  fX2_readValues_24_1_b10 FU (0 : Int32) (0 : Int32) m2
set_option maxRecDepth 100000 in
set_option maxHeartbeats 4000000 in
theorem mX2_readValues_24_1 {E : En} {l : Launch} (hI : Inj E) (μ : Mem) : MtI E l yX2_readValues cX2_readValues 4 (some .int) 3 [.ref (eAd E 24), .ref (eAd E 1)] μ (fX2_readValues_24_1 μ) := by
  refine mtI_of (own := RX2) [(0, .ref (eAd E 24)), (1, .ref (eAd E 1))] hI rfl (by decide) (Nat.le_of_ble_eq_true rfl) (Nat.le_of_ble_eq_true rfl) rfl (fun Z hl0 X hr => ?_)
  unfold fX2_readValues_24_1
  refine ao_aload_n (pc := 0) X dX2_readValues_0 rfl ?_
  refine ao_bipush (pc := 1) X dX2_readValues_1 bp_80 ?_
  refine ao_callVV (pc := 3) (As := [.int (80 : Int32)]) (st := []) X hl0 dX2_readValues_3 yv_X9_open so_1 ml_RX2_30 (mX9_open_1 hI (80 : Int32) μ) (Nat.le_of_ble_eq_true rfl) rfl rfl (Nat.le_of_ble_eq_true rfl) (fun r1 m2 => ?_)
  refine ao_iconst (pc := 6) X dX2_readValues_6 ic_0 ?_
  refine ao_istore_n (pc := 7) (lv' := [(2, .int (0 : Int32)), (0, .ref (eAd E 24)), (1, .ref (eAd E 1))]) X dX2_readValues_7 rfl (by decide) rfl ?_
  refine ao_iconst (pc := 8) X dX2_readValues_8 ic_0 ?_
  refine ao_istore_n (pc := 9) (lv' := [(3, .int (0 : Int32)), (2, .int (0 : Int32)), (0, .ref (eAd E 24)), (1, .ref (eAd E 1))]) X dX2_readValues_9 rfl (by decide) rfl ?_
  refine ao_sub [2, 3, 1, 0] rfl ?_
  exact bX2_readValues_24_1_10 hI hl0 X hr FU (0 : Int32) (0 : Int32) m2
def fX11_values_0 (μ : Mem) : Option (Int32 × Mem) :=
  bnd (fX2_readValues_24_1 μ) fun r1 m2 =>
  bnd (fX9_empty_1 m2) fun r3 m4 =>
  some (r1, m4)
set_option maxRecDepth 100000 in
set_option maxHeartbeats 4000000 in
theorem mX11_values_0 {E : En} {l : Launch} (hI : Inj E) (μ : Mem) : MtI E l yX11_values cX11_values 2 (some .int) 4 [.ref (eAd E 0)] μ (fX11_values_0 μ) := by
  refine mtI_of (own := RX11) [(0, .ref (eAd E 0))] hI rfl (by decide) (Nat.le_of_ble_eq_true rfl) (Nat.le_of_ble_eq_true rfl) rfl (fun Z hl0 X hr => ?_)
  unfold fX11_values_0
  refine ao_aload_n (pc := 0) X dX11_values_0 rfl ?_
  refine ao_getR (pc := 1) X dX11_values_1 fl_RX11_56 sf_0_6 ?_
  refine ao_aload_n (pc := 4) X dX11_values_4 rfl ?_
  refine ao_getR (pc := 5) X dX11_values_5 fl_RX11_10 sf_0_0 ?_
  refine ao_callVI (pc := 8) (As := [.ref (eAd E 1)]) (st := []) X hl0 dX11_values_8 yv_X2_readValues so_24 ml_RX11_129 (mX2_readValues_24_1 hI μ) (Nat.le_of_ble_eq_true rfl) rfl rfl (Nat.le_of_ble_eq_true rfl) (fun r1 m2 => ?_)
  refine ao_istore_n (pc := 11) (lv' := [(1, .int r1), (0, .ref (eAd E 0))]) X dX11_values_11 rfl (by decide) rfl ?_
  refine ao_aload_n (pc := 12) X dX11_values_12 rfl ?_
  refine ao_getR (pc := 13) X dX11_values_13 fl_RX11_10 sf_0_0 ?_
  refine ao_callVV (pc := 16) (As := []) (st := []) X hl0 dX11_values_16 yv_X9_empty so_1 ml_RX11_116 (mX9_empty_1 hI m2) (Nat.le_of_ble_eq_true rfl) rfl rfl (Nat.le_of_ble_eq_true rfl) (fun r3 m4 => ?_)
  refine ao_iload_n (pc := 19) X dX11_values_19 rfl ?_
  exact ao_iret (pc := 20) X hr dX11_values_20
