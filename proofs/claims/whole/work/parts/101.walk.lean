def fX12_values_122_b73 : Nat → Int32 → Int32 → Mem → Option (Int32 × Mem)
  | 0, _, _, _ => none
  | n + 1, p1, p2, μ =>
  if (8 : Int32) ≤ p2 then (some (p1, μ))
  else gd (inb p2 40) (gd (inb p2 8) (lt (sI μ 129 (ix p2) (gI μ 135 (ix p2))) fun m8 =>
    fX12_values_122_b73 n p1 (p2 + (1 : Int32)) m8))
set_option maxRecDepth 100000 in
set_option maxHeartbeats 4000000 in
theorem bX12_values_122_73 {E : En} {l : Launch} {Z : Zt} (hI : Inj E) (hl0 : lZ l Z) (X : Cx E Z cX12_values RX12 3 5) (hr : rtOf Z = some .int) : ∀ (n : Nat) (p1 : Int32) (p2 : Int32) (μ : Mem), AO E Z 3 (QI E Z) 73 [(0, .ref (eAd E 122)), (1, .int p1), (2, .int p2)] [] μ (fX12_values_122_b73 n p1 p2 μ) := by
  intro n
  induction n with
  | zero =>
    intros
    exact ao_none
  | succ n ih =>
    intro p1 p2 μ
    rw [fX12_values_122_b73]
    refine ao_iload_n (pc := 73) X dX12_values_73 rfl ?_
    refine ao_bipush (pc := 74) X dX12_values_74 bp_8 ?_
    refine ao_icmp_ge (pc := 76) (tgt := 97) X dX12_values_76 (by decide) (fun _ => ?_) (fun _ => ?_)
    · refine ao_iload_n (pc := 97) X dX12_values_97 rfl ?_
      exact ao_iret (pc := 98) X hr dX12_values_98
    · refine ao_aload_n (pc := 79) X dX12_values_79 rfl ?_
      refine ao_getR (pc := 80) X dX12_values_80 fl_RX12_29 sf_122_7 ?_
      refine ao_iload_n (pc := 83) X dX12_values_83 rfl ?_
      refine ao_aload_n (pc := 84) X dX12_values_84 rfl ?_
      refine ao_getR (pc := 85) X dX12_values_85 fl_RX12_53 sf_122_23 ?_
      refine ao_iload_n (pc := 88) X dX12_values_88 rfl ?_
      refine ao_iald (pc := 89) X dX12_values_89 sa_135 ?_
      refine ao_iast (pc := 90) X dX12_values_90 sa_129 ?_
      refine ao_lt (fun m8 => ?_)
      refine ao_iinc (pc := 91) (k := 2) (v := p2 + (1 : Int32)) (lv' := [(2, .int (p2 + (1 : Int32))), (0, .ref (eAd E 122)), (1, .int p1)]) X dX12_values_91 rfl (ii_ic ic_1) (by decide) rfl ?_
      refine ao_goto (pc := 94) (tgt := 73) X dX12_values_94 (by decide) ?_
      refine ao_sub [1, 2, 0] rfl ?_
      exact ih p1 (p2 + (1 : Int32)) m8
def fX12_values_122_b31 (k15 : Int32 → Int32 → Mem → Option (Int32 × Mem)) (p1 : Int32) (p2 : Int32) (μ : Mem) : Option (Int32 × Mem) :=
  bnd (fX12_number_122 (2 : Int32) μ) fun r10 m11 =>
  gd (inb p2 40) (lt (sI m11 135 (ix p2) r10) fun m12 =>
  gd (inb p2 40) (lt (p1 + (gI m12 135 (ix p2))) fun x13 =>
  k15 x13 (p2 + (1 : Int32)) m12))
set_option maxRecDepth 100000 in
set_option maxHeartbeats 4000000 in
theorem bX12_values_122_31 {E : En} {l : Launch} {Z : Zt} (hI : Inj E) (hl0 : lZ l Z) (X : Cx E Z cX12_values RX12 3 5) (hr : rtOf Z = some .int) {k15 : Int32 → Int32 → Mem → Option (Int32 × Mem)} (hk15 : ∀ (p1 : Int32) (p2 : Int32) (m : Mem), AO E Z 3 (QI E Z) 15 [(0, .ref (eAd E 122)), (1, .int p1), (2, .int p2)] [] m (k15 p1 p2 m)) (p1 : Int32) (p2 : Int32) (μ : Mem) : AO E Z 3 (QI E Z) 31 [(0, .ref (eAd E 122)), (1, .int p1), (2, .int p2)] [] μ (fX12_values_122_b31 k15 p1 p2 μ) := by
  unfold fX12_values_122_b31
  refine ao_aload_n (pc := 31) X dX12_values_31 rfl ?_
  refine ao_getR (pc := 32) X dX12_values_32 fl_RX12_53 sf_122_23 ?_
  refine ao_iload_n (pc := 35) X dX12_values_35 rfl ?_
  refine ao_aload_n (pc := 36) X dX12_values_36 rfl ?_
  refine ao_iconst (pc := 37) X dX12_values_37 ic_2 ?_
  refine ao_callVI (pc := 38) (As := [.int (2 : Int32)]) (st := [.int p2, .ref (eAd E 135)]) X hl0 dX12_values_38 yv_X12_number so_122 ml_RX12_150 (mX12_number_122 hI (2 : Int32) μ) (Nat.le_of_ble_eq_true rfl) rfl rfl (Nat.le_of_ble_eq_true rfl) (fun r10 m11 => ?_)
  refine ao_iast (pc := 41) X dX12_values_41 sa_135 ?_
  refine ao_lt (fun m12 => ?_)
  refine ao_iload_n (pc := 42) X dX12_values_42 rfl ?_
  refine ao_aload_n (pc := 43) X dX12_values_43 rfl ?_
  refine ao_getR (pc := 44) X dX12_values_44 fl_RX12_53 sf_122_23 ?_
  refine ao_iload_n (pc := 47) X dX12_values_47 rfl ?_
  refine ao_iald (pc := 48) X dX12_values_48 sa_135 ?_
  refine ao_iadd (pc := 49) X dX12_values_49 ?_
  refine ao_ltI (fun x13 => ?_)
  refine ao_istore_n (pc := 50) (lv' := [(1, .int x13), (0, .ref (eAd E 122)), (2, .int p2)]) X dX12_values_50 rfl (by decide) rfl ?_
  refine ao_iinc (pc := 51) (k := 2) (v := p2 + (1 : Int32)) (lv' := [(2, .int (p2 + (1 : Int32))), (1, .int x13), (0, .ref (eAd E 122))]) X dX12_values_51 rfl (ii_ic ic_1) (by decide) rfl ?_
  refine ao_goto (pc := 54) (tgt := 15) X dX12_values_54 (by decide) ?_
  refine ao_sub [2, 1, 0] rfl ?_
  exact hk15 x13 (p2 + (1 : Int32)) m12
def fX12_values_122_b15 : Nat → Int32 → Int32 → Mem → Option (Int32 × Mem)
  | 0, _, _, _ => none
  | n + 1, p1, p2, μ =>
  if (8 : Int32) ≤ p2 then (bnd (fX12_wasRight_122 μ) fun r4 m5 =>
    if r4 = 0 then (some (((-1 : Int32) - (gI m5 122 22)), m5))
    else fX12_values_122_b73 FU p1 (0 : Int32) m5)
  else if p2 ≤ 0 then (fX12_values_122_b31 (fun p1 p2 m => fX12_values_122_b15 n p1 p2 m) p1 p2 μ)
    else bnd (fX12_need_122 (44 : Int32) μ) fun r6 m7 =>
      fX12_values_122_b31 (fun p1 p2 m => fX12_values_122_b15 n p1 p2 m) p1 p2 m7
set_option maxRecDepth 100000 in
set_option maxHeartbeats 4000000 in
theorem bX12_values_122_15 {E : En} {l : Launch} {Z : Zt} (hI : Inj E) (hl0 : lZ l Z) (X : Cx E Z cX12_values RX12 3 5) (hr : rtOf Z = some .int) : ∀ (n : Nat) (p1 : Int32) (p2 : Int32) (μ : Mem), AO E Z 3 (QI E Z) 15 [(0, .ref (eAd E 122)), (1, .int p1), (2, .int p2)] [] μ (fX12_values_122_b15 n p1 p2 μ) := by
  intro n
  induction n with
  | zero =>
    intros
    exact ao_none
  | succ n ih =>
    intro p1 p2 μ
    rw [fX12_values_122_b15]
    refine ao_iload_n (pc := 15) X dX12_values_15 rfl ?_
    refine ao_bipush (pc := 16) X dX12_values_16 bp_8 ?_
    refine ao_icmp_ge (pc := 18) (tgt := 57) X dX12_values_18 (by decide) (fun _ => ?_) (fun _ => ?_)
    · refine ao_aload_n (pc := 57) X dX12_values_57 rfl ?_
      refine ao_callVI (pc := 58) (As := []) (st := []) X hl0 dX12_values_58 yv_X12_wasRight so_122 ml_RX12_172 (mX12_wasRight_122 hI μ) (Nat.le_of_ble_eq_true rfl) rfl rfl (Nat.le_of_ble_eq_true rfl) (fun r4 m5 => ?_)
      refine ao_if_ne (pc := 61) (tgt := 71) X dX12_values_61 (by decide) (fun _ => ?_) (fun _ => ?_)
      · refine ao_iconst (pc := 71) X dX12_values_71 ic_0 ?_
        refine ao_istore_n (pc := 72) (lv' := [(2, .int (0 : Int32)), (0, .ref (eAd E 122)), (1, .int p1)]) X dX12_values_72 rfl (by decide) rfl ?_
        refine ao_sub [1, 2, 0] rfl ?_
        exact bX12_values_122_73 hI hl0 X hr FU p1 (0 : Int32) m5
      · refine ao_iconst (pc := 64) X dX12_values_64 ic_m1 ?_
        refine ao_aload_n (pc := 65) X dX12_values_65 rfl ?_
        refine ao_getI (pc := 66) X dX12_values_66 fl_RX12_123 sf_122_22 ?_
        refine ao_isub (pc := 69) X dX12_values_69 ?_
        exact ao_iret (pc := 70) X hr dX12_values_70
    · refine ao_iload_n (pc := 21) X dX12_values_21 rfl ?_
      refine ao_if_le (pc := 22) (tgt := 31) X dX12_values_22 (by decide) (fun _ => ?_) (fun _ => ?_)
      · refine ao_sub [0, 1, 2] rfl ?_
        exact bX12_values_122_31 hI hl0 X hr ih p1 p2 μ
      · refine ao_aload_n (pc := 25) X dX12_values_25 rfl ?_
        refine ao_bipush (pc := 26) X dX12_values_26 bp_44 ?_
        refine ao_callVV (pc := 28) (As := [.int (44 : Int32)]) (st := []) X hl0 dX12_values_28 yv_X12_need so_122 ml_RX12_154 (mX12_need_122 hI (44 : Int32) μ) (Nat.le_of_ble_eq_true rfl) rfl rfl (Nat.le_of_ble_eq_true rfl) (fun r6 m7 => ?_)
        refine ao_sub [0, 1, 2] rfl ?_
        exact bX12_values_122_31 hI hl0 X hr ih p1 p2 m7
def fX12_values_122 (μ : Mem) : Option (Int32 × Mem) :=
  lt (sI μ 122 17 (0 : Int32)) fun m1 =>
  bnd (fX12_beginText_122 (80 : Int32) m1) fun r2 m3 =>
  fX12_values_122_b15 FU (0 : Int32) (0 : Int32) m3
set_option maxRecDepth 100000 in
set_option maxHeartbeats 4000000 in
theorem mX12_values_122 {E : En} {l : Launch} (hI : Inj E) (μ : Mem) : MtI E l yX12_values cX12_values 3 (some .int) 5 [.ref (eAd E 122)] μ (fX12_values_122 μ) := by
  refine mtI_of (own := RX12) [(0, .ref (eAd E 122))] hI rfl (by decide) (Nat.le_of_ble_eq_true rfl) (Nat.le_of_ble_eq_true rfl) rfl (fun Z hl0 X hr => ?_)
  unfold fX12_values_122
  refine ao_aload_n (pc := 0) X dX12_values_0 rfl ?_
  refine ao_iconst (pc := 1) X dX12_values_1 ic_0 ?_
  refine ao_putI (pc := 2) X dX12_values_2 fp_RX12_95 sf_122_17 ?_
  refine ao_lt (fun m1 => ?_)
  refine ao_aload_n (pc := 5) X dX12_values_5 rfl ?_
  refine ao_bipush (pc := 6) X dX12_values_6 bp_80 ?_
  refine ao_callVV (pc := 8) (As := [.int (80 : Int32)]) (st := []) X hl0 dX12_values_8 yv_X12_beginText so_122 ml_RX12_162 (mX12_beginText_122 hI (80 : Int32) m1) (Nat.le_of_ble_eq_true rfl) rfl rfl (Nat.le_of_ble_eq_true rfl) (fun r2 m3 => ?_)
  refine ao_iconst (pc := 11) X dX12_values_11 ic_0 ?_
  refine ao_istore_n (pc := 12) (lv' := [(1, .int (0 : Int32)), (0, .ref (eAd E 122))]) X dX12_values_12 rfl (by decide) rfl ?_
  refine ao_iconst (pc := 13) X dX12_values_13 ic_0 ?_
  refine ao_istore_n (pc := 14) (lv' := [(2, .int (0 : Int32)), (1, .int (0 : Int32)), (0, .ref (eAd E 122))]) X dX12_values_14 rfl (by decide) rfl ?_
  refine ao_sub [2, 1, 0] rfl ?_
  exact bX12_values_122_15 hI hl0 X hr FU (0 : Int32) (0 : Int32) m3
def fX4_hear_33_b2 : Nat → Int32 → Int32 → Mem → Option (Unit × Mem)
  | 0, _, _, _ => none
  | n + 1, p2, p3, μ =>
  if p2 ≤ p3 then (some ((), μ))
  else if (8 : Int32) ≤ p3 then (some ((), μ))
    else gd (inb p3 8) (gd (inb p3 8) (lt (sI μ 37 (ix p3) (gI μ 13 (ix p3))) fun m1 =>
      fX4_hear_33_b2 n p2 (p3 + (1 : Int32)) m1))
set_option maxRecDepth 100000 in
set_option maxHeartbeats 4000000 in
theorem bX4_hear_33_2 {E : En} {l : Launch} {Z : Zt} (hI : Inj E) (hl0 : lZ l Z) (X : Cx E Z cX4_hear RX4 4 1) (hr : rtOf Z = none) : ∀ (n : Nat) (p2 : Int32) (p3 : Int32) (μ : Mem), AO E Z 4 (QV E Z) 2 [(0, .ref (eAd E 33)), (2, .int p2), (3, .int p3)] [] μ (fX4_hear_33_b2 n p2 p3 μ) := by
  intro n
  induction n with
  | zero =>
    intros
    exact ao_none
  | succ n ih =>
    intro p2 p3 μ
    rw [fX4_hear_33_b2]
    refine ao_iload_n (pc := 2) X dX4_hear_2 rfl ?_
    refine ao_iload_n (pc := 3) X dX4_hear_3 rfl ?_
    refine ao_icmp_ge (pc := 4) (tgt := 34) X dX4_hear_4 (by decide) (fun _ => ?_) (fun _ => ?_)
    · exact ao_vret (pc := 34) X hr dX4_hear_34
    · refine ao_iload_n (pc := 7) X dX4_hear_7 rfl ?_
      refine ao_bipush (pc := 8) X dX4_hear_8 bp_8 ?_
      refine ao_icmp_ge (pc := 10) (tgt := 34) X dX4_hear_10 (by decide) (fun _ => ?_) (fun _ => ?_)
      · exact ao_vret (pc := 34) X hr dX4_hear_34
      · refine ao_aload_n (pc := 13) X dX4_hear_13 rfl ?_
        refine ao_getR (pc := 14) X dX4_hear_14 fl_RX4_21 sf_33_3 ?_
        refine ao_iload_n (pc := 17) X dX4_hear_17 rfl ?_
        refine ao_aload_n (pc := 18) X dX4_hear_18 rfl ?_
        refine ao_getR (pc := 19) X dX4_hear_19 fl_RX4_35 sf_33_7 ?_
        refine ao_getR (pc := 22) X dX4_hear_22 fl_RX4_49 sf_11_1 ?_
        refine ao_iload_n (pc := 25) X dX4_hear_25 rfl ?_
        refine ao_iald (pc := 26) X dX4_hear_26 sa_13 ?_
        refine ao_iast (pc := 27) X dX4_hear_27 sa_37 ?_
        refine ao_lt (fun m1 => ?_)
        refine ao_iinc (pc := 28) (k := 2) (v := p3 + (1 : Int32)) (lv' := [(3, .int (p3 + (1 : Int32))), (0, .ref (eAd E 33)), (2, .int p2)]) X dX4_hear_28 rfl (ii_ic ic_1) (by decide) rfl ?_
        refine ao_goto (pc := 31) (tgt := 2) X dX4_hear_31 (by decide) ?_
        refine ao_sub [1, 2, 0] rfl ?_
        exact ih p2 (p3 + (1 : Int32)) m1
def fX4_hear_33 (v1 : Int32) (v2 : Int32) (μ : Mem) : Option (Unit × Mem) :=
  fX4_hear_33_b2 FU v2 v1 μ
set_option maxRecDepth 100000 in
set_option maxHeartbeats 4000000 in
theorem mX4_hear_33 {E : En} {l : Launch} (hI : Inj E) (v1 : Int32) (v2 : Int32) (μ : Mem) : MtV E l yX4_hear cX4_hear 4 (none) 1 [.ref (eAd E 33), .int v1, .int v2] μ (fX4_hear_33 v1 v2 μ) := by
  refine mtV_of (own := RX4) [(0, .ref (eAd E 33)), (1, .int v1), (2, .int v2)] hI rfl (by decide) (Nat.le_of_ble_eq_true rfl) (Nat.le_of_ble_eq_true rfl) rfl (fun Z hl0 X hr => ?_)
  unfold fX4_hear_33
  refine ao_iload_n (pc := 0) X dX4_hear_0 rfl ?_
  refine ao_istore_n (pc := 1) (lv' := [(3, .int v1), (0, .ref (eAd E 33)), (1, .int v1), (2, .int v2)]) X dX4_hear_1 rfl (by decide) rfl ?_
  refine ao_sub [1, 3, 0] rfl ?_
  exact bX4_hear_33_2 hI hl0 X hr FU v2 v1 μ
def fX1_readsOne_11_1 (v2 : Int32) (μ : Mem) : Option (Int32 × Mem) :=
  lt ((gI μ 11 3) + v2) fun x1 =>
  if x1 < 0 then (some ((0 : Int32), μ))
  else if x1 < (8 : Int32) then (bnd (fX9_digit_1 (gI μ 5 5) μ) fun r2 m3 =>
      gd (inb x1 8) (lt (sI m3 12 (ix x1) r2) fun m4 =>
      gd (inb x1 8) (if (gI m4 12 (ix x1)) < 0 then (some ((0 : Int32), m4))
      else bnd (fX9_takes_1 (44 : Int32) m4) fun r5 m6 =>
        if r5 = 0 then (some ((0 : Int32), m6))
        else bnd (fX9_number_1 (2 : Int32) m6) fun r7 m8 =>
          gd (inb x1 8) (lt (sI m8 13 (ix x1) r7) fun m9 =>
          gd (inb x1 8) (if (gI m9 13 (ix x1)) < 0 then (some ((0 : Int32), m9))
          else bnd (fX9_takes_1 (44 : Int32) m9) fun r10 m11 =>
            if r10 = 0 then (some ((0 : Int32), m11))
            else bnd (fX9_digit_1 (10 : Int32) m11) fun r12 m13 =>
              gd (inb x1 8) (lt (sI m13 14 (ix x1) r12) fun m14 =>
              gd (inb x1 8) (if (gI m14 14 (ix x1)) < 0 then (some ((0 : Int32), m14))
              else some ((1 : Int32), m14))))))))
    else some ((0 : Int32), μ)
set_option maxRecDepth 100000 in
set_option maxHeartbeats 4000000 in
theorem mX1_readsOne_11_1 {E : En} {l : Launch} (hI : Inj E) (v2 : Int32) (μ : Mem) : MtI E l yX1_readsOne cX1_readsOne 4 (some .boolean) 3 [.ref (eAd E 11), .ref (eAd E 1), .int v2] μ (fX1_readsOne_11_1 v2 μ) := by
  refine mtI_of (own := RX1) [(0, .ref (eAd E 11)), (1, .ref (eAd E 1)), (2, .int v2)] hI rfl (by decide) (Nat.le_of_ble_eq_true rfl) (Nat.le_of_ble_eq_true rfl) rfl (fun Z hl0 X hr => ?_)
  unfold fX1_readsOne_11_1
  refine ao_aload_n (pc := 0) X dX1_readsOne_0 rfl ?_
  refine ao_getI (pc := 1) X dX1_readsOne_1 fl_RX1_21 sf_11_3 ?_
  refine ao_iload_n (pc := 4) X dX1_readsOne_4 rfl ?_
  refine ao_iadd (pc := 5) X dX1_readsOne_5 ?_
  refine ao_ltI (fun x1 => ?_)
  refine ao_istore_n (pc := 6) (lv' := [(3, .int x1), (0, .ref (eAd E 11)), (1, .ref (eAd E 1)), (2, .int v2)]) X dX1_readsOne_6 rfl (by decide) rfl ?_
  refine ao_iload_n (pc := 7) X dX1_readsOne_7 rfl ?_
  refine ao_if_lt (pc := 8) (tgt := 17) X dX1_readsOne_8 (by decide) (fun _ => ?_) (fun _ => ?_)
  · refine ao_iconst (pc := 17) X dX1_readsOne_17 ic_0 ?_
    exact ao_zret (pc := 18) X hr rfl dX1_readsOne_18
  · refine ao_iload_n (pc := 11) X dX1_readsOne_11 rfl ?_
    refine ao_bipush (pc := 12) X dX1_readsOne_12 bp_8 ?_
    refine ao_icmp_lt (pc := 14) (tgt := 19) X dX1_readsOne_14 (by decide) (fun _ => ?_) (fun _ => ?_)
    · refine ao_aload_n (pc := 19) X dX1_readsOne_19 rfl ?_
      refine ao_getR (pc := 20) X dX1_readsOne_20 fl_RX1_9 sf_11_0 ?_
      refine ao_iload_n (pc := 23) X dX1_readsOne_23 rfl ?_
      refine ao_aload_n (pc := 24) X dX1_readsOne_24 rfl ?_
      refine ao_aload_n (pc := 25) X dX1_readsOne_25 rfl ?_
      refine ao_getR (pc := 26) X dX1_readsOne_26 fl_RX1_25 sf_11_4 ?_
      refine ao_getI (pc := 29) X dX1_readsOne_29 fl_RX1_29 sf_5_5 ?_
      refine ao_callVI (pc := 32) (As := [.int (gI μ 5 5)]) (st := [.int x1, .ref (eAd E 12)]) X hl0 dX1_readsOne_32 yv_X9_digit so_1 ml_RX1_32 (mX9_digit_1 hI (gI μ 5 5) μ) (Nat.le_of_ble_eq_true rfl) rfl rfl (Nat.le_of_ble_eq_true rfl) (fun r2 m3 => ?_)
      refine ao_iast (pc := 35) X dX1_readsOne_35 sa_12 ?_
      refine ao_lt (fun m4 => ?_)
      refine ao_aload_n (pc := 36) X dX1_readsOne_36 rfl ?_
      refine ao_getR (pc := 37) X dX1_readsOne_37 fl_RX1_9 sf_11_0 ?_
      refine ao_iload_n (pc := 40) X dX1_readsOne_40 rfl ?_
      refine ao_iald (pc := 41) X dX1_readsOne_41 sa_12 ?_
      refine ao_if_lt (pc := 42) (tgt := 54) X dX1_readsOne_42 (by decide) (fun _ => ?_) (fun _ => ?_)
      · refine ao_iconst (pc := 54) X dX1_readsOne_54 ic_0 ?_
        exact ao_zret (pc := 55) X hr rfl dX1_readsOne_55
      · refine ao_aload_n (pc := 45) X dX1_readsOne_45 rfl ?_
        refine ao_bipush (pc := 46) X dX1_readsOne_46 bp_44 ?_
        refine ao_callVI (pc := 48) (As := [.int (44 : Int32)]) (st := []) X hl0 dX1_readsOne_48 yv_X9_takes so_1 ml_RX1_38 (mX9_takes_1 hI (44 : Int32) m4) (Nat.le_of_ble_eq_true rfl) rfl rfl (Nat.le_of_ble_eq_true rfl) (fun r5 m6 => ?_)
        refine ao_if_ne (pc := 51) (tgt := 56) X dX1_readsOne_51 (by decide) (fun _ => ?_) (fun _ => ?_)
        · refine ao_aload_n (pc := 56) X dX1_readsOne_56 rfl ?_
          refine ao_getR (pc := 57) X dX1_readsOne_57 fl_RX1_15 sf_11_1 ?_
          refine ao_iload_n (pc := 60) X dX1_readsOne_60 rfl ?_
          refine ao_aload_n (pc := 61) X dX1_readsOne_61 rfl ?_
          refine ao_iconst (pc := 62) X dX1_readsOne_62 ic_2 ?_
          refine ao_callVI (pc := 63) (As := [.int (2 : Int32)]) (st := [.int x1, .ref (eAd E 13)]) X hl0 dX1_readsOne_63 yv_X9_number so_1 ml_RX1_42 (mX9_number_1 hI (2 : Int32) m6) (Nat.le_of_ble_eq_true rfl) rfl rfl (Nat.le_of_ble_eq_true rfl) (fun r7 m8 => ?_)
          refine ao_iast (pc := 66) X dX1_readsOne_66 sa_13 ?_
          refine ao_lt (fun m9 => ?_)
          refine ao_aload_n (pc := 67) X dX1_readsOne_67 rfl ?_
          refine ao_getR (pc := 68) X dX1_readsOne_68 fl_RX1_15 sf_11_1 ?_
          refine ao_iload_n (pc := 71) X dX1_readsOne_71 rfl ?_
          refine ao_iald (pc := 72) X dX1_readsOne_72 sa_13 ?_
          refine ao_if_lt (pc := 73) (tgt := 85) X dX1_readsOne_73 (by decide) (fun _ => ?_) (fun _ => ?_)
          · refine ao_iconst (pc := 85) X dX1_readsOne_85 ic_0 ?_
            exact ao_zret (pc := 86) X hr rfl dX1_readsOne_86
          · refine ao_aload_n (pc := 76) X dX1_readsOne_76 rfl ?_
            refine ao_bipush (pc := 77) X dX1_readsOne_77 bp_44 ?_
            refine ao_callVI (pc := 79) (As := [.int (44 : Int32)]) (st := []) X hl0 dX1_readsOne_79 yv_X9_takes so_1 ml_RX1_38 (mX9_takes_1 hI (44 : Int32) m9) (Nat.le_of_ble_eq_true rfl) rfl rfl (Nat.le_of_ble_eq_true rfl) (fun r10 m11 => ?_)
            refine ao_if_ne (pc := 82) (tgt := 87) X dX1_readsOne_82 (by decide) (fun _ => ?_) (fun _ => ?_)
            · refine ao_aload_n (pc := 87) X dX1_readsOne_87 rfl ?_
              refine ao_getR (pc := 88) X dX1_readsOne_88 fl_RX1_18 sf_11_2 ?_
              refine ao_iload_n (pc := 91) X dX1_readsOne_91 rfl ?_
              refine ao_aload_n (pc := 92) X dX1_readsOne_92 rfl ?_
              refine ao_bipush (pc := 93) X dX1_readsOne_93 bp_10 ?_
              refine ao_callVI (pc := 95) (As := [.int (10 : Int32)]) (st := [.int x1, .ref (eAd E 14)]) X hl0 dX1_readsOne_95 yv_X9_digit so_1 ml_RX1_32 (mX9_digit_1 hI (10 : Int32) m11) (Nat.le_of_ble_eq_true rfl) rfl rfl (Nat.le_of_ble_eq_true rfl) (fun r12 m13 => ?_)
              refine ao_iast (pc := 98) X dX1_readsOne_98 sa_14 ?_
              refine ao_lt (fun m14 => ?_)
              refine ao_aload_n (pc := 99) X dX1_readsOne_99 rfl ?_
              refine ao_getR (pc := 100) X dX1_readsOne_100 fl_RX1_18 sf_11_2 ?_
              refine ao_iload_n (pc := 103) X dX1_readsOne_103 rfl ?_
              refine ao_iald (pc := 104) X dX1_readsOne_104 sa_14 ?_
              refine ao_if_lt (pc := 105) (tgt := 112) X dX1_readsOne_105 (by decide) (fun _ => ?_) (fun _ => ?_)
              · refine ao_iconst (pc := 112) X dX1_readsOne_112 ic_0 ?_
                exact ao_zret (pc := 113) X hr rfl dX1_readsOne_113
              · refine ao_iconst (pc := 108) X dX1_readsOne_108 ic_1 ?_
                refine ao_goto (pc := 109) (tgt := 113) X dX1_readsOne_109 (by decide) ?_
                exact ao_zret (pc := 113) X hr rfl dX1_readsOne_113
            · refine ao_iconst (pc := 85) X dX1_readsOne_85 ic_0 ?_
              exact ao_zret (pc := 86) X hr rfl dX1_readsOne_86
        · refine ao_iconst (pc := 54) X dX1_readsOne_54 ic_0 ?_
          exact ao_zret (pc := 55) X hr rfl dX1_readsOne_55
    · refine ao_iconst (pc := 17) X dX1_readsOne_17 ic_0 ?_
      exact ao_zret (pc := 18) X hr rfl dX1_readsOne_18
def fX5_readAll_11_1_b16 : Nat → Int32 → Mem → Option (Int32 × Mem)
  | 0, _, _ => none
  | n + 1, p3, μ =>
  if (80 : Int32) ≤ p3 then (bnd (fX9_wrong_1 μ) fun r5 m6 =>
    some (r5, m6))
  else bnd (fX1_readsOne_11_1 p3 μ) fun r7 m8 =>
    if r7 = 0 then (bnd (fX9_wrong_1 m8) fun r16 m17 =>
      some (r16, m17))
    else bnd (fX9_isRead_1 m8) fun r9 m10 =>
      if r9 = 0 then (bnd (fX9_takes_1 (59 : Int32) m10) fun r11 m12 =>
        if r11 = 0 then (bnd (fX9_wrong_1 m12) fun r14 m15 =>
          some (r14, m15))
        else fX5_readAll_11_1_b16 n (p3 + (1 : Int32)) m12)
      else some ((p3 + (1 : Int32)), m10)
set_option maxRecDepth 100000 in
set_option maxHeartbeats 4000000 in
theorem bX5_readAll_11_1_16 {E : En} {l : Launch} {Z : Zt} (hI : Inj E) (hl0 : lZ l Z) (X : Cx E Z cX5_readAll RX5 4 4) (hr : rtOf Z = some .int) : ∀ (n : Nat) (p3 : Int32) (μ : Mem), AO E Z 4 (QI E Z) 16 [(0, .ref (eAd E 11)), (1, .ref (eAd E 1)), (3, .int p3)] [] μ (fX5_readAll_11_1_b16 n p3 μ) := by
  intro n
  induction n with
  | zero =>
    intros
    exact ao_none
  | succ n ih =>
    intro p3 μ
    rw [fX5_readAll_11_1_b16]
    refine ao_iload_n (pc := 16) X dX5_readAll_16 rfl ?_
    refine ao_bipush (pc := 17) X dX5_readAll_17 bp_80 ?_
    refine ao_icmp_ge (pc := 19) (tgt := 67) X dX5_readAll_19 (by decide) (fun _ => ?_) (fun _ => ?_)
    · refine ao_aload_n (pc := 67) X dX5_readAll_67 rfl ?_
      refine ao_callVI (pc := 68) (As := []) (st := []) X hl0 dX5_readAll_68 yv_X9_wrong so_1 ml_RX5_23 (mX9_wrong_1 hI μ) (Nat.le_of_ble_eq_true rfl) rfl rfl (Nat.le_of_ble_eq_true rfl) (fun r5 m6 => ?_)
      exact ao_iret (pc := 71) X hr dX5_readAll_71
    · refine ao_aload_n (pc := 22) X dX5_readAll_22 rfl ?_
      refine ao_aload_n (pc := 23) X dX5_readAll_23 rfl ?_
      refine ao_iload_n (pc := 24) X dX5_readAll_24 rfl ?_
      refine ao_callU (pc := 25) (As := [.ref (eAd E 1), .int p3]) (st := []) X hl0 dX5_readAll_25 yu_RX5_17_RX1 so_11 (mX1_readsOne_11_1 hI p3 μ) (Nat.le_of_ble_eq_true rfl) rfl rfl (Nat.le_of_ble_eq_true rfl) (fun r7 m8 => ?_)
      refine ao_if_ne (pc := 28) (tgt := 36) X dX5_readAll_28 (by decide) (fun _ => ?_) (fun _ => ?_)
      · refine ao_aload_n (pc := 36) X dX5_readAll_36 rfl ?_
        refine ao_callVI (pc := 37) (As := []) (st := []) X hl0 dX5_readAll_37 yv_X9_isRead so_1 ml_RX5_13 (mX9_isRead_1 hI m8) (Nat.le_of_ble_eq_true rfl) rfl rfl (Nat.le_of_ble_eq_true rfl) (fun r9 m10 => ?_)
        refine ao_if_eq (pc := 40) (tgt := 47) X dX5_readAll_40 (by decide) (fun _ => ?_) (fun _ => ?_)
        · refine ao_aload_n (pc := 47) X dX5_readAll_47 rfl ?_
          refine ao_bipush (pc := 48) X dX5_readAll_48 bp_59 ?_
          refine ao_callVI (pc := 50) (As := [.int (59 : Int32)]) (st := []) X hl0 dX5_readAll_50 yv_X9_takes so_1 ml_RX5_27 (mX9_takes_1 hI (59 : Int32) m10) (Nat.le_of_ble_eq_true rfl) rfl rfl (Nat.le_of_ble_eq_true rfl) (fun r11 m12 => ?_)
          refine ao_if_ne (pc := 53) (tgt := 61) X dX5_readAll_53 (by decide) (fun _ => ?_) (fun _ => ?_)
          · refine ao_iinc (pc := 61) (k := 2) (v := p3 + (1 : Int32)) (lv' := [(3, .int (p3 + (1 : Int32))), (0, .ref (eAd E 11)), (1, .ref (eAd E 1))]) X dX5_readAll_61 rfl (ii_ic ic_1) (by decide) rfl ?_
            refine ao_goto (pc := 64) (tgt := 16) X dX5_readAll_64 (by decide) ?_
            refine ao_sub [1, 2, 0] rfl ?_
            exact ih (p3 + (1 : Int32)) m12
          · refine ao_aload_n (pc := 56) X dX5_readAll_56 rfl ?_
            refine ao_callVI (pc := 57) (As := []) (st := []) X hl0 dX5_readAll_57 yv_X9_wrong so_1 ml_RX5_23 (mX9_wrong_1 hI m12) (Nat.le_of_ble_eq_true rfl) rfl rfl (Nat.le_of_ble_eq_true rfl) (fun r14 m15 => ?_)
            exact ao_iret (pc := 60) X hr dX5_readAll_60
        · refine ao_iload_n (pc := 43) X dX5_readAll_43 rfl ?_
          refine ao_iconst (pc := 44) X dX5_readAll_44 ic_1 ?_
          refine ao_iadd (pc := 45) X dX5_readAll_45 ?_
          exact ao_iret (pc := 46) X hr dX5_readAll_46
      · refine ao_aload_n (pc := 31) X dX5_readAll_31 rfl ?_
        refine ao_callVI (pc := 32) (As := []) (st := []) X hl0 dX5_readAll_32 yv_X9_wrong so_1 ml_RX5_23 (mX9_wrong_1 hI m8) (Nat.le_of_ble_eq_true rfl) rfl rfl (Nat.le_of_ble_eq_true rfl) (fun r16 m17 => ?_)
        exact ao_iret (pc := 35) X hr dX5_readAll_35
def fX5_readAll_11_1 (v2 : Int32) (μ : Mem) : Option (Int32 × Mem) :=
  bnd (fX9_open_1 v2 μ) fun r1 m2 =>
  bnd (fX9_isRead_1 m2) fun r3 m4 =>
  if r3 = 0 then (fX5_readAll_11_1_b16 FU (0 : Int32) m4)
  else some ((0 : Int32), m4)
set_option maxRecDepth 100000 in
set_option maxHeartbeats 4000000 in
theorem mX5_readAll_11_1 {E : En} {l : Launch} (hI : Inj E) (v2 : Int32) (μ : Mem) : MtI E l yX5_readAll cX5_readAll 4 (some .int) 4 [.ref (eAd E 11), .ref (eAd E 1), .int v2] μ (fX5_readAll_11_1 v2 μ) := by
  refine mtI_of (own := RX5) [(0, .ref (eAd E 11)), (1, .ref (eAd E 1)), (2, .int v2)] hI rfl (by decide) (Nat.le_of_ble_eq_true rfl) (Nat.le_of_ble_eq_true rfl) rfl (fun Z hl0 X hr => ?_)
  unfold fX5_readAll_11_1
  refine ao_aload_n (pc := 0) X dX5_readAll_0 rfl ?_
  refine ao_iload_n (pc := 1) X dX5_readAll_1 rfl ?_
  refine ao_callVV (pc := 2) (As := [.int v2]) (st := []) X hl0 dX5_readAll_2 yv_X9_open so_1 ml_RX5_7 (mX9_open_1 hI v2 μ) (Nat.le_of_ble_eq_true rfl) rfl rfl (Nat.le_of_ble_eq_true rfl) (fun r1 m2 => ?_)
  refine ao_aload_n (pc := 5) X dX5_readAll_5 rfl ?_
  refine ao_callVI (pc := 6) (As := []) (st := []) X hl0 dX5_readAll_6 yv_X9_isRead so_1 ml_RX5_13 (mX9_isRead_1 hI m2) (Nat.le_of_ble_eq_true rfl) rfl rfl (Nat.le_of_ble_eq_true rfl) (fun r3 m4 => ?_)
  refine ao_if_eq (pc := 9) (tgt := 14) X dX5_readAll_9 (by decide) (fun _ => ?_) (fun _ => ?_)
  · refine ao_iconst (pc := 14) X dX5_readAll_14 ic_0 ?_
    refine ao_istore_n (pc := 15) (lv' := [(3, .int (0 : Int32)), (0, .ref (eAd E 11)), (1, .ref (eAd E 1)), (2, .int v2)]) X dX5_readAll_15 rfl (by decide) rfl ?_
    refine ao_sub [1, 2, 0] rfl ?_
    exact bX5_readAll_11_1_16 hI hl0 X hr FU (0 : Int32) m4
  · refine ao_iconst (pc := 12) X dX5_readAll_12 ic_0 ?_
    exact ao_iret (pc := 13) X hr dX5_readAll_13
def fX11_witnesses_0 (μ : Mem) : Option (Int32 × Mem) :=
  bnd (fX5_readAll_11_1 (60 : Int32) μ) fun r1 m2 =>
  bnd (fX9_empty_1 m2) fun r3 m4 =>
  if r1 ≤ 0 then (some (r1, m4))
  else bnd (fX4_hear_33 (gI m4 11 3) ((gI m4 11 3) + r1) m4) fun r5 m6 =>
    lt (sI m6 11 3 ((gI m6 11 3) + r1)) fun m7 =>
    bnd (fX11_forgetWhatWas_0 m7) fun r8 m9 =>
    some (r1, m9)
set_option maxRecDepth 100000 in
set_option maxHeartbeats 4000000 in
theorem mX11_witnesses_0 {E : En} {l : Launch} (hI : Inj E) (μ : Mem) : MtI E l yX11_witnesses cX11_witnesses 2 (some .int) 5 [.ref (eAd E 0)] μ (fX11_witnesses_0 μ) := by
  refine mtI_of (own := RX11) [(0, .ref (eAd E 0))] hI rfl (by decide) (Nat.le_of_ble_eq_true rfl) (Nat.le_of_ble_eq_true rfl) rfl (fun Z hl0 X hr => ?_)
  unfold fX11_witnesses_0
  refine ao_aload_n (pc := 0) X dX11_witnesses_0 rfl ?_
  refine ao_getR (pc := 1) X dX11_witnesses_1 fl_RX11_35 sf_0_3 ?_
  refine ao_aload_n (pc := 4) X dX11_witnesses_4 rfl ?_
  refine ao_getR (pc := 5) X dX11_witnesses_5 fl_RX11_10 sf_0_0 ?_
  refine ao_bipush (pc := 8) X dX11_witnesses_8 bp_60 ?_
  refine ao_callU (pc := 10) (As := [.ref (eAd E 1), .int (60 : Int32)]) (st := []) X hl0 dX11_witnesses_10 yu_RX11_133_RX1 so_11 (mX5_readAll_11_1 hI (60 : Int32) μ) (Nat.le_of_ble_eq_true rfl) rfl rfl (Nat.le_of_ble_eq_true rfl) (fun r1 m2 => ?_)
  refine ao_istore_n (pc := 13) (lv' := [(1, .int r1), (0, .ref (eAd E 0))]) X dX11_witnesses_13 rfl (by decide) rfl ?_
  refine ao_aload_n (pc := 14) X dX11_witnesses_14 rfl ?_
  refine ao_getR (pc := 15) X dX11_witnesses_15 fl_RX11_10 sf_0_0 ?_
  refine ao_callVV (pc := 18) (As := []) (st := []) X hl0 dX11_witnesses_18 yv_X9_empty so_1 ml_RX11_116 (mX9_empty_1 hI m2) (Nat.le_of_ble_eq_true rfl) rfl rfl (Nat.le_of_ble_eq_true rfl) (fun r3 m4 => ?_)
  refine ao_iload_n (pc := 21) X dX11_witnesses_21 rfl ?_
  refine ao_if_le (pc := 22) (tgt := 65) X dX11_witnesses_22 (by decide) (fun _ => ?_) (fun _ => ?_)
  · refine ao_iload_n (pc := 65) X dX11_witnesses_65 rfl ?_
    exact ao_iret (pc := 66) X hr dX11_witnesses_66
  · refine ao_aload_n (pc := 25) X dX11_witnesses_25 rfl ?_
    refine ao_getR (pc := 26) X dX11_witnesses_26 fl_RX11_65 sf_0_7 ?_
    refine ao_aload_n (pc := 29) X dX11_witnesses_29 rfl ?_
    refine ao_getR (pc := 30) X dX11_witnesses_30 fl_RX11_35 sf_0_3 ?_
    refine ao_getI (pc := 33) X dX11_witnesses_33 fl_RX11_134 sf_11_3 ?_
    refine ao_aload_n (pc := 36) X dX11_witnesses_36 rfl ?_
    refine ao_getR (pc := 37) X dX11_witnesses_37 fl_RX11_35 sf_0_3 ?_
    refine ao_getI (pc := 40) X dX11_witnesses_40 fl_RX11_134 sf_11_3 ?_
    refine ao_iload_n (pc := 43) X dX11_witnesses_43 rfl ?_
    refine ao_iadd (pc := 44) X dX11_witnesses_44 ?_
    refine ao_callVV (pc := 45) (As := [.int (gI m4 11 3), .int ((gI m4 11 3) + r1)]) (st := []) X hl0 dX11_witnesses_45 yv_X4_hear so_33 ml_RX11_135 (mX4_hear_33 hI (gI m4 11 3) ((gI m4 11 3) + r1) m4) (Nat.le_of_ble_eq_true rfl) rfl rfl (Nat.le_of_ble_eq_true rfl) (fun r5 m6 => ?_)
    refine ao_aload_n (pc := 48) X dX11_witnesses_48 rfl ?_
    refine ao_getR (pc := 49) X dX11_witnesses_49 fl_RX11_35 sf_0_3 ?_
    refine ao_dup (pc := 52) X dX11_witnesses_52 rfl ?_
    refine ao_getI (pc := 53) X dX11_witnesses_53 fl_RX11_134 sf_11_3 ?_
    refine ao_iload_n (pc := 56) X dX11_witnesses_56 rfl ?_
    refine ao_iadd (pc := 57) X dX11_witnesses_57 ?_
    refine ao_putI (pc := 58) X dX11_witnesses_58 fp_RX11_134 sf_11_3 ?_
    refine ao_lt (fun m7 => ?_)
    refine ao_aload_n (pc := 61) X dX11_witnesses_61 rfl ?_
    refine ao_callVV (pc := 62) (As := []) (st := []) X hl0 dX11_witnesses_62 yv_X11_forgetWhatWas so_0 ml_RX11_126 (mX11_forgetWhatWas_0 hI m7) (Nat.le_of_ble_eq_true rfl) rfl rfl (Nat.le_of_ble_eq_true rfl) (fun r8 m9 => ?_)
    refine ao_iload_n (pc := 65) X dX11_witnesses_65 rfl ?_
    exact ao_iret (pc := 66) X hr dX11_witnesses_66
def fX12_witnesses_122_b149 : Nat → Int32 → Int32 → Mem → Option (Int32 × Mem)
  | 0, _, _, _ => none
  | n + 1, p1, p3, μ =>
  if p1 ≤ p3 then (lt (sI μ 122 29 (0 : Int32)) fun m26 =>
    lt (sI m26 122 41 ((gI m26 122 41) + (1 : Int32))) fun m27 =>
    some (p1, m27))
  else gd (inb ((3 : Int32) * p3) 40) (gd (inb (gI μ 122 8) 8) (lt (sI μ 130 (ix (gI μ 122 8)) (gI μ 135 (ix ((3 : Int32) * p3)))) fun m28 =>
    gd (inb (((3 : Int32) * p3) + (1 : Int32)) 40) (gd (inb ((18 : Int32) + (gI m28 122 8)) 27) (lt (sI m28 123 (ix ((18 : Int32) + (gI m28 122 8))) (gI m28 135 (ix (((3 : Int32) * p3) + (1 : Int32))))) fun m29 =>
    gd (inb (((3 : Int32) * p3) + (2 : Int32)) 40) (gd (inb (gI m29 122 8) 8) (lt (sI m29 131 (ix (gI m29 122 8)) (gI m29 135 (ix (((3 : Int32) * p3) + (2 : Int32))))) fun m30 =>
    lt (sI m30 122 8 ((gI m30 122 8) + (1 : Int32))) fun m31 =>
    fX12_witnesses_122_b149 n p1 (p3 + (1 : Int32)) m31))))))
set_option maxRecDepth 100000 in
set_option maxHeartbeats 4000000 in
theorem bX12_witnesses_122_149 {E : En} {l : Launch} {Z : Zt} (hI : Inj E) (hl0 : lZ l Z) (X : Cx E Z cX12_witnesses RX12 4 5) (hr : rtOf Z = some .int) : ∀ (n : Nat) (p1 : Int32) (p3 : Int32) (μ : Mem), AO E Z 4 (QI E Z) 149 [(0, .ref (eAd E 122)), (1, .int p1), (3, .int p3)] [] μ (fX12_witnesses_122_b149 n p1 p3 μ) := by
  intro n
  induction n with
  | zero =>
    intros
    exact ao_none
  | succ n ih =>
    intro p1 p3 μ
    rw [fX12_witnesses_122_b149]
    refine ao_iload_n (pc := 149) X dX12_witnesses_149 rfl ?_
    refine ao_iload_n (pc := 150) X dX12_witnesses_150 rfl ?_
    refine ao_icmp_ge (pc := 151) (tgt := 228) X dX12_witnesses_151 (by decide) (fun _ => ?_) (fun _ => ?_)
    · refine ao_aload_n (pc := 228) X dX12_witnesses_228 rfl ?_
      refine ao_iconst (pc := 229) X dX12_witnesses_229 ic_0 ?_
      refine ao_putI (pc := 230) X dX12_witnesses_230 fp_RX12_175 sf_122_29 ?_
      refine ao_lt (fun m26 => ?_)
      refine ao_aload_n (pc := 233) X dX12_witnesses_233 rfl ?_
      refine ao_dup (pc := 234) X dX12_witnesses_234 rfl ?_
      refine ao_getI (pc := 235) X dX12_witnesses_235 fl_RX12_178 sf_122_41 ?_
      refine ao_iconst (pc := 238) X dX12_witnesses_238 ic_1 ?_
      refine ao_iadd (pc := 239) X dX12_witnesses_239 ?_
      refine ao_putI (pc := 240) X dX12_witnesses_240 fp_RX12_178 sf_122_41 ?_
      refine ao_lt (fun m27 => ?_)
      refine ao_iload_n (pc := 243) X dX12_witnesses_243 rfl ?_
      exact ao_iret (pc := 244) X hr dX12_witnesses_244
    · refine ao_aload_n (pc := 154) X dX12_witnesses_154 rfl ?_
      refine ao_getR (pc := 155) X dX12_witnesses_155 fl_RX12_32 sf_122_9 ?_
      refine ao_aload_n (pc := 158) X dX12_witnesses_158 rfl ?_
      refine ao_getI (pc := 159) X dX12_witnesses_159 fl_RX12_181 sf_122_8 ?_
      refine ao_aload_n (pc := 162) X dX12_witnesses_162 rfl ?_
      refine ao_getR (pc := 163) X dX12_witnesses_163 fl_RX12_53 sf_122_23 ?_
      refine ao_iconst (pc := 166) X dX12_witnesses_166 ic_3 ?_
      refine ao_iload_n (pc := 167) X dX12_witnesses_167 rfl ?_
      refine ao_imul (pc := 168) X dX12_witnesses_168 ?_
      refine ao_iald (pc := 169) X dX12_witnesses_169 sa_135 ?_
      refine ao_iast (pc := 170) X dX12_witnesses_170 sa_130 ?_
      refine ao_lt (fun m28 => ?_)
      refine ao_aload_n (pc := 171) X dX12_witnesses_171 rfl ?_
      refine ao_getR (pc := 172) X dX12_witnesses_172 fl_RX12_9 sf_122_0 ?_
      refine ao_bipush (pc := 175) X dX12_witnesses_175 bp_18 ?_
      refine ao_aload_n (pc := 177) X dX12_witnesses_177 rfl ?_
      refine ao_getI (pc := 178) X dX12_witnesses_178 fl_RX12_181 sf_122_8 ?_
      refine ao_iadd (pc := 181) X dX12_witnesses_181 ?_
      refine ao_aload_n (pc := 182) X dX12_witnesses_182 rfl ?_
      refine ao_getR (pc := 183) X dX12_witnesses_183 fl_RX12_53 sf_122_23 ?_
      refine ao_iconst (pc := 186) X dX12_witnesses_186 ic_3 ?_
      refine ao_iload_n (pc := 187) X dX12_witnesses_187 rfl ?_
      refine ao_imul (pc := 188) X dX12_witnesses_188 ?_
      refine ao_iconst (pc := 189) X dX12_witnesses_189 ic_1 ?_
      refine ao_iadd (pc := 190) X dX12_witnesses_190 ?_
      refine ao_iald (pc := 191) X dX12_witnesses_191 sa_135 ?_
      refine ao_iast (pc := 192) X dX12_witnesses_192 sa_123 ?_
      refine ao_lt (fun m29 => ?_)
      refine ao_aload_n (pc := 193) X dX12_witnesses_193 rfl ?_
      refine ao_getR (pc := 194) X dX12_witnesses_194 fl_RX12_35 sf_122_10 ?_
      refine ao_aload_n (pc := 197) X dX12_witnesses_197 rfl ?_
      refine ao_getI (pc := 198) X dX12_witnesses_198 fl_RX12_181 sf_122_8 ?_
      refine ao_aload_n (pc := 201) X dX12_witnesses_201 rfl ?_
      refine ao_getR (pc := 202) X dX12_witnesses_202 fl_RX12_53 sf_122_23 ?_
      refine ao_iconst (pc := 205) X dX12_witnesses_205 ic_3 ?_
      refine ao_iload_n (pc := 206) X dX12_witnesses_206 rfl ?_
      refine ao_imul (pc := 207) X dX12_witnesses_207 ?_
      refine ao_iconst (pc := 208) X dX12_witnesses_208 ic_2 ?_
      refine ao_iadd (pc := 209) X dX12_witnesses_209 ?_
      refine ao_iald (pc := 210) X dX12_witnesses_210 sa_135 ?_
      refine ao_iast (pc := 211) X dX12_witnesses_211 sa_131 ?_
      refine ao_lt (fun m30 => ?_)
      refine ao_aload_n (pc := 212) X dX12_witnesses_212 rfl ?_
      refine ao_dup (pc := 213) X dX12_witnesses_213 rfl ?_
      refine ao_getI (pc := 214) X dX12_witnesses_214 fl_RX12_181 sf_122_8 ?_
      refine ao_iconst (pc := 217) X dX12_witnesses_217 ic_1 ?_
      refine ao_iadd (pc := 218) X dX12_witnesses_218 ?_
      refine ao_putI (pc := 219) X dX12_witnesses_219 fp_RX12_181 sf_122_8 ?_
      refine ao_lt (fun m31 => ?_)
      refine ao_iinc (pc := 222) (k := 2) (v := p3 + (1 : Int32)) (lv' := [(3, .int (p3 + (1 : Int32))), (0, .ref (eAd E 122)), (1, .int p1)]) X dX12_witnesses_222 rfl (ii_ic ic_1) (by decide) rfl ?_
      refine ao_goto (pc := 225) (tgt := 149) X dX12_witnesses_225 (by decide) ?_
      refine ao_sub [1, 2, 0] rfl ?_
      exact ih p1 (p3 + (1 : Int32)) m31
def fX12_witnesses_122_b133 (p1 : Int32) (μ : Mem) : Option (Int32 × Mem) :=
  bnd (fX12_wasRight_122 μ) fun r21 m22 =>
  if r21 = 0 then (some (((-1 : Int32) - (gI m22 122 22)), m22))
  else fX12_witnesses_122_b149 FU p1 (0 : Int32) m22
set_option maxRecDepth 100000 in
set_option maxHeartbeats 4000000 in
theorem bX12_witnesses_122_133 {E : En} {l : Launch} {Z : Zt} (hI : Inj E) (hl0 : lZ l Z) (X : Cx E Z cX12_witnesses RX12 4 5) (hr : rtOf Z = some .int) (p1 : Int32) (μ : Mem) : AO E Z 4 (QI E Z) 133 [(0, .ref (eAd E 122)), (1, .int p1)] [] μ (fX12_witnesses_122_b133 p1 μ) := by
  unfold fX12_witnesses_122_b133
  refine ao_aload_n (pc := 133) X dX12_witnesses_133 rfl ?_
  refine ao_callVI (pc := 134) (As := []) (st := []) X hl0 dX12_witnesses_134 yv_X12_wasRight so_122 ml_RX12_172 (mX12_wasRight_122 hI μ) (Nat.le_of_ble_eq_true rfl) rfl rfl (Nat.le_of_ble_eq_true rfl) (fun r21 m22 => ?_)
  refine ao_if_ne (pc := 137) (tgt := 147) X dX12_witnesses_137 (by decide) (fun _ => ?_) (fun _ => ?_)
  · refine ao_iconst (pc := 147) X dX12_witnesses_147 ic_0 ?_
    refine ao_istore_n (pc := 148) (lv' := [(3, .int (0 : Int32)), (0, .ref (eAd E 122)), (1, .int p1)]) X dX12_witnesses_148 rfl (by decide) rfl ?_
    refine ao_sub [1, 2, 0] rfl ?_
    exact bX12_witnesses_122_149 hI hl0 X hr FU p1 (0 : Int32) m22
  · refine ao_iconst (pc := 140) X dX12_witnesses_140 ic_m1 ?_
    refine ao_aload_n (pc := 141) X dX12_witnesses_141 rfl ?_
    refine ao_getI (pc := 142) X dX12_witnesses_142 fl_RX12_123 sf_122_22 ?_
    refine ao_isub (pc := 145) X dX12_witnesses_145 ?_
    exact ao_iret (pc := 146) X hr dX12_witnesses_146
def fX12_witnesses_122_b120 (k24 : Int32 → Int32 → Mem → Option (Int32 × Mem)) (p1 : Int32) (μ : Mem) : Option (Int32 × Mem) :=
  bnd (fX12_passes_122 (59 : Int32) μ) fun r24 m25 =>
  k24 (p1 + (1 : Int32)) r24 m25
set_option maxRecDepth 100000 in
set_option maxHeartbeats 4000000 in
theorem bX12_witnesses_122_120 {E : En} {l : Launch} {Z : Zt} (hI : Inj E) (hl0 : lZ l Z) (X : Cx E Z cX12_witnesses RX12 4 5) (hr : rtOf Z = some .int) {k24 : Int32 → Int32 → Mem → Option (Int32 × Mem)} (hk24 : ∀ (p1 : Int32) (p2 : Int32) (m : Mem), AO E Z 4 (QI E Z) 24 [(0, .ref (eAd E 122)), (1, .int p1), (2, .int p2)] [] m (k24 p1 p2 m)) (p1 : Int32) (μ : Mem) : AO E Z 4 (QI E Z) 120 [(0, .ref (eAd E 122)), (1, .int p1)] [] μ (fX12_witnesses_122_b120 k24 p1 μ) := by
  unfold fX12_witnesses_122_b120
  refine ao_iinc (pc := 120) (k := 1) (v := p1 + (1 : Int32)) (lv' := [(1, .int (p1 + (1 : Int32))), (0, .ref (eAd E 122))]) X dX12_witnesses_120 rfl (ii_ic ic_1) (by decide) rfl ?_
  refine ao_aload_n (pc := 123) X dX12_witnesses_123 rfl ?_
  refine ao_bipush (pc := 124) X dX12_witnesses_124 bp_59 ?_
  refine ao_callVI (pc := 126) (As := [.int (59 : Int32)]) (st := []) X hl0 dX12_witnesses_126 yv_X12_passes so_122 ml_RX12_138 (mX12_passes_122 hI (59 : Int32) μ) (Nat.le_of_ble_eq_true rfl) rfl rfl (Nat.le_of_ble_eq_true rfl) (fun r24 m25 => ?_)
  refine ao_istore_n (pc := 129) (lv' := [(2, .int r24), (1, .int (p1 + (1 : Int32))), (0, .ref (eAd E 122))]) X dX12_witnesses_129 rfl (by decide) rfl ?_
  refine ao_goto (pc := 130) (tgt := 24) X dX12_witnesses_130 (by decide) ?_
  refine ao_sub [2, 1, 0] rfl ?_
  exact hk24 (p1 + (1 : Int32)) r24 m25
def fX12_witnesses_122_b24 : Nat → Int32 → Int32 → Mem → Option (Int32 × Mem)
  | 0, _, _, _ => none
  | n + 1, p1, p2, μ =>
  if p2 = 0 then (fX12_witnesses_122_b133 p1 μ)
  else bnd (fX12_fine_122 μ) fun r4 m5 =>
    if r4 = 0 then (fX12_witnesses_122_b133 p1 m5)
    else if ((gI m5 122 8) + p1) = (8 : Int32) then (bnd (fX12_fault_122 (gI m5 122 21) m5) fun r19 m20 =>
        fX12_witnesses_122_b120 (fun p1 p2 m => fX12_witnesses_122_b24 n p1 p2 m) p1 m20)
      else bnd (fX12_oneOf_122 (48 : Int32) (gI m5 122 1) m5) fun r6 m7 =>
        gd (inb ((3 : Int32) * p1) 40) (lt (sI m7 135 (ix ((3 : Int32) * p1)) r6) fun m8 =>
        bnd (fX12_need_122 (44 : Int32) m8) fun r9 m10 =>
        bnd (fX12_number_122 (2 : Int32) m10) fun r11 m12 =>
        gd (inb (((3 : Int32) * p1) + (1 : Int32)) 40) (lt (sI m12 135 (ix (((3 : Int32) * p1) + (1 : Int32))) r11) fun m13 =>
        bnd (fX12_need_122 (44 : Int32) m13) fun r14 m15 =>
        bnd (fX12_oneOf_122 (48 : Int32) (10 : Int32) m15) fun r16 m17 =>
        gd (inb (((3 : Int32) * p1) + (2 : Int32)) 40) (lt (sI m17 135 (ix (((3 : Int32) * p1) + (2 : Int32))) r16) fun m18 =>
        fX12_witnesses_122_b120 (fun p1 p2 m => fX12_witnesses_122_b24 n p1 p2 m) p1 m18)))
set_option maxRecDepth 100000 in
set_option maxHeartbeats 4000000 in
theorem bX12_witnesses_122_24 {E : En} {l : Launch} {Z : Zt} (hI : Inj E) (hl0 : lZ l Z) (X : Cx E Z cX12_witnesses RX12 4 5) (hr : rtOf Z = some .int) : ∀ (n : Nat) (p1 : Int32) (p2 : Int32) (μ : Mem), AO E Z 4 (QI E Z) 24 [(0, .ref (eAd E 122)), (1, .int p1), (2, .int p2)] [] μ (fX12_witnesses_122_b24 n p1 p2 μ) := by
  intro n
  induction n with
  | zero =>
    intros
    exact ao_none
  | succ n ih =>
    intro p1 p2 μ
    rw [fX12_witnesses_122_b24]
    refine ao_iload_n (pc := 24) X dX12_witnesses_24 rfl ?_
    refine ao_if_eq (pc := 25) (tgt := 133) X dX12_witnesses_25 (by decide) (fun _ => ?_) (fun _ => ?_)
    · refine ao_sub [0, 1] rfl ?_
      exact bX12_witnesses_122_133 hI hl0 X hr p1 μ
    · refine ao_aload_n (pc := 28) X dX12_witnesses_28 rfl ?_
      refine ao_callVI (pc := 29) (As := []) (st := []) X hl0 dX12_witnesses_29 yv_X12_fine so_122 ml_RX12_130 (mX12_fine_122 hI μ) (Nat.le_of_ble_eq_true rfl) rfl rfl (Nat.le_of_ble_eq_true rfl) (fun r4 m5 => ?_)
      refine ao_if_eq (pc := 32) (tgt := 133) X dX12_witnesses_32 (by decide) (fun _ => ?_) (fun _ => ?_)
      · refine ao_sub [0, 1] rfl ?_
        exact bX12_witnesses_122_133 hI hl0 X hr p1 m5
      · refine ao_aload_n (pc := 35) X dX12_witnesses_35 rfl ?_
        refine ao_getI (pc := 36) X dX12_witnesses_36 fl_RX12_181 sf_122_8 ?_
        refine ao_iload_n (pc := 39) X dX12_witnesses_39 rfl ?_
        refine ao_iadd (pc := 40) X dX12_witnesses_40 ?_
        refine ao_bipush (pc := 41) X dX12_witnesses_41 bp_8 ?_
        refine ao_icmp_ne (pc := 43) (tgt := 57) X dX12_witnesses_43 (by decide) (fun _ => ?_) (fun _ => ?_)
        · refine ao_aload_n (pc := 57) X dX12_witnesses_57 rfl ?_
          refine ao_getR (pc := 58) X dX12_witnesses_58 fl_RX12_53 sf_122_23 ?_
          refine ao_iconst (pc := 61) X dX12_witnesses_61 ic_3 ?_
          refine ao_iload_n (pc := 62) X dX12_witnesses_62 rfl ?_
          refine ao_imul (pc := 63) X dX12_witnesses_63 ?_
          refine ao_aload_n (pc := 64) X dX12_witnesses_64 rfl ?_
          refine ao_bipush (pc := 65) X dX12_witnesses_65 bp_48 ?_
          refine ao_aload_n (pc := 67) X dX12_witnesses_67 rfl ?_
          refine ao_getI (pc := 68) X dX12_witnesses_68 fl_RX12_101 sf_122_1 ?_
          refine ao_callVI (pc := 71) (As := [.int (48 : Int32), .int (gI m5 122 1)]) (st := [.int ((3 : Int32) * p1), .ref (eAd E 135)]) X hl0 dX12_witnesses_71 yv_X12_oneOf so_122 ml_RX12_146 (mX12_oneOf_122 hI (48 : Int32) (gI m5 122 1) m5) (Nat.le_of_ble_eq_true rfl) rfl rfl (Nat.le_of_ble_eq_true rfl) (fun r6 m7 => ?_)
          refine ao_iast (pc := 74) X dX12_witnesses_74 sa_135 ?_
          refine ao_lt (fun m8 => ?_)
          refine ao_aload_n (pc := 75) X dX12_witnesses_75 rfl ?_
          refine ao_bipush (pc := 76) X dX12_witnesses_76 bp_44 ?_
          refine ao_callVV (pc := 78) (As := [.int (44 : Int32)]) (st := []) X hl0 dX12_witnesses_78 yv_X12_need so_122 ml_RX12_154 (mX12_need_122 hI (44 : Int32) m8) (Nat.le_of_ble_eq_true rfl) rfl rfl (Nat.le_of_ble_eq_true rfl) (fun r9 m10 => ?_)
          refine ao_aload_n (pc := 81) X dX12_witnesses_81 rfl ?_
          refine ao_getR (pc := 82) X dX12_witnesses_82 fl_RX12_53 sf_122_23 ?_
          refine ao_iconst (pc := 85) X dX12_witnesses_85 ic_3 ?_
          refine ao_iload_n (pc := 86) X dX12_witnesses_86 rfl ?_
          refine ao_imul (pc := 87) X dX12_witnesses_87 ?_
          refine ao_iconst (pc := 88) X dX12_witnesses_88 ic_1 ?_
          refine ao_iadd (pc := 89) X dX12_witnesses_89 ?_
          refine ao_aload_n (pc := 90) X dX12_witnesses_90 rfl ?_
          refine ao_iconst (pc := 91) X dX12_witnesses_91 ic_2 ?_
          refine ao_callVI (pc := 92) (As := [.int (2 : Int32)]) (st := [.int (((3 : Int32) * p1) + (1 : Int32)), .ref (eAd E 135)]) X hl0 dX12_witnesses_92 yv_X12_number so_122 ml_RX12_150 (mX12_number_122 hI (2 : Int32) m10) (Nat.le_of_ble_eq_true rfl) rfl rfl (Nat.le_of_ble_eq_true rfl) (fun r11 m12 => ?_)
          refine ao_iast (pc := 95) X dX12_witnesses_95 sa_135 ?_
          refine ao_lt (fun m13 => ?_)
          refine ao_aload_n (pc := 96) X dX12_witnesses_96 rfl ?_
          refine ao_bipush (pc := 97) X dX12_witnesses_97 bp_44 ?_
          refine ao_callVV (pc := 99) (As := [.int (44 : Int32)]) (st := []) X hl0 dX12_witnesses_99 yv_X12_need so_122 ml_RX12_154 (mX12_need_122 hI (44 : Int32) m13) (Nat.le_of_ble_eq_true rfl) rfl rfl (Nat.le_of_ble_eq_true rfl) (fun r14 m15 => ?_)
          refine ao_aload_n (pc := 102) X dX12_witnesses_102 rfl ?_
          refine ao_getR (pc := 103) X dX12_witnesses_103 fl_RX12_53 sf_122_23 ?_
          refine ao_iconst (pc := 106) X dX12_witnesses_106 ic_3 ?_
          refine ao_iload_n (pc := 107) X dX12_witnesses_107 rfl ?_
          refine ao_imul (pc := 108) X dX12_witnesses_108 ?_
          refine ao_iconst (pc := 109) X dX12_witnesses_109 ic_2 ?_
          refine ao_iadd (pc := 110) X dX12_witnesses_110 ?_
          refine ao_aload_n (pc := 111) X dX12_witnesses_111 rfl ?_
          refine ao_bipush (pc := 112) X dX12_witnesses_112 bp_48 ?_
          refine ao_bipush (pc := 114) X dX12_witnesses_114 bp_10 ?_
          refine ao_callVI (pc := 116) (As := [.int (48 : Int32), .int (10 : Int32)]) (st := [.int (((3 : Int32) * p1) + (2 : Int32)), .ref (eAd E 135)]) X hl0 dX12_witnesses_116 yv_X12_oneOf so_122 ml_RX12_146 (mX12_oneOf_122 hI (48 : Int32) (10 : Int32) m15) (Nat.le_of_ble_eq_true rfl) rfl rfl (Nat.le_of_ble_eq_true rfl) (fun r16 m17 => ?_)
          refine ao_iast (pc := 119) X dX12_witnesses_119 sa_135 ?_
          refine ao_lt (fun m18 => ?_)
          refine ao_sub [0, 1] rfl ?_
          exact bX12_witnesses_122_120 hI hl0 X hr ih p1 m18
        · refine ao_aload_n (pc := 46) X dX12_witnesses_46 rfl ?_
          refine ao_aload_n (pc := 47) X dX12_witnesses_47 rfl ?_
          refine ao_getI (pc := 48) X dX12_witnesses_48 fl_RX12_120 sf_122_21 ?_
          refine ao_callVV (pc := 51) (As := [.int (gI m5 122 21)]) (st := []) X hl0 dX12_witnesses_51 yv_X12_fault so_122 ml_RX12_142 (mX12_fault_122 hI (gI m5 122 21) m5) (Nat.le_of_ble_eq_true rfl) rfl rfl (Nat.le_of_ble_eq_true rfl) (fun r19 m20 => ?_)
          refine ao_goto (pc := 54) (tgt := 120) X dX12_witnesses_54 (by decide) ?_
          refine ao_sub [0, 1] rfl ?_
          exact bX12_witnesses_122_120 hI hl0 X hr ih p1 m20
def fX12_witnesses_122 (μ : Mem) : Option (Int32 × Mem) :=
  lt (sI μ 122 17 (0 : Int32)) fun m1 =>
  bnd (fX12_beginText_122 (60 : Int32) m1) fun r2 m3 =>
  if (gI m3 122 19) = 0 then (some ((0 : Int32), m3))
  else fX12_witnesses_122_b24 FU (0 : Int32) (1 : Int32) m3
set_option maxRecDepth 100000 in
set_option maxHeartbeats 4000000 in
theorem mX12_witnesses_122 {E : En} {l : Launch} (hI : Inj E) (μ : Mem) : MtI E l yX12_witnesses cX12_witnesses 4 (some .int) 5 [.ref (eAd E 122)] μ (fX12_witnesses_122 μ) := by
  refine mtI_of (own := RX12) [(0, .ref (eAd E 122))] hI rfl (by decide) (Nat.le_of_ble_eq_true rfl) (Nat.le_of_ble_eq_true rfl) rfl (fun Z hl0 X hr => ?_)
  unfold fX12_witnesses_122
  refine ao_aload_n (pc := 0) X dX12_witnesses_0 rfl ?_
  refine ao_iconst (pc := 1) X dX12_witnesses_1 ic_0 ?_
  refine ao_putI (pc := 2) X dX12_witnesses_2 fp_RX12_95 sf_122_17 ?_
  refine ao_lt (fun m1 => ?_)
  refine ao_aload_n (pc := 5) X dX12_witnesses_5 rfl ?_
  refine ao_bipush (pc := 6) X dX12_witnesses_6 bp_60 ?_
  refine ao_callVV (pc := 8) (As := [.int (60 : Int32)]) (st := []) X hl0 dX12_witnesses_8 yv_X12_beginText so_122 ml_RX12_162 (mX12_beginText_122 hI (60 : Int32) m1) (Nat.le_of_ble_eq_true rfl) rfl rfl (Nat.le_of_ble_eq_true rfl) (fun r2 m3 => ?_)
  refine ao_aload_n (pc := 11) X dX12_witnesses_11 rfl ?_
  refine ao_getI (pc := 12) X dX12_witnesses_12 fl_RX12_114 sf_122_19 ?_
  refine ao_if_ne (pc := 15) (tgt := 20) X dX12_witnesses_15 (by decide) (fun _ => ?_) (fun _ => ?_)
  · refine ao_iconst (pc := 20) X dX12_witnesses_20 ic_0 ?_
    refine ao_istore_n (pc := 21) (lv' := [(1, .int (0 : Int32)), (0, .ref (eAd E 122))]) X dX12_witnesses_21 rfl (by decide) rfl ?_
    refine ao_iconst (pc := 22) X dX12_witnesses_22 ic_1 ?_
    refine ao_istore_n (pc := 23) (lv' := [(2, .int (1 : Int32)), (1, .int (0 : Int32)), (0, .ref (eAd E 122))]) X dX12_witnesses_23 rfl (by decide) rfl ?_
    refine ao_sub [2, 1, 0] rfl ?_
    exact bX12_witnesses_122_24 hI hl0 X hr FU (0 : Int32) (1 : Int32) m3
  · refine ao_iconst (pc := 18) X dX12_witnesses_18 ic_0 ?_
    exact ao_iret (pc := 19) X hr dX12_witnesses_19
def fX2_enact_24 (μ : Mem) : Option (Unit × Mem) :=
  gd (cpOK (0 : Int32) (0 : Int32) (4 : Int32) 4 4) (lt (sC μ 26 25 (ix (0 : Int32)) (ix (0 : Int32)) (ix (4 : Int32))) fun m1 =>
  some ((), m1))
set_option maxRecDepth 100000 in
set_option maxHeartbeats 4000000 in
theorem mX2_enact_24 {E : En} {l : Launch} (hI : Inj E) (μ : Mem) : MtV E l yX2_enact cX2_enact 1 (none) 1 [.ref (eAd E 24)] μ (fX2_enact_24 μ) := by
  refine mtV_of (own := RX2) [(0, .ref (eAd E 24))] hI rfl (by decide) (Nat.le_of_ble_eq_true rfl) (Nat.le_of_ble_eq_true rfl) rfl (fun Z hl0 X hr => ?_)
  unfold fX2_enact_24
  refine ao_aload_n (pc := 0) X dX2_enact_0 rfl ?_
  refine ao_getR (pc := 1) X dX2_enact_1 fl_RX2_15 sf_24_1 ?_
  refine ao_iconst (pc := 4) X dX2_enact_4 ic_0 ?_
  refine ao_aload_n (pc := 5) X dX2_enact_5 rfl ?_
  refine ao_getR (pc := 6) X dX2_enact_6 fl_RX2_9 sf_24_0 ?_
  refine ao_iconst (pc := 9) X dX2_enact_9 ic_0 ?_
  refine ao_iconst (pc := 10) X dX2_enact_10 ic_4 ?_
  refine ao_copy (pc := 11) X dX2_enact_11 ml_RX2_50 CpyW_ok sa_26 sa_25 (Nat.le_of_ble_eq_true rfl) ?_
  refine ao_lt (fun m1 => ?_)
  exact ao_vret (pc := 14) X hr dX2_enact_14
def fJ0_isLatin1_aae02_s3 (μ : Mem) : Option (Int32 × Mem) :=
  if (1 : Int32) = 0 then (some ((0 : Int32), μ))
  else if (0 : Int32) = 0 then (some ((1 : Int32), μ))
    else some ((0 : Int32), μ)
set_option maxRecDepth 100000 in
set_option maxHeartbeats 4000000 in
theorem mJ0_isLatin1_aae02_s3 {E : En} {l : Launch} (hI : Inj E) (μ : Mem) : MtI E l yJ0_isLatin1_aae02 cJ0_isLatin1_aae02 1 (some .boolean) 1 [.ref (eSk E 3)] μ (fJ0_isLatin1_aae02_s3 μ) := by
  refine mtI_of (own := RJ0) [(0, .ref (eSk E 3))] hI rfl (by decide) (Nat.le_of_ble_eq_true rfl) (Nat.le_of_ble_eq_true rfl) rfl (fun Z hl0 X hr => ?_)
  unfold fJ0_isLatin1_aae02_s3
  refine ao_scomp (pc := 0) X dJ0_isLatin1_aae02_0 fs_RJ0_38 ?_
  refine ao_if_eq (pc := 3) (tgt := 17) X dJ0_isLatin1_aae02_3 (by decide) (fun _ => ?_) (fun _ => ?_)
  · refine ao_iconst (pc := 17) X dJ0_isLatin1_aae02_17 ic_0 ?_
    exact ao_zret (pc := 18) X hr rfl dJ0_isLatin1_aae02_18
  · refine ao_aload_n (pc := 6) X dJ0_isLatin1_aae02_6 rfl ?_
    refine ao_scod (pc := 7) X dJ0_isLatin1_aae02_7 (by decide) fs_RJ0_15 ?_
    refine ao_if_ne (pc := 10) (tgt := 17) X dJ0_isLatin1_aae02_10 (by decide) (fun _ => ?_) (fun _ => ?_)
    · refine ao_iconst (pc := 17) X dJ0_isLatin1_aae02_17 ic_0 ?_
      exact ao_zret (pc := 18) X hr rfl dJ0_isLatin1_aae02_18
    · refine ao_iconst (pc := 13) X dJ0_isLatin1_aae02_13 ic_1 ?_
      refine ao_goto (pc := 14) (tgt := 18) X dJ0_isLatin1_aae02_14 (by decide) ?_
      exact ao_zret (pc := 18) X hr rfl dJ0_isLatin1_aae02_18
def fJ0_coder_7d493_s3 (μ : Mem) : Option (Int32 × Mem) :=
  if (1 : Int32) = 0 then (some ((1 : Int32), μ))
  else some ((0 : Int32), μ)
set_option maxRecDepth 100000 in
set_option maxHeartbeats 4000000 in
theorem mJ0_coder_7d493_s3 {E : En} {l : Launch} (hI : Inj E) (μ : Mem) : MtI E l yJ0_coder_7d493 cJ0_coder_7d493 1 (some .byte) 1 [.ref (eSk E 3)] μ (fJ0_coder_7d493_s3 μ) := by
  refine mtI_of (own := RJ0) [(0, .ref (eSk E 3))] hI rfl (by decide) (Nat.le_of_ble_eq_true rfl) (Nat.le_of_ble_eq_true rfl) rfl (fun Z hl0 X hr => ?_)
  unfold fJ0_coder_7d493_s3
  refine ao_scomp (pc := 0) X dJ0_coder_7d493_0 fs_RJ0_38 ?_
  refine ao_if_eq (pc := 3) (tgt := 13) X dJ0_coder_7d493_3 (by decide) (fun _ => ?_) (fun _ => ?_)
  · refine ao_iconst (pc := 13) X dJ0_coder_7d493_13 ic_1 ?_
    exact ao_zret (pc := 14) X hr rfl dJ0_coder_7d493_14
  · refine ao_aload_n (pc := 6) X dJ0_coder_7d493_6 rfl ?_
    refine ao_scod (pc := 7) X dJ0_coder_7d493_7 (by decide) fs_RJ0_15 ?_
    refine ao_goto (pc := 10) (tgt := 14) X dJ0_coder_7d493_10 (by decide) ?_
    exact ao_zret (pc := 14) X hr rfl dJ0_coder_7d493_14
def fJ0_length_8abf5_s3 (μ : Mem) : Option (Int32 × Mem) :=
  bnd (fJ0_coder_7d493_s3 μ) fun r1 m2 =>
  some (((3 : Int32) >>> (r1 &&& 31)), m2)
set_option maxRecDepth 100000 in
set_option maxHeartbeats 4000000 in
theorem mJ0_length_8abf5_s3 {E : En} {l : Launch} (hI : Inj E) (μ : Mem) : MtI E l yJ0_length_8abf5 cJ0_length_8abf5 1 (some .int) 2 [.ref (eSk E 3)] μ (fJ0_length_8abf5_s3 μ) := by
  refine mtI_of (own := RJ0) [(0, .ref (eSk E 3))] hI rfl (by decide) (Nat.le_of_ble_eq_true rfl) (Nat.le_of_ble_eq_true rfl) rfl (fun Z hl0 X hr => ?_)
  unfold fJ0_length_8abf5_s3
  refine ao_aload_n (pc := 0) X dJ0_length_8abf5_0 rfl ?_
  refine ao_sval (pc := 1) X dJ0_length_8abf5_1 (by decide) fs_RJ0_9 ?_
  refine ao_slen (pc := 4) (v := (3 : Int32)) X dJ0_length_8abf5_4 (by decide) (by decide) ?_
  refine ao_aload_n (pc := 5) X dJ0_length_8abf5_5 rfl ?_
  refine ao_callT (pc := 6) (As := []) (st := [.int (3 : Int32)]) X hl0 dJ0_length_8abf5_6 (by decide) yv_J0_coder_7d493 ml_RJ0_335 (mJ0_coder_7d493_s3 hI μ) (Nat.le_of_ble_eq_true rfl) rfl rfl (Nat.le_of_ble_eq_true rfl) (fun r1 m2 => ?_)
  refine ao_ishr (pc := 9) X dJ0_length_8abf5_9 ?_
  exact ao_iret (pc := 10) X hr dJ0_length_8abf5_10
def fJ1_indexOfChar_4cfef_v3_b7 : Nat → Int32 → Int32 → Int32 → Mem → Option (Int32 × Mem)
  | 0, _, _, _, _ => none
  | n + 1, p3, p4, p5, μ =>
  if p3 ≤ p5 then (some ((-1 : Int32), μ))
  else gd (inb p5 3) (if (sch 3 p5) = p4 then (some (p5, μ))
    else fJ1_indexOfChar_4cfef_v3_b7 n p3 p4 (p5 + (1 : Int32)) μ)
set_option maxRecDepth 100000 in
set_option maxHeartbeats 4000000 in
theorem bJ1_indexOfChar_4cfef_v3_7 {E : En} {l : Launch} {Z : Zt} (hI : Inj E) (hl0 : lZ l Z) (X : Cx E Z cJ1_indexOfChar_4cfef RJ1 6 1) (hr : rtOf Z = some .int) : ∀ (n : Nat) (p3 : Int32) (p4 : Int32) (p5 : Int32) (μ : Mem), AO E Z 6 (QI E Z) 7 [(0, .ref (eSv E 3)), (3, .int p3), (4, .int p4), (5, .int p5)] [] μ (fJ1_indexOfChar_4cfef_v3_b7 n p3 p4 p5 μ) := by
  intro n
  induction n with
  | zero =>
    intros
    exact ao_none
  | succ n ih =>
    intro p3 p4 p5 μ
    rw [fJ1_indexOfChar_4cfef_v3_b7]
    refine ao_iload (pc := 7) X dJ1_indexOfChar_4cfef_7 rfl ?_
    refine ao_iload_n (pc := 9) X dJ1_indexOfChar_4cfef_9 rfl ?_
    refine ao_icmp_ge (pc := 10) (tgt := 31) X dJ1_indexOfChar_4cfef_10 (by decide) (fun _ => ?_) (fun _ => ?_)
    · refine ao_iconst (pc := 31) X dJ1_indexOfChar_4cfef_31 ic_m1 ?_
      exact ao_iret (pc := 32) X hr dJ1_indexOfChar_4cfef_32
    · refine ao_aload_n (pc := 13) X dJ1_indexOfChar_4cfef_13 rfl ?_
      refine ao_iload (pc := 14) X dJ1_indexOfChar_4cfef_14 rfl ?_
      refine ao_sbald (pc := 16) X dJ1_indexOfChar_4cfef_16 (by decide) rfl ?_
      refine ao_iload (pc := 17) X dJ1_indexOfChar_4cfef_17 rfl ?_
      refine ao_icmp_ne (pc := 19) (tgt := 25) X dJ1_indexOfChar_4cfef_19 (by decide) (fun _ => ?_) (fun _ => ?_)
      · refine ao_iinc (pc := 25) (k := 3) (v := p5 + (1 : Int32)) (lv' := [(5, .int (p5 + (1 : Int32))), (0, .ref (eSv E 3)), (3, .int p3), (4, .int p4)]) X dJ1_indexOfChar_4cfef_25 rfl (ii_ic ic_1) (by decide) rfl ?_
        refine ao_goto (pc := 28) (tgt := 7) X dJ1_indexOfChar_4cfef_28 (by decide) ?_
        refine ao_sub [1, 2, 3, 0] rfl ?_
        exact ih p3 p4 (p5 + (1 : Int32)) μ
      · refine ao_iload (pc := 22) X dJ1_indexOfChar_4cfef_22 rfl ?_
        exact ao_iret (pc := 24) X hr dJ1_indexOfChar_4cfef_24
def fJ1_indexOfChar_4cfef_v3 (v1 : Int32) (v2 : Int32) (v3 : Int32) (μ : Mem) : Option (Int32 × Mem) :=
  lt (Int8.toInt32 (Int32.toInt8 v1)) fun x1 =>
  fJ1_indexOfChar_4cfef_v3_b7 FU v3 x1 v2 μ
set_option maxRecDepth 100000 in
set_option maxHeartbeats 4000000 in
theorem mJ1_indexOfChar_4cfef_v3 {E : En} {l : Launch} (hI : Inj E) (v1 : Int32) (v2 : Int32) (v3 : Int32) (μ : Mem) : MtI E l yJ1_indexOfChar_4cfef cJ1_indexOfChar_4cfef 6 (some .int) 1 [.ref (eSv E 3), .int v1, .int v2, .int v3] μ (fJ1_indexOfChar_4cfef_v3 v1 v2 v3 μ) := by
  refine mtI_of (own := RJ1) [(0, .ref (eSv E 3)), (1, .int v1), (2, .int v2), (3, .int v3)] hI rfl (by decide) (Nat.le_of_ble_eq_true rfl) (Nat.le_of_ble_eq_true rfl) rfl (fun Z hl0 X hr => ?_)
  unfold fJ1_indexOfChar_4cfef_v3
  refine ao_iload_n (pc := 0) X dJ1_indexOfChar_4cfef_0 rfl ?_
  refine ao_i2b (pc := 1) X dJ1_indexOfChar_4cfef_1 ?_
  refine ao_ltI (fun x1 => ?_)
  refine ao_istore (pc := 2) (lv' := [(4, .int x1), (0, .ref (eSv E 3)), (1, .int v1), (2, .int v2), (3, .int v3)]) X dJ1_indexOfChar_4cfef_2 (by decide) rfl ?_
  refine ao_iload_n (pc := 4) X dJ1_indexOfChar_4cfef_4 rfl ?_
  refine ao_istore (pc := 5) (lv' := [(5, .int v2), (4, .int x1), (0, .ref (eSv E 3)), (1, .int v1), (2, .int v2), (3, .int v3)]) X dJ1_indexOfChar_4cfef_5 (by decide) rfl ?_
  refine ao_sub [2, 5, 1, 0] rfl ?_
  exact bJ1_indexOfChar_4cfef_v3_7 hI hl0 X hr FU v3 x1 v2 μ
def fJ1_indexOf_4cfef_v3 (v1 : Int32) (v2 : Int32) (v3 : Int32) (μ : Mem) : Option (Int32 × Mem) :=
  bnd (fJ1_canEncode_9a6ad v1 μ) fun r1 m2 =>
  if r1 = 0 then (some ((-1 : Int32), m2))
  else lt (imax v2 (0 : Int32)) fun x3 =>
    lt (imin v3 (3 : Int32)) fun x4 =>
    if x3 < x4 then (bnd (fJ1_indexOfChar_4cfef_v3 v1 x3 x4 m2) fun r5 m6 =>
      some (r5, m6))
    else some ((-1 : Int32), m2)
set_option maxRecDepth 100000 in
set_option maxHeartbeats 4000000 in
theorem mJ1_indexOf_4cfef_v3 {E : En} {l : Launch} (hI : Inj E) (v1 : Int32) (v2 : Int32) (v3 : Int32) (μ : Mem) : MtI E l yJ1_indexOf_4cfef cJ1_indexOf_4cfef 4 (some .int) 2 [.ref (eSv E 3), .int v1, .int v2, .int v3] μ (fJ1_indexOf_4cfef_v3 v1 v2 v3 μ) := by
  refine mtI_of (own := RJ1) [(0, .ref (eSv E 3)), (1, .int v1), (2, .int v2), (3, .int v3)] hI rfl (by decide) (Nat.le_of_ble_eq_true rfl) (Nat.le_of_ble_eq_true rfl) rfl (fun Z hl0 X hr => ?_)
  unfold fJ1_indexOf_4cfef_v3
  refine ao_iload_n (pc := 0) X dJ1_indexOf_4cfef_0 rfl ?_
  refine ao_callSI (pc := 1) (As := [.int v1]) (st := []) X hl0 dJ1_indexOf_4cfef_1 yv_J1_canEncode_9a6ad ml_RJ1_88 (mJ1_canEncode_9a6ad hI v1 μ) (Nat.le_of_ble_eq_true rfl) rfl rfl (Nat.le_of_ble_eq_true rfl) (fun r1 m2 => ?_)
  refine ao_if_ne (pc := 4) (tgt := 9) X dJ1_indexOf_4cfef_4 (by decide) (fun _ => ?_) (fun _ => ?_)
  · refine ao_iload_n (pc := 9) X dJ1_indexOf_4cfef_9 rfl ?_
    refine ao_iconst (pc := 10) X dJ1_indexOf_4cfef_10 ic_0 ?_
    refine ao_max (pc := 11) X dJ1_indexOf_4cfef_11 ml_RJ1_92 MaxW_ok (Nat.le_of_ble_eq_true rfl) ?_
    refine ao_ltI (fun x3 => ?_)
    refine ao_istore_n (pc := 14) (lv' := [(2, .int x3), (0, .ref (eSv E 3)), (1, .int v1), (3, .int v3)]) X dJ1_indexOf_4cfef_14 rfl (by decide) rfl ?_
    refine ao_iload_n (pc := 15) X dJ1_indexOf_4cfef_15 rfl ?_
    refine ao_aload_n (pc := 16) X dJ1_indexOf_4cfef_16 rfl ?_
    refine ao_slen (pc := 17) (v := (3 : Int32)) X dJ1_indexOf_4cfef_17 (by decide) (by decide) ?_
    refine ao_min (pc := 18) X dJ1_indexOf_4cfef_18 ml_RJ1_38 MinW_ok (Nat.le_of_ble_eq_true rfl) ?_
    refine ao_ltI (fun x4 => ?_)
    refine ao_istore_n (pc := 21) (lv' := [(3, .int x4), (2, .int x3), (0, .ref (eSv E 3)), (1, .int v1)]) X dJ1_indexOf_4cfef_21 rfl (by decide) rfl ?_
    refine ao_iload_n (pc := 22) X dJ1_indexOf_4cfef_22 rfl ?_
    refine ao_iload_n (pc := 23) X dJ1_indexOf_4cfef_23 rfl ?_
    refine ao_icmp_lt (pc := 24) (tgt := 29) X dJ1_indexOf_4cfef_24 (by decide) (fun _ => ?_) (fun _ => ?_)
    · refine ao_aload_n (pc := 29) X dJ1_indexOf_4cfef_29 rfl ?_
      refine ao_iload_n (pc := 30) X dJ1_indexOf_4cfef_30 rfl ?_
      refine ao_iload_n (pc := 31) X dJ1_indexOf_4cfef_31 rfl ?_
      refine ao_iload_n (pc := 32) X dJ1_indexOf_4cfef_32 rfl ?_
      refine ao_callSI (pc := 33) (As := [.ref (eSv E 3), .int v1, .int x3, .int x4]) (st := []) X hl0 dJ1_indexOf_4cfef_33 yv_J1_indexOfChar_4cfef ml_RJ1_95 (mJ1_indexOfChar_4cfef_v3 hI v1 x3 x4 m2) (Nat.le_of_ble_eq_true rfl) rfl rfl (Nat.le_of_ble_eq_true rfl) (fun r5 m6 => ?_)
      exact ao_iret (pc := 36) X hr dJ1_indexOf_4cfef_36
    · refine ao_iconst (pc := 27) X dJ1_indexOf_4cfef_27 ic_m1 ?_
      exact ao_iret (pc := 28) X hr dJ1_indexOf_4cfef_28
  · refine ao_iconst (pc := 7) X dJ1_indexOf_4cfef_7 ic_m1 ?_
    exact ao_iret (pc := 8) X hr dJ1_indexOf_4cfef_8
def fJ0_indexOf_7cf53_s3 (v1 : Int32) (v2 : Int32) (μ : Mem) : Option (Int32 × Mem) :=
  bnd (fJ0_isLatin1_aae02_s3 μ) fun r1 m2 =>
  if r1 = 0 then (bnd (fJ0_length_8abf5_s3 m2) fun r3 m4 =>
    none)
  else bnd (fJ0_length_8abf5_s3 m2) fun r5 m6 =>
    bnd (fJ1_indexOf_4cfef_v3 v1 v2 r5 m6) fun r7 m8 =>
    some (r7, m8)
set_option maxRecDepth 100000 in
set_option maxHeartbeats 4000000 in
theorem mJ0_indexOf_7cf53_s3 {E : En} {l : Launch} (hI : Inj E) (v1 : Int32) (v2 : Int32) (μ : Mem) : MtI E l yJ0_indexOf_7cf53 cJ0_indexOf_7cf53 3 (some .int) 3 [.ref (eSk E 3), .int v1, .int v2] μ (fJ0_indexOf_7cf53_s3 v1 v2 μ) := by
  refine mtI_of (own := RJ0) [(0, .ref (eSk E 3)), (1, .int v1), (2, .int v2)] hI rfl (by decide) (Nat.le_of_ble_eq_true rfl) (Nat.le_of_ble_eq_true rfl) rfl (fun Z hl0 X hr => ?_)
  unfold fJ0_indexOf_7cf53_s3
  refine ao_aload_n (pc := 0) X dJ0_indexOf_7cf53_0 rfl ?_
  refine ao_callT (pc := 1) (As := []) (st := []) X hl0 dJ0_indexOf_7cf53_1 (by decide) yv_J0_isLatin1_aae02 ml_RJ0_492 (mJ0_isLatin1_aae02_s3 hI μ) (Nat.le_of_ble_eq_true rfl) rfl rfl (Nat.le_of_ble_eq_true rfl) (fun r1 m2 => ?_)
  refine ao_if_eq (pc := 4) (tgt := 23) X dJ0_indexOf_7cf53_4 (by decide) (fun _ => ?_) (fun _ => ?_)
  · refine ao_aload_n (pc := 23) X dJ0_indexOf_7cf53_23 rfl ?_
    refine ao_sval (pc := 24) X dJ0_indexOf_7cf53_24 (by decide) fs_RJ0_9 ?_
    refine ao_iload_n (pc := 27) X dJ0_indexOf_7cf53_27 rfl ?_
    refine ao_iload_n (pc := 28) X dJ0_indexOf_7cf53_28 rfl ?_
    refine ao_aload_n (pc := 29) X dJ0_indexOf_7cf53_29 rfl ?_
    refine ao_callT (pc := 30) (As := []) (st := [.int v2, .int v1, .ref (eSv E 3)]) X hl0 dJ0_indexOf_7cf53_30 (by decide) yv_J0_length_8abf5 ml_RJ0_505 (mJ0_length_8abf5_s3 hI m2) (Nat.le_of_ble_eq_true rfl) rfl rfl (Nat.le_of_ble_eq_true rfl) (fun r3 m4 => ?_)
    exact ao_none
  · refine ao_aload_n (pc := 7) X dJ0_indexOf_7cf53_7 rfl ?_
    refine ao_sval (pc := 8) X dJ0_indexOf_7cf53_8 (by decide) fs_RJ0_9 ?_
    refine ao_iload_n (pc := 11) X dJ0_indexOf_7cf53_11 rfl ?_
    refine ao_iload_n (pc := 12) X dJ0_indexOf_7cf53_12 rfl ?_
    refine ao_aload_n (pc := 13) X dJ0_indexOf_7cf53_13 rfl ?_
    refine ao_callT (pc := 14) (As := []) (st := [.int v2, .int v1, .ref (eSv E 3)]) X hl0 dJ0_indexOf_7cf53_14 (by decide) yv_J0_length_8abf5 ml_RJ0_505 (mJ0_length_8abf5_s3 hI m2) (Nat.le_of_ble_eq_true rfl) rfl rfl (Nat.le_of_ble_eq_true rfl) (fun r5 m6 => ?_)
    refine ao_callSI (pc := 17) (As := [.ref (eSv E 3), .int v1, .int v2, .int r5]) (st := []) X hl0 dJ0_indexOf_7cf53_17 yv_J1_indexOf_4cfef ml_RJ0_637 (mJ1_indexOf_4cfef_v3 hI v1 v2 r5 m6) (Nat.le_of_ble_eq_true rfl) rfl rfl (Nat.le_of_ble_eq_true rfl) (fun r7 m8 => ?_)
    refine ao_goto (pc := 20) (tgt := 36) X dJ0_indexOf_7cf53_20 (by decide) ?_
    exact ao_iret (pc := 36) X hr dJ0_indexOf_7cf53_36
def fJ0_indexOf_0f7a4_s3 (v1 : Int32) (μ : Mem) : Option (Int32 × Mem) :=
  bnd (fJ0_indexOf_7cf53_s3 v1 (0 : Int32) μ) fun r1 m2 =>
  some (r1, m2)
set_option maxRecDepth 100000 in
set_option maxHeartbeats 4000000 in
theorem mJ0_indexOf_0f7a4_s3 {E : En} {l : Launch} (hI : Inj E) (v1 : Int32) (μ : Mem) : MtI E l yJ0_indexOf_0f7a4 cJ0_indexOf_0f7a4 2 (some .int) 4 [.ref (eSk E 3), .int v1] μ (fJ0_indexOf_0f7a4_s3 v1 μ) := by
  refine mtI_of (own := RJ0) [(0, .ref (eSk E 3)), (1, .int v1)] hI rfl (by decide) (Nat.le_of_ble_eq_true rfl) (Nat.le_of_ble_eq_true rfl) rfl (fun Z hl0 X hr => ?_)
  unfold fJ0_indexOf_0f7a4_s3
  refine ao_aload_n (pc := 0) X dJ0_indexOf_0f7a4_0 rfl ?_
  refine ao_iload_n (pc := 1) X dJ0_indexOf_0f7a4_1 rfl ?_
  refine ao_iconst (pc := 2) X dJ0_indexOf_0f7a4_2 ic_0 ?_
  refine ao_callT (pc := 3) (As := [.int v1, .int (0 : Int32)]) (st := []) X hl0 dJ0_indexOf_0f7a4_3 (by decide) yv_J0_indexOf_7cf53 ml_RJ0_633 (mJ0_indexOf_7cf53_s3 hI v1 (0 : Int32) μ) (Nat.le_of_ble_eq_true rfl) rfl rfl (Nat.le_of_ble_eq_true rfl) (fun r1 m2 => ?_)
  exact ao_iret (pc := 6) X hr dJ0_indexOf_0f7a4_6
def fX9_takesOneOf_1_s3 (μ : Mem) : Option (Int32 × Mem) :=
  if (gI μ 1 2) < (gI μ 1 3) then (gd (inb (gI μ 1 2) 80) (bnd (fJ0_indexOf_0f7a4_s3 (gI μ 2 (ix (gI μ 1 2))) μ) fun r1 m2 =>
    if r1 < 0 then (some (r1, m2))
    else lt (sI m2 1 2 ((gI m2 1 2) + (1 : Int32))) fun m3 =>
      some (r1, m3)))
  else some ((-1 : Int32), μ)
set_option maxRecDepth 100000 in
set_option maxHeartbeats 4000000 in
theorem mX9_takesOneOf_1_s3 {E : En} {l : Launch} (hI : Inj E) (μ : Mem) : MtI E l yX9_takesOneOf cX9_takesOneOf 3 (some .int) 5 [.ref (eAd E 1), .ref (eSk E 3)] μ (fX9_takesOneOf_1_s3 μ) := by
  refine mtI_of (own := RX9) [(0, .ref (eAd E 1)), (1, .ref (eSk E 3))] hI rfl (by decide) (Nat.le_of_ble_eq_true rfl) (Nat.le_of_ble_eq_true rfl) rfl (fun Z hl0 X hr => ?_)
  unfold fX9_takesOneOf_1_s3
  refine ao_aload_n (pc := 0) X dX9_takesOneOf_0 rfl ?_
  refine ao_getI (pc := 1) X dX9_takesOneOf_1 fl_RX9_19 sf_1_2 ?_
  refine ao_aload_n (pc := 4) X dX9_takesOneOf_4 rfl ?_
  refine ao_getI (pc := 5) X dX9_takesOneOf_5 fl_RX9_22 sf_1_3 ?_
  refine ao_icmp_lt (pc := 8) (tgt := 13) X dX9_takesOneOf_8 (by decide) (fun _ => ?_) (fun _ => ?_)
  · refine ao_aload_n (pc := 13) X dX9_takesOneOf_13 rfl ?_
    refine ao_aload_n (pc := 14) X dX9_takesOneOf_14 rfl ?_
    refine ao_getR (pc := 15) X dX9_takesOneOf_15 fl_RX9_11 sf_1_0 ?_
    refine ao_aload_n (pc := 18) X dX9_takesOneOf_18 rfl ?_
    refine ao_getI (pc := 19) X dX9_takesOneOf_19 fl_RX9_19 sf_1_2 ?_
    refine ao_cald (pc := 22) X dX9_takesOneOf_22 sa_2 ?_
    refine ao_callT (pc := 23) (As := [.int (gI μ 2 (ix (gI μ 1 2)))]) (st := []) X hl0 dX9_takesOneOf_23 (by decide) yv_J0_indexOf_0f7a4 ml_RX9_34 (mJ0_indexOf_0f7a4_s3 hI (gI μ 2 (ix (gI μ 1 2))) μ) (Nat.le_of_ble_eq_true rfl) rfl rfl (Nat.le_of_ble_eq_true rfl) (fun r1 m2 => ?_)
    refine ao_istore_n (pc := 26) (lv' := [(2, .int r1), (0, .ref (eAd E 1)), (1, .ref (eSk E 3))]) X dX9_takesOneOf_26 rfl (by decide) rfl ?_
    refine ao_iload_n (pc := 27) X dX9_takesOneOf_27 rfl ?_
    refine ao_if_lt (pc := 28) (tgt := 41) X dX9_takesOneOf_28 (by decide) (fun _ => ?_) (fun _ => ?_)
    · refine ao_iload_n (pc := 41) X dX9_takesOneOf_41 rfl ?_
      exact ao_iret (pc := 42) X hr dX9_takesOneOf_42
    · refine ao_aload_n (pc := 31) X dX9_takesOneOf_31 rfl ?_
      refine ao_dup (pc := 32) X dX9_takesOneOf_32 rfl ?_
      refine ao_getI (pc := 33) X dX9_takesOneOf_33 fl_RX9_19 sf_1_2 ?_
      refine ao_iconst (pc := 36) X dX9_takesOneOf_36 ic_1 ?_
      refine ao_iadd (pc := 37) X dX9_takesOneOf_37 ?_
      refine ao_putI (pc := 38) X dX9_takesOneOf_38 fp_RX9_19 sf_1_2 ?_
      refine ao_lt (fun m3 => ?_)
      refine ao_iload_n (pc := 41) X dX9_takesOneOf_41 rfl ?_
      exact ao_iret (pc := 42) X hr dX9_takesOneOf_42
  · refine ao_iconst (pc := 11) X dX9_takesOneOf_11 ic_m1 ?_
    exact ao_iret (pc := 12) X hr dX9_takesOneOf_12
def fX2_readLaw_24_1_b10 : Nat → Int32 → Int32 → Mem → Option (Int32 × Mem)
  | 0, _, _, _ => none
  | n + 1, p2, p3, μ =>
  if (4 : Int32) ≤ p3 then (bnd (fX9_isRead_1 μ) fun r3 m4 =>
    if r3 = 0 then (bnd (fX9_wrong_1 m4) fun r5 m6 =>
      some (r5, m6))
    else some (p2, m4))
  else bnd (fX9_takesOneOf_1_s3 μ) fun r7 m8 =>
    gd (inb p3 4) (lt (sI m8 26 (ix p3) r7) fun m9 =>
    gd (inb p3 4) (if 0 ≤ (gI m9 26 (ix p3)) then (gd (inb p3 4) (if (gI m9 26 (ix p3)) = (1 : Int32) then (lt (p2 + (1 : Int32)) fun x12 =>
        fX2_readLaw_24_1_b10 n x12 (p3 + (1 : Int32)) m9)
      else lt (p2 + (0 : Int32)) fun x10 =>
        fX2_readLaw_24_1_b10 n x10 (p3 + (1 : Int32)) m9))
    else bnd (fX9_wrong_1 m9) fun r14 m15 =>
      some (r14, m15)))
set_option maxRecDepth 100000 in
set_option maxHeartbeats 4000000 in
theorem bX2_readLaw_24_1_10 {E : En} {l : Launch} {Z : Zt} (hI : Inj E) (hl0 : lZ l Z) (X : Cx E Z cX2_readLaw RX2 4 6) (hr : rtOf Z = some .int) : ∀ (n : Nat) (p2 : Int32) (p3 : Int32) (μ : Mem), AO E Z 4 (QI E Z) 10 [(0, .ref (eAd E 24)), (1, .ref (eAd E 1)), (2, .int p2), (3, .int p3)] [] μ (fX2_readLaw_24_1_b10 n p2 p3 μ) := by
  intro n
  induction n with
  | zero =>
    intros
    exact ao_none
  | succ n ih =>
    intro p2 p3 μ
    rw [fX2_readLaw_24_1_b10]
    refine ao_iload_n (pc := 10) X dX2_readLaw_10 rfl ?_
    refine ao_iconst (pc := 11) X dX2_readLaw_11 ic_4 ?_
    refine ao_icmp_ge (pc := 12) (tgt := 65) X dX2_readLaw_12 (by decide) (fun _ => ?_) (fun _ => ?_)
    · refine ao_aload_n (pc := 65) X dX2_readLaw_65 rfl ?_
      refine ao_callVI (pc := 66) (As := []) (st := []) X hl0 dX2_readLaw_66 yv_X9_isRead so_1 ml_RX2_46 (mX9_isRead_1 hI μ) (Nat.le_of_ble_eq_true rfl) rfl rfl (Nat.le_of_ble_eq_true rfl) (fun r3 m4 => ?_)
      refine ao_if_eq (pc := 69) (tgt := 76) X dX2_readLaw_69 (by decide) (fun _ => ?_) (fun _ => ?_)
      · refine ao_aload_n (pc := 76) X dX2_readLaw_76 rfl ?_
        refine ao_callVI (pc := 77) (As := []) (st := []) X hl0 dX2_readLaw_77 yv_X9_wrong so_1 ml_RX2_38 (mX9_wrong_1 hI m4) (Nat.le_of_ble_eq_true rfl) rfl rfl (Nat.le_of_ble_eq_true rfl) (fun r5 m6 => ?_)
        exact ao_iret (pc := 80) X hr dX2_readLaw_80
      · refine ao_iload_n (pc := 72) X dX2_readLaw_72 rfl ?_
        refine ao_goto (pc := 73) (tgt := 80) X dX2_readLaw_73 (by decide) ?_
        exact ao_iret (pc := 80) X hr dX2_readLaw_80
    · refine ao_aload_n (pc := 15) X dX2_readLaw_15 rfl ?_
      refine ao_getR (pc := 16) X dX2_readLaw_16 fl_RX2_15 sf_24_1 ?_
      refine ao_iload_n (pc := 19) X dX2_readLaw_19 rfl ?_
      refine ao_aload_n (pc := 20) X dX2_readLaw_20 rfl ?_
      refine ao_ldcS (pc := 21) (tx := "hks") (i := 3) X dX2_readLaw_21 (List.mem_of_getElem? (i := 3) rfl) ?_
      refine ao_callVI (pc := 23) (As := [.ref (eSk E 3)]) (st := [.int p3, .ref (eAd E 26)]) X hl0 dX2_readLaw_23 yv_X9_takesOneOf so_1 ml_RX2_58 (mX9_takesOneOf_1_s3 hI μ) (Nat.le_of_ble_eq_true rfl) rfl rfl (Nat.le_of_ble_eq_true rfl) (fun r7 m8 => ?_)
      refine ao_iast (pc := 26) X dX2_readLaw_26 sa_26 ?_
      refine ao_lt (fun m9 => ?_)
      refine ao_aload_n (pc := 27) X dX2_readLaw_27 rfl ?_
      refine ao_getR (pc := 28) X dX2_readLaw_28 fl_RX2_15 sf_24_1 ?_
      refine ao_iload_n (pc := 31) X dX2_readLaw_31 rfl ?_
      refine ao_iald (pc := 32) X dX2_readLaw_32 sa_26 ?_
      refine ao_if_ge (pc := 33) (tgt := 41) X dX2_readLaw_33 (by decide) (fun _ => ?_) (fun _ => ?_)
      · refine ao_iload_n (pc := 41) X dX2_readLaw_41 rfl ?_
        refine ao_aload_n (pc := 42) X dX2_readLaw_42 rfl ?_
        refine ao_getR (pc := 43) X dX2_readLaw_43 fl_RX2_15 sf_24_1 ?_
        refine ao_iload_n (pc := 46) X dX2_readLaw_46 rfl ?_
        refine ao_iald (pc := 47) X dX2_readLaw_47 sa_26 ?_
        refine ao_iconst (pc := 48) X dX2_readLaw_48 ic_1 ?_
        refine ao_icmp_ne (pc := 49) (tgt := 56) X dX2_readLaw_49 (by decide) (fun _ => ?_) (fun _ => ?_)
        · refine ao_iconst (pc := 56) X dX2_readLaw_56 ic_0 ?_
          refine ao_iadd (pc := 57) X dX2_readLaw_57 ?_
          refine ao_ltI (fun x10 => ?_)
          refine ao_istore_n (pc := 58) (lv' := [(2, .int x10), (0, .ref (eAd E 24)), (1, .ref (eAd E 1)), (3, .int p3)]) X dX2_readLaw_58 rfl (by decide) rfl ?_
          refine ao_iinc (pc := 59) (k := 3) (v := p3 + (1 : Int32)) (lv' := [(3, .int (p3 + (1 : Int32))), (2, .int x10), (0, .ref (eAd E 24)), (1, .ref (eAd E 1))]) X dX2_readLaw_59 rfl (ii_ic ic_1) (by decide) rfl ?_
          refine ao_goto (pc := 62) (tgt := 10) X dX2_readLaw_62 (by decide) ?_
          refine ao_sub [2, 3, 1, 0] rfl ?_
          exact ih x10 (p3 + (1 : Int32)) m9
        · refine ao_iconst (pc := 52) X dX2_readLaw_52 ic_1 ?_
          refine ao_goto (pc := 53) (tgt := 57) X dX2_readLaw_53 (by decide) ?_
          refine ao_iadd (pc := 57) X dX2_readLaw_57 ?_
          refine ao_ltI (fun x12 => ?_)
          refine ao_istore_n (pc := 58) (lv' := [(2, .int x12), (0, .ref (eAd E 24)), (1, .ref (eAd E 1)), (3, .int p3)]) X dX2_readLaw_58 rfl (by decide) rfl ?_
          refine ao_iinc (pc := 59) (k := 3) (v := p3 + (1 : Int32)) (lv' := [(3, .int (p3 + (1 : Int32))), (2, .int x12), (0, .ref (eAd E 24)), (1, .ref (eAd E 1))]) X dX2_readLaw_59 rfl (ii_ic ic_1) (by decide) rfl ?_
          refine ao_goto (pc := 62) (tgt := 10) X dX2_readLaw_62 (by decide) ?_
          refine ao_sub [2, 3, 1, 0] rfl ?_
          exact ih x12 (p3 + (1 : Int32)) m9
      · refine ao_aload_n (pc := 36) X dX2_readLaw_36 rfl ?_
        refine ao_callVI (pc := 37) (As := []) (st := []) X hl0 dX2_readLaw_37 yv_X9_wrong so_1 ml_RX2_38 (mX9_wrong_1 hI m9) (Nat.le_of_ble_eq_true rfl) rfl rfl (Nat.le_of_ble_eq_true rfl) (fun r14 m15 => ?_)
        exact ao_iret (pc := 40) X hr dX2_readLaw_40
def fX2_readLaw_24_1 (μ : Mem) : Option (Int32 × Mem) :=
  bnd (fX9_open_1 (80 : Int32) μ) fun r1 m2 =>
  fX2_readLaw_24_1_b10 FU (0 : Int32) (0 : Int32) m2
set_option maxRecDepth 100000 in
set_option maxHeartbeats 4000000 in
theorem mX2_readLaw_24_1 {E : En} {l : Launch} (hI : Inj E) (μ : Mem) : MtI E l yX2_readLaw cX2_readLaw 4 (some .int) 6 [.ref (eAd E 24), .ref (eAd E 1)] μ (fX2_readLaw_24_1 μ) := by
  refine mtI_of (own := RX2) [(0, .ref (eAd E 24)), (1, .ref (eAd E 1))] hI rfl (by decide) (Nat.le_of_ble_eq_true rfl) (Nat.le_of_ble_eq_true rfl) rfl (fun Z hl0 X hr => ?_)
  unfold fX2_readLaw_24_1
  refine ao_aload_n (pc := 0) X dX2_readLaw_0 rfl ?_
  refine ao_bipush (pc := 1) X dX2_readLaw_1 bp_80 ?_
  refine ao_callVV (pc := 3) (As := [.int (80 : Int32)]) (st := []) X hl0 dX2_readLaw_3 yv_X9_open so_1 ml_RX2_30 (mX9_open_1 hI (80 : Int32) μ) (Nat.le_of_ble_eq_true rfl) rfl rfl (Nat.le_of_ble_eq_true rfl) (fun r1 m2 => ?_)
  refine ao_iconst (pc := 6) X dX2_readLaw_6 ic_0 ?_
  refine ao_istore_n (pc := 7) (lv' := [(2, .int (0 : Int32)), (0, .ref (eAd E 24)), (1, .ref (eAd E 1))]) X dX2_readLaw_7 rfl (by decide) rfl ?_
  refine ao_iconst (pc := 8) X dX2_readLaw_8 ic_0 ?_
  refine ao_istore_n (pc := 9) (lv' := [(3, .int (0 : Int32)), (2, .int (0 : Int32)), (0, .ref (eAd E 24)), (1, .ref (eAd E 1))]) X dX2_readLaw_9 rfl (by decide) rfl ?_
  refine ao_sub [2, 3, 1, 0] rfl ?_
  exact bX2_readLaw_24_1_10 hI hl0 X hr FU (0 : Int32) (0 : Int32) m2
def fX11_law_0 (μ : Mem) : Option (Int32 × Mem) :=
  bnd (fX2_readLaw_24_1 μ) fun r1 m2 =>
  bnd (fX9_empty_1 m2) fun r3 m4 =>
  if r1 < 0 then (some (r1, m4))
  else bnd (fX2_enact_24 m4) fun r5 m6 =>
    some (r1, m6)
set_option maxRecDepth 100000 in
set_option maxHeartbeats 4000000 in
theorem mX11_law_0 {E : En} {l : Launch} (hI : Inj E) (μ : Mem) : MtI E l yX11_law cX11_law 2 (some .int) 7 [.ref (eAd E 0)] μ (fX11_law_0 μ) := by
  refine mtI_of (own := RX11) [(0, .ref (eAd E 0))] hI rfl (by decide) (Nat.le_of_ble_eq_true rfl) (Nat.le_of_ble_eq_true rfl) rfl (fun Z hl0 X hr => ?_)
  unfold fX11_law_0
  refine ao_aload_n (pc := 0) X dX11_law_0 rfl ?_
  refine ao_getR (pc := 1) X dX11_law_1 fl_RX11_56 sf_0_6 ?_
  refine ao_aload_n (pc := 4) X dX11_law_4 rfl ?_
  refine ao_getR (pc := 5) X dX11_law_5 fl_RX11_10 sf_0_0 ?_
  refine ao_callVI (pc := 8) (As := [.ref (eAd E 1)]) (st := []) X hl0 dX11_law_8 yv_X2_readLaw so_24 ml_RX11_138 (mX2_readLaw_24_1 hI μ) (Nat.le_of_ble_eq_true rfl) rfl rfl (Nat.le_of_ble_eq_true rfl) (fun r1 m2 => ?_)
  refine ao_istore_n (pc := 11) (lv' := [(1, .int r1), (0, .ref (eAd E 0))]) X dX11_law_11 rfl (by decide) rfl ?_
  refine ao_aload_n (pc := 12) X dX11_law_12 rfl ?_
  refine ao_getR (pc := 13) X dX11_law_13 fl_RX11_10 sf_0_0 ?_
  refine ao_callVV (pc := 16) (As := []) (st := []) X hl0 dX11_law_16 yv_X9_empty so_1 ml_RX11_116 (mX9_empty_1 hI m2) (Nat.le_of_ble_eq_true rfl) rfl rfl (Nat.le_of_ble_eq_true rfl) (fun r3 m4 => ?_)
  refine ao_iload_n (pc := 19) X dX11_law_19 rfl ?_
  refine ao_if_lt (pc := 20) (tgt := 30) X dX11_law_20 (by decide) (fun _ => ?_) (fun _ => ?_)
  · refine ao_iload_n (pc := 30) X dX11_law_30 rfl ?_
    exact ao_iret (pc := 31) X hr dX11_law_31
  · refine ao_aload_n (pc := 23) X dX11_law_23 rfl ?_
    refine ao_getR (pc := 24) X dX11_law_24 fl_RX11_56 sf_0_6 ?_
    refine ao_callVV (pc := 27) (As := []) (st := []) X hl0 dX11_law_27 yv_X2_enact so_24 ml_RX11_141 (mX2_enact_24 hI m4) (Nat.le_of_ble_eq_true rfl) rfl rfl (Nat.le_of_ble_eq_true rfl) (fun r5 m6 => ?_)
    refine ao_iload_n (pc := 30) X dX11_law_30 rfl ?_
    exact ao_iret (pc := 31) X hr dX11_law_31
def fX12_whoseBy (v0 : Int32) (μ : Mem) : Option (Int32 × Mem) :=
  if v0 = (104 : Int32) then (some ((0 : Int32), μ))
  else if v0 = (107 : Int32) then (some ((1 : Int32), μ))
    else if v0 = (115 : Int32) then (some ((2 : Int32), μ))
      else some ((-1 : Int32), μ)
set_option maxRecDepth 100000 in
set_option maxHeartbeats 4000000 in
theorem mX12_whoseBy {E : En} {l : Launch} (hI : Inj E) (v0 : Int32) (μ : Mem) : MtI E l yX12_whoseBy cX12_whoseBy 1 (some .int) 1 [.int v0] μ (fX12_whoseBy v0 μ) := by
  refine mtI_of (own := RX12) [(0, .int v0)] hI rfl (by decide) (Nat.le_of_ble_eq_true rfl) (Nat.le_of_ble_eq_true rfl) rfl (fun Z hl0 X hr => ?_)
  unfold fX12_whoseBy
  refine ao_iload_n (pc := 0) X dX12_whoseBy_0 rfl ?_
  refine ao_bipush (pc := 1) X dX12_whoseBy_1 bp_104 ?_
  refine ao_icmp_ne (pc := 3) (tgt := 10) X dX12_whoseBy_3 (by decide) (fun _ => ?_) (fun _ => ?_)
  · refine ao_iload_n (pc := 10) X dX12_whoseBy_10 rfl ?_
    refine ao_bipush (pc := 11) X dX12_whoseBy_11 bp_107 ?_
    refine ao_icmp_ne (pc := 13) (tgt := 20) X dX12_whoseBy_13 (by decide) (fun _ => ?_) (fun _ => ?_)
    · refine ao_iload_n (pc := 20) X dX12_whoseBy_20 rfl ?_
      refine ao_bipush (pc := 21) X dX12_whoseBy_21 bp_115 ?_
      refine ao_icmp_ne (pc := 23) (tgt := 30) X dX12_whoseBy_23 (by decide) (fun _ => ?_) (fun _ => ?_)
      · refine ao_iconst (pc := 30) X dX12_whoseBy_30 ic_m1 ?_
        exact ao_iret (pc := 31) X hr dX12_whoseBy_31
      · refine ao_iconst (pc := 26) X dX12_whoseBy_26 ic_2 ?_
        refine ao_goto (pc := 27) (tgt := 31) X dX12_whoseBy_27 (by decide) ?_
        exact ao_iret (pc := 31) X hr dX12_whoseBy_31
    · refine ao_iconst (pc := 16) X dX12_whoseBy_16 ic_1 ?_
      refine ao_goto (pc := 17) (tgt := 31) X dX12_whoseBy_17 (by decide) ?_
      exact ao_iret (pc := 31) X hr dX12_whoseBy_31
  · refine ao_iconst (pc := 6) X dX12_whoseBy_6 ic_0 ?_
    refine ao_goto (pc := 7) (tgt := 31) X dX12_whoseBy_7 (by decide) ?_
    exact ao_iret (pc := 31) X hr dX12_whoseBy_31
def fX12_readLaw_122_b70 (μ : Mem) : Option (Int32 × Mem) :=
  bnd (fX12_wasRight_122 μ) fun r15 m16 =>
  gd (isZ r15) (some (r15, m16))
set_option maxRecDepth 100000 in
set_option maxHeartbeats 4000000 in
theorem bX12_readLaw_122_70 {E : En} {l : Launch} {Z : Zt} (hI : Inj E) (hl0 : lZ l Z) (X : Cx E Z cX12_readLaw RX12 2 4) (hr : rtOf Z = some .boolean) (μ : Mem) : AO E Z 2 (QI E Z) 70 [(0, .ref (eAd E 122))] [] μ (fX12_readLaw_122_b70 μ) := by
  unfold fX12_readLaw_122_b70
  refine ao_aload_n (pc := 70) X dX12_readLaw_70 rfl ?_
  refine ao_callVI (pc := 71) (As := []) (st := []) X hl0 dX12_readLaw_71 yv_X12_wasRight so_122 ml_RX12_172 (mX12_wasRight_122 hI μ) (Nat.le_of_ble_eq_true rfl) rfl rfl (Nat.le_of_ble_eq_true rfl) (fun r15 m16 => ?_)
  exact ao_zretG (pc := 74) X hr dX12_readLaw_74
def fX12_readLaw_122_b8 : Nat → Int32 → Mem → Option (Int32 × Mem)
  | 0, _, _ => none
  | n + 1, p1, μ =>
  if (4 : Int32) ≤ p1 then (fX12_readLaw_122_b70 μ)
  else bnd (fX12_fine_122 μ) fun r3 m4 =>
    if r3 = 0 then (fX12_readLaw_122_b70 m4)
    else bnd (fX12_here_122 m4) fun r5 m6 =>
      bnd (fX12_whoseBy r5 m6) fun r7 m8 =>
      gd (inb p1 40) (lt (sI m8 135 (ix p1) r7) fun m9 =>
      gd (inb p1 40) (if (gI m9 135 (ix p1)) = (-1 : Int32) then (bnd (fX12_fault_122 (gI m9 122 21) m9) fun r12 m13 =>
        fX12_readLaw_122_b8 n (p1 + (1 : Int32)) m13)
      else lt (sI m9 122 21 ((gI m9 122 21) + (1 : Int32))) fun m10 =>
        fX12_readLaw_122_b8 n (p1 + (1 : Int32)) m10))
set_option maxRecDepth 100000 in
set_option maxHeartbeats 4000000 in
theorem bX12_readLaw_122_8 {E : En} {l : Launch} {Z : Zt} (hI : Inj E) (hl0 : lZ l Z) (X : Cx E Z cX12_readLaw RX12 2 4) (hr : rtOf Z = some .boolean) : ∀ (n : Nat) (p1 : Int32) (μ : Mem), AO E Z 2 (QI E Z) 8 [(0, .ref (eAd E 122)), (1, .int p1)] [] μ (fX12_readLaw_122_b8 n p1 μ) := by
  intro n
  induction n with
  | zero =>
    intros
    exact ao_none
  | succ n ih =>
    intro p1 μ
    rw [fX12_readLaw_122_b8]
    refine ao_iload_n (pc := 8) X dX12_readLaw_8 rfl ?_
    refine ao_iconst (pc := 9) X dX12_readLaw_9 ic_4 ?_
    refine ao_icmp_ge (pc := 10) (tgt := 70) X dX12_readLaw_10 (by decide) (fun _ => ?_) (fun _ => ?_)
    · refine ao_sub [0] rfl ?_
      exact bX12_readLaw_122_70 hI hl0 X hr μ
    · refine ao_aload_n (pc := 13) X dX12_readLaw_13 rfl ?_
      refine ao_callVI (pc := 14) (As := []) (st := []) X hl0 dX12_readLaw_14 yv_X12_fine so_122 ml_RX12_130 (mX12_fine_122 hI μ) (Nat.le_of_ble_eq_true rfl) rfl rfl (Nat.le_of_ble_eq_true rfl) (fun r3 m4 => ?_)
      refine ao_if_eq (pc := 17) (tgt := 70) X dX12_readLaw_17 (by decide) (fun _ => ?_) (fun _ => ?_)
      · refine ao_sub [0] rfl ?_
        exact bX12_readLaw_122_70 hI hl0 X hr m4
      · refine ao_aload_n (pc := 20) X dX12_readLaw_20 rfl ?_
        refine ao_getR (pc := 21) X dX12_readLaw_21 fl_RX12_53 sf_122_23 ?_
        refine ao_iload_n (pc := 24) X dX12_readLaw_24 rfl ?_
        refine ao_aload_n (pc := 25) X dX12_readLaw_25 rfl ?_
        refine ao_callVI (pc := 26) (As := []) (st := [.int p1, .ref (eAd E 135)]) X hl0 dX12_readLaw_26 yv_X12_here so_122 ml_RX12_134 (mX12_here_122 hI m4) (Nat.le_of_ble_eq_true rfl) rfl rfl (Nat.le_of_ble_eq_true rfl) (fun r5 m6 => ?_)
        refine ao_callSI (pc := 29) (As := [.int r5]) (st := [.int p1, .ref (eAd E 135)]) X hl0 dX12_readLaw_29 yv_X12_whoseBy ml_RX12_184 (mX12_whoseBy hI r5 m6) (Nat.le_of_ble_eq_true rfl) rfl rfl (Nat.le_of_ble_eq_true rfl) (fun r7 m8 => ?_)
        refine ao_iast (pc := 32) X dX12_readLaw_32 sa_135 ?_
        refine ao_lt (fun m9 => ?_)
        refine ao_aload_n (pc := 33) X dX12_readLaw_33 rfl ?_
        refine ao_getR (pc := 34) X dX12_readLaw_34 fl_RX12_53 sf_122_23 ?_
        refine ao_iload_n (pc := 37) X dX12_readLaw_37 rfl ?_
        refine ao_iald (pc := 38) X dX12_readLaw_38 sa_135 ?_
        refine ao_iconst (pc := 39) X dX12_readLaw_39 ic_m1 ?_
        refine ao_icmp_ne (pc := 40) (tgt := 54) X dX12_readLaw_40 (by decide) (fun _ => ?_) (fun _ => ?_)
        · refine ao_aload_n (pc := 54) X dX12_readLaw_54 rfl ?_
          refine ao_dup (pc := 55) X dX12_readLaw_55 rfl ?_
          refine ao_getI (pc := 56) X dX12_readLaw_56 fl_RX12_120 sf_122_21 ?_
          refine ao_iconst (pc := 59) X dX12_readLaw_59 ic_1 ?_
          refine ao_iadd (pc := 60) X dX12_readLaw_60 ?_
          refine ao_putI (pc := 61) X dX12_readLaw_61 fp_RX12_120 sf_122_21 ?_
          refine ao_lt (fun m10 => ?_)
          refine ao_iinc (pc := 64) (k := 1) (v := p1 + (1 : Int32)) (lv' := [(1, .int (p1 + (1 : Int32))), (0, .ref (eAd E 122))]) X dX12_readLaw_64 rfl (ii_ic ic_1) (by decide) rfl ?_
          refine ao_goto (pc := 67) (tgt := 8) X dX12_readLaw_67 (by decide) ?_
          refine ao_sub [1, 0] rfl ?_
          exact ih (p1 + (1 : Int32)) m10
        · refine ao_aload_n (pc := 43) X dX12_readLaw_43 rfl ?_
          refine ao_aload_n (pc := 44) X dX12_readLaw_44 rfl ?_
          refine ao_getI (pc := 45) X dX12_readLaw_45 fl_RX12_120 sf_122_21 ?_
          refine ao_callVV (pc := 48) (As := [.int (gI m9 122 21)]) (st := []) X hl0 dX12_readLaw_48 yv_X12_fault so_122 ml_RX12_142 (mX12_fault_122 hI (gI m9 122 21) m9) (Nat.le_of_ble_eq_true rfl) rfl rfl (Nat.le_of_ble_eq_true rfl) (fun r12 m13 => ?_)
          refine ao_goto (pc := 51) (tgt := 64) X dX12_readLaw_51 (by decide) ?_
          refine ao_iinc (pc := 64) (k := 1) (v := p1 + (1 : Int32)) (lv' := [(1, .int (p1 + (1 : Int32))), (0, .ref (eAd E 122))]) X dX12_readLaw_64 rfl (ii_ic ic_1) (by decide) rfl ?_
          refine ao_goto (pc := 67) (tgt := 8) X dX12_readLaw_67 (by decide) ?_
          refine ao_sub [1, 0] rfl ?_
          exact ih (p1 + (1 : Int32)) m13
def fX12_readLaw_122 (μ : Mem) : Option (Int32 × Mem) :=
  bnd (fX12_beginText_122 (80 : Int32) μ) fun r1 m2 =>
  fX12_readLaw_122_b8 FU (0 : Int32) m2
set_option maxRecDepth 100000 in
set_option maxHeartbeats 4000000 in
theorem mX12_readLaw_122 {E : En} {l : Launch} (hI : Inj E) (μ : Mem) : MtI E l yX12_readLaw cX12_readLaw 2 (some .boolean) 4 [.ref (eAd E 122)] μ (fX12_readLaw_122 μ) := by
  refine mtI_of (own := RX12) [(0, .ref (eAd E 122))] hI rfl (by decide) (Nat.le_of_ble_eq_true rfl) (Nat.le_of_ble_eq_true rfl) rfl (fun Z hl0 X hr => ?_)
  unfold fX12_readLaw_122
  refine ao_aload_n (pc := 0) X dX12_readLaw_0 rfl ?_
  refine ao_bipush (pc := 1) X dX12_readLaw_1 bp_80 ?_
  refine ao_callVV (pc := 3) (As := [.int (80 : Int32)]) (st := []) X hl0 dX12_readLaw_3 yv_X12_beginText so_122 ml_RX12_162 (mX12_beginText_122 hI (80 : Int32) μ) (Nat.le_of_ble_eq_true rfl) rfl rfl (Nat.le_of_ble_eq_true rfl) (fun r1 m2 => ?_)
  refine ao_iconst (pc := 6) X dX12_readLaw_6 ic_0 ?_
  refine ao_istore_n (pc := 7) (lv' := [(1, .int (0 : Int32)), (0, .ref (eAd E 122))]) X dX12_readLaw_7 rfl (by decide) rfl ?_
  refine ao_sub [1, 0] rfl ?_
  exact bX12_readLaw_122_8 hI hl0 X hr FU (0 : Int32) m2
def fX12_law_122_b23 : Nat → Int32 → Int32 → Mem → Option (Int32 × Mem)
  | 0, _, _, _ => none
  | n + 1, p1, p2, μ =>
  if (4 : Int32) ≤ p2 then (some (p1, μ))
  else gd (inb p2 40) (gd (inb p2 4) (lt (sI μ 132 (ix p2) (gI μ 135 (ix p2))) fun m4 =>
    gd (inb p2 4) (if (gI m4 132 (ix p2)) = (1 : Int32) then (lt (p1 + (1 : Int32)) fun x7 =>
      fX12_law_122_b23 n x7 (p2 + (1 : Int32)) m4)
    else lt (p1 + (0 : Int32)) fun x5 =>
      fX12_law_122_b23 n x5 (p2 + (1 : Int32)) m4)))
set_option maxRecDepth 100000 in
set_option maxHeartbeats 4000000 in
theorem bX12_law_122_23 {E : En} {l : Launch} {Z : Zt} (hI : Inj E) (hl0 : lZ l Z) (X : Cx E Z cX12_law RX12 3 5) (hr : rtOf Z = some .int) : ∀ (n : Nat) (p1 : Int32) (p2 : Int32) (μ : Mem), AO E Z 3 (QI E Z) 23 [(0, .ref (eAd E 122)), (1, .int p1), (2, .int p2)] [] μ (fX12_law_122_b23 n p1 p2 μ) := by
  intro n
  induction n with
  | zero =>
    intros
    exact ao_none
  | succ n ih =>
    intro p1 p2 μ
    rw [fX12_law_122_b23]
    refine ao_iload_n (pc := 23) X dX12_law_23 rfl ?_
    refine ao_iconst (pc := 24) X dX12_law_24 ic_4 ?_
    refine ao_icmp_ge (pc := 25) (tgt := 64) X dX12_law_25 (by decide) (fun _ => ?_) (fun _ => ?_)
    · refine ao_iload_n (pc := 64) X dX12_law_64 rfl ?_
      exact ao_iret (pc := 65) X hr dX12_law_65
    · refine ao_aload_n (pc := 28) X dX12_law_28 rfl ?_
      refine ao_getR (pc := 29) X dX12_law_29 fl_RX12_38 sf_122_11 ?_
      refine ao_iload_n (pc := 32) X dX12_law_32 rfl ?_
      refine ao_aload_n (pc := 33) X dX12_law_33 rfl ?_
      refine ao_getR (pc := 34) X dX12_law_34 fl_RX12_53 sf_122_23 ?_
      refine ao_iload_n (pc := 37) X dX12_law_37 rfl ?_
      refine ao_iald (pc := 38) X dX12_law_38 sa_135 ?_
      refine ao_iast (pc := 39) X dX12_law_39 sa_132 ?_
      refine ao_lt (fun m4 => ?_)
      refine ao_iload_n (pc := 40) X dX12_law_40 rfl ?_
      refine ao_aload_n (pc := 41) X dX12_law_41 rfl ?_
      refine ao_getR (pc := 42) X dX12_law_42 fl_RX12_38 sf_122_11 ?_
      refine ao_iload_n (pc := 45) X dX12_law_45 rfl ?_
      refine ao_iald (pc := 46) X dX12_law_46 sa_132 ?_
      refine ao_iconst (pc := 47) X dX12_law_47 ic_1 ?_
      refine ao_icmp_ne (pc := 48) (tgt := 55) X dX12_law_48 (by decide) (fun _ => ?_) (fun _ => ?_)
      · refine ao_iconst (pc := 55) X dX12_law_55 ic_0 ?_
        refine ao_iadd (pc := 56) X dX12_law_56 ?_
        refine ao_ltI (fun x5 => ?_)
        refine ao_istore_n (pc := 57) (lv' := [(1, .int x5), (0, .ref (eAd E 122)), (2, .int p2)]) X dX12_law_57 rfl (by decide) rfl ?_
        refine ao_iinc (pc := 58) (k := 2) (v := p2 + (1 : Int32)) (lv' := [(2, .int (p2 + (1 : Int32))), (1, .int x5), (0, .ref (eAd E 122))]) X dX12_law_58 rfl (ii_ic ic_1) (by decide) rfl ?_
        refine ao_goto (pc := 61) (tgt := 23) X dX12_law_61 (by decide) ?_
        refine ao_sub [2, 1, 0] rfl ?_
        exact ih x5 (p2 + (1 : Int32)) m4
      · refine ao_iconst (pc := 51) X dX12_law_51 ic_1 ?_
        refine ao_goto (pc := 52) (tgt := 56) X dX12_law_52 (by decide) ?_
        refine ao_iadd (pc := 56) X dX12_law_56 ?_
        refine ao_ltI (fun x7 => ?_)
        refine ao_istore_n (pc := 57) (lv' := [(1, .int x7), (0, .ref (eAd E 122)), (2, .int p2)]) X dX12_law_57 rfl (by decide) rfl ?_
        refine ao_iinc (pc := 58) (k := 2) (v := p2 + (1 : Int32)) (lv' := [(2, .int (p2 + (1 : Int32))), (1, .int x7), (0, .ref (eAd E 122))]) X dX12_law_58 rfl (ii_ic ic_1) (by decide) rfl ?_
        refine ao_goto (pc := 61) (tgt := 23) X dX12_law_61 (by decide) ?_
        refine ao_sub [2, 1, 0] rfl ?_
        exact ih x7 (p2 + (1 : Int32)) m4
def fX12_law_122 (μ : Mem) : Option (Int32 × Mem) :=
  lt (sI μ 122 17 (0 : Int32)) fun m1 =>
  bnd (fX12_readLaw_122 m1) fun r2 m3 =>
  if r2 = 0 then (some (((-1 : Int32) - (gI m3 122 22)), m3))
  else fX12_law_122_b23 FU (0 : Int32) (0 : Int32) m3
set_option maxRecDepth 100000 in
set_option maxHeartbeats 4000000 in
theorem mX12_law_122 {E : En} {l : Launch} (hI : Inj E) (μ : Mem) : MtI E l yX12_law cX12_law 3 (some .int) 5 [.ref (eAd E 122)] μ (fX12_law_122 μ) := by
  refine mtI_of (own := RX12) [(0, .ref (eAd E 122))] hI rfl (by decide) (Nat.le_of_ble_eq_true rfl) (Nat.le_of_ble_eq_true rfl) rfl (fun Z hl0 X hr => ?_)
  unfold fX12_law_122
  refine ao_aload_n (pc := 0) X dX12_law_0 rfl ?_
  refine ao_iconst (pc := 1) X dX12_law_1 ic_0 ?_
  refine ao_putI (pc := 2) X dX12_law_2 fp_RX12_95 sf_122_17 ?_
  refine ao_lt (fun m1 => ?_)
  refine ao_aload_n (pc := 5) X dX12_law_5 rfl ?_
  refine ao_callVI (pc := 6) (As := []) (st := []) X hl0 dX12_law_6 yv_X12_readLaw so_122 ml_RX12_187 (mX12_readLaw_122 hI m1) (Nat.le_of_ble_eq_true rfl) rfl rfl (Nat.le_of_ble_eq_true rfl) (fun r2 m3 => ?_)
  refine ao_if_ne (pc := 9) (tgt := 19) X dX12_law_9 (by decide) (fun _ => ?_) (fun _ => ?_)
  · refine ao_iconst (pc := 19) X dX12_law_19 ic_0 ?_
    refine ao_istore_n (pc := 20) (lv' := [(1, .int (0 : Int32)), (0, .ref (eAd E 122))]) X dX12_law_20 rfl (by decide) rfl ?_
    refine ao_iconst (pc := 21) X dX12_law_21 ic_0 ?_
    refine ao_istore_n (pc := 22) (lv' := [(2, .int (0 : Int32)), (1, .int (0 : Int32)), (0, .ref (eAd E 122))]) X dX12_law_22 rfl (by decide) rfl ?_
    refine ao_sub [2, 1, 0] rfl ?_
    exact bX12_law_122_23 hI hl0 X hr FU (0 : Int32) (0 : Int32) m3
  · refine ao_iconst (pc := 12) X dX12_law_12 ic_m1 ?_
    refine ao_aload_n (pc := 13) X dX12_law_13 rfl ?_
    refine ao_getI (pc := 14) X dX12_law_14 fl_RX12_123 sf_122_22 ?_
    refine ao_isub (pc := 17) X dX12_law_17 ?_
    exact ao_iret (pc := 18) X hr dX12_law_18
def fX8_drafts_19 (v1 : Int32) (μ : Mem) : Option (Int32 × Mem) :=
  if (gI μ 19 3) < (40 : Int32) then (gd (inb (gI μ 19 3) 40) (lt (sI μ 21 (ix (gI μ 19 3)) v1) fun m1 =>
    lt (sI m1 19 3 ((gI m1 19 3) + (1 : Int32))) fun m2 =>
    some ((1 : Int32), m2)))
  else some ((0 : Int32), μ)
set_option maxRecDepth 100000 in
set_option maxHeartbeats 4000000 in
theorem mX8_drafts_19 {E : En} {l : Launch} (hI : Inj E) (v1 : Int32) (μ : Mem) : MtI E l yX8_drafts cX8_drafts 2 (some .boolean) 1 [.ref (eAd E 19), .int v1] μ (fX8_drafts_19 v1 μ) := by
  refine mtI_of (own := RX8) [(0, .ref (eAd E 19)), (1, .int v1)] hI rfl (by decide) (Nat.le_of_ble_eq_true rfl) (Nat.le_of_ble_eq_true rfl) rfl (fun Z hl0 X hr => ?_)
  unfold fX8_drafts_19
  refine ao_aload_n (pc := 0) X dX8_drafts_0 rfl ?_
  refine ao_getI (pc := 1) X dX8_drafts_1 fl_RX8_22 sf_19_3 ?_
  refine ao_bipush (pc := 4) X dX8_drafts_4 bp_40 ?_
  refine ao_icmp_lt (pc := 6) (tgt := 11) X dX8_drafts_6 (by decide) (fun _ => ?_) (fun _ => ?_)
  · refine ao_aload_n (pc := 11) X dX8_drafts_11 rfl ?_
    refine ao_getR (pc := 12) X dX8_drafts_12 fl_RX8_19 sf_19_2 ?_
    refine ao_aload_n (pc := 15) X dX8_drafts_15 rfl ?_
    refine ao_getI (pc := 16) X dX8_drafts_16 fl_RX8_22 sf_19_3 ?_
    refine ao_iload_n (pc := 19) X dX8_drafts_19 rfl ?_
    refine ao_iast (pc := 20) X dX8_drafts_20 sa_21 ?_
    refine ao_lt (fun m1 => ?_)
    refine ao_aload_n (pc := 21) X dX8_drafts_21 rfl ?_
    refine ao_dup (pc := 22) X dX8_drafts_22 rfl ?_
    refine ao_getI (pc := 23) X dX8_drafts_23 fl_RX8_22 sf_19_3 ?_
    refine ao_iconst (pc := 26) X dX8_drafts_26 ic_1 ?_
    refine ao_iadd (pc := 27) X dX8_drafts_27 ?_
    refine ao_putI (pc := 28) X dX8_drafts_28 fp_RX8_22 sf_19_3 ?_
    refine ao_lt (fun m2 => ?_)
    refine ao_iconst (pc := 31) X dX8_drafts_31 ic_1 ?_
    exact ao_zret (pc := 32) X hr rfl dX8_drafts_32
  · refine ao_iconst (pc := 9) X dX8_drafts_9 ic_0 ?_
    exact ao_zret (pc := 10) X hr rfl dX8_drafts_10
def fJ0_isLatin1_aae02_s0 (μ : Mem) : Option (Int32 × Mem) :=
  if (1 : Int32) = 0 then (some ((0 : Int32), μ))
  else if (0 : Int32) = 0 then (some ((1 : Int32), μ))
    else some ((0 : Int32), μ)
set_option maxRecDepth 100000 in
set_option maxHeartbeats 4000000 in
theorem mJ0_isLatin1_aae02_s0 {E : En} {l : Launch} (hI : Inj E) (μ : Mem) : MtI E l yJ0_isLatin1_aae02 cJ0_isLatin1_aae02 1 (some .boolean) 1 [.ref (eSk E 0)] μ (fJ0_isLatin1_aae02_s0 μ) := by
  refine mtI_of (own := RJ0) [(0, .ref (eSk E 0))] hI rfl (by decide) (Nat.le_of_ble_eq_true rfl) (Nat.le_of_ble_eq_true rfl) rfl (fun Z hl0 X hr => ?_)
  unfold fJ0_isLatin1_aae02_s0
  refine ao_scomp (pc := 0) X dJ0_isLatin1_aae02_0 fs_RJ0_38 ?_
  refine ao_if_eq (pc := 3) (tgt := 17) X dJ0_isLatin1_aae02_3 (by decide) (fun _ => ?_) (fun _ => ?_)
  · refine ao_iconst (pc := 17) X dJ0_isLatin1_aae02_17 ic_0 ?_
    exact ao_zret (pc := 18) X hr rfl dJ0_isLatin1_aae02_18
  · refine ao_aload_n (pc := 6) X dJ0_isLatin1_aae02_6 rfl ?_
    refine ao_scod (pc := 7) X dJ0_isLatin1_aae02_7 (by decide) fs_RJ0_15 ?_
    refine ao_if_ne (pc := 10) (tgt := 17) X dJ0_isLatin1_aae02_10 (by decide) (fun _ => ?_) (fun _ => ?_)
    · refine ao_iconst (pc := 17) X dJ0_isLatin1_aae02_17 ic_0 ?_
      exact ao_zret (pc := 18) X hr rfl dJ0_isLatin1_aae02_18
    · refine ao_iconst (pc := 13) X dJ0_isLatin1_aae02_13 ic_1 ?_
      refine ao_goto (pc := 14) (tgt := 18) X dJ0_isLatin1_aae02_14 (by decide) ?_
      exact ao_zret (pc := 18) X hr rfl dJ0_isLatin1_aae02_18
def fJ0_coder_7d493_s0 (μ : Mem) : Option (Int32 × Mem) :=
  if (1 : Int32) = 0 then (some ((1 : Int32), μ))
  else some ((0 : Int32), μ)
set_option maxRecDepth 100000 in
set_option maxHeartbeats 4000000 in
theorem mJ0_coder_7d493_s0 {E : En} {l : Launch} (hI : Inj E) (μ : Mem) : MtI E l yJ0_coder_7d493 cJ0_coder_7d493 1 (some .byte) 1 [.ref (eSk E 0)] μ (fJ0_coder_7d493_s0 μ) := by
  refine mtI_of (own := RJ0) [(0, .ref (eSk E 0))] hI rfl (by decide) (Nat.le_of_ble_eq_true rfl) (Nat.le_of_ble_eq_true rfl) rfl (fun Z hl0 X hr => ?_)
  unfold fJ0_coder_7d493_s0
  refine ao_scomp (pc := 0) X dJ0_coder_7d493_0 fs_RJ0_38 ?_
  refine ao_if_eq (pc := 3) (tgt := 13) X dJ0_coder_7d493_3 (by decide) (fun _ => ?_) (fun _ => ?_)
  · refine ao_iconst (pc := 13) X dJ0_coder_7d493_13 ic_1 ?_
    exact ao_zret (pc := 14) X hr rfl dJ0_coder_7d493_14
  · refine ao_aload_n (pc := 6) X dJ0_coder_7d493_6 rfl ?_
    refine ao_scod (pc := 7) X dJ0_coder_7d493_7 (by decide) fs_RJ0_15 ?_
    refine ao_goto (pc := 10) (tgt := 14) X dJ0_coder_7d493_10 (by decide) ?_
    exact ao_zret (pc := 14) X hr rfl dJ0_coder_7d493_14
def fJ0_length_8abf5_s0 (μ : Mem) : Option (Int32 × Mem) :=
  bnd (fJ0_coder_7d493_s0 μ) fun r1 m2 =>
  some (((6 : Int32) >>> (r1 &&& 31)), m2)
set_option maxRecDepth 100000 in
set_option maxHeartbeats 4000000 in
theorem mJ0_length_8abf5_s0 {E : En} {l : Launch} (hI : Inj E) (μ : Mem) : MtI E l yJ0_length_8abf5 cJ0_length_8abf5 1 (some .int) 2 [.ref (eSk E 0)] μ (fJ0_length_8abf5_s0 μ) := by
  refine mtI_of (own := RJ0) [(0, .ref (eSk E 0))] hI rfl (by decide) (Nat.le_of_ble_eq_true rfl) (Nat.le_of_ble_eq_true rfl) rfl (fun Z hl0 X hr => ?_)
  unfold fJ0_length_8abf5_s0
  refine ao_aload_n (pc := 0) X dJ0_length_8abf5_0 rfl ?_
  refine ao_sval (pc := 1) X dJ0_length_8abf5_1 (by decide) fs_RJ0_9 ?_
  refine ao_slen (pc := 4) (v := (6 : Int32)) X dJ0_length_8abf5_4 (by decide) (by decide) ?_
  refine ao_aload_n (pc := 5) X dJ0_length_8abf5_5 rfl ?_
  refine ao_callT (pc := 6) (As := []) (st := [.int (6 : Int32)]) X hl0 dJ0_length_8abf5_6 (by decide) yv_J0_coder_7d493 ml_RJ0_335 (mJ0_coder_7d493_s0 hI μ) (Nat.le_of_ble_eq_true rfl) rfl rfl (Nat.le_of_ble_eq_true rfl) (fun r1 m2 => ?_)
  refine ao_ishr (pc := 9) X dJ0_length_8abf5_9 ?_
  exact ao_iret (pc := 10) X hr dJ0_length_8abf5_10
def fJ1_indexOfChar_4cfef_v0_b7 : Nat → Int32 → Int32 → Int32 → Mem → Option (Int32 × Mem)
  | 0, _, _, _, _ => none
  | n + 1, p3, p4, p5, μ =>
  if p3 ≤ p5 then (some ((-1 : Int32), μ))
  else gd (inb p5 6) (if (sch 0 p5) = p4 then (some (p5, μ))
    else fJ1_indexOfChar_4cfef_v0_b7 n p3 p4 (p5 + (1 : Int32)) μ)
set_option maxRecDepth 100000 in
set_option maxHeartbeats 4000000 in
theorem bJ1_indexOfChar_4cfef_v0_7 {E : En} {l : Launch} {Z : Zt} (hI : Inj E) (hl0 : lZ l Z) (X : Cx E Z cJ1_indexOfChar_4cfef RJ1 6 1) (hr : rtOf Z = some .int) : ∀ (n : Nat) (p3 : Int32) (p4 : Int32) (p5 : Int32) (μ : Mem), AO E Z 6 (QI E Z) 7 [(0, .ref (eSv E 0)), (3, .int p3), (4, .int p4), (5, .int p5)] [] μ (fJ1_indexOfChar_4cfef_v0_b7 n p3 p4 p5 μ) := by
  intro n
  induction n with
  | zero =>
    intros
    exact ao_none
  | succ n ih =>
    intro p3 p4 p5 μ
    rw [fJ1_indexOfChar_4cfef_v0_b7]
    refine ao_iload (pc := 7) X dJ1_indexOfChar_4cfef_7 rfl ?_
    refine ao_iload_n (pc := 9) X dJ1_indexOfChar_4cfef_9 rfl ?_
    refine ao_icmp_ge (pc := 10) (tgt := 31) X dJ1_indexOfChar_4cfef_10 (by decide) (fun _ => ?_) (fun _ => ?_)
    · refine ao_iconst (pc := 31) X dJ1_indexOfChar_4cfef_31 ic_m1 ?_
      exact ao_iret (pc := 32) X hr dJ1_indexOfChar_4cfef_32
    · refine ao_aload_n (pc := 13) X dJ1_indexOfChar_4cfef_13 rfl ?_
      refine ao_iload (pc := 14) X dJ1_indexOfChar_4cfef_14 rfl ?_
      refine ao_sbald (pc := 16) X dJ1_indexOfChar_4cfef_16 (by decide) rfl ?_
      refine ao_iload (pc := 17) X dJ1_indexOfChar_4cfef_17 rfl ?_
      refine ao_icmp_ne (pc := 19) (tgt := 25) X dJ1_indexOfChar_4cfef_19 (by decide) (fun _ => ?_) (fun _ => ?_)
      · refine ao_iinc (pc := 25) (k := 3) (v := p5 + (1 : Int32)) (lv' := [(5, .int (p5 + (1 : Int32))), (0, .ref (eSv E 0)), (3, .int p3), (4, .int p4)]) X dJ1_indexOfChar_4cfef_25 rfl (ii_ic ic_1) (by decide) rfl ?_
        refine ao_goto (pc := 28) (tgt := 7) X dJ1_indexOfChar_4cfef_28 (by decide) ?_
        refine ao_sub [1, 2, 3, 0] rfl ?_
        exact ih p3 p4 (p5 + (1 : Int32)) μ
      · refine ao_iload (pc := 22) X dJ1_indexOfChar_4cfef_22 rfl ?_
        exact ao_iret (pc := 24) X hr dJ1_indexOfChar_4cfef_24
def fJ1_indexOfChar_4cfef_v0 (v1 : Int32) (v2 : Int32) (v3 : Int32) (μ : Mem) : Option (Int32 × Mem) :=
  lt (Int8.toInt32 (Int32.toInt8 v1)) fun x1 =>
  fJ1_indexOfChar_4cfef_v0_b7 FU v3 x1 v2 μ
set_option maxRecDepth 100000 in
set_option maxHeartbeats 4000000 in
theorem mJ1_indexOfChar_4cfef_v0 {E : En} {l : Launch} (hI : Inj E) (v1 : Int32) (v2 : Int32) (v3 : Int32) (μ : Mem) : MtI E l yJ1_indexOfChar_4cfef cJ1_indexOfChar_4cfef 6 (some .int) 1 [.ref (eSv E 0), .int v1, .int v2, .int v3] μ (fJ1_indexOfChar_4cfef_v0 v1 v2 v3 μ) := by
  refine mtI_of (own := RJ1) [(0, .ref (eSv E 0)), (1, .int v1), (2, .int v2), (3, .int v3)] hI rfl (by decide) (Nat.le_of_ble_eq_true rfl) (Nat.le_of_ble_eq_true rfl) rfl (fun Z hl0 X hr => ?_)
  unfold fJ1_indexOfChar_4cfef_v0
  refine ao_iload_n (pc := 0) X dJ1_indexOfChar_4cfef_0 rfl ?_
  refine ao_i2b (pc := 1) X dJ1_indexOfChar_4cfef_1 ?_
  refine ao_ltI (fun x1 => ?_)
  refine ao_istore (pc := 2) (lv' := [(4, .int x1), (0, .ref (eSv E 0)), (1, .int v1), (2, .int v2), (3, .int v3)]) X dJ1_indexOfChar_4cfef_2 (by decide) rfl ?_
  refine ao_iload_n (pc := 4) X dJ1_indexOfChar_4cfef_4 rfl ?_
  refine ao_istore (pc := 5) (lv' := [(5, .int v2), (4, .int x1), (0, .ref (eSv E 0)), (1, .int v1), (2, .int v2), (3, .int v3)]) X dJ1_indexOfChar_4cfef_5 (by decide) rfl ?_
  refine ao_sub [2, 5, 1, 0] rfl ?_
  exact bJ1_indexOfChar_4cfef_v0_7 hI hl0 X hr FU v3 x1 v2 μ
def fJ1_indexOf_4cfef_v0 (v1 : Int32) (v2 : Int32) (v3 : Int32) (μ : Mem) : Option (Int32 × Mem) :=
  bnd (fJ1_canEncode_9a6ad v1 μ) fun r1 m2 =>
  if r1 = 0 then (some ((-1 : Int32), m2))
  else lt (imax v2 (0 : Int32)) fun x3 =>
    lt (imin v3 (6 : Int32)) fun x4 =>
    if x3 < x4 then (bnd (fJ1_indexOfChar_4cfef_v0 v1 x3 x4 m2) fun r5 m6 =>
      some (r5, m6))
    else some ((-1 : Int32), m2)
set_option maxRecDepth 100000 in
set_option maxHeartbeats 4000000 in
theorem mJ1_indexOf_4cfef_v0 {E : En} {l : Launch} (hI : Inj E) (v1 : Int32) (v2 : Int32) (v3 : Int32) (μ : Mem) : MtI E l yJ1_indexOf_4cfef cJ1_indexOf_4cfef 4 (some .int) 2 [.ref (eSv E 0), .int v1, .int v2, .int v3] μ (fJ1_indexOf_4cfef_v0 v1 v2 v3 μ) := by
  refine mtI_of (own := RJ1) [(0, .ref (eSv E 0)), (1, .int v1), (2, .int v2), (3, .int v3)] hI rfl (by decide) (Nat.le_of_ble_eq_true rfl) (Nat.le_of_ble_eq_true rfl) rfl (fun Z hl0 X hr => ?_)
  unfold fJ1_indexOf_4cfef_v0
  refine ao_iload_n (pc := 0) X dJ1_indexOf_4cfef_0 rfl ?_
  refine ao_callSI (pc := 1) (As := [.int v1]) (st := []) X hl0 dJ1_indexOf_4cfef_1 yv_J1_canEncode_9a6ad ml_RJ1_88 (mJ1_canEncode_9a6ad hI v1 μ) (Nat.le_of_ble_eq_true rfl) rfl rfl (Nat.le_of_ble_eq_true rfl) (fun r1 m2 => ?_)
  refine ao_if_ne (pc := 4) (tgt := 9) X dJ1_indexOf_4cfef_4 (by decide) (fun _ => ?_) (fun _ => ?_)
  · refine ao_iload_n (pc := 9) X dJ1_indexOf_4cfef_9 rfl ?_
    refine ao_iconst (pc := 10) X dJ1_indexOf_4cfef_10 ic_0 ?_
    refine ao_max (pc := 11) X dJ1_indexOf_4cfef_11 ml_RJ1_92 MaxW_ok (Nat.le_of_ble_eq_true rfl) ?_
    refine ao_ltI (fun x3 => ?_)
    refine ao_istore_n (pc := 14) (lv' := [(2, .int x3), (0, .ref (eSv E 0)), (1, .int v1), (3, .int v3)]) X dJ1_indexOf_4cfef_14 rfl (by decide) rfl ?_
    refine ao_iload_n (pc := 15) X dJ1_indexOf_4cfef_15 rfl ?_
    refine ao_aload_n (pc := 16) X dJ1_indexOf_4cfef_16 rfl ?_
    refine ao_slen (pc := 17) (v := (6 : Int32)) X dJ1_indexOf_4cfef_17 (by decide) (by decide) ?_
    refine ao_min (pc := 18) X dJ1_indexOf_4cfef_18 ml_RJ1_38 MinW_ok (Nat.le_of_ble_eq_true rfl) ?_
    refine ao_ltI (fun x4 => ?_)
    refine ao_istore_n (pc := 21) (lv' := [(3, .int x4), (2, .int x3), (0, .ref (eSv E 0)), (1, .int v1)]) X dJ1_indexOf_4cfef_21 rfl (by decide) rfl ?_
    refine ao_iload_n (pc := 22) X dJ1_indexOf_4cfef_22 rfl ?_
    refine ao_iload_n (pc := 23) X dJ1_indexOf_4cfef_23 rfl ?_
    refine ao_icmp_lt (pc := 24) (tgt := 29) X dJ1_indexOf_4cfef_24 (by decide) (fun _ => ?_) (fun _ => ?_)
    · refine ao_aload_n (pc := 29) X dJ1_indexOf_4cfef_29 rfl ?_
      refine ao_iload_n (pc := 30) X dJ1_indexOf_4cfef_30 rfl ?_
      refine ao_iload_n (pc := 31) X dJ1_indexOf_4cfef_31 rfl ?_
      refine ao_iload_n (pc := 32) X dJ1_indexOf_4cfef_32 rfl ?_
      refine ao_callSI (pc := 33) (As := [.ref (eSv E 0), .int v1, .int x3, .int x4]) (st := []) X hl0 dJ1_indexOf_4cfef_33 yv_J1_indexOfChar_4cfef ml_RJ1_95 (mJ1_indexOfChar_4cfef_v0 hI v1 x3 x4 m2) (Nat.le_of_ble_eq_true rfl) rfl rfl (Nat.le_of_ble_eq_true rfl) (fun r5 m6 => ?_)
      exact ao_iret (pc := 36) X hr dJ1_indexOf_4cfef_36
    · refine ao_iconst (pc := 27) X dJ1_indexOf_4cfef_27 ic_m1 ?_
      exact ao_iret (pc := 28) X hr dJ1_indexOf_4cfef_28
  · refine ao_iconst (pc := 7) X dJ1_indexOf_4cfef_7 ic_m1 ?_
    exact ao_iret (pc := 8) X hr dJ1_indexOf_4cfef_8
def fJ0_indexOf_7cf53_s0 (v1 : Int32) (v2 : Int32) (μ : Mem) : Option (Int32 × Mem) :=
  bnd (fJ0_isLatin1_aae02_s0 μ) fun r1 m2 =>
  if r1 = 0 then (bnd (fJ0_length_8abf5_s0 m2) fun r3 m4 =>
    none)
  else bnd (fJ0_length_8abf5_s0 m2) fun r5 m6 =>
    bnd (fJ1_indexOf_4cfef_v0 v1 v2 r5 m6) fun r7 m8 =>
    some (r7, m8)
set_option maxRecDepth 100000 in
set_option maxHeartbeats 4000000 in
theorem mJ0_indexOf_7cf53_s0 {E : En} {l : Launch} (hI : Inj E) (v1 : Int32) (v2 : Int32) (μ : Mem) : MtI E l yJ0_indexOf_7cf53 cJ0_indexOf_7cf53 3 (some .int) 3 [.ref (eSk E 0), .int v1, .int v2] μ (fJ0_indexOf_7cf53_s0 v1 v2 μ) := by
  refine mtI_of (own := RJ0) [(0, .ref (eSk E 0)), (1, .int v1), (2, .int v2)] hI rfl (by decide) (Nat.le_of_ble_eq_true rfl) (Nat.le_of_ble_eq_true rfl) rfl (fun Z hl0 X hr => ?_)
  unfold fJ0_indexOf_7cf53_s0
  refine ao_aload_n (pc := 0) X dJ0_indexOf_7cf53_0 rfl ?_
  refine ao_callT (pc := 1) (As := []) (st := []) X hl0 dJ0_indexOf_7cf53_1 (by decide) yv_J0_isLatin1_aae02 ml_RJ0_492 (mJ0_isLatin1_aae02_s0 hI μ) (Nat.le_of_ble_eq_true rfl) rfl rfl (Nat.le_of_ble_eq_true rfl) (fun r1 m2 => ?_)
  refine ao_if_eq (pc := 4) (tgt := 23) X dJ0_indexOf_7cf53_4 (by decide) (fun _ => ?_) (fun _ => ?_)
  · refine ao_aload_n (pc := 23) X dJ0_indexOf_7cf53_23 rfl ?_
    refine ao_sval (pc := 24) X dJ0_indexOf_7cf53_24 (by decide) fs_RJ0_9 ?_
    refine ao_iload_n (pc := 27) X dJ0_indexOf_7cf53_27 rfl ?_
    refine ao_iload_n (pc := 28) X dJ0_indexOf_7cf53_28 rfl ?_
    refine ao_aload_n (pc := 29) X dJ0_indexOf_7cf53_29 rfl ?_
    refine ao_callT (pc := 30) (As := []) (st := [.int v2, .int v1, .ref (eSv E 0)]) X hl0 dJ0_indexOf_7cf53_30 (by decide) yv_J0_length_8abf5 ml_RJ0_505 (mJ0_length_8abf5_s0 hI m2) (Nat.le_of_ble_eq_true rfl) rfl rfl (Nat.le_of_ble_eq_true rfl) (fun r3 m4 => ?_)
    exact ao_none
  · refine ao_aload_n (pc := 7) X dJ0_indexOf_7cf53_7 rfl ?_
    refine ao_sval (pc := 8) X dJ0_indexOf_7cf53_8 (by decide) fs_RJ0_9 ?_
    refine ao_iload_n (pc := 11) X dJ0_indexOf_7cf53_11 rfl ?_
    refine ao_iload_n (pc := 12) X dJ0_indexOf_7cf53_12 rfl ?_
    refine ao_aload_n (pc := 13) X dJ0_indexOf_7cf53_13 rfl ?_
    refine ao_callT (pc := 14) (As := []) (st := [.int v2, .int v1, .ref (eSv E 0)]) X hl0 dJ0_indexOf_7cf53_14 (by decide) yv_J0_length_8abf5 ml_RJ0_505 (mJ0_length_8abf5_s0 hI m2) (Nat.le_of_ble_eq_true rfl) rfl rfl (Nat.le_of_ble_eq_true rfl) (fun r5 m6 => ?_)
    refine ao_callSI (pc := 17) (As := [.ref (eSv E 0), .int v1, .int v2, .int r5]) (st := []) X hl0 dJ0_indexOf_7cf53_17 yv_J1_indexOf_4cfef ml_RJ0_637 (mJ1_indexOf_4cfef_v0 hI v1 v2 r5 m6) (Nat.le_of_ble_eq_true rfl) rfl rfl (Nat.le_of_ble_eq_true rfl) (fun r7 m8 => ?_)
    refine ao_goto (pc := 20) (tgt := 36) X dJ0_indexOf_7cf53_20 (by decide) ?_
    exact ao_iret (pc := 36) X hr dJ0_indexOf_7cf53_36
def fJ0_indexOf_0f7a4_s0 (v1 : Int32) (μ : Mem) : Option (Int32 × Mem) :=
  bnd (fJ0_indexOf_7cf53_s0 v1 (0 : Int32) μ) fun r1 m2 =>
  some (r1, m2)
set_option maxRecDepth 100000 in
set_option maxHeartbeats 4000000 in
theorem mJ0_indexOf_0f7a4_s0 {E : En} {l : Launch} (hI : Inj E) (v1 : Int32) (μ : Mem) : MtI E l yJ0_indexOf_0f7a4 cJ0_indexOf_0f7a4 2 (some .int) 4 [.ref (eSk E 0), .int v1] μ (fJ0_indexOf_0f7a4_s0 v1 μ) := by
  refine mtI_of (own := RJ0) [(0, .ref (eSk E 0)), (1, .int v1)] hI rfl (by decide) (Nat.le_of_ble_eq_true rfl) (Nat.le_of_ble_eq_true rfl) rfl (fun Z hl0 X hr => ?_)
  unfold fJ0_indexOf_0f7a4_s0
  refine ao_aload_n (pc := 0) X dJ0_indexOf_0f7a4_0 rfl ?_
  refine ao_iload_n (pc := 1) X dJ0_indexOf_0f7a4_1 rfl ?_
  refine ao_iconst (pc := 2) X dJ0_indexOf_0f7a4_2 ic_0 ?_
  refine ao_callT (pc := 3) (As := [.int v1, .int (0 : Int32)]) (st := []) X hl0 dJ0_indexOf_0f7a4_3 (by decide) yv_J0_indexOf_7cf53 ml_RJ0_633 (mJ0_indexOf_7cf53_s0 hI v1 (0 : Int32) μ) (Nat.le_of_ble_eq_true rfl) rfl rfl (Nat.le_of_ble_eq_true rfl) (fun r1 m2 => ?_)
  exact ao_iret (pc := 6) X hr dJ0_indexOf_0f7a4_6
def fX9_takesOneOf_1_s0 (μ : Mem) : Option (Int32 × Mem) :=
  if (gI μ 1 2) < (gI μ 1 3) then (gd (inb (gI μ 1 2) 80) (bnd (fJ0_indexOf_0f7a4_s0 (gI μ 2 (ix (gI μ 1 2))) μ) fun r1 m2 =>
    if r1 < 0 then (some (r1, m2))
    else lt (sI m2 1 2 ((gI m2 1 2) + (1 : Int32))) fun m3 =>
      some (r1, m3)))
  else some ((-1 : Int32), μ)
set_option maxRecDepth 100000 in
set_option maxHeartbeats 4000000 in
theorem mX9_takesOneOf_1_s0 {E : En} {l : Launch} (hI : Inj E) (μ : Mem) : MtI E l yX9_takesOneOf cX9_takesOneOf 3 (some .int) 5 [.ref (eAd E 1), .ref (eSk E 0)] μ (fX9_takesOneOf_1_s0 μ) := by
  refine mtI_of (own := RX9) [(0, .ref (eAd E 1)), (1, .ref (eSk E 0))] hI rfl (by decide) (Nat.le_of_ble_eq_true rfl) (Nat.le_of_ble_eq_true rfl) rfl (fun Z hl0 X hr => ?_)
  unfold fX9_takesOneOf_1_s0
  refine ao_aload_n (pc := 0) X dX9_takesOneOf_0 rfl ?_
  refine ao_getI (pc := 1) X dX9_takesOneOf_1 fl_RX9_19 sf_1_2 ?_
  refine ao_aload_n (pc := 4) X dX9_takesOneOf_4 rfl ?_
  refine ao_getI (pc := 5) X dX9_takesOneOf_5 fl_RX9_22 sf_1_3 ?_
  refine ao_icmp_lt (pc := 8) (tgt := 13) X dX9_takesOneOf_8 (by decide) (fun _ => ?_) (fun _ => ?_)
  · refine ao_aload_n (pc := 13) X dX9_takesOneOf_13 rfl ?_
    refine ao_aload_n (pc := 14) X dX9_takesOneOf_14 rfl ?_
    refine ao_getR (pc := 15) X dX9_takesOneOf_15 fl_RX9_11 sf_1_0 ?_
    refine ao_aload_n (pc := 18) X dX9_takesOneOf_18 rfl ?_
    refine ao_getI (pc := 19) X dX9_takesOneOf_19 fl_RX9_19 sf_1_2 ?_
    refine ao_cald (pc := 22) X dX9_takesOneOf_22 sa_2 ?_
    refine ao_callT (pc := 23) (As := [.int (gI μ 2 (ix (gI μ 1 2)))]) (st := []) X hl0 dX9_takesOneOf_23 (by decide) yv_J0_indexOf_0f7a4 ml_RX9_34 (mJ0_indexOf_0f7a4_s0 hI (gI μ 2 (ix (gI μ 1 2))) μ) (Nat.le_of_ble_eq_true rfl) rfl rfl (Nat.le_of_ble_eq_true rfl) (fun r1 m2 => ?_)
    refine ao_istore_n (pc := 26) (lv' := [(2, .int r1), (0, .ref (eAd E 1)), (1, .ref (eSk E 0))]) X dX9_takesOneOf_26 rfl (by decide) rfl ?_
    refine ao_iload_n (pc := 27) X dX9_takesOneOf_27 rfl ?_
    refine ao_if_lt (pc := 28) (tgt := 41) X dX9_takesOneOf_28 (by decide) (fun _ => ?_) (fun _ => ?_)
    · refine ao_iload_n (pc := 41) X dX9_takesOneOf_41 rfl ?_
      exact ao_iret (pc := 42) X hr dX9_takesOneOf_42
    · refine ao_aload_n (pc := 31) X dX9_takesOneOf_31 rfl ?_
      refine ao_dup (pc := 32) X dX9_takesOneOf_32 rfl ?_
      refine ao_getI (pc := 33) X dX9_takesOneOf_33 fl_RX9_19 sf_1_2 ?_
      refine ao_iconst (pc := 36) X dX9_takesOneOf_36 ic_1 ?_
      refine ao_iadd (pc := 37) X dX9_takesOneOf_37 ?_
      refine ao_putI (pc := 38) X dX9_takesOneOf_38 fp_RX9_19 sf_1_2 ?_
      refine ao_lt (fun m3 => ?_)
      refine ao_iload_n (pc := 41) X dX9_takesOneOf_41 rfl ?_
      exact ao_iret (pc := 42) X hr dX9_takesOneOf_42
  · refine ao_iconst (pc := 11) X dX9_takesOneOf_11 ic_m1 ?_
    exact ao_iret (pc := 12) X hr dX9_takesOneOf_12
def fJ0_isLatin1_aae02_s4 (μ : Mem) : Option (Int32 × Mem) :=
  if (1 : Int32) = 0 then (some ((0 : Int32), μ))
  else if (0 : Int32) = 0 then (some ((1 : Int32), μ))
    else some ((0 : Int32), μ)
set_option maxRecDepth 100000 in
set_option maxHeartbeats 4000000 in
theorem mJ0_isLatin1_aae02_s4 {E : En} {l : Launch} (hI : Inj E) (μ : Mem) : MtI E l yJ0_isLatin1_aae02 cJ0_isLatin1_aae02 1 (some .boolean) 1 [.ref (eSk E 4)] μ (fJ0_isLatin1_aae02_s4 μ) := by
  refine mtI_of (own := RJ0) [(0, .ref (eSk E 4))] hI rfl (by decide) (Nat.le_of_ble_eq_true rfl) (Nat.le_of_ble_eq_true rfl) rfl (fun Z hl0 X hr => ?_)
  unfold fJ0_isLatin1_aae02_s4
  refine ao_scomp (pc := 0) X dJ0_isLatin1_aae02_0 fs_RJ0_38 ?_
  refine ao_if_eq (pc := 3) (tgt := 17) X dJ0_isLatin1_aae02_3 (by decide) (fun _ => ?_) (fun _ => ?_)
  · refine ao_iconst (pc := 17) X dJ0_isLatin1_aae02_17 ic_0 ?_
    exact ao_zret (pc := 18) X hr rfl dJ0_isLatin1_aae02_18
  · refine ao_aload_n (pc := 6) X dJ0_isLatin1_aae02_6 rfl ?_
    refine ao_scod (pc := 7) X dJ0_isLatin1_aae02_7 (by decide) fs_RJ0_15 ?_
    refine ao_if_ne (pc := 10) (tgt := 17) X dJ0_isLatin1_aae02_10 (by decide) (fun _ => ?_) (fun _ => ?_)
    · refine ao_iconst (pc := 17) X dJ0_isLatin1_aae02_17 ic_0 ?_
      exact ao_zret (pc := 18) X hr rfl dJ0_isLatin1_aae02_18
    · refine ao_iconst (pc := 13) X dJ0_isLatin1_aae02_13 ic_1 ?_
      refine ao_goto (pc := 14) (tgt := 18) X dJ0_isLatin1_aae02_14 (by decide) ?_
      exact ao_zret (pc := 18) X hr rfl dJ0_isLatin1_aae02_18
def fJ0_coder_7d493_s4 (μ : Mem) : Option (Int32 × Mem) :=
  if (1 : Int32) = 0 then (some ((1 : Int32), μ))
  else some ((0 : Int32), μ)
set_option maxRecDepth 100000 in
set_option maxHeartbeats 4000000 in
theorem mJ0_coder_7d493_s4 {E : En} {l : Launch} (hI : Inj E) (μ : Mem) : MtI E l yJ0_coder_7d493 cJ0_coder_7d493 1 (some .byte) 1 [.ref (eSk E 4)] μ (fJ0_coder_7d493_s4 μ) := by
  refine mtI_of (own := RJ0) [(0, .ref (eSk E 4))] hI rfl (by decide) (Nat.le_of_ble_eq_true rfl) (Nat.le_of_ble_eq_true rfl) rfl (fun Z hl0 X hr => ?_)
  unfold fJ0_coder_7d493_s4
  refine ao_scomp (pc := 0) X dJ0_coder_7d493_0 fs_RJ0_38 ?_
  refine ao_if_eq (pc := 3) (tgt := 13) X dJ0_coder_7d493_3 (by decide) (fun _ => ?_) (fun _ => ?_)
  · refine ao_iconst (pc := 13) X dJ0_coder_7d493_13 ic_1 ?_
    exact ao_zret (pc := 14) X hr rfl dJ0_coder_7d493_14
  · refine ao_aload_n (pc := 6) X dJ0_coder_7d493_6 rfl ?_
    refine ao_scod (pc := 7) X dJ0_coder_7d493_7 (by decide) fs_RJ0_15 ?_
    refine ao_goto (pc := 10) (tgt := 14) X dJ0_coder_7d493_10 (by decide) ?_
    exact ao_zret (pc := 14) X hr rfl dJ0_coder_7d493_14
def fJ0_length_8abf5_s4 (μ : Mem) : Option (Int32 × Mem) :=
  bnd (fJ0_coder_7d493_s4 μ) fun r1 m2 =>
  some (((2 : Int32) >>> (r1 &&& 31)), m2)
set_option maxRecDepth 100000 in
set_option maxHeartbeats 4000000 in
theorem mJ0_length_8abf5_s4 {E : En} {l : Launch} (hI : Inj E) (μ : Mem) : MtI E l yJ0_length_8abf5 cJ0_length_8abf5 1 (some .int) 2 [.ref (eSk E 4)] μ (fJ0_length_8abf5_s4 μ) := by
  refine mtI_of (own := RJ0) [(0, .ref (eSk E 4))] hI rfl (by decide) (Nat.le_of_ble_eq_true rfl) (Nat.le_of_ble_eq_true rfl) rfl (fun Z hl0 X hr => ?_)
  unfold fJ0_length_8abf5_s4
  refine ao_aload_n (pc := 0) X dJ0_length_8abf5_0 rfl ?_
  refine ao_sval (pc := 1) X dJ0_length_8abf5_1 (by decide) fs_RJ0_9 ?_
  refine ao_slen (pc := 4) (v := (2 : Int32)) X dJ0_length_8abf5_4 (by decide) (by decide) ?_
  refine ao_aload_n (pc := 5) X dJ0_length_8abf5_5 rfl ?_
  refine ao_callT (pc := 6) (As := []) (st := [.int (2 : Int32)]) X hl0 dJ0_length_8abf5_6 (by decide) yv_J0_coder_7d493 ml_RJ0_335 (mJ0_coder_7d493_s4 hI μ) (Nat.le_of_ble_eq_true rfl) rfl rfl (Nat.le_of_ble_eq_true rfl) (fun r1 m2 => ?_)
  refine ao_ishr (pc := 9) X dJ0_length_8abf5_9 ?_
  exact ao_iret (pc := 10) X hr dJ0_length_8abf5_10
def fJ1_indexOfChar_4cfef_v4_b7 : Nat → Int32 → Int32 → Int32 → Mem → Option (Int32 × Mem)
  | 0, _, _, _, _ => none
  | n + 1, p3, p4, p5, μ =>
  if p3 ≤ p5 then (some ((-1 : Int32), μ))
  else gd (inb p5 2) (if (sch 4 p5) = p4 then (some (p5, μ))
    else fJ1_indexOfChar_4cfef_v4_b7 n p3 p4 (p5 + (1 : Int32)) μ)
set_option maxRecDepth 100000 in
set_option maxHeartbeats 4000000 in
theorem bJ1_indexOfChar_4cfef_v4_7 {E : En} {l : Launch} {Z : Zt} (hI : Inj E) (hl0 : lZ l Z) (X : Cx E Z cJ1_indexOfChar_4cfef RJ1 6 1) (hr : rtOf Z = some .int) : ∀ (n : Nat) (p3 : Int32) (p4 : Int32) (p5 : Int32) (μ : Mem), AO E Z 6 (QI E Z) 7 [(0, .ref (eSv E 4)), (3, .int p3), (4, .int p4), (5, .int p5)] [] μ (fJ1_indexOfChar_4cfef_v4_b7 n p3 p4 p5 μ) := by
  intro n
  induction n with
  | zero =>
    intros
    exact ao_none
  | succ n ih =>
    intro p3 p4 p5 μ
    rw [fJ1_indexOfChar_4cfef_v4_b7]
    refine ao_iload (pc := 7) X dJ1_indexOfChar_4cfef_7 rfl ?_
    refine ao_iload_n (pc := 9) X dJ1_indexOfChar_4cfef_9 rfl ?_
    refine ao_icmp_ge (pc := 10) (tgt := 31) X dJ1_indexOfChar_4cfef_10 (by decide) (fun _ => ?_) (fun _ => ?_)
    · refine ao_iconst (pc := 31) X dJ1_indexOfChar_4cfef_31 ic_m1 ?_
      exact ao_iret (pc := 32) X hr dJ1_indexOfChar_4cfef_32
    · refine ao_aload_n (pc := 13) X dJ1_indexOfChar_4cfef_13 rfl ?_
      refine ao_iload (pc := 14) X dJ1_indexOfChar_4cfef_14 rfl ?_
      refine ao_sbald (pc := 16) X dJ1_indexOfChar_4cfef_16 (by decide) rfl ?_
      refine ao_iload (pc := 17) X dJ1_indexOfChar_4cfef_17 rfl ?_
      refine ao_icmp_ne (pc := 19) (tgt := 25) X dJ1_indexOfChar_4cfef_19 (by decide) (fun _ => ?_) (fun _ => ?_)
      · refine ao_iinc (pc := 25) (k := 3) (v := p5 + (1 : Int32)) (lv' := [(5, .int (p5 + (1 : Int32))), (0, .ref (eSv E 4)), (3, .int p3), (4, .int p4)]) X dJ1_indexOfChar_4cfef_25 rfl (ii_ic ic_1) (by decide) rfl ?_
        refine ao_goto (pc := 28) (tgt := 7) X dJ1_indexOfChar_4cfef_28 (by decide) ?_
        refine ao_sub [1, 2, 3, 0] rfl ?_
        exact ih p3 p4 (p5 + (1 : Int32)) μ
      · refine ao_iload (pc := 22) X dJ1_indexOfChar_4cfef_22 rfl ?_
        exact ao_iret (pc := 24) X hr dJ1_indexOfChar_4cfef_24
def fJ1_indexOfChar_4cfef_v4 (v1 : Int32) (v2 : Int32) (v3 : Int32) (μ : Mem) : Option (Int32 × Mem) :=
  lt (Int8.toInt32 (Int32.toInt8 v1)) fun x1 =>
  fJ1_indexOfChar_4cfef_v4_b7 FU v3 x1 v2 μ
set_option maxRecDepth 100000 in
set_option maxHeartbeats 4000000 in
theorem mJ1_indexOfChar_4cfef_v4 {E : En} {l : Launch} (hI : Inj E) (v1 : Int32) (v2 : Int32) (v3 : Int32) (μ : Mem) : MtI E l yJ1_indexOfChar_4cfef cJ1_indexOfChar_4cfef 6 (some .int) 1 [.ref (eSv E 4), .int v1, .int v2, .int v3] μ (fJ1_indexOfChar_4cfef_v4 v1 v2 v3 μ) := by
  refine mtI_of (own := RJ1) [(0, .ref (eSv E 4)), (1, .int v1), (2, .int v2), (3, .int v3)] hI rfl (by decide) (Nat.le_of_ble_eq_true rfl) (Nat.le_of_ble_eq_true rfl) rfl (fun Z hl0 X hr => ?_)
  unfold fJ1_indexOfChar_4cfef_v4
  refine ao_iload_n (pc := 0) X dJ1_indexOfChar_4cfef_0 rfl ?_
  refine ao_i2b (pc := 1) X dJ1_indexOfChar_4cfef_1 ?_
  refine ao_ltI (fun x1 => ?_)
  refine ao_istore (pc := 2) (lv' := [(4, .int x1), (0, .ref (eSv E 4)), (1, .int v1), (2, .int v2), (3, .int v3)]) X dJ1_indexOfChar_4cfef_2 (by decide) rfl ?_
  refine ao_iload_n (pc := 4) X dJ1_indexOfChar_4cfef_4 rfl ?_
  refine ao_istore (pc := 5) (lv' := [(5, .int v2), (4, .int x1), (0, .ref (eSv E 4)), (1, .int v1), (2, .int v2), (3, .int v3)]) X dJ1_indexOfChar_4cfef_5 (by decide) rfl ?_
  refine ao_sub [2, 5, 1, 0] rfl ?_
  exact bJ1_indexOfChar_4cfef_v4_7 hI hl0 X hr FU v3 x1 v2 μ
def fJ1_indexOf_4cfef_v4 (v1 : Int32) (v2 : Int32) (v3 : Int32) (μ : Mem) : Option (Int32 × Mem) :=
  bnd (fJ1_canEncode_9a6ad v1 μ) fun r1 m2 =>
  if r1 = 0 then (some ((-1 : Int32), m2))
  else lt (imax v2 (0 : Int32)) fun x3 =>
    lt (imin v3 (2 : Int32)) fun x4 =>
    if x3 < x4 then (bnd (fJ1_indexOfChar_4cfef_v4 v1 x3 x4 m2) fun r5 m6 =>
      some (r5, m6))
    else some ((-1 : Int32), m2)
set_option maxRecDepth 100000 in
set_option maxHeartbeats 4000000 in
theorem mJ1_indexOf_4cfef_v4 {E : En} {l : Launch} (hI : Inj E) (v1 : Int32) (v2 : Int32) (v3 : Int32) (μ : Mem) : MtI E l yJ1_indexOf_4cfef cJ1_indexOf_4cfef 4 (some .int) 2 [.ref (eSv E 4), .int v1, .int v2, .int v3] μ (fJ1_indexOf_4cfef_v4 v1 v2 v3 μ) := by
  refine mtI_of (own := RJ1) [(0, .ref (eSv E 4)), (1, .int v1), (2, .int v2), (3, .int v3)] hI rfl (by decide) (Nat.le_of_ble_eq_true rfl) (Nat.le_of_ble_eq_true rfl) rfl (fun Z hl0 X hr => ?_)
  unfold fJ1_indexOf_4cfef_v4
  refine ao_iload_n (pc := 0) X dJ1_indexOf_4cfef_0 rfl ?_
  refine ao_callSI (pc := 1) (As := [.int v1]) (st := []) X hl0 dJ1_indexOf_4cfef_1 yv_J1_canEncode_9a6ad ml_RJ1_88 (mJ1_canEncode_9a6ad hI v1 μ) (Nat.le_of_ble_eq_true rfl) rfl rfl (Nat.le_of_ble_eq_true rfl) (fun r1 m2 => ?_)
  refine ao_if_ne (pc := 4) (tgt := 9) X dJ1_indexOf_4cfef_4 (by decide) (fun _ => ?_) (fun _ => ?_)
  · refine ao_iload_n (pc := 9) X dJ1_indexOf_4cfef_9 rfl ?_
    refine ao_iconst (pc := 10) X dJ1_indexOf_4cfef_10 ic_0 ?_
    refine ao_max (pc := 11) X dJ1_indexOf_4cfef_11 ml_RJ1_92 MaxW_ok (Nat.le_of_ble_eq_true rfl) ?_
    refine ao_ltI (fun x3 => ?_)
    refine ao_istore_n (pc := 14) (lv' := [(2, .int x3), (0, .ref (eSv E 4)), (1, .int v1), (3, .int v3)]) X dJ1_indexOf_4cfef_14 rfl (by decide) rfl ?_
    refine ao_iload_n (pc := 15) X dJ1_indexOf_4cfef_15 rfl ?_
    refine ao_aload_n (pc := 16) X dJ1_indexOf_4cfef_16 rfl ?_
    refine ao_slen (pc := 17) (v := (2 : Int32)) X dJ1_indexOf_4cfef_17 (by decide) (by decide) ?_
    refine ao_min (pc := 18) X dJ1_indexOf_4cfef_18 ml_RJ1_38 MinW_ok (Nat.le_of_ble_eq_true rfl) ?_
    refine ao_ltI (fun x4 => ?_)
    refine ao_istore_n (pc := 21) (lv' := [(3, .int x4), (2, .int x3), (0, .ref (eSv E 4)), (1, .int v1)]) X dJ1_indexOf_4cfef_21 rfl (by decide) rfl ?_
    refine ao_iload_n (pc := 22) X dJ1_indexOf_4cfef_22 rfl ?_
    refine ao_iload_n (pc := 23) X dJ1_indexOf_4cfef_23 rfl ?_
    refine ao_icmp_lt (pc := 24) (tgt := 29) X dJ1_indexOf_4cfef_24 (by decide) (fun _ => ?_) (fun _ => ?_)
    · refine ao_aload_n (pc := 29) X dJ1_indexOf_4cfef_29 rfl ?_
      refine ao_iload_n (pc := 30) X dJ1_indexOf_4cfef_30 rfl ?_
      refine ao_iload_n (pc := 31) X dJ1_indexOf_4cfef_31 rfl ?_
      refine ao_iload_n (pc := 32) X dJ1_indexOf_4cfef_32 rfl ?_
      refine ao_callSI (pc := 33) (As := [.ref (eSv E 4), .int v1, .int x3, .int x4]) (st := []) X hl0 dJ1_indexOf_4cfef_33 yv_J1_indexOfChar_4cfef ml_RJ1_95 (mJ1_indexOfChar_4cfef_v4 hI v1 x3 x4 m2) (Nat.le_of_ble_eq_true rfl) rfl rfl (Nat.le_of_ble_eq_true rfl) (fun r5 m6 => ?_)
      exact ao_iret (pc := 36) X hr dJ1_indexOf_4cfef_36
    · refine ao_iconst (pc := 27) X dJ1_indexOf_4cfef_27 ic_m1 ?_
      exact ao_iret (pc := 28) X hr dJ1_indexOf_4cfef_28
  · refine ao_iconst (pc := 7) X dJ1_indexOf_4cfef_7 ic_m1 ?_
    exact ao_iret (pc := 8) X hr dJ1_indexOf_4cfef_8
def fJ0_indexOf_7cf53_s4 (v1 : Int32) (v2 : Int32) (μ : Mem) : Option (Int32 × Mem) :=
  bnd (fJ0_isLatin1_aae02_s4 μ) fun r1 m2 =>
  if r1 = 0 then (bnd (fJ0_length_8abf5_s4 m2) fun r3 m4 =>
    none)
  else bnd (fJ0_length_8abf5_s4 m2) fun r5 m6 =>
    bnd (fJ1_indexOf_4cfef_v4 v1 v2 r5 m6) fun r7 m8 =>
    some (r7, m8)
set_option maxRecDepth 100000 in
set_option maxHeartbeats 4000000 in
theorem mJ0_indexOf_7cf53_s4 {E : En} {l : Launch} (hI : Inj E) (v1 : Int32) (v2 : Int32) (μ : Mem) : MtI E l yJ0_indexOf_7cf53 cJ0_indexOf_7cf53 3 (some .int) 3 [.ref (eSk E 4), .int v1, .int v2] μ (fJ0_indexOf_7cf53_s4 v1 v2 μ) := by
  refine mtI_of (own := RJ0) [(0, .ref (eSk E 4)), (1, .int v1), (2, .int v2)] hI rfl (by decide) (Nat.le_of_ble_eq_true rfl) (Nat.le_of_ble_eq_true rfl) rfl (fun Z hl0 X hr => ?_)
  unfold fJ0_indexOf_7cf53_s4
  refine ao_aload_n (pc := 0) X dJ0_indexOf_7cf53_0 rfl ?_
  refine ao_callT (pc := 1) (As := []) (st := []) X hl0 dJ0_indexOf_7cf53_1 (by decide) yv_J0_isLatin1_aae02 ml_RJ0_492 (mJ0_isLatin1_aae02_s4 hI μ) (Nat.le_of_ble_eq_true rfl) rfl rfl (Nat.le_of_ble_eq_true rfl) (fun r1 m2 => ?_)
  refine ao_if_eq (pc := 4) (tgt := 23) X dJ0_indexOf_7cf53_4 (by decide) (fun _ => ?_) (fun _ => ?_)
  · refine ao_aload_n (pc := 23) X dJ0_indexOf_7cf53_23 rfl ?_
    refine ao_sval (pc := 24) X dJ0_indexOf_7cf53_24 (by decide) fs_RJ0_9 ?_
    refine ao_iload_n (pc := 27) X dJ0_indexOf_7cf53_27 rfl ?_
    refine ao_iload_n (pc := 28) X dJ0_indexOf_7cf53_28 rfl ?_
    refine ao_aload_n (pc := 29) X dJ0_indexOf_7cf53_29 rfl ?_
    refine ao_callT (pc := 30) (As := []) (st := [.int v2, .int v1, .ref (eSv E 4)]) X hl0 dJ0_indexOf_7cf53_30 (by decide) yv_J0_length_8abf5 ml_RJ0_505 (mJ0_length_8abf5_s4 hI m2) (Nat.le_of_ble_eq_true rfl) rfl rfl (Nat.le_of_ble_eq_true rfl) (fun r3 m4 => ?_)
    exact ao_none
  · refine ao_aload_n (pc := 7) X dJ0_indexOf_7cf53_7 rfl ?_
    refine ao_sval (pc := 8) X dJ0_indexOf_7cf53_8 (by decide) fs_RJ0_9 ?_
    refine ao_iload_n (pc := 11) X dJ0_indexOf_7cf53_11 rfl ?_
    refine ao_iload_n (pc := 12) X dJ0_indexOf_7cf53_12 rfl ?_
    refine ao_aload_n (pc := 13) X dJ0_indexOf_7cf53_13 rfl ?_
    refine ao_callT (pc := 14) (As := []) (st := [.int v2, .int v1, .ref (eSv E 4)]) X hl0 dJ0_indexOf_7cf53_14 (by decide) yv_J0_length_8abf5 ml_RJ0_505 (mJ0_length_8abf5_s4 hI m2) (Nat.le_of_ble_eq_true rfl) rfl rfl (Nat.le_of_ble_eq_true rfl) (fun r5 m6 => ?_)
    refine ao_callSI (pc := 17) (As := [.ref (eSv E 4), .int v1, .int v2, .int r5]) (st := []) X hl0 dJ0_indexOf_7cf53_17 yv_J1_indexOf_4cfef ml_RJ0_637 (mJ1_indexOf_4cfef_v4 hI v1 v2 r5 m6) (Nat.le_of_ble_eq_true rfl) rfl rfl (Nat.le_of_ble_eq_true rfl) (fun r7 m8 => ?_)
    refine ao_goto (pc := 20) (tgt := 36) X dJ0_indexOf_7cf53_20 (by decide) ?_
    exact ao_iret (pc := 36) X hr dJ0_indexOf_7cf53_36
def fJ0_indexOf_0f7a4_s4 (v1 : Int32) (μ : Mem) : Option (Int32 × Mem) :=
  bnd (fJ0_indexOf_7cf53_s4 v1 (0 : Int32) μ) fun r1 m2 =>
  some (r1, m2)
set_option maxRecDepth 100000 in
set_option maxHeartbeats 4000000 in
theorem mJ0_indexOf_0f7a4_s4 {E : En} {l : Launch} (hI : Inj E) (v1 : Int32) (μ : Mem) : MtI E l yJ0_indexOf_0f7a4 cJ0_indexOf_0f7a4 2 (some .int) 4 [.ref (eSk E 4), .int v1] μ (fJ0_indexOf_0f7a4_s4 v1 μ) := by
  refine mtI_of (own := RJ0) [(0, .ref (eSk E 4)), (1, .int v1)] hI rfl (by decide) (Nat.le_of_ble_eq_true rfl) (Nat.le_of_ble_eq_true rfl) rfl (fun Z hl0 X hr => ?_)
  unfold fJ0_indexOf_0f7a4_s4
  refine ao_aload_n (pc := 0) X dJ0_indexOf_0f7a4_0 rfl ?_
  refine ao_iload_n (pc := 1) X dJ0_indexOf_0f7a4_1 rfl ?_
  refine ao_iconst (pc := 2) X dJ0_indexOf_0f7a4_2 ic_0 ?_
  refine ao_callT (pc := 3) (As := [.int v1, .int (0 : Int32)]) (st := []) X hl0 dJ0_indexOf_0f7a4_3 (by decide) yv_J0_indexOf_7cf53 ml_RJ0_633 (mJ0_indexOf_7cf53_s4 hI v1 (0 : Int32) μ) (Nat.le_of_ble_eq_true rfl) rfl rfl (Nat.le_of_ble_eq_true rfl) (fun r1 m2 => ?_)
  exact ao_iret (pc := 6) X hr dJ0_indexOf_0f7a4_6
def fX9_takesOneOf_1_s4 (μ : Mem) : Option (Int32 × Mem) :=
  if (gI μ 1 2) < (gI μ 1 3) then (gd (inb (gI μ 1 2) 80) (bnd (fJ0_indexOf_0f7a4_s4 (gI μ 2 (ix (gI μ 1 2))) μ) fun r1 m2 =>
    if r1 < 0 then (some (r1, m2))
    else lt (sI m2 1 2 ((gI m2 1 2) + (1 : Int32))) fun m3 =>
      some (r1, m3)))
  else some ((-1 : Int32), μ)
set_option maxRecDepth 100000 in
set_option maxHeartbeats 4000000 in
theorem mX9_takesOneOf_1_s4 {E : En} {l : Launch} (hI : Inj E) (μ : Mem) : MtI E l yX9_takesOneOf cX9_takesOneOf 3 (some .int) 5 [.ref (eAd E 1), .ref (eSk E 4)] μ (fX9_takesOneOf_1_s4 μ) := by
  refine mtI_of (own := RX9) [(0, .ref (eAd E 1)), (1, .ref (eSk E 4))] hI rfl (by decide) (Nat.le_of_ble_eq_true rfl) (Nat.le_of_ble_eq_true rfl) rfl (fun Z hl0 X hr => ?_)
  unfold fX9_takesOneOf_1_s4
  refine ao_aload_n (pc := 0) X dX9_takesOneOf_0 rfl ?_
  refine ao_getI (pc := 1) X dX9_takesOneOf_1 fl_RX9_19 sf_1_2 ?_
  refine ao_aload_n (pc := 4) X dX9_takesOneOf_4 rfl ?_
  refine ao_getI (pc := 5) X dX9_takesOneOf_5 fl_RX9_22 sf_1_3 ?_
  refine ao_icmp_lt (pc := 8) (tgt := 13) X dX9_takesOneOf_8 (by decide) (fun _ => ?_) (fun _ => ?_)
  · refine ao_aload_n (pc := 13) X dX9_takesOneOf_13 rfl ?_
    refine ao_aload_n (pc := 14) X dX9_takesOneOf_14 rfl ?_
    refine ao_getR (pc := 15) X dX9_takesOneOf_15 fl_RX9_11 sf_1_0 ?_
    refine ao_aload_n (pc := 18) X dX9_takesOneOf_18 rfl ?_
    refine ao_getI (pc := 19) X dX9_takesOneOf_19 fl_RX9_19 sf_1_2 ?_
    refine ao_cald (pc := 22) X dX9_takesOneOf_22 sa_2 ?_
    refine ao_callT (pc := 23) (As := [.int (gI μ 2 (ix (gI μ 1 2)))]) (st := []) X hl0 dX9_takesOneOf_23 (by decide) yv_J0_indexOf_0f7a4 ml_RX9_34 (mJ0_indexOf_0f7a4_s4 hI (gI μ 2 (ix (gI μ 1 2))) μ) (Nat.le_of_ble_eq_true rfl) rfl rfl (Nat.le_of_ble_eq_true rfl) (fun r1 m2 => ?_)
    refine ao_istore_n (pc := 26) (lv' := [(2, .int r1), (0, .ref (eAd E 1)), (1, .ref (eSk E 4))]) X dX9_takesOneOf_26 rfl (by decide) rfl ?_
    refine ao_iload_n (pc := 27) X dX9_takesOneOf_27 rfl ?_
    refine ao_if_lt (pc := 28) (tgt := 41) X dX9_takesOneOf_28 (by decide) (fun _ => ?_) (fun _ => ?_)
    · refine ao_iload_n (pc := 41) X dX9_takesOneOf_41 rfl ?_
      exact ao_iret (pc := 42) X hr dX9_takesOneOf_42
    · refine ao_aload_n (pc := 31) X dX9_takesOneOf_31 rfl ?_
      refine ao_dup (pc := 32) X dX9_takesOneOf_32 rfl ?_
      refine ao_getI (pc := 33) X dX9_takesOneOf_33 fl_RX9_19 sf_1_2 ?_
      refine ao_iconst (pc := 36) X dX9_takesOneOf_36 ic_1 ?_
      refine ao_iadd (pc := 37) X dX9_takesOneOf_37 ?_
      refine ao_putI (pc := 38) X dX9_takesOneOf_38 fp_RX9_19 sf_1_2 ?_
      refine ao_lt (fun m3 => ?_)
      refine ao_iload_n (pc := 41) X dX9_takesOneOf_41 rfl ?_
      exact ao_iret (pc := 42) X hr dX9_takesOneOf_42
  · refine ao_iconst (pc := 11) X dX9_takesOneOf_11 ic_m1 ?_
    exact ao_iret (pc := 12) X hr dX9_takesOneOf_12
def fJ0_isLatin1_aae02_s5 (μ : Mem) : Option (Int32 × Mem) :=
  if (1 : Int32) = 0 then (some ((0 : Int32), μ))
  else if (0 : Int32) = 0 then (some ((1 : Int32), μ))
    else some ((0 : Int32), μ)
set_option maxRecDepth 100000 in
set_option maxHeartbeats 4000000 in
theorem mJ0_isLatin1_aae02_s5 {E : En} {l : Launch} (hI : Inj E) (μ : Mem) : MtI E l yJ0_isLatin1_aae02 cJ0_isLatin1_aae02 1 (some .boolean) 1 [.ref (eSk E 5)] μ (fJ0_isLatin1_aae02_s5 μ) := by
  refine mtI_of (own := RJ0) [(0, .ref (eSk E 5))] hI rfl (by decide) (Nat.le_of_ble_eq_true rfl) (Nat.le_of_ble_eq_true rfl) rfl (fun Z hl0 X hr => ?_)
  unfold fJ0_isLatin1_aae02_s5
  refine ao_scomp (pc := 0) X dJ0_isLatin1_aae02_0 fs_RJ0_38 ?_
  refine ao_if_eq (pc := 3) (tgt := 17) X dJ0_isLatin1_aae02_3 (by decide) (fun _ => ?_) (fun _ => ?_)
  · refine ao_iconst (pc := 17) X dJ0_isLatin1_aae02_17 ic_0 ?_
    exact ao_zret (pc := 18) X hr rfl dJ0_isLatin1_aae02_18
  · refine ao_aload_n (pc := 6) X dJ0_isLatin1_aae02_6 rfl ?_
    refine ao_scod (pc := 7) X dJ0_isLatin1_aae02_7 (by decide) fs_RJ0_15 ?_
    refine ao_if_ne (pc := 10) (tgt := 17) X dJ0_isLatin1_aae02_10 (by decide) (fun _ => ?_) (fun _ => ?_)
    · refine ao_iconst (pc := 17) X dJ0_isLatin1_aae02_17 ic_0 ?_
      exact ao_zret (pc := 18) X hr rfl dJ0_isLatin1_aae02_18
    · refine ao_iconst (pc := 13) X dJ0_isLatin1_aae02_13 ic_1 ?_
      refine ao_goto (pc := 14) (tgt := 18) X dJ0_isLatin1_aae02_14 (by decide) ?_
      exact ao_zret (pc := 18) X hr rfl dJ0_isLatin1_aae02_18
def fJ0_coder_7d493_s5 (μ : Mem) : Option (Int32 × Mem) :=
  if (1 : Int32) = 0 then (some ((1 : Int32), μ))
  else some ((0 : Int32), μ)
set_option maxRecDepth 100000 in
set_option maxHeartbeats 4000000 in
theorem mJ0_coder_7d493_s5 {E : En} {l : Launch} (hI : Inj E) (μ : Mem) : MtI E l yJ0_coder_7d493 cJ0_coder_7d493 1 (some .byte) 1 [.ref (eSk E 5)] μ (fJ0_coder_7d493_s5 μ) := by
  refine mtI_of (own := RJ0) [(0, .ref (eSk E 5))] hI rfl (by decide) (Nat.le_of_ble_eq_true rfl) (Nat.le_of_ble_eq_true rfl) rfl (fun Z hl0 X hr => ?_)
  unfold fJ0_coder_7d493_s5
  refine ao_scomp (pc := 0) X dJ0_coder_7d493_0 fs_RJ0_38 ?_
  refine ao_if_eq (pc := 3) (tgt := 13) X dJ0_coder_7d493_3 (by decide) (fun _ => ?_) (fun _ => ?_)
  · refine ao_iconst (pc := 13) X dJ0_coder_7d493_13 ic_1 ?_
    exact ao_zret (pc := 14) X hr rfl dJ0_coder_7d493_14
  · refine ao_aload_n (pc := 6) X dJ0_coder_7d493_6 rfl ?_
    refine ao_scod (pc := 7) X dJ0_coder_7d493_7 (by decide) fs_RJ0_15 ?_
    refine ao_goto (pc := 10) (tgt := 14) X dJ0_coder_7d493_10 (by decide) ?_
    exact ao_zret (pc := 14) X hr rfl dJ0_coder_7d493_14
def fJ0_length_8abf5_s5 (μ : Mem) : Option (Int32 × Mem) :=
  bnd (fJ0_coder_7d493_s5 μ) fun r1 m2 =>
  some (((2 : Int32) >>> (r1 &&& 31)), m2)
set_option maxRecDepth 100000 in
set_option maxHeartbeats 4000000 in
theorem mJ0_length_8abf5_s5 {E : En} {l : Launch} (hI : Inj E) (μ : Mem) : MtI E l yJ0_length_8abf5 cJ0_length_8abf5 1 (some .int) 2 [.ref (eSk E 5)] μ (fJ0_length_8abf5_s5 μ) := by
  refine mtI_of (own := RJ0) [(0, .ref (eSk E 5))] hI rfl (by decide) (Nat.le_of_ble_eq_true rfl) (Nat.le_of_ble_eq_true rfl) rfl (fun Z hl0 X hr => ?_)
  unfold fJ0_length_8abf5_s5
  refine ao_aload_n (pc := 0) X dJ0_length_8abf5_0 rfl ?_
  refine ao_sval (pc := 1) X dJ0_length_8abf5_1 (by decide) fs_RJ0_9 ?_
  refine ao_slen (pc := 4) (v := (2 : Int32)) X dJ0_length_8abf5_4 (by decide) (by decide) ?_
  refine ao_aload_n (pc := 5) X dJ0_length_8abf5_5 rfl ?_
  refine ao_callT (pc := 6) (As := []) (st := [.int (2 : Int32)]) X hl0 dJ0_length_8abf5_6 (by decide) yv_J0_coder_7d493 ml_RJ0_335 (mJ0_coder_7d493_s5 hI μ) (Nat.le_of_ble_eq_true rfl) rfl rfl (Nat.le_of_ble_eq_true rfl) (fun r1 m2 => ?_)
  refine ao_ishr (pc := 9) X dJ0_length_8abf5_9 ?_
  exact ao_iret (pc := 10) X hr dJ0_length_8abf5_10
def fJ1_indexOfChar_4cfef_v5_b7 : Nat → Int32 → Int32 → Int32 → Mem → Option (Int32 × Mem)
  | 0, _, _, _, _ => none
  | n + 1, p3, p4, p5, μ =>
  if p3 ≤ p5 then (some ((-1 : Int32), μ))
  else gd (inb p5 2) (if (sch 5 p5) = p4 then (some (p5, μ))
    else fJ1_indexOfChar_4cfef_v5_b7 n p3 p4 (p5 + (1 : Int32)) μ)
set_option maxRecDepth 100000 in
set_option maxHeartbeats 4000000 in
theorem bJ1_indexOfChar_4cfef_v5_7 {E : En} {l : Launch} {Z : Zt} (hI : Inj E) (hl0 : lZ l Z) (X : Cx E Z cJ1_indexOfChar_4cfef RJ1 6 1) (hr : rtOf Z = some .int) : ∀ (n : Nat) (p3 : Int32) (p4 : Int32) (p5 : Int32) (μ : Mem), AO E Z 6 (QI E Z) 7 [(0, .ref (eSv E 5)), (3, .int p3), (4, .int p4), (5, .int p5)] [] μ (fJ1_indexOfChar_4cfef_v5_b7 n p3 p4 p5 μ) := by
  intro n
  induction n with
  | zero =>
    intros
    exact ao_none
  | succ n ih =>
    intro p3 p4 p5 μ
    rw [fJ1_indexOfChar_4cfef_v5_b7]
    refine ao_iload (pc := 7) X dJ1_indexOfChar_4cfef_7 rfl ?_
    refine ao_iload_n (pc := 9) X dJ1_indexOfChar_4cfef_9 rfl ?_
    refine ao_icmp_ge (pc := 10) (tgt := 31) X dJ1_indexOfChar_4cfef_10 (by decide) (fun _ => ?_) (fun _ => ?_)
    · refine ao_iconst (pc := 31) X dJ1_indexOfChar_4cfef_31 ic_m1 ?_
      exact ao_iret (pc := 32) X hr dJ1_indexOfChar_4cfef_32
    · refine ao_aload_n (pc := 13) X dJ1_indexOfChar_4cfef_13 rfl ?_
      refine ao_iload (pc := 14) X dJ1_indexOfChar_4cfef_14 rfl ?_
      refine ao_sbald (pc := 16) X dJ1_indexOfChar_4cfef_16 (by decide) rfl ?_
      refine ao_iload (pc := 17) X dJ1_indexOfChar_4cfef_17 rfl ?_
      refine ao_icmp_ne (pc := 19) (tgt := 25) X dJ1_indexOfChar_4cfef_19 (by decide) (fun _ => ?_) (fun _ => ?_)
      · refine ao_iinc (pc := 25) (k := 3) (v := p5 + (1 : Int32)) (lv' := [(5, .int (p5 + (1 : Int32))), (0, .ref (eSv E 5)), (3, .int p3), (4, .int p4)]) X dJ1_indexOfChar_4cfef_25 rfl (ii_ic ic_1) (by decide) rfl ?_
        refine ao_goto (pc := 28) (tgt := 7) X dJ1_indexOfChar_4cfef_28 (by decide) ?_
        refine ao_sub [1, 2, 3, 0] rfl ?_
        exact ih p3 p4 (p5 + (1 : Int32)) μ
      · refine ao_iload (pc := 22) X dJ1_indexOfChar_4cfef_22 rfl ?_
        exact ao_iret (pc := 24) X hr dJ1_indexOfChar_4cfef_24
def fJ1_indexOfChar_4cfef_v5 (v1 : Int32) (v2 : Int32) (v3 : Int32) (μ : Mem) : Option (Int32 × Mem) :=
  lt (Int8.toInt32 (Int32.toInt8 v1)) fun x1 =>
  fJ1_indexOfChar_4cfef_v5_b7 FU v3 x1 v2 μ
set_option maxRecDepth 100000 in
set_option maxHeartbeats 4000000 in
theorem mJ1_indexOfChar_4cfef_v5 {E : En} {l : Launch} (hI : Inj E) (v1 : Int32) (v2 : Int32) (v3 : Int32) (μ : Mem) : MtI E l yJ1_indexOfChar_4cfef cJ1_indexOfChar_4cfef 6 (some .int) 1 [.ref (eSv E 5), .int v1, .int v2, .int v3] μ (fJ1_indexOfChar_4cfef_v5 v1 v2 v3 μ) := by
  refine mtI_of (own := RJ1) [(0, .ref (eSv E 5)), (1, .int v1), (2, .int v2), (3, .int v3)] hI rfl (by decide) (Nat.le_of_ble_eq_true rfl) (Nat.le_of_ble_eq_true rfl) rfl (fun Z hl0 X hr => ?_)
  unfold fJ1_indexOfChar_4cfef_v5
  refine ao_iload_n (pc := 0) X dJ1_indexOfChar_4cfef_0 rfl ?_
  refine ao_i2b (pc := 1) X dJ1_indexOfChar_4cfef_1 ?_
  refine ao_ltI (fun x1 => ?_)
  refine ao_istore (pc := 2) (lv' := [(4, .int x1), (0, .ref (eSv E 5)), (1, .int v1), (2, .int v2), (3, .int v3)]) X dJ1_indexOfChar_4cfef_2 (by decide) rfl ?_
  refine ao_iload_n (pc := 4) X dJ1_indexOfChar_4cfef_4 rfl ?_
  refine ao_istore (pc := 5) (lv' := [(5, .int v2), (4, .int x1), (0, .ref (eSv E 5)), (1, .int v1), (2, .int v2), (3, .int v3)]) X dJ1_indexOfChar_4cfef_5 (by decide) rfl ?_
  refine ao_sub [2, 5, 1, 0] rfl ?_
  exact bJ1_indexOfChar_4cfef_v5_7 hI hl0 X hr FU v3 x1 v2 μ
def fJ1_indexOf_4cfef_v5 (v1 : Int32) (v2 : Int32) (v3 : Int32) (μ : Mem) : Option (Int32 × Mem) :=
  bnd (fJ1_canEncode_9a6ad v1 μ) fun r1 m2 =>
  if r1 = 0 then (some ((-1 : Int32), m2))
  else lt (imax v2 (0 : Int32)) fun x3 =>
    lt (imin v3 (2 : Int32)) fun x4 =>
    if x3 < x4 then (bnd (fJ1_indexOfChar_4cfef_v5 v1 x3 x4 m2) fun r5 m6 =>
      some (r5, m6))
    else some ((-1 : Int32), m2)
set_option maxRecDepth 100000 in
set_option maxHeartbeats 4000000 in
theorem mJ1_indexOf_4cfef_v5 {E : En} {l : Launch} (hI : Inj E) (v1 : Int32) (v2 : Int32) (v3 : Int32) (μ : Mem) : MtI E l yJ1_indexOf_4cfef cJ1_indexOf_4cfef 4 (some .int) 2 [.ref (eSv E 5), .int v1, .int v2, .int v3] μ (fJ1_indexOf_4cfef_v5 v1 v2 v3 μ) := by
  refine mtI_of (own := RJ1) [(0, .ref (eSv E 5)), (1, .int v1), (2, .int v2), (3, .int v3)] hI rfl (by decide) (Nat.le_of_ble_eq_true rfl) (Nat.le_of_ble_eq_true rfl) rfl (fun Z hl0 X hr => ?_)
  unfold fJ1_indexOf_4cfef_v5
  refine ao_iload_n (pc := 0) X dJ1_indexOf_4cfef_0 rfl ?_
  refine ao_callSI (pc := 1) (As := [.int v1]) (st := []) X hl0 dJ1_indexOf_4cfef_1 yv_J1_canEncode_9a6ad ml_RJ1_88 (mJ1_canEncode_9a6ad hI v1 μ) (Nat.le_of_ble_eq_true rfl) rfl rfl (Nat.le_of_ble_eq_true rfl) (fun r1 m2 => ?_)
  refine ao_if_ne (pc := 4) (tgt := 9) X dJ1_indexOf_4cfef_4 (by decide) (fun _ => ?_) (fun _ => ?_)
  · refine ao_iload_n (pc := 9) X dJ1_indexOf_4cfef_9 rfl ?_
    refine ao_iconst (pc := 10) X dJ1_indexOf_4cfef_10 ic_0 ?_
    refine ao_max (pc := 11) X dJ1_indexOf_4cfef_11 ml_RJ1_92 MaxW_ok (Nat.le_of_ble_eq_true rfl) ?_
    refine ao_ltI (fun x3 => ?_)
    refine ao_istore_n (pc := 14) (lv' := [(2, .int x3), (0, .ref (eSv E 5)), (1, .int v1), (3, .int v3)]) X dJ1_indexOf_4cfef_14 rfl (by decide) rfl ?_
    refine ao_iload_n (pc := 15) X dJ1_indexOf_4cfef_15 rfl ?_
    refine ao_aload_n (pc := 16) X dJ1_indexOf_4cfef_16 rfl ?_
    refine ao_slen (pc := 17) (v := (2 : Int32)) X dJ1_indexOf_4cfef_17 (by decide) (by decide) ?_
    refine ao_min (pc := 18) X dJ1_indexOf_4cfef_18 ml_RJ1_38 MinW_ok (Nat.le_of_ble_eq_true rfl) ?_
    refine ao_ltI (fun x4 => ?_)
    refine ao_istore_n (pc := 21) (lv' := [(3, .int x4), (2, .int x3), (0, .ref (eSv E 5)), (1, .int v1)]) X dJ1_indexOf_4cfef_21 rfl (by decide) rfl ?_
    refine ao_iload_n (pc := 22) X dJ1_indexOf_4cfef_22 rfl ?_
    refine ao_iload_n (pc := 23) X dJ1_indexOf_4cfef_23 rfl ?_
    refine ao_icmp_lt (pc := 24) (tgt := 29) X dJ1_indexOf_4cfef_24 (by decide) (fun _ => ?_) (fun _ => ?_)
    · refine ao_aload_n (pc := 29) X dJ1_indexOf_4cfef_29 rfl ?_
      refine ao_iload_n (pc := 30) X dJ1_indexOf_4cfef_30 rfl ?_
      refine ao_iload_n (pc := 31) X dJ1_indexOf_4cfef_31 rfl ?_
      refine ao_iload_n (pc := 32) X dJ1_indexOf_4cfef_32 rfl ?_
      refine ao_callSI (pc := 33) (As := [.ref (eSv E 5), .int v1, .int x3, .int x4]) (st := []) X hl0 dJ1_indexOf_4cfef_33 yv_J1_indexOfChar_4cfef ml_RJ1_95 (mJ1_indexOfChar_4cfef_v5 hI v1 x3 x4 m2) (Nat.le_of_ble_eq_true rfl) rfl rfl (Nat.le_of_ble_eq_true rfl) (fun r5 m6 => ?_)
      exact ao_iret (pc := 36) X hr dJ1_indexOf_4cfef_36
    · refine ao_iconst (pc := 27) X dJ1_indexOf_4cfef_27 ic_m1 ?_
      exact ao_iret (pc := 28) X hr dJ1_indexOf_4cfef_28
  · refine ao_iconst (pc := 7) X dJ1_indexOf_4cfef_7 ic_m1 ?_
    exact ao_iret (pc := 8) X hr dJ1_indexOf_4cfef_8
def fJ0_indexOf_7cf53_s5 (v1 : Int32) (v2 : Int32) (μ : Mem) : Option (Int32 × Mem) :=
  bnd (fJ0_isLatin1_aae02_s5 μ) fun r1 m2 =>
  if r1 = 0 then (bnd (fJ0_length_8abf5_s5 m2) fun r3 m4 =>
    none)
  else bnd (fJ0_length_8abf5_s5 m2) fun r5 m6 =>
    bnd (fJ1_indexOf_4cfef_v5 v1 v2 r5 m6) fun r7 m8 =>
    some (r7, m8)
set_option maxRecDepth 100000 in
set_option maxHeartbeats 4000000 in
theorem mJ0_indexOf_7cf53_s5 {E : En} {l : Launch} (hI : Inj E) (v1 : Int32) (v2 : Int32) (μ : Mem) : MtI E l yJ0_indexOf_7cf53 cJ0_indexOf_7cf53 3 (some .int) 3 [.ref (eSk E 5), .int v1, .int v2] μ (fJ0_indexOf_7cf53_s5 v1 v2 μ) := by
  refine mtI_of (own := RJ0) [(0, .ref (eSk E 5)), (1, .int v1), (2, .int v2)] hI rfl (by decide) (Nat.le_of_ble_eq_true rfl) (Nat.le_of_ble_eq_true rfl) rfl (fun Z hl0 X hr => ?_)
  unfold fJ0_indexOf_7cf53_s5
  refine ao_aload_n (pc := 0) X dJ0_indexOf_7cf53_0 rfl ?_
  refine ao_callT (pc := 1) (As := []) (st := []) X hl0 dJ0_indexOf_7cf53_1 (by decide) yv_J0_isLatin1_aae02 ml_RJ0_492 (mJ0_isLatin1_aae02_s5 hI μ) (Nat.le_of_ble_eq_true rfl) rfl rfl (Nat.le_of_ble_eq_true rfl) (fun r1 m2 => ?_)
  refine ao_if_eq (pc := 4) (tgt := 23) X dJ0_indexOf_7cf53_4 (by decide) (fun _ => ?_) (fun _ => ?_)
  · refine ao_aload_n (pc := 23) X dJ0_indexOf_7cf53_23 rfl ?_
    refine ao_sval (pc := 24) X dJ0_indexOf_7cf53_24 (by decide) fs_RJ0_9 ?_
    refine ao_iload_n (pc := 27) X dJ0_indexOf_7cf53_27 rfl ?_
    refine ao_iload_n (pc := 28) X dJ0_indexOf_7cf53_28 rfl ?_
    refine ao_aload_n (pc := 29) X dJ0_indexOf_7cf53_29 rfl ?_
    refine ao_callT (pc := 30) (As := []) (st := [.int v2, .int v1, .ref (eSv E 5)]) X hl0 dJ0_indexOf_7cf53_30 (by decide) yv_J0_length_8abf5 ml_RJ0_505 (mJ0_length_8abf5_s5 hI m2) (Nat.le_of_ble_eq_true rfl) rfl rfl (Nat.le_of_ble_eq_true rfl) (fun r3 m4 => ?_)
    exact ao_none
  · refine ao_aload_n (pc := 7) X dJ0_indexOf_7cf53_7 rfl ?_
    refine ao_sval (pc := 8) X dJ0_indexOf_7cf53_8 (by decide) fs_RJ0_9 ?_
    refine ao_iload_n (pc := 11) X dJ0_indexOf_7cf53_11 rfl ?_
    refine ao_iload_n (pc := 12) X dJ0_indexOf_7cf53_12 rfl ?_
    refine ao_aload_n (pc := 13) X dJ0_indexOf_7cf53_13 rfl ?_
    refine ao_callT (pc := 14) (As := []) (st := [.int v2, .int v1, .ref (eSv E 5)]) X hl0 dJ0_indexOf_7cf53_14 (by decide) yv_J0_length_8abf5 ml_RJ0_505 (mJ0_length_8abf5_s5 hI m2) (Nat.le_of_ble_eq_true rfl) rfl rfl (Nat.le_of_ble_eq_true rfl) (fun r5 m6 => ?_)
    refine ao_callSI (pc := 17) (As := [.ref (eSv E 5), .int v1, .int v2, .int r5]) (st := []) X hl0 dJ0_indexOf_7cf53_17 yv_J1_indexOf_4cfef ml_RJ0_637 (mJ1_indexOf_4cfef_v5 hI v1 v2 r5 m6) (Nat.le_of_ble_eq_true rfl) rfl rfl (Nat.le_of_ble_eq_true rfl) (fun r7 m8 => ?_)
    refine ao_goto (pc := 20) (tgt := 36) X dJ0_indexOf_7cf53_20 (by decide) ?_
    exact ao_iret (pc := 36) X hr dJ0_indexOf_7cf53_36
def fJ0_indexOf_0f7a4_s5 (v1 : Int32) (μ : Mem) : Option (Int32 × Mem) :=
  bnd (fJ0_indexOf_7cf53_s5 v1 (0 : Int32) μ) fun r1 m2 =>
  some (r1, m2)
set_option maxRecDepth 100000 in
set_option maxHeartbeats 4000000 in
theorem mJ0_indexOf_0f7a4_s5 {E : En} {l : Launch} (hI : Inj E) (v1 : Int32) (μ : Mem) : MtI E l yJ0_indexOf_0f7a4 cJ0_indexOf_0f7a4 2 (some .int) 4 [.ref (eSk E 5), .int v1] μ (fJ0_indexOf_0f7a4_s5 v1 μ) := by
  refine mtI_of (own := RJ0) [(0, .ref (eSk E 5)), (1, .int v1)] hI rfl (by decide) (Nat.le_of_ble_eq_true rfl) (Nat.le_of_ble_eq_true rfl) rfl (fun Z hl0 X hr => ?_)
  unfold fJ0_indexOf_0f7a4_s5
  refine ao_aload_n (pc := 0) X dJ0_indexOf_0f7a4_0 rfl ?_
  refine ao_iload_n (pc := 1) X dJ0_indexOf_0f7a4_1 rfl ?_
  refine ao_iconst (pc := 2) X dJ0_indexOf_0f7a4_2 ic_0 ?_
  refine ao_callT (pc := 3) (As := [.int v1, .int (0 : Int32)]) (st := []) X hl0 dJ0_indexOf_0f7a4_3 (by decide) yv_J0_indexOf_7cf53 ml_RJ0_633 (mJ0_indexOf_7cf53_s5 hI v1 (0 : Int32) μ) (Nat.le_of_ble_eq_true rfl) rfl rfl (Nat.le_of_ble_eq_true rfl) (fun r1 m2 => ?_)
  exact ao_iret (pc := 6) X hr dJ0_indexOf_0f7a4_6
def fX9_takesOneOf_1_s5 (μ : Mem) : Option (Int32 × Mem) :=
  if (gI μ 1 2) < (gI μ 1 3) then (gd (inb (gI μ 1 2) 80) (bnd (fJ0_indexOf_0f7a4_s5 (gI μ 2 (ix (gI μ 1 2))) μ) fun r1 m2 =>
    if r1 < 0 then (some (r1, m2))
    else lt (sI m2 1 2 ((gI m2 1 2) + (1 : Int32))) fun m3 =>
      some (r1, m3)))
  else some ((-1 : Int32), μ)
set_option maxRecDepth 100000 in
set_option maxHeartbeats 4000000 in
theorem mX9_takesOneOf_1_s5 {E : En} {l : Launch} (hI : Inj E) (μ : Mem) : MtI E l yX9_takesOneOf cX9_takesOneOf 3 (some .int) 5 [.ref (eAd E 1), .ref (eSk E 5)] μ (fX9_takesOneOf_1_s5 μ) := by
  refine mtI_of (own := RX9) [(0, .ref (eAd E 1)), (1, .ref (eSk E 5))] hI rfl (by decide) (Nat.le_of_ble_eq_true rfl) (Nat.le_of_ble_eq_true rfl) rfl (fun Z hl0 X hr => ?_)
  unfold fX9_takesOneOf_1_s5
  refine ao_aload_n (pc := 0) X dX9_takesOneOf_0 rfl ?_
  refine ao_getI (pc := 1) X dX9_takesOneOf_1 fl_RX9_19 sf_1_2 ?_
  refine ao_aload_n (pc := 4) X dX9_takesOneOf_4 rfl ?_
  refine ao_getI (pc := 5) X dX9_takesOneOf_5 fl_RX9_22 sf_1_3 ?_
  refine ao_icmp_lt (pc := 8) (tgt := 13) X dX9_takesOneOf_8 (by decide) (fun _ => ?_) (fun _ => ?_)
  · refine ao_aload_n (pc := 13) X dX9_takesOneOf_13 rfl ?_
    refine ao_aload_n (pc := 14) X dX9_takesOneOf_14 rfl ?_
    refine ao_getR (pc := 15) X dX9_takesOneOf_15 fl_RX9_11 sf_1_0 ?_
    refine ao_aload_n (pc := 18) X dX9_takesOneOf_18 rfl ?_
    refine ao_getI (pc := 19) X dX9_takesOneOf_19 fl_RX9_19 sf_1_2 ?_
    refine ao_cald (pc := 22) X dX9_takesOneOf_22 sa_2 ?_
    refine ao_callT (pc := 23) (As := [.int (gI μ 2 (ix (gI μ 1 2)))]) (st := []) X hl0 dX9_takesOneOf_23 (by decide) yv_J0_indexOf_0f7a4 ml_RX9_34 (mJ0_indexOf_0f7a4_s5 hI (gI μ 2 (ix (gI μ 1 2))) μ) (Nat.le_of_ble_eq_true rfl) rfl rfl (Nat.le_of_ble_eq_true rfl) (fun r1 m2 => ?_)
    refine ao_istore_n (pc := 26) (lv' := [(2, .int r1), (0, .ref (eAd E 1)), (1, .ref (eSk E 5))]) X dX9_takesOneOf_26 rfl (by decide) rfl ?_
    refine ao_iload_n (pc := 27) X dX9_takesOneOf_27 rfl ?_
    refine ao_if_lt (pc := 28) (tgt := 41) X dX9_takesOneOf_28 (by decide) (fun _ => ?_) (fun _ => ?_)
    · refine ao_iload_n (pc := 41) X dX9_takesOneOf_41 rfl ?_
      exact ao_iret (pc := 42) X hr dX9_takesOneOf_42
    · refine ao_aload_n (pc := 31) X dX9_takesOneOf_31 rfl ?_
      refine ao_dup (pc := 32) X dX9_takesOneOf_32 rfl ?_
      refine ao_getI (pc := 33) X dX9_takesOneOf_33 fl_RX9_19 sf_1_2 ?_
      refine ao_iconst (pc := 36) X dX9_takesOneOf_36 ic_1 ?_
      refine ao_iadd (pc := 37) X dX9_takesOneOf_37 ?_
      refine ao_putI (pc := 38) X dX9_takesOneOf_38 fp_RX9_19 sf_1_2 ?_
      refine ao_lt (fun m3 => ?_)
      refine ao_iload_n (pc := 41) X dX9_takesOneOf_41 rfl ?_
      exact ao_iret (pc := 42) X hr dX9_takesOneOf_42
  · refine ao_iconst (pc := 11) X dX9_takesOneOf_11 ic_m1 ?_
    exact ao_iret (pc := 12) X hr dX9_takesOneOf_12
def fJ0_isLatin1_aae02_s6 (μ : Mem) : Option (Int32 × Mem) :=
  if (1 : Int32) = 0 then (some ((0 : Int32), μ))
  else if (0 : Int32) = 0 then (some ((1 : Int32), μ))
    else some ((0 : Int32), μ)
set_option maxRecDepth 100000 in
set_option maxHeartbeats 4000000 in
theorem mJ0_isLatin1_aae02_s6 {E : En} {l : Launch} (hI : Inj E) (μ : Mem) : MtI E l yJ0_isLatin1_aae02 cJ0_isLatin1_aae02 1 (some .boolean) 1 [.ref (eSk E 6)] μ (fJ0_isLatin1_aae02_s6 μ) := by
  refine mtI_of (own := RJ0) [(0, .ref (eSk E 6))] hI rfl (by decide) (Nat.le_of_ble_eq_true rfl) (Nat.le_of_ble_eq_true rfl) rfl (fun Z hl0 X hr => ?_)
  unfold fJ0_isLatin1_aae02_s6
  refine ao_scomp (pc := 0) X dJ0_isLatin1_aae02_0 fs_RJ0_38 ?_
  refine ao_if_eq (pc := 3) (tgt := 17) X dJ0_isLatin1_aae02_3 (by decide) (fun _ => ?_) (fun _ => ?_)
  · refine ao_iconst (pc := 17) X dJ0_isLatin1_aae02_17 ic_0 ?_
    exact ao_zret (pc := 18) X hr rfl dJ0_isLatin1_aae02_18
  · refine ao_aload_n (pc := 6) X dJ0_isLatin1_aae02_6 rfl ?_
    refine ao_scod (pc := 7) X dJ0_isLatin1_aae02_7 (by decide) fs_RJ0_15 ?_
    refine ao_if_ne (pc := 10) (tgt := 17) X dJ0_isLatin1_aae02_10 (by decide) (fun _ => ?_) (fun _ => ?_)
    · refine ao_iconst (pc := 17) X dJ0_isLatin1_aae02_17 ic_0 ?_
      exact ao_zret (pc := 18) X hr rfl dJ0_isLatin1_aae02_18
    · refine ao_iconst (pc := 13) X dJ0_isLatin1_aae02_13 ic_1 ?_
      refine ao_goto (pc := 14) (tgt := 18) X dJ0_isLatin1_aae02_14 (by decide) ?_
      exact ao_zret (pc := 18) X hr rfl dJ0_isLatin1_aae02_18
def fJ0_coder_7d493_s6 (μ : Mem) : Option (Int32 × Mem) :=
  if (1 : Int32) = 0 then (some ((1 : Int32), μ))
  else some ((0 : Int32), μ)
set_option maxRecDepth 100000 in
set_option maxHeartbeats 4000000 in
theorem mJ0_coder_7d493_s6 {E : En} {l : Launch} (hI : Inj E) (μ : Mem) : MtI E l yJ0_coder_7d493 cJ0_coder_7d493 1 (some .byte) 1 [.ref (eSk E 6)] μ (fJ0_coder_7d493_s6 μ) := by
  refine mtI_of (own := RJ0) [(0, .ref (eSk E 6))] hI rfl (by decide) (Nat.le_of_ble_eq_true rfl) (Nat.le_of_ble_eq_true rfl) rfl (fun Z hl0 X hr => ?_)
  unfold fJ0_coder_7d493_s6
  refine ao_scomp (pc := 0) X dJ0_coder_7d493_0 fs_RJ0_38 ?_
  refine ao_if_eq (pc := 3) (tgt := 13) X dJ0_coder_7d493_3 (by decide) (fun _ => ?_) (fun _ => ?_)
  · refine ao_iconst (pc := 13) X dJ0_coder_7d493_13 ic_1 ?_
    exact ao_zret (pc := 14) X hr rfl dJ0_coder_7d493_14
  · refine ao_aload_n (pc := 6) X dJ0_coder_7d493_6 rfl ?_
    refine ao_scod (pc := 7) X dJ0_coder_7d493_7 (by decide) fs_RJ0_15 ?_
    refine ao_goto (pc := 10) (tgt := 14) X dJ0_coder_7d493_10 (by decide) ?_
    exact ao_zret (pc := 14) X hr rfl dJ0_coder_7d493_14
def fJ0_length_8abf5_s6 (μ : Mem) : Option (Int32 × Mem) :=
  bnd (fJ0_coder_7d493_s6 μ) fun r1 m2 =>
  some (((3 : Int32) >>> (r1 &&& 31)), m2)
set_option maxRecDepth 100000 in
set_option maxHeartbeats 4000000 in
theorem mJ0_length_8abf5_s6 {E : En} {l : Launch} (hI : Inj E) (μ : Mem) : MtI E l yJ0_length_8abf5 cJ0_length_8abf5 1 (some .int) 2 [.ref (eSk E 6)] μ (fJ0_length_8abf5_s6 μ) := by
  refine mtI_of (own := RJ0) [(0, .ref (eSk E 6))] hI rfl (by decide) (Nat.le_of_ble_eq_true rfl) (Nat.le_of_ble_eq_true rfl) rfl (fun Z hl0 X hr => ?_)
  unfold fJ0_length_8abf5_s6
  refine ao_aload_n (pc := 0) X dJ0_length_8abf5_0 rfl ?_
  refine ao_sval (pc := 1) X dJ0_length_8abf5_1 (by decide) fs_RJ0_9 ?_
  refine ao_slen (pc := 4) (v := (3 : Int32)) X dJ0_length_8abf5_4 (by decide) (by decide) ?_
  refine ao_aload_n (pc := 5) X dJ0_length_8abf5_5 rfl ?_
  refine ao_callT (pc := 6) (As := []) (st := [.int (3 : Int32)]) X hl0 dJ0_length_8abf5_6 (by decide) yv_J0_coder_7d493 ml_RJ0_335 (mJ0_coder_7d493_s6 hI μ) (Nat.le_of_ble_eq_true rfl) rfl rfl (Nat.le_of_ble_eq_true rfl) (fun r1 m2 => ?_)
  refine ao_ishr (pc := 9) X dJ0_length_8abf5_9 ?_
  exact ao_iret (pc := 10) X hr dJ0_length_8abf5_10
def fJ1_indexOfChar_4cfef_v6_b7 : Nat → Int32 → Int32 → Int32 → Mem → Option (Int32 × Mem)
  | 0, _, _, _, _ => none
  | n + 1, p3, p4, p5, μ =>
  if p3 ≤ p5 then (some ((-1 : Int32), μ))
  else gd (inb p5 3) (if (sch 6 p5) = p4 then (some (p5, μ))
    else fJ1_indexOfChar_4cfef_v6_b7 n p3 p4 (p5 + (1 : Int32)) μ)
set_option maxRecDepth 100000 in
set_option maxHeartbeats 4000000 in
theorem bJ1_indexOfChar_4cfef_v6_7 {E : En} {l : Launch} {Z : Zt} (hI : Inj E) (hl0 : lZ l Z) (X : Cx E Z cJ1_indexOfChar_4cfef RJ1 6 1) (hr : rtOf Z = some .int) : ∀ (n : Nat) (p3 : Int32) (p4 : Int32) (p5 : Int32) (μ : Mem), AO E Z 6 (QI E Z) 7 [(0, .ref (eSv E 6)), (3, .int p3), (4, .int p4), (5, .int p5)] [] μ (fJ1_indexOfChar_4cfef_v6_b7 n p3 p4 p5 μ) := by
  intro n
  induction n with
  | zero =>
    intros
    exact ao_none
  | succ n ih =>
    intro p3 p4 p5 μ
    rw [fJ1_indexOfChar_4cfef_v6_b7]
    refine ao_iload (pc := 7) X dJ1_indexOfChar_4cfef_7 rfl ?_
    refine ao_iload_n (pc := 9) X dJ1_indexOfChar_4cfef_9 rfl ?_
    refine ao_icmp_ge (pc := 10) (tgt := 31) X dJ1_indexOfChar_4cfef_10 (by decide) (fun _ => ?_) (fun _ => ?_)
    · refine ao_iconst (pc := 31) X dJ1_indexOfChar_4cfef_31 ic_m1 ?_
      exact ao_iret (pc := 32) X hr dJ1_indexOfChar_4cfef_32
    · refine ao_aload_n (pc := 13) X dJ1_indexOfChar_4cfef_13 rfl ?_
      refine ao_iload (pc := 14) X dJ1_indexOfChar_4cfef_14 rfl ?_
      refine ao_sbald (pc := 16) X dJ1_indexOfChar_4cfef_16 (by decide) rfl ?_
      refine ao_iload (pc := 17) X dJ1_indexOfChar_4cfef_17 rfl ?_
      refine ao_icmp_ne (pc := 19) (tgt := 25) X dJ1_indexOfChar_4cfef_19 (by decide) (fun _ => ?_) (fun _ => ?_)
      · refine ao_iinc (pc := 25) (k := 3) (v := p5 + (1 : Int32)) (lv' := [(5, .int (p5 + (1 : Int32))), (0, .ref (eSv E 6)), (3, .int p3), (4, .int p4)]) X dJ1_indexOfChar_4cfef_25 rfl (ii_ic ic_1) (by decide) rfl ?_
        refine ao_goto (pc := 28) (tgt := 7) X dJ1_indexOfChar_4cfef_28 (by decide) ?_
        refine ao_sub [1, 2, 3, 0] rfl ?_
        exact ih p3 p4 (p5 + (1 : Int32)) μ
      · refine ao_iload (pc := 22) X dJ1_indexOfChar_4cfef_22 rfl ?_
        exact ao_iret (pc := 24) X hr dJ1_indexOfChar_4cfef_24
def fJ1_indexOfChar_4cfef_v6 (v1 : Int32) (v2 : Int32) (v3 : Int32) (μ : Mem) : Option (Int32 × Mem) :=
  lt (Int8.toInt32 (Int32.toInt8 v1)) fun x1 =>
  fJ1_indexOfChar_4cfef_v6_b7 FU v3 x1 v2 μ
set_option maxRecDepth 100000 in
set_option maxHeartbeats 4000000 in
theorem mJ1_indexOfChar_4cfef_v6 {E : En} {l : Launch} (hI : Inj E) (v1 : Int32) (v2 : Int32) (v3 : Int32) (μ : Mem) : MtI E l yJ1_indexOfChar_4cfef cJ1_indexOfChar_4cfef 6 (some .int) 1 [.ref (eSv E 6), .int v1, .int v2, .int v3] μ (fJ1_indexOfChar_4cfef_v6 v1 v2 v3 μ) := by
  refine mtI_of (own := RJ1) [(0, .ref (eSv E 6)), (1, .int v1), (2, .int v2), (3, .int v3)] hI rfl (by decide) (Nat.le_of_ble_eq_true rfl) (Nat.le_of_ble_eq_true rfl) rfl (fun Z hl0 X hr => ?_)
  unfold fJ1_indexOfChar_4cfef_v6
  refine ao_iload_n (pc := 0) X dJ1_indexOfChar_4cfef_0 rfl ?_
  refine ao_i2b (pc := 1) X dJ1_indexOfChar_4cfef_1 ?_
  refine ao_ltI (fun x1 => ?_)
  refine ao_istore (pc := 2) (lv' := [(4, .int x1), (0, .ref (eSv E 6)), (1, .int v1), (2, .int v2), (3, .int v3)]) X dJ1_indexOfChar_4cfef_2 (by decide) rfl ?_
  refine ao_iload_n (pc := 4) X dJ1_indexOfChar_4cfef_4 rfl ?_
  refine ao_istore (pc := 5) (lv' := [(5, .int v2), (4, .int x1), (0, .ref (eSv E 6)), (1, .int v1), (2, .int v2), (3, .int v3)]) X dJ1_indexOfChar_4cfef_5 (by decide) rfl ?_
  refine ao_sub [2, 5, 1, 0] rfl ?_
  exact bJ1_indexOfChar_4cfef_v6_7 hI hl0 X hr FU v3 x1 v2 μ
def fJ1_indexOf_4cfef_v6 (v1 : Int32) (v2 : Int32) (v3 : Int32) (μ : Mem) : Option (Int32 × Mem) :=
  bnd (fJ1_canEncode_9a6ad v1 μ) fun r1 m2 =>
  if r1 = 0 then (some ((-1 : Int32), m2))
  else lt (imax v2 (0 : Int32)) fun x3 =>
    lt (imin v3 (3 : Int32)) fun x4 =>
    if x3 < x4 then (bnd (fJ1_indexOfChar_4cfef_v6 v1 x3 x4 m2) fun r5 m6 =>
      some (r5, m6))
    else some ((-1 : Int32), m2)
set_option maxRecDepth 100000 in
set_option maxHeartbeats 4000000 in
theorem mJ1_indexOf_4cfef_v6 {E : En} {l : Launch} (hI : Inj E) (v1 : Int32) (v2 : Int32) (v3 : Int32) (μ : Mem) : MtI E l yJ1_indexOf_4cfef cJ1_indexOf_4cfef 4 (some .int) 2 [.ref (eSv E 6), .int v1, .int v2, .int v3] μ (fJ1_indexOf_4cfef_v6 v1 v2 v3 μ) := by
  refine mtI_of (own := RJ1) [(0, .ref (eSv E 6)), (1, .int v1), (2, .int v2), (3, .int v3)] hI rfl (by decide) (Nat.le_of_ble_eq_true rfl) (Nat.le_of_ble_eq_true rfl) rfl (fun Z hl0 X hr => ?_)
  unfold fJ1_indexOf_4cfef_v6
  refine ao_iload_n (pc := 0) X dJ1_indexOf_4cfef_0 rfl ?_
  refine ao_callSI (pc := 1) (As := [.int v1]) (st := []) X hl0 dJ1_indexOf_4cfef_1 yv_J1_canEncode_9a6ad ml_RJ1_88 (mJ1_canEncode_9a6ad hI v1 μ) (Nat.le_of_ble_eq_true rfl) rfl rfl (Nat.le_of_ble_eq_true rfl) (fun r1 m2 => ?_)
  refine ao_if_ne (pc := 4) (tgt := 9) X dJ1_indexOf_4cfef_4 (by decide) (fun _ => ?_) (fun _ => ?_)
  · refine ao_iload_n (pc := 9) X dJ1_indexOf_4cfef_9 rfl ?_
    refine ao_iconst (pc := 10) X dJ1_indexOf_4cfef_10 ic_0 ?_
    refine ao_max (pc := 11) X dJ1_indexOf_4cfef_11 ml_RJ1_92 MaxW_ok (Nat.le_of_ble_eq_true rfl) ?_
    refine ao_ltI (fun x3 => ?_)
    refine ao_istore_n (pc := 14) (lv' := [(2, .int x3), (0, .ref (eSv E 6)), (1, .int v1), (3, .int v3)]) X dJ1_indexOf_4cfef_14 rfl (by decide) rfl ?_
    refine ao_iload_n (pc := 15) X dJ1_indexOf_4cfef_15 rfl ?_
    refine ao_aload_n (pc := 16) X dJ1_indexOf_4cfef_16 rfl ?_
    refine ao_slen (pc := 17) (v := (3 : Int32)) X dJ1_indexOf_4cfef_17 (by decide) (by decide) ?_
    refine ao_min (pc := 18) X dJ1_indexOf_4cfef_18 ml_RJ1_38 MinW_ok (Nat.le_of_ble_eq_true rfl) ?_
    refine ao_ltI (fun x4 => ?_)
    refine ao_istore_n (pc := 21) (lv' := [(3, .int x4), (2, .int x3), (0, .ref (eSv E 6)), (1, .int v1)]) X dJ1_indexOf_4cfef_21 rfl (by decide) rfl ?_
    refine ao_iload_n (pc := 22) X dJ1_indexOf_4cfef_22 rfl ?_
    refine ao_iload_n (pc := 23) X dJ1_indexOf_4cfef_23 rfl ?_
    refine ao_icmp_lt (pc := 24) (tgt := 29) X dJ1_indexOf_4cfef_24 (by decide) (fun _ => ?_) (fun _ => ?_)
    · refine ao_aload_n (pc := 29) X dJ1_indexOf_4cfef_29 rfl ?_
      refine ao_iload_n (pc := 30) X dJ1_indexOf_4cfef_30 rfl ?_
      refine ao_iload_n (pc := 31) X dJ1_indexOf_4cfef_31 rfl ?_
      refine ao_iload_n (pc := 32) X dJ1_indexOf_4cfef_32 rfl ?_
      refine ao_callSI (pc := 33) (As := [.ref (eSv E 6), .int v1, .int x3, .int x4]) (st := []) X hl0 dJ1_indexOf_4cfef_33 yv_J1_indexOfChar_4cfef ml_RJ1_95 (mJ1_indexOfChar_4cfef_v6 hI v1 x3 x4 m2) (Nat.le_of_ble_eq_true rfl) rfl rfl (Nat.le_of_ble_eq_true rfl) (fun r5 m6 => ?_)
      exact ao_iret (pc := 36) X hr dJ1_indexOf_4cfef_36
    · refine ao_iconst (pc := 27) X dJ1_indexOf_4cfef_27 ic_m1 ?_
      exact ao_iret (pc := 28) X hr dJ1_indexOf_4cfef_28
  · refine ao_iconst (pc := 7) X dJ1_indexOf_4cfef_7 ic_m1 ?_
    exact ao_iret (pc := 8) X hr dJ1_indexOf_4cfef_8
def fJ0_indexOf_7cf53_s6 (v1 : Int32) (v2 : Int32) (μ : Mem) : Option (Int32 × Mem) :=
  bnd (fJ0_isLatin1_aae02_s6 μ) fun r1 m2 =>
  if r1 = 0 then (bnd (fJ0_length_8abf5_s6 m2) fun r3 m4 =>
    none)
  else bnd (fJ0_length_8abf5_s6 m2) fun r5 m6 =>
    bnd (fJ1_indexOf_4cfef_v6 v1 v2 r5 m6) fun r7 m8 =>
    some (r7, m8)
set_option maxRecDepth 100000 in
set_option maxHeartbeats 4000000 in
theorem mJ0_indexOf_7cf53_s6 {E : En} {l : Launch} (hI : Inj E) (v1 : Int32) (v2 : Int32) (μ : Mem) : MtI E l yJ0_indexOf_7cf53 cJ0_indexOf_7cf53 3 (some .int) 3 [.ref (eSk E 6), .int v1, .int v2] μ (fJ0_indexOf_7cf53_s6 v1 v2 μ) := by
  refine mtI_of (own := RJ0) [(0, .ref (eSk E 6)), (1, .int v1), (2, .int v2)] hI rfl (by decide) (Nat.le_of_ble_eq_true rfl) (Nat.le_of_ble_eq_true rfl) rfl (fun Z hl0 X hr => ?_)
  unfold fJ0_indexOf_7cf53_s6
  refine ao_aload_n (pc := 0) X dJ0_indexOf_7cf53_0 rfl ?_
  refine ao_callT (pc := 1) (As := []) (st := []) X hl0 dJ0_indexOf_7cf53_1 (by decide) yv_J0_isLatin1_aae02 ml_RJ0_492 (mJ0_isLatin1_aae02_s6 hI μ) (Nat.le_of_ble_eq_true rfl) rfl rfl (Nat.le_of_ble_eq_true rfl) (fun r1 m2 => ?_)
  refine ao_if_eq (pc := 4) (tgt := 23) X dJ0_indexOf_7cf53_4 (by decide) (fun _ => ?_) (fun _ => ?_)
  · refine ao_aload_n (pc := 23) X dJ0_indexOf_7cf53_23 rfl ?_
    refine ao_sval (pc := 24) X dJ0_indexOf_7cf53_24 (by decide) fs_RJ0_9 ?_
    refine ao_iload_n (pc := 27) X dJ0_indexOf_7cf53_27 rfl ?_
    refine ao_iload_n (pc := 28) X dJ0_indexOf_7cf53_28 rfl ?_
    refine ao_aload_n (pc := 29) X dJ0_indexOf_7cf53_29 rfl ?_
    refine ao_callT (pc := 30) (As := []) (st := [.int v2, .int v1, .ref (eSv E 6)]) X hl0 dJ0_indexOf_7cf53_30 (by decide) yv_J0_length_8abf5 ml_RJ0_505 (mJ0_length_8abf5_s6 hI m2) (Nat.le_of_ble_eq_true rfl) rfl rfl (Nat.le_of_ble_eq_true rfl) (fun r3 m4 => ?_)
    exact ao_none
  · refine ao_aload_n (pc := 7) X dJ0_indexOf_7cf53_7 rfl ?_
    refine ao_sval (pc := 8) X dJ0_indexOf_7cf53_8 (by decide) fs_RJ0_9 ?_
    refine ao_iload_n (pc := 11) X dJ0_indexOf_7cf53_11 rfl ?_
    refine ao_iload_n (pc := 12) X dJ0_indexOf_7cf53_12 rfl ?_
    refine ao_aload_n (pc := 13) X dJ0_indexOf_7cf53_13 rfl ?_
    refine ao_callT (pc := 14) (As := []) (st := [.int v2, .int v1, .ref (eSv E 6)]) X hl0 dJ0_indexOf_7cf53_14 (by decide) yv_J0_length_8abf5 ml_RJ0_505 (mJ0_length_8abf5_s6 hI m2) (Nat.le_of_ble_eq_true rfl) rfl rfl (Nat.le_of_ble_eq_true rfl) (fun r5 m6 => ?_)
    refine ao_callSI (pc := 17) (As := [.ref (eSv E 6), .int v1, .int v2, .int r5]) (st := []) X hl0 dJ0_indexOf_7cf53_17 yv_J1_indexOf_4cfef ml_RJ0_637 (mJ1_indexOf_4cfef_v6 hI v1 v2 r5 m6) (Nat.le_of_ble_eq_true rfl) rfl rfl (Nat.le_of_ble_eq_true rfl) (fun r7 m8 => ?_)
    refine ao_goto (pc := 20) (tgt := 36) X dJ0_indexOf_7cf53_20 (by decide) ?_
    exact ao_iret (pc := 36) X hr dJ0_indexOf_7cf53_36
def fJ0_indexOf_0f7a4_s6 (v1 : Int32) (μ : Mem) : Option (Int32 × Mem) :=
  bnd (fJ0_indexOf_7cf53_s6 v1 (0 : Int32) μ) fun r1 m2 =>
  some (r1, m2)
set_option maxRecDepth 100000 in
set_option maxHeartbeats 4000000 in
theorem mJ0_indexOf_0f7a4_s6 {E : En} {l : Launch} (hI : Inj E) (v1 : Int32) (μ : Mem) : MtI E l yJ0_indexOf_0f7a4 cJ0_indexOf_0f7a4 2 (some .int) 4 [.ref (eSk E 6), .int v1] μ (fJ0_indexOf_0f7a4_s6 v1 μ) := by
  refine mtI_of (own := RJ0) [(0, .ref (eSk E 6)), (1, .int v1)] hI rfl (by decide) (Nat.le_of_ble_eq_true rfl) (Nat.le_of_ble_eq_true rfl) rfl (fun Z hl0 X hr => ?_)
  unfold fJ0_indexOf_0f7a4_s6
  refine ao_aload_n (pc := 0) X dJ0_indexOf_0f7a4_0 rfl ?_
  refine ao_iload_n (pc := 1) X dJ0_indexOf_0f7a4_1 rfl ?_
  refine ao_iconst (pc := 2) X dJ0_indexOf_0f7a4_2 ic_0 ?_
  refine ao_callT (pc := 3) (As := [.int v1, .int (0 : Int32)]) (st := []) X hl0 dJ0_indexOf_0f7a4_3 (by decide) yv_J0_indexOf_7cf53 ml_RJ0_633 (mJ0_indexOf_7cf53_s6 hI v1 (0 : Int32) μ) (Nat.le_of_ble_eq_true rfl) rfl rfl (Nat.le_of_ble_eq_true rfl) (fun r1 m2 => ?_)
  exact ao_iret (pc := 6) X hr dJ0_indexOf_0f7a4_6
def fX9_takesOneOf_1_s6 (μ : Mem) : Option (Int32 × Mem) :=
  if (gI μ 1 2) < (gI μ 1 3) then (gd (inb (gI μ 1 2) 80) (bnd (fJ0_indexOf_0f7a4_s6 (gI μ 2 (ix (gI μ 1 2))) μ) fun r1 m2 =>
    if r1 < 0 then (some (r1, m2))
    else lt (sI m2 1 2 ((gI m2 1 2) + (1 : Int32))) fun m3 =>
      some (r1, m3)))
  else some ((-1 : Int32), μ)
set_option maxRecDepth 100000 in
set_option maxHeartbeats 4000000 in
theorem mX9_takesOneOf_1_s6 {E : En} {l : Launch} (hI : Inj E) (μ : Mem) : MtI E l yX9_takesOneOf cX9_takesOneOf 3 (some .int) 5 [.ref (eAd E 1), .ref (eSk E 6)] μ (fX9_takesOneOf_1_s6 μ) := by
  refine mtI_of (own := RX9) [(0, .ref (eAd E 1)), (1, .ref (eSk E 6))] hI rfl (by decide) (Nat.le_of_ble_eq_true rfl) (Nat.le_of_ble_eq_true rfl) rfl (fun Z hl0 X hr => ?_)
  unfold fX9_takesOneOf_1_s6
  refine ao_aload_n (pc := 0) X dX9_takesOneOf_0 rfl ?_
  refine ao_getI (pc := 1) X dX9_takesOneOf_1 fl_RX9_19 sf_1_2 ?_
  refine ao_aload_n (pc := 4) X dX9_takesOneOf_4 rfl ?_
  refine ao_getI (pc := 5) X dX9_takesOneOf_5 fl_RX9_22 sf_1_3 ?_
  refine ao_icmp_lt (pc := 8) (tgt := 13) X dX9_takesOneOf_8 (by decide) (fun _ => ?_) (fun _ => ?_)
  · refine ao_aload_n (pc := 13) X dX9_takesOneOf_13 rfl ?_
    refine ao_aload_n (pc := 14) X dX9_takesOneOf_14 rfl ?_
    refine ao_getR (pc := 15) X dX9_takesOneOf_15 fl_RX9_11 sf_1_0 ?_
    refine ao_aload_n (pc := 18) X dX9_takesOneOf_18 rfl ?_
    refine ao_getI (pc := 19) X dX9_takesOneOf_19 fl_RX9_19 sf_1_2 ?_
    refine ao_cald (pc := 22) X dX9_takesOneOf_22 sa_2 ?_
    refine ao_callT (pc := 23) (As := [.int (gI μ 2 (ix (gI μ 1 2)))]) (st := []) X hl0 dX9_takesOneOf_23 (by decide) yv_J0_indexOf_0f7a4 ml_RX9_34 (mJ0_indexOf_0f7a4_s6 hI (gI μ 2 (ix (gI μ 1 2))) μ) (Nat.le_of_ble_eq_true rfl) rfl rfl (Nat.le_of_ble_eq_true rfl) (fun r1 m2 => ?_)
    refine ao_istore_n (pc := 26) (lv' := [(2, .int r1), (0, .ref (eAd E 1)), (1, .ref (eSk E 6))]) X dX9_takesOneOf_26 rfl (by decide) rfl ?_
    refine ao_iload_n (pc := 27) X dX9_takesOneOf_27 rfl ?_
    refine ao_if_lt (pc := 28) (tgt := 41) X dX9_takesOneOf_28 (by decide) (fun _ => ?_) (fun _ => ?_)
    · refine ao_iload_n (pc := 41) X dX9_takesOneOf_41 rfl ?_
      exact ao_iret (pc := 42) X hr dX9_takesOneOf_42
    · refine ao_aload_n (pc := 31) X dX9_takesOneOf_31 rfl ?_
      refine ao_dup (pc := 32) X dX9_takesOneOf_32 rfl ?_
      refine ao_getI (pc := 33) X dX9_takesOneOf_33 fl_RX9_19 sf_1_2 ?_
      refine ao_iconst (pc := 36) X dX9_takesOneOf_36 ic_1 ?_
      refine ao_iadd (pc := 37) X dX9_takesOneOf_37 ?_
      refine ao_putI (pc := 38) X dX9_takesOneOf_38 fp_RX9_19 sf_1_2 ?_
      refine ao_lt (fun m3 => ?_)
      refine ao_iload_n (pc := 41) X dX9_takesOneOf_41 rfl ?_
      exact ao_iret (pc := 42) X hr dX9_takesOneOf_42
  · refine ao_iconst (pc := 11) X dX9_takesOneOf_11 ic_m1 ?_
    exact ao_iret (pc := 12) X hr dX9_takesOneOf_12
def fX8_readsSigned_19_1_b34 (rc : Int32 → Mem → Option (Int32 × Mem)) : Nat → Int32 → Int32 → Int32 → Mem → Option (Int32 × Mem)
  | 0, _, _, _, _ => none
  | n + 1, p3, p4, p5, μ =>
  if p3 ≤ p5 then (gd (isZ p4) (some (p4, μ)))
  else if p4 = 0 then (gd (isZ p4) (some (p4, μ)))
    else bnd (fX8_drafts_19 (2007 : Int32) μ) fun r6 m7 =>
      fX8_readsSigned_19_1_b34 rc n p3 r6 (p5 + (1 : Int32)) m7
set_option maxRecDepth 100000 in
set_option maxHeartbeats 4000000 in
theorem bX8_readsSigned_19_1_34 {E : En} {l : Launch} {Z : Zt} (hI : Inj E) (hl0 : lZ l Z) {dT : Nat} (X : Cx E Z cX8_readsSigned RX8 6 (dT + 1)) (hr : rtOf Z = some .boolean) (hB : 6 ≤ dT) {rc : Int32 → Mem → Option (Int32 × Mem)} (hrc : ∀ (v2 : Int32) (m : Mem), MtI E l yX8_readsThing cX8_readsThing 5 (some .boolean) dT [.ref (eAd E 19), .ref (eAd E 1), .int v2] m (rc v2 m)) : ∀ (n : Nat) (p3 : Int32) (p4 : Int32) (p5 : Int32) (μ : Mem), AO E Z 6 (QI E Z) 34 [(0, .ref (eAd E 19)), (3, .int p3), (4, .int p4), (5, .int p5)] [] μ (fX8_readsSigned_19_1_b34 rc n p3 p4 p5 μ) := by
  intro n
  induction n with
  | zero =>
    intros
    exact ao_none
  | succ n ih =>
    intro p3 p4 p5 μ
    rw [fX8_readsSigned_19_1_b34]
    refine ao_iload (pc := 34) X dX8_readsSigned_34 rfl ?_
    refine ao_iload_n (pc := 36) X dX8_readsSigned_36 rfl ?_
    refine ao_icmp_ge (pc := 37) (tgt := 60) X dX8_readsSigned_37 (by decide) (fun _ => ?_) (fun _ => ?_)
    · refine ao_iload (pc := 60) X dX8_readsSigned_60 rfl ?_
      exact ao_zretG (pc := 62) X hr dX8_readsSigned_62
    · refine ao_iload (pc := 40) X dX8_readsSigned_40 rfl ?_
      refine ao_if_eq (pc := 42) (tgt := 60) X dX8_readsSigned_42 (by decide) (fun _ => ?_) (fun _ => ?_)
      · refine ao_iload (pc := 60) X dX8_readsSigned_60 rfl ?_
        exact ao_zretG (pc := 62) X hr dX8_readsSigned_62
      · refine ao_aload_n (pc := 45) X dX8_readsSigned_45 rfl ?_
        refine ao_sipush (pc := 46) X dX8_readsSigned_46 sp_2007 ?_
        refine ao_callVI (pc := 49) (As := [.int (2007 : Int32)]) (st := []) X hl0 dX8_readsSigned_49 yv_X8_drafts so_19 ml_RX8_70 (mX8_drafts_19 hI (2007 : Int32) μ) (by omega) rfl rfl (Nat.le_of_ble_eq_true rfl) (fun r6 m7 => ?_)
        refine ao_istore (pc := 52) (lv' := [(4, .int r6), (0, .ref (eAd E 19)), (3, .int p3), (5, .int p5)]) X dX8_readsSigned_52 (by decide) rfl ?_
        refine ao_iinc (pc := 54) (k := 3) (v := p5 + (1 : Int32)) (lv' := [(5, .int (p5 + (1 : Int32))), (4, .int r6), (0, .ref (eAd E 19)), (3, .int p3)]) X dX8_readsSigned_54 rfl (ii_ic ic_1) (by decide) rfl ?_
        refine ao_goto (pc := 57) (tgt := 34) X dX8_readsSigned_57 (by decide) ?_
        refine ao_sub [2, 3, 1, 0] rfl ?_
        exact ih p3 r6 (p5 + (1 : Int32)) m7
def fX8_readsSigned_19_1_b23 (rc : Int32 → Mem → Option (Int32 × Mem)) (p2 : Int32) (p3 : Int32) (μ : Mem) : Option (Int32 × Mem) :=
  bnd (rc p2 μ) fun r4 m5 =>
  fX8_readsSigned_19_1_b34 rc FU p3 r4 (0 : Int32) m5
set_option maxRecDepth 100000 in
set_option maxHeartbeats 4000000 in
theorem bX8_readsSigned_19_1_23 {E : En} {l : Launch} {Z : Zt} (hI : Inj E) (hl0 : lZ l Z) {dT : Nat} (X : Cx E Z cX8_readsSigned RX8 6 (dT + 1)) (hr : rtOf Z = some .boolean) (hB : 6 ≤ dT) {rc : Int32 → Mem → Option (Int32 × Mem)} (hrc : ∀ (v2 : Int32) (m : Mem), MtI E l yX8_readsThing cX8_readsThing 5 (some .boolean) dT [.ref (eAd E 19), .ref (eAd E 1), .int v2] m (rc v2 m)) (p2 : Int32) (p3 : Int32) (μ : Mem) : AO E Z 6 (QI E Z) 23 [(0, .ref (eAd E 19)), (1, .ref (eAd E 1)), (2, .int p2), (3, .int p3)] [] μ (fX8_readsSigned_19_1_b23 rc p2 p3 μ) := by
  unfold fX8_readsSigned_19_1_b23
  refine ao_aload_n (pc := 23) X dX8_readsSigned_23 rfl ?_
  refine ao_aload_n (pc := 24) X dX8_readsSigned_24 rfl ?_
  refine ao_iload_n (pc := 25) X dX8_readsSigned_25 rfl ?_
  refine ao_callVI (pc := 26) (As := [.ref (eAd E 1), .int p2]) (st := []) X hl0 dX8_readsSigned_26 yv_X8_readsThing so_19 ml_RX8_88 (hrc p2 μ) (by omega) rfl rfl (Nat.le_of_ble_eq_true rfl) (fun r4 m5 => ?_)
  refine ao_istore (pc := 29) (lv' := [(4, .int r4), (0, .ref (eAd E 19)), (1, .ref (eAd E 1)), (2, .int p2), (3, .int p3)]) X dX8_readsSigned_29 (by decide) rfl ?_
  refine ao_iconst (pc := 31) X dX8_readsSigned_31 ic_0 ?_
  refine ao_istore (pc := 32) (lv' := [(5, .int (0 : Int32)), (4, .int r4), (0, .ref (eAd E 19)), (1, .ref (eAd E 1)), (2, .int p2), (3, .int p3)]) X dX8_readsSigned_32 (by decide) rfl ?_
  refine ao_sub [2, 5, 1, 0] rfl ?_
  exact bX8_readsSigned_19_1_34 hI hl0 X hr hB hrc FU p3 r4 (0 : Int32) m5
def fX8_readsSigned_19_1_b2 (rc : Int32 → Mem → Option (Int32 × Mem)) : Nat → Int32 → Int32 → Mem → Option (Int32 × Mem)
  | 0, _, _, _ => none
  | n + 1, p2, p3, μ =>
  if (40 : Int32) ≤ p3 then (fX8_readsSigned_19_1_b23 rc p2 p3 μ)
  else bnd (fX9_takes_1 (45 : Int32) μ) fun r1 m2 =>
    if r1 = 0 then (fX8_readsSigned_19_1_b23 rc p2 p3 m2)
    else fX8_readsSigned_19_1_b2 rc n p2 (p3 + (1 : Int32)) m2
set_option maxRecDepth 100000 in
set_option maxHeartbeats 4000000 in
theorem bX8_readsSigned_19_1_2 {E : En} {l : Launch} {Z : Zt} (hI : Inj E) (hl0 : lZ l Z) {dT : Nat} (X : Cx E Z cX8_readsSigned RX8 6 (dT + 1)) (hr : rtOf Z = some .boolean) (hB : 6 ≤ dT) {rc : Int32 → Mem → Option (Int32 × Mem)} (hrc : ∀ (v2 : Int32) (m : Mem), MtI E l yX8_readsThing cX8_readsThing 5 (some .boolean) dT [.ref (eAd E 19), .ref (eAd E 1), .int v2] m (rc v2 m)) : ∀ (n : Nat) (p2 : Int32) (p3 : Int32) (μ : Mem), AO E Z 6 (QI E Z) 2 [(0, .ref (eAd E 19)), (1, .ref (eAd E 1)), (2, .int p2), (3, .int p3)] [] μ (fX8_readsSigned_19_1_b2 rc n p2 p3 μ) := by
  intro n
  induction n with
  | zero =>
    intros
    exact ao_none
  | succ n ih =>
    intro p2 p3 μ
    rw [fX8_readsSigned_19_1_b2]
    refine ao_iload_n (pc := 2) X dX8_readsSigned_2 rfl ?_
    refine ao_bipush (pc := 3) X dX8_readsSigned_3 bp_40 ?_
    refine ao_icmp_ge (pc := 5) (tgt := 23) X dX8_readsSigned_5 (by decide) (fun _ => ?_) (fun _ => ?_)
    · refine ao_sub [0, 1, 2, 3] rfl ?_
      exact bX8_readsSigned_19_1_23 hI hl0 X hr hB hrc p2 p3 μ
    · refine ao_aload_n (pc := 8) X dX8_readsSigned_8 rfl ?_
      refine ao_bipush (pc := 9) X dX8_readsSigned_9 bp_45 ?_
      refine ao_callVI (pc := 11) (As := [.int (45 : Int32)]) (st := []) X hl0 dX8_readsSigned_11 yv_X9_takes so_1 ml_RX8_84 (mX9_takes_1 hI (45 : Int32) μ) (by omega) rfl rfl (Nat.le_of_ble_eq_true rfl) (fun r1 m2 => ?_)
      refine ao_if_eq (pc := 14) (tgt := 23) X dX8_readsSigned_14 (by decide) (fun _ => ?_) (fun _ => ?_)
      · refine ao_sub [0, 1, 2, 3] rfl ?_
        exact bX8_readsSigned_19_1_23 hI hl0 X hr hB hrc p2 p3 m2
      · refine ao_iinc (pc := 17) (k := 3) (v := p3 + (1 : Int32)) (lv' := [(3, .int (p3 + (1 : Int32))), (0, .ref (eAd E 19)), (1, .ref (eAd E 1)), (2, .int p2)]) X dX8_readsSigned_17 rfl (ii_ic ic_1) (by decide) rfl ?_
        refine ao_goto (pc := 20) (tgt := 2) X dX8_readsSigned_20 (by decide) ?_
        refine ao_sub [1, 2, 3, 0] rfl ?_
        exact ih p2 (p3 + (1 : Int32)) m2
def fX8_readsSigned_19_1 (rc : Int32 → Mem → Option (Int32 × Mem)) (v2 : Int32) (μ : Mem) : Option (Int32 × Mem) :=
  fX8_readsSigned_19_1_b2 rc FU v2 (0 : Int32) μ
set_option maxRecDepth 100000 in
set_option maxHeartbeats 4000000 in
theorem mX8_readsSigned_19_1 {E : En} {l : Launch} (hI : Inj E) {dT : Nat} (hB : 6 ≤ dT) {rc : Int32 → Mem → Option (Int32 × Mem)} (hrc : ∀ (v2 : Int32) (m : Mem), MtI E l yX8_readsThing cX8_readsThing 5 (some .boolean) dT [.ref (eAd E 19), .ref (eAd E 1), .int v2] m (rc v2 m)) (v2 : Int32) (μ : Mem) : MtI E l yX8_readsSigned cX8_readsSigned 6 (some .boolean) (dT + 1) [.ref (eAd E 19), .ref (eAd E 1), .int v2] μ (fX8_readsSigned_19_1 rc v2 μ) := by
  refine mtI_of (own := RX8) [(0, .ref (eAd E 19)), (1, .ref (eAd E 1)), (2, .int v2)] hI rfl (by decide) (by omega) (Nat.le_of_ble_eq_true rfl) rfl (fun Z hl0 X hr => ?_)
  unfold fX8_readsSigned_19_1
  refine ao_iconst (pc := 0) X dX8_readsSigned_0 ic_0 ?_
  refine ao_istore_n (pc := 1) (lv' := [(3, .int (0 : Int32)), (0, .ref (eAd E 19)), (1, .ref (eAd E 1)), (2, .int v2)]) X dX8_readsSigned_1 rfl (by decide) rfl ?_
  refine ao_sub [1, 2, 3, 0] rfl ?_
  exact bX8_readsSigned_19_1_2 hI hl0 X hr hB hrc FU v2 (0 : Int32) μ
