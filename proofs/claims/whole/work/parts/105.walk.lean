def fX6_restore_29_33 (μ : Mem) : Option (Int32 × Mem) :=
  if (gI μ 29 2) = 0 then (some ((0 : Int32), μ))
  else gd (!((13 : Int32) == 0)) (lt (sI μ 29 1 ((((gI μ 29 1) + (13 : Int32)) - (1 : Int32)) - (((gI μ 29 1) + (13 : Int32)) - (1 : Int32)) / (13 : Int32) * (13 : Int32))) fun m1 =>
    lt (sI m1 29 2 ((gI m1 29 2) - (1 : Int32))) fun m2 =>
    if (gI m2 29 1) = (0 : Int32) then (bnd (fX4_take_33_43 m2) fun r3 m4 =>
      some ((1 : Int32), m4))
    else if (gI m2 29 1) = (1 : Int32) then (bnd (fX4_take_33_48 m2) fun r5 m6 =>
      some ((1 : Int32), m6))
    else if (gI m2 29 1) = (2 : Int32) then (bnd (fX4_take_33_53 m2) fun r7 m8 =>
      some ((1 : Int32), m8))
    else if (gI m2 29 1) = (3 : Int32) then (bnd (fX4_take_33_58 m2) fun r9 m10 =>
      some ((1 : Int32), m10))
    else if (gI m2 29 1) = (4 : Int32) then (bnd (fX4_take_33_63 m2) fun r11 m12 =>
      some ((1 : Int32), m12))
    else if (gI m2 29 1) = (5 : Int32) then (bnd (fX4_take_33_68 m2) fun r13 m14 =>
      some ((1 : Int32), m14))
    else if (gI m2 29 1) = (6 : Int32) then (bnd (fX4_take_33_73 m2) fun r15 m16 =>
      some ((1 : Int32), m16))
    else if (gI m2 29 1) = (7 : Int32) then (bnd (fX4_take_33_78 m2) fun r17 m18 =>
      some ((1 : Int32), m18))
    else if (gI m2 29 1) = (8 : Int32) then (bnd (fX4_take_33_83 m2) fun r19 m20 =>
      some ((1 : Int32), m20))
    else if (gI m2 29 1) = (9 : Int32) then (bnd (fX4_take_33_88 m2) fun r21 m22 =>
      some ((1 : Int32), m22))
    else if (gI m2 29 1) = (10 : Int32) then (bnd (fX4_take_33_93 m2) fun r23 m24 =>
      some ((1 : Int32), m24))
    else if (gI m2 29 1) = (11 : Int32) then (bnd (fX4_take_33_98 m2) fun r25 m26 =>
      some ((1 : Int32), m26))
    else if (gI m2 29 1) = (12 : Int32) then (bnd (fX4_take_33_103 m2) fun r27 m28 =>
      some ((1 : Int32), m28))
    else none)
set_option maxRecDepth 100000 in
set_option maxHeartbeats 4000000 in
theorem mX6_restore_29_33 {E : En} {l : Launch} (hI : Inj E) (μ : Mem) : MtI E l yX6_restore cX6_restore 2 (some .boolean) 2 [.ref (eAd E 29), .ref (eAd E 33)] μ (fX6_restore_29_33 μ) := by
  refine mtI_of (own := RX6) [(0, .ref (eAd E 29)), (1, .ref (eAd E 33))] hI rfl (by decide) (Nat.le_of_ble_eq_true rfl) (Nat.le_of_ble_eq_true rfl) rfl (fun Z hl0 X hr => ?_)
  unfold fX6_restore_29_33
  refine ao_aload_n (pc := 0) X dX6_restore_0 rfl ?_
  refine ao_getI (pc := 1) X dX6_restore_1 fl_RX6_19 sf_29_2 ?_
  refine ao_if_ne (pc := 4) (tgt := 9) X dX6_restore_4 (by decide) (fun _ => ?_) (fun _ => ?_)
  · refine ao_aload_n (pc := 9) X dX6_restore_9 rfl ?_
    refine ao_aload_n (pc := 10) X dX6_restore_10 rfl ?_
    refine ao_getI (pc := 11) X dX6_restore_11 fl_RX6_15 sf_29_1 ?_
    refine ao_bipush (pc := 14) X dX6_restore_14 bp_13 ?_
    refine ao_iadd (pc := 16) X dX6_restore_16 ?_
    refine ao_iconst (pc := 17) X dX6_restore_17 ic_1 ?_
    refine ao_isub (pc := 18) X dX6_restore_18 ?_
    refine ao_bipush (pc := 19) X dX6_restore_19 bp_13 ?_
    refine ao_irem (pc := 21) X dX6_restore_21 ?_
    refine ao_putI (pc := 22) X dX6_restore_22 fp_RX6_15 sf_29_1 ?_
    refine ao_lt (fun m1 => ?_)
    refine ao_aload_n (pc := 25) X dX6_restore_25 rfl ?_
    refine ao_dup (pc := 26) X dX6_restore_26 rfl ?_
    refine ao_getI (pc := 27) X dX6_restore_27 fl_RX6_19 sf_29_2 ?_
    refine ao_iconst (pc := 30) X dX6_restore_30 ic_1 ?_
    refine ao_isub (pc := 31) X dX6_restore_31 ?_
    refine ao_putI (pc := 32) X dX6_restore_32 fp_RX6_19 sf_29_2 ?_
    refine ao_lt (fun m2 => ?_)
    refine ao_aload_n (pc := 35) X dX6_restore_35 rfl ?_
    refine ao_aload_n (pc := 36) X dX6_restore_36 rfl ?_
    refine ao_getR (pc := 37) X dX6_restore_37 fl_RX6_11 sf_29_0 ?_
    refine ao_aload_n (pc := 40) X dX6_restore_40 rfl ?_
    refine ao_getI (pc := 41) X dX6_restore_41 fl_RX6_15 sf_29_1 ?_
    refine ao_ite (cd := (gI m2 29 1) = (0 : Int32)) (fun c => ao_aald (n := 0) (pc := 44) (t := 43) (iv := (0 : Int32)) X dX6_restore_44 (by decide) sh_30 c (by decide) rfl ?_) (fun _ => ?_)
    · refine ao_callVV (pc := 45) (As := [.ref (eAd E 43)]) (st := []) X hl0 dX6_restore_45 yv_X4_take so_33 ml_RX6_25 (mX4_take_33_43 hI m2) (Nat.le_of_ble_eq_true rfl) rfl rfl (Nat.le_of_ble_eq_true rfl) (fun r3 m4 => ?_)
      refine ao_iconst (pc := 48) X dX6_restore_48 ic_1 ?_
      exact ao_zret (pc := 49) X hr rfl dX6_restore_49
    refine ao_ite (cd := (gI m2 29 1) = (1 : Int32)) (fun c => ao_aald (n := 0) (pc := 44) (t := 48) (iv := (1 : Int32)) X dX6_restore_44 (by decide) sh_30 c (by decide) rfl ?_) (fun _ => ?_)
    · refine ao_callVV (pc := 45) (As := [.ref (eAd E 48)]) (st := []) X hl0 dX6_restore_45 yv_X4_take so_33 ml_RX6_25 (mX4_take_33_48 hI m2) (Nat.le_of_ble_eq_true rfl) rfl rfl (Nat.le_of_ble_eq_true rfl) (fun r5 m6 => ?_)
      refine ao_iconst (pc := 48) X dX6_restore_48 ic_1 ?_
      exact ao_zret (pc := 49) X hr rfl dX6_restore_49
    refine ao_ite (cd := (gI m2 29 1) = (2 : Int32)) (fun c => ao_aald (n := 0) (pc := 44) (t := 53) (iv := (2 : Int32)) X dX6_restore_44 (by decide) sh_30 c (by decide) rfl ?_) (fun _ => ?_)
    · refine ao_callVV (pc := 45) (As := [.ref (eAd E 53)]) (st := []) X hl0 dX6_restore_45 yv_X4_take so_33 ml_RX6_25 (mX4_take_33_53 hI m2) (Nat.le_of_ble_eq_true rfl) rfl rfl (Nat.le_of_ble_eq_true rfl) (fun r7 m8 => ?_)
      refine ao_iconst (pc := 48) X dX6_restore_48 ic_1 ?_
      exact ao_zret (pc := 49) X hr rfl dX6_restore_49
    refine ao_ite (cd := (gI m2 29 1) = (3 : Int32)) (fun c => ao_aald (n := 0) (pc := 44) (t := 58) (iv := (3 : Int32)) X dX6_restore_44 (by decide) sh_30 c (by decide) rfl ?_) (fun _ => ?_)
    · refine ao_callVV (pc := 45) (As := [.ref (eAd E 58)]) (st := []) X hl0 dX6_restore_45 yv_X4_take so_33 ml_RX6_25 (mX4_take_33_58 hI m2) (Nat.le_of_ble_eq_true rfl) rfl rfl (Nat.le_of_ble_eq_true rfl) (fun r9 m10 => ?_)
      refine ao_iconst (pc := 48) X dX6_restore_48 ic_1 ?_
      exact ao_zret (pc := 49) X hr rfl dX6_restore_49
    refine ao_ite (cd := (gI m2 29 1) = (4 : Int32)) (fun c => ao_aald (n := 0) (pc := 44) (t := 63) (iv := (4 : Int32)) X dX6_restore_44 (by decide) sh_30 c (by decide) rfl ?_) (fun _ => ?_)
    · refine ao_callVV (pc := 45) (As := [.ref (eAd E 63)]) (st := []) X hl0 dX6_restore_45 yv_X4_take so_33 ml_RX6_25 (mX4_take_33_63 hI m2) (Nat.le_of_ble_eq_true rfl) rfl rfl (Nat.le_of_ble_eq_true rfl) (fun r11 m12 => ?_)
      refine ao_iconst (pc := 48) X dX6_restore_48 ic_1 ?_
      exact ao_zret (pc := 49) X hr rfl dX6_restore_49
    refine ao_ite (cd := (gI m2 29 1) = (5 : Int32)) (fun c => ao_aald (n := 0) (pc := 44) (t := 68) (iv := (5 : Int32)) X dX6_restore_44 (by decide) sh_30 c (by decide) rfl ?_) (fun _ => ?_)
    · refine ao_callVV (pc := 45) (As := [.ref (eAd E 68)]) (st := []) X hl0 dX6_restore_45 yv_X4_take so_33 ml_RX6_25 (mX4_take_33_68 hI m2) (Nat.le_of_ble_eq_true rfl) rfl rfl (Nat.le_of_ble_eq_true rfl) (fun r13 m14 => ?_)
      refine ao_iconst (pc := 48) X dX6_restore_48 ic_1 ?_
      exact ao_zret (pc := 49) X hr rfl dX6_restore_49
    refine ao_ite (cd := (gI m2 29 1) = (6 : Int32)) (fun c => ao_aald (n := 0) (pc := 44) (t := 73) (iv := (6 : Int32)) X dX6_restore_44 (by decide) sh_30 c (by decide) rfl ?_) (fun _ => ?_)
    · refine ao_callVV (pc := 45) (As := [.ref (eAd E 73)]) (st := []) X hl0 dX6_restore_45 yv_X4_take so_33 ml_RX6_25 (mX4_take_33_73 hI m2) (Nat.le_of_ble_eq_true rfl) rfl rfl (Nat.le_of_ble_eq_true rfl) (fun r15 m16 => ?_)
      refine ao_iconst (pc := 48) X dX6_restore_48 ic_1 ?_
      exact ao_zret (pc := 49) X hr rfl dX6_restore_49
    refine ao_ite (cd := (gI m2 29 1) = (7 : Int32)) (fun c => ao_aald (n := 0) (pc := 44) (t := 78) (iv := (7 : Int32)) X dX6_restore_44 (by decide) sh_30 c (by decide) rfl ?_) (fun _ => ?_)
    · refine ao_callVV (pc := 45) (As := [.ref (eAd E 78)]) (st := []) X hl0 dX6_restore_45 yv_X4_take so_33 ml_RX6_25 (mX4_take_33_78 hI m2) (Nat.le_of_ble_eq_true rfl) rfl rfl (Nat.le_of_ble_eq_true rfl) (fun r17 m18 => ?_)
      refine ao_iconst (pc := 48) X dX6_restore_48 ic_1 ?_
      exact ao_zret (pc := 49) X hr rfl dX6_restore_49
    refine ao_ite (cd := (gI m2 29 1) = (8 : Int32)) (fun c => ao_aald (n := 0) (pc := 44) (t := 83) (iv := (8 : Int32)) X dX6_restore_44 (by decide) sh_30 c (by decide) rfl ?_) (fun _ => ?_)
    · refine ao_callVV (pc := 45) (As := [.ref (eAd E 83)]) (st := []) X hl0 dX6_restore_45 yv_X4_take so_33 ml_RX6_25 (mX4_take_33_83 hI m2) (Nat.le_of_ble_eq_true rfl) rfl rfl (Nat.le_of_ble_eq_true rfl) (fun r19 m20 => ?_)
      refine ao_iconst (pc := 48) X dX6_restore_48 ic_1 ?_
      exact ao_zret (pc := 49) X hr rfl dX6_restore_49
    refine ao_ite (cd := (gI m2 29 1) = (9 : Int32)) (fun c => ao_aald (n := 0) (pc := 44) (t := 88) (iv := (9 : Int32)) X dX6_restore_44 (by decide) sh_30 c (by decide) rfl ?_) (fun _ => ?_)
    · refine ao_callVV (pc := 45) (As := [.ref (eAd E 88)]) (st := []) X hl0 dX6_restore_45 yv_X4_take so_33 ml_RX6_25 (mX4_take_33_88 hI m2) (Nat.le_of_ble_eq_true rfl) rfl rfl (Nat.le_of_ble_eq_true rfl) (fun r21 m22 => ?_)
      refine ao_iconst (pc := 48) X dX6_restore_48 ic_1 ?_
      exact ao_zret (pc := 49) X hr rfl dX6_restore_49
    refine ao_ite (cd := (gI m2 29 1) = (10 : Int32)) (fun c => ao_aald (n := 0) (pc := 44) (t := 93) (iv := (10 : Int32)) X dX6_restore_44 (by decide) sh_30 c (by decide) rfl ?_) (fun _ => ?_)
    · refine ao_callVV (pc := 45) (As := [.ref (eAd E 93)]) (st := []) X hl0 dX6_restore_45 yv_X4_take so_33 ml_RX6_25 (mX4_take_33_93 hI m2) (Nat.le_of_ble_eq_true rfl) rfl rfl (Nat.le_of_ble_eq_true rfl) (fun r23 m24 => ?_)
      refine ao_iconst (pc := 48) X dX6_restore_48 ic_1 ?_
      exact ao_zret (pc := 49) X hr rfl dX6_restore_49
    refine ao_ite (cd := (gI m2 29 1) = (11 : Int32)) (fun c => ao_aald (n := 0) (pc := 44) (t := 98) (iv := (11 : Int32)) X dX6_restore_44 (by decide) sh_30 c (by decide) rfl ?_) (fun _ => ?_)
    · refine ao_callVV (pc := 45) (As := [.ref (eAd E 98)]) (st := []) X hl0 dX6_restore_45 yv_X4_take so_33 ml_RX6_25 (mX4_take_33_98 hI m2) (Nat.le_of_ble_eq_true rfl) rfl rfl (Nat.le_of_ble_eq_true rfl) (fun r25 m26 => ?_)
      refine ao_iconst (pc := 48) X dX6_restore_48 ic_1 ?_
      exact ao_zret (pc := 49) X hr rfl dX6_restore_49
    refine ao_ite (cd := (gI m2 29 1) = (12 : Int32)) (fun c => ao_aald (n := 0) (pc := 44) (t := 103) (iv := (12 : Int32)) X dX6_restore_44 (by decide) sh_30 c (by decide) rfl ?_) (fun _ => ?_)
    · refine ao_callVV (pc := 45) (As := [.ref (eAd E 103)]) (st := []) X hl0 dX6_restore_45 yv_X4_take so_33 ml_RX6_25 (mX4_take_33_103 hI m2) (Nat.le_of_ble_eq_true rfl) rfl rfl (Nat.le_of_ble_eq_true rfl) (fun r27 m28 => ?_)
      refine ao_iconst (pc := 48) X dX6_restore_48 ic_1 ?_
      exact ao_zret (pc := 49) X hr rfl dX6_restore_49
    exact ao_none
  · refine ao_iconst (pc := 7) X dX6_restore_7 ic_0 ?_
    exact ao_zret (pc := 8) X hr rfl dX6_restore_8
def fX11_undo_0 (μ : Mem) : Option (Int32 × Mem) :=
  bnd (fX6_restore_29_33 μ) fun r1 m2 =>
  if r1 = 0 then (some ((-1 : Int32), m2))
  else some ((gI m2 29 2), m2)
set_option maxRecDepth 100000 in
set_option maxHeartbeats 4000000 in
theorem mX11_undo_0 {E : En} {l : Launch} (hI : Inj E) (μ : Mem) : MtI E l yX11_undo cX11_undo 1 (some .int) 3 [.ref (eAd E 0)] μ (fX11_undo_0 μ) := by
  refine mtI_of (own := RX11) [(0, .ref (eAd E 0))] hI rfl (by decide) (Nat.le_of_ble_eq_true rfl) (Nat.le_of_ble_eq_true rfl) rfl (fun Z hl0 X hr => ?_)
  unfold fX11_undo_0
  refine ao_aload_n (pc := 0) X dX11_undo_0 rfl ?_
  refine ao_getR (pc := 1) X dX11_undo_1 fl_RX11_75 sf_0_9 ?_
  refine ao_aload_n (pc := 4) X dX11_undo_4 rfl ?_
  refine ao_getR (pc := 5) X dX11_undo_5 fl_RX11_65 sf_0_7 ?_
  refine ao_callVI (pc := 8) (As := [.ref (eAd E 33)]) (st := []) X hl0 dX11_undo_8 yv_X6_restore so_29 ml_RX11_252 (mX6_restore_29_33 hI μ) (Nat.le_of_ble_eq_true rfl) rfl rfl (Nat.le_of_ble_eq_true rfl) (fun r1 m2 => ?_)
  refine ao_if_ne (pc := 11) (tgt := 16) X dX11_undo_11 (by decide) (fun _ => ?_) (fun _ => ?_)
  · refine ao_aload_n (pc := 16) X dX11_undo_16 rfl ?_
    refine ao_getR (pc := 17) X dX11_undo_17 fl_RX11_75 sf_0_9 ?_
    refine ao_getI (pc := 20) X dX11_undo_20 fl_RX11_256 sf_29_2 ?_
    exact ao_iret (pc := 23) X hr dX11_undo_23
  · refine ao_iconst (pc := 14) X dX11_undo_14 ic_m1 ?_
    exact ao_iret (pc := 15) X hr dX11_undo_15
def fX12_undo_122_b26 : Nat → Int32 → Mem → Option (Int32 × Mem)
  | 0, _, _ => none
  | n + 1, p1, μ =>
  if (27 : Int32) ≤ p1 then (some ((gI μ 122 29), μ))
  else gd (inb (((27 : Int32) * (gI μ 122 29)) + p1) 324) (gd (inb p1 27) (lt (sI μ 123 (ix p1) (gI μ 138 (ix (((27 : Int32) * (gI μ 122 29)) + p1)))) fun m3 =>
    fX12_undo_122_b26 n (p1 + (1 : Int32)) m3))
set_option maxRecDepth 100000 in
set_option maxHeartbeats 4000000 in
theorem bX12_undo_122_26 {E : En} {l : Launch} {Z : Zt} (hI : Inj E) (hl0 : lZ l Z) (X : Cx E Z cX12_undo RX12 2 1) (hr : rtOf Z = some .int) : ∀ (n : Nat) (p1 : Int32) (μ : Mem), AO E Z 2 (QI E Z) 26 [(0, .ref (eAd E 122)), (1, .int p1)] [] μ (fX12_undo_122_b26 n p1 μ) := by
  intro n
  induction n with
  | zero =>
    intros
    exact ao_none
  | succ n ih =>
    intro p1 μ
    rw [fX12_undo_122_b26]
    refine ao_iload_n (pc := 26) X dX12_undo_26 rfl ?_
    refine ao_bipush (pc := 27) X dX12_undo_27 bp_27 ?_
    refine ao_icmp_ge (pc := 29) (tgt := 58) X dX12_undo_29 (by decide) (fun _ => ?_) (fun _ => ?_)
    · refine ao_aload_n (pc := 58) X dX12_undo_58 rfl ?_
      refine ao_getI (pc := 59) X dX12_undo_59 fl_RX12_175 sf_122_29 ?_
      exact ao_iret (pc := 62) X hr dX12_undo_62
    · refine ao_aload_n (pc := 32) X dX12_undo_32 rfl ?_
      refine ao_getR (pc := 33) X dX12_undo_33 fl_RX12_9 sf_122_0 ?_
      refine ao_iload_n (pc := 36) X dX12_undo_36 rfl ?_
      refine ao_aload_n (pc := 37) X dX12_undo_37 rfl ?_
      refine ao_getR (pc := 38) X dX12_undo_38 fl_RX12_62 sf_122_28 ?_
      refine ao_bipush (pc := 41) X dX12_undo_41 bp_27 ?_
      refine ao_aload_n (pc := 43) X dX12_undo_43 rfl ?_
      refine ao_getI (pc := 44) X dX12_undo_44 fl_RX12_175 sf_122_29 ?_
      refine ao_imul (pc := 47) X dX12_undo_47 ?_
      refine ao_iload_n (pc := 48) X dX12_undo_48 rfl ?_
      refine ao_iadd (pc := 49) X dX12_undo_49 ?_
      refine ao_iald (pc := 50) X dX12_undo_50 sa_138 ?_
      refine ao_iast (pc := 51) X dX12_undo_51 sa_123 ?_
      refine ao_lt (fun m3 => ?_)
      refine ao_iinc (pc := 52) (k := 1) (v := p1 + (1 : Int32)) (lv' := [(1, .int (p1 + (1 : Int32))), (0, .ref (eAd E 122))]) X dX12_undo_52 rfl (ii_ic ic_1) (by decide) rfl ?_
      refine ao_goto (pc := 55) (tgt := 26) X dX12_undo_55 (by decide) ?_
      refine ao_sub [1, 0] rfl ?_
      exact ih (p1 + (1 : Int32)) m3
def fX12_undo_122 (μ : Mem) : Option (Int32 × Mem) :=
  lt (sI μ 122 17 (0 : Int32)) fun m1 =>
  if (gI m1 122 29) = 0 then (some ((-1 : Int32), m1))
  else lt (sI m1 122 29 ((gI m1 122 29) - (1 : Int32))) fun m2 =>
    fX12_undo_122_b26 FU (0 : Int32) m2
set_option maxRecDepth 100000 in
set_option maxHeartbeats 4000000 in
theorem mX12_undo_122 {E : En} {l : Launch} (hI : Inj E) (μ : Mem) : MtI E l yX12_undo cX12_undo 2 (some .int) 1 [.ref (eAd E 122)] μ (fX12_undo_122 μ) := by
  refine mtI_of (own := RX12) [(0, .ref (eAd E 122))] hI rfl (by decide) (Nat.le_of_ble_eq_true rfl) (Nat.le_of_ble_eq_true rfl) rfl (fun Z hl0 X hr => ?_)
  unfold fX12_undo_122
  refine ao_aload_n (pc := 0) X dX12_undo_0 rfl ?_
  refine ao_iconst (pc := 1) X dX12_undo_1 ic_0 ?_
  refine ao_putI (pc := 2) X dX12_undo_2 fp_RX12_95 sf_122_17 ?_
  refine ao_lt (fun m1 => ?_)
  refine ao_aload_n (pc := 5) X dX12_undo_5 rfl ?_
  refine ao_getI (pc := 6) X dX12_undo_6 fl_RX12_175 sf_122_29 ?_
  refine ao_if_ne (pc := 9) (tgt := 14) X dX12_undo_9 (by decide) (fun _ => ?_) (fun _ => ?_)
  · refine ao_aload_n (pc := 14) X dX12_undo_14 rfl ?_
    refine ao_dup (pc := 15) X dX12_undo_15 rfl ?_
    refine ao_getI (pc := 16) X dX12_undo_16 fl_RX12_175 sf_122_29 ?_
    refine ao_iconst (pc := 19) X dX12_undo_19 ic_1 ?_
    refine ao_isub (pc := 20) X dX12_undo_20 ?_
    refine ao_putI (pc := 21) X dX12_undo_21 fp_RX12_175 sf_122_29 ?_
    refine ao_lt (fun m2 => ?_)
    refine ao_iconst (pc := 24) X dX12_undo_24 ic_0 ?_
    refine ao_istore_n (pc := 25) (lv' := [(1, .int (0 : Int32)), (0, .ref (eAd E 122))]) X dX12_undo_25 rfl (by decide) rfl ?_
    refine ao_sub [1, 0] rfl ?_
    exact bX12_undo_122_26 hI hl0 X hr FU (0 : Int32) m2
  · refine ao_iconst (pc := 12) X dX12_undo_12 ic_m1 ?_
    exact ao_iret (pc := 13) X hr dX12_undo_13
def fX11_isThere_0 (v1 : Int32) (μ : Mem) : Option (Int32 × Mem) :=
  if v1 < 0 then (some ((0 : Int32), μ))
  else if (gI μ 5 5) ≤ v1 then (some ((0 : Int32), μ))
    else some ((1 : Int32), μ)
set_option maxRecDepth 100000 in
set_option maxHeartbeats 4000000 in
theorem mX11_isThere_0 {E : En} {l : Launch} (hI : Inj E) (v1 : Int32) (μ : Mem) : MtI E l yX11_isThere cX11_isThere 2 (some .boolean) 1 [.ref (eAd E 0), .int v1] μ (fX11_isThere_0 v1 μ) := by
  refine mtI_of (own := RX11) [(0, .ref (eAd E 0)), (1, .int v1)] hI rfl (by decide) (Nat.le_of_ble_eq_true rfl) (Nat.le_of_ble_eq_true rfl) rfl (fun Z hl0 X hr => ?_)
  unfold fX11_isThere_0
  refine ao_iload_n (pc := 0) X dX11_isThere_0 rfl ?_
  refine ao_if_lt (pc := 1) (tgt := 19) X dX11_isThere_1 (by decide) (fun _ => ?_) (fun _ => ?_)
  · refine ao_iconst (pc := 19) X dX11_isThere_19 ic_0 ?_
    exact ao_zret (pc := 20) X hr rfl dX11_isThere_20
  · refine ao_iload_n (pc := 4) X dX11_isThere_4 rfl ?_
    refine ao_aload_n (pc := 5) X dX11_isThere_5 rfl ?_
    refine ao_getR (pc := 6) X dX11_isThere_6 fl_RX11_26 sf_0_2 ?_
    refine ao_getI (pc := 9) X dX11_isThere_9 fl_RX11_119 sf_5_5 ?_
    refine ao_icmp_ge (pc := 12) (tgt := 19) X dX11_isThere_12 (by decide) (fun _ => ?_) (fun _ => ?_)
    · refine ao_iconst (pc := 19) X dX11_isThere_19 ic_0 ?_
      exact ao_zret (pc := 20) X hr rfl dX11_isThere_20
    · refine ao_iconst (pc := 15) X dX11_isThere_15 ic_1 ?_
      refine ao_goto (pc := 16) (tgt := 20) X dX11_isThere_16 (by decide) ?_
      exact ao_zret (pc := 20) X hr rfl dX11_isThere_20
def fX4_leftIn_33_b24 (p3 : Int32) (q0 : Int32) (q1 : Int32) (q2 : Int32) (μ : Mem) : Option (Int32 × Mem) :=
  bnd (fX4_leftWith_33 q2 q1 q0 ((gI μ 33 4) + p3) μ) fun r1 m2 =>
  some (r1, m2)
set_option maxRecDepth 100000 in
set_option maxHeartbeats 4000000 in
theorem bX4_leftIn_33_24 {E : En} {l : Launch} {Z : Zt} (hI : Inj E) (hl0 : lZ l Z) (X : Cx E Z cX4_leftIn RX4 4 4) (hr : rtOf Z = some .int) (p3 : Int32) (q0 : Int32) (q1 : Int32) (q2 : Int32) (μ : Mem) : AO E Z 4 (QI E Z) 24 [(0, .ref (eAd E 33)), (3, .int p3)] [.int q0, .int q1, .int q2, .ref (eAd E 33)] μ (fX4_leftIn_33_b24 p3 q0 q1 q2 μ) := by
  unfold fX4_leftIn_33_b24
  refine ao_aload_n (pc := 24) X dX4_leftIn_24 rfl ?_
  refine ao_getI (pc := 25) X dX4_leftIn_25 fl_RX4_24 sf_33_4 ?_
  refine ao_iload_n (pc := 28) X dX4_leftIn_28 rfl ?_
  refine ao_iadd (pc := 29) X dX4_leftIn_29 ?_
  refine ao_callVI (pc := 30) (As := [.int q2, .int q1, .int q0, .int ((gI μ 33 4) + p3)]) (st := []) X hl0 dX4_leftIn_30 yv_X4_leftWith so_33 ml_RX4_115 (mX4_leftWith_33 hI q2 q1 q0 ((gI μ 33 4) + p3) μ) (Nat.le_of_ble_eq_true rfl) rfl rfl (Nat.le_of_ble_eq_true rfl) (fun r1 m2 => ?_)
  exact ao_iret (pc := 33) X hr dX4_leftIn_33
def fX4_leftIn_33 (v1 : Int32) (v2 : Int32) (v3 : Int32) (μ : Mem) : Option (Int32 × Mem) :=
  if v2 ≤ 0 then (gd (inb v1 6) (fX4_leftIn_33_b24 v3 (gI μ 36 (ix v1)) v2 v1 μ))
  else gd (inb v1 6) (fX4_leftIn_33_b24 v3 ((gI μ 36 (ix v1)) + v3) v2 v1 μ)
set_option maxRecDepth 100000 in
set_option maxHeartbeats 4000000 in
theorem mX4_leftIn_33 {E : En} {l : Launch} (hI : Inj E) (v1 : Int32) (v2 : Int32) (v3 : Int32) (μ : Mem) : MtI E l yX4_leftIn cX4_leftIn 4 (some .int) 4 [.ref (eAd E 33), .int v1, .int v2, .int v3] μ (fX4_leftIn_33 v1 v2 v3 μ) := by
  refine mtI_of (own := RX4) [(0, .ref (eAd E 33)), (1, .int v1), (2, .int v2), (3, .int v3)] hI rfl (by decide) (Nat.le_of_ble_eq_true rfl) (Nat.le_of_ble_eq_true rfl) rfl (fun Z hl0 X hr => ?_)
  unfold fX4_leftIn_33
  refine ao_aload_n (pc := 0) X dX4_leftIn_0 rfl ?_
  refine ao_iload_n (pc := 1) X dX4_leftIn_1 rfl ?_
  refine ao_iload_n (pc := 2) X dX4_leftIn_2 rfl ?_
  refine ao_iload_n (pc := 3) X dX4_leftIn_3 rfl ?_
  refine ao_if_le (pc := 4) (tgt := 18) X dX4_leftIn_4 (by decide) (fun _ => ?_) (fun _ => ?_)
  · refine ao_aload_n (pc := 18) X dX4_leftIn_18 rfl ?_
    refine ao_getR (pc := 19) X dX4_leftIn_19 fl_RX4_18 sf_33_2 ?_
    refine ao_iload_n (pc := 22) X dX4_leftIn_22 rfl ?_
    refine ao_iald (pc := 23) X dX4_leftIn_23 sa_36 ?_
    refine ao_sub [0, 3] rfl ?_
    exact bX4_leftIn_33_24 hI hl0 X hr v3 (gI μ 36 (ix v1)) v2 v1 μ
  · refine ao_aload_n (pc := 7) X dX4_leftIn_7 rfl ?_
    refine ao_getR (pc := 8) X dX4_leftIn_8 fl_RX4_18 sf_33_2 ?_
    refine ao_iload_n (pc := 11) X dX4_leftIn_11 rfl ?_
    refine ao_iald (pc := 12) X dX4_leftIn_12 sa_36 ?_
    refine ao_iload_n (pc := 13) X dX4_leftIn_13 rfl ?_
    refine ao_iadd (pc := 14) X dX4_leftIn_14 ?_
    refine ao_goto (pc := 15) (tgt := 24) X dX4_leftIn_15 (by decide) ?_
    refine ao_sub [0, 3] rfl ?_
    exact bX4_leftIn_33_24 hI hl0 X hr v3 ((gI μ 36 (ix v1)) + v3) v2 v1 μ
def fX11_left_0 (v1 : Int32) (v2 : Int32) (μ : Mem) : Option (Int32 × Mem) :=
  bnd (fX11_isThere_0 v1 μ) fun r1 m2 =>
  if r1 = 0 then (some ((-1 : Int32), m2))
  else if v2 < 0 then (some ((-1 : Int32), m2))
    else if v2 ≤ (60 : Int32) then (gd (inb v1 6) (bnd (fX4_leftIn_33 v1 (gI m2 35 (ix v1)) v2 m2) fun r3 m4 =>
        some (((1000 : Int32) + r3), m4)))
      else some ((-1 : Int32), m2)
set_option maxRecDepth 100000 in
set_option maxHeartbeats 4000000 in
theorem mX11_left_0 {E : En} {l : Launch} (hI : Inj E) (v1 : Int32) (v2 : Int32) (μ : Mem) : MtI E l yX11_left cX11_left 3 (some .int) 5 [.ref (eAd E 0), .int v1, .int v2] μ (fX11_left_0 v1 v2 μ) := by
  refine mtI_of (own := RX11) [(0, .ref (eAd E 0)), (1, .int v1), (2, .int v2)] hI rfl (by decide) (Nat.le_of_ble_eq_true rfl) (Nat.le_of_ble_eq_true rfl) rfl (fun Z hl0 X hr => ?_)
  unfold fX11_left_0
  refine ao_aload_n (pc := 0) X dX11_left_0 rfl ?_
  refine ao_iload_n (pc := 1) X dX11_left_1 rfl ?_
  refine ao_callVI (pc := 2) (As := [.int v1]) (st := []) X hl0 dX11_left_2 yv_X11_isThere so_0 ml_RX11_147 (mX11_isThere_0 hI v1 μ) (Nat.le_of_ble_eq_true rfl) rfl rfl (Nat.le_of_ble_eq_true rfl) (fun r1 m2 => ?_)
  refine ao_if_eq (pc := 5) (tgt := 18) X dX11_left_5 (by decide) (fun _ => ?_) (fun _ => ?_)
  · refine ao_iconst (pc := 18) X dX11_left_18 ic_m1 ?_
    exact ao_iret (pc := 19) X hr dX11_left_19
  · refine ao_iload_n (pc := 8) X dX11_left_8 rfl ?_
    refine ao_if_lt (pc := 9) (tgt := 18) X dX11_left_9 (by decide) (fun _ => ?_) (fun _ => ?_)
    · refine ao_iconst (pc := 18) X dX11_left_18 ic_m1 ?_
      exact ao_iret (pc := 19) X hr dX11_left_19
    · refine ao_iload_n (pc := 12) X dX11_left_12 rfl ?_
      refine ao_bipush (pc := 13) X dX11_left_13 bp_60 ?_
      refine ao_icmp_le (pc := 15) (tgt := 20) X dX11_left_15 (by decide) (fun _ => ?_) (fun _ => ?_)
      · refine ao_sipush (pc := 20) X dX11_left_20 sp_1000 ?_
        refine ao_aload_n (pc := 23) X dX11_left_23 rfl ?_
        refine ao_getR (pc := 24) X dX11_left_24 fl_RX11_65 sf_0_7 ?_
        refine ao_iload_n (pc := 27) X dX11_left_27 rfl ?_
        refine ao_aload_n (pc := 28) X dX11_left_28 rfl ?_
        refine ao_getR (pc := 29) X dX11_left_29 fl_RX11_65 sf_0_7 ?_
        refine ao_getR (pc := 32) X dX11_left_32 fl_RX11_175 sf_33_1 ?_
        refine ao_iload_n (pc := 35) X dX11_left_35 rfl ?_
        refine ao_iald (pc := 36) X dX11_left_36 sa_35 ?_
        refine ao_iload_n (pc := 37) X dX11_left_37 rfl ?_
        refine ao_callVI (pc := 38) (As := [.int v1, .int (gI m2 35 (ix v1)), .int v2]) (st := [.int (1000 : Int32)]) X hl0 dX11_left_38 yv_X4_leftIn so_33 ml_RX11_257 (mX4_leftIn_33 hI v1 (gI m2 35 (ix v1)) v2 m2) (Nat.le_of_ble_eq_true rfl) rfl rfl (Nat.le_of_ble_eq_true rfl) (fun r3 m4 => ?_)
        refine ao_iadd (pc := 41) X dX11_left_41 ?_
        exact ao_iret (pc := 42) X hr dX11_left_42
      · refine ao_iconst (pc := 18) X dX11_left_18 ic_m1 ?_
        exact ao_iret (pc := 19) X hr dX11_left_19
def fX12_left_122_b59 (p2 : Int32) (q0 : Int32) (q1 : Int32) (q2 : Int32) (q3 : Int32) (q5 : Int32) (μ : Mem) : Option (Int32 × Mem) :=
  gd (inb (26 : Int32) 27) (bnd (fX12_leftOf_122 q3 q2 (q1 + q0) ((gI μ 123 (ix (26 : Int32))) + p2) μ) fun r7 m8 =>
  some ((q5 + r7), m8))
set_option maxRecDepth 100000 in
set_option maxHeartbeats 4000000 in
theorem bX12_left_122_59 {E : En} {l : Launch} {Z : Zt} (hI : Inj E) (hl0 : lZ l Z) (X : Cx E Z cX12_left RX12 4 410) (hr : rtOf Z = some .int) (p2 : Int32) (q0 : Int32) (q1 : Int32) (q2 : Int32) (q3 : Int32) (q5 : Int32) (μ : Mem) : AO E Z 4 (QI E Z) 59 [(0, .ref (eAd E 122)), (2, .int p2)] [.int q0, .int q1, .int q2, .int q3, .ref (eAd E 122), .int q5] μ (fX12_left_122_b59 p2 q0 q1 q2 q3 q5 μ) := by
  unfold fX12_left_122_b59
  refine ao_iadd (pc := 59) X dX12_left_59 ?_
  refine ao_aload_n (pc := 60) X dX12_left_60 rfl ?_
  refine ao_getR (pc := 61) X dX12_left_61 fl_RX12_9 sf_122_0 ?_
  refine ao_bipush (pc := 64) X dX12_left_64 bp_26 ?_
  refine ao_iald (pc := 66) X dX12_left_66 sa_123 ?_
  refine ao_iload_n (pc := 67) X dX12_left_67 rfl ?_
  refine ao_iadd (pc := 68) X dX12_left_68 ?_
  refine ao_callVI (pc := 69) (As := [.int q3, .int q2, .int (q1 + q0), .int ((gI μ 123 (ix (26 : Int32))) + p2)]) (st := [.int q5]) X hl0 dX12_left_69 yv_X12_leftOf so_122 ml_RX12_220 (mX12_leftOf_122 hI q3 q2 (q1 + q0) ((gI μ 123 (ix (26 : Int32))) + p2) μ) (Nat.le_of_ble_eq_true rfl) rfl rfl (Nat.le_of_ble_eq_true rfl) (fun r7 m8 => ?_)
  refine ao_iadd (pc := 72) X dX12_left_72 ?_
  exact ao_iret (pc := 73) X hr dX12_left_73
def fX12_left_122 (v1 : Int32) (v2 : Int32) (μ : Mem) : Option (Int32 × Mem) :=
  lt (sI μ 122 17 (0 : Int32)) fun m1 =>
  bnd (fX12_isMan_122 v1 m1) fun r2 m3 =>
  if r2 = 0 then (some ((-1 : Int32), m3))
  else bnd (fX12_in v2 (0 : Int32) (60 : Int32) m3) fun r4 m5 =>
    if r4 = 0 then (some ((-1 : Int32), m5))
    else gd (inb ((6 : Int32) + v1) 27) (lt (gI m5 123 (ix ((6 : Int32) + v1))) fun x6 =>
      gd (inb ((12 : Int32) + v1) 27) (if x6 ≤ 0 then (fX12_left_122_b59 v2 (0 : Int32) (gI m5 123 (ix ((12 : Int32) + v1))) x6 v1 (1000 : Int32) m5)
      else fX12_left_122_b59 v2 v2 (gI m5 123 (ix ((12 : Int32) + v1))) x6 v1 (1000 : Int32) m5))
set_option maxRecDepth 100000 in
set_option maxHeartbeats 4000000 in
theorem mX12_left_122 {E : En} {l : Launch} (hI : Inj E) (v1 : Int32) (v2 : Int32) (μ : Mem) : MtI E l yX12_left cX12_left 4 (some .int) 410 [.ref (eAd E 122), .int v1, .int v2] μ (fX12_left_122 v1 v2 μ) := by
  refine mtI_of (own := RX12) [(0, .ref (eAd E 122)), (1, .int v1), (2, .int v2)] hI rfl (by decide) (Nat.le_of_ble_eq_true rfl) (Nat.le_of_ble_eq_true rfl) rfl (fun Z hl0 X hr => ?_)
  unfold fX12_left_122
  refine ao_aload_n (pc := 0) X dX12_left_0 rfl ?_
  refine ao_iconst (pc := 1) X dX12_left_1 ic_0 ?_
  refine ao_putI (pc := 2) X dX12_left_2 fp_RX12_95 sf_122_17 ?_
  refine ao_lt (fun m1 => ?_)
  refine ao_aload_n (pc := 5) X dX12_left_5 rfl ?_
  refine ao_iload_n (pc := 6) X dX12_left_6 rfl ?_
  refine ao_callVI (pc := 7) (As := [.int v1]) (st := []) X hl0 dX12_left_7 yv_X12_isMan so_122 ml_RX12_224 (mX12_isMan_122 hI v1 m1) (Nat.le_of_ble_eq_true rfl) rfl rfl (Nat.le_of_ble_eq_true rfl) (fun r2 m3 => ?_)
  refine ao_if_eq (pc := 10) (tgt := 23) X dX12_left_10 (by decide) (fun _ => ?_) (fun _ => ?_)
  · refine ao_iconst (pc := 23) X dX12_left_23 ic_m1 ?_
    exact ao_iret (pc := 24) X hr dX12_left_24
  · refine ao_iload_n (pc := 13) X dX12_left_13 rfl ?_
    refine ao_iconst (pc := 14) X dX12_left_14 ic_0 ?_
    refine ao_bipush (pc := 15) X dX12_left_15 bp_60 ?_
    refine ao_callSI (pc := 17) (As := [.int v2, .int (0 : Int32), .int (60 : Int32)]) (st := []) X hl0 dX12_left_17 yv_X12_in ml_RX12_104 (mX12_in hI v2 (0 : Int32) (60 : Int32) m3) (Nat.le_of_ble_eq_true rfl) rfl rfl (Nat.le_of_ble_eq_true rfl) (fun r4 m5 => ?_)
    refine ao_if_ne (pc := 20) (tgt := 25) X dX12_left_20 (by decide) (fun _ => ?_) (fun _ => ?_)
    · refine ao_aload_n (pc := 25) X dX12_left_25 rfl ?_
      refine ao_getR (pc := 26) X dX12_left_26 fl_RX12_9 sf_122_0 ?_
      refine ao_bipush (pc := 29) X dX12_left_29 bp_6 ?_
      refine ao_iload_n (pc := 31) X dX12_left_31 rfl ?_
      refine ao_iadd (pc := 32) X dX12_left_32 ?_
      refine ao_iald (pc := 33) X dX12_left_33 sa_123 ?_
      refine ao_ltI (fun x6 => ?_)
      refine ao_istore_n (pc := 34) (lv' := [(3, .int x6), (0, .ref (eAd E 122)), (1, .int v1), (2, .int v2)]) X dX12_left_34 rfl (by decide) rfl ?_
      refine ao_sipush (pc := 35) X dX12_left_35 sp_1000 ?_
      refine ao_aload_n (pc := 38) X dX12_left_38 rfl ?_
      refine ao_iload_n (pc := 39) X dX12_left_39 rfl ?_
      refine ao_iload_n (pc := 40) X dX12_left_40 rfl ?_
      refine ao_aload_n (pc := 41) X dX12_left_41 rfl ?_
      refine ao_getR (pc := 42) X dX12_left_42 fl_RX12_9 sf_122_0 ?_
      refine ao_bipush (pc := 45) X dX12_left_45 bp_12 ?_
      refine ao_iload_n (pc := 47) X dX12_left_47 rfl ?_
      refine ao_iadd (pc := 48) X dX12_left_48 ?_
      refine ao_iald (pc := 49) X dX12_left_49 sa_123 ?_
      refine ao_iload_n (pc := 50) X dX12_left_50 rfl ?_
      refine ao_if_le (pc := 51) (tgt := 58) X dX12_left_51 (by decide) (fun _ => ?_) (fun _ => ?_)
      · refine ao_iconst (pc := 58) X dX12_left_58 ic_0 ?_
        refine ao_sub [1, 3] rfl ?_
        exact bX12_left_122_59 hI hl0 X hr v2 (0 : Int32) (gI m5 123 (ix ((12 : Int32) + v1))) x6 v1 (1000 : Int32) m5
      · refine ao_iload_n (pc := 54) X dX12_left_54 rfl ?_
        refine ao_goto (pc := 55) (tgt := 59) X dX12_left_55 (by decide) ?_
        refine ao_sub [1, 3] rfl ?_
        exact bX12_left_122_59 hI hl0 X hr v2 v2 (gI m5 123 (ix ((12 : Int32) + v1))) x6 v1 (1000 : Int32) m5
    · refine ao_iconst (pc := 23) X dX12_left_23 ic_m1 ?_
      exact ao_iret (pc := 24) X hr dX12_left_24
def fX4_leftDying_33 (v1 : Int32) (v2 : Int32) (v3 : Int32) (μ : Mem) : Option (Int32 × Mem) :=
  gd (inb v1 6) (bnd (fX4_leftWith_33 v1 v2 ((gI μ 36 (ix v1)) + v3) (((gI μ 33 4) + v3) - (1 : Int32)) μ) fun r1 m2 =>
  some (r1, m2))
set_option maxRecDepth 100000 in
set_option maxHeartbeats 4000000 in
theorem mX4_leftDying_33 {E : En} {l : Launch} (hI : Inj E) (v1 : Int32) (v2 : Int32) (v3 : Int32) (μ : Mem) : MtI E l yX4_leftDying cX4_leftDying 4 (some .int) 4 [.ref (eAd E 33), .int v1, .int v2, .int v3] μ (fX4_leftDying_33 v1 v2 v3 μ) := by
  refine mtI_of (own := RX4) [(0, .ref (eAd E 33)), (1, .int v1), (2, .int v2), (3, .int v3)] hI rfl (by decide) (Nat.le_of_ble_eq_true rfl) (Nat.le_of_ble_eq_true rfl) rfl (fun Z hl0 X hr => ?_)
  unfold fX4_leftDying_33
  refine ao_aload_n (pc := 0) X dX4_leftDying_0 rfl ?_
  refine ao_iload_n (pc := 1) X dX4_leftDying_1 rfl ?_
  refine ao_iload_n (pc := 2) X dX4_leftDying_2 rfl ?_
  refine ao_aload_n (pc := 3) X dX4_leftDying_3 rfl ?_
  refine ao_getR (pc := 4) X dX4_leftDying_4 fl_RX4_18 sf_33_2 ?_
  refine ao_iload_n (pc := 7) X dX4_leftDying_7 rfl ?_
  refine ao_iald (pc := 8) X dX4_leftDying_8 sa_36 ?_
  refine ao_iload_n (pc := 9) X dX4_leftDying_9 rfl ?_
  refine ao_iadd (pc := 10) X dX4_leftDying_10 ?_
  refine ao_aload_n (pc := 11) X dX4_leftDying_11 rfl ?_
  refine ao_getI (pc := 12) X dX4_leftDying_12 fl_RX4_24 sf_33_4 ?_
  refine ao_iload_n (pc := 15) X dX4_leftDying_15 rfl ?_
  refine ao_iadd (pc := 16) X dX4_leftDying_16 ?_
  refine ao_iconst (pc := 17) X dX4_leftDying_17 ic_1 ?_
  refine ao_isub (pc := 18) X dX4_leftDying_18 ?_
  refine ao_callVI (pc := 19) (As := [.int v1, .int v2, .int ((gI μ 36 (ix v1)) + v3), .int (((gI μ 33 4) + v3) - (1 : Int32))]) (st := []) X hl0 dX4_leftDying_19 yv_X4_leftWith so_33 ml_RX4_115 (mX4_leftWith_33 hI v1 v2 ((gI μ 36 (ix v1)) + v3) (((gI μ 33 4) + v3) - (1 : Int32)) μ) (Nat.le_of_ble_eq_true rfl) rfl rfl (Nat.le_of_ble_eq_true rfl) (fun r1 m2 => ?_)
  exact ao_iret (pc := 22) X hr dX4_leftDying_22
def fX4_diesIn_33_b10 : Nat → Int32 → Int32 → Int32 → Int32 → Int32 → Mem → Option (Int32 × Mem)
  | 0, _, _, _, _, _, _ => none
  | n + 1, p1, p2, p3, p4, p5, μ =>
  if p3 < p5 then (some ((-2 : Int32), μ))
  else bnd (fX4_leftDying_33 p1 p2 p5 μ) fun r1 m2 =>
    if 0 < r1 then (if ((gI m2 33 4) + p5) = p4 then (some ((-2 : Int32), m2))
      else fX4_diesIn_33_b10 n p1 p2 p3 p4 (p5 + (1 : Int32)) m2)
    else some (p5, m2)
set_option maxRecDepth 100000 in
set_option maxHeartbeats 4000000 in
theorem bX4_diesIn_33_10 {E : En} {l : Launch} {Z : Zt} (hI : Inj E) (hl0 : lZ l Z) (X : Cx E Z cX4_diesIn RX4 6 5) (hr : rtOf Z = some .int) : ∀ (n : Nat) (p1 : Int32) (p2 : Int32) (p3 : Int32) (p4 : Int32) (p5 : Int32) (μ : Mem), AO E Z 6 (QI E Z) 10 [(0, .ref (eAd E 33)), (1, .int p1), (2, .int p2), (3, .int p3), (4, .int p4), (5, .int p5)] [] μ (fX4_diesIn_33_b10 n p1 p2 p3 p4 p5 μ) := by
  intro n
  induction n with
  | zero =>
    intros
    exact ao_none
  | succ n ih =>
    intro p1 p2 p3 p4 p5 μ
    rw [fX4_diesIn_33_b10]
    refine ao_iload (pc := 10) X dX4_diesIn_10 rfl ?_
    refine ao_iload_n (pc := 12) X dX4_diesIn_12 rfl ?_
    refine ao_icmp_gt (pc := 13) (tgt := 51) X dX4_diesIn_13 (by decide) (fun _ => ?_) (fun _ => ?_)
    · refine ao_bipush (pc := 51) X dX4_diesIn_51 bp_m2 ?_
      exact ao_iret (pc := 53) X hr dX4_diesIn_53
    · refine ao_aload_n (pc := 16) X dX4_diesIn_16 rfl ?_
      refine ao_iload_n (pc := 17) X dX4_diesIn_17 rfl ?_
      refine ao_iload_n (pc := 18) X dX4_diesIn_18 rfl ?_
      refine ao_iload (pc := 19) X dX4_diesIn_19 rfl ?_
      refine ao_callVI (pc := 21) (As := [.int p1, .int p2, .int p5]) (st := []) X hl0 dX4_diesIn_21 yv_X4_leftDying so_33 ml_RX4_136 (mX4_leftDying_33 hI p1 p2 p5 μ) (Nat.le_of_ble_eq_true rfl) rfl rfl (Nat.le_of_ble_eq_true rfl) (fun r1 m2 => ?_)
      refine ao_if_gt (pc := 24) (tgt := 30) X dX4_diesIn_24 (by decide) (fun _ => ?_) (fun _ => ?_)
      · refine ao_aload_n (pc := 30) X dX4_diesIn_30 rfl ?_
        refine ao_getI (pc := 31) X dX4_diesIn_31 fl_RX4_24 sf_33_4 ?_
        refine ao_iload (pc := 34) X dX4_diesIn_34 rfl ?_
        refine ao_iadd (pc := 36) X dX4_diesIn_36 ?_
        refine ao_iload (pc := 37) X dX4_diesIn_37 rfl ?_
        refine ao_icmp_ne (pc := 39) (tgt := 45) X dX4_diesIn_39 (by decide) (fun _ => ?_) (fun _ => ?_)
        · refine ao_iinc (pc := 45) (k := 5) (v := p5 + (1 : Int32)) (lv' := [(5, .int (p5 + (1 : Int32))), (0, .ref (eAd E 33)), (1, .int p1), (2, .int p2), (3, .int p3), (4, .int p4)]) X dX4_diesIn_45 rfl (ii_ic ic_1) (by decide) rfl ?_
          refine ao_goto (pc := 48) (tgt := 10) X dX4_diesIn_48 (by decide) ?_
          refine ao_sub [1, 2, 3, 4, 5, 0] rfl ?_
          exact ih p1 p2 p3 p4 (p5 + (1 : Int32)) m2
        · refine ao_bipush (pc := 42) X dX4_diesIn_42 bp_m2 ?_
          exact ao_iret (pc := 44) X hr dX4_diesIn_44
      · refine ao_iload (pc := 27) X dX4_diesIn_27 rfl ?_
        exact ao_iret (pc := 29) X hr dX4_diesIn_29
def fX4_diesIn_33 (v1 : Int32) (v2 : Int32) (v3 : Int32) (v4 : Int32) (μ : Mem) : Option (Int32 × Mem) :=
  if 0 < v2 then (fX4_diesIn_33_b10 FU v1 v2 v3 v4 (1 : Int32) μ)
  else some ((-2 : Int32), μ)
set_option maxRecDepth 100000 in
set_option maxHeartbeats 4000000 in
theorem mX4_diesIn_33 {E : En} {l : Launch} (hI : Inj E) (v1 : Int32) (v2 : Int32) (v3 : Int32) (v4 : Int32) (μ : Mem) : MtI E l yX4_diesIn cX4_diesIn 6 (some .int) 5 [.ref (eAd E 33), .int v1, .int v2, .int v3, .int v4] μ (fX4_diesIn_33 v1 v2 v3 v4 μ) := by
  refine mtI_of (own := RX4) [(0, .ref (eAd E 33)), (1, .int v1), (2, .int v2), (3, .int v3), (4, .int v4)] hI rfl (by decide) (Nat.le_of_ble_eq_true rfl) (Nat.le_of_ble_eq_true rfl) rfl (fun Z hl0 X hr => ?_)
  unfold fX4_diesIn_33
  refine ao_iload_n (pc := 0) X dX4_diesIn_0 rfl ?_
  refine ao_if_gt (pc := 1) (tgt := 7) X dX4_diesIn_1 (by decide) (fun _ => ?_) (fun _ => ?_)
  · refine ao_iconst (pc := 7) X dX4_diesIn_7 ic_1 ?_
    refine ao_istore (pc := 8) (lv' := [(5, .int (1 : Int32)), (0, .ref (eAd E 33)), (1, .int v1), (2, .int v2), (3, .int v3), (4, .int v4)]) X dX4_diesIn_8 (by decide) rfl ?_
    refine ao_sub [1, 2, 3, 4, 5, 0] rfl ?_
    exact bX4_diesIn_33_10 hI hl0 X hr FU v1 v2 v3 v4 (1 : Int32) μ
  · refine ao_bipush (pc := 4) X dX4_diesIn_4 bp_m2 ?_
    exact ao_iret (pc := 6) X hr dX4_diesIn_6
def fX11_dies_0 (v1 : Int32) (μ : Mem) : Option (Int32 × Mem) :=
  bnd (fX11_isThere_0 v1 μ) fun r1 m2 =>
  if r1 = 0 then (some ((-1 : Int32), m2))
  else bnd (fX4_isSilent_33 v1 m2) fun r3 m4 =>
    if r3 = 0 then (some ((-3 : Int32), m4))
    else gd (inb v1 6) (lt (gI m4 35 (ix v1)) fun x5 =>
      bnd (fX4_diesIn_33 v1 x5 (60 : Int32) (gI m4 0 14) m4) fun r6 m7 =>
      if r6 ≤ 0 then (some (r6, m7))
      else bnd (fX4_leftDying_33 v1 x5 r6 m7) fun r8 m9 =>
        bnd (fX7_tell_3 (Int32.toInt64 r8) m9) fun r10 m11 =>
        some (r6, m11))
set_option maxRecDepth 100000 in
set_option maxHeartbeats 4000000 in
theorem mX11_dies_0 {E : En} {l : Launch} (hI : Inj E) (v1 : Int32) (μ : Mem) : MtI E l yX11_dies cX11_dies 4 (some .int) 6 [.ref (eAd E 0), .int v1] μ (fX11_dies_0 v1 μ) := by
  refine mtI_of (own := RX11) [(0, .ref (eAd E 0)), (1, .int v1)] hI rfl (by decide) (Nat.le_of_ble_eq_true rfl) (Nat.le_of_ble_eq_true rfl) rfl (fun Z hl0 X hr => ?_)
  unfold fX11_dies_0
  refine ao_aload_n (pc := 0) X dX11_dies_0 rfl ?_
  refine ao_iload_n (pc := 1) X dX11_dies_1 rfl ?_
  refine ao_callVI (pc := 2) (As := [.int v1]) (st := []) X hl0 dX11_dies_2 yv_X11_isThere so_0 ml_RX11_147 (mX11_isThere_0 hI v1 μ) (Nat.le_of_ble_eq_true rfl) rfl rfl (Nat.le_of_ble_eq_true rfl) (fun r1 m2 => ?_)
  refine ao_if_ne (pc := 5) (tgt := 10) X dX11_dies_5 (by decide) (fun _ => ?_) (fun _ => ?_)
  · refine ao_aload_n (pc := 10) X dX11_dies_10 rfl ?_
    refine ao_getR (pc := 11) X dX11_dies_11 fl_RX11_65 sf_0_7 ?_
    refine ao_iload_n (pc := 14) X dX11_dies_14 rfl ?_
    refine ao_callVI (pc := 15) (As := [.int v1]) (st := []) X hl0 dX11_dies_15 yv_X4_isSilent so_33 ml_RX11_261 (mX4_isSilent_33 hI v1 m2) (Nat.le_of_ble_eq_true rfl) rfl rfl (Nat.le_of_ble_eq_true rfl) (fun r3 m4 => ?_)
    refine ao_if_ne (pc := 18) (tgt := 24) X dX11_dies_18 (by decide) (fun _ => ?_) (fun _ => ?_)
    · refine ao_aload_n (pc := 24) X dX11_dies_24 rfl ?_
      refine ao_getR (pc := 25) X dX11_dies_25 fl_RX11_65 sf_0_7 ?_
      refine ao_getR (pc := 28) X dX11_dies_28 fl_RX11_175 sf_33_1 ?_
      refine ao_iload_n (pc := 31) X dX11_dies_31 rfl ?_
      refine ao_iald (pc := 32) X dX11_dies_32 sa_35 ?_
      refine ao_ltI (fun x5 => ?_)
      refine ao_istore_n (pc := 33) (lv' := [(2, .int x5), (0, .ref (eAd E 0)), (1, .int v1)]) X dX11_dies_33 rfl (by decide) rfl ?_
      refine ao_aload_n (pc := 34) X dX11_dies_34 rfl ?_
      refine ao_getR (pc := 35) X dX11_dies_35 fl_RX11_65 sf_0_7 ?_
      refine ao_iload_n (pc := 38) X dX11_dies_38 rfl ?_
      refine ao_iload_n (pc := 39) X dX11_dies_39 rfl ?_
      refine ao_bipush (pc := 40) X dX11_dies_40 bp_60 ?_
      refine ao_aload_n (pc := 42) X dX11_dies_42 rfl ?_
      refine ao_getI (pc := 43) X dX11_dies_43 fl_RX11_100 sf_0_14 ?_
      refine ao_callVI (pc := 46) (As := [.int v1, .int x5, .int (60 : Int32), .int (gI m4 0 14)]) (st := []) X hl0 dX11_dies_46 yv_X4_diesIn so_33 ml_RX11_264 (mX4_diesIn_33 hI v1 x5 (60 : Int32) (gI m4 0 14) m4) (Nat.le_of_ble_eq_true rfl) rfl rfl (Nat.le_of_ble_eq_true rfl) (fun r6 m7 => ?_)
      refine ao_istore_n (pc := 49) (lv' := [(3, .int r6), (2, .int x5), (0, .ref (eAd E 0)), (1, .int v1)]) X dX11_dies_49 rfl (by decide) rfl ?_
      refine ao_iload_n (pc := 50) X dX11_dies_50 rfl ?_
      refine ao_if_le (pc := 51) (tgt := 72) X dX11_dies_51 (by decide) (fun _ => ?_) (fun _ => ?_)
      · refine ao_iload_n (pc := 72) X dX11_dies_72 rfl ?_
        exact ao_iret (pc := 73) X hr dX11_dies_73
      · refine ao_aload_n (pc := 54) X dX11_dies_54 rfl ?_
        refine ao_getR (pc := 55) X dX11_dies_55 fl_RX11_19 sf_0_1 ?_
        refine ao_aload_n (pc := 58) X dX11_dies_58 rfl ?_
        refine ao_getR (pc := 59) X dX11_dies_59 fl_RX11_65 sf_0_7 ?_
        refine ao_iload_n (pc := 62) X dX11_dies_62 rfl ?_
        refine ao_iload_n (pc := 63) X dX11_dies_63 rfl ?_
        refine ao_iload_n (pc := 64) X dX11_dies_64 rfl ?_
        refine ao_callVI (pc := 65) (As := [.int v1, .int x5, .int r6]) (st := [.ref (eAd E 3)]) X hl0 dX11_dies_65 yv_X4_leftDying so_33 ml_RX11_268 (mX4_leftDying_33 hI v1 x5 r6 m7) (Nat.le_of_ble_eq_true rfl) rfl rfl (Nat.le_of_ble_eq_true rfl) (fun r8 m9 => ?_)
        refine ao_i2l (pc := 68) X dX11_dies_68 ?_
        refine ao_callVV (pc := 69) (As := [.long (Int32.toInt64 r8)]) (st := []) X hl0 dX11_dies_69 yv_X7_tell so_3 ml_RX11_228 (mX7_tell_3 hI (Int32.toInt64 r8) m9) (Nat.le_of_ble_eq_true rfl) rfl rfl (Nat.le_of_ble_eq_true rfl) (fun r10 m11 => ?_)
        refine ao_iload_n (pc := 72) X dX11_dies_72 rfl ?_
        exact ao_iret (pc := 73) X hr dX11_dies_73
    · refine ao_bipush (pc := 21) X dX11_dies_21 bp_m3 ?_
      exact ao_iret (pc := 23) X hr dX11_dies_23
  · refine ao_iconst (pc := 8) X dX11_dies_8 ic_m1 ?_
    exact ao_iret (pc := 9) X hr dX11_dies_9
def fX12_dieNight_122_b3 : Nat → Int32 → Int32 → Int32 → Int32 → Int32 → Mem → Option (Int32 × Mem)
  | 0, _, _, _, _, _, _ => none
  | n + 1, p1, p2, p3, p4, p5, μ =>
  if p3 < p5 then (some ((0 : Int32), μ))
  else if p2 ≤ 0 then (some ((0 : Int32), μ))
    else gd (inb ((12 : Int32) + p1) 27) (gd (inb (26 : Int32) 27) (bnd (fX12_leftOf_122 p1 p2 ((gI μ 123 (ix ((12 : Int32) + p1))) + p5) (((gI μ 123 (ix (26 : Int32))) + p5) - (1 : Int32)) μ) fun r1 m2 =>
      lt (sI m2 122 33 r1) fun m3 =>
      if 0 < (gI m3 122 33) then (if p4 = 0 then (fX12_dieNight_122_b3 n p1 p2 p3 p4 (p5 + (1 : Int32)) m3)
        else gd (inb (26 : Int32) 27) (if ((gI m3 123 (ix (26 : Int32))) + p5) = (gI m3 122 12) then (some ((0 : Int32), m3))
          else fX12_dieNight_122_b3 n p1 p2 p3 p4 (p5 + (1 : Int32)) m3))
      else some (p5, m3)))
set_option maxRecDepth 100000 in
set_option maxHeartbeats 4000000 in
theorem bX12_dieNight_122_3 {E : En} {l : Launch} {Z : Zt} (hI : Inj E) (hl0 : lZ l Z) (X : Cx E Z cX12_dieNight RX12 6 410) (hr : rtOf Z = some .int) : ∀ (n : Nat) (p1 : Int32) (p2 : Int32) (p3 : Int32) (p4 : Int32) (p5 : Int32) (μ : Mem), AO E Z 6 (QI E Z) 3 [(0, .ref (eAd E 122)), (1, .int p1), (2, .int p2), (3, .int p3), (4, .int p4), (5, .int p5)] [] μ (fX12_dieNight_122_b3 n p1 p2 p3 p4 p5 μ) := by
  intro n
  induction n with
  | zero =>
    intros
    exact ao_none
  | succ n ih =>
    intro p1 p2 p3 p4 p5 μ
    rw [fX12_dieNight_122_b3]
    refine ao_iload (pc := 3) X dX12_dieNight_3 rfl ?_
    refine ao_iload_n (pc := 5) X dX12_dieNight_5 rfl ?_
    refine ao_icmp_gt (pc := 6) (tgt := 87) X dX12_dieNight_6 (by decide) (fun _ => ?_) (fun _ => ?_)
    · refine ao_iconst (pc := 87) X dX12_dieNight_87 ic_0 ?_
      exact ao_iret (pc := 88) X hr dX12_dieNight_88
    · refine ao_iload_n (pc := 9) X dX12_dieNight_9 rfl ?_
      refine ao_if_le (pc := 10) (tgt := 87) X dX12_dieNight_10 (by decide) (fun _ => ?_) (fun _ => ?_)
      · refine ao_iconst (pc := 87) X dX12_dieNight_87 ic_0 ?_
        exact ao_iret (pc := 88) X hr dX12_dieNight_88
      · refine ao_aload_n (pc := 13) X dX12_dieNight_13 rfl ?_
        refine ao_aload_n (pc := 14) X dX12_dieNight_14 rfl ?_
        refine ao_iload_n (pc := 15) X dX12_dieNight_15 rfl ?_
        refine ao_iload_n (pc := 16) X dX12_dieNight_16 rfl ?_
        refine ao_aload_n (pc := 17) X dX12_dieNight_17 rfl ?_
        refine ao_getR (pc := 18) X dX12_dieNight_18 fl_RX12_9 sf_122_0 ?_
        refine ao_bipush (pc := 21) X dX12_dieNight_21 bp_12 ?_
        refine ao_iload_n (pc := 23) X dX12_dieNight_23 rfl ?_
        refine ao_iadd (pc := 24) X dX12_dieNight_24 ?_
        refine ao_iald (pc := 25) X dX12_dieNight_25 sa_123 ?_
        refine ao_iload (pc := 26) X dX12_dieNight_26 rfl ?_
        refine ao_iadd (pc := 28) X dX12_dieNight_28 ?_
        refine ao_aload_n (pc := 29) X dX12_dieNight_29 rfl ?_
        refine ao_getR (pc := 30) X dX12_dieNight_30 fl_RX12_9 sf_122_0 ?_
        refine ao_bipush (pc := 33) X dX12_dieNight_33 bp_26 ?_
        refine ao_iald (pc := 35) X dX12_dieNight_35 sa_123 ?_
        refine ao_iload (pc := 36) X dX12_dieNight_36 rfl ?_
        refine ao_iadd (pc := 38) X dX12_dieNight_38 ?_
        refine ao_iconst (pc := 39) X dX12_dieNight_39 ic_1 ?_
        refine ao_isub (pc := 40) X dX12_dieNight_40 ?_
        refine ao_callVI (pc := 41) (As := [.int p1, .int p2, .int ((gI μ 123 (ix ((12 : Int32) + p1))) + p5), .int (((gI μ 123 (ix (26 : Int32))) + p5) - (1 : Int32))]) (st := [.ref (eAd E 122)]) X hl0 dX12_dieNight_41 yv_X12_leftOf so_122 ml_RX12_220 (mX12_leftOf_122 hI p1 p2 ((gI μ 123 (ix ((12 : Int32) + p1))) + p5) (((gI μ 123 (ix (26 : Int32))) + p5) - (1 : Int32)) μ) (Nat.le_of_ble_eq_true rfl) rfl rfl (Nat.le_of_ble_eq_true rfl) (fun r1 m2 => ?_)
        refine ao_putI (pc := 44) X dX12_dieNight_44 fp_RX12_283 sf_122_33 ?_
        refine ao_lt (fun m3 => ?_)
        refine ao_aload_n (pc := 47) X dX12_dieNight_47 rfl ?_
        refine ao_getI (pc := 48) X dX12_dieNight_48 fl_RX12_283 sf_122_33 ?_
        refine ao_if_gt (pc := 51) (tgt := 57) X dX12_dieNight_51 (by decide) (fun _ => ?_) (fun _ => ?_)
        · refine ao_iload (pc := 57) X dX12_dieNight_57 rfl ?_
          refine ao_if_eq (pc := 59) (tgt := 81) X dX12_dieNight_59 (by decide) (fun _ => ?_) (fun _ => ?_)
          · refine ao_iinc (pc := 81) (k := 5) (v := p5 + (1 : Int32)) (lv' := [(5, .int (p5 + (1 : Int32))), (0, .ref (eAd E 122)), (1, .int p1), (2, .int p2), (3, .int p3), (4, .int p4)]) X dX12_dieNight_81 rfl (ii_ic ic_1) (by decide) rfl ?_
            refine ao_goto (pc := 84) (tgt := 3) X dX12_dieNight_84 (by decide) ?_
            refine ao_sub [1, 2, 3, 4, 5, 0] rfl ?_
            exact ih p1 p2 p3 p4 (p5 + (1 : Int32)) m3
          · refine ao_aload_n (pc := 62) X dX12_dieNight_62 rfl ?_
            refine ao_getR (pc := 63) X dX12_dieNight_63 fl_RX12_9 sf_122_0 ?_
            refine ao_bipush (pc := 66) X dX12_dieNight_66 bp_26 ?_
            refine ao_iald (pc := 68) X dX12_dieNight_68 sa_123 ?_
            refine ao_iload (pc := 69) X dX12_dieNight_69 rfl ?_
            refine ao_iadd (pc := 71) X dX12_dieNight_71 ?_
            refine ao_aload_n (pc := 72) X dX12_dieNight_72 rfl ?_
            refine ao_getI (pc := 73) X dX12_dieNight_73 fl_RX12_41 sf_122_12 ?_
            refine ao_icmp_ne (pc := 76) (tgt := 81) X dX12_dieNight_76 (by decide) (fun _ => ?_) (fun _ => ?_)
            · refine ao_iinc (pc := 81) (k := 5) (v := p5 + (1 : Int32)) (lv' := [(5, .int (p5 + (1 : Int32))), (0, .ref (eAd E 122)), (1, .int p1), (2, .int p2), (3, .int p3), (4, .int p4)]) X dX12_dieNight_81 rfl (ii_ic ic_1) (by decide) rfl ?_
              refine ao_goto (pc := 84) (tgt := 3) X dX12_dieNight_84 (by decide) ?_
              refine ao_sub [1, 2, 3, 4, 5, 0] rfl ?_
              exact ih p1 p2 p3 p4 (p5 + (1 : Int32)) m3
            · refine ao_iconst (pc := 79) X dX12_dieNight_79 ic_0 ?_
              exact ao_iret (pc := 80) X hr dX12_dieNight_80
        · refine ao_iload (pc := 54) X dX12_dieNight_54 rfl ?_
          exact ao_iret (pc := 56) X hr dX12_dieNight_56
def fX12_dieNight_122 (v1 : Int32) (v2 : Int32) (v3 : Int32) (v4 : Int32) (μ : Mem) : Option (Int32 × Mem) :=
  fX12_dieNight_122_b3 FU v1 v2 v3 v4 (1 : Int32) μ
set_option maxRecDepth 100000 in
set_option maxHeartbeats 4000000 in
theorem mX12_dieNight_122 {E : En} {l : Launch} (hI : Inj E) (v1 : Int32) (v2 : Int32) (v3 : Int32) (v4 : Int32) (μ : Mem) : MtI E l yX12_dieNight cX12_dieNight 6 (some .int) 410 [.ref (eAd E 122), .int v1, .int v2, .int v3, .int v4] μ (fX12_dieNight_122 v1 v2 v3 v4 μ) := by
  refine mtI_of (own := RX12) [(0, .ref (eAd E 122)), (1, .int v1), (2, .int v2), (3, .int v3), (4, .int v4)] hI rfl (by decide) (Nat.le_of_ble_eq_true rfl) (Nat.le_of_ble_eq_true rfl) rfl (fun Z hl0 X hr => ?_)
  unfold fX12_dieNight_122
  refine ao_iconst (pc := 0) X dX12_dieNight_0 ic_1 ?_
  refine ao_istore (pc := 1) (lv' := [(5, .int (1 : Int32)), (0, .ref (eAd E 122)), (1, .int v1), (2, .int v2), (3, .int v3), (4, .int v4)]) X dX12_dieNight_1 (by decide) rfl ?_
  refine ao_sub [1, 2, 3, 4, 5, 0] rfl ?_
  exact bX12_dieNight_122_3 hI hl0 X hr FU v1 v2 v3 v4 (1 : Int32) μ
def fX12_dies_122 (v1 : Int32) (μ : Mem) : Option (Int32 × Mem) :=
  lt (sI μ 122 17 (0 : Int32)) fun m1 =>
  bnd (fX12_isMan_122 v1 m1) fun r2 m3 =>
  if r2 = 0 then (some ((-1 : Int32), m3))
  else gd (inb v1 27) (if (gI m3 123 (ix v1)) = 0 then (gd (inb ((6 : Int32) + v1) 27) (bnd (fX12_dieNight_122 v1 (gI m3 123 (ix ((6 : Int32) + v1))) (60 : Int32) (1 : Int32) m3) fun r4 m5 =>
      if r4 = 0 then (some ((-2 : Int32), m5))
      else lt (sI m5 122 16 (0 : Int32)) fun m6 =>
        bnd (fX12_tell_122 (Int32.toInt64 (gI m6 122 33)) m6) fun r7 m8 =>
        some (r4, m8)))
    else some ((-3 : Int32), m3))
set_option maxRecDepth 100000 in
set_option maxHeartbeats 4000000 in
theorem mX12_dies_122 {E : En} {l : Launch} (hI : Inj E) (v1 : Int32) (μ : Mem) : MtI E l yX12_dies cX12_dies 3 (some .int) 411 [.ref (eAd E 122), .int v1] μ (fX12_dies_122 v1 μ) := by
  refine mtI_of (own := RX12) [(0, .ref (eAd E 122)), (1, .int v1)] hI rfl (by decide) (Nat.le_of_ble_eq_true rfl) (Nat.le_of_ble_eq_true rfl) rfl (fun Z hl0 X hr => ?_)
  unfold fX12_dies_122
  refine ao_aload_n (pc := 0) X dX12_dies_0 rfl ?_
  refine ao_iconst (pc := 1) X dX12_dies_1 ic_0 ?_
  refine ao_putI (pc := 2) X dX12_dies_2 fp_RX12_95 sf_122_17 ?_
  refine ao_lt (fun m1 => ?_)
  refine ao_aload_n (pc := 5) X dX12_dies_5 rfl ?_
  refine ao_iload_n (pc := 6) X dX12_dies_6 rfl ?_
  refine ao_callVI (pc := 7) (As := [.int v1]) (st := []) X hl0 dX12_dies_7 yv_X12_isMan so_122 ml_RX12_224 (mX12_isMan_122 hI v1 m1) (Nat.le_of_ble_eq_true rfl) rfl rfl (Nat.le_of_ble_eq_true rfl) (fun r2 m3 => ?_)
  refine ao_if_ne (pc := 10) (tgt := 15) X dX12_dies_10 (by decide) (fun _ => ?_) (fun _ => ?_)
  · refine ao_aload_n (pc := 15) X dX12_dies_15 rfl ?_
    refine ao_getR (pc := 16) X dX12_dies_16 fl_RX12_9 sf_122_0 ?_
    refine ao_iload_n (pc := 19) X dX12_dies_19 rfl ?_
    refine ao_iald (pc := 20) X dX12_dies_20 sa_123 ?_
    refine ao_if_eq (pc := 21) (tgt := 27) X dX12_dies_21 (by decide) (fun _ => ?_) (fun _ => ?_)
    · refine ao_aload_n (pc := 27) X dX12_dies_27 rfl ?_
      refine ao_iload_n (pc := 28) X dX12_dies_28 rfl ?_
      refine ao_aload_n (pc := 29) X dX12_dies_29 rfl ?_
      refine ao_getR (pc := 30) X dX12_dies_30 fl_RX12_9 sf_122_0 ?_
      refine ao_bipush (pc := 33) X dX12_dies_33 bp_6 ?_
      refine ao_iload_n (pc := 35) X dX12_dies_35 rfl ?_
      refine ao_iadd (pc := 36) X dX12_dies_36 ?_
      refine ao_iald (pc := 37) X dX12_dies_37 sa_123 ?_
      refine ao_bipush (pc := 38) X dX12_dies_38 bp_60 ?_
      refine ao_iconst (pc := 40) X dX12_dies_40 ic_1 ?_
      refine ao_callVI (pc := 41) (As := [.int v1, .int (gI m3 123 (ix ((6 : Int32) + v1))), .int (60 : Int32), .int (1 : Int32)]) (st := []) X hl0 dX12_dies_41 yv_X12_dieNight so_122 ml_RX12_286 (mX12_dieNight_122 hI v1 (gI m3 123 (ix ((6 : Int32) + v1))) (60 : Int32) (1 : Int32) m3) (Nat.le_of_ble_eq_true rfl) rfl rfl (Nat.le_of_ble_eq_true rfl) (fun r4 m5 => ?_)
      refine ao_istore_n (pc := 44) (lv' := [(2, .int r4), (0, .ref (eAd E 122)), (1, .int v1)]) X dX12_dies_44 rfl (by decide) rfl ?_
      refine ao_iload_n (pc := 45) X dX12_dies_45 rfl ?_
      refine ao_if_ne (pc := 46) (tgt := 52) X dX12_dies_46 (by decide) (fun _ => ?_) (fun _ => ?_)
      · refine ao_aload_n (pc := 52) X dX12_dies_52 rfl ?_
        refine ao_iconst (pc := 53) X dX12_dies_53 ic_0 ?_
        refine ao_putI (pc := 54) X dX12_dies_54 fp_RX12_98 sf_122_16 ?_
        refine ao_lt (fun m6 => ?_)
        refine ao_aload_n (pc := 57) X dX12_dies_57 rfl ?_
        refine ao_aload_n (pc := 58) X dX12_dies_58 rfl ?_
        refine ao_getI (pc := 59) X dX12_dies_59 fl_RX12_283 sf_122_33 ?_
        refine ao_i2l (pc := 62) X dX12_dies_62 ?_
        refine ao_callVV (pc := 63) (As := [.long (Int32.toInt64 (gI m6 122 33))]) (st := []) X hl0 dX12_dies_63 yv_X12_tell so_122 ml_RX12_267 (mX12_tell_122 hI (Int32.toInt64 (gI m6 122 33)) m6) (Nat.le_of_ble_eq_true rfl) rfl rfl (Nat.le_of_ble_eq_true rfl) (fun r7 m8 => ?_)
        refine ao_iload_n (pc := 66) X dX12_dies_66 rfl ?_
        exact ao_iret (pc := 67) X hr dX12_dies_67
      · refine ao_bipush (pc := 49) X dX12_dies_49 bp_m2 ?_
        exact ao_iret (pc := 51) X hr dX12_dies_51
    · refine ao_bipush (pc := 24) X dX12_dies_24 bp_m3 ?_
      exact ao_iret (pc := 26) X hr dX12_dies_26
  · refine ao_iconst (pc := 13) X dX12_dies_13 ic_m1 ?_
    exact ao_iret (pc := 14) X hr dX12_dies_14
def fX4_pleadsIn_33_b70 (k18 : Int32 → Int32 → Int32 → Int32 → Mem → Option (Int32 × Mem)) (p1 : Int32) (p2 : Int32) (p3 : Int32) (p4 : Int32) (q0 : Int32) (μ : Mem) : Option (Int32 × Mem) :=
  if q0 = 0 then (if (((gI μ 33 4) + p4) + (1 : Int32)) = p3 then (some ((-2 : Int32), μ))
    else k18 p1 p2 p3 (p4 + (1 : Int32)) μ)
  else some ((-2 : Int32), μ)
set_option maxRecDepth 100000 in
set_option maxHeartbeats 4000000 in
theorem bX4_pleadsIn_33_70 {E : En} {l : Launch} {Z : Zt} (hI : Inj E) (hl0 : lZ l Z) (X : Cx E Z cX4_pleadsIn RX4 6 5) (hr : rtOf Z = some .int) {k18 : Int32 → Int32 → Int32 → Int32 → Mem → Option (Int32 × Mem)} (hk18 : ∀ (p1 : Int32) (p2 : Int32) (p3 : Int32) (p4 : Int32) (m : Mem), AO E Z 6 (QI E Z) 18 [(0, .ref (eAd E 33)), (1, .int p1), (2, .int p2), (3, .int p3), (4, .int p4)] [] m (k18 p1 p2 p3 p4 m)) (p1 : Int32) (p2 : Int32) (p3 : Int32) (p4 : Int32) (q0 : Int32) (μ : Mem) : AO E Z 6 (QI E Z) 70 [(0, .ref (eAd E 33)), (1, .int p1), (2, .int p2), (3, .int p3), (4, .int p4)] [.int q0] μ (fX4_pleadsIn_33_b70 k18 p1 p2 p3 p4 q0 μ) := by
  unfold fX4_pleadsIn_33_b70
  refine ao_istore (pc := 70) (lv' := [(5, .int q0), (0, .ref (eAd E 33)), (1, .int p1), (2, .int p2), (3, .int p3), (4, .int p4)]) X dX4_pleadsIn_70 (by decide) rfl ?_
  refine ao_iload (pc := 72) X dX4_pleadsIn_72 rfl ?_
  refine ao_if_ne (pc := 74) (tgt := 90) X dX4_pleadsIn_74 (by decide) (fun _ => ?_) (fun _ => ?_)
  · refine ao_bipush (pc := 90) X dX4_pleadsIn_90 bp_m2 ?_
    exact ao_iret (pc := 92) X hr dX4_pleadsIn_92
  · refine ao_aload_n (pc := 77) X dX4_pleadsIn_77 rfl ?_
    refine ao_getI (pc := 78) X dX4_pleadsIn_78 fl_RX4_24 sf_33_4 ?_
    refine ao_iload (pc := 81) X dX4_pleadsIn_81 rfl ?_
    refine ao_iadd (pc := 83) X dX4_pleadsIn_83 ?_
    refine ao_iconst (pc := 84) X dX4_pleadsIn_84 ic_1 ?_
    refine ao_iadd (pc := 85) X dX4_pleadsIn_85 ?_
    refine ao_iload_n (pc := 86) X dX4_pleadsIn_86 rfl ?_
    refine ao_icmp_ne (pc := 87) (tgt := 93) X dX4_pleadsIn_87 (by decide) (fun _ => ?_) (fun _ => ?_)
    · refine ao_iinc (pc := 93) (k := 5) (v := p4 + (1 : Int32)) (lv' := [(4, .int (p4 + (1 : Int32))), (5, .int q0), (0, .ref (eAd E 33)), (1, .int p1), (2, .int p2), (3, .int p3)]) X dX4_pleadsIn_93 rfl (ii_ic ic_1) (by decide) rfl ?_
      refine ao_goto (pc := 96) (tgt := 18) X dX4_pleadsIn_96 (by decide) ?_
      refine ao_sub [2, 3, 4, 5, 0] rfl ?_
      exact hk18 p1 p2 p3 (p4 + (1 : Int32)) μ
    · refine ao_bipush (pc := 90) X dX4_pleadsIn_90 bp_m2 ?_
      exact ao_iret (pc := 92) X hr dX4_pleadsIn_92
def fX4_pleadsIn_33_b69 (k18 : Int32 → Int32 → Int32 → Int32 → Mem → Option (Int32 × Mem)) (p1 : Int32) (p2 : Int32) (p3 : Int32) (p4 : Int32) (μ : Mem) : Option (Int32 × Mem) :=
  fX4_pleadsIn_33_b70 k18 p1 p2 p3 p4 (0 : Int32) μ
set_option maxRecDepth 100000 in
set_option maxHeartbeats 4000000 in
theorem bX4_pleadsIn_33_69 {E : En} {l : Launch} {Z : Zt} (hI : Inj E) (hl0 : lZ l Z) (X : Cx E Z cX4_pleadsIn RX4 6 5) (hr : rtOf Z = some .int) {k18 : Int32 → Int32 → Int32 → Int32 → Mem → Option (Int32 × Mem)} (hk18 : ∀ (p1 : Int32) (p2 : Int32) (p3 : Int32) (p4 : Int32) (m : Mem), AO E Z 6 (QI E Z) 18 [(0, .ref (eAd E 33)), (1, .int p1), (2, .int p2), (3, .int p3), (4, .int p4)] [] m (k18 p1 p2 p3 p4 m)) (p1 : Int32) (p2 : Int32) (p3 : Int32) (p4 : Int32) (μ : Mem) : AO E Z 6 (QI E Z) 69 [(0, .ref (eAd E 33)), (1, .int p1), (2, .int p2), (3, .int p3), (4, .int p4)] [] μ (fX4_pleadsIn_33_b69 k18 p1 p2 p3 p4 μ) := by
  unfold fX4_pleadsIn_33_b69
  refine ao_iconst (pc := 69) X dX4_pleadsIn_69 ic_0 ?_
  refine ao_sub [0, 1, 2, 3, 4] rfl ?_
  exact bX4_pleadsIn_33_70 hI hl0 X hr hk18 p1 p2 p3 p4 (0 : Int32) μ
def fX4_pleadsIn_33_b18 : Nat → Int32 → Int32 → Int32 → Int32 → Mem → Option (Int32 × Mem)
  | 0, _, _, _, _, _ => none
  | n + 1, p1, p2, p3, p4, μ =>
  if (60 : Int32) < p4 then (some ((-2 : Int32), μ))
  else bnd (fX4_leftIn_33 p1 p2 p4 μ) fun r1 m2 =>
    gd (inb p1 6) (if (gI m2 7 (ix p1)) < r1 then (if p2 ≤ 0 then (fX4_pleadsIn_33_b69 (fun p1 p2 p3 p4 m => fX4_pleadsIn_33_b18 n p1 p2 p3 p4 m) p1 p2 p3 p4 m2)
      else bnd (fX4_leftDying_33 p1 p2 (p4 + (1 : Int32)) m2) fun r3 m4 =>
        if 0 < r3 then (fX4_pleadsIn_33_b69 (fun p1 p2 p3 p4 m => fX4_pleadsIn_33_b18 n p1 p2 p3 p4 m) p1 p2 p3 p4 m4)
        else fX4_pleadsIn_33_b70 (fun p1 p2 p3 p4 m => fX4_pleadsIn_33_b18 n p1 p2 p3 p4 m) p1 p2 p3 p4 (1 : Int32) m4)
    else some (p4, m2))
set_option maxRecDepth 100000 in
set_option maxHeartbeats 4000000 in
theorem bX4_pleadsIn_33_18 {E : En} {l : Launch} {Z : Zt} (hI : Inj E) (hl0 : lZ l Z) (X : Cx E Z cX4_pleadsIn RX4 6 5) (hr : rtOf Z = some .int) : ∀ (n : Nat) (p1 : Int32) (p2 : Int32) (p3 : Int32) (p4 : Int32) (μ : Mem), AO E Z 6 (QI E Z) 18 [(0, .ref (eAd E 33)), (1, .int p1), (2, .int p2), (3, .int p3), (4, .int p4)] [] μ (fX4_pleadsIn_33_b18 n p1 p2 p3 p4 μ) := by
  intro n
  induction n with
  | zero =>
    intros
    exact ao_none
  | succ n ih =>
    intro p1 p2 p3 p4 μ
    rw [fX4_pleadsIn_33_b18]
    refine ao_iload (pc := 18) X dX4_pleadsIn_18 rfl ?_
    refine ao_bipush (pc := 20) X dX4_pleadsIn_20 bp_60 ?_
    refine ao_icmp_gt (pc := 22) (tgt := 99) X dX4_pleadsIn_22 (by decide) (fun _ => ?_) (fun _ => ?_)
    · refine ao_bipush (pc := 99) X dX4_pleadsIn_99 bp_m2 ?_
      exact ao_iret (pc := 101) X hr dX4_pleadsIn_101
    · refine ao_aload_n (pc := 25) X dX4_pleadsIn_25 rfl ?_
      refine ao_iload_n (pc := 26) X dX4_pleadsIn_26 rfl ?_
      refine ao_iload_n (pc := 27) X dX4_pleadsIn_27 rfl ?_
      refine ao_iload (pc := 28) X dX4_pleadsIn_28 rfl ?_
      refine ao_callVI (pc := 30) (As := [.int p1, .int p2, .int p4]) (st := []) X hl0 dX4_pleadsIn_30 yv_X4_leftIn so_33 ml_RX4_140 (mX4_leftIn_33 hI p1 p2 p4 μ) (Nat.le_of_ble_eq_true rfl) rfl rfl (Nat.le_of_ble_eq_true rfl) (fun r1 m2 => ?_)
      refine ao_aload_n (pc := 33) X dX4_pleadsIn_33 rfl ?_
      refine ao_getR (pc := 34) X dX4_pleadsIn_34 fl_RX4_31 sf_33_6 ?_
      refine ao_getR (pc := 37) X dX4_pleadsIn_37 fl_RX4_83 sf_5_1 ?_
      refine ao_iload_n (pc := 40) X dX4_pleadsIn_40 rfl ?_
      refine ao_iald (pc := 41) X dX4_pleadsIn_41 sa_7 ?_
      refine ao_icmp_gt (pc := 42) (tgt := 48) X dX4_pleadsIn_42 (by decide) (fun _ => ?_) (fun _ => ?_)
      · refine ao_iload_n (pc := 48) X dX4_pleadsIn_48 rfl ?_
        refine ao_if_le (pc := 49) (tgt := 69) X dX4_pleadsIn_49 (by decide) (fun _ => ?_) (fun _ => ?_)
        · refine ao_sub [0, 1, 2, 3, 4] rfl ?_
          exact bX4_pleadsIn_33_69 hI hl0 X hr ih p1 p2 p3 p4 m2
        · refine ao_aload_n (pc := 52) X dX4_pleadsIn_52 rfl ?_
          refine ao_iload_n (pc := 53) X dX4_pleadsIn_53 rfl ?_
          refine ao_iload_n (pc := 54) X dX4_pleadsIn_54 rfl ?_
          refine ao_iload (pc := 55) X dX4_pleadsIn_55 rfl ?_
          refine ao_iconst (pc := 57) X dX4_pleadsIn_57 ic_1 ?_
          refine ao_iadd (pc := 58) X dX4_pleadsIn_58 ?_
          refine ao_callVI (pc := 59) (As := [.int p1, .int p2, .int (p4 + (1 : Int32))]) (st := []) X hl0 dX4_pleadsIn_59 yv_X4_leftDying so_33 ml_RX4_136 (mX4_leftDying_33 hI p1 p2 (p4 + (1 : Int32)) m2) (Nat.le_of_ble_eq_true rfl) rfl rfl (Nat.le_of_ble_eq_true rfl) (fun r3 m4 => ?_)
          refine ao_if_gt (pc := 62) (tgt := 69) X dX4_pleadsIn_62 (by decide) (fun _ => ?_) (fun _ => ?_)
          · refine ao_sub [0, 1, 2, 3, 4] rfl ?_
            exact bX4_pleadsIn_33_69 hI hl0 X hr ih p1 p2 p3 p4 m4
          · refine ao_iconst (pc := 65) X dX4_pleadsIn_65 ic_1 ?_
            refine ao_goto (pc := 66) (tgt := 70) X dX4_pleadsIn_66 (by decide) ?_
            refine ao_sub [0, 1, 2, 3, 4] rfl ?_
            exact bX4_pleadsIn_33_70 hI hl0 X hr ih p1 p2 p3 p4 (1 : Int32) m4
      · refine ao_iload (pc := 45) X dX4_pleadsIn_45 rfl ?_
        exact ao_iret (pc := 47) X hr dX4_pleadsIn_47
def fX4_pleadsIn_33 (v1 : Int32) (v2 : Int32) (v3 : Int32) (μ : Mem) : Option (Int32 × Mem) :=
  gd (inb v1 6) (if (gI μ 8 (ix v1)) = 0 then (fX4_pleadsIn_33_b18 FU v1 v2 v3 (0 : Int32) μ)
  else some ((-2 : Int32), μ))
set_option maxRecDepth 100000 in
set_option maxHeartbeats 4000000 in
theorem mX4_pleadsIn_33 {E : En} {l : Launch} (hI : Inj E) (v1 : Int32) (v2 : Int32) (v3 : Int32) (μ : Mem) : MtI E l yX4_pleadsIn cX4_pleadsIn 6 (some .int) 5 [.ref (eAd E 33), .int v1, .int v2, .int v3] μ (fX4_pleadsIn_33 v1 v2 v3 μ) := by
  refine mtI_of (own := RX4) [(0, .ref (eAd E 33)), (1, .int v1), (2, .int v2), (3, .int v3)] hI rfl (by decide) (Nat.le_of_ble_eq_true rfl) (Nat.le_of_ble_eq_true rfl) rfl (fun Z hl0 X hr => ?_)
  unfold fX4_pleadsIn_33
  refine ao_aload_n (pc := 0) X dX4_pleadsIn_0 rfl ?_
  refine ao_getR (pc := 1) X dX4_pleadsIn_1 fl_RX4_31 sf_33_6 ?_
  refine ao_getR (pc := 4) X dX4_pleadsIn_4 fl_RX4_75 sf_5_2 ?_
  refine ao_iload_n (pc := 7) X dX4_pleadsIn_7 rfl ?_
  refine ao_zald (pc := 8) X dX4_pleadsIn_8 sa_8 ?_
  refine ao_if_eq (pc := 9) (tgt := 15) X dX4_pleadsIn_9 (by decide) (fun _ => ?_) (fun _ => ?_)
  · refine ao_iconst (pc := 15) X dX4_pleadsIn_15 ic_0 ?_
    refine ao_istore (pc := 16) (lv' := [(4, .int (0 : Int32)), (0, .ref (eAd E 33)), (1, .int v1), (2, .int v2), (3, .int v3)]) X dX4_pleadsIn_16 (by decide) rfl ?_
    refine ao_sub [1, 2, 3, 4, 0] rfl ?_
    exact bX4_pleadsIn_33_18 hI hl0 X hr FU v1 v2 v3 (0 : Int32) μ
  · refine ao_bipush (pc := 12) X dX4_pleadsIn_12 bp_m2 ?_
    exact ao_iret (pc := 14) X hr dX4_pleadsIn_14
def fX11_speaks_0 (v1 : Int32) (v2 : Int32) (μ : Mem) : Option (Int32 × Mem) :=
  bnd (fX11_isThere_0 v1 μ) fun r1 m2 =>
  if r1 = 0 then (some ((-1 : Int32), m2))
  else if v2 < 0 then (some ((-1 : Int32), m2))
    else if v2 ≤ (99 : Int32) then (bnd (fX4_isSilent_33 v1 m2) fun r3 m4 =>
        if r3 = 0 then (some ((-3 : Int32), m4))
        else bnd (fX4_pleadsIn_33 v1 v2 (gI m4 0 14) m4) fun r5 m6 =>
          if r5 < 0 then (some (r5, m6))
          else bnd (fX4_leftIn_33 v1 v2 r5 m6) fun r7 m8 =>
            bnd (fX7_tell_3 (Int32.toInt64 r7) m8) fun r9 m10 =>
            some (r5, m10))
      else some ((-1 : Int32), m2)
set_option maxRecDepth 100000 in
set_option maxHeartbeats 4000000 in
theorem mX11_speaks_0 {E : En} {l : Launch} (hI : Inj E) (v1 : Int32) (v2 : Int32) (μ : Mem) : MtI E l yX11_speaks cX11_speaks 4 (some .int) 6 [.ref (eAd E 0), .int v1, .int v2] μ (fX11_speaks_0 v1 v2 μ) := by
  refine mtI_of (own := RX11) [(0, .ref (eAd E 0)), (1, .int v1), (2, .int v2)] hI rfl (by decide) (Nat.le_of_ble_eq_true rfl) (Nat.le_of_ble_eq_true rfl) rfl (fun Z hl0 X hr => ?_)
  unfold fX11_speaks_0
  refine ao_aload_n (pc := 0) X dX11_speaks_0 rfl ?_
  refine ao_iload_n (pc := 1) X dX11_speaks_1 rfl ?_
  refine ao_callVI (pc := 2) (As := [.int v1]) (st := []) X hl0 dX11_speaks_2 yv_X11_isThere so_0 ml_RX11_147 (mX11_isThere_0 hI v1 μ) (Nat.le_of_ble_eq_true rfl) rfl rfl (Nat.le_of_ble_eq_true rfl) (fun r1 m2 => ?_)
  refine ao_if_eq (pc := 5) (tgt := 18) X dX11_speaks_5 (by decide) (fun _ => ?_) (fun _ => ?_)
  · refine ao_iconst (pc := 18) X dX11_speaks_18 ic_m1 ?_
    exact ao_iret (pc := 19) X hr dX11_speaks_19
  · refine ao_iload_n (pc := 8) X dX11_speaks_8 rfl ?_
    refine ao_if_lt (pc := 9) (tgt := 18) X dX11_speaks_9 (by decide) (fun _ => ?_) (fun _ => ?_)
    · refine ao_iconst (pc := 18) X dX11_speaks_18 ic_m1 ?_
      exact ao_iret (pc := 19) X hr dX11_speaks_19
    · refine ao_iload_n (pc := 12) X dX11_speaks_12 rfl ?_
      refine ao_bipush (pc := 13) X dX11_speaks_13 bp_99 ?_
      refine ao_icmp_le (pc := 15) (tgt := 20) X dX11_speaks_15 (by decide) (fun _ => ?_) (fun _ => ?_)
      · refine ao_aload_n (pc := 20) X dX11_speaks_20 rfl ?_
        refine ao_getR (pc := 21) X dX11_speaks_21 fl_RX11_65 sf_0_7 ?_
        refine ao_iload_n (pc := 24) X dX11_speaks_24 rfl ?_
        refine ao_callVI (pc := 25) (As := [.int v1]) (st := []) X hl0 dX11_speaks_25 yv_X4_isSilent so_33 ml_RX11_261 (mX4_isSilent_33 hI v1 m2) (Nat.le_of_ble_eq_true rfl) rfl rfl (Nat.le_of_ble_eq_true rfl) (fun r3 m4 => ?_)
        refine ao_if_ne (pc := 28) (tgt := 34) X dX11_speaks_28 (by decide) (fun _ => ?_) (fun _ => ?_)
        · refine ao_aload_n (pc := 34) X dX11_speaks_34 rfl ?_
          refine ao_getR (pc := 35) X dX11_speaks_35 fl_RX11_65 sf_0_7 ?_
          refine ao_iload_n (pc := 38) X dX11_speaks_38 rfl ?_
          refine ao_iload_n (pc := 39) X dX11_speaks_39 rfl ?_
          refine ao_aload_n (pc := 40) X dX11_speaks_40 rfl ?_
          refine ao_getI (pc := 41) X dX11_speaks_41 fl_RX11_100 sf_0_14 ?_
          refine ao_callVI (pc := 44) (As := [.int v1, .int v2, .int (gI m4 0 14)]) (st := []) X hl0 dX11_speaks_44 yv_X4_pleadsIn so_33 ml_RX11_271 (mX4_pleadsIn_33 hI v1 v2 (gI m4 0 14) m4) (Nat.le_of_ble_eq_true rfl) rfl rfl (Nat.le_of_ble_eq_true rfl) (fun r5 m6 => ?_)
          refine ao_istore_n (pc := 47) (lv' := [(3, .int r5), (0, .ref (eAd E 0)), (1, .int v1), (2, .int v2)]) X dX11_speaks_47 rfl (by decide) rfl ?_
          refine ao_iload_n (pc := 48) X dX11_speaks_48 rfl ?_
          refine ao_if_lt (pc := 49) (tgt := 70) X dX11_speaks_49 (by decide) (fun _ => ?_) (fun _ => ?_)
          · refine ao_iload_n (pc := 70) X dX11_speaks_70 rfl ?_
            exact ao_iret (pc := 71) X hr dX11_speaks_71
          · refine ao_aload_n (pc := 52) X dX11_speaks_52 rfl ?_
            refine ao_getR (pc := 53) X dX11_speaks_53 fl_RX11_19 sf_0_1 ?_
            refine ao_aload_n (pc := 56) X dX11_speaks_56 rfl ?_
            refine ao_getR (pc := 57) X dX11_speaks_57 fl_RX11_65 sf_0_7 ?_
            refine ao_iload_n (pc := 60) X dX11_speaks_60 rfl ?_
            refine ao_iload_n (pc := 61) X dX11_speaks_61 rfl ?_
            refine ao_iload_n (pc := 62) X dX11_speaks_62 rfl ?_
            refine ao_callVI (pc := 63) (As := [.int v1, .int v2, .int r5]) (st := [.ref (eAd E 3)]) X hl0 dX11_speaks_63 yv_X4_leftIn so_33 ml_RX11_257 (mX4_leftIn_33 hI v1 v2 r5 m6) (Nat.le_of_ble_eq_true rfl) rfl rfl (Nat.le_of_ble_eq_true rfl) (fun r7 m8 => ?_)
            refine ao_i2l (pc := 66) X dX11_speaks_66 ?_
            refine ao_callVV (pc := 67) (As := [.long (Int32.toInt64 r7)]) (st := []) X hl0 dX11_speaks_67 yv_X7_tell so_3 ml_RX11_228 (mX7_tell_3 hI (Int32.toInt64 r7) m8) (Nat.le_of_ble_eq_true rfl) rfl rfl (Nat.le_of_ble_eq_true rfl) (fun r9 m10 => ?_)
            refine ao_iload_n (pc := 70) X dX11_speaks_70 rfl ?_
            exact ao_iret (pc := 71) X hr dX11_speaks_71
        · refine ao_bipush (pc := 31) X dX11_speaks_31 bp_m3 ?_
          exact ao_iret (pc := 33) X hr dX11_speaks_33
      · refine ao_iconst (pc := 18) X dX11_speaks_18 ic_m1 ?_
        exact ao_iret (pc := 19) X hr dX11_speaks_19
def fX12_speakNight_122_b93 (k2 : Int32 → Int32 → Int32 → Mem → Option (Int32 × Mem)) (p1 : Int32) (p2 : Int32) (p3 : Int32) (μ : Mem) : Option (Int32 × Mem) :=
  gd (inb (26 : Int32) 27) (if (((gI μ 123 (ix (26 : Int32))) + p3) + (1 : Int32)) = (gI μ 122 12) then (some ((-2 : Int32), μ))
  else k2 p1 p2 (p3 + (1 : Int32)) μ)
set_option maxRecDepth 100000 in
set_option maxHeartbeats 4000000 in
theorem bX12_speakNight_122_93 {E : En} {l : Launch} {Z : Zt} (hI : Inj E) (hl0 : lZ l Z) (X : Cx E Z cX12_speakNight RX12 5 410) (hr : rtOf Z = some .int) {k2 : Int32 → Int32 → Int32 → Mem → Option (Int32 × Mem)} (hk2 : ∀ (p1 : Int32) (p2 : Int32) (p3 : Int32) (m : Mem), AO E Z 5 (QI E Z) 2 [(0, .ref (eAd E 122)), (1, .int p1), (2, .int p2), (3, .int p3)] [] m (k2 p1 p2 p3 m)) (p1 : Int32) (p2 : Int32) (p3 : Int32) (μ : Mem) : AO E Z 5 (QI E Z) 93 [(0, .ref (eAd E 122)), (1, .int p1), (2, .int p2), (3, .int p3)] [] μ (fX12_speakNight_122_b93 k2 p1 p2 p3 μ) := by
  unfold fX12_speakNight_122_b93
  refine ao_aload_n (pc := 93) X dX12_speakNight_93 rfl ?_
  refine ao_getR (pc := 94) X dX12_speakNight_94 fl_RX12_9 sf_122_0 ?_
  refine ao_bipush (pc := 97) X dX12_speakNight_97 bp_26 ?_
  refine ao_iald (pc := 99) X dX12_speakNight_99 sa_123 ?_
  refine ao_iload_n (pc := 100) X dX12_speakNight_100 rfl ?_
  refine ao_iadd (pc := 101) X dX12_speakNight_101 ?_
  refine ao_iconst (pc := 102) X dX12_speakNight_102 ic_1 ?_
  refine ao_iadd (pc := 103) X dX12_speakNight_103 ?_
  refine ao_aload_n (pc := 104) X dX12_speakNight_104 rfl ?_
  refine ao_getI (pc := 105) X dX12_speakNight_105 fl_RX12_41 sf_122_12 ?_
  refine ao_icmp_ne (pc := 108) (tgt := 114) X dX12_speakNight_108 (by decide) (fun _ => ?_) (fun _ => ?_)
  · refine ao_iinc (pc := 114) (k := 3) (v := p3 + (1 : Int32)) (lv' := [(3, .int (p3 + (1 : Int32))), (0, .ref (eAd E 122)), (1, .int p1), (2, .int p2)]) X dX12_speakNight_114 rfl (ii_ic ic_1) (by decide) rfl ?_
    refine ao_goto (pc := 117) (tgt := 2) X dX12_speakNight_117 (by decide) ?_
    refine ao_sub [1, 2, 3, 0] rfl ?_
    exact hk2 p1 p2 (p3 + (1 : Int32)) μ
  · refine ao_bipush (pc := 111) X dX12_speakNight_111 bp_m2 ?_
    exact ao_iret (pc := 113) X hr dX12_speakNight_113
def fX12_speakNight_122_b26 (k2 : Int32 → Int32 → Int32 → Mem → Option (Int32 × Mem)) (p1 : Int32) (p2 : Int32) (p3 : Int32) (q0 : Int32) (q1 : Int32) (μ : Mem) : Option (Int32 × Mem) :=
  lt (q1 + q0) fun x1 =>
  gd (inb (26 : Int32) 27) (bnd (fX12_leftOf_122 p1 p2 x1 ((gI μ 123 (ix (26 : Int32))) + p3) μ) fun r2 m3 =>
  lt (sI m3 122 33 r2) fun m4 =>
  bnd (fX12_doesSpeak_122 p1 (gI m4 122 33) m4) fun r5 m6 =>
  if r5 = 0 then (if p2 ≤ 0 then (fX12_speakNight_122_b93 k2 p1 p2 p3 m6)
    else gd (inb (26 : Int32) 27) (bnd (fX12_leftOf_122 p1 p2 (x1 + (1 : Int32)) ((gI m6 123 (ix (26 : Int32))) + p3) m6) fun r7 m8 =>
      if 0 < r7 then (fX12_speakNight_122_b93 k2 p1 p2 p3 m8)
      else some ((-2 : Int32), m8)))
  else some (p3, m6))
set_option maxRecDepth 100000 in
set_option maxHeartbeats 4000000 in
theorem bX12_speakNight_122_26 {E : En} {l : Launch} {Z : Zt} (hI : Inj E) (hl0 : lZ l Z) (X : Cx E Z cX12_speakNight RX12 5 410) (hr : rtOf Z = some .int) {k2 : Int32 → Int32 → Int32 → Mem → Option (Int32 × Mem)} (hk2 : ∀ (p1 : Int32) (p2 : Int32) (p3 : Int32) (m : Mem), AO E Z 5 (QI E Z) 2 [(0, .ref (eAd E 122)), (1, .int p1), (2, .int p2), (3, .int p3)] [] m (k2 p1 p2 p3 m)) (p1 : Int32) (p2 : Int32) (p3 : Int32) (q0 : Int32) (q1 : Int32) (μ : Mem) : AO E Z 5 (QI E Z) 26 [(0, .ref (eAd E 122)), (1, .int p1), (2, .int p2), (3, .int p3)] [.int q0, .int q1] μ (fX12_speakNight_122_b26 k2 p1 p2 p3 q0 q1 μ) := by
  unfold fX12_speakNight_122_b26
  refine ao_iadd (pc := 26) X dX12_speakNight_26 ?_
  refine ao_ltI (fun x1 => ?_)
  refine ao_istore (pc := 27) (lv' := [(4, .int x1), (0, .ref (eAd E 122)), (1, .int p1), (2, .int p2), (3, .int p3)]) X dX12_speakNight_27 (by decide) rfl ?_
  refine ao_aload_n (pc := 29) X dX12_speakNight_29 rfl ?_
  refine ao_aload_n (pc := 30) X dX12_speakNight_30 rfl ?_
  refine ao_iload_n (pc := 31) X dX12_speakNight_31 rfl ?_
  refine ao_iload_n (pc := 32) X dX12_speakNight_32 rfl ?_
  refine ao_iload (pc := 33) X dX12_speakNight_33 rfl ?_
  refine ao_aload_n (pc := 35) X dX12_speakNight_35 rfl ?_
  refine ao_getR (pc := 36) X dX12_speakNight_36 fl_RX12_9 sf_122_0 ?_
  refine ao_bipush (pc := 39) X dX12_speakNight_39 bp_26 ?_
  refine ao_iald (pc := 41) X dX12_speakNight_41 sa_123 ?_
  refine ao_iload_n (pc := 42) X dX12_speakNight_42 rfl ?_
  refine ao_iadd (pc := 43) X dX12_speakNight_43 ?_
  refine ao_callVI (pc := 44) (As := [.int p1, .int p2, .int x1, .int ((gI μ 123 (ix (26 : Int32))) + p3)]) (st := [.ref (eAd E 122)]) X hl0 dX12_speakNight_44 yv_X12_leftOf so_122 ml_RX12_220 (mX12_leftOf_122 hI p1 p2 x1 ((gI μ 123 (ix (26 : Int32))) + p3) μ) (Nat.le_of_ble_eq_true rfl) rfl rfl (Nat.le_of_ble_eq_true rfl) (fun r2 m3 => ?_)
  refine ao_putI (pc := 47) X dX12_speakNight_47 fp_RX12_283 sf_122_33 ?_
  refine ao_lt (fun m4 => ?_)
  refine ao_aload_n (pc := 50) X dX12_speakNight_50 rfl ?_
  refine ao_iload_n (pc := 51) X dX12_speakNight_51 rfl ?_
  refine ao_aload_n (pc := 52) X dX12_speakNight_52 rfl ?_
  refine ao_getI (pc := 53) X dX12_speakNight_53 fl_RX12_283 sf_122_33 ?_
  refine ao_callVI (pc := 56) (As := [.int p1, .int (gI m4 122 33)]) (st := []) X hl0 dX12_speakNight_56 yv_X12_doesSpeak so_122 ml_RX12_257 (mX12_doesSpeak_122 hI p1 (gI m4 122 33) m4) (Nat.le_of_ble_eq_true rfl) rfl rfl (Nat.le_of_ble_eq_true rfl) (fun r5 m6 => ?_)
  refine ao_if_eq (pc := 59) (tgt := 64) X dX12_speakNight_59 (by decide) (fun _ => ?_) (fun _ => ?_)
  · refine ao_iload_n (pc := 64) X dX12_speakNight_64 rfl ?_
    refine ao_if_le (pc := 65) (tgt := 93) X dX12_speakNight_65 (by decide) (fun _ => ?_) (fun _ => ?_)
    · refine ao_sub [1, 2, 3, 4] rfl ?_
      exact bX12_speakNight_122_93 hI hl0 X hr hk2 p1 p2 p3 m6
    · refine ao_aload_n (pc := 68) X dX12_speakNight_68 rfl ?_
      refine ao_iload_n (pc := 69) X dX12_speakNight_69 rfl ?_
      refine ao_iload_n (pc := 70) X dX12_speakNight_70 rfl ?_
      refine ao_iload (pc := 71) X dX12_speakNight_71 rfl ?_
      refine ao_iconst (pc := 73) X dX12_speakNight_73 ic_1 ?_
      refine ao_iadd (pc := 74) X dX12_speakNight_74 ?_
      refine ao_aload_n (pc := 75) X dX12_speakNight_75 rfl ?_
      refine ao_getR (pc := 76) X dX12_speakNight_76 fl_RX12_9 sf_122_0 ?_
      refine ao_bipush (pc := 79) X dX12_speakNight_79 bp_26 ?_
      refine ao_iald (pc := 81) X dX12_speakNight_81 sa_123 ?_
      refine ao_iload_n (pc := 82) X dX12_speakNight_82 rfl ?_
      refine ao_iadd (pc := 83) X dX12_speakNight_83 ?_
      refine ao_callVI (pc := 84) (As := [.int p1, .int p2, .int (x1 + (1 : Int32)), .int ((gI m6 123 (ix (26 : Int32))) + p3)]) (st := []) X hl0 dX12_speakNight_84 yv_X12_leftOf so_122 ml_RX12_220 (mX12_leftOf_122 hI p1 p2 (x1 + (1 : Int32)) ((gI m6 123 (ix (26 : Int32))) + p3) m6) (Nat.le_of_ble_eq_true rfl) rfl rfl (Nat.le_of_ble_eq_true rfl) (fun r7 m8 => ?_)
      refine ao_if_gt (pc := 87) (tgt := 93) X dX12_speakNight_87 (by decide) (fun _ => ?_) (fun _ => ?_)
      · refine ao_sub [1, 2, 3, 4] rfl ?_
        exact bX12_speakNight_122_93 hI hl0 X hr hk2 p1 p2 p3 m8
      · refine ao_bipush (pc := 90) X dX12_speakNight_90 bp_m2 ?_
        exact ao_iret (pc := 92) X hr dX12_speakNight_92
  · refine ao_iload_n (pc := 62) X dX12_speakNight_62 rfl ?_
    exact ao_iret (pc := 63) X hr dX12_speakNight_63
def fX12_speakNight_122_b2 : Nat → Int32 → Int32 → Int32 → Mem → Option (Int32 × Mem)
  | 0, _, _, _, _ => none
  | n + 1, p1, p2, p3, μ =>
  if (60 : Int32) < p3 then (some ((-2 : Int32), μ))
  else gd (inb ((12 : Int32) + p1) 27) (if p2 ≤ 0 then (fX12_speakNight_122_b26 (fun p1 p2 p3 m => fX12_speakNight_122_b2 n p1 p2 p3 m) p1 p2 p3 (0 : Int32) (gI μ 123 (ix ((12 : Int32) + p1))) μ)
    else fX12_speakNight_122_b26 (fun p1 p2 p3 m => fX12_speakNight_122_b2 n p1 p2 p3 m) p1 p2 p3 p3 (gI μ 123 (ix ((12 : Int32) + p1))) μ)
set_option maxRecDepth 100000 in
set_option maxHeartbeats 4000000 in
theorem bX12_speakNight_122_2 {E : En} {l : Launch} {Z : Zt} (hI : Inj E) (hl0 : lZ l Z) (X : Cx E Z cX12_speakNight RX12 5 410) (hr : rtOf Z = some .int) : ∀ (n : Nat) (p1 : Int32) (p2 : Int32) (p3 : Int32) (μ : Mem), AO E Z 5 (QI E Z) 2 [(0, .ref (eAd E 122)), (1, .int p1), (2, .int p2), (3, .int p3)] [] μ (fX12_speakNight_122_b2 n p1 p2 p3 μ) := by
  intro n
  induction n with
  | zero =>
    intros
    exact ao_none
  | succ n ih =>
    intro p1 p2 p3 μ
    rw [fX12_speakNight_122_b2]
    refine ao_iload_n (pc := 2) X dX12_speakNight_2 rfl ?_
    refine ao_bipush (pc := 3) X dX12_speakNight_3 bp_60 ?_
    refine ao_icmp_gt (pc := 5) (tgt := 120) X dX12_speakNight_5 (by decide) (fun _ => ?_) (fun _ => ?_)
    · refine ao_bipush (pc := 120) X dX12_speakNight_120 bp_m2 ?_
      exact ao_iret (pc := 122) X hr dX12_speakNight_122
    · refine ao_aload_n (pc := 8) X dX12_speakNight_8 rfl ?_
      refine ao_getR (pc := 9) X dX12_speakNight_9 fl_RX12_9 sf_122_0 ?_
      refine ao_bipush (pc := 12) X dX12_speakNight_12 bp_12 ?_
      refine ao_iload_n (pc := 14) X dX12_speakNight_14 rfl ?_
      refine ao_iadd (pc := 15) X dX12_speakNight_15 ?_
      refine ao_iald (pc := 16) X dX12_speakNight_16 sa_123 ?_
      refine ao_iload_n (pc := 17) X dX12_speakNight_17 rfl ?_
      refine ao_if_le (pc := 18) (tgt := 25) X dX12_speakNight_18 (by decide) (fun _ => ?_) (fun _ => ?_)
      · refine ao_iconst (pc := 25) X dX12_speakNight_25 ic_0 ?_
        refine ao_sub [0, 1, 2, 3] rfl ?_
        exact bX12_speakNight_122_26 hI hl0 X hr ih p1 p2 p3 (0 : Int32) (gI μ 123 (ix ((12 : Int32) + p1))) μ
      · refine ao_iload_n (pc := 21) X dX12_speakNight_21 rfl ?_
        refine ao_goto (pc := 22) (tgt := 26) X dX12_speakNight_22 (by decide) ?_
        refine ao_sub [0, 1, 2, 3] rfl ?_
        exact bX12_speakNight_122_26 hI hl0 X hr ih p1 p2 p3 p3 (gI μ 123 (ix ((12 : Int32) + p1))) μ
def fX12_speakNight_122 (v1 : Int32) (v2 : Int32) (μ : Mem) : Option (Int32 × Mem) :=
  fX12_speakNight_122_b2 FU v1 v2 (0 : Int32) μ
set_option maxRecDepth 100000 in
set_option maxHeartbeats 4000000 in
theorem mX12_speakNight_122 {E : En} {l : Launch} (hI : Inj E) (v1 : Int32) (v2 : Int32) (μ : Mem) : MtI E l yX12_speakNight cX12_speakNight 5 (some .int) 410 [.ref (eAd E 122), .int v1, .int v2] μ (fX12_speakNight_122 v1 v2 μ) := by
  refine mtI_of (own := RX12) [(0, .ref (eAd E 122)), (1, .int v1), (2, .int v2)] hI rfl (by decide) (Nat.le_of_ble_eq_true rfl) (Nat.le_of_ble_eq_true rfl) rfl (fun Z hl0 X hr => ?_)
  unfold fX12_speakNight_122
  refine ao_iconst (pc := 0) X dX12_speakNight_0 ic_0 ?_
  refine ao_istore_n (pc := 1) (lv' := [(3, .int (0 : Int32)), (0, .ref (eAd E 122)), (1, .int v1), (2, .int v2)]) X dX12_speakNight_1 rfl (by decide) rfl ?_
  refine ao_sub [1, 2, 3, 0] rfl ?_
  exact bX12_speakNight_122_2 hI hl0 X hr FU v1 v2 (0 : Int32) μ
def fX12_speaks_122 (v1 : Int32) (v2 : Int32) (μ : Mem) : Option (Int32 × Mem) :=
  lt (sI μ 122 17 (0 : Int32)) fun m1 =>
  bnd (fX12_isMan_122 v1 m1) fun r2 m3 =>
  if r2 = 0 then (some ((-1 : Int32), m3))
  else bnd (fX12_in v2 (0 : Int32) (99 : Int32) m3) fun r4 m5 =>
    if r4 = 0 then (some ((-1 : Int32), m5))
    else gd (inb v1 27) (if (gI m5 123 (ix v1)) = 0 then (bnd (fX12_speakNight_122 v1 v2 m5) fun r6 m7 =>
        if 0 ≤ r6 then (lt (sI m7 122 16 (0 : Int32)) fun m8 =>
          bnd (fX12_tell_122 (Int32.toInt64 (gI m8 122 33)) m8) fun r9 m10 =>
          some (r6, m10))
        else some ((-2 : Int32), m7))
      else some ((-3 : Int32), m5))
set_option maxRecDepth 100000 in
set_option maxHeartbeats 4000000 in
theorem mX12_speaks_122 {E : En} {l : Launch} (hI : Inj E) (v1 : Int32) (v2 : Int32) (μ : Mem) : MtI E l yX12_speaks cX12_speaks 4 (some .int) 411 [.ref (eAd E 122), .int v1, .int v2] μ (fX12_speaks_122 v1 v2 μ) := by
  refine mtI_of (own := RX12) [(0, .ref (eAd E 122)), (1, .int v1), (2, .int v2)] hI rfl (by decide) (Nat.le_of_ble_eq_true rfl) (Nat.le_of_ble_eq_true rfl) rfl (fun Z hl0 X hr => ?_)
  unfold fX12_speaks_122
  refine ao_aload_n (pc := 0) X dX12_speaks_0 rfl ?_
  refine ao_iconst (pc := 1) X dX12_speaks_1 ic_0 ?_
  refine ao_putI (pc := 2) X dX12_speaks_2 fp_RX12_95 sf_122_17 ?_
  refine ao_lt (fun m1 => ?_)
  refine ao_aload_n (pc := 5) X dX12_speaks_5 rfl ?_
  refine ao_iload_n (pc := 6) X dX12_speaks_6 rfl ?_
  refine ao_callVI (pc := 7) (As := [.int v1]) (st := []) X hl0 dX12_speaks_7 yv_X12_isMan so_122 ml_RX12_224 (mX12_isMan_122 hI v1 m1) (Nat.le_of_ble_eq_true rfl) rfl rfl (Nat.le_of_ble_eq_true rfl) (fun r2 m3 => ?_)
  refine ao_if_eq (pc := 10) (tgt := 23) X dX12_speaks_10 (by decide) (fun _ => ?_) (fun _ => ?_)
  · refine ao_iconst (pc := 23) X dX12_speaks_23 ic_m1 ?_
    exact ao_iret (pc := 24) X hr dX12_speaks_24
  · refine ao_iload_n (pc := 13) X dX12_speaks_13 rfl ?_
    refine ao_iconst (pc := 14) X dX12_speaks_14 ic_0 ?_
    refine ao_bipush (pc := 15) X dX12_speaks_15 bp_99 ?_
    refine ao_callSI (pc := 17) (As := [.int v2, .int (0 : Int32), .int (99 : Int32)]) (st := []) X hl0 dX12_speaks_17 yv_X12_in ml_RX12_104 (mX12_in hI v2 (0 : Int32) (99 : Int32) m3) (Nat.le_of_ble_eq_true rfl) rfl rfl (Nat.le_of_ble_eq_true rfl) (fun r4 m5 => ?_)
    refine ao_if_ne (pc := 20) (tgt := 25) X dX12_speaks_20 (by decide) (fun _ => ?_) (fun _ => ?_)
    · refine ao_aload_n (pc := 25) X dX12_speaks_25 rfl ?_
      refine ao_getR (pc := 26) X dX12_speaks_26 fl_RX12_9 sf_122_0 ?_
      refine ao_iload_n (pc := 29) X dX12_speaks_29 rfl ?_
      refine ao_iald (pc := 30) X dX12_speaks_30 sa_123 ?_
      refine ao_if_eq (pc := 31) (tgt := 37) X dX12_speaks_31 (by decide) (fun _ => ?_) (fun _ => ?_)
      · refine ao_aload_n (pc := 37) X dX12_speaks_37 rfl ?_
        refine ao_iload_n (pc := 38) X dX12_speaks_38 rfl ?_
        refine ao_iload_n (pc := 39) X dX12_speaks_39 rfl ?_
        refine ao_callVI (pc := 40) (As := [.int v1, .int v2]) (st := []) X hl0 dX12_speaks_40 yv_X12_speakNight so_122 ml_RX12_290 (mX12_speakNight_122 hI v1 v2 m5) (Nat.le_of_ble_eq_true rfl) rfl rfl (Nat.le_of_ble_eq_true rfl) (fun r6 m7 => ?_)
        refine ao_istore_n (pc := 43) (lv' := [(3, .int r6), (0, .ref (eAd E 122)), (1, .int v1), (2, .int v2)]) X dX12_speaks_43 rfl (by decide) rfl ?_
        refine ao_iload_n (pc := 44) X dX12_speaks_44 rfl ?_
        refine ao_if_ge (pc := 45) (tgt := 51) X dX12_speaks_45 (by decide) (fun _ => ?_) (fun _ => ?_)
        · refine ao_aload_n (pc := 51) X dX12_speaks_51 rfl ?_
          refine ao_iconst (pc := 52) X dX12_speaks_52 ic_0 ?_
          refine ao_putI (pc := 53) X dX12_speaks_53 fp_RX12_98 sf_122_16 ?_
          refine ao_lt (fun m8 => ?_)
          refine ao_aload_n (pc := 56) X dX12_speaks_56 rfl ?_
          refine ao_aload_n (pc := 57) X dX12_speaks_57 rfl ?_
          refine ao_getI (pc := 58) X dX12_speaks_58 fl_RX12_283 sf_122_33 ?_
          refine ao_i2l (pc := 61) X dX12_speaks_61 ?_
          refine ao_callVV (pc := 62) (As := [.long (Int32.toInt64 (gI m8 122 33))]) (st := []) X hl0 dX12_speaks_62 yv_X12_tell so_122 ml_RX12_267 (mX12_tell_122 hI (Int32.toInt64 (gI m8 122 33)) m8) (Nat.le_of_ble_eq_true rfl) rfl rfl (Nat.le_of_ble_eq_true rfl) (fun r9 m10 => ?_)
          refine ao_iload_n (pc := 65) X dX12_speaks_65 rfl ?_
          exact ao_iret (pc := 66) X hr dX12_speaks_66
        · refine ao_bipush (pc := 48) X dX12_speaks_48 bp_m2 ?_
          exact ao_iret (pc := 50) X hr dX12_speaks_50
      · refine ao_bipush (pc := 34) X dX12_speaks_34 bp_m3 ?_
        exact ao_iret (pc := 36) X hr dX12_speaks_36
    · refine ao_iconst (pc := 23) X dX12_speaks_23 ic_m1 ?_
      exact ao_iret (pc := 24) X hr dX12_speaks_24
def fX11_least_0_b36 : Nat → Int32 → Int32 → Int32 → Mem → Option (Int32 × Mem)
  | 0, _, _, _, _ => none
  | n + 1, p1, p2, p3, μ =>
  if (99 : Int32) < p3 then (some ((-2 : Int32), μ))
  else bnd (fX4_pleadsIn_33 p1 p3 (gI μ 0 14) μ) fun r5 m6 =>
    if r5 < 0 then (fX11_least_0_b36 n p1 p2 (p3 + (1 : Int32)) m6)
    else if p2 < r5 then (fX11_least_0_b36 n p1 p2 (p3 + (1 : Int32)) m6)
      else bnd (fX7_tell_3 (Int32.toInt64 r5) m6) fun r9 m10 =>
        some (p3, m10)
set_option maxRecDepth 100000 in
set_option maxHeartbeats 4000000 in
theorem bX11_least_0_36 {E : En} {l : Launch} {Z : Zt} (hI : Inj E) (hl0 : lZ l Z) (X : Cx E Z cX11_least RX11 5 6) (hr : rtOf Z = some .int) : ∀ (n : Nat) (p1 : Int32) (p2 : Int32) (p3 : Int32) (μ : Mem), AO E Z 5 (QI E Z) 36 [(0, .ref (eAd E 0)), (1, .int p1), (2, .int p2), (3, .int p3)] [] μ (fX11_least_0_b36 n p1 p2 p3 μ) := by
  intro n
  induction n with
  | zero =>
    intros
    exact ao_none
  | succ n ih =>
    intro p1 p2 p3 μ
    rw [fX11_least_0_b36]
    refine ao_iload_n (pc := 36) X dX11_least_36 rfl ?_
    refine ao_bipush (pc := 37) X dX11_least_37 bp_99 ?_
    refine ao_icmp_gt (pc := 39) (tgt := 86) X dX11_least_39 (by decide) (fun _ => ?_) (fun _ => ?_)
    · refine ao_bipush (pc := 86) X dX11_least_86 bp_m2 ?_
      exact ao_iret (pc := 88) X hr dX11_least_88
    · refine ao_aload_n (pc := 42) X dX11_least_42 rfl ?_
      refine ao_getR (pc := 43) X dX11_least_43 fl_RX11_65 sf_0_7 ?_
      refine ao_iload_n (pc := 46) X dX11_least_46 rfl ?_
      refine ao_iload_n (pc := 47) X dX11_least_47 rfl ?_
      refine ao_aload_n (pc := 48) X dX11_least_48 rfl ?_
      refine ao_getI (pc := 49) X dX11_least_49 fl_RX11_100 sf_0_14 ?_
      refine ao_callVI (pc := 52) (As := [.int p1, .int p3, .int (gI μ 0 14)]) (st := []) X hl0 dX11_least_52 yv_X4_pleadsIn so_33 ml_RX11_271 (mX4_pleadsIn_33 hI p1 p3 (gI μ 0 14) μ) (Nat.le_of_ble_eq_true rfl) rfl rfl (Nat.le_of_ble_eq_true rfl) (fun r5 m6 => ?_)
      refine ao_istore (pc := 55) (lv' := [(4, .int r5), (0, .ref (eAd E 0)), (1, .int p1), (2, .int p2), (3, .int p3)]) X dX11_least_55 (by decide) rfl ?_
      refine ao_iload (pc := 57) X dX11_least_57 rfl ?_
      refine ao_if_lt (pc := 59) (tgt := 80) X dX11_least_59 (by decide) (fun _ => ?_) (fun _ => ?_)
      · refine ao_iinc (pc := 80) (k := 4) (v := p3 + (1 : Int32)) (lv' := [(3, .int (p3 + (1 : Int32))), (4, .int r5), (0, .ref (eAd E 0)), (1, .int p1), (2, .int p2)]) X dX11_least_80 rfl (ii_ic ic_1) (by decide) rfl ?_
        refine ao_goto (pc := 83) (tgt := 36) X dX11_least_83 (by decide) ?_
        refine ao_sub [2, 3, 4, 0] rfl ?_
        exact ih p1 p2 (p3 + (1 : Int32)) m6
      · refine ao_iload (pc := 62) X dX11_least_62 rfl ?_
        refine ao_iload_n (pc := 64) X dX11_least_64 rfl ?_
        refine ao_icmp_gt (pc := 65) (tgt := 80) X dX11_least_65 (by decide) (fun _ => ?_) (fun _ => ?_)
        · refine ao_iinc (pc := 80) (k := 4) (v := p3 + (1 : Int32)) (lv' := [(3, .int (p3 + (1 : Int32))), (4, .int r5), (0, .ref (eAd E 0)), (1, .int p1), (2, .int p2)]) X dX11_least_80 rfl (ii_ic ic_1) (by decide) rfl ?_
          refine ao_goto (pc := 83) (tgt := 36) X dX11_least_83 (by decide) ?_
          refine ao_sub [2, 3, 4, 0] rfl ?_
          exact ih p1 p2 (p3 + (1 : Int32)) m6
        · refine ao_aload_n (pc := 68) X dX11_least_68 rfl ?_
          refine ao_getR (pc := 69) X dX11_least_69 fl_RX11_19 sf_0_1 ?_
          refine ao_iload (pc := 72) X dX11_least_72 rfl ?_
          refine ao_i2l (pc := 74) X dX11_least_74 ?_
          refine ao_callVV (pc := 75) (As := [.long (Int32.toInt64 r5)]) (st := []) X hl0 dX11_least_75 yv_X7_tell so_3 ml_RX11_228 (mX7_tell_3 hI (Int32.toInt64 r5) m6) (Nat.le_of_ble_eq_true rfl) rfl rfl (Nat.le_of_ble_eq_true rfl) (fun r9 m10 => ?_)
          refine ao_iload_n (pc := 78) X dX11_least_78 rfl ?_
          exact ao_iret (pc := 79) X hr dX11_least_79
def fX11_least_0 (v1 : Int32) (v2 : Int32) (μ : Mem) : Option (Int32 × Mem) :=
  bnd (fX11_isThere_0 v1 μ) fun r1 m2 =>
  if r1 = 0 then (some ((-1 : Int32), m2))
  else if v2 < 0 then (some ((-1 : Int32), m2))
    else if v2 ≤ (60 : Int32) then (bnd (fX4_isSilent_33 v1 m2) fun r3 m4 =>
        if r3 = 0 then (some ((-3 : Int32), m4))
        else fX11_least_0_b36 FU v1 v2 (0 : Int32) m4)
      else some ((-1 : Int32), m2)
set_option maxRecDepth 100000 in
set_option maxHeartbeats 4000000 in
theorem mX11_least_0 {E : En} {l : Launch} (hI : Inj E) (v1 : Int32) (v2 : Int32) (μ : Mem) : MtI E l yX11_least cX11_least 5 (some .int) 6 [.ref (eAd E 0), .int v1, .int v2] μ (fX11_least_0 v1 v2 μ) := by
  refine mtI_of (own := RX11) [(0, .ref (eAd E 0)), (1, .int v1), (2, .int v2)] hI rfl (by decide) (Nat.le_of_ble_eq_true rfl) (Nat.le_of_ble_eq_true rfl) rfl (fun Z hl0 X hr => ?_)
  unfold fX11_least_0
  refine ao_aload_n (pc := 0) X dX11_least_0 rfl ?_
  refine ao_iload_n (pc := 1) X dX11_least_1 rfl ?_
  refine ao_callVI (pc := 2) (As := [.int v1]) (st := []) X hl0 dX11_least_2 yv_X11_isThere so_0 ml_RX11_147 (mX11_isThere_0 hI v1 μ) (Nat.le_of_ble_eq_true rfl) rfl rfl (Nat.le_of_ble_eq_true rfl) (fun r1 m2 => ?_)
  refine ao_if_eq (pc := 5) (tgt := 18) X dX11_least_5 (by decide) (fun _ => ?_) (fun _ => ?_)
  · refine ao_iconst (pc := 18) X dX11_least_18 ic_m1 ?_
    exact ao_iret (pc := 19) X hr dX11_least_19
  · refine ao_iload_n (pc := 8) X dX11_least_8 rfl ?_
    refine ao_if_lt (pc := 9) (tgt := 18) X dX11_least_9 (by decide) (fun _ => ?_) (fun _ => ?_)
    · refine ao_iconst (pc := 18) X dX11_least_18 ic_m1 ?_
      exact ao_iret (pc := 19) X hr dX11_least_19
    · refine ao_iload_n (pc := 12) X dX11_least_12 rfl ?_
      refine ao_bipush (pc := 13) X dX11_least_13 bp_60 ?_
      refine ao_icmp_le (pc := 15) (tgt := 20) X dX11_least_15 (by decide) (fun _ => ?_) (fun _ => ?_)
      · refine ao_aload_n (pc := 20) X dX11_least_20 rfl ?_
        refine ao_getR (pc := 21) X dX11_least_21 fl_RX11_65 sf_0_7 ?_
        refine ao_iload_n (pc := 24) X dX11_least_24 rfl ?_
        refine ao_callVI (pc := 25) (As := [.int v1]) (st := []) X hl0 dX11_least_25 yv_X4_isSilent so_33 ml_RX11_261 (mX4_isSilent_33 hI v1 m2) (Nat.le_of_ble_eq_true rfl) rfl rfl (Nat.le_of_ble_eq_true rfl) (fun r3 m4 => ?_)
        refine ao_if_ne (pc := 28) (tgt := 34) X dX11_least_28 (by decide) (fun _ => ?_) (fun _ => ?_)
        · refine ao_iconst (pc := 34) X dX11_least_34 ic_0 ?_
          refine ao_istore_n (pc := 35) (lv' := [(3, .int (0 : Int32)), (0, .ref (eAd E 0)), (1, .int v1), (2, .int v2)]) X dX11_least_35 rfl (by decide) rfl ?_
          refine ao_sub [1, 2, 3, 0] rfl ?_
          exact bX11_least_0_36 hI hl0 X hr FU v1 v2 (0 : Int32) m4
        · refine ao_bipush (pc := 31) X dX11_least_31 bp_m3 ?_
          exact ao_iret (pc := 33) X hr dX11_least_33
      · refine ao_iconst (pc := 18) X dX11_least_18 ic_m1 ?_
        exact ao_iret (pc := 19) X hr dX11_least_19
def fX12_least_122_b39 : Nat → Int32 → Int32 → Int32 → Mem → Option (Int32 × Mem)
  | 0, _, _, _, _ => none
  | n + 1, p1, p2, p3, μ =>
  if (99 : Int32) < p3 then (some ((-2 : Int32), μ))
  else bnd (fX12_speakNight_122 p1 p3 μ) fun r6 m7 =>
    bnd (fX12_in r6 (0 : Int32) p2 m7) fun r8 m9 =>
    if r8 = 0 then (fX12_least_122_b39 n p1 p2 (p3 + (1 : Int32)) m9)
    else lt (sI m9 122 16 (0 : Int32)) fun m10 =>
      bnd (fX12_tell_122 (Int32.toInt64 r6) m10) fun r11 m12 =>
      some (p3, m12)
set_option maxRecDepth 100000 in
set_option maxHeartbeats 4000000 in
theorem bX12_least_122_39 {E : En} {l : Launch} {Z : Zt} (hI : Inj E) (hl0 : lZ l Z) (X : Cx E Z cX12_least RX12 5 411) (hr : rtOf Z = some .int) : ∀ (n : Nat) (p1 : Int32) (p2 : Int32) (p3 : Int32) (μ : Mem), AO E Z 5 (QI E Z) 39 [(0, .ref (eAd E 122)), (1, .int p1), (2, .int p2), (3, .int p3)] [] μ (fX12_least_122_b39 n p1 p2 p3 μ) := by
  intro n
  induction n with
  | zero =>
    intros
    exact ao_none
  | succ n ih =>
    intro p1 p2 p3 μ
    rw [fX12_least_122_b39]
    refine ao_iload_n (pc := 39) X dX12_least_39 rfl ?_
    refine ao_bipush (pc := 40) X dX12_least_40 bp_99 ?_
    refine ao_icmp_gt (pc := 42) (tgt := 86) X dX12_least_42 (by decide) (fun _ => ?_) (fun _ => ?_)
    · refine ao_bipush (pc := 86) X dX12_least_86 bp_m2 ?_
      exact ao_iret (pc := 88) X hr dX12_least_88
    · refine ao_aload_n (pc := 45) X dX12_least_45 rfl ?_
      refine ao_iload_n (pc := 46) X dX12_least_46 rfl ?_
      refine ao_iload_n (pc := 47) X dX12_least_47 rfl ?_
      refine ao_callVI (pc := 48) (As := [.int p1, .int p3]) (st := []) X hl0 dX12_least_48 yv_X12_speakNight so_122 ml_RX12_290 (mX12_speakNight_122 hI p1 p3 μ) (Nat.le_of_ble_eq_true rfl) rfl rfl (Nat.le_of_ble_eq_true rfl) (fun r6 m7 => ?_)
      refine ao_istore (pc := 51) (lv' := [(4, .int r6), (0, .ref (eAd E 122)), (1, .int p1), (2, .int p2), (3, .int p3)]) X dX12_least_51 (by decide) rfl ?_
      refine ao_iload (pc := 53) X dX12_least_53 rfl ?_
      refine ao_iconst (pc := 55) X dX12_least_55 ic_0 ?_
      refine ao_iload_n (pc := 56) X dX12_least_56 rfl ?_
      refine ao_callSI (pc := 57) (As := [.int r6, .int (0 : Int32), .int p2]) (st := []) X hl0 dX12_least_57 yv_X12_in ml_RX12_104 (mX12_in hI r6 (0 : Int32) p2 m7) (Nat.le_of_ble_eq_true rfl) rfl rfl (Nat.le_of_ble_eq_true rfl) (fun r8 m9 => ?_)
      refine ao_if_ne (pc := 60) (tgt := 66) X dX12_least_60 (by decide) (fun _ => ?_) (fun _ => ?_)
      · refine ao_aload_n (pc := 66) X dX12_least_66 rfl ?_
        refine ao_iconst (pc := 67) X dX12_least_67 ic_0 ?_
        refine ao_putI (pc := 68) X dX12_least_68 fp_RX12_98 sf_122_16 ?_
        refine ao_lt (fun m10 => ?_)
        refine ao_aload_n (pc := 71) X dX12_least_71 rfl ?_
        refine ao_iload (pc := 72) X dX12_least_72 rfl ?_
        refine ao_i2l (pc := 74) X dX12_least_74 ?_
        refine ao_callVV (pc := 75) (As := [.long (Int32.toInt64 r6)]) (st := []) X hl0 dX12_least_75 yv_X12_tell so_122 ml_RX12_267 (mX12_tell_122 hI (Int32.toInt64 r6) m10) (Nat.le_of_ble_eq_true rfl) rfl rfl (Nat.le_of_ble_eq_true rfl) (fun r11 m12 => ?_)
        refine ao_iload_n (pc := 78) X dX12_least_78 rfl ?_
        exact ao_iret (pc := 79) X hr dX12_least_79
      · refine ao_goto (pc := 63) (tgt := 80) X dX12_least_63 (by decide) ?_
        refine ao_iinc (pc := 80) (k := 4) (v := p3 + (1 : Int32)) (lv' := [(3, .int (p3 + (1 : Int32))), (4, .int r6), (0, .ref (eAd E 122)), (1, .int p1), (2, .int p2)]) X dX12_least_80 rfl (ii_ic ic_1) (by decide) rfl ?_
        refine ao_goto (pc := 83) (tgt := 39) X dX12_least_83 (by decide) ?_
        refine ao_sub [2, 3, 4, 0] rfl ?_
        exact ih p1 p2 (p3 + (1 : Int32)) m9
def fX12_least_122 (v1 : Int32) (v2 : Int32) (μ : Mem) : Option (Int32 × Mem) :=
  lt (sI μ 122 17 (0 : Int32)) fun m1 =>
  bnd (fX12_isMan_122 v1 m1) fun r2 m3 =>
  if r2 = 0 then (some ((-1 : Int32), m3))
  else bnd (fX12_in v2 (0 : Int32) (60 : Int32) m3) fun r4 m5 =>
    if r4 = 0 then (some ((-1 : Int32), m5))
    else gd (inb v1 27) (if (gI m5 123 (ix v1)) = 0 then (fX12_least_122_b39 FU v1 v2 (0 : Int32) m5)
      else some ((-3 : Int32), m5))
set_option maxRecDepth 100000 in
set_option maxHeartbeats 4000000 in
theorem mX12_least_122 {E : En} {l : Launch} (hI : Inj E) (v1 : Int32) (v2 : Int32) (μ : Mem) : MtI E l yX12_least cX12_least 5 (some .int) 411 [.ref (eAd E 122), .int v1, .int v2] μ (fX12_least_122 v1 v2 μ) := by
  refine mtI_of (own := RX12) [(0, .ref (eAd E 122)), (1, .int v1), (2, .int v2)] hI rfl (by decide) (Nat.le_of_ble_eq_true rfl) (Nat.le_of_ble_eq_true rfl) rfl (fun Z hl0 X hr => ?_)
  unfold fX12_least_122
  refine ao_aload_n (pc := 0) X dX12_least_0 rfl ?_
  refine ao_iconst (pc := 1) X dX12_least_1 ic_0 ?_
  refine ao_putI (pc := 2) X dX12_least_2 fp_RX12_95 sf_122_17 ?_
  refine ao_lt (fun m1 => ?_)
  refine ao_aload_n (pc := 5) X dX12_least_5 rfl ?_
  refine ao_iload_n (pc := 6) X dX12_least_6 rfl ?_
  refine ao_callVI (pc := 7) (As := [.int v1]) (st := []) X hl0 dX12_least_7 yv_X12_isMan so_122 ml_RX12_224 (mX12_isMan_122 hI v1 m1) (Nat.le_of_ble_eq_true rfl) rfl rfl (Nat.le_of_ble_eq_true rfl) (fun r2 m3 => ?_)
  refine ao_if_eq (pc := 10) (tgt := 23) X dX12_least_10 (by decide) (fun _ => ?_) (fun _ => ?_)
  · refine ao_iconst (pc := 23) X dX12_least_23 ic_m1 ?_
    exact ao_iret (pc := 24) X hr dX12_least_24
  · refine ao_iload_n (pc := 13) X dX12_least_13 rfl ?_
    refine ao_iconst (pc := 14) X dX12_least_14 ic_0 ?_
    refine ao_bipush (pc := 15) X dX12_least_15 bp_60 ?_
    refine ao_callSI (pc := 17) (As := [.int v2, .int (0 : Int32), .int (60 : Int32)]) (st := []) X hl0 dX12_least_17 yv_X12_in ml_RX12_104 (mX12_in hI v2 (0 : Int32) (60 : Int32) m3) (Nat.le_of_ble_eq_true rfl) rfl rfl (Nat.le_of_ble_eq_true rfl) (fun r4 m5 => ?_)
    refine ao_if_ne (pc := 20) (tgt := 25) X dX12_least_20 (by decide) (fun _ => ?_) (fun _ => ?_)
    · refine ao_aload_n (pc := 25) X dX12_least_25 rfl ?_
      refine ao_getR (pc := 26) X dX12_least_26 fl_RX12_9 sf_122_0 ?_
      refine ao_iload_n (pc := 29) X dX12_least_29 rfl ?_
      refine ao_iald (pc := 30) X dX12_least_30 sa_123 ?_
      refine ao_if_eq (pc := 31) (tgt := 37) X dX12_least_31 (by decide) (fun _ => ?_) (fun _ => ?_)
      · refine ao_iconst (pc := 37) X dX12_least_37 ic_0 ?_
        refine ao_istore_n (pc := 38) (lv' := [(3, .int (0 : Int32)), (0, .ref (eAd E 122)), (1, .int v1), (2, .int v2)]) X dX12_least_38 rfl (by decide) rfl ?_
        refine ao_sub [1, 2, 3, 0] rfl ?_
        exact bX12_least_122_39 hI hl0 X hr FU v1 v2 (0 : Int32) m5
      · refine ao_bipush (pc := 34) X dX12_least_34 bp_m3 ?_
        exact ao_iret (pc := 36) X hr dX12_least_36
    · refine ao_iconst (pc := 23) X dX12_least_23 ic_m1 ?_
      exact ao_iret (pc := 24) X hr dX12_least_24
def fX11_mercy_0_b38 : Nat → Int32 → Int32 → Int32 → Mem → Option (Int32 × Mem)
  | 0, _, _, _, _ => none
  | n + 1, p1, p2, p3, μ =>
  if p3 ≤ 0 then (some ((0 : Int32), μ))
  else bnd (fX4_diesIn_33 p1 p3 p2 (-1 : Int32) μ) fun r5 m6 =>
    if r5 = (-2 : Int32) then (some (p3, m6))
    else fX11_mercy_0_b38 n p1 p2 (p3 + (-1 : Int32)) m6
set_option maxRecDepth 100000 in
set_option maxHeartbeats 4000000 in
theorem bX11_mercy_0_38 {E : En} {l : Launch} {Z : Zt} (hI : Inj E) (hl0 : lZ l Z) (X : Cx E Z cX11_mercy RX11 4 6) (hr : rtOf Z = some .int) : ∀ (n : Nat) (p1 : Int32) (p2 : Int32) (p3 : Int32) (μ : Mem), AO E Z 4 (QI E Z) 38 [(0, .ref (eAd E 0)), (1, .int p1), (2, .int p2), (3, .int p3)] [] μ (fX11_mercy_0_b38 n p1 p2 p3 μ) := by
  intro n
  induction n with
  | zero =>
    intros
    exact ao_none
  | succ n ih =>
    intro p1 p2 p3 μ
    rw [fX11_mercy_0_b38]
    refine ao_iload_n (pc := 38) X dX11_mercy_38 rfl ?_
    refine ao_if_le (pc := 39) (tgt := 66) X dX11_mercy_39 (by decide) (fun _ => ?_) (fun _ => ?_)
    · refine ao_iconst (pc := 66) X dX11_mercy_66 ic_0 ?_
      exact ao_iret (pc := 67) X hr dX11_mercy_67
    · refine ao_aload_n (pc := 42) X dX11_mercy_42 rfl ?_
      refine ao_getR (pc := 43) X dX11_mercy_43 fl_RX11_65 sf_0_7 ?_
      refine ao_iload_n (pc := 46) X dX11_mercy_46 rfl ?_
      refine ao_iload_n (pc := 47) X dX11_mercy_47 rfl ?_
      refine ao_iload_n (pc := 48) X dX11_mercy_48 rfl ?_
      refine ao_iconst (pc := 49) X dX11_mercy_49 ic_m1 ?_
      refine ao_callVI (pc := 50) (As := [.int p1, .int p3, .int p2, .int (-1 : Int32)]) (st := []) X hl0 dX11_mercy_50 yv_X4_diesIn so_33 ml_RX11_264 (mX4_diesIn_33 hI p1 p3 p2 (-1 : Int32) μ) (Nat.le_of_ble_eq_true rfl) rfl rfl (Nat.le_of_ble_eq_true rfl) (fun r5 m6 => ?_)
      refine ao_bipush (pc := 53) X dX11_mercy_53 bp_m2 ?_
      refine ao_icmp_ne (pc := 55) (tgt := 60) X dX11_mercy_55 (by decide) (fun _ => ?_) (fun _ => ?_)
      · refine ao_iinc (pc := 60) (k := 3) (v := p3 + (-1 : Int32)) (lv' := [(3, .int (p3 + (-1 : Int32))), (0, .ref (eAd E 0)), (1, .int p1), (2, .int p2)]) X dX11_mercy_60 rfl (ii_ic ic_m1) (by decide) rfl ?_
        refine ao_goto (pc := 63) (tgt := 38) X dX11_mercy_63 (by decide) ?_
        refine ao_sub [1, 2, 3, 0] rfl ?_
        exact ih p1 p2 (p3 + (-1 : Int32)) m6
      · refine ao_iload_n (pc := 58) X dX11_mercy_58 rfl ?_
        exact ao_iret (pc := 59) X hr dX11_mercy_59
def fX11_mercy_0 (v1 : Int32) (v2 : Int32) (μ : Mem) : Option (Int32 × Mem) :=
  bnd (fX11_isThere_0 v1 μ) fun r1 m2 =>
  if r1 = 0 then (some ((-1 : Int32), m2))
  else if v2 < (1 : Int32) then (some ((-1 : Int32), m2))
    else if v2 ≤ (60 : Int32) then (bnd (fX4_isSilent_33 v1 m2) fun r3 m4 =>
        if r3 = 0 then (some ((-3 : Int32), m4))
        else fX11_mercy_0_b38 FU v1 v2 (99 : Int32) m4)
      else some ((-1 : Int32), m2)
set_option maxRecDepth 100000 in
set_option maxHeartbeats 4000000 in
theorem mX11_mercy_0 {E : En} {l : Launch} (hI : Inj E) (v1 : Int32) (v2 : Int32) (μ : Mem) : MtI E l yX11_mercy cX11_mercy 4 (some .int) 6 [.ref (eAd E 0), .int v1, .int v2] μ (fX11_mercy_0 v1 v2 μ) := by
  refine mtI_of (own := RX11) [(0, .ref (eAd E 0)), (1, .int v1), (2, .int v2)] hI rfl (by decide) (Nat.le_of_ble_eq_true rfl) (Nat.le_of_ble_eq_true rfl) rfl (fun Z hl0 X hr => ?_)
  unfold fX11_mercy_0
  refine ao_aload_n (pc := 0) X dX11_mercy_0 rfl ?_
  refine ao_iload_n (pc := 1) X dX11_mercy_1 rfl ?_
  refine ao_callVI (pc := 2) (As := [.int v1]) (st := []) X hl0 dX11_mercy_2 yv_X11_isThere so_0 ml_RX11_147 (mX11_isThere_0 hI v1 μ) (Nat.le_of_ble_eq_true rfl) rfl rfl (Nat.le_of_ble_eq_true rfl) (fun r1 m2 => ?_)
  refine ao_if_eq (pc := 5) (tgt := 19) X dX11_mercy_5 (by decide) (fun _ => ?_) (fun _ => ?_)
  · refine ao_iconst (pc := 19) X dX11_mercy_19 ic_m1 ?_
    exact ao_iret (pc := 20) X hr dX11_mercy_20
  · refine ao_iload_n (pc := 8) X dX11_mercy_8 rfl ?_
    refine ao_iconst (pc := 9) X dX11_mercy_9 ic_1 ?_
    refine ao_icmp_lt (pc := 10) (tgt := 19) X dX11_mercy_10 (by decide) (fun _ => ?_) (fun _ => ?_)
    · refine ao_iconst (pc := 19) X dX11_mercy_19 ic_m1 ?_
      exact ao_iret (pc := 20) X hr dX11_mercy_20
    · refine ao_iload_n (pc := 13) X dX11_mercy_13 rfl ?_
      refine ao_bipush (pc := 14) X dX11_mercy_14 bp_60 ?_
      refine ao_icmp_le (pc := 16) (tgt := 21) X dX11_mercy_16 (by decide) (fun _ => ?_) (fun _ => ?_)
      · refine ao_aload_n (pc := 21) X dX11_mercy_21 rfl ?_
        refine ao_getR (pc := 22) X dX11_mercy_22 fl_RX11_65 sf_0_7 ?_
        refine ao_iload_n (pc := 25) X dX11_mercy_25 rfl ?_
        refine ao_callVI (pc := 26) (As := [.int v1]) (st := []) X hl0 dX11_mercy_26 yv_X4_isSilent so_33 ml_RX11_261 (mX4_isSilent_33 hI v1 m2) (Nat.le_of_ble_eq_true rfl) rfl rfl (Nat.le_of_ble_eq_true rfl) (fun r3 m4 => ?_)
        refine ao_if_ne (pc := 29) (tgt := 35) X dX11_mercy_29 (by decide) (fun _ => ?_) (fun _ => ?_)
        · refine ao_bipush (pc := 35) X dX11_mercy_35 bp_99 ?_
          refine ao_istore_n (pc := 37) (lv' := [(3, .int (99 : Int32)), (0, .ref (eAd E 0)), (1, .int v1), (2, .int v2)]) X dX11_mercy_37 rfl (by decide) rfl ?_
          refine ao_sub [1, 2, 3, 0] rfl ?_
          exact bX11_mercy_0_38 hI hl0 X hr FU v1 v2 (99 : Int32) m4
        · refine ao_bipush (pc := 32) X dX11_mercy_32 bp_m3 ?_
          exact ao_iret (pc := 34) X hr dX11_mercy_34
      · refine ao_iconst (pc := 19) X dX11_mercy_19 ic_m1 ?_
        exact ao_iret (pc := 20) X hr dX11_mercy_20
def fX12_mercy_122_b40 : Nat → Int32 → Int32 → Int32 → Mem → Option (Int32 × Mem)
  | 0, _, _, _, _ => none
  | n + 1, p1, p2, p3, μ =>
  bnd (fX12_dieNight_122 p1 p3 p2 (0 : Int32) μ) fun r6 m7 =>
  if r6 ≤ 0 then (some (p3, m7))
  else fX12_mercy_122_b40 n p1 p2 (p3 + (-1 : Int32)) m7
set_option maxRecDepth 100000 in
set_option maxHeartbeats 4000000 in
theorem bX12_mercy_122_40 {E : En} {l : Launch} {Z : Zt} (hI : Inj E) (hl0 : lZ l Z) (X : Cx E Z cX12_mercy RX12 4 411) (hr : rtOf Z = some .int) : ∀ (n : Nat) (p1 : Int32) (p2 : Int32) (p3 : Int32) (μ : Mem), AO E Z 4 (QI E Z) 40 [(0, .ref (eAd E 122)), (1, .int p1), (2, .int p2), (3, .int p3)] [] μ (fX12_mercy_122_b40 n p1 p2 p3 μ) := by
  intro n
  induction n with
  | zero =>
    intros
    exact ao_none
  | succ n ih =>
    intro p1 p2 p3 μ
    rw [fX12_mercy_122_b40]
    refine ao_aload_n (pc := 40) X dX12_mercy_40 rfl ?_
    refine ao_iload_n (pc := 41) X dX12_mercy_41 rfl ?_
    refine ao_iload_n (pc := 42) X dX12_mercy_42 rfl ?_
    refine ao_iload_n (pc := 43) X dX12_mercy_43 rfl ?_
    refine ao_iconst (pc := 44) X dX12_mercy_44 ic_0 ?_
    refine ao_callVI (pc := 45) (As := [.int p1, .int p3, .int p2, .int (0 : Int32)]) (st := []) X hl0 dX12_mercy_45 yv_X12_dieNight so_122 ml_RX12_286 (mX12_dieNight_122 hI p1 p3 p2 (0 : Int32) μ) (Nat.le_of_ble_eq_true rfl) rfl rfl (Nat.le_of_ble_eq_true rfl) (fun r6 m7 => ?_)
    refine ao_if_le (pc := 48) (tgt := 57) X dX12_mercy_48 (by decide) (fun _ => ?_) (fun _ => ?_)
    · refine ao_iload_n (pc := 57) X dX12_mercy_57 rfl ?_
      exact ao_iret (pc := 58) X hr dX12_mercy_58
    · refine ao_iinc (pc := 51) (k := 3) (v := p3 + (-1 : Int32)) (lv' := [(3, .int (p3 + (-1 : Int32))), (0, .ref (eAd E 122)), (1, .int p1), (2, .int p2)]) X dX12_mercy_51 rfl (ii_ic ic_m1) (by decide) rfl ?_
      refine ao_goto (pc := 54) (tgt := 40) X dX12_mercy_54 (by decide) ?_
      refine ao_sub [1, 2, 3, 0] rfl ?_
      exact ih p1 p2 (p3 + (-1 : Int32)) m7
def fX12_mercy_122 (v1 : Int32) (v2 : Int32) (μ : Mem) : Option (Int32 × Mem) :=
  lt (sI μ 122 17 (0 : Int32)) fun m1 =>
  bnd (fX12_isMan_122 v1 m1) fun r2 m3 =>
  if r2 = 0 then (some ((-1 : Int32), m3))
  else bnd (fX12_in v2 (1 : Int32) (60 : Int32) m3) fun r4 m5 =>
    if r4 = 0 then (some ((-1 : Int32), m5))
    else gd (inb v1 27) (if (gI m5 123 (ix v1)) = 0 then (fX12_mercy_122_b40 FU v1 v2 (99 : Int32) m5)
      else some ((-3 : Int32), m5))
set_option maxRecDepth 100000 in
set_option maxHeartbeats 4000000 in
theorem mX12_mercy_122 {E : En} {l : Launch} (hI : Inj E) (v1 : Int32) (v2 : Int32) (μ : Mem) : MtI E l yX12_mercy cX12_mercy 4 (some .int) 411 [.ref (eAd E 122), .int v1, .int v2] μ (fX12_mercy_122 v1 v2 μ) := by
  refine mtI_of (own := RX12) [(0, .ref (eAd E 122)), (1, .int v1), (2, .int v2)] hI rfl (by decide) (Nat.le_of_ble_eq_true rfl) (Nat.le_of_ble_eq_true rfl) rfl (fun Z hl0 X hr => ?_)
  unfold fX12_mercy_122
  refine ao_aload_n (pc := 0) X dX12_mercy_0 rfl ?_
  refine ao_iconst (pc := 1) X dX12_mercy_1 ic_0 ?_
  refine ao_putI (pc := 2) X dX12_mercy_2 fp_RX12_95 sf_122_17 ?_
  refine ao_lt (fun m1 => ?_)
  refine ao_aload_n (pc := 5) X dX12_mercy_5 rfl ?_
  refine ao_iload_n (pc := 6) X dX12_mercy_6 rfl ?_
  refine ao_callVI (pc := 7) (As := [.int v1]) (st := []) X hl0 dX12_mercy_7 yv_X12_isMan so_122 ml_RX12_224 (mX12_isMan_122 hI v1 m1) (Nat.le_of_ble_eq_true rfl) rfl rfl (Nat.le_of_ble_eq_true rfl) (fun r2 m3 => ?_)
  refine ao_if_eq (pc := 10) (tgt := 23) X dX12_mercy_10 (by decide) (fun _ => ?_) (fun _ => ?_)
  · refine ao_iconst (pc := 23) X dX12_mercy_23 ic_m1 ?_
    exact ao_iret (pc := 24) X hr dX12_mercy_24
  · refine ao_iload_n (pc := 13) X dX12_mercy_13 rfl ?_
    refine ao_iconst (pc := 14) X dX12_mercy_14 ic_1 ?_
    refine ao_bipush (pc := 15) X dX12_mercy_15 bp_60 ?_
    refine ao_callSI (pc := 17) (As := [.int v2, .int (1 : Int32), .int (60 : Int32)]) (st := []) X hl0 dX12_mercy_17 yv_X12_in ml_RX12_104 (mX12_in hI v2 (1 : Int32) (60 : Int32) m3) (Nat.le_of_ble_eq_true rfl) rfl rfl (Nat.le_of_ble_eq_true rfl) (fun r4 m5 => ?_)
    refine ao_if_ne (pc := 20) (tgt := 25) X dX12_mercy_20 (by decide) (fun _ => ?_) (fun _ => ?_)
    · refine ao_aload_n (pc := 25) X dX12_mercy_25 rfl ?_
      refine ao_getR (pc := 26) X dX12_mercy_26 fl_RX12_9 sf_122_0 ?_
      refine ao_iload_n (pc := 29) X dX12_mercy_29 rfl ?_
      refine ao_iald (pc := 30) X dX12_mercy_30 sa_123 ?_
      refine ao_if_eq (pc := 31) (tgt := 37) X dX12_mercy_31 (by decide) (fun _ => ?_) (fun _ => ?_)
      · refine ao_bipush (pc := 37) X dX12_mercy_37 bp_99 ?_
        refine ao_istore_n (pc := 39) (lv' := [(3, .int (99 : Int32)), (0, .ref (eAd E 122)), (1, .int v1), (2, .int v2)]) X dX12_mercy_39 rfl (by decide) rfl ?_
        refine ao_sub [1, 2, 3, 0] rfl ?_
        exact bX12_mercy_122_40 hI hl0 X hr FU v1 v2 (99 : Int32) m5
      · refine ao_bipush (pc := 34) X dX12_mercy_34 bp_m3 ?_
        exact ao_iret (pc := 36) X hr dX12_mercy_36
    · refine ao_iconst (pc := 23) X dX12_mercy_23 ic_m1 ?_
      exact ao_iret (pc := 24) X hr dX12_mercy_24
def fX11_longest_0_b33 : Nat → Int32 → Int32 → Int32 → Int32 → Mem → Option (Int32 × Mem)
  | 0, _, _, _, _, _ => none
  | n + 1, p1, p2, p3, p4, μ =>
  if (99 : Int32) < p4 then (if p2 < 0 then (some (p2, μ))
    else bnd (fX7_tell_3 (Int32.toInt64 p3) μ) fun r5 m6 =>
      some (p2, m6))
  else bnd (fX4_pleadsIn_33 p1 p4 (gI μ 0 14) μ) fun r7 m8 =>
    if r7 ≤ p3 then (fX11_longest_0_b33 n p1 p2 p3 (p4 + (1 : Int32)) m8)
    else fX11_longest_0_b33 n p1 p4 r7 (p4 + (1 : Int32)) m8
set_option maxRecDepth 100000 in
set_option maxHeartbeats 4000000 in
theorem bX11_longest_0_33 {E : En} {l : Launch} {Z : Zt} (hI : Inj E) (hl0 : lZ l Z) (X : Cx E Z cX11_longest RX11 6 6) (hr : rtOf Z = some .int) : ∀ (n : Nat) (p1 : Int32) (p2 : Int32) (p3 : Int32) (p4 : Int32) (μ : Mem), AO E Z 6 (QI E Z) 33 [(0, .ref (eAd E 0)), (1, .int p1), (2, .int p2), (3, .int p3), (4, .int p4)] [] μ (fX11_longest_0_b33 n p1 p2 p3 p4 μ) := by
  intro n
  induction n with
  | zero =>
    intros
    exact ao_none
  | succ n ih =>
    intro p1 p2 p3 p4 μ
    rw [fX11_longest_0_b33]
    refine ao_iload (pc := 33) X dX11_longest_33 rfl ?_
    refine ao_bipush (pc := 35) X dX11_longest_35 bp_99 ?_
    refine ao_icmp_gt (pc := 37) (tgt := 74) X dX11_longest_37 (by decide) (fun _ => ?_) (fun _ => ?_)
    · refine ao_iload_n (pc := 74) X dX11_longest_74 rfl ?_
      refine ao_if_lt (pc := 75) (tgt := 87) X dX11_longest_75 (by decide) (fun _ => ?_) (fun _ => ?_)
      · refine ao_iload_n (pc := 87) X dX11_longest_87 rfl ?_
        exact ao_iret (pc := 88) X hr dX11_longest_88
      · refine ao_aload_n (pc := 78) X dX11_longest_78 rfl ?_
        refine ao_getR (pc := 79) X dX11_longest_79 fl_RX11_19 sf_0_1 ?_
        refine ao_iload_n (pc := 82) X dX11_longest_82 rfl ?_
        refine ao_i2l (pc := 83) X dX11_longest_83 ?_
        refine ao_callVV (pc := 84) (As := [.long (Int32.toInt64 p3)]) (st := []) X hl0 dX11_longest_84 yv_X7_tell so_3 ml_RX11_228 (mX7_tell_3 hI (Int32.toInt64 p3) μ) (Nat.le_of_ble_eq_true rfl) rfl rfl (Nat.le_of_ble_eq_true rfl) (fun r5 m6 => ?_)
        refine ao_iload_n (pc := 87) X dX11_longest_87 rfl ?_
        exact ao_iret (pc := 88) X hr dX11_longest_88
    · refine ao_aload_n (pc := 40) X dX11_longest_40 rfl ?_
      refine ao_getR (pc := 41) X dX11_longest_41 fl_RX11_65 sf_0_7 ?_
      refine ao_iload_n (pc := 44) X dX11_longest_44 rfl ?_
      refine ao_iload (pc := 45) X dX11_longest_45 rfl ?_
      refine ao_aload_n (pc := 47) X dX11_longest_47 rfl ?_
      refine ao_getI (pc := 48) X dX11_longest_48 fl_RX11_100 sf_0_14 ?_
      refine ao_callVI (pc := 51) (As := [.int p1, .int p4, .int (gI μ 0 14)]) (st := []) X hl0 dX11_longest_51 yv_X4_pleadsIn so_33 ml_RX11_271 (mX4_pleadsIn_33 hI p1 p4 (gI μ 0 14) μ) (Nat.le_of_ble_eq_true rfl) rfl rfl (Nat.le_of_ble_eq_true rfl) (fun r7 m8 => ?_)
      refine ao_istore (pc := 54) (lv' := [(5, .int r7), (0, .ref (eAd E 0)), (1, .int p1), (2, .int p2), (3, .int p3), (4, .int p4)]) X dX11_longest_54 (by decide) rfl ?_
      refine ao_iload (pc := 56) X dX11_longest_56 rfl ?_
      refine ao_iload_n (pc := 58) X dX11_longest_58 rfl ?_
      refine ao_icmp_le (pc := 59) (tgt := 68) X dX11_longest_59 (by decide) (fun _ => ?_) (fun _ => ?_)
      · refine ao_iinc (pc := 68) (k := 5) (v := p4 + (1 : Int32)) (lv' := [(4, .int (p4 + (1 : Int32))), (5, .int r7), (0, .ref (eAd E 0)), (1, .int p1), (2, .int p2), (3, .int p3)]) X dX11_longest_68 rfl (ii_ic ic_1) (by decide) rfl ?_
        refine ao_goto (pc := 71) (tgt := 33) X dX11_longest_71 (by decide) ?_
        refine ao_sub [2, 3, 4, 5, 0] rfl ?_
        exact ih p1 p2 p3 (p4 + (1 : Int32)) m8
      · refine ao_iload (pc := 62) X dX11_longest_62 rfl ?_
        refine ao_istore_n (pc := 64) (lv' := [(2, .int p4), (5, .int r7), (0, .ref (eAd E 0)), (1, .int p1), (3, .int p3), (4, .int p4)]) X dX11_longest_64 rfl (by decide) rfl ?_
        refine ao_iload (pc := 65) X dX11_longest_65 rfl ?_
        refine ao_istore_n (pc := 67) (lv' := [(3, .int r7), (2, .int p4), (5, .int r7), (0, .ref (eAd E 0)), (1, .int p1), (4, .int p4)]) X dX11_longest_67 rfl (by decide) rfl ?_
        refine ao_iinc (pc := 68) (k := 5) (v := p4 + (1 : Int32)) (lv' := [(4, .int (p4 + (1 : Int32))), (3, .int r7), (2, .int p4), (5, .int r7), (0, .ref (eAd E 0)), (1, .int p1)]) X dX11_longest_68 rfl (ii_ic ic_1) (by decide) rfl ?_
        refine ao_goto (pc := 71) (tgt := 33) X dX11_longest_71 (by decide) ?_
        refine ao_sub [4, 5, 2, 1, 0] rfl ?_
        exact ih p1 p4 r7 (p4 + (1 : Int32)) m8
def fX11_longest_0 (v1 : Int32) (μ : Mem) : Option (Int32 × Mem) :=
  bnd (fX11_isThere_0 v1 μ) fun r1 m2 =>
  if r1 = 0 then (some ((-1 : Int32), m2))
  else bnd (fX4_isSilent_33 v1 m2) fun r3 m4 =>
    if r3 = 0 then (some ((-3 : Int32), m4))
    else fX11_longest_0_b33 FU v1 (-2 : Int32) (-2 : Int32) (0 : Int32) m4
set_option maxRecDepth 100000 in
set_option maxHeartbeats 4000000 in
theorem mX11_longest_0 {E : En} {l : Launch} (hI : Inj E) (v1 : Int32) (μ : Mem) : MtI E l yX11_longest cX11_longest 6 (some .int) 6 [.ref (eAd E 0), .int v1] μ (fX11_longest_0 v1 μ) := by
  refine mtI_of (own := RX11) [(0, .ref (eAd E 0)), (1, .int v1)] hI rfl (by decide) (Nat.le_of_ble_eq_true rfl) (Nat.le_of_ble_eq_true rfl) rfl (fun Z hl0 X hr => ?_)
  unfold fX11_longest_0
  refine ao_aload_n (pc := 0) X dX11_longest_0 rfl ?_
  refine ao_iload_n (pc := 1) X dX11_longest_1 rfl ?_
  refine ao_callVI (pc := 2) (As := [.int v1]) (st := []) X hl0 dX11_longest_2 yv_X11_isThere so_0 ml_RX11_147 (mX11_isThere_0 hI v1 μ) (Nat.le_of_ble_eq_true rfl) rfl rfl (Nat.le_of_ble_eq_true rfl) (fun r1 m2 => ?_)
  refine ao_if_ne (pc := 5) (tgt := 10) X dX11_longest_5 (by decide) (fun _ => ?_) (fun _ => ?_)
  · refine ao_aload_n (pc := 10) X dX11_longest_10 rfl ?_
    refine ao_getR (pc := 11) X dX11_longest_11 fl_RX11_65 sf_0_7 ?_
    refine ao_iload_n (pc := 14) X dX11_longest_14 rfl ?_
    refine ao_callVI (pc := 15) (As := [.int v1]) (st := []) X hl0 dX11_longest_15 yv_X4_isSilent so_33 ml_RX11_261 (mX4_isSilent_33 hI v1 m2) (Nat.le_of_ble_eq_true rfl) rfl rfl (Nat.le_of_ble_eq_true rfl) (fun r3 m4 => ?_)
    refine ao_if_ne (pc := 18) (tgt := 24) X dX11_longest_18 (by decide) (fun _ => ?_) (fun _ => ?_)
    · refine ao_bipush (pc := 24) X dX11_longest_24 bp_m2 ?_
      refine ao_istore_n (pc := 26) (lv' := [(2, .int (-2 : Int32)), (0, .ref (eAd E 0)), (1, .int v1)]) X dX11_longest_26 rfl (by decide) rfl ?_
      refine ao_bipush (pc := 27) X dX11_longest_27 bp_m2 ?_
      refine ao_istore_n (pc := 29) (lv' := [(3, .int (-2 : Int32)), (2, .int (-2 : Int32)), (0, .ref (eAd E 0)), (1, .int v1)]) X dX11_longest_29 rfl (by decide) rfl ?_
      refine ao_iconst (pc := 30) X dX11_longest_30 ic_0 ?_
      refine ao_istore (pc := 31) (lv' := [(4, .int (0 : Int32)), (3, .int (-2 : Int32)), (2, .int (-2 : Int32)), (0, .ref (eAd E 0)), (1, .int v1)]) X dX11_longest_31 (by decide) rfl ?_
      refine ao_sub [3, 4, 2, 1, 0] rfl ?_
      exact bX11_longest_0_33 hI hl0 X hr FU v1 (-2 : Int32) (-2 : Int32) (0 : Int32) m4
    · refine ao_bipush (pc := 21) X dX11_longest_21 bp_m3 ?_
      exact ao_iret (pc := 23) X hr dX11_longest_23
  · refine ao_iconst (pc := 8) X dX11_longest_8 ic_m1 ?_
    exact ao_iret (pc := 9) X hr dX11_longest_9
def fX12_longest_122_b35 : Nat → Int32 → Int32 → Int32 → Int32 → Mem → Option (Int32 × Mem)
  | 0, _, _, _, _, _ => none
  | n + 1, p1, p2, p3, p4, μ =>
  if (99 : Int32) < p4 then (if p2 = (-2 : Int32) then (some ((-2 : Int32), μ))
    else lt (sI μ 122 16 (0 : Int32)) fun m4 =>
      bnd (fX12_tell_122 (Int32.toInt64 p3) m4) fun r5 m6 =>
      some (p2, m6))
  else bnd (fX12_speakNight_122 p1 p4 μ) fun r7 m8 =>
    if p3 < r7 then (fX12_longest_122_b35 n p1 p4 r7 (p4 + (1 : Int32)) m8)
    else fX12_longest_122_b35 n p1 p2 p3 (p4 + (1 : Int32)) m8
set_option maxRecDepth 100000 in
set_option maxHeartbeats 4000000 in
theorem bX12_longest_122_35 {E : En} {l : Launch} {Z : Zt} (hI : Inj E) (hl0 : lZ l Z) (X : Cx E Z cX12_longest RX12 6 411) (hr : rtOf Z = some .int) : ∀ (n : Nat) (p1 : Int32) (p2 : Int32) (p3 : Int32) (p4 : Int32) (μ : Mem), AO E Z 6 (QI E Z) 35 [(0, .ref (eAd E 122)), (1, .int p1), (2, .int p2), (3, .int p3), (4, .int p4)] [] μ (fX12_longest_122_b35 n p1 p2 p3 p4 μ) := by
  intro n
  induction n with
  | zero =>
    intros
    exact ao_none
  | succ n ih =>
    intro p1 p2 p3 p4 μ
    rw [fX12_longest_122_b35]
    refine ao_iload (pc := 35) X dX12_longest_35 rfl ?_
    refine ao_bipush (pc := 37) X dX12_longest_37 bp_99 ?_
    refine ao_icmp_gt (pc := 39) (tgt := 72) X dX12_longest_39 (by decide) (fun _ => ?_) (fun _ => ?_)
    · refine ao_iload_n (pc := 72) X dX12_longest_72 rfl ?_
      refine ao_bipush (pc := 73) X dX12_longest_73 bp_m2 ?_
      refine ao_icmp_ne (pc := 75) (tgt := 81) X dX12_longest_75 (by decide) (fun _ => ?_) (fun _ => ?_)
      · refine ao_aload_n (pc := 81) X dX12_longest_81 rfl ?_
        refine ao_iconst (pc := 82) X dX12_longest_82 ic_0 ?_
        refine ao_putI (pc := 83) X dX12_longest_83 fp_RX12_98 sf_122_16 ?_
        refine ao_lt (fun m4 => ?_)
        refine ao_aload_n (pc := 86) X dX12_longest_86 rfl ?_
        refine ao_iload_n (pc := 87) X dX12_longest_87 rfl ?_
        refine ao_i2l (pc := 88) X dX12_longest_88 ?_
        refine ao_callVV (pc := 89) (As := [.long (Int32.toInt64 p3)]) (st := []) X hl0 dX12_longest_89 yv_X12_tell so_122 ml_RX12_267 (mX12_tell_122 hI (Int32.toInt64 p3) m4) (Nat.le_of_ble_eq_true rfl) rfl rfl (Nat.le_of_ble_eq_true rfl) (fun r5 m6 => ?_)
        refine ao_iload_n (pc := 92) X dX12_longest_92 rfl ?_
        exact ao_iret (pc := 93) X hr dX12_longest_93
      · refine ao_bipush (pc := 78) X dX12_longest_78 bp_m2 ?_
        exact ao_iret (pc := 80) X hr dX12_longest_80
    · refine ao_aload_n (pc := 42) X dX12_longest_42 rfl ?_
      refine ao_iload_n (pc := 43) X dX12_longest_43 rfl ?_
      refine ao_iload (pc := 44) X dX12_longest_44 rfl ?_
      refine ao_callVI (pc := 46) (As := [.int p1, .int p4]) (st := []) X hl0 dX12_longest_46 yv_X12_speakNight so_122 ml_RX12_290 (mX12_speakNight_122 hI p1 p4 μ) (Nat.le_of_ble_eq_true rfl) rfl rfl (Nat.le_of_ble_eq_true rfl) (fun r7 m8 => ?_)
      refine ao_istore (pc := 49) (lv' := [(5, .int r7), (0, .ref (eAd E 122)), (1, .int p1), (2, .int p2), (3, .int p3), (4, .int p4)]) X dX12_longest_49 (by decide) rfl ?_
      refine ao_iload (pc := 51) X dX12_longest_51 rfl ?_
      refine ao_iload_n (pc := 53) X dX12_longest_53 rfl ?_
      refine ao_icmp_gt (pc := 54) (tgt := 60) X dX12_longest_54 (by decide) (fun _ => ?_) (fun _ => ?_)
      · refine ao_iload (pc := 60) X dX12_longest_60 rfl ?_
        refine ao_istore_n (pc := 62) (lv' := [(2, .int p4), (5, .int r7), (0, .ref (eAd E 122)), (1, .int p1), (3, .int p3), (4, .int p4)]) X dX12_longest_62 rfl (by decide) rfl ?_
        refine ao_iload (pc := 63) X dX12_longest_63 rfl ?_
        refine ao_istore_n (pc := 65) (lv' := [(3, .int r7), (2, .int p4), (5, .int r7), (0, .ref (eAd E 122)), (1, .int p1), (4, .int p4)]) X dX12_longest_65 rfl (by decide) rfl ?_
        refine ao_iinc (pc := 66) (k := 5) (v := p4 + (1 : Int32)) (lv' := [(4, .int (p4 + (1 : Int32))), (3, .int r7), (2, .int p4), (5, .int r7), (0, .ref (eAd E 122)), (1, .int p1)]) X dX12_longest_66 rfl (ii_ic ic_1) (by decide) rfl ?_
        refine ao_goto (pc := 69) (tgt := 35) X dX12_longest_69 (by decide) ?_
        refine ao_sub [4, 5, 2, 1, 0] rfl ?_
        exact ih p1 p4 r7 (p4 + (1 : Int32)) m8
      · refine ao_goto (pc := 57) (tgt := 66) X dX12_longest_57 (by decide) ?_
        refine ao_iinc (pc := 66) (k := 5) (v := p4 + (1 : Int32)) (lv' := [(4, .int (p4 + (1 : Int32))), (5, .int r7), (0, .ref (eAd E 122)), (1, .int p1), (2, .int p2), (3, .int p3)]) X dX12_longest_66 rfl (ii_ic ic_1) (by decide) rfl ?_
        refine ao_goto (pc := 69) (tgt := 35) X dX12_longest_69 (by decide) ?_
        refine ao_sub [2, 3, 4, 5, 0] rfl ?_
        exact ih p1 p2 p3 (p4 + (1 : Int32)) m8
def fX12_longest_122 (v1 : Int32) (μ : Mem) : Option (Int32 × Mem) :=
  lt (sI μ 122 17 (0 : Int32)) fun m1 =>
  bnd (fX12_isMan_122 v1 m1) fun r2 m3 =>
  if r2 = 0 then (some ((-1 : Int32), m3))
  else gd (inb v1 27) (if (gI m3 123 (ix v1)) = 0 then (fX12_longest_122_b35 FU v1 (-2 : Int32) (-1 : Int32) (0 : Int32) m3)
    else some ((-3 : Int32), m3))
set_option maxRecDepth 100000 in
set_option maxHeartbeats 4000000 in
theorem mX12_longest_122 {E : En} {l : Launch} (hI : Inj E) (v1 : Int32) (μ : Mem) : MtI E l yX12_longest cX12_longest 6 (some .int) 411 [.ref (eAd E 122), .int v1] μ (fX12_longest_122 v1 μ) := by
  refine mtI_of (own := RX12) [(0, .ref (eAd E 122)), (1, .int v1)] hI rfl (by decide) (Nat.le_of_ble_eq_true rfl) (Nat.le_of_ble_eq_true rfl) rfl (fun Z hl0 X hr => ?_)
  unfold fX12_longest_122
  refine ao_aload_n (pc := 0) X dX12_longest_0 rfl ?_
  refine ao_iconst (pc := 1) X dX12_longest_1 ic_0 ?_
  refine ao_putI (pc := 2) X dX12_longest_2 fp_RX12_95 sf_122_17 ?_
  refine ao_lt (fun m1 => ?_)
  refine ao_aload_n (pc := 5) X dX12_longest_5 rfl ?_
  refine ao_iload_n (pc := 6) X dX12_longest_6 rfl ?_
  refine ao_callVI (pc := 7) (As := [.int v1]) (st := []) X hl0 dX12_longest_7 yv_X12_isMan so_122 ml_RX12_224 (mX12_isMan_122 hI v1 m1) (Nat.le_of_ble_eq_true rfl) rfl rfl (Nat.le_of_ble_eq_true rfl) (fun r2 m3 => ?_)
  refine ao_if_ne (pc := 10) (tgt := 15) X dX12_longest_10 (by decide) (fun _ => ?_) (fun _ => ?_)
  · refine ao_aload_n (pc := 15) X dX12_longest_15 rfl ?_
    refine ao_getR (pc := 16) X dX12_longest_16 fl_RX12_9 sf_122_0 ?_
    refine ao_iload_n (pc := 19) X dX12_longest_19 rfl ?_
    refine ao_iald (pc := 20) X dX12_longest_20 sa_123 ?_
    refine ao_if_eq (pc := 21) (tgt := 27) X dX12_longest_21 (by decide) (fun _ => ?_) (fun _ => ?_)
    · refine ao_bipush (pc := 27) X dX12_longest_27 bp_m2 ?_
      refine ao_istore_n (pc := 29) (lv' := [(2, .int (-2 : Int32)), (0, .ref (eAd E 122)), (1, .int v1)]) X dX12_longest_29 rfl (by decide) rfl ?_
      refine ao_iconst (pc := 30) X dX12_longest_30 ic_m1 ?_
      refine ao_istore_n (pc := 31) (lv' := [(3, .int (-1 : Int32)), (2, .int (-2 : Int32)), (0, .ref (eAd E 122)), (1, .int v1)]) X dX12_longest_31 rfl (by decide) rfl ?_
      refine ao_iconst (pc := 32) X dX12_longest_32 ic_0 ?_
      refine ao_istore (pc := 33) (lv' := [(4, .int (0 : Int32)), (3, .int (-1 : Int32)), (2, .int (-2 : Int32)), (0, .ref (eAd E 122)), (1, .int v1)]) X dX12_longest_33 (by decide) rfl ?_
      refine ao_sub [3, 4, 2, 1, 0] rfl ?_
      exact bX12_longest_122_35 hI hl0 X hr FU v1 (-2 : Int32) (-1 : Int32) (0 : Int32) m3
    · refine ao_bipush (pc := 24) X dX12_longest_24 bp_m3 ?_
      exact ao_iret (pc := 26) X hr dX12_longest_26
  · refine ao_iconst (pc := 13) X dX12_longest_13 ic_m1 ?_
    exact ao_iret (pc := 14) X hr dX12_longest_14
def fX11_alike_0_b56 : Nat → Int32 → Int32 → Int32 → Int32 → Int32 → Mem → Option (Int32 × Mem)
  | 0, _, _, _, _, _, _ => none
  | n + 1, p1, p2, p3, p4, p5, μ =>
  if (99 : Int32) < p5 then (bnd (fX7_tell_3 (Int32.toInt64 p4) μ) fun r9 m10 =>
    some (p3, m10))
  else bnd (fX4_pleadsIn_33 p1 p5 (gI μ 0 14) μ) fun r11 m12 =>
    bnd (fX4_pleadsIn_33 p2 p5 (gI m12 0 14) m12) fun r13 m14 =>
    if r11 = r13 then (fX11_alike_0_b56 n p1 p2 p3 p4 (p5 + (1 : Int32)) m14)
    else if p3 = 0 then (fX11_alike_0_b56 n p1 p2 (p3 + (1 : Int32)) p5 (p5 + (1 : Int32)) m14)
      else fX11_alike_0_b56 n p1 p2 (p3 + (1 : Int32)) p4 (p5 + (1 : Int32)) m14
set_option maxRecDepth 100000 in
set_option maxHeartbeats 4000000 in
theorem bX11_alike_0_56 {E : En} {l : Launch} {Z : Zt} (hI : Inj E) (hl0 : lZ l Z) (X : Cx E Z cX11_alike RX11 6 6) (hr : rtOf Z = some .int) : ∀ (n : Nat) (p1 : Int32) (p2 : Int32) (p3 : Int32) (p4 : Int32) (p5 : Int32) (μ : Mem), AO E Z 6 (QI E Z) 56 [(0, .ref (eAd E 0)), (1, .int p1), (2, .int p2), (3, .int p3), (4, .int p4), (5, .int p5)] [] μ (fX11_alike_0_b56 n p1 p2 p3 p4 p5 μ) := by
  intro n
  induction n with
  | zero =>
    intros
    exact ao_none
  | succ n ih =>
    intro p1 p2 p3 p4 p5 μ
    rw [fX11_alike_0_b56]
    refine ao_iload (pc := 56) X dX11_alike_56 rfl ?_
    refine ao_bipush (pc := 58) X dX11_alike_58 bp_99 ?_
    refine ao_icmp_gt (pc := 60) (tgt := 116) X dX11_alike_60 (by decide) (fun _ => ?_) (fun _ => ?_)
    · refine ao_aload_n (pc := 116) X dX11_alike_116 rfl ?_
      refine ao_getR (pc := 117) X dX11_alike_117 fl_RX11_19 sf_0_1 ?_
      refine ao_iload (pc := 120) X dX11_alike_120 rfl ?_
      refine ao_i2l (pc := 122) X dX11_alike_122 ?_
      refine ao_callVV (pc := 123) (As := [.long (Int32.toInt64 p4)]) (st := []) X hl0 dX11_alike_123 yv_X7_tell so_3 ml_RX11_228 (mX7_tell_3 hI (Int32.toInt64 p4) μ) (Nat.le_of_ble_eq_true rfl) rfl rfl (Nat.le_of_ble_eq_true rfl) (fun r9 m10 => ?_)
      refine ao_iload_n (pc := 126) X dX11_alike_126 rfl ?_
      exact ao_iret (pc := 127) X hr dX11_alike_127
    · refine ao_aload_n (pc := 63) X dX11_alike_63 rfl ?_
      refine ao_getR (pc := 64) X dX11_alike_64 fl_RX11_65 sf_0_7 ?_
      refine ao_iload_n (pc := 67) X dX11_alike_67 rfl ?_
      refine ao_iload (pc := 68) X dX11_alike_68 rfl ?_
      refine ao_aload_n (pc := 70) X dX11_alike_70 rfl ?_
      refine ao_getI (pc := 71) X dX11_alike_71 fl_RX11_100 sf_0_14 ?_
      refine ao_callVI (pc := 74) (As := [.int p1, .int p5, .int (gI μ 0 14)]) (st := []) X hl0 dX11_alike_74 yv_X4_pleadsIn so_33 ml_RX11_271 (mX4_pleadsIn_33 hI p1 p5 (gI μ 0 14) μ) (Nat.le_of_ble_eq_true rfl) rfl rfl (Nat.le_of_ble_eq_true rfl) (fun r11 m12 => ?_)
      refine ao_aload_n (pc := 77) X dX11_alike_77 rfl ?_
      refine ao_getR (pc := 78) X dX11_alike_78 fl_RX11_65 sf_0_7 ?_
      refine ao_iload_n (pc := 81) X dX11_alike_81 rfl ?_
      refine ao_iload (pc := 82) X dX11_alike_82 rfl ?_
      refine ao_aload_n (pc := 84) X dX11_alike_84 rfl ?_
      refine ao_getI (pc := 85) X dX11_alike_85 fl_RX11_100 sf_0_14 ?_
      refine ao_callVI (pc := 88) (As := [.int p2, .int p5, .int (gI m12 0 14)]) (st := [.int r11]) X hl0 dX11_alike_88 yv_X4_pleadsIn so_33 ml_RX11_271 (mX4_pleadsIn_33 hI p2 p5 (gI m12 0 14) m12) (Nat.le_of_ble_eq_true rfl) rfl rfl (Nat.le_of_ble_eq_true rfl) (fun r13 m14 => ?_)
      refine ao_icmp_eq (pc := 91) (tgt := 110) X dX11_alike_91 (by decide) (fun _ => ?_) (fun _ => ?_)
      · refine ao_iinc (pc := 110) (k := 5) (v := p5 + (1 : Int32)) (lv' := [(5, .int (p5 + (1 : Int32))), (0, .ref (eAd E 0)), (1, .int p1), (2, .int p2), (3, .int p3), (4, .int p4)]) X dX11_alike_110 rfl (ii_ic ic_1) (by decide) rfl ?_
        refine ao_goto (pc := 113) (tgt := 56) X dX11_alike_113 (by decide) ?_
        refine ao_sub [1, 2, 3, 4, 5, 0] rfl ?_
        exact ih p1 p2 p3 p4 (p5 + (1 : Int32)) m14
      · refine ao_iload_n (pc := 94) X dX11_alike_94 rfl ?_
        refine ao_if_ne (pc := 95) (tgt := 103) X dX11_alike_95 (by decide) (fun _ => ?_) (fun _ => ?_)
        · refine ao_iload (pc := 103) X dX11_alike_103 rfl ?_
          refine ao_istore (pc := 105) (lv' := [(4, .int p4), (0, .ref (eAd E 0)), (1, .int p1), (2, .int p2), (3, .int p3), (5, .int p5)]) X dX11_alike_105 (by decide) rfl ?_
          refine ao_iinc (pc := 107) (k := 4) (v := p3 + (1 : Int32)) (lv' := [(3, .int (p3 + (1 : Int32))), (4, .int p4), (0, .ref (eAd E 0)), (1, .int p1), (2, .int p2), (5, .int p5)]) X dX11_alike_107 rfl (ii_ic ic_1) (by decide) rfl ?_
          refine ao_iinc (pc := 110) (k := 5) (v := p5 + (1 : Int32)) (lv' := [(5, .int (p5 + (1 : Int32))), (3, .int (p3 + (1 : Int32))), (4, .int p4), (0, .ref (eAd E 0)), (1, .int p1), (2, .int p2)]) X dX11_alike_110 rfl (ii_ic ic_1) (by decide) rfl ?_
          refine ao_goto (pc := 113) (tgt := 56) X dX11_alike_113 (by decide) ?_
          refine ao_sub [3, 4, 5, 1, 2, 0] rfl ?_
          exact ih p1 p2 (p3 + (1 : Int32)) p4 (p5 + (1 : Int32)) m14
        · refine ao_iload (pc := 98) X dX11_alike_98 rfl ?_
          refine ao_goto (pc := 100) (tgt := 105) X dX11_alike_100 (by decide) ?_
          refine ao_istore (pc := 105) (lv' := [(4, .int p5), (0, .ref (eAd E 0)), (1, .int p1), (2, .int p2), (3, .int p3), (5, .int p5)]) X dX11_alike_105 (by decide) rfl ?_
          refine ao_iinc (pc := 107) (k := 4) (v := p3 + (1 : Int32)) (lv' := [(3, .int (p3 + (1 : Int32))), (4, .int p5), (0, .ref (eAd E 0)), (1, .int p1), (2, .int p2), (5, .int p5)]) X dX11_alike_107 rfl (ii_ic ic_1) (by decide) rfl ?_
          refine ao_iinc (pc := 110) (k := 5) (v := p5 + (1 : Int32)) (lv' := [(5, .int (p5 + (1 : Int32))), (3, .int (p3 + (1 : Int32))), (4, .int p5), (0, .ref (eAd E 0)), (1, .int p1), (2, .int p2)]) X dX11_alike_110 rfl (ii_ic ic_1) (by decide) rfl ?_
          refine ao_goto (pc := 113) (tgt := 56) X dX11_alike_113 (by decide) ?_
          refine ao_sub [3, 4, 5, 1, 2, 0] rfl ?_
          exact ih p1 p2 (p3 + (1 : Int32)) p5 (p5 + (1 : Int32)) m14
def fX11_alike_0 (v1 : Int32) (v2 : Int32) (μ : Mem) : Option (Int32 × Mem) :=
  bnd (fX11_isThere_0 v1 μ) fun r1 m2 =>
  if r1 = 0 then (some ((-1 : Int32), m2))
  else bnd (fX11_isThere_0 v2 m2) fun r3 m4 =>
    if r3 = 0 then (some ((-1 : Int32), m4))
    else if v1 = v2 then (some ((-1 : Int32), m4))
      else bnd (fX4_isSilent_33 v1 m4) fun r5 m6 =>
        if r5 = 0 then (some ((-3 : Int32), m6))
        else bnd (fX4_isSilent_33 v2 m6) fun r7 m8 =>
          if r7 = 0 then (some ((-3 : Int32), m8))
          else fX11_alike_0_b56 FU v1 v2 (0 : Int32) (-1 : Int32) (0 : Int32) m8
set_option maxRecDepth 100000 in
set_option maxHeartbeats 4000000 in
theorem mX11_alike_0 {E : En} {l : Launch} (hI : Inj E) (v1 : Int32) (v2 : Int32) (μ : Mem) : MtI E l yX11_alike cX11_alike 6 (some .int) 6 [.ref (eAd E 0), .int v1, .int v2] μ (fX11_alike_0 v1 v2 μ) := by
  refine mtI_of (own := RX11) [(0, .ref (eAd E 0)), (1, .int v1), (2, .int v2)] hI rfl (by decide) (Nat.le_of_ble_eq_true rfl) (Nat.le_of_ble_eq_true rfl) rfl (fun Z hl0 X hr => ?_)
  unfold fX11_alike_0
  refine ao_aload_n (pc := 0) X dX11_alike_0 rfl ?_
  refine ao_iload_n (pc := 1) X dX11_alike_1 rfl ?_
  refine ao_callVI (pc := 2) (As := [.int v1]) (st := []) X hl0 dX11_alike_2 yv_X11_isThere so_0 ml_RX11_147 (mX11_isThere_0 hI v1 μ) (Nat.le_of_ble_eq_true rfl) rfl rfl (Nat.le_of_ble_eq_true rfl) (fun r1 m2 => ?_)
  refine ao_if_eq (pc := 5) (tgt := 21) X dX11_alike_5 (by decide) (fun _ => ?_) (fun _ => ?_)
  · refine ao_iconst (pc := 21) X dX11_alike_21 ic_m1 ?_
    exact ao_iret (pc := 22) X hr dX11_alike_22
  · refine ao_aload_n (pc := 8) X dX11_alike_8 rfl ?_
    refine ao_iload_n (pc := 9) X dX11_alike_9 rfl ?_
    refine ao_callVI (pc := 10) (As := [.int v2]) (st := []) X hl0 dX11_alike_10 yv_X11_isThere so_0 ml_RX11_147 (mX11_isThere_0 hI v2 m2) (Nat.le_of_ble_eq_true rfl) rfl rfl (Nat.le_of_ble_eq_true rfl) (fun r3 m4 => ?_)
    refine ao_if_eq (pc := 13) (tgt := 21) X dX11_alike_13 (by decide) (fun _ => ?_) (fun _ => ?_)
    · refine ao_iconst (pc := 21) X dX11_alike_21 ic_m1 ?_
      exact ao_iret (pc := 22) X hr dX11_alike_22
    · refine ao_iload_n (pc := 16) X dX11_alike_16 rfl ?_
      refine ao_iload_n (pc := 17) X dX11_alike_17 rfl ?_
      refine ao_icmp_ne (pc := 18) (tgt := 23) X dX11_alike_18 (by decide) (fun _ => ?_) (fun _ => ?_)
      · refine ao_aload_n (pc := 23) X dX11_alike_23 rfl ?_
        refine ao_getR (pc := 24) X dX11_alike_24 fl_RX11_65 sf_0_7 ?_
        refine ao_iload_n (pc := 27) X dX11_alike_27 rfl ?_
        refine ao_callVI (pc := 28) (As := [.int v1]) (st := []) X hl0 dX11_alike_28 yv_X4_isSilent so_33 ml_RX11_261 (mX4_isSilent_33 hI v1 m4) (Nat.le_of_ble_eq_true rfl) rfl rfl (Nat.le_of_ble_eq_true rfl) (fun r5 m6 => ?_)
        refine ao_if_eq (pc := 31) (tgt := 45) X dX11_alike_31 (by decide) (fun _ => ?_) (fun _ => ?_)
        · refine ao_bipush (pc := 45) X dX11_alike_45 bp_m3 ?_
          exact ao_iret (pc := 47) X hr dX11_alike_47
        · refine ao_aload_n (pc := 34) X dX11_alike_34 rfl ?_
          refine ao_getR (pc := 35) X dX11_alike_35 fl_RX11_65 sf_0_7 ?_
          refine ao_iload_n (pc := 38) X dX11_alike_38 rfl ?_
          refine ao_callVI (pc := 39) (As := [.int v2]) (st := []) X hl0 dX11_alike_39 yv_X4_isSilent so_33 ml_RX11_261 (mX4_isSilent_33 hI v2 m6) (Nat.le_of_ble_eq_true rfl) rfl rfl (Nat.le_of_ble_eq_true rfl) (fun r7 m8 => ?_)
          refine ao_if_ne (pc := 42) (tgt := 48) X dX11_alike_42 (by decide) (fun _ => ?_) (fun _ => ?_)
          · refine ao_iconst (pc := 48) X dX11_alike_48 ic_0 ?_
            refine ao_istore_n (pc := 49) (lv' := [(3, .int (0 : Int32)), (0, .ref (eAd E 0)), (1, .int v1), (2, .int v2)]) X dX11_alike_49 rfl (by decide) rfl ?_
            refine ao_iconst (pc := 50) X dX11_alike_50 ic_m1 ?_
            refine ao_istore (pc := 51) (lv' := [(4, .int (-1 : Int32)), (3, .int (0 : Int32)), (0, .ref (eAd E 0)), (1, .int v1), (2, .int v2)]) X dX11_alike_51 (by decide) rfl ?_
            refine ao_iconst (pc := 53) X dX11_alike_53 ic_0 ?_
            refine ao_istore (pc := 54) (lv' := [(5, .int (0 : Int32)), (4, .int (-1 : Int32)), (3, .int (0 : Int32)), (0, .ref (eAd E 0)), (1, .int v1), (2, .int v2)]) X dX11_alike_54 (by decide) rfl ?_
            refine ao_sub [3, 4, 5, 2, 1, 0] rfl ?_
            exact bX11_alike_0_56 hI hl0 X hr FU v1 v2 (0 : Int32) (-1 : Int32) (0 : Int32) m8
          · refine ao_bipush (pc := 45) X dX11_alike_45 bp_m3 ?_
            exact ao_iret (pc := 47) X hr dX11_alike_47
      · refine ao_iconst (pc := 21) X dX11_alike_21 ic_m1 ?_
        exact ao_iret (pc := 22) X hr dX11_alike_22
def fX12_alike_122_b57 : Nat → Int32 → Int32 → Int32 → Int32 → Int32 → Mem → Option (Int32 × Mem)
  | 0, _, _, _, _, _, _ => none
  | n + 1, p1, p2, p3, p4, p5, μ =>
  if (99 : Int32) < p5 then (lt (sI μ 122 16 (0 : Int32)) fun m6 =>
    bnd (fX12_tell_122 (Int32.toInt64 p4) m6) fun r7 m8 =>
    some (p3, m8))
  else bnd (fX12_speakNight_122 p1 p5 μ) fun r9 m10 =>
    bnd (fX12_speakNight_122 p2 p5 m10) fun r11 m12 =>
    if r9 = r11 then (fX12_alike_122_b57 n p1 p2 p3 p4 (p5 + (1 : Int32)) m12)
    else if p3 = 0 then (fX12_alike_122_b57 n p1 p2 (p3 + (1 : Int32)) p5 (p5 + (1 : Int32)) m12)
      else fX12_alike_122_b57 n p1 p2 (p3 + (1 : Int32)) p4 (p5 + (1 : Int32)) m12
set_option maxRecDepth 100000 in
set_option maxHeartbeats 4000000 in
theorem bX12_alike_122_57 {E : En} {l : Launch} {Z : Zt} (hI : Inj E) (hl0 : lZ l Z) (X : Cx E Z cX12_alike RX12 6 411) (hr : rtOf Z = some .int) : ∀ (n : Nat) (p1 : Int32) (p2 : Int32) (p3 : Int32) (p4 : Int32) (p5 : Int32) (μ : Mem), AO E Z 6 (QI E Z) 57 [(0, .ref (eAd E 122)), (1, .int p1), (2, .int p2), (3, .int p3), (4, .int p4), (5, .int p5)] [] μ (fX12_alike_122_b57 n p1 p2 p3 p4 p5 μ) := by
  intro n
  induction n with
  | zero =>
    intros
    exact ao_none
  | succ n ih =>
    intro p1 p2 p3 p4 p5 μ
    rw [fX12_alike_122_b57]
    refine ao_iload (pc := 57) X dX12_alike_57 rfl ?_
    refine ao_bipush (pc := 59) X dX12_alike_59 bp_99 ?_
    refine ao_icmp_gt (pc := 61) (tgt := 106) X dX12_alike_61 (by decide) (fun _ => ?_) (fun _ => ?_)
    · refine ao_aload_n (pc := 106) X dX12_alike_106 rfl ?_
      refine ao_iconst (pc := 107) X dX12_alike_107 ic_0 ?_
      refine ao_putI (pc := 108) X dX12_alike_108 fp_RX12_98 sf_122_16 ?_
      refine ao_lt (fun m6 => ?_)
      refine ao_aload_n (pc := 111) X dX12_alike_111 rfl ?_
      refine ao_iload (pc := 112) X dX12_alike_112 rfl ?_
      refine ao_i2l (pc := 114) X dX12_alike_114 ?_
      refine ao_callVV (pc := 115) (As := [.long (Int32.toInt64 p4)]) (st := []) X hl0 dX12_alike_115 yv_X12_tell so_122 ml_RX12_267 (mX12_tell_122 hI (Int32.toInt64 p4) m6) (Nat.le_of_ble_eq_true rfl) rfl rfl (Nat.le_of_ble_eq_true rfl) (fun r7 m8 => ?_)
      refine ao_iload_n (pc := 118) X dX12_alike_118 rfl ?_
      exact ao_iret (pc := 119) X hr dX12_alike_119
    · refine ao_aload_n (pc := 64) X dX12_alike_64 rfl ?_
      refine ao_iload_n (pc := 65) X dX12_alike_65 rfl ?_
      refine ao_iload (pc := 66) X dX12_alike_66 rfl ?_
      refine ao_callVI (pc := 68) (As := [.int p1, .int p5]) (st := []) X hl0 dX12_alike_68 yv_X12_speakNight so_122 ml_RX12_290 (mX12_speakNight_122 hI p1 p5 μ) (Nat.le_of_ble_eq_true rfl) rfl rfl (Nat.le_of_ble_eq_true rfl) (fun r9 m10 => ?_)
      refine ao_aload_n (pc := 71) X dX12_alike_71 rfl ?_
      refine ao_iload_n (pc := 72) X dX12_alike_72 rfl ?_
      refine ao_iload (pc := 73) X dX12_alike_73 rfl ?_
      refine ao_callVI (pc := 75) (As := [.int p2, .int p5]) (st := [.int r9]) X hl0 dX12_alike_75 yv_X12_speakNight so_122 ml_RX12_290 (mX12_speakNight_122 hI p2 p5 m10) (Nat.le_of_ble_eq_true rfl) rfl rfl (Nat.le_of_ble_eq_true rfl) (fun r11 m12 => ?_)
      refine ao_icmp_ne (pc := 78) (tgt := 84) X dX12_alike_78 (by decide) (fun _ => ?_) (fun _ => ?_)
      · refine ao_iload_n (pc := 84) X dX12_alike_84 rfl ?_
        refine ao_if_ne (pc := 85) (tgt := 93) X dX12_alike_85 (by decide) (fun _ => ?_) (fun _ => ?_)
        · refine ao_iload (pc := 93) X dX12_alike_93 rfl ?_
          refine ao_istore (pc := 95) (lv' := [(4, .int p4), (0, .ref (eAd E 122)), (1, .int p1), (2, .int p2), (3, .int p3), (5, .int p5)]) X dX12_alike_95 (by decide) rfl ?_
          refine ao_iinc (pc := 97) (k := 4) (v := p3 + (1 : Int32)) (lv' := [(3, .int (p3 + (1 : Int32))), (4, .int p4), (0, .ref (eAd E 122)), (1, .int p1), (2, .int p2), (5, .int p5)]) X dX12_alike_97 rfl (ii_ic ic_1) (by decide) rfl ?_
          refine ao_iinc (pc := 100) (k := 5) (v := p5 + (1 : Int32)) (lv' := [(5, .int (p5 + (1 : Int32))), (3, .int (p3 + (1 : Int32))), (4, .int p4), (0, .ref (eAd E 122)), (1, .int p1), (2, .int p2)]) X dX12_alike_100 rfl (ii_ic ic_1) (by decide) rfl ?_
          refine ao_goto (pc := 103) (tgt := 57) X dX12_alike_103 (by decide) ?_
          refine ao_sub [3, 4, 5, 1, 2, 0] rfl ?_
          exact ih p1 p2 (p3 + (1 : Int32)) p4 (p5 + (1 : Int32)) m12
        · refine ao_iload (pc := 88) X dX12_alike_88 rfl ?_
          refine ao_goto (pc := 90) (tgt := 95) X dX12_alike_90 (by decide) ?_
          refine ao_istore (pc := 95) (lv' := [(4, .int p5), (0, .ref (eAd E 122)), (1, .int p1), (2, .int p2), (3, .int p3), (5, .int p5)]) X dX12_alike_95 (by decide) rfl ?_
          refine ao_iinc (pc := 97) (k := 4) (v := p3 + (1 : Int32)) (lv' := [(3, .int (p3 + (1 : Int32))), (4, .int p5), (0, .ref (eAd E 122)), (1, .int p1), (2, .int p2), (5, .int p5)]) X dX12_alike_97 rfl (ii_ic ic_1) (by decide) rfl ?_
          refine ao_iinc (pc := 100) (k := 5) (v := p5 + (1 : Int32)) (lv' := [(5, .int (p5 + (1 : Int32))), (3, .int (p3 + (1 : Int32))), (4, .int p5), (0, .ref (eAd E 122)), (1, .int p1), (2, .int p2)]) X dX12_alike_100 rfl (ii_ic ic_1) (by decide) rfl ?_
          refine ao_goto (pc := 103) (tgt := 57) X dX12_alike_103 (by decide) ?_
          refine ao_sub [3, 4, 5, 1, 2, 0] rfl ?_
          exact ih p1 p2 (p3 + (1 : Int32)) p5 (p5 + (1 : Int32)) m12
      · refine ao_goto (pc := 81) (tgt := 100) X dX12_alike_81 (by decide) ?_
        refine ao_iinc (pc := 100) (k := 5) (v := p5 + (1 : Int32)) (lv' := [(5, .int (p5 + (1 : Int32))), (0, .ref (eAd E 122)), (1, .int p1), (2, .int p2), (3, .int p3), (4, .int p4)]) X dX12_alike_100 rfl (ii_ic ic_1) (by decide) rfl ?_
        refine ao_goto (pc := 103) (tgt := 57) X dX12_alike_103 (by decide) ?_
        refine ao_sub [1, 2, 3, 4, 5, 0] rfl ?_
        exact ih p1 p2 p3 p4 (p5 + (1 : Int32)) m12
def fX12_alike_122 (v1 : Int32) (v2 : Int32) (μ : Mem) : Option (Int32 × Mem) :=
  lt (sI μ 122 17 (0 : Int32)) fun m1 =>
  bnd (fX12_isMan_122 v1 m1) fun r2 m3 =>
  if r2 = 0 then (some ((-1 : Int32), m3))
  else bnd (fX12_isMan_122 v2 m3) fun r4 m5 =>
    if r4 = 0 then (some ((-1 : Int32), m5))
    else if v1 = v2 then (some ((-1 : Int32), m5))
      else gd (inb v1 27) (if (gI m5 123 (ix v1)) = 0 then (gd (inb v2 27) (if (gI m5 123 (ix v2)) = 0 then (fX12_alike_122_b57 FU v1 v2 (0 : Int32) (-1 : Int32) (0 : Int32) m5)
          else some ((-3 : Int32), m5)))
        else some ((-3 : Int32), m5))
set_option maxRecDepth 100000 in
set_option maxHeartbeats 4000000 in
theorem mX12_alike_122 {E : En} {l : Launch} (hI : Inj E) (v1 : Int32) (v2 : Int32) (μ : Mem) : MtI E l yX12_alike cX12_alike 6 (some .int) 411 [.ref (eAd E 122), .int v1, .int v2] μ (fX12_alike_122 v1 v2 μ) := by
  refine mtI_of (own := RX12) [(0, .ref (eAd E 122)), (1, .int v1), (2, .int v2)] hI rfl (by decide) (Nat.le_of_ble_eq_true rfl) (Nat.le_of_ble_eq_true rfl) rfl (fun Z hl0 X hr => ?_)
  unfold fX12_alike_122
  refine ao_aload_n (pc := 0) X dX12_alike_0 rfl ?_
  refine ao_iconst (pc := 1) X dX12_alike_1 ic_0 ?_
  refine ao_putI (pc := 2) X dX12_alike_2 fp_RX12_95 sf_122_17 ?_
  refine ao_lt (fun m1 => ?_)
  refine ao_aload_n (pc := 5) X dX12_alike_5 rfl ?_
  refine ao_iload_n (pc := 6) X dX12_alike_6 rfl ?_
  refine ao_callVI (pc := 7) (As := [.int v1]) (st := []) X hl0 dX12_alike_7 yv_X12_isMan so_122 ml_RX12_224 (mX12_isMan_122 hI v1 m1) (Nat.le_of_ble_eq_true rfl) rfl rfl (Nat.le_of_ble_eq_true rfl) (fun r2 m3 => ?_)
  refine ao_if_eq (pc := 10) (tgt := 26) X dX12_alike_10 (by decide) (fun _ => ?_) (fun _ => ?_)
  · refine ao_iconst (pc := 26) X dX12_alike_26 ic_m1 ?_
    exact ao_iret (pc := 27) X hr dX12_alike_27
  · refine ao_aload_n (pc := 13) X dX12_alike_13 rfl ?_
    refine ao_iload_n (pc := 14) X dX12_alike_14 rfl ?_
    refine ao_callVI (pc := 15) (As := [.int v2]) (st := []) X hl0 dX12_alike_15 yv_X12_isMan so_122 ml_RX12_224 (mX12_isMan_122 hI v2 m3) (Nat.le_of_ble_eq_true rfl) rfl rfl (Nat.le_of_ble_eq_true rfl) (fun r4 m5 => ?_)
    refine ao_if_eq (pc := 18) (tgt := 26) X dX12_alike_18 (by decide) (fun _ => ?_) (fun _ => ?_)
    · refine ao_iconst (pc := 26) X dX12_alike_26 ic_m1 ?_
      exact ao_iret (pc := 27) X hr dX12_alike_27
    · refine ao_iload_n (pc := 21) X dX12_alike_21 rfl ?_
      refine ao_iload_n (pc := 22) X dX12_alike_22 rfl ?_
      refine ao_icmp_ne (pc := 23) (tgt := 28) X dX12_alike_23 (by decide) (fun _ => ?_) (fun _ => ?_)
      · refine ao_aload_n (pc := 28) X dX12_alike_28 rfl ?_
        refine ao_getR (pc := 29) X dX12_alike_29 fl_RX12_9 sf_122_0 ?_
        refine ao_iload_n (pc := 32) X dX12_alike_32 rfl ?_
        refine ao_iald (pc := 33) X dX12_alike_33 sa_123 ?_
        refine ao_if_ne (pc := 34) (tgt := 46) X dX12_alike_34 (by decide) (fun _ => ?_) (fun _ => ?_)
        · refine ao_bipush (pc := 46) X dX12_alike_46 bp_m3 ?_
          exact ao_iret (pc := 48) X hr dX12_alike_48
        · refine ao_aload_n (pc := 37) X dX12_alike_37 rfl ?_
          refine ao_getR (pc := 38) X dX12_alike_38 fl_RX12_9 sf_122_0 ?_
          refine ao_iload_n (pc := 41) X dX12_alike_41 rfl ?_
          refine ao_iald (pc := 42) X dX12_alike_42 sa_123 ?_
          refine ao_if_eq (pc := 43) (tgt := 49) X dX12_alike_43 (by decide) (fun _ => ?_) (fun _ => ?_)
          · refine ao_iconst (pc := 49) X dX12_alike_49 ic_0 ?_
            refine ao_istore_n (pc := 50) (lv' := [(3, .int (0 : Int32)), (0, .ref (eAd E 122)), (1, .int v1), (2, .int v2)]) X dX12_alike_50 rfl (by decide) rfl ?_
            refine ao_iconst (pc := 51) X dX12_alike_51 ic_m1 ?_
            refine ao_istore (pc := 52) (lv' := [(4, .int (-1 : Int32)), (3, .int (0 : Int32)), (0, .ref (eAd E 122)), (1, .int v1), (2, .int v2)]) X dX12_alike_52 (by decide) rfl ?_
            refine ao_iconst (pc := 54) X dX12_alike_54 ic_0 ?_
            refine ao_istore (pc := 55) (lv' := [(5, .int (0 : Int32)), (4, .int (-1 : Int32)), (3, .int (0 : Int32)), (0, .ref (eAd E 122)), (1, .int v1), (2, .int v2)]) X dX12_alike_55 (by decide) rfl ?_
            refine ao_sub [3, 4, 5, 2, 1, 0] rfl ?_
            exact bX12_alike_122_57 hI hl0 X hr FU v1 v2 (0 : Int32) (-1 : Int32) (0 : Int32) m5
          · refine ao_bipush (pc := 46) X dX12_alike_46 bp_m3 ?_
            exact ao_iret (pc := 48) X hr dX12_alike_48
      · refine ao_iconst (pc := 26) X dX12_alike_26 ic_m1 ?_
        exact ao_iret (pc := 27) X hr dX12_alike_27
def fJ6_bitCount_0f7a4 (v0 : Int32) (μ : Mem) : Option (Int32 × Mem) :=
  lt (v0 - ((ushr v0 (1 : Int32)) &&& (1431655765 : Int32))) fun x1 =>
  lt ((x1 &&& (858993459 : Int32)) + ((ushr x1 (2 : Int32)) &&& (858993459 : Int32))) fun x2 =>
  lt ((x2 + (ushr x2 (4 : Int32))) &&& (252645135 : Int32)) fun x3 =>
  lt (x3 + (ushr x3 (8 : Int32))) fun x4 =>
  lt (x4 + (ushr x4 (16 : Int32))) fun x5 =>
  some ((x5 &&& (63 : Int32)), μ)
set_option maxRecDepth 100000 in
set_option maxHeartbeats 4000000 in
theorem mJ6_bitCount_0f7a4 {E : En} {l : Launch} (hI : Inj E) (v0 : Int32) (μ : Mem) : MtI E l yJ6_bitCount_0f7a4 cJ6_bitCount_0f7a4 1 (some .int) 1 [.int v0] μ (fJ6_bitCount_0f7a4 v0 μ) := by
  refine mtI_of (own := RJ6) [(0, .int v0)] hI rfl (by decide) (Nat.le_of_ble_eq_true rfl) (Nat.le_of_ble_eq_true rfl) rfl (fun Z hl0 X hr => ?_)
  unfold fJ6_bitCount_0f7a4
  refine ao_iload_n (pc := 0) X dJ6_bitCount_0f7a4_0 rfl ?_
  refine ao_iload_n (pc := 1) X dJ6_bitCount_0f7a4_1 rfl ?_
  refine ao_iconst (pc := 2) X dJ6_bitCount_0f7a4_2 ic_1 ?_
  refine ao_iushr (pc := 3) X dJ6_bitCount_0f7a4_3 ?_
  refine ao_ldcw (pc := 4) X dJ6_bitCount_0f7a4_4 kc_RJ6_265 ?_
  refine ao_iand (pc := 7) X dJ6_bitCount_0f7a4_7 ?_
  refine ao_isub (pc := 8) X dJ6_bitCount_0f7a4_8 ?_
  refine ao_ltI (fun x1 => ?_)
  refine ao_istore_n (pc := 9) (lv' := [(0, .int x1)]) X dJ6_bitCount_0f7a4_9 rfl (by decide) rfl ?_
  refine ao_iload_n (pc := 10) X dJ6_bitCount_0f7a4_10 rfl ?_
  refine ao_ldcw (pc := 11) X dJ6_bitCount_0f7a4_11 kc_RJ6_266 ?_
  refine ao_iand (pc := 14) X dJ6_bitCount_0f7a4_14 ?_
  refine ao_iload_n (pc := 15) X dJ6_bitCount_0f7a4_15 rfl ?_
  refine ao_iconst (pc := 16) X dJ6_bitCount_0f7a4_16 ic_2 ?_
  refine ao_iushr (pc := 17) X dJ6_bitCount_0f7a4_17 ?_
  refine ao_ldcw (pc := 18) X dJ6_bitCount_0f7a4_18 kc_RJ6_266 ?_
  refine ao_iand (pc := 21) X dJ6_bitCount_0f7a4_21 ?_
  refine ao_iadd (pc := 22) X dJ6_bitCount_0f7a4_22 ?_
  refine ao_ltI (fun x2 => ?_)
  refine ao_istore_n (pc := 23) (lv' := [(0, .int x2)]) X dJ6_bitCount_0f7a4_23 rfl (by decide) rfl ?_
  refine ao_iload_n (pc := 24) X dJ6_bitCount_0f7a4_24 rfl ?_
  refine ao_iload_n (pc := 25) X dJ6_bitCount_0f7a4_25 rfl ?_
  refine ao_iconst (pc := 26) X dJ6_bitCount_0f7a4_26 ic_4 ?_
  refine ao_iushr (pc := 27) X dJ6_bitCount_0f7a4_27 ?_
  refine ao_iadd (pc := 28) X dJ6_bitCount_0f7a4_28 ?_
  refine ao_ldcw (pc := 29) X dJ6_bitCount_0f7a4_29 kc_RJ6_267 ?_
  refine ao_iand (pc := 32) X dJ6_bitCount_0f7a4_32 ?_
  refine ao_ltI (fun x3 => ?_)
  refine ao_istore_n (pc := 33) (lv' := [(0, .int x3)]) X dJ6_bitCount_0f7a4_33 rfl (by decide) rfl ?_
  refine ao_iload_n (pc := 34) X dJ6_bitCount_0f7a4_34 rfl ?_
  refine ao_iload_n (pc := 35) X dJ6_bitCount_0f7a4_35 rfl ?_
  refine ao_bipush (pc := 36) X dJ6_bitCount_0f7a4_36 bp_8 ?_
  refine ao_iushr (pc := 38) X dJ6_bitCount_0f7a4_38 ?_
  refine ao_iadd (pc := 39) X dJ6_bitCount_0f7a4_39 ?_
  refine ao_ltI (fun x4 => ?_)
  refine ao_istore_n (pc := 40) (lv' := [(0, .int x4)]) X dJ6_bitCount_0f7a4_40 rfl (by decide) rfl ?_
  refine ao_iload_n (pc := 41) X dJ6_bitCount_0f7a4_41 rfl ?_
  refine ao_iload_n (pc := 42) X dJ6_bitCount_0f7a4_42 rfl ?_
  refine ao_bipush (pc := 43) X dJ6_bitCount_0f7a4_43 bp_16 ?_
  refine ao_iushr (pc := 45) X dJ6_bitCount_0f7a4_45 ?_
  refine ao_iadd (pc := 46) X dJ6_bitCount_0f7a4_46 ?_
  refine ao_ltI (fun x5 => ?_)
  refine ao_istore_n (pc := 47) (lv' := [(0, .int x5)]) X dJ6_bitCount_0f7a4_47 rfl (by decide) rfl ?_
  refine ao_iload_n (pc := 48) X dJ6_bitCount_0f7a4_48 rfl ?_
  refine ao_bipush (pc := 49) X dJ6_bitCount_0f7a4_49 bp_63 ?_
  refine ao_iand (pc := 51) X dJ6_bitCount_0f7a4_51 ?_
  exact ao_iret (pc := 52) X hr dJ6_bitCount_0f7a4_52
def fX11_stonesOnOne_0 (v1 : Int32) (v2 : Int32) (μ : Mem) : Option (Int32 × Mem) :=
  if ((v2 >>> (v1 &&& 31)) &&& (1 : Int32)) = 0 then (some ((0 : Int32), μ))
  else gd (inb v1 6) (some ((gI μ 121 (ix v1)), μ))
set_option maxRecDepth 100000 in
set_option maxHeartbeats 4000000 in
theorem mX11_stonesOnOne_0 {E : En} {l : Launch} (hI : Inj E) (v1 : Int32) (v2 : Int32) (μ : Mem) : MtI E l yX11_stonesOnOne cX11_stonesOnOne 3 (some .int) 1 [.ref (eAd E 0), .int v1, .int v2] μ (fX11_stonesOnOne_0 v1 v2 μ) := by
  refine mtI_of (own := RX11) [(0, .ref (eAd E 0)), (1, .int v1), (2, .int v2)] hI rfl (by decide) (Nat.le_of_ble_eq_true rfl) (Nat.le_of_ble_eq_true rfl) rfl (fun Z hl0 X hr => ?_)
  unfold fX11_stonesOnOne_0
  refine ao_iload_n (pc := 0) X dX11_stonesOnOne_0 rfl ?_
  refine ao_iload_n (pc := 1) X dX11_stonesOnOne_1 rfl ?_
  refine ao_ishr (pc := 2) X dX11_stonesOnOne_2 ?_
  refine ao_iconst (pc := 3) X dX11_stonesOnOne_3 ic_1 ?_
  refine ao_iand (pc := 4) X dX11_stonesOnOne_4 ?_
  refine ao_if_ne (pc := 5) (tgt := 12) X dX11_stonesOnOne_5 (by decide) (fun _ => ?_) (fun _ => ?_)
  · refine ao_aload_n (pc := 12) X dX11_stonesOnOne_12 rfl ?_
    refine ao_getR (pc := 13) X dX11_stonesOnOne_13 fl_RX11_96 sf_0_13 ?_
    refine ao_iload_n (pc := 16) X dX11_stonesOnOne_16 rfl ?_
    refine ao_iald (pc := 17) X dX11_stonesOnOne_17 sa_121 ?_
    exact ao_iret (pc := 18) X hr dX11_stonesOnOne_18
  · refine ao_iconst (pc := 8) X dX11_stonesOnOne_8 ic_0 ?_
    refine ao_goto (pc := 9) (tgt := 18) X dX11_stonesOnOne_9 (by decide) ?_
    exact ao_iret (pc := 18) X hr dX11_stonesOnOne_18
def fX11_stonesOn_0_b4 : Nat → Int32 → Int32 → Int32 → Mem → Option (Int32 × Mem)
  | 0, _, _, _, _ => none
  | n + 1, p1, p2, p3, μ =>
  if (gI μ 5 5) ≤ p3 then (some (p2, μ))
  else bnd (fX11_stonesOnOne_0 p3 p1 μ) fun r1 m2 =>
    if 0 ≤ r1 then (bnd (fX11_stonesOnOne_0 p3 p1 m2) fun r3 m4 =>
      lt (p2 + r3) fun x5 =>
      fX11_stonesOn_0_b4 n p1 x5 (p3 + (1 : Int32)) m4)
    else some ((-1 : Int32), m2)
set_option maxRecDepth 100000 in
set_option maxHeartbeats 4000000 in
theorem bX11_stonesOn_0_4 {E : En} {l : Launch} {Z : Zt} (hI : Inj E) (hl0 : lZ l Z) (X : Cx E Z cX11_stonesOn RX11 4 2) (hr : rtOf Z = some .int) : ∀ (n : Nat) (p1 : Int32) (p2 : Int32) (p3 : Int32) (μ : Mem), AO E Z 4 (QI E Z) 4 [(0, .ref (eAd E 0)), (1, .int p1), (2, .int p2), (3, .int p3)] [] μ (fX11_stonesOn_0_b4 n p1 p2 p3 μ) := by
  intro n
  induction n with
  | zero =>
    intros
    exact ao_none
  | succ n ih =>
    intro p1 p2 p3 μ
    rw [fX11_stonesOn_0_b4]
    refine ao_iload_n (pc := 4) X dX11_stonesOn_4 rfl ?_
    refine ao_aload_n (pc := 5) X dX11_stonesOn_5 rfl ?_
    refine ao_getR (pc := 6) X dX11_stonesOn_6 fl_RX11_26 sf_0_2 ?_
    refine ao_getI (pc := 9) X dX11_stonesOn_9 fl_RX11_119 sf_5_5 ?_
    refine ao_icmp_ge (pc := 12) (tgt := 41) X dX11_stonesOn_12 (by decide) (fun _ => ?_) (fun _ => ?_)
    · refine ao_iload_n (pc := 41) X dX11_stonesOn_41 rfl ?_
      exact ao_iret (pc := 42) X hr dX11_stonesOn_42
    · refine ao_aload_n (pc := 15) X dX11_stonesOn_15 rfl ?_
      refine ao_iload_n (pc := 16) X dX11_stonesOn_16 rfl ?_
      refine ao_iload_n (pc := 17) X dX11_stonesOn_17 rfl ?_
      refine ao_callVI (pc := 18) (As := [.int p3, .int p1]) (st := []) X hl0 dX11_stonesOn_18 yv_X11_stonesOnOne so_0 ml_RX11_287 (mX11_stonesOnOne_0 hI p3 p1 μ) (Nat.le_of_ble_eq_true rfl) rfl rfl (Nat.le_of_ble_eq_true rfl) (fun r1 m2 => ?_)
      refine ao_if_ge (pc := 21) (tgt := 26) X dX11_stonesOn_21 (by decide) (fun _ => ?_) (fun _ => ?_)
      · refine ao_iload_n (pc := 26) X dX11_stonesOn_26 rfl ?_
        refine ao_aload_n (pc := 27) X dX11_stonesOn_27 rfl ?_
        refine ao_iload_n (pc := 28) X dX11_stonesOn_28 rfl ?_
        refine ao_iload_n (pc := 29) X dX11_stonesOn_29 rfl ?_
        refine ao_callVI (pc := 30) (As := [.int p3, .int p1]) (st := [.int p2]) X hl0 dX11_stonesOn_30 yv_X11_stonesOnOne so_0 ml_RX11_287 (mX11_stonesOnOne_0 hI p3 p1 m2) (Nat.le_of_ble_eq_true rfl) rfl rfl (Nat.le_of_ble_eq_true rfl) (fun r3 m4 => ?_)
        refine ao_iadd (pc := 33) X dX11_stonesOn_33 ?_
        refine ao_ltI (fun x5 => ?_)
        refine ao_istore_n (pc := 34) (lv' := [(2, .int x5), (0, .ref (eAd E 0)), (1, .int p1), (3, .int p3)]) X dX11_stonesOn_34 rfl (by decide) rfl ?_
        refine ao_iinc (pc := 35) (k := 3) (v := p3 + (1 : Int32)) (lv' := [(3, .int (p3 + (1 : Int32))), (2, .int x5), (0, .ref (eAd E 0)), (1, .int p1)]) X dX11_stonesOn_35 rfl (ii_ic ic_1) (by decide) rfl ?_
        refine ao_goto (pc := 38) (tgt := 4) X dX11_stonesOn_38 (by decide) ?_
        refine ao_sub [2, 3, 1, 0] rfl ?_
        exact ih p1 x5 (p3 + (1 : Int32)) m4
      · refine ao_iconst (pc := 24) X dX11_stonesOn_24 ic_m1 ?_
        exact ao_iret (pc := 25) X hr dX11_stonesOn_25
def fX11_stonesOn_0 (v1 : Int32) (μ : Mem) : Option (Int32 × Mem) :=
  fX11_stonesOn_0_b4 FU v1 (0 : Int32) (0 : Int32) μ
set_option maxRecDepth 100000 in
set_option maxHeartbeats 4000000 in
theorem mX11_stonesOn_0 {E : En} {l : Launch} (hI : Inj E) (v1 : Int32) (μ : Mem) : MtI E l yX11_stonesOn cX11_stonesOn 4 (some .int) 2 [.ref (eAd E 0), .int v1] μ (fX11_stonesOn_0 v1 μ) := by
  refine mtI_of (own := RX11) [(0, .ref (eAd E 0)), (1, .int v1)] hI rfl (by decide) (Nat.le_of_ble_eq_true rfl) (Nat.le_of_ble_eq_true rfl) rfl (fun Z hl0 X hr => ?_)
  unfold fX11_stonesOn_0
  refine ao_iconst (pc := 0) X dX11_stonesOn_0 ic_0 ?_
  refine ao_istore_n (pc := 1) (lv' := [(2, .int (0 : Int32)), (0, .ref (eAd E 0)), (1, .int v1)]) X dX11_stonesOn_1 rfl (by decide) rfl ?_
  refine ao_iconst (pc := 2) X dX11_stonesOn_2 ic_0 ?_
  refine ao_istore_n (pc := 3) (lv' := [(3, .int (0 : Int32)), (2, .int (0 : Int32)), (0, .ref (eAd E 0)), (1, .int v1)]) X dX11_stonesOn_3 rfl (by decide) rfl ?_
  refine ao_sub [2, 3, 1, 0] rfl ?_
  exact bX11_stonesOn_0_4 hI hl0 X hr FU v1 (0 : Int32) (0 : Int32) μ
def fX11_isBetterLaid_0_b32 (p3 : Int32) (p4 : Int32) (μ : Mem) : Option (Int32 × Mem) :=
  if 0 < p3 then (some ((1 : Int32), μ))
  else if p3 = 0 then (if 0 ≤ p4 then (some ((0 : Int32), μ))
      else some ((1 : Int32), μ))
    else some ((0 : Int32), μ)
set_option maxRecDepth 100000 in
set_option maxHeartbeats 4000000 in
theorem bX11_isBetterLaid_0_32 {E : En} {l : Launch} {Z : Zt} (hI : Inj E) (hl0 : lZ l Z) (X : Cx E Z cX11_isBetterLaid RX11 7 3) (hr : rtOf Z = some .boolean) (p3 : Int32) (p4 : Int32) (μ : Mem) : AO E Z 7 (QI E Z) 32 [(3, .int p3), (4, .int p4)] [] μ (fX11_isBetterLaid_0_b32 p3 p4 μ) := by
  unfold fX11_isBetterLaid_0_b32
  refine ao_iload_n (pc := 32) X dX11_isBetterLaid_32 rfl ?_
  refine ao_if_gt (pc := 33) (tgt := 45) X dX11_isBetterLaid_33 (by decide) (fun _ => ?_) (fun _ => ?_)
  · refine ao_iconst (pc := 45) X dX11_isBetterLaid_45 ic_1 ?_
    refine ao_goto (pc := 46) (tgt := 50) X dX11_isBetterLaid_46 (by decide) ?_
    exact ao_zret (pc := 50) X hr rfl dX11_isBetterLaid_50
  · refine ao_iload_n (pc := 36) X dX11_isBetterLaid_36 rfl ?_
    refine ao_if_ne (pc := 37) (tgt := 49) X dX11_isBetterLaid_37 (by decide) (fun _ => ?_) (fun _ => ?_)
    · refine ao_iconst (pc := 49) X dX11_isBetterLaid_49 ic_0 ?_
      exact ao_zret (pc := 50) X hr rfl dX11_isBetterLaid_50
    · refine ao_iload (pc := 40) X dX11_isBetterLaid_40 rfl ?_
      refine ao_if_ge (pc := 42) (tgt := 49) X dX11_isBetterLaid_42 (by decide) (fun _ => ?_) (fun _ => ?_)
      · refine ao_iconst (pc := 49) X dX11_isBetterLaid_49 ic_0 ?_
        exact ao_zret (pc := 50) X hr rfl dX11_isBetterLaid_50
      · refine ao_iconst (pc := 45) X dX11_isBetterLaid_45 ic_1 ?_
        refine ao_goto (pc := 46) (tgt := 50) X dX11_isBetterLaid_46 (by decide) ?_
        exact ao_zret (pc := 50) X hr rfl dX11_isBetterLaid_50
def fX11_isBetterLaid_0_b54 : Nat → Int32 → Int32 → Int32 → Mem → Option (Int32 × Mem)
  | 0, _, _, _, _ => none
  | n + 1, p1, p2, p5, μ =>
  if (gI μ 5 5) ≤ p5 then (some ((0 : Int32), μ))
  else bnd (fX11_stonesOnOne_0 p5 p1 μ) fun r11 m12 =>
    bnd (fX11_stonesOnOne_0 p5 p2 m12) fun r13 m14 =>
    lt (r11 - r13) fun x15 =>
    if x15 = 0 then (fX11_isBetterLaid_0_b54 n p1 p2 (p5 + (1 : Int32)) m14)
    else if 0 ≤ x15 then (some ((0 : Int32), m14))
      else some ((1 : Int32), m14)
set_option maxRecDepth 100000 in
set_option maxHeartbeats 4000000 in
theorem bX11_isBetterLaid_0_54 {E : En} {l : Launch} {Z : Zt} (hI : Inj E) (hl0 : lZ l Z) (X : Cx E Z cX11_isBetterLaid RX11 7 3) (hr : rtOf Z = some .boolean) : ∀ (n : Nat) (p1 : Int32) (p2 : Int32) (p5 : Int32) (μ : Mem), AO E Z 7 (QI E Z) 54 [(0, .ref (eAd E 0)), (1, .int p1), (2, .int p2), (5, .int p5)] [] μ (fX11_isBetterLaid_0_b54 n p1 p2 p5 μ) := by
  intro n
  induction n with
  | zero =>
    intros
    exact ao_none
  | succ n ih =>
    intro p1 p2 p5 μ
    rw [fX11_isBetterLaid_0_b54]
    refine ao_iload (pc := 54) X dX11_isBetterLaid_54 rfl ?_
    refine ao_aload_n (pc := 56) X dX11_isBetterLaid_56 rfl ?_
    refine ao_getR (pc := 57) X dX11_isBetterLaid_57 fl_RX11_26 sf_0_2 ?_
    refine ao_getI (pc := 60) X dX11_isBetterLaid_60 fl_RX11_119 sf_5_5 ?_
    refine ao_icmp_ge (pc := 63) (tgt := 105) X dX11_isBetterLaid_63 (by decide) (fun _ => ?_) (fun _ => ?_)
    · refine ao_iconst (pc := 105) X dX11_isBetterLaid_105 ic_0 ?_
      exact ao_zret (pc := 106) X hr rfl dX11_isBetterLaid_106
    · refine ao_aload_n (pc := 66) X dX11_isBetterLaid_66 rfl ?_
      refine ao_iload (pc := 67) X dX11_isBetterLaid_67 rfl ?_
      refine ao_iload_n (pc := 69) X dX11_isBetterLaid_69 rfl ?_
      refine ao_callVI (pc := 70) (As := [.int p5, .int p1]) (st := []) X hl0 dX11_isBetterLaid_70 yv_X11_stonesOnOne so_0 ml_RX11_287 (mX11_stonesOnOne_0 hI p5 p1 μ) (Nat.le_of_ble_eq_true rfl) rfl rfl (Nat.le_of_ble_eq_true rfl) (fun r11 m12 => ?_)
      refine ao_aload_n (pc := 73) X dX11_isBetterLaid_73 rfl ?_
      refine ao_iload (pc := 74) X dX11_isBetterLaid_74 rfl ?_
      refine ao_iload_n (pc := 76) X dX11_isBetterLaid_76 rfl ?_
      refine ao_callVI (pc := 77) (As := [.int p5, .int p2]) (st := [.int r11]) X hl0 dX11_isBetterLaid_77 yv_X11_stonesOnOne so_0 ml_RX11_287 (mX11_stonesOnOne_0 hI p5 p2 m12) (Nat.le_of_ble_eq_true rfl) rfl rfl (Nat.le_of_ble_eq_true rfl) (fun r13 m14 => ?_)
      refine ao_isub (pc := 80) X dX11_isBetterLaid_80 ?_
      refine ao_ltI (fun x15 => ?_)
      refine ao_istore (pc := 81) (lv' := [(6, .int x15), (0, .ref (eAd E 0)), (1, .int p1), (2, .int p2), (5, .int p5)]) X dX11_isBetterLaid_81 (by decide) rfl ?_
      refine ao_iload (pc := 83) X dX11_isBetterLaid_83 rfl ?_
      refine ao_if_eq (pc := 85) (tgt := 99) X dX11_isBetterLaid_85 (by decide) (fun _ => ?_) (fun _ => ?_)
      · refine ao_iinc (pc := 99) (k := 4) (v := p5 + (1 : Int32)) (lv' := [(5, .int (p5 + (1 : Int32))), (6, .int x15), (0, .ref (eAd E 0)), (1, .int p1), (2, .int p2)]) X dX11_isBetterLaid_99 rfl (ii_ic ic_1) (by decide) rfl ?_
        refine ao_goto (pc := 102) (tgt := 54) X dX11_isBetterLaid_102 (by decide) ?_
        refine ao_sub [2, 3, 4, 0] rfl ?_
        exact ih p1 p2 (p5 + (1 : Int32)) m14
      · refine ao_iload (pc := 88) X dX11_isBetterLaid_88 rfl ?_
        refine ao_if_ge (pc := 90) (tgt := 97) X dX11_isBetterLaid_90 (by decide) (fun _ => ?_) (fun _ => ?_)
        · refine ao_iconst (pc := 97) X dX11_isBetterLaid_97 ic_0 ?_
          exact ao_zret (pc := 98) X hr rfl dX11_isBetterLaid_98
        · refine ao_iconst (pc := 93) X dX11_isBetterLaid_93 ic_1 ?_
          refine ao_goto (pc := 94) (tgt := 98) X dX11_isBetterLaid_94 (by decide) ?_
          exact ao_zret (pc := 98) X hr rfl dX11_isBetterLaid_98
def fX11_isBetterLaid_0 (v1 : Int32) (v2 : Int32) (μ : Mem) : Option (Int32 × Mem) :=
  bnd (fJ6_bitCount_0f7a4 v1 μ) fun r1 m2 =>
  bnd (fJ6_bitCount_0f7a4 v2 m2) fun r3 m4 =>
  lt (r1 - r3) fun x5 =>
  bnd (fX11_stonesOn_0 v1 m4) fun r6 m7 =>
  bnd (fX11_stonesOn_0 v2 m7) fun r8 m9 =>
  lt (r6 - r8) fun x10 =>
  if x5 = 0 then (if x10 = 0 then (fX11_isBetterLaid_0_b54 FU v1 v2 (0 : Int32) m9)
    else fX11_isBetterLaid_0_b32 x5 x10 m9)
  else fX11_isBetterLaid_0_b32 x5 x10 m9
set_option maxRecDepth 100000 in
set_option maxHeartbeats 4000000 in
theorem mX11_isBetterLaid_0 {E : En} {l : Launch} (hI : Inj E) (v1 : Int32) (v2 : Int32) (μ : Mem) : MtI E l yX11_isBetterLaid cX11_isBetterLaid 7 (some .boolean) 3 [.ref (eAd E 0), .int v1, .int v2] μ (fX11_isBetterLaid_0 v1 v2 μ) := by
  refine mtI_of (own := RX11) [(0, .ref (eAd E 0)), (1, .int v1), (2, .int v2)] hI rfl (by decide) (Nat.le_of_ble_eq_true rfl) (Nat.le_of_ble_eq_true rfl) rfl (fun Z hl0 X hr => ?_)
  unfold fX11_isBetterLaid_0
  refine ao_iload_n (pc := 0) X dX11_isBetterLaid_0 rfl ?_
  refine ao_callSI (pc := 1) (As := [.int v1]) (st := []) X hl0 dX11_isBetterLaid_1 yv_J6_bitCount_0f7a4 ml_RX11_292 (mJ6_bitCount_0f7a4 hI v1 μ) (Nat.le_of_ble_eq_true rfl) rfl rfl (Nat.le_of_ble_eq_true rfl) (fun r1 m2 => ?_)
  refine ao_iload_n (pc := 4) X dX11_isBetterLaid_4 rfl ?_
  refine ao_callSI (pc := 5) (As := [.int v2]) (st := [.int r1]) X hl0 dX11_isBetterLaid_5 yv_J6_bitCount_0f7a4 ml_RX11_292 (mJ6_bitCount_0f7a4 hI v2 m2) (Nat.le_of_ble_eq_true rfl) rfl rfl (Nat.le_of_ble_eq_true rfl) (fun r3 m4 => ?_)
  refine ao_isub (pc := 8) X dX11_isBetterLaid_8 ?_
  refine ao_ltI (fun x5 => ?_)
  refine ao_istore_n (pc := 9) (lv' := [(3, .int x5), (0, .ref (eAd E 0)), (1, .int v1), (2, .int v2)]) X dX11_isBetterLaid_9 rfl (by decide) rfl ?_
  refine ao_aload_n (pc := 10) X dX11_isBetterLaid_10 rfl ?_
  refine ao_iload_n (pc := 11) X dX11_isBetterLaid_11 rfl ?_
  refine ao_callVI (pc := 12) (As := [.int v1]) (st := []) X hl0 dX11_isBetterLaid_12 yv_X11_stonesOn so_0 ml_RX11_277 (mX11_stonesOn_0 hI v1 m4) (Nat.le_of_ble_eq_true rfl) rfl rfl (Nat.le_of_ble_eq_true rfl) (fun r6 m7 => ?_)
  refine ao_aload_n (pc := 15) X dX11_isBetterLaid_15 rfl ?_
  refine ao_iload_n (pc := 16) X dX11_isBetterLaid_16 rfl ?_
  refine ao_callVI (pc := 17) (As := [.int v2]) (st := [.int r6]) X hl0 dX11_isBetterLaid_17 yv_X11_stonesOn so_0 ml_RX11_277 (mX11_stonesOn_0 hI v2 m7) (Nat.le_of_ble_eq_true rfl) rfl rfl (Nat.le_of_ble_eq_true rfl) (fun r8 m9 => ?_)
  refine ao_isub (pc := 20) X dX11_isBetterLaid_20 ?_
  refine ao_ltI (fun x10 => ?_)
  refine ao_istore (pc := 21) (lv' := [(4, .int x10), (3, .int x5), (0, .ref (eAd E 0)), (1, .int v1), (2, .int v2)]) X dX11_isBetterLaid_21 (by decide) rfl ?_
  refine ao_iload_n (pc := 23) X dX11_isBetterLaid_23 rfl ?_
  refine ao_if_ne (pc := 24) (tgt := 32) X dX11_isBetterLaid_24 (by decide) (fun _ => ?_) (fun _ => ?_)
  · refine ao_sub [1, 0] rfl ?_
    exact bX11_isBetterLaid_0_32 hI hl0 X hr x5 x10 m9
  · refine ao_iload (pc := 27) X dX11_isBetterLaid_27 rfl ?_
    refine ao_if_eq (pc := 29) (tgt := 51) X dX11_isBetterLaid_29 (by decide) (fun _ => ?_) (fun _ => ?_)
    · refine ao_iconst (pc := 51) X dX11_isBetterLaid_51 ic_0 ?_
      refine ao_istore (pc := 52) (lv' := [(5, .int (0 : Int32)), (4, .int x10), (3, .int x5), (0, .ref (eAd E 0)), (1, .int v1), (2, .int v2)]) X dX11_isBetterLaid_52 (by decide) rfl ?_
      refine ao_sub [3, 4, 5, 0] rfl ?_
      exact bX11_isBetterLaid_0_54 hI hl0 X hr FU v1 v2 (0 : Int32) m9
    · refine ao_sub [1, 0] rfl ?_
      exact bX11_isBetterLaid_0_32 hI hl0 X hr x5 x10 m9
def fX11_leastStones_0_b15 : Nat → Int32 → Int32 → Mem → Option (Int32 × Mem)
  | 0, _, _, _ => none
  | n + 1, p1, p2, μ =>
  if (90 : Int32) < p2 then (some ((-1 : Int32), μ))
  else bnd (fX4_pleadsIn_33 p1 p2 (gI μ 0 14) μ) fun r3 m4 =>
    if r3 < 0 then (fX11_leastStones_0_b15 n p1 (p2 + (10 : Int32)) m4)
    else some (p2, m4)
set_option maxRecDepth 100000 in
set_option maxHeartbeats 4000000 in
theorem bX11_leastStones_0_15 {E : En} {l : Launch} {Z : Zt} (hI : Inj E) (hl0 : lZ l Z) (X : Cx E Z cX11_leastStones RX11 3 6) (hr : rtOf Z = some .int) : ∀ (n : Nat) (p1 : Int32) (p2 : Int32) (μ : Mem), AO E Z 3 (QI E Z) 15 [(0, .ref (eAd E 0)), (1, .int p1), (2, .int p2)] [] μ (fX11_leastStones_0_b15 n p1 p2 μ) := by
  intro n
  induction n with
  | zero =>
    intros
    exact ao_none
  | succ n ih =>
    intro p1 p2 μ
    rw [fX11_leastStones_0_b15]
    refine ao_iload_n (pc := 15) X dX11_leastStones_15 rfl ?_
    refine ao_bipush (pc := 16) X dX11_leastStones_16 bp_90 ?_
    refine ao_icmp_gt (pc := 18) (tgt := 45) X dX11_leastStones_18 (by decide) (fun _ => ?_) (fun _ => ?_)
    · refine ao_iconst (pc := 45) X dX11_leastStones_45 ic_m1 ?_
      exact ao_iret (pc := 46) X hr dX11_leastStones_46
    · refine ao_aload_n (pc := 21) X dX11_leastStones_21 rfl ?_
      refine ao_getR (pc := 22) X dX11_leastStones_22 fl_RX11_65 sf_0_7 ?_
      refine ao_iload_n (pc := 25) X dX11_leastStones_25 rfl ?_
      refine ao_iload_n (pc := 26) X dX11_leastStones_26 rfl ?_
      refine ao_aload_n (pc := 27) X dX11_leastStones_27 rfl ?_
      refine ao_getI (pc := 28) X dX11_leastStones_28 fl_RX11_100 sf_0_14 ?_
      refine ao_callVI (pc := 31) (As := [.int p1, .int p2, .int (gI μ 0 14)]) (st := []) X hl0 dX11_leastStones_31 yv_X4_pleadsIn so_33 ml_RX11_271 (mX4_pleadsIn_33 hI p1 p2 (gI μ 0 14) μ) (Nat.le_of_ble_eq_true rfl) rfl rfl (Nat.le_of_ble_eq_true rfl) (fun r3 m4 => ?_)
      refine ao_if_lt (pc := 34) (tgt := 39) X dX11_leastStones_34 (by decide) (fun _ => ?_) (fun _ => ?_)
      · refine ao_iinc (pc := 39) (k := 2) (v := p2 + (10 : Int32)) (lv' := [(2, .int (p2 + (10 : Int32))), (0, .ref (eAd E 0)), (1, .int p1)]) X dX11_leastStones_39 rfl (ii_ic ic_10) (by decide) rfl ?_
        refine ao_goto (pc := 42) (tgt := 15) X dX11_leastStones_42 (by decide) ?_
        refine ao_sub [1, 2, 0] rfl ?_
        exact ih p1 (p2 + (10 : Int32)) m4
      · refine ao_iload_n (pc := 37) X dX11_leastStones_37 rfl ?_
        exact ao_iret (pc := 38) X hr dX11_leastStones_38
def fX11_leastStones_0 (v1 : Int32) (μ : Mem) : Option (Int32 × Mem) :=
  bnd (fX4_isSilent_33 v1 μ) fun r1 m2 =>
  if r1 = 0 then (some ((-1 : Int32), m2))
  else fX11_leastStones_0_b15 FU v1 (0 : Int32) m2
set_option maxRecDepth 100000 in
set_option maxHeartbeats 4000000 in
theorem mX11_leastStones_0 {E : En} {l : Launch} (hI : Inj E) (v1 : Int32) (μ : Mem) : MtI E l yX11_leastStones cX11_leastStones 3 (some .int) 6 [.ref (eAd E 0), .int v1] μ (fX11_leastStones_0 v1 μ) := by
  refine mtI_of (own := RX11) [(0, .ref (eAd E 0)), (1, .int v1)] hI rfl (by decide) (Nat.le_of_ble_eq_true rfl) (Nat.le_of_ble_eq_true rfl) rfl (fun Z hl0 X hr => ?_)
  unfold fX11_leastStones_0
  refine ao_aload_n (pc := 0) X dX11_leastStones_0 rfl ?_
  refine ao_getR (pc := 1) X dX11_leastStones_1 fl_RX11_65 sf_0_7 ?_
  refine ao_iload_n (pc := 4) X dX11_leastStones_4 rfl ?_
  refine ao_callVI (pc := 5) (As := [.int v1]) (st := []) X hl0 dX11_leastStones_5 yv_X4_isSilent so_33 ml_RX11_261 (mX4_isSilent_33 hI v1 μ) (Nat.le_of_ble_eq_true rfl) rfl rfl (Nat.le_of_ble_eq_true rfl) (fun r1 m2 => ?_)
  refine ao_if_ne (pc := 8) (tgt := 13) X dX11_leastStones_8 (by decide) (fun _ => ?_) (fun _ => ?_)
  · refine ao_iconst (pc := 13) X dX11_leastStones_13 ic_0 ?_
    refine ao_istore_n (pc := 14) (lv' := [(2, .int (0 : Int32)), (0, .ref (eAd E 0)), (1, .int v1)]) X dX11_leastStones_14 rfl (by decide) rfl ?_
    refine ao_sub [1, 2, 0] rfl ?_
    exact bX11_leastStones_0_15 hI hl0 X hr FU v1 (0 : Int32) m2
  · refine ao_iconst (pc := 11) X dX11_leastStones_11 ic_m1 ?_
    exact ao_iret (pc := 12) X hr dX11_leastStones_12
def fX11_stones_0_b104 : Nat → Int32 → Int32 → Mem → Option (Int32 × Mem)
  | 0, _, _, _ => none
  | n + 1, p2, p3, μ =>
  if (gI μ 5 5) ≤ p3 then (bnd (fJ6_bitCount_0f7a4 p2 μ) fun r15 m16 =>
    some (r15, m16))
  else bnd (fX11_stonesOnOne_0 p3 p2 μ) fun r17 m18 =>
    bnd (fX7_add_3 (Int32.toInt64 r17) m18) fun r19 m20 =>
    fX11_stones_0_b104 n p2 (p3 + (1 : Int32)) m20
set_option maxRecDepth 100000 in
set_option maxHeartbeats 4000000 in
theorem bX11_stones_0_104 {E : En} {l : Launch} {Z : Zt} (hI : Inj E) (hl0 : lZ l Z) (X : Cx E Z cX11_stones RX11 5 7) (hr : rtOf Z = some .int) : ∀ (n : Nat) (p2 : Int32) (p3 : Int32) (μ : Mem), AO E Z 5 (QI E Z) 104 [(0, .ref (eAd E 0)), (2, .int p2), (3, .int p3)] [] μ (fX11_stones_0_b104 n p2 p3 μ) := by
  intro n
  induction n with
  | zero =>
    intros
    exact ao_none
  | succ n ih =>
    intro p2 p3 μ
    rw [fX11_stones_0_b104]
    refine ao_iload_n (pc := 104) X dX11_stones_104 rfl ?_
    refine ao_aload_n (pc := 105) X dX11_stones_105 rfl ?_
    refine ao_getR (pc := 106) X dX11_stones_106 fl_RX11_26 sf_0_2 ?_
    refine ao_getI (pc := 109) X dX11_stones_109 fl_RX11_119 sf_5_5 ?_
    refine ao_icmp_ge (pc := 112) (tgt := 135) X dX11_stones_112 (by decide) (fun _ => ?_) (fun _ => ?_)
    · refine ao_iload_n (pc := 135) X dX11_stones_135 rfl ?_
      refine ao_callSI (pc := 136) (As := [.int p2]) (st := []) X hl0 dX11_stones_136 yv_J6_bitCount_0f7a4 ml_RX11_292 (mJ6_bitCount_0f7a4 hI p2 μ) (Nat.le_of_ble_eq_true rfl) rfl rfl (Nat.le_of_ble_eq_true rfl) (fun r15 m16 => ?_)
      exact ao_iret (pc := 139) X hr dX11_stones_139
    · refine ao_aload_n (pc := 115) X dX11_stones_115 rfl ?_
      refine ao_getR (pc := 116) X dX11_stones_116 fl_RX11_19 sf_0_1 ?_
      refine ao_aload_n (pc := 119) X dX11_stones_119 rfl ?_
      refine ao_iload_n (pc := 120) X dX11_stones_120 rfl ?_
      refine ao_iload_n (pc := 121) X dX11_stones_121 rfl ?_
      refine ao_callVI (pc := 122) (As := [.int p3, .int p2]) (st := [.ref (eAd E 3)]) X hl0 dX11_stones_122 yv_X11_stonesOnOne so_0 ml_RX11_287 (mX11_stonesOnOne_0 hI p3 p2 μ) (Nat.le_of_ble_eq_true rfl) rfl rfl (Nat.le_of_ble_eq_true rfl) (fun r17 m18 => ?_)
      refine ao_i2l (pc := 125) X dX11_stones_125 ?_
      refine ao_callVV (pc := 126) (As := [.long (Int32.toInt64 r17)]) (st := []) X hl0 dX11_stones_126 yv_X7_add so_3 ml_RX11_290 (mX7_add_3 hI (Int32.toInt64 r17) m18) (Nat.le_of_ble_eq_true rfl) rfl rfl (Nat.le_of_ble_eq_true rfl) (fun r19 m20 => ?_)
      refine ao_iinc (pc := 129) (k := 2) (v := p3 + (1 : Int32)) (lv' := [(3, .int (p3 + (1 : Int32))), (0, .ref (eAd E 0)), (2, .int p2)]) X dX11_stones_129 rfl (ii_ic ic_1) (by decide) rfl ?_
      refine ao_goto (pc := 132) (tgt := 104) X dX11_stones_132 (by decide) ?_
      refine ao_sub [1, 2, 0] rfl ?_
      exact ih p2 (p3 + (1 : Int32)) m20
def fX11_stones_0_b47 : Nat → Int32 → Int32 → Int32 → Mem → Option (Int32 × Mem)
  | 0, _, _, _, _ => none
  | n + 1, p1, p2, p3, μ =>
  if ((1 : Int32) <<< ((gI μ 5 5) &&& 31)) ≤ p3 then (bnd (fX7_clear_3 μ) fun r5 m6 =>
    fX11_stones_0_b104 FU p2 (0 : Int32) m6)
  else bnd (fX11_stonesOn_0 p3 μ) fun r7 m8 =>
    if r7 < 0 then (fX11_stones_0_b47 n p1 p2 (p3 + (1 : Int32)) m8)
    else if p1 < r7 then (fX11_stones_0_b47 n p1 p2 (p3 + (1 : Int32)) m8)
      else bnd (fX11_isBetterLaid_0 p3 p2 m8) fun r11 m12 =>
        if r11 = 0 then (fX11_stones_0_b47 n p1 p2 (p3 + (1 : Int32)) m12)
        else fX11_stones_0_b47 n p1 p3 (p3 + (1 : Int32)) m12
set_option maxRecDepth 100000 in
set_option maxHeartbeats 4000000 in
theorem bX11_stones_0_47 {E : En} {l : Launch} {Z : Zt} (hI : Inj E) (hl0 : lZ l Z) (X : Cx E Z cX11_stones RX11 5 7) (hr : rtOf Z = some .int) : ∀ (n : Nat) (p1 : Int32) (p2 : Int32) (p3 : Int32) (μ : Mem), AO E Z 5 (QI E Z) 47 [(0, .ref (eAd E 0)), (1, .int p1), (2, .int p2), (3, .int p3)] [] μ (fX11_stones_0_b47 n p1 p2 p3 μ) := by
  intro n
  induction n with
  | zero =>
    intros
    exact ao_none
  | succ n ih =>
    intro p1 p2 p3 μ
    rw [fX11_stones_0_b47]
    refine ao_iload_n (pc := 47) X dX11_stones_47 rfl ?_
    refine ao_iconst (pc := 48) X dX11_stones_48 ic_1 ?_
    refine ao_aload_n (pc := 49) X dX11_stones_49 rfl ?_
    refine ao_getR (pc := 50) X dX11_stones_50 fl_RX11_26 sf_0_2 ?_
    refine ao_getI (pc := 53) X dX11_stones_53 fl_RX11_119 sf_5_5 ?_
    refine ao_ishl (pc := 56) X dX11_stones_56 ?_
    refine ao_icmp_ge (pc := 57) (tgt := 95) X dX11_stones_57 (by decide) (fun _ => ?_) (fun _ => ?_)
    · refine ao_aload_n (pc := 95) X dX11_stones_95 rfl ?_
      refine ao_getR (pc := 96) X dX11_stones_96 fl_RX11_19 sf_0_1 ?_
      refine ao_callVV (pc := 99) (As := []) (st := []) X hl0 dX11_stones_99 yv_X7_clear so_3 ml_RX11_284 (mX7_clear_3 hI μ) (Nat.le_of_ble_eq_true rfl) rfl rfl (Nat.le_of_ble_eq_true rfl) (fun r5 m6 => ?_)
      refine ao_iconst (pc := 102) X dX11_stones_102 ic_0 ?_
      refine ao_istore_n (pc := 103) (lv' := [(3, .int (0 : Int32)), (0, .ref (eAd E 0)), (1, .int p1), (2, .int p2)]) X dX11_stones_103 rfl (by decide) rfl ?_
      refine ao_sub [1, 3, 0] rfl ?_
      exact bX11_stones_0_104 hI hl0 X hr FU p2 (0 : Int32) m6
    · refine ao_aload_n (pc := 60) X dX11_stones_60 rfl ?_
      refine ao_iload_n (pc := 61) X dX11_stones_61 rfl ?_
      refine ao_callVI (pc := 62) (As := [.int p3]) (st := []) X hl0 dX11_stones_62 yv_X11_stonesOn so_0 ml_RX11_277 (mX11_stonesOn_0 hI p3 μ) (Nat.le_of_ble_eq_true rfl) rfl rfl (Nat.le_of_ble_eq_true rfl) (fun r7 m8 => ?_)
      refine ao_istore (pc := 65) (lv' := [(4, .int r7), (0, .ref (eAd E 0)), (1, .int p1), (2, .int p2), (3, .int p3)]) X dX11_stones_65 (by decide) rfl ?_
      refine ao_iload (pc := 67) X dX11_stones_67 rfl ?_
      refine ao_if_lt (pc := 69) (tgt := 89) X dX11_stones_69 (by decide) (fun _ => ?_) (fun _ => ?_)
      · refine ao_iinc (pc := 89) (k := 4) (v := p3 + (1 : Int32)) (lv' := [(3, .int (p3 + (1 : Int32))), (4, .int r7), (0, .ref (eAd E 0)), (1, .int p1), (2, .int p2)]) X dX11_stones_89 rfl (ii_ic ic_1) (by decide) rfl ?_
        refine ao_goto (pc := 92) (tgt := 47) X dX11_stones_92 (by decide) ?_
        refine ao_sub [2, 3, 4, 0] rfl ?_
        exact ih p1 p2 (p3 + (1 : Int32)) m8
      · refine ao_iload (pc := 72) X dX11_stones_72 rfl ?_
        refine ao_iload_n (pc := 74) X dX11_stones_74 rfl ?_
        refine ao_icmp_gt (pc := 75) (tgt := 89) X dX11_stones_75 (by decide) (fun _ => ?_) (fun _ => ?_)
        · refine ao_iinc (pc := 89) (k := 4) (v := p3 + (1 : Int32)) (lv' := [(3, .int (p3 + (1 : Int32))), (4, .int r7), (0, .ref (eAd E 0)), (1, .int p1), (2, .int p2)]) X dX11_stones_89 rfl (ii_ic ic_1) (by decide) rfl ?_
          refine ao_goto (pc := 92) (tgt := 47) X dX11_stones_92 (by decide) ?_
          refine ao_sub [2, 3, 4, 0] rfl ?_
          exact ih p1 p2 (p3 + (1 : Int32)) m8
        · refine ao_aload_n (pc := 78) X dX11_stones_78 rfl ?_
          refine ao_iload_n (pc := 79) X dX11_stones_79 rfl ?_
          refine ao_iload_n (pc := 80) X dX11_stones_80 rfl ?_
          refine ao_callVI (pc := 81) (As := [.int p3, .int p2]) (st := []) X hl0 dX11_stones_81 yv_X11_isBetterLaid so_0 ml_RX11_280 (mX11_isBetterLaid_0 hI p3 p2 m8) (Nat.le_of_ble_eq_true rfl) rfl rfl (Nat.le_of_ble_eq_true rfl) (fun r11 m12 => ?_)
          refine ao_if_eq (pc := 84) (tgt := 89) X dX11_stones_84 (by decide) (fun _ => ?_) (fun _ => ?_)
          · refine ao_iinc (pc := 89) (k := 4) (v := p3 + (1 : Int32)) (lv' := [(3, .int (p3 + (1 : Int32))), (4, .int r7), (0, .ref (eAd E 0)), (1, .int p1), (2, .int p2)]) X dX11_stones_89 rfl (ii_ic ic_1) (by decide) rfl ?_
            refine ao_goto (pc := 92) (tgt := 47) X dX11_stones_92 (by decide) ?_
            refine ao_sub [2, 3, 4, 0] rfl ?_
            exact ih p1 p2 (p3 + (1 : Int32)) m12
          · refine ao_iload_n (pc := 87) X dX11_stones_87 rfl ?_
            refine ao_istore_n (pc := 88) (lv' := [(2, .int p3), (4, .int r7), (0, .ref (eAd E 0)), (1, .int p1), (3, .int p3)]) X dX11_stones_88 rfl (by decide) rfl ?_
            refine ao_iinc (pc := 89) (k := 4) (v := p3 + (1 : Int32)) (lv' := [(3, .int (p3 + (1 : Int32))), (2, .int p3), (4, .int r7), (0, .ref (eAd E 0)), (1, .int p1)]) X dX11_stones_89 rfl (ii_ic ic_1) (by decide) rfl ?_
            refine ao_goto (pc := 92) (tgt := 47) X dX11_stones_92 (by decide) ?_
            refine ao_sub [3, 4, 1, 0] rfl ?_
            exact ih p1 p3 (p3 + (1 : Int32)) m12
def fX11_stones_0_b15 : Nat → Int32 → Int32 → Mem → Option (Int32 × Mem)
  | 0, _, _, _ => none
  | n + 1, p1, p2, μ =>
  if (gI μ 5 5) ≤ p2 then (fX11_stones_0_b47 FU p1 (0 : Int32) (1 : Int32) μ)
  else bnd (fX11_leastStones_0 p2 μ) fun r1 m2 =>
    gd (inb p2 6) (lt (sI m2 121 (ix p2) r1) fun m3 =>
    fX11_stones_0_b15 n p1 (p2 + (1 : Int32)) m3)
set_option maxRecDepth 100000 in
set_option maxHeartbeats 4000000 in
theorem bX11_stones_0_15 {E : En} {l : Launch} {Z : Zt} (hI : Inj E) (hl0 : lZ l Z) (X : Cx E Z cX11_stones RX11 5 7) (hr : rtOf Z = some .int) : ∀ (n : Nat) (p1 : Int32) (p2 : Int32) (μ : Mem), AO E Z 5 (QI E Z) 15 [(0, .ref (eAd E 0)), (1, .int p1), (2, .int p2)] [] μ (fX11_stones_0_b15 n p1 p2 μ) := by
  intro n
  induction n with
  | zero =>
    intros
    exact ao_none
  | succ n ih =>
    intro p1 p2 μ
    rw [fX11_stones_0_b15]
    refine ao_iload_n (pc := 15) X dX11_stones_15 rfl ?_
    refine ao_aload_n (pc := 16) X dX11_stones_16 rfl ?_
    refine ao_getR (pc := 17) X dX11_stones_17 fl_RX11_26 sf_0_2 ?_
    refine ao_getI (pc := 20) X dX11_stones_20 fl_RX11_119 sf_5_5 ?_
    refine ao_icmp_ge (pc := 23) (tgt := 43) X dX11_stones_23 (by decide) (fun _ => ?_) (fun _ => ?_)
    · refine ao_iconst (pc := 43) X dX11_stones_43 ic_0 ?_
      refine ao_istore_n (pc := 44) (lv' := [(2, .int (0 : Int32)), (0, .ref (eAd E 0)), (1, .int p1)]) X dX11_stones_44 rfl (by decide) rfl ?_
      refine ao_iconst (pc := 45) X dX11_stones_45 ic_1 ?_
      refine ao_istore_n (pc := 46) (lv' := [(3, .int (1 : Int32)), (2, .int (0 : Int32)), (0, .ref (eAd E 0)), (1, .int p1)]) X dX11_stones_46 rfl (by decide) rfl ?_
      refine ao_sub [2, 3, 1, 0] rfl ?_
      exact bX11_stones_0_47 hI hl0 X hr FU p1 (0 : Int32) (1 : Int32) μ
    · refine ao_aload_n (pc := 26) X dX11_stones_26 rfl ?_
      refine ao_getR (pc := 27) X dX11_stones_27 fl_RX11_96 sf_0_13 ?_
      refine ao_iload_n (pc := 30) X dX11_stones_30 rfl ?_
      refine ao_aload_n (pc := 31) X dX11_stones_31 rfl ?_
      refine ao_iload_n (pc := 32) X dX11_stones_32 rfl ?_
      refine ao_callVI (pc := 33) (As := [.int p2]) (st := [.int p2, .ref (eAd E 121)]) X hl0 dX11_stones_33 yv_X11_leastStones so_0 ml_RX11_274 (mX11_leastStones_0 hI p2 μ) (Nat.le_of_ble_eq_true rfl) rfl rfl (Nat.le_of_ble_eq_true rfl) (fun r1 m2 => ?_)
      refine ao_iast (pc := 36) X dX11_stones_36 sa_121 ?_
      refine ao_lt (fun m3 => ?_)
      refine ao_iinc (pc := 37) (k := 2) (v := p2 + (1 : Int32)) (lv' := [(2, .int (p2 + (1 : Int32))), (0, .ref (eAd E 0)), (1, .int p1)]) X dX11_stones_37 rfl (ii_ic ic_1) (by decide) rfl ?_
      refine ao_goto (pc := 40) (tgt := 15) X dX11_stones_40 (by decide) ?_
      refine ao_sub [1, 2, 0] rfl ?_
      exact ih p1 (p2 + (1 : Int32)) m3
def fX11_stones_0 (v1 : Int32) (μ : Mem) : Option (Int32 × Mem) :=
  if v1 < 0 then (some ((-1 : Int32), μ))
  else if v1 ≤ (400 : Int32) then (fX11_stones_0_b15 FU v1 (0 : Int32) μ)
    else some ((-1 : Int32), μ)
set_option maxRecDepth 100000 in
set_option maxHeartbeats 4000000 in
theorem mX11_stones_0 {E : En} {l : Launch} (hI : Inj E) (v1 : Int32) (μ : Mem) : MtI E l yX11_stones cX11_stones 5 (some .int) 7 [.ref (eAd E 0), .int v1] μ (fX11_stones_0 v1 μ) := by
  refine mtI_of (own := RX11) [(0, .ref (eAd E 0)), (1, .int v1)] hI rfl (by decide) (Nat.le_of_ble_eq_true rfl) (Nat.le_of_ble_eq_true rfl) rfl (fun Z hl0 X hr => ?_)
  unfold fX11_stones_0
  refine ao_iload_n (pc := 0) X dX11_stones_0 rfl ?_
  refine ao_if_lt (pc := 1) (tgt := 11) X dX11_stones_1 (by decide) (fun _ => ?_) (fun _ => ?_)
  · refine ao_iconst (pc := 11) X dX11_stones_11 ic_m1 ?_
    exact ao_iret (pc := 12) X hr dX11_stones_12
  · refine ao_iload_n (pc := 4) X dX11_stones_4 rfl ?_
    refine ao_sipush (pc := 5) X dX11_stones_5 sp_400 ?_
    refine ao_icmp_le (pc := 8) (tgt := 13) X dX11_stones_8 (by decide) (fun _ => ?_) (fun _ => ?_)
    · refine ao_iconst (pc := 13) X dX11_stones_13 ic_0 ?_
      refine ao_istore_n (pc := 14) (lv' := [(2, .int (0 : Int32)), (0, .ref (eAd E 0)), (1, .int v1)]) X dX11_stones_14 rfl (by decide) rfl ?_
      refine ao_sub [1, 2, 0] rfl ?_
      exact bX11_stones_0_15 hI hl0 X hr FU v1 (0 : Int32) μ
    · refine ao_iconst (pc := 11) X dX11_stones_11 ic_m1 ?_
      exact ao_iret (pc := 12) X hr dX11_stones_12
