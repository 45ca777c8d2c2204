def fX4_take_103_33 (μ : Mem) : Option (Unit × Mem) :=
  gd (cpOK (0 : Int32) (0 : Int32) (6 : Int32) 6 6) (lt (sC μ 34 104 (ix (0 : Int32)) (ix (0 : Int32)) (ix (6 : Int32))) fun m1 =>
  gd (cpOK (0 : Int32) (0 : Int32) (6 : Int32) 6 6) (lt (sC m1 35 105 (ix (0 : Int32)) (ix (0 : Int32)) (ix (6 : Int32))) fun m2 =>
  gd (cpOK (0 : Int32) (0 : Int32) (6 : Int32) 6 6) (lt (sC m2 36 106 (ix (0 : Int32)) (ix (0 : Int32)) (ix (6 : Int32))) fun m3 =>
  gd (cpOK (0 : Int32) (0 : Int32) (8 : Int32) 8 8) (lt (sC m3 37 107 (ix (0 : Int32)) (ix (0 : Int32)) (ix (8 : Int32))) fun m4 =>
  lt (sI m4 103 4 (gI m4 33 4)) fun m5 =>
  lt (sI m5 103 5 (0 : Int32)) fun m6 =>
  some ((), m6)))))
set_option maxRecDepth 100000 in
set_option maxHeartbeats 4000000 in
theorem mX4_take_103_33 {E : En} {l : Launch} (hI : Inj E) (μ : Mem) : MtV E l yX4_take cX4_take 2 (none) 1 [.ref (eAd E 103), .ref (eAd E 33)] μ (fX4_take_103_33 μ) := by
  refine mtV_of (own := RX4) [(0, .ref (eAd E 103)), (1, .ref (eAd E 33))] hI rfl (by decide) (Nat.le_of_ble_eq_true rfl) (Nat.le_of_ble_eq_true rfl) rfl (fun Z hl0 X hr => ?_)
  unfold fX4_take_103_33
  refine ao_aload_n (pc := 0) X dX4_take_0 rfl ?_
  refine ao_getR (pc := 1) X dX4_take_1 fl_RX4_9 sf_33_0 ?_
  refine ao_iconst (pc := 4) X dX4_take_4 ic_0 ?_
  refine ao_aload_n (pc := 5) X dX4_take_5 rfl ?_
  refine ao_getR (pc := 6) X dX4_take_6 fl_RX4_9 sf_103_0 ?_
  refine ao_iconst (pc := 9) X dX4_take_9 ic_0 ?_
  refine ao_bipush (pc := 10) X dX4_take_10 bp_6 ?_
  refine ao_copy (pc := 12) X dX4_take_12 ml_RX4_43 CpyW_ok sa_34 sa_104 (Nat.le_of_ble_eq_true rfl) ?_
  refine ao_lt (fun m1 => ?_)
  refine ao_aload_n (pc := 15) X dX4_take_15 rfl ?_
  refine ao_getR (pc := 16) X dX4_take_16 fl_RX4_15 sf_33_1 ?_
  refine ao_iconst (pc := 19) X dX4_take_19 ic_0 ?_
  refine ao_aload_n (pc := 20) X dX4_take_20 rfl ?_
  refine ao_getR (pc := 21) X dX4_take_21 fl_RX4_15 sf_103_1 ?_
  refine ao_iconst (pc := 24) X dX4_take_24 ic_0 ?_
  refine ao_bipush (pc := 25) X dX4_take_25 bp_6 ?_
  refine ao_copy (pc := 27) X dX4_take_27 ml_RX4_43 CpyW_ok sa_35 sa_105 (Nat.le_of_ble_eq_true rfl) ?_
  refine ao_lt (fun m2 => ?_)
  refine ao_aload_n (pc := 30) X dX4_take_30 rfl ?_
  refine ao_getR (pc := 31) X dX4_take_31 fl_RX4_18 sf_33_2 ?_
  refine ao_iconst (pc := 34) X dX4_take_34 ic_0 ?_
  refine ao_aload_n (pc := 35) X dX4_take_35 rfl ?_
  refine ao_getR (pc := 36) X dX4_take_36 fl_RX4_18 sf_103_2 ?_
  refine ao_iconst (pc := 39) X dX4_take_39 ic_0 ?_
  refine ao_bipush (pc := 40) X dX4_take_40 bp_6 ?_
  refine ao_copy (pc := 42) X dX4_take_42 ml_RX4_43 CpyW_ok sa_36 sa_106 (Nat.le_of_ble_eq_true rfl) ?_
  refine ao_lt (fun m3 => ?_)
  refine ao_aload_n (pc := 45) X dX4_take_45 rfl ?_
  refine ao_getR (pc := 46) X dX4_take_46 fl_RX4_21 sf_33_3 ?_
  refine ao_iconst (pc := 49) X dX4_take_49 ic_0 ?_
  refine ao_aload_n (pc := 50) X dX4_take_50 rfl ?_
  refine ao_getR (pc := 51) X dX4_take_51 fl_RX4_21 sf_103_3 ?_
  refine ao_iconst (pc := 54) X dX4_take_54 ic_0 ?_
  refine ao_bipush (pc := 55) X dX4_take_55 bp_8 ?_
  refine ao_copy (pc := 57) X dX4_take_57 ml_RX4_43 CpyW_ok sa_37 sa_107 (Nat.le_of_ble_eq_true rfl) ?_
  refine ao_lt (fun m4 => ?_)
  refine ao_aload_n (pc := 60) X dX4_take_60 rfl ?_
  refine ao_aload_n (pc := 61) X dX4_take_61 rfl ?_
  refine ao_getI (pc := 62) X dX4_take_62 fl_RX4_24 sf_33_4 ?_
  refine ao_putI (pc := 65) X dX4_take_65 fp_RX4_24 sf_103_4 ?_
  refine ao_lt (fun m5 => ?_)
  refine ao_aload_n (pc := 68) X dX4_take_68 rfl ?_
  refine ao_iconst (pc := 69) X dX4_take_69 ic_0 ?_
  refine ao_putI (pc := 70) X dX4_take_70 fp_RX4_28 sf_103_5 ?_
  refine ao_lt (fun m6 => ?_)
  exact ao_vret (pc := 73) X hr dX4_take_73
def fX4_take_43_33 (μ : Mem) : Option (Unit × Mem) :=
  gd (cpOK (0 : Int32) (0 : Int32) (6 : Int32) 6 6) (lt (sC μ 34 44 (ix (0 : Int32)) (ix (0 : Int32)) (ix (6 : Int32))) fun m1 =>
  gd (cpOK (0 : Int32) (0 : Int32) (6 : Int32) 6 6) (lt (sC m1 35 45 (ix (0 : Int32)) (ix (0 : Int32)) (ix (6 : Int32))) fun m2 =>
  gd (cpOK (0 : Int32) (0 : Int32) (6 : Int32) 6 6) (lt (sC m2 36 46 (ix (0 : Int32)) (ix (0 : Int32)) (ix (6 : Int32))) fun m3 =>
  gd (cpOK (0 : Int32) (0 : Int32) (8 : Int32) 8 8) (lt (sC m3 37 47 (ix (0 : Int32)) (ix (0 : Int32)) (ix (8 : Int32))) fun m4 =>
  lt (sI m4 43 4 (gI m4 33 4)) fun m5 =>
  lt (sI m5 43 5 (0 : Int32)) fun m6 =>
  some ((), m6)))))
set_option maxRecDepth 100000 in
set_option maxHeartbeats 4000000 in
theorem mX4_take_43_33 {E : En} {l : Launch} (hI : Inj E) (μ : Mem) : MtV E l yX4_take cX4_take 2 (none) 1 [.ref (eAd E 43), .ref (eAd E 33)] μ (fX4_take_43_33 μ) := by
  refine mtV_of (own := RX4) [(0, .ref (eAd E 43)), (1, .ref (eAd E 33))] hI rfl (by decide) (Nat.le_of_ble_eq_true rfl) (Nat.le_of_ble_eq_true rfl) rfl (fun Z hl0 X hr => ?_)
  unfold fX4_take_43_33
  refine ao_aload_n (pc := 0) X dX4_take_0 rfl ?_
  refine ao_getR (pc := 1) X dX4_take_1 fl_RX4_9 sf_33_0 ?_
  refine ao_iconst (pc := 4) X dX4_take_4 ic_0 ?_
  refine ao_aload_n (pc := 5) X dX4_take_5 rfl ?_
  refine ao_getR (pc := 6) X dX4_take_6 fl_RX4_9 sf_43_0 ?_
  refine ao_iconst (pc := 9) X dX4_take_9 ic_0 ?_
  refine ao_bipush (pc := 10) X dX4_take_10 bp_6 ?_
  refine ao_copy (pc := 12) X dX4_take_12 ml_RX4_43 CpyW_ok sa_34 sa_44 (Nat.le_of_ble_eq_true rfl) ?_
  refine ao_lt (fun m1 => ?_)
  refine ao_aload_n (pc := 15) X dX4_take_15 rfl ?_
  refine ao_getR (pc := 16) X dX4_take_16 fl_RX4_15 sf_33_1 ?_
  refine ao_iconst (pc := 19) X dX4_take_19 ic_0 ?_
  refine ao_aload_n (pc := 20) X dX4_take_20 rfl ?_
  refine ao_getR (pc := 21) X dX4_take_21 fl_RX4_15 sf_43_1 ?_
  refine ao_iconst (pc := 24) X dX4_take_24 ic_0 ?_
  refine ao_bipush (pc := 25) X dX4_take_25 bp_6 ?_
  refine ao_copy (pc := 27) X dX4_take_27 ml_RX4_43 CpyW_ok sa_35 sa_45 (Nat.le_of_ble_eq_true rfl) ?_
  refine ao_lt (fun m2 => ?_)
  refine ao_aload_n (pc := 30) X dX4_take_30 rfl ?_
  refine ao_getR (pc := 31) X dX4_take_31 fl_RX4_18 sf_33_2 ?_
  refine ao_iconst (pc := 34) X dX4_take_34 ic_0 ?_
  refine ao_aload_n (pc := 35) X dX4_take_35 rfl ?_
  refine ao_getR (pc := 36) X dX4_take_36 fl_RX4_18 sf_43_2 ?_
  refine ao_iconst (pc := 39) X dX4_take_39 ic_0 ?_
  refine ao_bipush (pc := 40) X dX4_take_40 bp_6 ?_
  refine ao_copy (pc := 42) X dX4_take_42 ml_RX4_43 CpyW_ok sa_36 sa_46 (Nat.le_of_ble_eq_true rfl) ?_
  refine ao_lt (fun m3 => ?_)
  refine ao_aload_n (pc := 45) X dX4_take_45 rfl ?_
  refine ao_getR (pc := 46) X dX4_take_46 fl_RX4_21 sf_33_3 ?_
  refine ao_iconst (pc := 49) X dX4_take_49 ic_0 ?_
  refine ao_aload_n (pc := 50) X dX4_take_50 rfl ?_
  refine ao_getR (pc := 51) X dX4_take_51 fl_RX4_21 sf_43_3 ?_
  refine ao_iconst (pc := 54) X dX4_take_54 ic_0 ?_
  refine ao_bipush (pc := 55) X dX4_take_55 bp_8 ?_
  refine ao_copy (pc := 57) X dX4_take_57 ml_RX4_43 CpyW_ok sa_37 sa_47 (Nat.le_of_ble_eq_true rfl) ?_
  refine ao_lt (fun m4 => ?_)
  refine ao_aload_n (pc := 60) X dX4_take_60 rfl ?_
  refine ao_aload_n (pc := 61) X dX4_take_61 rfl ?_
  refine ao_getI (pc := 62) X dX4_take_62 fl_RX4_24 sf_33_4 ?_
  refine ao_putI (pc := 65) X dX4_take_65 fp_RX4_24 sf_43_4 ?_
  refine ao_lt (fun m5 => ?_)
  refine ao_aload_n (pc := 68) X dX4_take_68 rfl ?_
  refine ao_iconst (pc := 69) X dX4_take_69 ic_0 ?_
  refine ao_putI (pc := 70) X dX4_take_70 fp_RX4_28 sf_43_5 ?_
  refine ao_lt (fun m6 => ?_)
  exact ao_vret (pc := 73) X hr dX4_take_73
def fX4_take_48_33 (μ : Mem) : Option (Unit × Mem) :=
  gd (cpOK (0 : Int32) (0 : Int32) (6 : Int32) 6 6) (lt (sC μ 34 49 (ix (0 : Int32)) (ix (0 : Int32)) (ix (6 : Int32))) fun m1 =>
  gd (cpOK (0 : Int32) (0 : Int32) (6 : Int32) 6 6) (lt (sC m1 35 50 (ix (0 : Int32)) (ix (0 : Int32)) (ix (6 : Int32))) fun m2 =>
  gd (cpOK (0 : Int32) (0 : Int32) (6 : Int32) 6 6) (lt (sC m2 36 51 (ix (0 : Int32)) (ix (0 : Int32)) (ix (6 : Int32))) fun m3 =>
  gd (cpOK (0 : Int32) (0 : Int32) (8 : Int32) 8 8) (lt (sC m3 37 52 (ix (0 : Int32)) (ix (0 : Int32)) (ix (8 : Int32))) fun m4 =>
  lt (sI m4 48 4 (gI m4 33 4)) fun m5 =>
  lt (sI m5 48 5 (0 : Int32)) fun m6 =>
  some ((), m6)))))
set_option maxRecDepth 100000 in
set_option maxHeartbeats 4000000 in
theorem mX4_take_48_33 {E : En} {l : Launch} (hI : Inj E) (μ : Mem) : MtV E l yX4_take cX4_take 2 (none) 1 [.ref (eAd E 48), .ref (eAd E 33)] μ (fX4_take_48_33 μ) := by
  refine mtV_of (own := RX4) [(0, .ref (eAd E 48)), (1, .ref (eAd E 33))] hI rfl (by decide) (Nat.le_of_ble_eq_true rfl) (Nat.le_of_ble_eq_true rfl) rfl (fun Z hl0 X hr => ?_)
  unfold fX4_take_48_33
  refine ao_aload_n (pc := 0) X dX4_take_0 rfl ?_
  refine ao_getR (pc := 1) X dX4_take_1 fl_RX4_9 sf_33_0 ?_
  refine ao_iconst (pc := 4) X dX4_take_4 ic_0 ?_
  refine ao_aload_n (pc := 5) X dX4_take_5 rfl ?_
  refine ao_getR (pc := 6) X dX4_take_6 fl_RX4_9 sf_48_0 ?_
  refine ao_iconst (pc := 9) X dX4_take_9 ic_0 ?_
  refine ao_bipush (pc := 10) X dX4_take_10 bp_6 ?_
  refine ao_copy (pc := 12) X dX4_take_12 ml_RX4_43 CpyW_ok sa_34 sa_49 (Nat.le_of_ble_eq_true rfl) ?_
  refine ao_lt (fun m1 => ?_)
  refine ao_aload_n (pc := 15) X dX4_take_15 rfl ?_
  refine ao_getR (pc := 16) X dX4_take_16 fl_RX4_15 sf_33_1 ?_
  refine ao_iconst (pc := 19) X dX4_take_19 ic_0 ?_
  refine ao_aload_n (pc := 20) X dX4_take_20 rfl ?_
  refine ao_getR (pc := 21) X dX4_take_21 fl_RX4_15 sf_48_1 ?_
  refine ao_iconst (pc := 24) X dX4_take_24 ic_0 ?_
  refine ao_bipush (pc := 25) X dX4_take_25 bp_6 ?_
  refine ao_copy (pc := 27) X dX4_take_27 ml_RX4_43 CpyW_ok sa_35 sa_50 (Nat.le_of_ble_eq_true rfl) ?_
  refine ao_lt (fun m2 => ?_)
  refine ao_aload_n (pc := 30) X dX4_take_30 rfl ?_
  refine ao_getR (pc := 31) X dX4_take_31 fl_RX4_18 sf_33_2 ?_
  refine ao_iconst (pc := 34) X dX4_take_34 ic_0 ?_
  refine ao_aload_n (pc := 35) X dX4_take_35 rfl ?_
  refine ao_getR (pc := 36) X dX4_take_36 fl_RX4_18 sf_48_2 ?_
  refine ao_iconst (pc := 39) X dX4_take_39 ic_0 ?_
  refine ao_bipush (pc := 40) X dX4_take_40 bp_6 ?_
  refine ao_copy (pc := 42) X dX4_take_42 ml_RX4_43 CpyW_ok sa_36 sa_51 (Nat.le_of_ble_eq_true rfl) ?_
  refine ao_lt (fun m3 => ?_)
  refine ao_aload_n (pc := 45) X dX4_take_45 rfl ?_
  refine ao_getR (pc := 46) X dX4_take_46 fl_RX4_21 sf_33_3 ?_
  refine ao_iconst (pc := 49) X dX4_take_49 ic_0 ?_
  refine ao_aload_n (pc := 50) X dX4_take_50 rfl ?_
  refine ao_getR (pc := 51) X dX4_take_51 fl_RX4_21 sf_48_3 ?_
  refine ao_iconst (pc := 54) X dX4_take_54 ic_0 ?_
  refine ao_bipush (pc := 55) X dX4_take_55 bp_8 ?_
  refine ao_copy (pc := 57) X dX4_take_57 ml_RX4_43 CpyW_ok sa_37 sa_52 (Nat.le_of_ble_eq_true rfl) ?_
  refine ao_lt (fun m4 => ?_)
  refine ao_aload_n (pc := 60) X dX4_take_60 rfl ?_
  refine ao_aload_n (pc := 61) X dX4_take_61 rfl ?_
  refine ao_getI (pc := 62) X dX4_take_62 fl_RX4_24 sf_33_4 ?_
  refine ao_putI (pc := 65) X dX4_take_65 fp_RX4_24 sf_48_4 ?_
  refine ao_lt (fun m5 => ?_)
  refine ao_aload_n (pc := 68) X dX4_take_68 rfl ?_
  refine ao_iconst (pc := 69) X dX4_take_69 ic_0 ?_
  refine ao_putI (pc := 70) X dX4_take_70 fp_RX4_28 sf_48_5 ?_
  refine ao_lt (fun m6 => ?_)
  exact ao_vret (pc := 73) X hr dX4_take_73
def fX4_take_53_33 (μ : Mem) : Option (Unit × Mem) :=
  gd (cpOK (0 : Int32) (0 : Int32) (6 : Int32) 6 6) (lt (sC μ 34 54 (ix (0 : Int32)) (ix (0 : Int32)) (ix (6 : Int32))) fun m1 =>
  gd (cpOK (0 : Int32) (0 : Int32) (6 : Int32) 6 6) (lt (sC m1 35 55 (ix (0 : Int32)) (ix (0 : Int32)) (ix (6 : Int32))) fun m2 =>
  gd (cpOK (0 : Int32) (0 : Int32) (6 : Int32) 6 6) (lt (sC m2 36 56 (ix (0 : Int32)) (ix (0 : Int32)) (ix (6 : Int32))) fun m3 =>
  gd (cpOK (0 : Int32) (0 : Int32) (8 : Int32) 8 8) (lt (sC m3 37 57 (ix (0 : Int32)) (ix (0 : Int32)) (ix (8 : Int32))) fun m4 =>
  lt (sI m4 53 4 (gI m4 33 4)) fun m5 =>
  lt (sI m5 53 5 (0 : Int32)) fun m6 =>
  some ((), m6)))))
set_option maxRecDepth 100000 in
set_option maxHeartbeats 4000000 in
theorem mX4_take_53_33 {E : En} {l : Launch} (hI : Inj E) (μ : Mem) : MtV E l yX4_take cX4_take 2 (none) 1 [.ref (eAd E 53), .ref (eAd E 33)] μ (fX4_take_53_33 μ) := by
  refine mtV_of (own := RX4) [(0, .ref (eAd E 53)), (1, .ref (eAd E 33))] hI rfl (by decide) (Nat.le_of_ble_eq_true rfl) (Nat.le_of_ble_eq_true rfl) rfl (fun Z hl0 X hr => ?_)
  unfold fX4_take_53_33
  refine ao_aload_n (pc := 0) X dX4_take_0 rfl ?_
  refine ao_getR (pc := 1) X dX4_take_1 fl_RX4_9 sf_33_0 ?_
  refine ao_iconst (pc := 4) X dX4_take_4 ic_0 ?_
  refine ao_aload_n (pc := 5) X dX4_take_5 rfl ?_
  refine ao_getR (pc := 6) X dX4_take_6 fl_RX4_9 sf_53_0 ?_
  refine ao_iconst (pc := 9) X dX4_take_9 ic_0 ?_
  refine ao_bipush (pc := 10) X dX4_take_10 bp_6 ?_
  refine ao_copy (pc := 12) X dX4_take_12 ml_RX4_43 CpyW_ok sa_34 sa_54 (Nat.le_of_ble_eq_true rfl) ?_
  refine ao_lt (fun m1 => ?_)
  refine ao_aload_n (pc := 15) X dX4_take_15 rfl ?_
  refine ao_getR (pc := 16) X dX4_take_16 fl_RX4_15 sf_33_1 ?_
  refine ao_iconst (pc := 19) X dX4_take_19 ic_0 ?_
  refine ao_aload_n (pc := 20) X dX4_take_20 rfl ?_
  refine ao_getR (pc := 21) X dX4_take_21 fl_RX4_15 sf_53_1 ?_
  refine ao_iconst (pc := 24) X dX4_take_24 ic_0 ?_
  refine ao_bipush (pc := 25) X dX4_take_25 bp_6 ?_
  refine ao_copy (pc := 27) X dX4_take_27 ml_RX4_43 CpyW_ok sa_35 sa_55 (Nat.le_of_ble_eq_true rfl) ?_
  refine ao_lt (fun m2 => ?_)
  refine ao_aload_n (pc := 30) X dX4_take_30 rfl ?_
  refine ao_getR (pc := 31) X dX4_take_31 fl_RX4_18 sf_33_2 ?_
  refine ao_iconst (pc := 34) X dX4_take_34 ic_0 ?_
  refine ao_aload_n (pc := 35) X dX4_take_35 rfl ?_
  refine ao_getR (pc := 36) X dX4_take_36 fl_RX4_18 sf_53_2 ?_
  refine ao_iconst (pc := 39) X dX4_take_39 ic_0 ?_
  refine ao_bipush (pc := 40) X dX4_take_40 bp_6 ?_
  refine ao_copy (pc := 42) X dX4_take_42 ml_RX4_43 CpyW_ok sa_36 sa_56 (Nat.le_of_ble_eq_true rfl) ?_
  refine ao_lt (fun m3 => ?_)
  refine ao_aload_n (pc := 45) X dX4_take_45 rfl ?_
  refine ao_getR (pc := 46) X dX4_take_46 fl_RX4_21 sf_33_3 ?_
  refine ao_iconst (pc := 49) X dX4_take_49 ic_0 ?_
  refine ao_aload_n (pc := 50) X dX4_take_50 rfl ?_
  refine ao_getR (pc := 51) X dX4_take_51 fl_RX4_21 sf_53_3 ?_
  refine ao_iconst (pc := 54) X dX4_take_54 ic_0 ?_
  refine ao_bipush (pc := 55) X dX4_take_55 bp_8 ?_
  refine ao_copy (pc := 57) X dX4_take_57 ml_RX4_43 CpyW_ok sa_37 sa_57 (Nat.le_of_ble_eq_true rfl) ?_
  refine ao_lt (fun m4 => ?_)
  refine ao_aload_n (pc := 60) X dX4_take_60 rfl ?_
  refine ao_aload_n (pc := 61) X dX4_take_61 rfl ?_
  refine ao_getI (pc := 62) X dX4_take_62 fl_RX4_24 sf_33_4 ?_
  refine ao_putI (pc := 65) X dX4_take_65 fp_RX4_24 sf_53_4 ?_
  refine ao_lt (fun m5 => ?_)
  refine ao_aload_n (pc := 68) X dX4_take_68 rfl ?_
  refine ao_iconst (pc := 69) X dX4_take_69 ic_0 ?_
  refine ao_putI (pc := 70) X dX4_take_70 fp_RX4_28 sf_53_5 ?_
  refine ao_lt (fun m6 => ?_)
  exact ao_vret (pc := 73) X hr dX4_take_73
def fX4_take_58_33 (μ : Mem) : Option (Unit × Mem) :=
  gd (cpOK (0 : Int32) (0 : Int32) (6 : Int32) 6 6) (lt (sC μ 34 59 (ix (0 : Int32)) (ix (0 : Int32)) (ix (6 : Int32))) fun m1 =>
  gd (cpOK (0 : Int32) (0 : Int32) (6 : Int32) 6 6) (lt (sC m1 35 60 (ix (0 : Int32)) (ix (0 : Int32)) (ix (6 : Int32))) fun m2 =>
  gd (cpOK (0 : Int32) (0 : Int32) (6 : Int32) 6 6) (lt (sC m2 36 61 (ix (0 : Int32)) (ix (0 : Int32)) (ix (6 : Int32))) fun m3 =>
  gd (cpOK (0 : Int32) (0 : Int32) (8 : Int32) 8 8) (lt (sC m3 37 62 (ix (0 : Int32)) (ix (0 : Int32)) (ix (8 : Int32))) fun m4 =>
  lt (sI m4 58 4 (gI m4 33 4)) fun m5 =>
  lt (sI m5 58 5 (0 : Int32)) fun m6 =>
  some ((), m6)))))
set_option maxRecDepth 100000 in
set_option maxHeartbeats 4000000 in
theorem mX4_take_58_33 {E : En} {l : Launch} (hI : Inj E) (μ : Mem) : MtV E l yX4_take cX4_take 2 (none) 1 [.ref (eAd E 58), .ref (eAd E 33)] μ (fX4_take_58_33 μ) := by
  refine mtV_of (own := RX4) [(0, .ref (eAd E 58)), (1, .ref (eAd E 33))] hI rfl (by decide) (Nat.le_of_ble_eq_true rfl) (Nat.le_of_ble_eq_true rfl) rfl (fun Z hl0 X hr => ?_)
  unfold fX4_take_58_33
  refine ao_aload_n (pc := 0) X dX4_take_0 rfl ?_
  refine ao_getR (pc := 1) X dX4_take_1 fl_RX4_9 sf_33_0 ?_
  refine ao_iconst (pc := 4) X dX4_take_4 ic_0 ?_
  refine ao_aload_n (pc := 5) X dX4_take_5 rfl ?_
  refine ao_getR (pc := 6) X dX4_take_6 fl_RX4_9 sf_58_0 ?_
  refine ao_iconst (pc := 9) X dX4_take_9 ic_0 ?_
  refine ao_bipush (pc := 10) X dX4_take_10 bp_6 ?_
  refine ao_copy (pc := 12) X dX4_take_12 ml_RX4_43 CpyW_ok sa_34 sa_59 (Nat.le_of_ble_eq_true rfl) ?_
  refine ao_lt (fun m1 => ?_)
  refine ao_aload_n (pc := 15) X dX4_take_15 rfl ?_
  refine ao_getR (pc := 16) X dX4_take_16 fl_RX4_15 sf_33_1 ?_
  refine ao_iconst (pc := 19) X dX4_take_19 ic_0 ?_
  refine ao_aload_n (pc := 20) X dX4_take_20 rfl ?_
  refine ao_getR (pc := 21) X dX4_take_21 fl_RX4_15 sf_58_1 ?_
  refine ao_iconst (pc := 24) X dX4_take_24 ic_0 ?_
  refine ao_bipush (pc := 25) X dX4_take_25 bp_6 ?_
  refine ao_copy (pc := 27) X dX4_take_27 ml_RX4_43 CpyW_ok sa_35 sa_60 (Nat.le_of_ble_eq_true rfl) ?_
  refine ao_lt (fun m2 => ?_)
  refine ao_aload_n (pc := 30) X dX4_take_30 rfl ?_
  refine ao_getR (pc := 31) X dX4_take_31 fl_RX4_18 sf_33_2 ?_
  refine ao_iconst (pc := 34) X dX4_take_34 ic_0 ?_
  refine ao_aload_n (pc := 35) X dX4_take_35 rfl ?_
  refine ao_getR (pc := 36) X dX4_take_36 fl_RX4_18 sf_58_2 ?_
  refine ao_iconst (pc := 39) X dX4_take_39 ic_0 ?_
  refine ao_bipush (pc := 40) X dX4_take_40 bp_6 ?_
  refine ao_copy (pc := 42) X dX4_take_42 ml_RX4_43 CpyW_ok sa_36 sa_61 (Nat.le_of_ble_eq_true rfl) ?_
  refine ao_lt (fun m3 => ?_)
  refine ao_aload_n (pc := 45) X dX4_take_45 rfl ?_
  refine ao_getR (pc := 46) X dX4_take_46 fl_RX4_21 sf_33_3 ?_
  refine ao_iconst (pc := 49) X dX4_take_49 ic_0 ?_
  refine ao_aload_n (pc := 50) X dX4_take_50 rfl ?_
  refine ao_getR (pc := 51) X dX4_take_51 fl_RX4_21 sf_58_3 ?_
  refine ao_iconst (pc := 54) X dX4_take_54 ic_0 ?_
  refine ao_bipush (pc := 55) X dX4_take_55 bp_8 ?_
  refine ao_copy (pc := 57) X dX4_take_57 ml_RX4_43 CpyW_ok sa_37 sa_62 (Nat.le_of_ble_eq_true rfl) ?_
  refine ao_lt (fun m4 => ?_)
  refine ao_aload_n (pc := 60) X dX4_take_60 rfl ?_
  refine ao_aload_n (pc := 61) X dX4_take_61 rfl ?_
  refine ao_getI (pc := 62) X dX4_take_62 fl_RX4_24 sf_33_4 ?_
  refine ao_putI (pc := 65) X dX4_take_65 fp_RX4_24 sf_58_4 ?_
  refine ao_lt (fun m5 => ?_)
  refine ao_aload_n (pc := 68) X dX4_take_68 rfl ?_
  refine ao_iconst (pc := 69) X dX4_take_69 ic_0 ?_
  refine ao_putI (pc := 70) X dX4_take_70 fp_RX4_28 sf_58_5 ?_
  refine ao_lt (fun m6 => ?_)
  exact ao_vret (pc := 73) X hr dX4_take_73
def fX4_take_63_33 (μ : Mem) : Option (Unit × Mem) :=
  gd (cpOK (0 : Int32) (0 : Int32) (6 : Int32) 6 6) (lt (sC μ 34 64 (ix (0 : Int32)) (ix (0 : Int32)) (ix (6 : Int32))) fun m1 =>
  gd (cpOK (0 : Int32) (0 : Int32) (6 : Int32) 6 6) (lt (sC m1 35 65 (ix (0 : Int32)) (ix (0 : Int32)) (ix (6 : Int32))) fun m2 =>
  gd (cpOK (0 : Int32) (0 : Int32) (6 : Int32) 6 6) (lt (sC m2 36 66 (ix (0 : Int32)) (ix (0 : Int32)) (ix (6 : Int32))) fun m3 =>
  gd (cpOK (0 : Int32) (0 : Int32) (8 : Int32) 8 8) (lt (sC m3 37 67 (ix (0 : Int32)) (ix (0 : Int32)) (ix (8 : Int32))) fun m4 =>
  lt (sI m4 63 4 (gI m4 33 4)) fun m5 =>
  lt (sI m5 63 5 (0 : Int32)) fun m6 =>
  some ((), m6)))))
set_option maxRecDepth 100000 in
set_option maxHeartbeats 4000000 in
theorem mX4_take_63_33 {E : En} {l : Launch} (hI : Inj E) (μ : Mem) : MtV E l yX4_take cX4_take 2 (none) 1 [.ref (eAd E 63), .ref (eAd E 33)] μ (fX4_take_63_33 μ) := by
  refine mtV_of (own := RX4) [(0, .ref (eAd E 63)), (1, .ref (eAd E 33))] hI rfl (by decide) (Nat.le_of_ble_eq_true rfl) (Nat.le_of_ble_eq_true rfl) rfl (fun Z hl0 X hr => ?_)
  unfold fX4_take_63_33
  refine ao_aload_n (pc := 0) X dX4_take_0 rfl ?_
  refine ao_getR (pc := 1) X dX4_take_1 fl_RX4_9 sf_33_0 ?_
  refine ao_iconst (pc := 4) X dX4_take_4 ic_0 ?_
  refine ao_aload_n (pc := 5) X dX4_take_5 rfl ?_
  refine ao_getR (pc := 6) X dX4_take_6 fl_RX4_9 sf_63_0 ?_
  refine ao_iconst (pc := 9) X dX4_take_9 ic_0 ?_
  refine ao_bipush (pc := 10) X dX4_take_10 bp_6 ?_
  refine ao_copy (pc := 12) X dX4_take_12 ml_RX4_43 CpyW_ok sa_34 sa_64 (Nat.le_of_ble_eq_true rfl) ?_
  refine ao_lt (fun m1 => ?_)
  refine ao_aload_n (pc := 15) X dX4_take_15 rfl ?_
  refine ao_getR (pc := 16) X dX4_take_16 fl_RX4_15 sf_33_1 ?_
  refine ao_iconst (pc := 19) X dX4_take_19 ic_0 ?_
  refine ao_aload_n (pc := 20) X dX4_take_20 rfl ?_
  refine ao_getR (pc := 21) X dX4_take_21 fl_RX4_15 sf_63_1 ?_
  refine ao_iconst (pc := 24) X dX4_take_24 ic_0 ?_
  refine ao_bipush (pc := 25) X dX4_take_25 bp_6 ?_
  refine ao_copy (pc := 27) X dX4_take_27 ml_RX4_43 CpyW_ok sa_35 sa_65 (Nat.le_of_ble_eq_true rfl) ?_
  refine ao_lt (fun m2 => ?_)
  refine ao_aload_n (pc := 30) X dX4_take_30 rfl ?_
  refine ao_getR (pc := 31) X dX4_take_31 fl_RX4_18 sf_33_2 ?_
  refine ao_iconst (pc := 34) X dX4_take_34 ic_0 ?_
  refine ao_aload_n (pc := 35) X dX4_take_35 rfl ?_
  refine ao_getR (pc := 36) X dX4_take_36 fl_RX4_18 sf_63_2 ?_
  refine ao_iconst (pc := 39) X dX4_take_39 ic_0 ?_
  refine ao_bipush (pc := 40) X dX4_take_40 bp_6 ?_
  refine ao_copy (pc := 42) X dX4_take_42 ml_RX4_43 CpyW_ok sa_36 sa_66 (Nat.le_of_ble_eq_true rfl) ?_
  refine ao_lt (fun m3 => ?_)
  refine ao_aload_n (pc := 45) X dX4_take_45 rfl ?_
  refine ao_getR (pc := 46) X dX4_take_46 fl_RX4_21 sf_33_3 ?_
  refine ao_iconst (pc := 49) X dX4_take_49 ic_0 ?_
  refine ao_aload_n (pc := 50) X dX4_take_50 rfl ?_
  refine ao_getR (pc := 51) X dX4_take_51 fl_RX4_21 sf_63_3 ?_
  refine ao_iconst (pc := 54) X dX4_take_54 ic_0 ?_
  refine ao_bipush (pc := 55) X dX4_take_55 bp_8 ?_
  refine ao_copy (pc := 57) X dX4_take_57 ml_RX4_43 CpyW_ok sa_37 sa_67 (Nat.le_of_ble_eq_true rfl) ?_
  refine ao_lt (fun m4 => ?_)
  refine ao_aload_n (pc := 60) X dX4_take_60 rfl ?_
  refine ao_aload_n (pc := 61) X dX4_take_61 rfl ?_
  refine ao_getI (pc := 62) X dX4_take_62 fl_RX4_24 sf_33_4 ?_
  refine ao_putI (pc := 65) X dX4_take_65 fp_RX4_24 sf_63_4 ?_
  refine ao_lt (fun m5 => ?_)
  refine ao_aload_n (pc := 68) X dX4_take_68 rfl ?_
  refine ao_iconst (pc := 69) X dX4_take_69 ic_0 ?_
  refine ao_putI (pc := 70) X dX4_take_70 fp_RX4_28 sf_63_5 ?_
  refine ao_lt (fun m6 => ?_)
  exact ao_vret (pc := 73) X hr dX4_take_73
def fX4_take_68_33 (μ : Mem) : Option (Unit × Mem) :=
  gd (cpOK (0 : Int32) (0 : Int32) (6 : Int32) 6 6) (lt (sC μ 34 69 (ix (0 : Int32)) (ix (0 : Int32)) (ix (6 : Int32))) fun m1 =>
  gd (cpOK (0 : Int32) (0 : Int32) (6 : Int32) 6 6) (lt (sC m1 35 70 (ix (0 : Int32)) (ix (0 : Int32)) (ix (6 : Int32))) fun m2 =>
  gd (cpOK (0 : Int32) (0 : Int32) (6 : Int32) 6 6) (lt (sC m2 36 71 (ix (0 : Int32)) (ix (0 : Int32)) (ix (6 : Int32))) fun m3 =>
  gd (cpOK (0 : Int32) (0 : Int32) (8 : Int32) 8 8) (lt (sC m3 37 72 (ix (0 : Int32)) (ix (0 : Int32)) (ix (8 : Int32))) fun m4 =>
  lt (sI m4 68 4 (gI m4 33 4)) fun m5 =>
  lt (sI m5 68 5 (0 : Int32)) fun m6 =>
  some ((), m6)))))
set_option maxRecDepth 100000 in
set_option maxHeartbeats 4000000 in
theorem mX4_take_68_33 {E : En} {l : Launch} (hI : Inj E) (μ : Mem) : MtV E l yX4_take cX4_take 2 (none) 1 [.ref (eAd E 68), .ref (eAd E 33)] μ (fX4_take_68_33 μ) := by
  refine mtV_of (own := RX4) [(0, .ref (eAd E 68)), (1, .ref (eAd E 33))] hI rfl (by decide) (Nat.le_of_ble_eq_true rfl) (Nat.le_of_ble_eq_true rfl) rfl (fun Z hl0 X hr => ?_)
  unfold fX4_take_68_33
  refine ao_aload_n (pc := 0) X dX4_take_0 rfl ?_
  refine ao_getR (pc := 1) X dX4_take_1 fl_RX4_9 sf_33_0 ?_
  refine ao_iconst (pc := 4) X dX4_take_4 ic_0 ?_
  refine ao_aload_n (pc := 5) X dX4_take_5 rfl ?_
  refine ao_getR (pc := 6) X dX4_take_6 fl_RX4_9 sf_68_0 ?_
  refine ao_iconst (pc := 9) X dX4_take_9 ic_0 ?_
  refine ao_bipush (pc := 10) X dX4_take_10 bp_6 ?_
  refine ao_copy (pc := 12) X dX4_take_12 ml_RX4_43 CpyW_ok sa_34 sa_69 (Nat.le_of_ble_eq_true rfl) ?_
  refine ao_lt (fun m1 => ?_)
  refine ao_aload_n (pc := 15) X dX4_take_15 rfl ?_
  refine ao_getR (pc := 16) X dX4_take_16 fl_RX4_15 sf_33_1 ?_
  refine ao_iconst (pc := 19) X dX4_take_19 ic_0 ?_
  refine ao_aload_n (pc := 20) X dX4_take_20 rfl ?_
  refine ao_getR (pc := 21) X dX4_take_21 fl_RX4_15 sf_68_1 ?_
  refine ao_iconst (pc := 24) X dX4_take_24 ic_0 ?_
  refine ao_bipush (pc := 25) X dX4_take_25 bp_6 ?_
  refine ao_copy (pc := 27) X dX4_take_27 ml_RX4_43 CpyW_ok sa_35 sa_70 (Nat.le_of_ble_eq_true rfl) ?_
  refine ao_lt (fun m2 => ?_)
  refine ao_aload_n (pc := 30) X dX4_take_30 rfl ?_
  refine ao_getR (pc := 31) X dX4_take_31 fl_RX4_18 sf_33_2 ?_
  refine ao_iconst (pc := 34) X dX4_take_34 ic_0 ?_
  refine ao_aload_n (pc := 35) X dX4_take_35 rfl ?_
  refine ao_getR (pc := 36) X dX4_take_36 fl_RX4_18 sf_68_2 ?_
  refine ao_iconst (pc := 39) X dX4_take_39 ic_0 ?_
  refine ao_bipush (pc := 40) X dX4_take_40 bp_6 ?_
  refine ao_copy (pc := 42) X dX4_take_42 ml_RX4_43 CpyW_ok sa_36 sa_71 (Nat.le_of_ble_eq_true rfl) ?_
  refine ao_lt (fun m3 => ?_)
  refine ao_aload_n (pc := 45) X dX4_take_45 rfl ?_
  refine ao_getR (pc := 46) X dX4_take_46 fl_RX4_21 sf_33_3 ?_
  refine ao_iconst (pc := 49) X dX4_take_49 ic_0 ?_
  refine ao_aload_n (pc := 50) X dX4_take_50 rfl ?_
  refine ao_getR (pc := 51) X dX4_take_51 fl_RX4_21 sf_68_3 ?_
  refine ao_iconst (pc := 54) X dX4_take_54 ic_0 ?_
  refine ao_bipush (pc := 55) X dX4_take_55 bp_8 ?_
  refine ao_copy (pc := 57) X dX4_take_57 ml_RX4_43 CpyW_ok sa_37 sa_72 (Nat.le_of_ble_eq_true rfl) ?_
  refine ao_lt (fun m4 => ?_)
  refine ao_aload_n (pc := 60) X dX4_take_60 rfl ?_
  refine ao_aload_n (pc := 61) X dX4_take_61 rfl ?_
  refine ao_getI (pc := 62) X dX4_take_62 fl_RX4_24 sf_33_4 ?_
  refine ao_putI (pc := 65) X dX4_take_65 fp_RX4_24 sf_68_4 ?_
  refine ao_lt (fun m5 => ?_)
  refine ao_aload_n (pc := 68) X dX4_take_68 rfl ?_
  refine ao_iconst (pc := 69) X dX4_take_69 ic_0 ?_
  refine ao_putI (pc := 70) X dX4_take_70 fp_RX4_28 sf_68_5 ?_
  refine ao_lt (fun m6 => ?_)
  exact ao_vret (pc := 73) X hr dX4_take_73
def fX4_take_73_33 (μ : Mem) : Option (Unit × Mem) :=
  gd (cpOK (0 : Int32) (0 : Int32) (6 : Int32) 6 6) (lt (sC μ 34 74 (ix (0 : Int32)) (ix (0 : Int32)) (ix (6 : Int32))) fun m1 =>
  gd (cpOK (0 : Int32) (0 : Int32) (6 : Int32) 6 6) (lt (sC m1 35 75 (ix (0 : Int32)) (ix (0 : Int32)) (ix (6 : Int32))) fun m2 =>
  gd (cpOK (0 : Int32) (0 : Int32) (6 : Int32) 6 6) (lt (sC m2 36 76 (ix (0 : Int32)) (ix (0 : Int32)) (ix (6 : Int32))) fun m3 =>
  gd (cpOK (0 : Int32) (0 : Int32) (8 : Int32) 8 8) (lt (sC m3 37 77 (ix (0 : Int32)) (ix (0 : Int32)) (ix (8 : Int32))) fun m4 =>
  lt (sI m4 73 4 (gI m4 33 4)) fun m5 =>
  lt (sI m5 73 5 (0 : Int32)) fun m6 =>
  some ((), m6)))))
set_option maxRecDepth 100000 in
set_option maxHeartbeats 4000000 in
theorem mX4_take_73_33 {E : En} {l : Launch} (hI : Inj E) (μ : Mem) : MtV E l yX4_take cX4_take 2 (none) 1 [.ref (eAd E 73), .ref (eAd E 33)] μ (fX4_take_73_33 μ) := by
  refine mtV_of (own := RX4) [(0, .ref (eAd E 73)), (1, .ref (eAd E 33))] hI rfl (by decide) (Nat.le_of_ble_eq_true rfl) (Nat.le_of_ble_eq_true rfl) rfl (fun Z hl0 X hr => ?_)
  unfold fX4_take_73_33
  refine ao_aload_n (pc := 0) X dX4_take_0 rfl ?_
  refine ao_getR (pc := 1) X dX4_take_1 fl_RX4_9 sf_33_0 ?_
  refine ao_iconst (pc := 4) X dX4_take_4 ic_0 ?_
  refine ao_aload_n (pc := 5) X dX4_take_5 rfl ?_
  refine ao_getR (pc := 6) X dX4_take_6 fl_RX4_9 sf_73_0 ?_
  refine ao_iconst (pc := 9) X dX4_take_9 ic_0 ?_
  refine ao_bipush (pc := 10) X dX4_take_10 bp_6 ?_
  refine ao_copy (pc := 12) X dX4_take_12 ml_RX4_43 CpyW_ok sa_34 sa_74 (Nat.le_of_ble_eq_true rfl) ?_
  refine ao_lt (fun m1 => ?_)
  refine ao_aload_n (pc := 15) X dX4_take_15 rfl ?_
  refine ao_getR (pc := 16) X dX4_take_16 fl_RX4_15 sf_33_1 ?_
  refine ao_iconst (pc := 19) X dX4_take_19 ic_0 ?_
  refine ao_aload_n (pc := 20) X dX4_take_20 rfl ?_
  refine ao_getR (pc := 21) X dX4_take_21 fl_RX4_15 sf_73_1 ?_
  refine ao_iconst (pc := 24) X dX4_take_24 ic_0 ?_
  refine ao_bipush (pc := 25) X dX4_take_25 bp_6 ?_
  refine ao_copy (pc := 27) X dX4_take_27 ml_RX4_43 CpyW_ok sa_35 sa_75 (Nat.le_of_ble_eq_true rfl) ?_
  refine ao_lt (fun m2 => ?_)
  refine ao_aload_n (pc := 30) X dX4_take_30 rfl ?_
  refine ao_getR (pc := 31) X dX4_take_31 fl_RX4_18 sf_33_2 ?_
  refine ao_iconst (pc := 34) X dX4_take_34 ic_0 ?_
  refine ao_aload_n (pc := 35) X dX4_take_35 rfl ?_
  refine ao_getR (pc := 36) X dX4_take_36 fl_RX4_18 sf_73_2 ?_
  refine ao_iconst (pc := 39) X dX4_take_39 ic_0 ?_
  refine ao_bipush (pc := 40) X dX4_take_40 bp_6 ?_
  refine ao_copy (pc := 42) X dX4_take_42 ml_RX4_43 CpyW_ok sa_36 sa_76 (Nat.le_of_ble_eq_true rfl) ?_
  refine ao_lt (fun m3 => ?_)
  refine ao_aload_n (pc := 45) X dX4_take_45 rfl ?_
  refine ao_getR (pc := 46) X dX4_take_46 fl_RX4_21 sf_33_3 ?_
  refine ao_iconst (pc := 49) X dX4_take_49 ic_0 ?_
  refine ao_aload_n (pc := 50) X dX4_take_50 rfl ?_
  refine ao_getR (pc := 51) X dX4_take_51 fl_RX4_21 sf_73_3 ?_
  refine ao_iconst (pc := 54) X dX4_take_54 ic_0 ?_
  refine ao_bipush (pc := 55) X dX4_take_55 bp_8 ?_
  refine ao_copy (pc := 57) X dX4_take_57 ml_RX4_43 CpyW_ok sa_37 sa_77 (Nat.le_of_ble_eq_true rfl) ?_
  refine ao_lt (fun m4 => ?_)
  refine ao_aload_n (pc := 60) X dX4_take_60 rfl ?_
  refine ao_aload_n (pc := 61) X dX4_take_61 rfl ?_
  refine ao_getI (pc := 62) X dX4_take_62 fl_RX4_24 sf_33_4 ?_
  refine ao_putI (pc := 65) X dX4_take_65 fp_RX4_24 sf_73_4 ?_
  refine ao_lt (fun m5 => ?_)
  refine ao_aload_n (pc := 68) X dX4_take_68 rfl ?_
  refine ao_iconst (pc := 69) X dX4_take_69 ic_0 ?_
  refine ao_putI (pc := 70) X dX4_take_70 fp_RX4_28 sf_73_5 ?_
  refine ao_lt (fun m6 => ?_)
  exact ao_vret (pc := 73) X hr dX4_take_73
def fX4_take_78_33 (μ : Mem) : Option (Unit × Mem) :=
  gd (cpOK (0 : Int32) (0 : Int32) (6 : Int32) 6 6) (lt (sC μ 34 79 (ix (0 : Int32)) (ix (0 : Int32)) (ix (6 : Int32))) fun m1 =>
  gd (cpOK (0 : Int32) (0 : Int32) (6 : Int32) 6 6) (lt (sC m1 35 80 (ix (0 : Int32)) (ix (0 : Int32)) (ix (6 : Int32))) fun m2 =>
  gd (cpOK (0 : Int32) (0 : Int32) (6 : Int32) 6 6) (lt (sC m2 36 81 (ix (0 : Int32)) (ix (0 : Int32)) (ix (6 : Int32))) fun m3 =>
  gd (cpOK (0 : Int32) (0 : Int32) (8 : Int32) 8 8) (lt (sC m3 37 82 (ix (0 : Int32)) (ix (0 : Int32)) (ix (8 : Int32))) fun m4 =>
  lt (sI m4 78 4 (gI m4 33 4)) fun m5 =>
  lt (sI m5 78 5 (0 : Int32)) fun m6 =>
  some ((), m6)))))
set_option maxRecDepth 100000 in
set_option maxHeartbeats 4000000 in
theorem mX4_take_78_33 {E : En} {l : Launch} (hI : Inj E) (μ : Mem) : MtV E l yX4_take cX4_take 2 (none) 1 [.ref (eAd E 78), .ref (eAd E 33)] μ (fX4_take_78_33 μ) := by
  refine mtV_of (own := RX4) [(0, .ref (eAd E 78)), (1, .ref (eAd E 33))] hI rfl (by decide) (Nat.le_of_ble_eq_true rfl) (Nat.le_of_ble_eq_true rfl) rfl (fun Z hl0 X hr => ?_)
  unfold fX4_take_78_33
  refine ao_aload_n (pc := 0) X dX4_take_0 rfl ?_
  refine ao_getR (pc := 1) X dX4_take_1 fl_RX4_9 sf_33_0 ?_
  refine ao_iconst (pc := 4) X dX4_take_4 ic_0 ?_
  refine ao_aload_n (pc := 5) X dX4_take_5 rfl ?_
  refine ao_getR (pc := 6) X dX4_take_6 fl_RX4_9 sf_78_0 ?_
  refine ao_iconst (pc := 9) X dX4_take_9 ic_0 ?_
  refine ao_bipush (pc := 10) X dX4_take_10 bp_6 ?_
  refine ao_copy (pc := 12) X dX4_take_12 ml_RX4_43 CpyW_ok sa_34 sa_79 (Nat.le_of_ble_eq_true rfl) ?_
  refine ao_lt (fun m1 => ?_)
  refine ao_aload_n (pc := 15) X dX4_take_15 rfl ?_
  refine ao_getR (pc := 16) X dX4_take_16 fl_RX4_15 sf_33_1 ?_
  refine ao_iconst (pc := 19) X dX4_take_19 ic_0 ?_
  refine ao_aload_n (pc := 20) X dX4_take_20 rfl ?_
  refine ao_getR (pc := 21) X dX4_take_21 fl_RX4_15 sf_78_1 ?_
  refine ao_iconst (pc := 24) X dX4_take_24 ic_0 ?_
  refine ao_bipush (pc := 25) X dX4_take_25 bp_6 ?_
  refine ao_copy (pc := 27) X dX4_take_27 ml_RX4_43 CpyW_ok sa_35 sa_80 (Nat.le_of_ble_eq_true rfl) ?_
  refine ao_lt (fun m2 => ?_)
  refine ao_aload_n (pc := 30) X dX4_take_30 rfl ?_
  refine ao_getR (pc := 31) X dX4_take_31 fl_RX4_18 sf_33_2 ?_
  refine ao_iconst (pc := 34) X dX4_take_34 ic_0 ?_
  refine ao_aload_n (pc := 35) X dX4_take_35 rfl ?_
  refine ao_getR (pc := 36) X dX4_take_36 fl_RX4_18 sf_78_2 ?_
  refine ao_iconst (pc := 39) X dX4_take_39 ic_0 ?_
  refine ao_bipush (pc := 40) X dX4_take_40 bp_6 ?_
  refine ao_copy (pc := 42) X dX4_take_42 ml_RX4_43 CpyW_ok sa_36 sa_81 (Nat.le_of_ble_eq_true rfl) ?_
  refine ao_lt (fun m3 => ?_)
  refine ao_aload_n (pc := 45) X dX4_take_45 rfl ?_
  refine ao_getR (pc := 46) X dX4_take_46 fl_RX4_21 sf_33_3 ?_
  refine ao_iconst (pc := 49) X dX4_take_49 ic_0 ?_
  refine ao_aload_n (pc := 50) X dX4_take_50 rfl ?_
  refine ao_getR (pc := 51) X dX4_take_51 fl_RX4_21 sf_78_3 ?_
  refine ao_iconst (pc := 54) X dX4_take_54 ic_0 ?_
  refine ao_bipush (pc := 55) X dX4_take_55 bp_8 ?_
  refine ao_copy (pc := 57) X dX4_take_57 ml_RX4_43 CpyW_ok sa_37 sa_82 (Nat.le_of_ble_eq_true rfl) ?_
  refine ao_lt (fun m4 => ?_)
  refine ao_aload_n (pc := 60) X dX4_take_60 rfl ?_
  refine ao_aload_n (pc := 61) X dX4_take_61 rfl ?_
  refine ao_getI (pc := 62) X dX4_take_62 fl_RX4_24 sf_33_4 ?_
  refine ao_putI (pc := 65) X dX4_take_65 fp_RX4_24 sf_78_4 ?_
  refine ao_lt (fun m5 => ?_)
  refine ao_aload_n (pc := 68) X dX4_take_68 rfl ?_
  refine ao_iconst (pc := 69) X dX4_take_69 ic_0 ?_
  refine ao_putI (pc := 70) X dX4_take_70 fp_RX4_28 sf_78_5 ?_
  refine ao_lt (fun m6 => ?_)
  exact ao_vret (pc := 73) X hr dX4_take_73
def fX4_take_83_33 (μ : Mem) : Option (Unit × Mem) :=
  gd (cpOK (0 : Int32) (0 : Int32) (6 : Int32) 6 6) (lt (sC μ 34 84 (ix (0 : Int32)) (ix (0 : Int32)) (ix (6 : Int32))) fun m1 =>
  gd (cpOK (0 : Int32) (0 : Int32) (6 : Int32) 6 6) (lt (sC m1 35 85 (ix (0 : Int32)) (ix (0 : Int32)) (ix (6 : Int32))) fun m2 =>
  gd (cpOK (0 : Int32) (0 : Int32) (6 : Int32) 6 6) (lt (sC m2 36 86 (ix (0 : Int32)) (ix (0 : Int32)) (ix (6 : Int32))) fun m3 =>
  gd (cpOK (0 : Int32) (0 : Int32) (8 : Int32) 8 8) (lt (sC m3 37 87 (ix (0 : Int32)) (ix (0 : Int32)) (ix (8 : Int32))) fun m4 =>
  lt (sI m4 83 4 (gI m4 33 4)) fun m5 =>
  lt (sI m5 83 5 (0 : Int32)) fun m6 =>
  some ((), m6)))))
set_option maxRecDepth 100000 in
set_option maxHeartbeats 4000000 in
theorem mX4_take_83_33 {E : En} {l : Launch} (hI : Inj E) (μ : Mem) : MtV E l yX4_take cX4_take 2 (none) 1 [.ref (eAd E 83), .ref (eAd E 33)] μ (fX4_take_83_33 μ) := by
  refine mtV_of (own := RX4) [(0, .ref (eAd E 83)), (1, .ref (eAd E 33))] hI rfl (by decide) (Nat.le_of_ble_eq_true rfl) (Nat.le_of_ble_eq_true rfl) rfl (fun Z hl0 X hr => ?_)
  unfold fX4_take_83_33
  refine ao_aload_n (pc := 0) X dX4_take_0 rfl ?_
  refine ao_getR (pc := 1) X dX4_take_1 fl_RX4_9 sf_33_0 ?_
  refine ao_iconst (pc := 4) X dX4_take_4 ic_0 ?_
  refine ao_aload_n (pc := 5) X dX4_take_5 rfl ?_
  refine ao_getR (pc := 6) X dX4_take_6 fl_RX4_9 sf_83_0 ?_
  refine ao_iconst (pc := 9) X dX4_take_9 ic_0 ?_
  refine ao_bipush (pc := 10) X dX4_take_10 bp_6 ?_
  refine ao_copy (pc := 12) X dX4_take_12 ml_RX4_43 CpyW_ok sa_34 sa_84 (Nat.le_of_ble_eq_true rfl) ?_
  refine ao_lt (fun m1 => ?_)
  refine ao_aload_n (pc := 15) X dX4_take_15 rfl ?_
  refine ao_getR (pc := 16) X dX4_take_16 fl_RX4_15 sf_33_1 ?_
  refine ao_iconst (pc := 19) X dX4_take_19 ic_0 ?_
  refine ao_aload_n (pc := 20) X dX4_take_20 rfl ?_
  refine ao_getR (pc := 21) X dX4_take_21 fl_RX4_15 sf_83_1 ?_
  refine ao_iconst (pc := 24) X dX4_take_24 ic_0 ?_
  refine ao_bipush (pc := 25) X dX4_take_25 bp_6 ?_
  refine ao_copy (pc := 27) X dX4_take_27 ml_RX4_43 CpyW_ok sa_35 sa_85 (Nat.le_of_ble_eq_true rfl) ?_
  refine ao_lt (fun m2 => ?_)
  refine ao_aload_n (pc := 30) X dX4_take_30 rfl ?_
  refine ao_getR (pc := 31) X dX4_take_31 fl_RX4_18 sf_33_2 ?_
  refine ao_iconst (pc := 34) X dX4_take_34 ic_0 ?_
  refine ao_aload_n (pc := 35) X dX4_take_35 rfl ?_
  refine ao_getR (pc := 36) X dX4_take_36 fl_RX4_18 sf_83_2 ?_
  refine ao_iconst (pc := 39) X dX4_take_39 ic_0 ?_
  refine ao_bipush (pc := 40) X dX4_take_40 bp_6 ?_
  refine ao_copy (pc := 42) X dX4_take_42 ml_RX4_43 CpyW_ok sa_36 sa_86 (Nat.le_of_ble_eq_true rfl) ?_
  refine ao_lt (fun m3 => ?_)
  refine ao_aload_n (pc := 45) X dX4_take_45 rfl ?_
  refine ao_getR (pc := 46) X dX4_take_46 fl_RX4_21 sf_33_3 ?_
  refine ao_iconst (pc := 49) X dX4_take_49 ic_0 ?_
  refine ao_aload_n (pc := 50) X dX4_take_50 rfl ?_
  refine ao_getR (pc := 51) X dX4_take_51 fl_RX4_21 sf_83_3 ?_
  refine ao_iconst (pc := 54) X dX4_take_54 ic_0 ?_
  refine ao_bipush (pc := 55) X dX4_take_55 bp_8 ?_
  refine ao_copy (pc := 57) X dX4_take_57 ml_RX4_43 CpyW_ok sa_37 sa_87 (Nat.le_of_ble_eq_true rfl) ?_
  refine ao_lt (fun m4 => ?_)
  refine ao_aload_n (pc := 60) X dX4_take_60 rfl ?_
  refine ao_aload_n (pc := 61) X dX4_take_61 rfl ?_
  refine ao_getI (pc := 62) X dX4_take_62 fl_RX4_24 sf_33_4 ?_
  refine ao_putI (pc := 65) X dX4_take_65 fp_RX4_24 sf_83_4 ?_
  refine ao_lt (fun m5 => ?_)
  refine ao_aload_n (pc := 68) X dX4_take_68 rfl ?_
  refine ao_iconst (pc := 69) X dX4_take_69 ic_0 ?_
  refine ao_putI (pc := 70) X dX4_take_70 fp_RX4_28 sf_83_5 ?_
  refine ao_lt (fun m6 => ?_)
  exact ao_vret (pc := 73) X hr dX4_take_73
def fX4_take_88_33 (μ : Mem) : Option (Unit × Mem) :=
  gd (cpOK (0 : Int32) (0 : Int32) (6 : Int32) 6 6) (lt (sC μ 34 89 (ix (0 : Int32)) (ix (0 : Int32)) (ix (6 : Int32))) fun m1 =>
  gd (cpOK (0 : Int32) (0 : Int32) (6 : Int32) 6 6) (lt (sC m1 35 90 (ix (0 : Int32)) (ix (0 : Int32)) (ix (6 : Int32))) fun m2 =>
  gd (cpOK (0 : Int32) (0 : Int32) (6 : Int32) 6 6) (lt (sC m2 36 91 (ix (0 : Int32)) (ix (0 : Int32)) (ix (6 : Int32))) fun m3 =>
  gd (cpOK (0 : Int32) (0 : Int32) (8 : Int32) 8 8) (lt (sC m3 37 92 (ix (0 : Int32)) (ix (0 : Int32)) (ix (8 : Int32))) fun m4 =>
  lt (sI m4 88 4 (gI m4 33 4)) fun m5 =>
  lt (sI m5 88 5 (0 : Int32)) fun m6 =>
  some ((), m6)))))
set_option maxRecDepth 100000 in
set_option maxHeartbeats 4000000 in
theorem mX4_take_88_33 {E : En} {l : Launch} (hI : Inj E) (μ : Mem) : MtV E l yX4_take cX4_take 2 (none) 1 [.ref (eAd E 88), .ref (eAd E 33)] μ (fX4_take_88_33 μ) := by
  refine mtV_of (own := RX4) [(0, .ref (eAd E 88)), (1, .ref (eAd E 33))] hI rfl (by decide) (Nat.le_of_ble_eq_true rfl) (Nat.le_of_ble_eq_true rfl) rfl (fun Z hl0 X hr => ?_)
  unfold fX4_take_88_33
  refine ao_aload_n (pc := 0) X dX4_take_0 rfl ?_
  refine ao_getR (pc := 1) X dX4_take_1 fl_RX4_9 sf_33_0 ?_
  refine ao_iconst (pc := 4) X dX4_take_4 ic_0 ?_
  refine ao_aload_n (pc := 5) X dX4_take_5 rfl ?_
  refine ao_getR (pc := 6) X dX4_take_6 fl_RX4_9 sf_88_0 ?_
  refine ao_iconst (pc := 9) X dX4_take_9 ic_0 ?_
  refine ao_bipush (pc := 10) X dX4_take_10 bp_6 ?_
  refine ao_copy (pc := 12) X dX4_take_12 ml_RX4_43 CpyW_ok sa_34 sa_89 (Nat.le_of_ble_eq_true rfl) ?_
  refine ao_lt (fun m1 => ?_)
  refine ao_aload_n (pc := 15) X dX4_take_15 rfl ?_
  refine ao_getR (pc := 16) X dX4_take_16 fl_RX4_15 sf_33_1 ?_
  refine ao_iconst (pc := 19) X dX4_take_19 ic_0 ?_
  refine ao_aload_n (pc := 20) X dX4_take_20 rfl ?_
  refine ao_getR (pc := 21) X dX4_take_21 fl_RX4_15 sf_88_1 ?_
  refine ao_iconst (pc := 24) X dX4_take_24 ic_0 ?_
  refine ao_bipush (pc := 25) X dX4_take_25 bp_6 ?_
  refine ao_copy (pc := 27) X dX4_take_27 ml_RX4_43 CpyW_ok sa_35 sa_90 (Nat.le_of_ble_eq_true rfl) ?_
  refine ao_lt (fun m2 => ?_)
  refine ao_aload_n (pc := 30) X dX4_take_30 rfl ?_
  refine ao_getR (pc := 31) X dX4_take_31 fl_RX4_18 sf_33_2 ?_
  refine ao_iconst (pc := 34) X dX4_take_34 ic_0 ?_
  refine ao_aload_n (pc := 35) X dX4_take_35 rfl ?_
  refine ao_getR (pc := 36) X dX4_take_36 fl_RX4_18 sf_88_2 ?_
  refine ao_iconst (pc := 39) X dX4_take_39 ic_0 ?_
  refine ao_bipush (pc := 40) X dX4_take_40 bp_6 ?_
  refine ao_copy (pc := 42) X dX4_take_42 ml_RX4_43 CpyW_ok sa_36 sa_91 (Nat.le_of_ble_eq_true rfl) ?_
  refine ao_lt (fun m3 => ?_)
  refine ao_aload_n (pc := 45) X dX4_take_45 rfl ?_
  refine ao_getR (pc := 46) X dX4_take_46 fl_RX4_21 sf_33_3 ?_
  refine ao_iconst (pc := 49) X dX4_take_49 ic_0 ?_
  refine ao_aload_n (pc := 50) X dX4_take_50 rfl ?_
  refine ao_getR (pc := 51) X dX4_take_51 fl_RX4_21 sf_88_3 ?_
  refine ao_iconst (pc := 54) X dX4_take_54 ic_0 ?_
  refine ao_bipush (pc := 55) X dX4_take_55 bp_8 ?_
  refine ao_copy (pc := 57) X dX4_take_57 ml_RX4_43 CpyW_ok sa_37 sa_92 (Nat.le_of_ble_eq_true rfl) ?_
  refine ao_lt (fun m4 => ?_)
  refine ao_aload_n (pc := 60) X dX4_take_60 rfl ?_
  refine ao_aload_n (pc := 61) X dX4_take_61 rfl ?_
  refine ao_getI (pc := 62) X dX4_take_62 fl_RX4_24 sf_33_4 ?_
  refine ao_putI (pc := 65) X dX4_take_65 fp_RX4_24 sf_88_4 ?_
  refine ao_lt (fun m5 => ?_)
  refine ao_aload_n (pc := 68) X dX4_take_68 rfl ?_
  refine ao_iconst (pc := 69) X dX4_take_69 ic_0 ?_
  refine ao_putI (pc := 70) X dX4_take_70 fp_RX4_28 sf_88_5 ?_
  refine ao_lt (fun m6 => ?_)
  exact ao_vret (pc := 73) X hr dX4_take_73
def fX4_take_93_33 (μ : Mem) : Option (Unit × Mem) :=
  gd (cpOK (0 : Int32) (0 : Int32) (6 : Int32) 6 6) (lt (sC μ 34 94 (ix (0 : Int32)) (ix (0 : Int32)) (ix (6 : Int32))) fun m1 =>
  gd (cpOK (0 : Int32) (0 : Int32) (6 : Int32) 6 6) (lt (sC m1 35 95 (ix (0 : Int32)) (ix (0 : Int32)) (ix (6 : Int32))) fun m2 =>
  gd (cpOK (0 : Int32) (0 : Int32) (6 : Int32) 6 6) (lt (sC m2 36 96 (ix (0 : Int32)) (ix (0 : Int32)) (ix (6 : Int32))) fun m3 =>
  gd (cpOK (0 : Int32) (0 : Int32) (8 : Int32) 8 8) (lt (sC m3 37 97 (ix (0 : Int32)) (ix (0 : Int32)) (ix (8 : Int32))) fun m4 =>
  lt (sI m4 93 4 (gI m4 33 4)) fun m5 =>
  lt (sI m5 93 5 (0 : Int32)) fun m6 =>
  some ((), m6)))))
set_option maxRecDepth 100000 in
set_option maxHeartbeats 4000000 in
theorem mX4_take_93_33 {E : En} {l : Launch} (hI : Inj E) (μ : Mem) : MtV E l yX4_take cX4_take 2 (none) 1 [.ref (eAd E 93), .ref (eAd E 33)] μ (fX4_take_93_33 μ) := by
  refine mtV_of (own := RX4) [(0, .ref (eAd E 93)), (1, .ref (eAd E 33))] hI rfl (by decide) (Nat.le_of_ble_eq_true rfl) (Nat.le_of_ble_eq_true rfl) rfl (fun Z hl0 X hr => ?_)
  unfold fX4_take_93_33
  refine ao_aload_n (pc := 0) X dX4_take_0 rfl ?_
  refine ao_getR (pc := 1) X dX4_take_1 fl_RX4_9 sf_33_0 ?_
  refine ao_iconst (pc := 4) X dX4_take_4 ic_0 ?_
  refine ao_aload_n (pc := 5) X dX4_take_5 rfl ?_
  refine ao_getR (pc := 6) X dX4_take_6 fl_RX4_9 sf_93_0 ?_
  refine ao_iconst (pc := 9) X dX4_take_9 ic_0 ?_
  refine ao_bipush (pc := 10) X dX4_take_10 bp_6 ?_
  refine ao_copy (pc := 12) X dX4_take_12 ml_RX4_43 CpyW_ok sa_34 sa_94 (Nat.le_of_ble_eq_true rfl) ?_
  refine ao_lt (fun m1 => ?_)
  refine ao_aload_n (pc := 15) X dX4_take_15 rfl ?_
  refine ao_getR (pc := 16) X dX4_take_16 fl_RX4_15 sf_33_1 ?_
  refine ao_iconst (pc := 19) X dX4_take_19 ic_0 ?_
  refine ao_aload_n (pc := 20) X dX4_take_20 rfl ?_
  refine ao_getR (pc := 21) X dX4_take_21 fl_RX4_15 sf_93_1 ?_
  refine ao_iconst (pc := 24) X dX4_take_24 ic_0 ?_
  refine ao_bipush (pc := 25) X dX4_take_25 bp_6 ?_
  refine ao_copy (pc := 27) X dX4_take_27 ml_RX4_43 CpyW_ok sa_35 sa_95 (Nat.le_of_ble_eq_true rfl) ?_
  refine ao_lt (fun m2 => ?_)
  refine ao_aload_n (pc := 30) X dX4_take_30 rfl ?_
  refine ao_getR (pc := 31) X dX4_take_31 fl_RX4_18 sf_33_2 ?_
  refine ao_iconst (pc := 34) X dX4_take_34 ic_0 ?_
  refine ao_aload_n (pc := 35) X dX4_take_35 rfl ?_
  refine ao_getR (pc := 36) X dX4_take_36 fl_RX4_18 sf_93_2 ?_
  refine ao_iconst (pc := 39) X dX4_take_39 ic_0 ?_
  refine ao_bipush (pc := 40) X dX4_take_40 bp_6 ?_
  refine ao_copy (pc := 42) X dX4_take_42 ml_RX4_43 CpyW_ok sa_36 sa_96 (Nat.le_of_ble_eq_true rfl) ?_
  refine ao_lt (fun m3 => ?_)
  refine ao_aload_n (pc := 45) X dX4_take_45 rfl ?_
  refine ao_getR (pc := 46) X dX4_take_46 fl_RX4_21 sf_33_3 ?_
  refine ao_iconst (pc := 49) X dX4_take_49 ic_0 ?_
  refine ao_aload_n (pc := 50) X dX4_take_50 rfl ?_
  refine ao_getR (pc := 51) X dX4_take_51 fl_RX4_21 sf_93_3 ?_
  refine ao_iconst (pc := 54) X dX4_take_54 ic_0 ?_
  refine ao_bipush (pc := 55) X dX4_take_55 bp_8 ?_
  refine ao_copy (pc := 57) X dX4_take_57 ml_RX4_43 CpyW_ok sa_37 sa_97 (Nat.le_of_ble_eq_true rfl) ?_
  refine ao_lt (fun m4 => ?_)
  refine ao_aload_n (pc := 60) X dX4_take_60 rfl ?_
  refine ao_aload_n (pc := 61) X dX4_take_61 rfl ?_
  refine ao_getI (pc := 62) X dX4_take_62 fl_RX4_24 sf_33_4 ?_
  refine ao_putI (pc := 65) X dX4_take_65 fp_RX4_24 sf_93_4 ?_
  refine ao_lt (fun m5 => ?_)
  refine ao_aload_n (pc := 68) X dX4_take_68 rfl ?_
  refine ao_iconst (pc := 69) X dX4_take_69 ic_0 ?_
  refine ao_putI (pc := 70) X dX4_take_70 fp_RX4_28 sf_93_5 ?_
  refine ao_lt (fun m6 => ?_)
  exact ao_vret (pc := 73) X hr dX4_take_73
def fX4_take_98_33 (μ : Mem) : Option (Unit × Mem) :=
  gd (cpOK (0 : Int32) (0 : Int32) (6 : Int32) 6 6) (lt (sC μ 34 99 (ix (0 : Int32)) (ix (0 : Int32)) (ix (6 : Int32))) fun m1 =>
  gd (cpOK (0 : Int32) (0 : Int32) (6 : Int32) 6 6) (lt (sC m1 35 100 (ix (0 : Int32)) (ix (0 : Int32)) (ix (6 : Int32))) fun m2 =>
  gd (cpOK (0 : Int32) (0 : Int32) (6 : Int32) 6 6) (lt (sC m2 36 101 (ix (0 : Int32)) (ix (0 : Int32)) (ix (6 : Int32))) fun m3 =>
  gd (cpOK (0 : Int32) (0 : Int32) (8 : Int32) 8 8) (lt (sC m3 37 102 (ix (0 : Int32)) (ix (0 : Int32)) (ix (8 : Int32))) fun m4 =>
  lt (sI m4 98 4 (gI m4 33 4)) fun m5 =>
  lt (sI m5 98 5 (0 : Int32)) fun m6 =>
  some ((), m6)))))
set_option maxRecDepth 100000 in
set_option maxHeartbeats 4000000 in
theorem mX4_take_98_33 {E : En} {l : Launch} (hI : Inj E) (μ : Mem) : MtV E l yX4_take cX4_take 2 (none) 1 [.ref (eAd E 98), .ref (eAd E 33)] μ (fX4_take_98_33 μ) := by
  refine mtV_of (own := RX4) [(0, .ref (eAd E 98)), (1, .ref (eAd E 33))] hI rfl (by decide) (Nat.le_of_ble_eq_true rfl) (Nat.le_of_ble_eq_true rfl) rfl (fun Z hl0 X hr => ?_)
  unfold fX4_take_98_33
  refine ao_aload_n (pc := 0) X dX4_take_0 rfl ?_
  refine ao_getR (pc := 1) X dX4_take_1 fl_RX4_9 sf_33_0 ?_
  refine ao_iconst (pc := 4) X dX4_take_4 ic_0 ?_
  refine ao_aload_n (pc := 5) X dX4_take_5 rfl ?_
  refine ao_getR (pc := 6) X dX4_take_6 fl_RX4_9 sf_98_0 ?_
  refine ao_iconst (pc := 9) X dX4_take_9 ic_0 ?_
  refine ao_bipush (pc := 10) X dX4_take_10 bp_6 ?_
  refine ao_copy (pc := 12) X dX4_take_12 ml_RX4_43 CpyW_ok sa_34 sa_99 (Nat.le_of_ble_eq_true rfl) ?_
  refine ao_lt (fun m1 => ?_)
  refine ao_aload_n (pc := 15) X dX4_take_15 rfl ?_
  refine ao_getR (pc := 16) X dX4_take_16 fl_RX4_15 sf_33_1 ?_
  refine ao_iconst (pc := 19) X dX4_take_19 ic_0 ?_
  refine ao_aload_n (pc := 20) X dX4_take_20 rfl ?_
  refine ao_getR (pc := 21) X dX4_take_21 fl_RX4_15 sf_98_1 ?_
  refine ao_iconst (pc := 24) X dX4_take_24 ic_0 ?_
  refine ao_bipush (pc := 25) X dX4_take_25 bp_6 ?_
  refine ao_copy (pc := 27) X dX4_take_27 ml_RX4_43 CpyW_ok sa_35 sa_100 (Nat.le_of_ble_eq_true rfl) ?_
  refine ao_lt (fun m2 => ?_)
  refine ao_aload_n (pc := 30) X dX4_take_30 rfl ?_
  refine ao_getR (pc := 31) X dX4_take_31 fl_RX4_18 sf_33_2 ?_
  refine ao_iconst (pc := 34) X dX4_take_34 ic_0 ?_
  refine ao_aload_n (pc := 35) X dX4_take_35 rfl ?_
  refine ao_getR (pc := 36) X dX4_take_36 fl_RX4_18 sf_98_2 ?_
  refine ao_iconst (pc := 39) X dX4_take_39 ic_0 ?_
  refine ao_bipush (pc := 40) X dX4_take_40 bp_6 ?_
  refine ao_copy (pc := 42) X dX4_take_42 ml_RX4_43 CpyW_ok sa_36 sa_101 (Nat.le_of_ble_eq_true rfl) ?_
  refine ao_lt (fun m3 => ?_)
  refine ao_aload_n (pc := 45) X dX4_take_45 rfl ?_
  refine ao_getR (pc := 46) X dX4_take_46 fl_RX4_21 sf_33_3 ?_
  refine ao_iconst (pc := 49) X dX4_take_49 ic_0 ?_
  refine ao_aload_n (pc := 50) X dX4_take_50 rfl ?_
  refine ao_getR (pc := 51) X dX4_take_51 fl_RX4_21 sf_98_3 ?_
  refine ao_iconst (pc := 54) X dX4_take_54 ic_0 ?_
  refine ao_bipush (pc := 55) X dX4_take_55 bp_8 ?_
  refine ao_copy (pc := 57) X dX4_take_57 ml_RX4_43 CpyW_ok sa_37 sa_102 (Nat.le_of_ble_eq_true rfl) ?_
  refine ao_lt (fun m4 => ?_)
  refine ao_aload_n (pc := 60) X dX4_take_60 rfl ?_
  refine ao_aload_n (pc := 61) X dX4_take_61 rfl ?_
  refine ao_getI (pc := 62) X dX4_take_62 fl_RX4_24 sf_33_4 ?_
  refine ao_putI (pc := 65) X dX4_take_65 fp_RX4_24 sf_98_4 ?_
  refine ao_lt (fun m5 => ?_)
  refine ao_aload_n (pc := 68) X dX4_take_68 rfl ?_
  refine ao_iconst (pc := 69) X dX4_take_69 ic_0 ?_
  refine ao_putI (pc := 70) X dX4_take_70 fp_RX4_28 sf_98_5 ?_
  refine ao_lt (fun m6 => ?_)
  exact ao_vret (pc := 73) X hr dX4_take_73
def fX6_note_29_33 (μ : Mem) : Option (Unit × Mem) :=
  if (gI μ 29 1) = (0 : Int32) then (bnd (fX4_take_43_33 μ) fun r1 m2 =>
    some ((), m2))
  else if (gI μ 29 1) = (1 : Int32) then (bnd (fX4_take_48_33 μ) fun r3 m4 =>
    some ((), m4))
  else if (gI μ 29 1) = (2 : Int32) then (bnd (fX4_take_53_33 μ) fun r5 m6 =>
    some ((), m6))
  else if (gI μ 29 1) = (3 : Int32) then (bnd (fX4_take_58_33 μ) fun r7 m8 =>
    some ((), m8))
  else if (gI μ 29 1) = (4 : Int32) then (bnd (fX4_take_63_33 μ) fun r9 m10 =>
    some ((), m10))
  else if (gI μ 29 1) = (5 : Int32) then (bnd (fX4_take_68_33 μ) fun r11 m12 =>
    some ((), m12))
  else if (gI μ 29 1) = (6 : Int32) then (bnd (fX4_take_73_33 μ) fun r13 m14 =>
    some ((), m14))
  else if (gI μ 29 1) = (7 : Int32) then (bnd (fX4_take_78_33 μ) fun r15 m16 =>
    some ((), m16))
  else if (gI μ 29 1) = (8 : Int32) then (bnd (fX4_take_83_33 μ) fun r17 m18 =>
    some ((), m18))
  else if (gI μ 29 1) = (9 : Int32) then (bnd (fX4_take_88_33 μ) fun r19 m20 =>
    some ((), m20))
  else if (gI μ 29 1) = (10 : Int32) then (bnd (fX4_take_93_33 μ) fun r21 m22 =>
    some ((), m22))
  else if (gI μ 29 1) = (11 : Int32) then (bnd (fX4_take_98_33 μ) fun r23 m24 =>
    some ((), m24))
  else if (gI μ 29 1) = (12 : Int32) then (bnd (fX4_take_103_33 μ) fun r25 m26 =>
    some ((), m26))
  else none
set_option maxRecDepth 100000 in
set_option maxHeartbeats 4000000 in
theorem mX6_note_29_33 {E : En} {l : Launch} (hI : Inj E) (μ : Mem) : MtV E l yX6_note cX6_note 2 (none) 2 [.ref (eAd E 29), .ref (eAd E 33)] μ (fX6_note_29_33 μ) := by
  refine mtV_of (own := RX6) [(0, .ref (eAd E 29)), (1, .ref (eAd E 33))] hI rfl (by decide) (Nat.le_of_ble_eq_true rfl) (Nat.le_of_ble_eq_true rfl) rfl (fun Z hl0 X hr => ?_)
  unfold fX6_note_29_33
  refine ao_aload_n (pc := 0) X dX6_note_0 rfl ?_
  refine ao_getR (pc := 1) X dX6_note_1 fl_RX6_11 sf_29_0 ?_
  refine ao_aload_n (pc := 4) X dX6_note_4 rfl ?_
  refine ao_getI (pc := 5) X dX6_note_5 fl_RX6_15 sf_29_1 ?_
  refine ao_ite (cd := (gI μ 29 1) = (0 : Int32)) (fun c => ao_aald (n := 0) (pc := 8) (t := 43) (iv := (0 : Int32)) X dX6_note_8 (by decide) sh_30 c (by decide) rfl ?_) (fun _ => ?_)
  · refine ao_aload_n (pc := 9) X dX6_note_9 rfl ?_
    refine ao_callVV (pc := 10) (As := [.ref (eAd E 33)]) (st := []) X hl0 dX6_note_10 yv_X4_take so_43 ml_RX6_25 (mX4_take_43_33 hI μ) (Nat.le_of_ble_eq_true rfl) rfl rfl (Nat.le_of_ble_eq_true rfl) (fun r1 m2 => ?_)
    exact ao_vret (pc := 13) X hr dX6_note_13
  refine ao_ite (cd := (gI μ 29 1) = (1 : Int32)) (fun c => ao_aald (n := 0) (pc := 8) (t := 48) (iv := (1 : Int32)) X dX6_note_8 (by decide) sh_30 c (by decide) rfl ?_) (fun _ => ?_)
  · refine ao_aload_n (pc := 9) X dX6_note_9 rfl ?_
    refine ao_callVV (pc := 10) (As := [.ref (eAd E 33)]) (st := []) X hl0 dX6_note_10 yv_X4_take so_48 ml_RX6_25 (mX4_take_48_33 hI μ) (Nat.le_of_ble_eq_true rfl) rfl rfl (Nat.le_of_ble_eq_true rfl) (fun r3 m4 => ?_)
    exact ao_vret (pc := 13) X hr dX6_note_13
  refine ao_ite (cd := (gI μ 29 1) = (2 : Int32)) (fun c => ao_aald (n := 0) (pc := 8) (t := 53) (iv := (2 : Int32)) X dX6_note_8 (by decide) sh_30 c (by decide) rfl ?_) (fun _ => ?_)
  · refine ao_aload_n (pc := 9) X dX6_note_9 rfl ?_
    refine ao_callVV (pc := 10) (As := [.ref (eAd E 33)]) (st := []) X hl0 dX6_note_10 yv_X4_take so_53 ml_RX6_25 (mX4_take_53_33 hI μ) (Nat.le_of_ble_eq_true rfl) rfl rfl (Nat.le_of_ble_eq_true rfl) (fun r5 m6 => ?_)
    exact ao_vret (pc := 13) X hr dX6_note_13
  refine ao_ite (cd := (gI μ 29 1) = (3 : Int32)) (fun c => ao_aald (n := 0) (pc := 8) (t := 58) (iv := (3 : Int32)) X dX6_note_8 (by decide) sh_30 c (by decide) rfl ?_) (fun _ => ?_)
  · refine ao_aload_n (pc := 9) X dX6_note_9 rfl ?_
    refine ao_callVV (pc := 10) (As := [.ref (eAd E 33)]) (st := []) X hl0 dX6_note_10 yv_X4_take so_58 ml_RX6_25 (mX4_take_58_33 hI μ) (Nat.le_of_ble_eq_true rfl) rfl rfl (Nat.le_of_ble_eq_true rfl) (fun r7 m8 => ?_)
    exact ao_vret (pc := 13) X hr dX6_note_13
  refine ao_ite (cd := (gI μ 29 1) = (4 : Int32)) (fun c => ao_aald (n := 0) (pc := 8) (t := 63) (iv := (4 : Int32)) X dX6_note_8 (by decide) sh_30 c (by decide) rfl ?_) (fun _ => ?_)
  · refine ao_aload_n (pc := 9) X dX6_note_9 rfl ?_
    refine ao_callVV (pc := 10) (As := [.ref (eAd E 33)]) (st := []) X hl0 dX6_note_10 yv_X4_take so_63 ml_RX6_25 (mX4_take_63_33 hI μ) (Nat.le_of_ble_eq_true rfl) rfl rfl (Nat.le_of_ble_eq_true rfl) (fun r9 m10 => ?_)
    exact ao_vret (pc := 13) X hr dX6_note_13
  refine ao_ite (cd := (gI μ 29 1) = (5 : Int32)) (fun c => ao_aald (n := 0) (pc := 8) (t := 68) (iv := (5 : Int32)) X dX6_note_8 (by decide) sh_30 c (by decide) rfl ?_) (fun _ => ?_)
  · refine ao_aload_n (pc := 9) X dX6_note_9 rfl ?_
    refine ao_callVV (pc := 10) (As := [.ref (eAd E 33)]) (st := []) X hl0 dX6_note_10 yv_X4_take so_68 ml_RX6_25 (mX4_take_68_33 hI μ) (Nat.le_of_ble_eq_true rfl) rfl rfl (Nat.le_of_ble_eq_true rfl) (fun r11 m12 => ?_)
    exact ao_vret (pc := 13) X hr dX6_note_13
  refine ao_ite (cd := (gI μ 29 1) = (6 : Int32)) (fun c => ao_aald (n := 0) (pc := 8) (t := 73) (iv := (6 : Int32)) X dX6_note_8 (by decide) sh_30 c (by decide) rfl ?_) (fun _ => ?_)
  · refine ao_aload_n (pc := 9) X dX6_note_9 rfl ?_
    refine ao_callVV (pc := 10) (As := [.ref (eAd E 33)]) (st := []) X hl0 dX6_note_10 yv_X4_take so_73 ml_RX6_25 (mX4_take_73_33 hI μ) (Nat.le_of_ble_eq_true rfl) rfl rfl (Nat.le_of_ble_eq_true rfl) (fun r13 m14 => ?_)
    exact ao_vret (pc := 13) X hr dX6_note_13
  refine ao_ite (cd := (gI μ 29 1) = (7 : Int32)) (fun c => ao_aald (n := 0) (pc := 8) (t := 78) (iv := (7 : Int32)) X dX6_note_8 (by decide) sh_30 c (by decide) rfl ?_) (fun _ => ?_)
  · refine ao_aload_n (pc := 9) X dX6_note_9 rfl ?_
    refine ao_callVV (pc := 10) (As := [.ref (eAd E 33)]) (st := []) X hl0 dX6_note_10 yv_X4_take so_78 ml_RX6_25 (mX4_take_78_33 hI μ) (Nat.le_of_ble_eq_true rfl) rfl rfl (Nat.le_of_ble_eq_true rfl) (fun r15 m16 => ?_)
    exact ao_vret (pc := 13) X hr dX6_note_13
  refine ao_ite (cd := (gI μ 29 1) = (8 : Int32)) (fun c => ao_aald (n := 0) (pc := 8) (t := 83) (iv := (8 : Int32)) X dX6_note_8 (by decide) sh_30 c (by decide) rfl ?_) (fun _ => ?_)
  · refine ao_aload_n (pc := 9) X dX6_note_9 rfl ?_
    refine ao_callVV (pc := 10) (As := [.ref (eAd E 33)]) (st := []) X hl0 dX6_note_10 yv_X4_take so_83 ml_RX6_25 (mX4_take_83_33 hI μ) (Nat.le_of_ble_eq_true rfl) rfl rfl (Nat.le_of_ble_eq_true rfl) (fun r17 m18 => ?_)
    exact ao_vret (pc := 13) X hr dX6_note_13
  refine ao_ite (cd := (gI μ 29 1) = (9 : Int32)) (fun c => ao_aald (n := 0) (pc := 8) (t := 88) (iv := (9 : Int32)) X dX6_note_8 (by decide) sh_30 c (by decide) rfl ?_) (fun _ => ?_)
  · refine ao_aload_n (pc := 9) X dX6_note_9 rfl ?_
    refine ao_callVV (pc := 10) (As := [.ref (eAd E 33)]) (st := []) X hl0 dX6_note_10 yv_X4_take so_88 ml_RX6_25 (mX4_take_88_33 hI μ) (Nat.le_of_ble_eq_true rfl) rfl rfl (Nat.le_of_ble_eq_true rfl) (fun r19 m20 => ?_)
    exact ao_vret (pc := 13) X hr dX6_note_13
  refine ao_ite (cd := (gI μ 29 1) = (10 : Int32)) (fun c => ao_aald (n := 0) (pc := 8) (t := 93) (iv := (10 : Int32)) X dX6_note_8 (by decide) sh_30 c (by decide) rfl ?_) (fun _ => ?_)
  · refine ao_aload_n (pc := 9) X dX6_note_9 rfl ?_
    refine ao_callVV (pc := 10) (As := [.ref (eAd E 33)]) (st := []) X hl0 dX6_note_10 yv_X4_take so_93 ml_RX6_25 (mX4_take_93_33 hI μ) (Nat.le_of_ble_eq_true rfl) rfl rfl (Nat.le_of_ble_eq_true rfl) (fun r21 m22 => ?_)
    exact ao_vret (pc := 13) X hr dX6_note_13
  refine ao_ite (cd := (gI μ 29 1) = (11 : Int32)) (fun c => ao_aald (n := 0) (pc := 8) (t := 98) (iv := (11 : Int32)) X dX6_note_8 (by decide) sh_30 c (by decide) rfl ?_) (fun _ => ?_)
  · refine ao_aload_n (pc := 9) X dX6_note_9 rfl ?_
    refine ao_callVV (pc := 10) (As := [.ref (eAd E 33)]) (st := []) X hl0 dX6_note_10 yv_X4_take so_98 ml_RX6_25 (mX4_take_98_33 hI μ) (Nat.le_of_ble_eq_true rfl) rfl rfl (Nat.le_of_ble_eq_true rfl) (fun r23 m24 => ?_)
    exact ao_vret (pc := 13) X hr dX6_note_13
  refine ao_ite (cd := (gI μ 29 1) = (12 : Int32)) (fun c => ao_aald (n := 0) (pc := 8) (t := 103) (iv := (12 : Int32)) X dX6_note_8 (by decide) sh_30 c (by decide) rfl ?_) (fun _ => ?_)
  · refine ao_aload_n (pc := 9) X dX6_note_9 rfl ?_
    refine ao_callVV (pc := 10) (As := [.ref (eAd E 33)]) (st := []) X hl0 dX6_note_10 yv_X4_take so_103 ml_RX6_25 (mX4_take_103_33 hI μ) (Nat.le_of_ble_eq_true rfl) rfl rfl (Nat.le_of_ble_eq_true rfl) (fun r25 m26 => ?_)
    exact ao_vret (pc := 13) X hr dX6_note_13
  exact ao_none
def fX11_lay_0 (v1 : Int32) (v2 : Int32) (μ : Mem) : Option (Int32 × Mem) :=
  bnd (fX6_note_29_33 μ) fun r1 m2 =>
  bnd (fX4_layOn_33 v1 v2 m2) fun r3 m4 =>
  bnd (fX11_doneBy_0 r3 m4) fun r5 m6 =>
  some (r5, m6)
set_option maxRecDepth 100000 in
set_option maxHeartbeats 4000000 in
theorem mX11_lay_0 {E : En} {l : Launch} (hI : Inj E) (v1 : Int32) (v2 : Int32) (μ : Mem) : MtI E l yX11_lay cX11_lay 3 (some .int) 3 [.ref (eAd E 0), .int v1, .int v2] μ (fX11_lay_0 v1 v2 μ) := by
  refine mtI_of (own := RX11) [(0, .ref (eAd E 0)), (1, .int v1), (2, .int v2)] hI rfl (by decide) (Nat.le_of_ble_eq_true rfl) (Nat.le_of_ble_eq_true rfl) rfl (fun Z hl0 X hr => ?_)
  unfold fX11_lay_0
  refine ao_aload_n (pc := 0) X dX11_lay_0 rfl ?_
  refine ao_getR (pc := 1) X dX11_lay_1 fl_RX11_75 sf_0_9 ?_
  refine ao_aload_n (pc := 4) X dX11_lay_4 rfl ?_
  refine ao_getR (pc := 5) X dX11_lay_5 fl_RX11_65 sf_0_7 ?_
  refine ao_callVV (pc := 8) (As := [.ref (eAd E 33)]) (st := []) X hl0 dX11_lay_8 yv_X6_note so_29 ml_RX11_212 (mX6_note_29_33 hI μ) (Nat.le_of_ble_eq_true rfl) rfl rfl (Nat.le_of_ble_eq_true rfl) (fun r1 m2 => ?_)
  refine ao_aload_n (pc := 11) X dX11_lay_11 rfl ?_
  refine ao_aload_n (pc := 12) X dX11_lay_12 rfl ?_
  refine ao_getR (pc := 13) X dX11_lay_13 fl_RX11_65 sf_0_7 ?_
  refine ao_iload_n (pc := 16) X dX11_lay_16 rfl ?_
  refine ao_iload_n (pc := 17) X dX11_lay_17 rfl ?_
  refine ao_callVI (pc := 18) (As := [.int v1, .int v2]) (st := [.ref (eAd E 0)]) X hl0 dX11_lay_18 yv_X4_layOn so_33 ml_RX11_216 (mX4_layOn_33 hI v1 v2 m2) (Nat.le_of_ble_eq_true rfl) rfl rfl (Nat.le_of_ble_eq_true rfl) (fun r3 m4 => ?_)
  refine ao_callVI (pc := 21) (As := [.int r3]) (st := []) X hl0 dX11_lay_21 yv_X11_doneBy so_0 ml_RX11_219 (mX11_doneBy_0 hI r3 m4) (Nat.le_of_ble_eq_true rfl) rfl rfl (Nat.le_of_ble_eq_true rfl) (fun r5 m6 => ?_)
  exact ao_iret (pc := 24) X hr dX11_lay_24
def fX12_goLay_123 (v1 : Int32) (v2 : Int32) (μ : Mem) : Option (Unit × Mem) :=
  gd (inb ((6 : Int32) + v1) 27) (gd (inb ((6 : Int32) + v1) 27) (lt (sI μ 123 (ix ((6 : Int32) + v1)) (imax (0 : Int32) (imin (99 : Int32) ((gI μ 123 (ix ((6 : Int32) + v1))) + v2)))) fun m1 =>
  some ((), m1)))
set_option maxRecDepth 100000 in
set_option maxHeartbeats 4000000 in
theorem mX12_goLay_123 {E : En} {l : Launch} (hI : Inj E) (v1 : Int32) (v2 : Int32) (μ : Mem) : MtV E l yX12_goLay cX12_goLay 3 (none) 1 [.ref (eAd E 123), .int v1, .int v2] μ (fX12_goLay_123 v1 v2 μ) := by
  refine mtV_of (own := RX12) [(0, .ref (eAd E 123)), (1, .int v1), (2, .int v2)] hI rfl (by decide) (Nat.le_of_ble_eq_true rfl) (Nat.le_of_ble_eq_true rfl) rfl (fun Z hl0 X hr => ?_)
  unfold fX12_goLay_123
  refine ao_aload_n (pc := 0) X dX12_goLay_0 rfl ?_
  refine ao_bipush (pc := 1) X dX12_goLay_1 bp_6 ?_
  refine ao_iload_n (pc := 3) X dX12_goLay_3 rfl ?_
  refine ao_iadd (pc := 4) X dX12_goLay_4 ?_
  refine ao_iconst (pc := 5) X dX12_goLay_5 ic_0 ?_
  refine ao_bipush (pc := 6) X dX12_goLay_6 bp_99 ?_
  refine ao_aload_n (pc := 8) X dX12_goLay_8 rfl ?_
  refine ao_bipush (pc := 9) X dX12_goLay_9 bp_6 ?_
  refine ao_iload_n (pc := 11) X dX12_goLay_11 rfl ?_
  refine ao_iadd (pc := 12) X dX12_goLay_12 ?_
  refine ao_iald (pc := 13) X dX12_goLay_13 sa_123 ?_
  refine ao_iload_n (pc := 14) X dX12_goLay_14 rfl ?_
  refine ao_iadd (pc := 15) X dX12_goLay_15 ?_
  refine ao_min (pc := 16) X dX12_goLay_16 ml_RX12_212 MinW_ok (Nat.le_of_ble_eq_true rfl) ?_
  refine ao_max (pc := 19) X dX12_goLay_19 ml_RX12_217 MaxW_ok (Nat.le_of_ble_eq_true rfl) ?_
  refine ao_iast (pc := 22) X dX12_goLay_22 sa_123 ?_
  refine ao_lt (fun m1 => ?_)
  exact ao_vret (pc := 23) X hr dX12_goLay_23
def fX12_refusesLay_122 (v1 : Int32) (v2 : Int32) (μ : Mem) : Option (Int32 × Mem) :=
  bnd (fX12_isMan_122 v1 μ) fun r1 m2 =>
  if r1 = 0 then (some ((-1 : Int32), m2))
  else if v2 = 0 then (some ((-1 : Int32), m2))
    else bnd (fX12_in v2 (-50 : Int32) (50 : Int32) m2) fun r3 m4 =>
      if r3 = 0 then (some ((-1 : Int32), m4))
      else gd (inb v1 27) (if (gI m4 123 (ix v1)) = 0 then (some ((0 : Int32), m4))
        else some ((-2 : Int32), m4))
set_option maxRecDepth 100000 in
set_option maxHeartbeats 4000000 in
theorem mX12_refusesLay_122 {E : En} {l : Launch} (hI : Inj E) (v1 : Int32) (v2 : Int32) (μ : Mem) : MtI E l yX12_refusesLay cX12_refusesLay 3 (some .int) 3 [.ref (eAd E 122), .int v1, .int v2] μ (fX12_refusesLay_122 v1 v2 μ) := by
  refine mtI_of (own := RX12) [(0, .ref (eAd E 122)), (1, .int v1), (2, .int v2)] hI rfl (by decide) (Nat.le_of_ble_eq_true rfl) (Nat.le_of_ble_eq_true rfl) rfl (fun Z hl0 X hr => ?_)
  unfold fX12_refusesLay_122
  refine ao_aload_n (pc := 0) X dX12_refusesLay_0 rfl ?_
  refine ao_iload_n (pc := 1) X dX12_refusesLay_1 rfl ?_
  refine ao_callVI (pc := 2) (As := [.int v1]) (st := []) X hl0 dX12_refusesLay_2 yv_X12_isMan so_122 ml_RX12_224 (mX12_isMan_122 hI v1 μ) (Nat.le_of_ble_eq_true rfl) rfl rfl (Nat.le_of_ble_eq_true rfl) (fun r1 m2 => ?_)
  refine ao_if_eq (pc := 5) (tgt := 23) X dX12_refusesLay_5 (by decide) (fun _ => ?_) (fun _ => ?_)
  · refine ao_iconst (pc := 23) X dX12_refusesLay_23 ic_m1 ?_
    exact ao_iret (pc := 24) X hr dX12_refusesLay_24
  · refine ao_iload_n (pc := 8) X dX12_refusesLay_8 rfl ?_
    refine ao_if_eq (pc := 9) (tgt := 23) X dX12_refusesLay_9 (by decide) (fun _ => ?_) (fun _ => ?_)
    · refine ao_iconst (pc := 23) X dX12_refusesLay_23 ic_m1 ?_
      exact ao_iret (pc := 24) X hr dX12_refusesLay_24
    · refine ao_iload_n (pc := 12) X dX12_refusesLay_12 rfl ?_
      refine ao_bipush (pc := 13) X dX12_refusesLay_13 bp_m50 ?_
      refine ao_bipush (pc := 15) X dX12_refusesLay_15 bp_50 ?_
      refine ao_callSI (pc := 17) (As := [.int v2, .int (-50 : Int32), .int (50 : Int32)]) (st := []) X hl0 dX12_refusesLay_17 yv_X12_in ml_RX12_104 (mX12_in hI v2 (-50 : Int32) (50 : Int32) m2) (Nat.le_of_ble_eq_true rfl) rfl rfl (Nat.le_of_ble_eq_true rfl) (fun r3 m4 => ?_)
      refine ao_if_ne (pc := 20) (tgt := 25) X dX12_refusesLay_20 (by decide) (fun _ => ?_) (fun _ => ?_)
      · refine ao_aload_n (pc := 25) X dX12_refusesLay_25 rfl ?_
        refine ao_getR (pc := 26) X dX12_refusesLay_26 fl_RX12_9 sf_122_0 ?_
        refine ao_iload_n (pc := 29) X dX12_refusesLay_29 rfl ?_
        refine ao_iald (pc := 30) X dX12_refusesLay_30 sa_123 ?_
        refine ao_if_ne (pc := 31) (tgt := 38) X dX12_refusesLay_31 (by decide) (fun _ => ?_) (fun _ => ?_)
        · refine ao_bipush (pc := 38) X dX12_refusesLay_38 bp_m2 ?_
          exact ao_iret (pc := 40) X hr dX12_refusesLay_40
        · refine ao_iconst (pc := 34) X dX12_refusesLay_34 ic_0 ?_
          refine ao_goto (pc := 35) (tgt := 40) X dX12_refusesLay_35 (by decide) ?_
          exact ao_iret (pc := 40) X hr dX12_refusesLay_40
      · refine ao_iconst (pc := 23) X dX12_refusesLay_23 ic_m1 ?_
        exact ao_iret (pc := 24) X hr dX12_refusesLay_24
def fX12_lay_123_138_b2 : Nat → Int32 → Int32 → Mem → Option (Unit × Mem)
  | 0, _, _, _ => none
  | n + 1, p2, p3, μ =>
  if (27 : Int32) ≤ p3 then (some ((), μ))
  else gd (inb p3 27) (gd (inb (p2 + p3) 324) (lt (sI μ 138 (ix (p2 + p3)) (gI μ 123 (ix p3))) fun m1 =>
    fX12_lay_123_138_b2 n p2 (p3 + (1 : Int32)) m1))
set_option maxRecDepth 100000 in
set_option maxHeartbeats 4000000 in
theorem bX12_lay_123_138_2 {E : En} {l : Launch} {Z : Zt} (hI : Inj E) (hl0 : lZ l Z) (X : Cx E Z cX12_lay RX12 4 1) (hr : rtOf Z = none) : ∀ (n : Nat) (p2 : Int32) (p3 : Int32) (μ : Mem), AO E Z 4 (QV E Z) 2 [(0, .ref (eAd E 123)), (1, .ref (eAd E 138)), (2, .int p2), (3, .int p3)] [] μ (fX12_lay_123_138_b2 n p2 p3 μ) := by
  intro n
  induction n with
  | zero =>
    intros
    exact ao_none
  | succ n ih =>
    intro p2 p3 μ
    rw [fX12_lay_123_138_b2]
    refine ao_iload_n (pc := 2) X dX12_lay_2 rfl ?_
    refine ao_bipush (pc := 3) X dX12_lay_3 bp_27 ?_
    refine ao_icmp_ge (pc := 5) (tgt := 22) X dX12_lay_5 (by decide) (fun _ => ?_) (fun _ => ?_)
    · exact ao_vret (pc := 22) X hr dX12_lay_22
    · refine ao_aload_n (pc := 8) X dX12_lay_8 rfl ?_
      refine ao_iload_n (pc := 9) X dX12_lay_9 rfl ?_
      refine ao_iload_n (pc := 10) X dX12_lay_10 rfl ?_
      refine ao_iadd (pc := 11) X dX12_lay_11 ?_
      refine ao_aload_n (pc := 12) X dX12_lay_12 rfl ?_
      refine ao_iload_n (pc := 13) X dX12_lay_13 rfl ?_
      refine ao_iald (pc := 14) X dX12_lay_14 sa_123 ?_
      refine ao_iast (pc := 15) X dX12_lay_15 sa_138 ?_
      refine ao_lt (fun m1 => ?_)
      refine ao_iinc (pc := 16) (k := 3) (v := p3 + (1 : Int32)) (lv' := [(3, .int (p3 + (1 : Int32))), (0, .ref (eAd E 123)), (1, .ref (eAd E 138)), (2, .int p2)]) X dX12_lay_16 rfl (ii_ic ic_1) (by decide) rfl ?_
      refine ao_goto (pc := 19) (tgt := 2) X dX12_lay_19 (by decide) ?_
      refine ao_sub [1, 2, 3, 0] rfl ?_
      exact ih p2 (p3 + (1 : Int32)) m1
def fX12_lay_123_138 (v2 : Int32) (μ : Mem) : Option (Unit × Mem) :=
  fX12_lay_123_138_b2 FU v2 (0 : Int32) μ
set_option maxRecDepth 100000 in
set_option maxHeartbeats 4000000 in
theorem mX12_lay_123_138 {E : En} {l : Launch} (hI : Inj E) (v2 : Int32) (μ : Mem) : MtV E l yX12_lay cX12_lay 4 (none) 1 [.ref (eAd E 123), .ref (eAd E 138), .int v2] μ (fX12_lay_123_138 v2 μ) := by
  refine mtV_of (own := RX12) [(0, .ref (eAd E 123)), (1, .ref (eAd E 138)), (2, .int v2)] hI rfl (by decide) (Nat.le_of_ble_eq_true rfl) (Nat.le_of_ble_eq_true rfl) rfl (fun Z hl0 X hr => ?_)
  unfold fX12_lay_123_138
  refine ao_iconst (pc := 0) X dX12_lay_0 ic_0 ?_
  refine ao_istore_n (pc := 1) (lv' := [(3, .int (0 : Int32)), (0, .ref (eAd E 123)), (1, .ref (eAd E 138)), (2, .int v2)]) X dX12_lay_1 rfl (by decide) rfl ?_
  refine ao_sub [1, 2, 3, 0] rfl ?_
  exact bX12_lay_123_138_2 hI hl0 X hr FU v2 (0 : Int32) μ
def fX12_remember_122_123_b49 (μ : Mem) : Option (Unit × Mem) :=
  bnd (fX12_lay_123_138 ((27 : Int32) * (gI μ 122 29)) μ) fun r1 m2 =>
  lt (sI m2 122 29 ((gI m2 122 29) + (1 : Int32))) fun m3 =>
  some ((), m3)
set_option maxRecDepth 100000 in
set_option maxHeartbeats 4000000 in
theorem bX12_remember_122_123_49 {E : En} {l : Launch} {Z : Zt} (hI : Inj E) (hl0 : lZ l Z) (X : Cx E Z cX12_remember RX12 3 2) (hr : rtOf Z = none) (μ : Mem) : AO E Z 3 (QV E Z) 49 [(0, .ref (eAd E 122)), (1, .ref (eAd E 123))] [] μ (fX12_remember_122_123_b49 μ) := by
  unfold fX12_remember_122_123_b49
  refine ao_aload_n (pc := 49) X dX12_remember_49 rfl ?_
  refine ao_aload_n (pc := 50) X dX12_remember_50 rfl ?_
  refine ao_getR (pc := 51) X dX12_remember_51 fl_RX12_62 sf_122_28 ?_
  refine ao_bipush (pc := 54) X dX12_remember_54 bp_27 ?_
  refine ao_aload_n (pc := 56) X dX12_remember_56 rfl ?_
  refine ao_getI (pc := 57) X dX12_remember_57 fl_RX12_175 sf_122_29 ?_
  refine ao_imul (pc := 60) X dX12_remember_60 ?_
  refine ao_callSV (pc := 61) (As := [.ref (eAd E 123), .ref (eAd E 138), .int ((27 : Int32) * (gI μ 122 29))]) (st := []) X hl0 dX12_remember_61 yv_X12_lay ml_RX12_242 (mX12_lay_123_138 hI ((27 : Int32) * (gI μ 122 29)) μ) (Nat.le_of_ble_eq_true rfl) rfl rfl (Nat.le_of_ble_eq_true rfl) (fun r1 m2 => ?_)
  refine ao_aload_n (pc := 64) X dX12_remember_64 rfl ?_
  refine ao_dup (pc := 65) X dX12_remember_65 rfl ?_
  refine ao_getI (pc := 66) X dX12_remember_66 fl_RX12_175 sf_122_29 ?_
  refine ao_iconst (pc := 69) X dX12_remember_69 ic_1 ?_
  refine ao_iadd (pc := 70) X dX12_remember_70 ?_
  refine ao_putI (pc := 71) X dX12_remember_71 fp_RX12_175 sf_122_29 ?_
  refine ao_lt (fun m3 => ?_)
  exact ao_vret (pc := 74) X hr dX12_remember_74
def fX12_remember_122_123_b11 : Nat → Int32 → Mem → Option (Unit × Mem)
  | 0, _, _ => none
  | n + 1, p2, μ =>
  if (297 : Int32) ≤ p2 then (lt (sI μ 122 29 ((gI μ 122 29) - (1 : Int32))) fun m4 =>
    fX12_remember_122_123_b49 m4)
  else gd (inb (p2 + (27 : Int32)) 324) (gd (inb p2 324) (lt (sI μ 138 (ix p2) (gI μ 138 (ix (p2 + (27 : Int32))))) fun m5 =>
    fX12_remember_122_123_b11 n (p2 + (1 : Int32)) m5))
set_option maxRecDepth 100000 in
set_option maxHeartbeats 4000000 in
theorem bX12_remember_122_123_11 {E : En} {l : Launch} {Z : Zt} (hI : Inj E) (hl0 : lZ l Z) (X : Cx E Z cX12_remember RX12 3 2) (hr : rtOf Z = none) : ∀ (n : Nat) (p2 : Int32) (μ : Mem), AO E Z 3 (QV E Z) 11 [(0, .ref (eAd E 122)), (1, .ref (eAd E 123)), (2, .int p2)] [] μ (fX12_remember_122_123_b11 n p2 μ) := by
  intro n
  induction n with
  | zero =>
    intros
    exact ao_none
  | succ n ih =>
    intro p2 μ
    rw [fX12_remember_122_123_b11]
    refine ao_iload_n (pc := 11) X dX12_remember_11 rfl ?_
    refine ao_sipush (pc := 12) X dX12_remember_12 sp_297 ?_
    refine ao_icmp_ge (pc := 15) (tgt := 39) X dX12_remember_15 (by decide) (fun _ => ?_) (fun _ => ?_)
    · refine ao_aload_n (pc := 39) X dX12_remember_39 rfl ?_
      refine ao_dup (pc := 40) X dX12_remember_40 rfl ?_
      refine ao_getI (pc := 41) X dX12_remember_41 fl_RX12_175 sf_122_29 ?_
      refine ao_iconst (pc := 44) X dX12_remember_44 ic_1 ?_
      refine ao_isub (pc := 45) X dX12_remember_45 ?_
      refine ao_putI (pc := 46) X dX12_remember_46 fp_RX12_175 sf_122_29 ?_
      refine ao_lt (fun m4 => ?_)
      refine ao_sub [0, 1] rfl ?_
      exact bX12_remember_122_123_49 hI hl0 X hr m4
    · refine ao_aload_n (pc := 18) X dX12_remember_18 rfl ?_
      refine ao_getR (pc := 19) X dX12_remember_19 fl_RX12_62 sf_122_28 ?_
      refine ao_iload_n (pc := 22) X dX12_remember_22 rfl ?_
      refine ao_aload_n (pc := 23) X dX12_remember_23 rfl ?_
      refine ao_getR (pc := 24) X dX12_remember_24 fl_RX12_62 sf_122_28 ?_
      refine ao_iload_n (pc := 27) X dX12_remember_27 rfl ?_
      refine ao_bipush (pc := 28) X dX12_remember_28 bp_27 ?_
      refine ao_iadd (pc := 30) X dX12_remember_30 ?_
      refine ao_iald (pc := 31) X dX12_remember_31 sa_138 ?_
      refine ao_iast (pc := 32) X dX12_remember_32 sa_138 ?_
      refine ao_lt (fun m5 => ?_)
      refine ao_iinc (pc := 33) (k := 2) (v := p2 + (1 : Int32)) (lv' := [(2, .int (p2 + (1 : Int32))), (0, .ref (eAd E 122)), (1, .ref (eAd E 123))]) X dX12_remember_33 rfl (ii_ic ic_1) (by decide) rfl ?_
      refine ao_goto (pc := 36) (tgt := 11) X dX12_remember_36 (by decide) ?_
      refine ao_sub [1, 2, 0] rfl ?_
      exact ih (p2 + (1 : Int32)) m5
def fX12_remember_122_123 (μ : Mem) : Option (Unit × Mem) :=
  if (gI μ 122 29) = (12 : Int32) then (fX12_remember_122_123_b11 FU (0 : Int32) μ)
  else fX12_remember_122_123_b49 μ
set_option maxRecDepth 100000 in
set_option maxHeartbeats 4000000 in
theorem mX12_remember_122_123 {E : En} {l : Launch} (hI : Inj E) (μ : Mem) : MtV E l yX12_remember cX12_remember 3 (none) 2 [.ref (eAd E 122), .ref (eAd E 123)] μ (fX12_remember_122_123 μ) := by
  refine mtV_of (own := RX12) [(0, .ref (eAd E 122)), (1, .ref (eAd E 123))] hI rfl (by decide) (Nat.le_of_ble_eq_true rfl) (Nat.le_of_ble_eq_true rfl) rfl (fun Z hl0 X hr => ?_)
  unfold fX12_remember_122_123
  refine ao_aload_n (pc := 0) X dX12_remember_0 rfl ?_
  refine ao_getI (pc := 1) X dX12_remember_1 fl_RX12_175 sf_122_29 ?_
  refine ao_bipush (pc := 4) X dX12_remember_4 bp_12 ?_
  refine ao_icmp_ne (pc := 6) (tgt := 49) X dX12_remember_6 (by decide) (fun _ => ?_) (fun _ => ?_)
  · refine ao_sub [0, 1] rfl ?_
    exact bX12_remember_122_123_49 hI hl0 X hr μ
  · refine ao_iconst (pc := 9) X dX12_remember_9 ic_0 ?_
    refine ao_istore_n (pc := 10) (lv' := [(2, .int (0 : Int32)), (0, .ref (eAd E 122)), (1, .ref (eAd E 123))]) X dX12_remember_10 rfl (by decide) rfl ?_
    refine ao_sub [1, 2, 0] rfl ?_
    exact bX12_remember_122_123_11 hI hl0 X hr FU (0 : Int32) μ
def fX12_lay__122 (v1 : Int32) (v2 : Int32) (μ : Mem) : Option (Int32 × Mem) :=
  lt (sI μ 122 17 (0 : Int32)) fun m1 =>
  bnd (fX12_refusesLay_122 v1 v2 m1) fun r2 m3 =>
  if 0 ≤ r2 then (bnd (fX12_remember_122_123 m3) fun r4 m5 =>
    bnd (fX12_goLay_123 v1 v2 m5) fun r6 m7 =>
    gd (inb ((6 : Int32) + v1) 27) (some ((gI m7 123 (ix ((6 : Int32) + v1))), m7)))
  else some (r2, m3)
set_option maxRecDepth 100000 in
set_option maxHeartbeats 4000000 in
theorem mX12_lay__122 {E : En} {l : Launch} (hI : Inj E) (v1 : Int32) (v2 : Int32) (μ : Mem) : MtI E l yX12_lay_ cX12_lay_ 4 (some .int) 4 [.ref (eAd E 122), .int v1, .int v2] μ (fX12_lay__122 v1 v2 μ) := by
  refine mtI_of (own := RX12) [(0, .ref (eAd E 122)), (1, .int v1), (2, .int v2)] hI rfl (by decide) (Nat.le_of_ble_eq_true rfl) (Nat.le_of_ble_eq_true rfl) rfl (fun Z hl0 X hr => ?_)
  unfold fX12_lay__122
  refine ao_aload_n (pc := 0) X dX12_lay__0 rfl ?_
  refine ao_iconst (pc := 1) X dX12_lay__1 ic_0 ?_
  refine ao_putI (pc := 2) X dX12_lay__2 fp_RX12_95 sf_122_17 ?_
  refine ao_lt (fun m1 => ?_)
  refine ao_aload_n (pc := 5) X dX12_lay__5 rfl ?_
  refine ao_iload_n (pc := 6) X dX12_lay__6 rfl ?_
  refine ao_iload_n (pc := 7) X dX12_lay__7 rfl ?_
  refine ao_callVI (pc := 8) (As := [.int v1, .int v2]) (st := []) X hl0 dX12_lay__8 yv_X12_refusesLay so_122 ml_RX12_246 (mX12_refusesLay_122 hI v1 v2 m1) (Nat.le_of_ble_eq_true rfl) rfl rfl (Nat.le_of_ble_eq_true rfl) (fun r2 m3 => ?_)
  refine ao_istore_n (pc := 11) (lv' := [(3, .int r2), (0, .ref (eAd E 122)), (1, .int v1), (2, .int v2)]) X dX12_lay__11 rfl (by decide) rfl ?_
  refine ao_iload_n (pc := 12) X dX12_lay__12 rfl ?_
  refine ao_if_ge (pc := 13) (tgt := 18) X dX12_lay__13 (by decide) (fun _ => ?_) (fun _ => ?_)
  · refine ao_aload_n (pc := 18) X dX12_lay__18 rfl ?_
    refine ao_aload_n (pc := 19) X dX12_lay__19 rfl ?_
    refine ao_getR (pc := 20) X dX12_lay__20 fl_RX12_9 sf_122_0 ?_
    refine ao_callVV (pc := 23) (As := [.ref (eAd E 123)]) (st := []) X hl0 dX12_lay__23 yv_X12_remember so_122 ml_RX12_249 (mX12_remember_122_123 hI m3) (Nat.le_of_ble_eq_true rfl) rfl rfl (Nat.le_of_ble_eq_true rfl) (fun r4 m5 => ?_)
    refine ao_aload_n (pc := 26) X dX12_lay__26 rfl ?_
    refine ao_getR (pc := 27) X dX12_lay__27 fl_RX12_9 sf_122_0 ?_
    refine ao_iload_n (pc := 30) X dX12_lay__30 rfl ?_
    refine ao_iload_n (pc := 31) X dX12_lay__31 rfl ?_
    refine ao_callSV (pc := 32) (As := [.ref (eAd E 123), .int v1, .int v2]) (st := []) X hl0 dX12_lay__32 yv_X12_goLay ml_RX12_253 (mX12_goLay_123 hI v1 v2 m5) (Nat.le_of_ble_eq_true rfl) rfl rfl (Nat.le_of_ble_eq_true rfl) (fun r6 m7 => ?_)
    refine ao_aload_n (pc := 35) X dX12_lay__35 rfl ?_
    refine ao_getR (pc := 36) X dX12_lay__36 fl_RX12_9 sf_122_0 ?_
    refine ao_bipush (pc := 39) X dX12_lay__39 bp_6 ?_
    refine ao_iload_n (pc := 41) X dX12_lay__41 rfl ?_
    refine ao_iadd (pc := 42) X dX12_lay__42 ?_
    refine ao_iald (pc := 43) X dX12_lay__43 sa_123 ?_
    exact ao_iret (pc := 44) X hr dX12_lay__44
  · refine ao_iload_n (pc := 16) X dX12_lay__16 rfl ?_
    exact ao_iret (pc := 17) X hr dX12_lay__17
def fX8_joined (v0 : Int32) (v1 : Int32) (v2 : Int32) (μ : Mem) : Option (Int32 × Mem) :=
  if v0 = (0 : Int32) then (if v2 ≤ v1 then (some ((0 : Int32), μ))
    else some ((1 : Int32), μ))
  else if v0 = (1 : Int32) then (if v1 ≤ v2 then (some ((0 : Int32), μ))
    else some ((1 : Int32), μ))
  else if v0 = (2 : Int32) then (if v1 = v2 then (some ((1 : Int32), μ))
    else some ((0 : Int32), μ))
  else if v0 = (3 : Int32) then (some ((v1 + v2), μ))
  else if v0 = (4 : Int32) then (some ((v1 - v2), μ))
  else if v0 = (5 : Int32) then (some ((v1 * v2), μ))
  else if v0 = (6 : Int32) then (if v2 = 0 then (some ((0 : Int32), μ))
    else gd (!(v2 == 0)) (some ((v1 / v2), μ)))
  else some ((0 : Int32), μ)
set_option maxRecDepth 100000 in
set_option maxHeartbeats 4000000 in
theorem mX8_joined {E : En} {l : Launch} (hI : Inj E) (v0 : Int32) (v1 : Int32) (v2 : Int32) (μ : Mem) : MtI E l yX8_joined cX8_joined 3 (some .int) 1 [.int v0, .int v1, .int v2] μ (fX8_joined v0 v1 v2 μ) := by
  refine mtI_of (own := RX8) [(0, .int v0), (1, .int v1), (2, .int v2)] hI rfl (by decide) (Nat.le_of_ble_eq_true rfl) (Nat.le_of_ble_eq_true rfl) rfl (fun Z hl0 X hr => ?_)
  unfold fX8_joined
  refine ao_iload_n (pc := 0) X dX8_joined_0 rfl ?_
  refine ao_ite (cd := v0 = (0 : Int32)) (fun c => ao_tabIn (pc := 1) (k := (0 : Int32)) (tgt := 44) X dX8_joined_1 c (by decide) (by decide) rfl (by decide) ?_) (fun n1 => ?_)
  · refine ao_iload_n (pc := 44) X dX8_joined_44 rfl ?_
    refine ao_iload_n (pc := 45) X dX8_joined_45 rfl ?_
    refine ao_icmp_ge (pc := 46) (tgt := 53) X dX8_joined_46 (by decide) (fun _ => ?_) (fun _ => ?_)
    · refine ao_iconst (pc := 53) X dX8_joined_53 ic_0 ?_
      exact ao_iret (pc := 54) X hr dX8_joined_54
    · refine ao_iconst (pc := 49) X dX8_joined_49 ic_1 ?_
      refine ao_goto (pc := 50) (tgt := 54) X dX8_joined_50 (by decide) ?_
      exact ao_iret (pc := 54) X hr dX8_joined_54
  refine ao_ite (cd := v0 = (1 : Int32)) (fun c => ao_tabIn (pc := 1) (k := (1 : Int32)) (tgt := 55) X dX8_joined_1 c (by decide) (by decide) rfl (by decide) ?_) (fun n2 => ?_)
  · refine ao_iload_n (pc := 55) X dX8_joined_55 rfl ?_
    refine ao_iload_n (pc := 56) X dX8_joined_56 rfl ?_
    refine ao_icmp_le (pc := 57) (tgt := 64) X dX8_joined_57 (by decide) (fun _ => ?_) (fun _ => ?_)
    · refine ao_iconst (pc := 64) X dX8_joined_64 ic_0 ?_
      exact ao_iret (pc := 65) X hr dX8_joined_65
    · refine ao_iconst (pc := 60) X dX8_joined_60 ic_1 ?_
      refine ao_goto (pc := 61) (tgt := 65) X dX8_joined_61 (by decide) ?_
      exact ao_iret (pc := 65) X hr dX8_joined_65
  refine ao_ite (cd := v0 = (2 : Int32)) (fun c => ao_tabIn (pc := 1) (k := (2 : Int32)) (tgt := 66) X dX8_joined_1 c (by decide) (by decide) rfl (by decide) ?_) (fun n3 => ?_)
  · refine ao_iload_n (pc := 66) X dX8_joined_66 rfl ?_
    refine ao_iload_n (pc := 67) X dX8_joined_67 rfl ?_
    refine ao_icmp_ne (pc := 68) (tgt := 75) X dX8_joined_68 (by decide) (fun _ => ?_) (fun _ => ?_)
    · refine ao_iconst (pc := 75) X dX8_joined_75 ic_0 ?_
      exact ao_iret (pc := 76) X hr dX8_joined_76
    · refine ao_iconst (pc := 71) X dX8_joined_71 ic_1 ?_
      refine ao_goto (pc := 72) (tgt := 76) X dX8_joined_72 (by decide) ?_
      exact ao_iret (pc := 76) X hr dX8_joined_76
  refine ao_ite (cd := v0 = (3 : Int32)) (fun c => ao_tabIn (pc := 1) (k := (3 : Int32)) (tgt := 77) X dX8_joined_1 c (by decide) (by decide) rfl (by decide) ?_) (fun n4 => ?_)
  · refine ao_iload_n (pc := 77) X dX8_joined_77 rfl ?_
    refine ao_iload_n (pc := 78) X dX8_joined_78 rfl ?_
    refine ao_iadd (pc := 79) X dX8_joined_79 ?_
    exact ao_iret (pc := 80) X hr dX8_joined_80
  refine ao_ite (cd := v0 = (4 : Int32)) (fun c => ao_tabIn (pc := 1) (k := (4 : Int32)) (tgt := 81) X dX8_joined_1 c (by decide) (by decide) rfl (by decide) ?_) (fun n5 => ?_)
  · refine ao_iload_n (pc := 81) X dX8_joined_81 rfl ?_
    refine ao_iload_n (pc := 82) X dX8_joined_82 rfl ?_
    refine ao_isub (pc := 83) X dX8_joined_83 ?_
    exact ao_iret (pc := 84) X hr dX8_joined_84
  refine ao_ite (cd := v0 = (5 : Int32)) (fun c => ao_tabIn (pc := 1) (k := (5 : Int32)) (tgt := 85) X dX8_joined_1 c (by decide) (by decide) rfl (by decide) ?_) (fun n6 => ?_)
  · refine ao_iload_n (pc := 85) X dX8_joined_85 rfl ?_
    refine ao_iload_n (pc := 86) X dX8_joined_86 rfl ?_
    refine ao_imul (pc := 87) X dX8_joined_87 ?_
    exact ao_iret (pc := 88) X hr dX8_joined_88
  refine ao_ite (cd := v0 = (6 : Int32)) (fun c => ao_tabIn (pc := 1) (k := (6 : Int32)) (tgt := 89) X dX8_joined_1 c (by decide) (by decide) rfl (by decide) ?_) (fun n7 => ?_)
  · refine ao_iload_n (pc := 89) X dX8_joined_89 rfl ?_
    refine ao_if_ne (pc := 90) (tgt := 97) X dX8_joined_90 (by decide) (fun _ => ?_) (fun _ => ?_)
    · refine ao_iload_n (pc := 97) X dX8_joined_97 rfl ?_
      refine ao_iload_n (pc := 98) X dX8_joined_98 rfl ?_
      refine ao_idiv (pc := 99) X dX8_joined_99 ?_
      exact ao_iret (pc := 100) X hr dX8_joined_100
    · refine ao_iconst (pc := 93) X dX8_joined_93 ic_0 ?_
      refine ao_goto (pc := 94) (tgt := 100) X dX8_joined_94 (by decide) ?_
      exact ao_iret (pc := 100) X hr dX8_joined_100
  refine ao_tabOut (pc := 1) (tgt := 101) X dX8_joined_1 (by have := lv_neT (a := 0) n1 (by decide); have := lv_neT (a := 1) n2 (by decide); have := lv_neT (a := 2) n3 (by decide); have := lv_neT (a := 3) n4 (by decide); have := lv_neT (a := 4) n5 (by decide); have := lv_neT (a := 5) n6 (by decide); have := lv_neT (a := 6) n7 (by decide); omega) (by decide) ?_
  refine ao_iconst (pc := 101) X dX8_joined_101 ic_0 ?_
  exact ao_iret (pc := 102) X hr dX8_joined_102
def fX8_worth_19_b245 (μ : Mem) : Option (Int32 × Mem) :=
  gd (inb (0 : Int32) 40) (some ((gI μ 23 (ix (0 : Int32))), μ))
set_option maxRecDepth 100000 in
set_option maxHeartbeats 4000000 in
theorem bX8_worth_19_245 {E : En} {l : Launch} {Z : Zt} (hI : Inj E) (hl0 : lZ l Z) (X : Cx E Z cX8_worth RX8 12 2) (hr : rtOf Z = some .int) (μ : Mem) : AO E Z 12 (QI E Z) 245 [(0, .ref (eAd E 19))] [] μ (fX8_worth_19_b245 μ) := by
  unfold fX8_worth_19_b245
  refine ao_aload_n (pc := 245) X dX8_worth_245 rfl ?_
  refine ao_getR (pc := 246) X dX8_worth_246 fl_RX8_35 sf_19_5 ?_
  refine ao_iconst (pc := 249) X dX8_worth_249 ic_0 ?_
  refine ao_iald (pc := 250) X dX8_worth_250 sa_23 ?_
  exact ao_iret (pc := 251) X hr dX8_worth_251
def fX8_worth_19_b192 (k71 : Int32 → Int32 → Mem → Option (Int32 × Mem)) (p7 : Int32) (p8 : Int32) (p9 : Int32) (μ : Mem) : Option (Int32 × Mem) :=
  if p7 ≤ (1 : Int32) then (k71 p7 (p8 + (1 : Int32)) μ)
  else lt (p9 - (2000 : Int32)) fun x19 =>
    gd (inb (p7 + (-1 : Int32) - (1 : Int32)) 40) (gd (inb (p7 + (-1 : Int32)) 40) (bnd (fX8_joined x19 (gI μ 23 (ix (p7 + (-1 : Int32) - (1 : Int32)))) (gI μ 23 (ix (p7 + (-1 : Int32)))) μ) fun r20 m21 =>
    gd (inb (p7 + (-1 : Int32) - (1 : Int32)) 40) (lt (sI m21 23 (ix (p7 + (-1 : Int32) - (1 : Int32))) r20) fun m22 =>
    k71 (p7 + (-1 : Int32)) (p8 + (1 : Int32)) m22)))
set_option maxRecDepth 100000 in
set_option maxHeartbeats 4000000 in
theorem bX8_worth_19_192 {E : En} {l : Launch} {Z : Zt} (hI : Inj E) (hl0 : lZ l Z) (X : Cx E Z cX8_worth RX8 12 2) (hr : rtOf Z = some .int) {k71 : Int32 → Int32 → Mem → Option (Int32 × Mem)} (hk71 : ∀ (p7 : Int32) (p8 : Int32) (m : Mem), AO E Z 12 (QI E Z) 71 [(0, .ref (eAd E 19)), (7, .int p7), (8, .int p8)] [] m (k71 p7 p8 m)) (p7 : Int32) (p8 : Int32) (p9 : Int32) (μ : Mem) : AO E Z 12 (QI E Z) 192 [(0, .ref (eAd E 19)), (7, .int p7), (8, .int p8), (9, .int p9)] [] μ (fX8_worth_19_b192 k71 p7 p8 p9 μ) := by
  unfold fX8_worth_19_b192
  refine ao_iload (pc := 192) X dX8_worth_192 rfl ?_
  refine ao_iconst (pc := 194) X dX8_worth_194 ic_1 ?_
  refine ao_icmp_le (pc := 195) (tgt := 239) X dX8_worth_195 (by decide) (fun _ => ?_) (fun _ => ?_)
  · refine ao_iinc (pc := 239) (k := 2) (v := p8 + (1 : Int32)) (lv' := [(8, .int (p8 + (1 : Int32))), (0, .ref (eAd E 19)), (7, .int p7), (9, .int p9)]) X dX8_worth_239 rfl (ii_ic ic_1) (by decide) rfl ?_
    refine ao_goto (pc := 242) (tgt := 71) X dX8_worth_242 (by decide) ?_
    refine ao_sub [1, 2, 0] rfl ?_
    exact hk71 p7 (p8 + (1 : Int32)) μ
  · refine ao_iinc (pc := 198) (k := 1) (v := p7 + (-1 : Int32)) (lv' := [(7, .int (p7 + (-1 : Int32))), (0, .ref (eAd E 19)), (8, .int p8), (9, .int p9)]) X dX8_worth_198 rfl (ii_ic ic_m1) (by decide) rfl ?_
    refine ao_iload (pc := 201) X dX8_worth_201 rfl ?_
    refine ao_sipush (pc := 203) X dX8_worth_203 sp_2000 ?_
    refine ao_isub (pc := 206) X dX8_worth_206 ?_
    refine ao_ltI (fun x19 => ?_)
    refine ao_istore (pc := 207) (lv' := [(11, .int x19), (7, .int (p7 + (-1 : Int32))), (0, .ref (eAd E 19)), (8, .int p8), (9, .int p9)]) X dX8_worth_207 (by decide) rfl ?_
    refine ao_aload_n (pc := 209) X dX8_worth_209 rfl ?_
    refine ao_getR (pc := 210) X dX8_worth_210 fl_RX8_35 sf_19_5 ?_
    refine ao_iload (pc := 213) X dX8_worth_213 rfl ?_
    refine ao_iconst (pc := 215) X dX8_worth_215 ic_1 ?_
    refine ao_isub (pc := 216) X dX8_worth_216 ?_
    refine ao_iload (pc := 217) X dX8_worth_217 rfl ?_
    refine ao_aload_n (pc := 219) X dX8_worth_219 rfl ?_
    refine ao_getR (pc := 220) X dX8_worth_220 fl_RX8_35 sf_19_5 ?_
    refine ao_iload (pc := 223) X dX8_worth_223 rfl ?_
    refine ao_iconst (pc := 225) X dX8_worth_225 ic_1 ?_
    refine ao_isub (pc := 226) X dX8_worth_226 ?_
    refine ao_iald (pc := 227) X dX8_worth_227 sa_23 ?_
    refine ao_aload_n (pc := 228) X dX8_worth_228 rfl ?_
    refine ao_getR (pc := 229) X dX8_worth_229 fl_RX8_35 sf_19_5 ?_
    refine ao_iload (pc := 232) X dX8_worth_232 rfl ?_
    refine ao_iald (pc := 234) X dX8_worth_234 sa_23 ?_
    refine ao_callSI (pc := 235) (As := [.int x19, .int (gI μ 23 (ix (p7 + (-1 : Int32) - (1 : Int32)))), .int (gI μ 23 (ix (p7 + (-1 : Int32))))]) (st := [.int (p7 + (-1 : Int32) - (1 : Int32)), .ref (eAd E 23)]) X hl0 dX8_worth_235 yv_X8_joined ml_RX8_95 (mX8_joined hI x19 (gI μ 23 (ix (p7 + (-1 : Int32) - (1 : Int32)))) (gI μ 23 (ix (p7 + (-1 : Int32)))) μ) (Nat.le_of_ble_eq_true rfl) rfl rfl (Nat.le_of_ble_eq_true rfl) (fun r20 m21 => ?_)
    refine ao_iast (pc := 238) X dX8_worth_238 sa_23 ?_
    refine ao_lt (fun m22 => ?_)
    refine ao_iinc (pc := 239) (k := 3) (v := p8 + (1 : Int32)) (lv' := [(8, .int (p8 + (1 : Int32))), (11, .int x19), (7, .int (p7 + (-1 : Int32))), (0, .ref (eAd E 19)), (9, .int p9)]) X dX8_worth_239 rfl (ii_ic ic_1) (by decide) rfl ?_
    refine ao_goto (pc := 242) (tgt := 71) X dX8_worth_242 (by decide) ?_
    refine ao_sub [3, 2, 0] rfl ?_
    exact hk71 (p7 + (-1 : Int32)) (p8 + (1 : Int32)) m22
def fX8_worth_19_b71 : Nat → Int32 → Int32 → Mem → Option (Int32 × Mem)
  | 0, _, _, _ => none
  | n + 1, p7, p8, μ =>
  if (gI μ 19 1) ≤ p8 then (fX8_worth_19_b245 μ)
  else if (40 : Int32) ≤ p7 then (fX8_worth_19_b245 μ)
    else gd (inb p8 40) (lt (gI μ 20 (ix p8)) fun x7 =>
      lt (x7 - (1000 : Int32)) fun x8 =>
      if (1000 : Int32) ≤ x7 then (if (6 : Int32) ≤ x8 then (if x7 = (2007 : Int32) then (if p7 ≤ 0 then (fX8_worth_19_b192 (fun p7 p8 m => fX8_worth_19_b71 n p7 p8 m) p7 p8 x7 μ)
            else gd (inb (p7 - (1 : Int32)) 40) (gd (inb (p7 - (1 : Int32)) 40) (lt (sI μ 23 (ix (p7 - (1 : Int32))) (-(gI μ 23 (ix (p7 - (1 : Int32)))))) fun m9 =>
              fX8_worth_19_b71 n p7 (p8 + (1 : Int32)) m9)))
          else fX8_worth_19_b192 (fun p7 p8 m => fX8_worth_19_b71 n p7 p8 m) p7 p8 x7 μ)
        else gd (inb x8 6) (gd (inb p7 40) (lt (sI μ 23 (ix p7) (gI μ 22 (ix x8))) fun m11 =>
          fX8_worth_19_b71 n (p7 + (1 : Int32)) (p8 + (1 : Int32)) m11)))
      else gd (inb p7 40) (lt (sI μ 23 (ix p7) x7) fun m14 =>
        fX8_worth_19_b71 n (p7 + (1 : Int32)) (p8 + (1 : Int32)) m14))
set_option maxRecDepth 100000 in
set_option maxHeartbeats 4000000 in
theorem bX8_worth_19_71 {E : En} {l : Launch} {Z : Zt} (hI : Inj E) (hl0 : lZ l Z) (X : Cx E Z cX8_worth RX8 12 2) (hr : rtOf Z = some .int) : ∀ (n : Nat) (p7 : Int32) (p8 : Int32) (μ : Mem), AO E Z 12 (QI E Z) 71 [(0, .ref (eAd E 19)), (7, .int p7), (8, .int p8)] [] μ (fX8_worth_19_b71 n p7 p8 μ) := by
  intro n
  induction n with
  | zero =>
    intros
    exact ao_none
  | succ n ih =>
    intro p7 p8 μ
    rw [fX8_worth_19_b71]
    refine ao_iload (pc := 71) X dX8_worth_71 rfl ?_
    refine ao_aload_n (pc := 73) X dX8_worth_73 rfl ?_
    refine ao_getI (pc := 74) X dX8_worth_74 fl_RX8_15 sf_19_1 ?_
    refine ao_icmp_ge (pc := 77) (tgt := 245) X dX8_worth_77 (by decide) (fun _ => ?_) (fun _ => ?_)
    · refine ao_sub [0] rfl ?_
      exact bX8_worth_19_245 hI hl0 X hr μ
    · refine ao_iload (pc := 80) X dX8_worth_80 rfl ?_
      refine ao_bipush (pc := 82) X dX8_worth_82 bp_40 ?_
      refine ao_icmp_ge (pc := 84) (tgt := 245) X dX8_worth_84 (by decide) (fun _ => ?_) (fun _ => ?_)
      · refine ao_sub [0] rfl ?_
        exact bX8_worth_19_245 hI hl0 X hr μ
      · refine ao_aload_n (pc := 87) X dX8_worth_87 rfl ?_
        refine ao_getR (pc := 88) X dX8_worth_88 fl_RX8_11 sf_19_0 ?_
        refine ao_iload (pc := 91) X dX8_worth_91 rfl ?_
        refine ao_iald (pc := 93) X dX8_worth_93 sa_20 ?_
        refine ao_ltI (fun x7 => ?_)
        refine ao_istore (pc := 94) (lv' := [(9, .int x7), (0, .ref (eAd E 19)), (7, .int p7), (8, .int p8)]) X dX8_worth_94 (by decide) rfl ?_
        refine ao_iload (pc := 96) X dX8_worth_96 rfl ?_
        refine ao_sipush (pc := 98) X dX8_worth_98 sp_1000 ?_
        refine ao_isub (pc := 101) X dX8_worth_101 ?_
        refine ao_ltI (fun x8 => ?_)
        refine ao_istore (pc := 102) (lv' := [(10, .int x8), (9, .int x7), (0, .ref (eAd E 19)), (7, .int p7), (8, .int p8)]) X dX8_worth_102 (by decide) rfl ?_
        refine ao_iload (pc := 104) X dX8_worth_104 rfl ?_
        refine ao_sipush (pc := 106) X dX8_worth_106 sp_1000 ?_
        refine ao_icmp_ge (pc := 109) (tgt := 127) X dX8_worth_109 (by decide) (fun _ => ?_) (fun _ => ?_)
        · refine ao_iload (pc := 127) X dX8_worth_127 rfl ?_
          refine ao_aload_n (pc := 129) X dX8_worth_129 rfl ?_
          refine ao_getR (pc := 130) X dX8_worth_130 fl_RX8_32 sf_19_4 ?_
          refine ao_alen (pc := 133) (v := (6 : Int32)) X dX8_worth_133 sa_22 (by decide) ?_
          refine ao_icmp_ge (pc := 134) (tgt := 157) X dX8_worth_134 (by decide) (fun _ => ?_) (fun _ => ?_)
          · refine ao_iload (pc := 157) X dX8_worth_157 rfl ?_
            refine ao_sipush (pc := 159) X dX8_worth_159 sp_2007 ?_
            refine ao_icmp_ne (pc := 162) (tgt := 192) X dX8_worth_162 (by decide) (fun _ => ?_) (fun _ => ?_)
            · refine ao_sub [2, 3, 4, 1] rfl ?_
              exact bX8_worth_19_192 hI hl0 X hr ih p7 p8 x7 μ
            · refine ao_iload (pc := 165) X dX8_worth_165 rfl ?_
              refine ao_if_le (pc := 167) (tgt := 192) X dX8_worth_167 (by decide) (fun _ => ?_) (fun _ => ?_)
              · refine ao_sub [2, 3, 4, 1] rfl ?_
                exact bX8_worth_19_192 hI hl0 X hr ih p7 p8 x7 μ
              · refine ao_aload_n (pc := 170) X dX8_worth_170 rfl ?_
                refine ao_getR (pc := 171) X dX8_worth_171 fl_RX8_35 sf_19_5 ?_
                refine ao_iload (pc := 174) X dX8_worth_174 rfl ?_
                refine ao_iconst (pc := 176) X dX8_worth_176 ic_1 ?_
                refine ao_isub (pc := 177) X dX8_worth_177 ?_
                refine ao_aload_n (pc := 178) X dX8_worth_178 rfl ?_
                refine ao_getR (pc := 179) X dX8_worth_179 fl_RX8_35 sf_19_5 ?_
                refine ao_iload (pc := 182) X dX8_worth_182 rfl ?_
                refine ao_iconst (pc := 184) X dX8_worth_184 ic_1 ?_
                refine ao_isub (pc := 185) X dX8_worth_185 ?_
                refine ao_iald (pc := 186) X dX8_worth_186 sa_23 ?_
                refine ao_ineg (pc := 187) X dX8_worth_187 ?_
                refine ao_iast (pc := 188) X dX8_worth_188 sa_23 ?_
                refine ao_lt (fun m9 => ?_)
                refine ao_goto (pc := 189) (tgt := 239) X dX8_worth_189 (by decide) ?_
                refine ao_iinc (pc := 239) (k := 4) (v := p8 + (1 : Int32)) (lv' := [(8, .int (p8 + (1 : Int32))), (10, .int x8), (9, .int x7), (0, .ref (eAd E 19)), (7, .int p7)]) X dX8_worth_239 rfl (ii_ic ic_1) (by decide) rfl ?_
                refine ao_goto (pc := 242) (tgt := 71) X dX8_worth_242 (by decide) ?_
                refine ao_sub [3, 4, 0] rfl ?_
                exact ih p7 (p8 + (1 : Int32)) m9
          · refine ao_aload_n (pc := 137) X dX8_worth_137 rfl ?_
            refine ao_getR (pc := 138) X dX8_worth_138 fl_RX8_35 sf_19_5 ?_
            refine ao_iload (pc := 141) X dX8_worth_141 rfl ?_
            refine ao_aload_n (pc := 143) X dX8_worth_143 rfl ?_
            refine ao_getR (pc := 144) X dX8_worth_144 fl_RX8_32 sf_19_4 ?_
            refine ao_iload (pc := 147) X dX8_worth_147 rfl ?_
            refine ao_iald (pc := 149) X dX8_worth_149 sa_22 ?_
            refine ao_iast (pc := 150) X dX8_worth_150 sa_23 ?_
            refine ao_lt (fun m11 => ?_)
            refine ao_iinc (pc := 151) (k := 3) (v := p7 + (1 : Int32)) (lv' := [(7, .int (p7 + (1 : Int32))), (10, .int x8), (9, .int x7), (0, .ref (eAd E 19)), (8, .int p8)]) X dX8_worth_151 rfl (ii_ic ic_1) (by decide) rfl ?_
            refine ao_goto (pc := 154) (tgt := 239) X dX8_worth_154 (by decide) ?_
            refine ao_iinc (pc := 239) (k := 4) (v := p8 + (1 : Int32)) (lv' := [(8, .int (p8 + (1 : Int32))), (7, .int (p7 + (1 : Int32))), (10, .int x8), (9, .int x7), (0, .ref (eAd E 19))]) X dX8_worth_239 rfl (ii_ic ic_1) (by decide) rfl ?_
            refine ao_goto (pc := 242) (tgt := 71) X dX8_worth_242 (by decide) ?_
            refine ao_sub [4, 1, 0] rfl ?_
            exact ih (p7 + (1 : Int32)) (p8 + (1 : Int32)) m11
        · refine ao_aload_n (pc := 112) X dX8_worth_112 rfl ?_
          refine ao_getR (pc := 113) X dX8_worth_113 fl_RX8_35 sf_19_5 ?_
          refine ao_iload (pc := 116) X dX8_worth_116 rfl ?_
          refine ao_iload (pc := 118) X dX8_worth_118 rfl ?_
          refine ao_iast (pc := 120) X dX8_worth_120 sa_23 ?_
          refine ao_lt (fun m14 => ?_)
          refine ao_iinc (pc := 121) (k := 3) (v := p7 + (1 : Int32)) (lv' := [(7, .int (p7 + (1 : Int32))), (10, .int x8), (9, .int x7), (0, .ref (eAd E 19)), (8, .int p8)]) X dX8_worth_121 rfl (ii_ic ic_1) (by decide) rfl ?_
          refine ao_goto (pc := 124) (tgt := 239) X dX8_worth_124 (by decide) ?_
          refine ao_iinc (pc := 239) (k := 4) (v := p8 + (1 : Int32)) (lv' := [(8, .int (p8 + (1 : Int32))), (7, .int (p7 + (1 : Int32))), (10, .int x8), (9, .int x7), (0, .ref (eAd E 19))]) X dX8_worth_239 rfl (ii_ic ic_1) (by decide) rfl ?_
          refine ao_goto (pc := 242) (tgt := 71) X dX8_worth_242 (by decide) ?_
          refine ao_sub [4, 1, 0] rfl ?_
          exact ih (p7 + (1 : Int32)) (p8 + (1 : Int32)) m14
def fX8_worth_19 (v1 : Int32) (v2 : Int32) (v3 : Int32) (v4 : Int32) (v5 : Int32) (v6 : Int32) (μ : Mem) : Option (Int32 × Mem) :=
  if (gI μ 19 1) = 0 then (some ((((v1 - v2) - (v3 * (5 : Int32))) - (v4 * (4 : Int32))), μ))
  else gd (inb (0 : Int32) 6) (lt (sI μ 22 (ix (0 : Int32)) v1) fun m1 =>
    gd (inb (1 : Int32) 6) (lt (sI m1 22 (ix (1 : Int32)) v2) fun m2 =>
    gd (inb (2 : Int32) 6) (lt (sI m2 22 (ix (2 : Int32)) v3) fun m3 =>
    gd (inb (3 : Int32) 6) (lt (sI m3 22 (ix (3 : Int32)) v4) fun m4 =>
    gd (inb (4 : Int32) 6) (lt (sI m4 22 (ix (4 : Int32)) v5) fun m5 =>
    gd (inb (5 : Int32) 6) (lt (sI m5 22 (ix (5 : Int32)) v6) fun m6 =>
    fX8_worth_19_b71 FU (0 : Int32) (0 : Int32) m6))))))
set_option maxRecDepth 100000 in
set_option maxHeartbeats 4000000 in
theorem mX8_worth_19 {E : En} {l : Launch} (hI : Inj E) (v1 : Int32) (v2 : Int32) (v3 : Int32) (v4 : Int32) (v5 : Int32) (v6 : Int32) (μ : Mem) : MtI E l yX8_worth cX8_worth 12 (some .int) 2 [.ref (eAd E 19), .int v1, .int v2, .int v3, .int v4, .int v5, .int v6] μ (fX8_worth_19 v1 v2 v3 v4 v5 v6 μ) := by
  refine mtI_of (own := RX8) [(0, .ref (eAd E 19)), (1, .int v1), (2, .int v2), (3, .int v3), (4, .int v4), (5, .int v5), (6, .int v6)] hI rfl (by decide) (Nat.le_of_ble_eq_true rfl) (Nat.le_of_ble_eq_true rfl) rfl (fun Z hl0 X hr => ?_)
  unfold fX8_worth_19
  refine ao_aload_n (pc := 0) X dX8_worth_0 rfl ?_
  refine ao_getI (pc := 1) X dX8_worth_1 fl_RX8_15 sf_19_1 ?_
  refine ao_if_ne (pc := 4) (tgt := 20) X dX8_worth_4 (by decide) (fun _ => ?_) (fun _ => ?_)
  · refine ao_aload_n (pc := 20) X dX8_worth_20 rfl ?_
    refine ao_getR (pc := 21) X dX8_worth_21 fl_RX8_32 sf_19_4 ?_
    refine ao_iconst (pc := 24) X dX8_worth_24 ic_0 ?_
    refine ao_iload_n (pc := 25) X dX8_worth_25 rfl ?_
    refine ao_iast (pc := 26) X dX8_worth_26 sa_22 ?_
    refine ao_lt (fun m1 => ?_)
    refine ao_aload_n (pc := 27) X dX8_worth_27 rfl ?_
    refine ao_getR (pc := 28) X dX8_worth_28 fl_RX8_32 sf_19_4 ?_
    refine ao_iconst (pc := 31) X dX8_worth_31 ic_1 ?_
    refine ao_iload_n (pc := 32) X dX8_worth_32 rfl ?_
    refine ao_iast (pc := 33) X dX8_worth_33 sa_22 ?_
    refine ao_lt (fun m2 => ?_)
    refine ao_aload_n (pc := 34) X dX8_worth_34 rfl ?_
    refine ao_getR (pc := 35) X dX8_worth_35 fl_RX8_32 sf_19_4 ?_
    refine ao_iconst (pc := 38) X dX8_worth_38 ic_2 ?_
    refine ao_iload_n (pc := 39) X dX8_worth_39 rfl ?_
    refine ao_iast (pc := 40) X dX8_worth_40 sa_22 ?_
    refine ao_lt (fun m3 => ?_)
    refine ao_aload_n (pc := 41) X dX8_worth_41 rfl ?_
    refine ao_getR (pc := 42) X dX8_worth_42 fl_RX8_32 sf_19_4 ?_
    refine ao_iconst (pc := 45) X dX8_worth_45 ic_3 ?_
    refine ao_iload (pc := 46) X dX8_worth_46 rfl ?_
    refine ao_iast (pc := 48) X dX8_worth_48 sa_22 ?_
    refine ao_lt (fun m4 => ?_)
    refine ao_aload_n (pc := 49) X dX8_worth_49 rfl ?_
    refine ao_getR (pc := 50) X dX8_worth_50 fl_RX8_32 sf_19_4 ?_
    refine ao_iconst (pc := 53) X dX8_worth_53 ic_4 ?_
    refine ao_iload (pc := 54) X dX8_worth_54 rfl ?_
    refine ao_iast (pc := 56) X dX8_worth_56 sa_22 ?_
    refine ao_lt (fun m5 => ?_)
    refine ao_aload_n (pc := 57) X dX8_worth_57 rfl ?_
    refine ao_getR (pc := 58) X dX8_worth_58 fl_RX8_32 sf_19_4 ?_
    refine ao_iconst (pc := 61) X dX8_worth_61 ic_5 ?_
    refine ao_iload (pc := 62) X dX8_worth_62 rfl ?_
    refine ao_iast (pc := 64) X dX8_worth_64 sa_22 ?_
    refine ao_lt (fun m6 => ?_)
    refine ao_iconst (pc := 65) X dX8_worth_65 ic_0 ?_
    refine ao_istore (pc := 66) (lv' := [(7, .int (0 : Int32)), (0, .ref (eAd E 19)), (1, .int v1), (2, .int v2), (3, .int v3), (4, .int v4), (5, .int v5), (6, .int v6)]) X dX8_worth_66 (by decide) rfl ?_
    refine ao_iconst (pc := 68) X dX8_worth_68 ic_0 ?_
    refine ao_istore (pc := 69) (lv' := [(8, .int (0 : Int32)), (7, .int (0 : Int32)), (0, .ref (eAd E 19)), (1, .int v1), (2, .int v2), (3, .int v3), (4, .int v4), (5, .int v5), (6, .int v6)]) X dX8_worth_69 (by decide) rfl ?_
    refine ao_sub [2, 1, 0] rfl ?_
    exact bX8_worth_19_71 hI hl0 X hr FU (0 : Int32) (0 : Int32) m6
  · refine ao_iload_n (pc := 7) X dX8_worth_7 rfl ?_
    refine ao_iload_n (pc := 8) X dX8_worth_8 rfl ?_
    refine ao_isub (pc := 9) X dX8_worth_9 ?_
    refine ao_iload_n (pc := 10) X dX8_worth_10 rfl ?_
    refine ao_iconst (pc := 11) X dX8_worth_11 ic_5 ?_
    refine ao_imul (pc := 12) X dX8_worth_12 ?_
    refine ao_isub (pc := 13) X dX8_worth_13 ?_
    refine ao_iload (pc := 14) X dX8_worth_14 rfl ?_
    refine ao_iconst (pc := 16) X dX8_worth_16 ic_4 ?_
    refine ao_imul (pc := 17) X dX8_worth_17 ?_
    refine ao_isub (pc := 18) X dX8_worth_18 ?_
    exact ao_iret (pc := 19) X hr dX8_worth_19
def fX4_leftWith_33 (v1 : Int32) (v2 : Int32) (v3 : Int32) (v4 : Int32) (μ : Mem) : Option (Int32 × Mem) :=
  gd (inb v1 6) (gd (inb v1 6) (bnd (fX8_worth_19 (gI μ 6 (ix v1)) v2 v3 (v4 &&& (1 : Int32)) (gI μ 7 (ix v1)) v1 μ) fun r1 m2 =>
  some ((imax (-999 : Int32) (imin (999 : Int32) r1)), m2)))
set_option maxRecDepth 100000 in
set_option maxHeartbeats 4000000 in
theorem mX4_leftWith_33 {E : En} {l : Launch} (hI : Inj E) (v1 : Int32) (v2 : Int32) (v3 : Int32) (v4 : Int32) (μ : Mem) : MtI E l yX4_leftWith cX4_leftWith 6 (some .int) 3 [.ref (eAd E 33), .int v1, .int v2, .int v3, .int v4] μ (fX4_leftWith_33 v1 v2 v3 v4 μ) := by
  refine mtI_of (own := RX4) [(0, .ref (eAd E 33)), (1, .int v1), (2, .int v2), (3, .int v3), (4, .int v4)] hI rfl (by decide) (Nat.le_of_ble_eq_true rfl) (Nat.le_of_ble_eq_true rfl) rfl (fun Z hl0 X hr => ?_)
  unfold fX4_leftWith_33
  refine ao_aload_n (pc := 0) X dX4_leftWith_0 rfl ?_
  refine ao_getR (pc := 1) X dX4_leftWith_1 fl_RX4_39 sf_33_8 ?_
  refine ao_aload_n (pc := 4) X dX4_leftWith_4 rfl ?_
  refine ao_getR (pc := 5) X dX4_leftWith_5 fl_RX4_31 sf_33_6 ?_
  refine ao_getR (pc := 8) X dX4_leftWith_8 fl_RX4_127 sf_5_0 ?_
  refine ao_iload_n (pc := 11) X dX4_leftWith_11 rfl ?_
  refine ao_iald (pc := 12) X dX4_leftWith_12 sa_6 ?_
  refine ao_iload_n (pc := 13) X dX4_leftWith_13 rfl ?_
  refine ao_iload_n (pc := 14) X dX4_leftWith_14 rfl ?_
  refine ao_iload (pc := 15) X dX4_leftWith_15 rfl ?_
  refine ao_iconst (pc := 17) X dX4_leftWith_17 ic_1 ?_
  refine ao_iand (pc := 18) X dX4_leftWith_18 ?_
  refine ao_aload_n (pc := 19) X dX4_leftWith_19 rfl ?_
  refine ao_getR (pc := 20) X dX4_leftWith_20 fl_RX4_31 sf_33_6 ?_
  refine ao_getR (pc := 23) X dX4_leftWith_23 fl_RX4_83 sf_5_1 ?_
  refine ao_iload_n (pc := 26) X dX4_leftWith_26 rfl ?_
  refine ao_iald (pc := 27) X dX4_leftWith_27 sa_7 ?_
  refine ao_iload_n (pc := 28) X dX4_leftWith_28 rfl ?_
  refine ao_callVI (pc := 29) (As := [.int (gI μ 6 (ix v1)), .int v2, .int v3, .int (v4 &&& (1 : Int32)), .int (gI μ 7 (ix v1)), .int v1]) (st := []) X hl0 dX4_leftWith_29 yv_X8_worth so_19 ml_RX4_130 (mX8_worth_19 hI (gI μ 6 (ix v1)) v2 v3 (v4 &&& (1 : Int32)) (gI μ 7 (ix v1)) v1 μ) (Nat.le_of_ble_eq_true rfl) rfl rfl (Nat.le_of_ble_eq_true rfl) (fun r1 m2 => ?_)
  refine ao_istore (pc := 32) (lv' := [(5, .int r1), (0, .ref (eAd E 33)), (1, .int v1), (2, .int v2), (3, .int v3), (4, .int v4)]) X dX4_leftWith_32 (by decide) rfl ?_
  refine ao_sipush (pc := 34) X dX4_leftWith_34 sp_m999 ?_
  refine ao_sipush (pc := 37) X dX4_leftWith_37 sp_999 ?_
  refine ao_iload (pc := 40) X dX4_leftWith_40 rfl ?_
  refine ao_min (pc := 42) X dX4_leftWith_42 ml_RX4_66 MinW_ok (Nat.le_of_ble_eq_true rfl) ?_
  refine ao_max (pc := 45) X dX4_leftWith_45 ml_RX4_72 MaxW_ok (Nat.le_of_ble_eq_true rfl) ?_
  exact ao_iret (pc := 48) X hr dX4_leftWith_48
def fX4_leftNow_33 (v1 : Int32) (μ : Mem) : Option (Int32 × Mem) :=
  gd (inb v1 6) (gd (inb v1 6) (bnd (fX4_leftWith_33 v1 (gI μ 35 (ix v1)) (gI μ 36 (ix v1)) (gI μ 33 4) μ) fun r1 m2 =>
  some (r1, m2)))
set_option maxRecDepth 100000 in
set_option maxHeartbeats 4000000 in
theorem mX4_leftNow_33 {E : En} {l : Launch} (hI : Inj E) (v1 : Int32) (μ : Mem) : MtI E l yX4_leftNow cX4_leftNow 2 (some .int) 4 [.ref (eAd E 33), .int v1] μ (fX4_leftNow_33 v1 μ) := by
  refine mtI_of (own := RX4) [(0, .ref (eAd E 33)), (1, .int v1)] hI rfl (by decide) (Nat.le_of_ble_eq_true rfl) (Nat.le_of_ble_eq_true rfl) rfl (fun Z hl0 X hr => ?_)
  unfold fX4_leftNow_33
  refine ao_aload_n (pc := 0) X dX4_leftNow_0 rfl ?_
  refine ao_iload_n (pc := 1) X dX4_leftNow_1 rfl ?_
  refine ao_aload_n (pc := 2) X dX4_leftNow_2 rfl ?_
  refine ao_getR (pc := 3) X dX4_leftNow_3 fl_RX4_15 sf_33_1 ?_
  refine ao_iload_n (pc := 6) X dX4_leftNow_6 rfl ?_
  refine ao_iald (pc := 7) X dX4_leftNow_7 sa_35 ?_
  refine ao_aload_n (pc := 8) X dX4_leftNow_8 rfl ?_
  refine ao_getR (pc := 9) X dX4_leftNow_9 fl_RX4_18 sf_33_2 ?_
  refine ao_iload_n (pc := 12) X dX4_leftNow_12 rfl ?_
  refine ao_iald (pc := 13) X dX4_leftNow_13 sa_36 ?_
  refine ao_aload_n (pc := 14) X dX4_leftNow_14 rfl ?_
  refine ao_getI (pc := 15) X dX4_leftNow_15 fl_RX4_24 sf_33_4 ?_
  refine ao_callVI (pc := 18) (As := [.int v1, .int (gI μ 35 (ix v1)), .int (gI μ 36 (ix v1)), .int (gI μ 33 4)]) (st := []) X hl0 dX4_leftNow_18 yv_X4_leftWith so_33 ml_RX4_115 (mX4_leftWith_33 hI v1 (gI μ 35 (ix v1)) (gI μ 36 (ix v1)) (gI μ 33 4) μ) (Nat.le_of_ble_eq_true rfl) rfl rfl (Nat.le_of_ble_eq_true rfl) (fun r1 m2 => ?_)
  exact ao_iret (pc := 21) X hr dX4_leftNow_21
def fX4_askOf_33 (v1 : Int32) (μ : Mem) : Option (Int32 × Mem) :=
  bnd (fX4_has_33 v1 μ) fun r1 m2 =>
  if r1 = 0 then (some ((-1 : Int32), m2))
  else bnd (fX4_isSilent_33 v1 m2) fun r3 m4 =>
    if r3 = 0 then (some ((-2 : Int32), m4))
    else gd (inb v1 6) (if (gI m4 8 (ix v1)) = 0 then (bnd (fX4_leftNow_33 v1 m4) fun r5 m6 =>
        gd (inb v1 6) (if r5 ≤ (gI m6 7 (ix v1)) then (gd (inb v1 6) (lt (sI m6 34 (ix v1) (1 : Int32)) fun m7 =>
          gd (inb v1 6) (lt (sI m7 35 (ix v1) (0 : Int32)) fun m8 =>
          lt (sI m8 33 5 ((gI m8 33 5) + (1 : Int32))) fun m9 =>
          some ((1 : Int32), m9))))
        else some ((0 : Int32), m6)))
      else some ((0 : Int32), m4))
set_option maxRecDepth 100000 in
set_option maxHeartbeats 4000000 in
theorem mX4_askOf_33 {E : En} {l : Launch} (hI : Inj E) (v1 : Int32) (μ : Mem) : MtI E l yX4_askOf cX4_askOf 2 (some .int) 5 [.ref (eAd E 33), .int v1] μ (fX4_askOf_33 v1 μ) := by
  refine mtI_of (own := RX4) [(0, .ref (eAd E 33)), (1, .int v1)] hI rfl (by decide) (Nat.le_of_ble_eq_true rfl) (Nat.le_of_ble_eq_true rfl) rfl (fun Z hl0 X hr => ?_)
  unfold fX4_askOf_33
  refine ao_aload_n (pc := 0) X dX4_askOf_0 rfl ?_
  refine ao_iload_n (pc := 1) X dX4_askOf_1 rfl ?_
  refine ao_callVI (pc := 2) (As := [.int v1]) (st := []) X hl0 dX4_askOf_2 yv_X4_has so_33 ml_RX4_59 (mX4_has_33 hI v1 μ) (Nat.le_of_ble_eq_true rfl) rfl rfl (Nat.le_of_ble_eq_true rfl) (fun r1 m2 => ?_)
  refine ao_if_ne (pc := 5) (tgt := 10) X dX4_askOf_5 (by decide) (fun _ => ?_) (fun _ => ?_)
  · refine ao_aload_n (pc := 10) X dX4_askOf_10 rfl ?_
    refine ao_iload_n (pc := 11) X dX4_askOf_11 rfl ?_
    refine ao_callVI (pc := 12) (As := [.int v1]) (st := []) X hl0 dX4_askOf_12 yv_X4_isSilent so_33 ml_RX4_63 (mX4_isSilent_33 hI v1 m2) (Nat.le_of_ble_eq_true rfl) rfl rfl (Nat.le_of_ble_eq_true rfl) (fun r3 m4 => ?_)
    refine ao_if_ne (pc := 15) (tgt := 21) X dX4_askOf_15 (by decide) (fun _ => ?_) (fun _ => ?_)
    · refine ao_aload_n (pc := 21) X dX4_askOf_21 rfl ?_
      refine ao_getR (pc := 22) X dX4_askOf_22 fl_RX4_31 sf_33_6 ?_
      refine ao_getR (pc := 25) X dX4_askOf_25 fl_RX4_75 sf_5_2 ?_
      refine ao_iload_n (pc := 28) X dX4_askOf_28 rfl ?_
      refine ao_zald (pc := 29) X dX4_askOf_29 sa_8 ?_
      refine ao_if_ne (pc := 30) (tgt := 50) X dX4_askOf_30 (by decide) (fun _ => ?_) (fun _ => ?_)
      · refine ao_iconst (pc := 50) X dX4_askOf_50 ic_0 ?_
        exact ao_iret (pc := 51) X hr dX4_askOf_51
      · refine ao_aload_n (pc := 33) X dX4_askOf_33 rfl ?_
        refine ao_iload_n (pc := 34) X dX4_askOf_34 rfl ?_
        refine ao_callVI (pc := 35) (As := [.int v1]) (st := []) X hl0 dX4_askOf_35 yv_X4_leftNow so_33 ml_RX4_79 (mX4_leftNow_33 hI v1 m4) (Nat.le_of_ble_eq_true rfl) rfl rfl (Nat.le_of_ble_eq_true rfl) (fun r5 m6 => ?_)
        refine ao_aload_n (pc := 38) X dX4_askOf_38 rfl ?_
        refine ao_getR (pc := 39) X dX4_askOf_39 fl_RX4_31 sf_33_6 ?_
        refine ao_getR (pc := 42) X dX4_askOf_42 fl_RX4_83 sf_5_1 ?_
        refine ao_iload_n (pc := 45) X dX4_askOf_45 rfl ?_
        refine ao_iald (pc := 46) X dX4_askOf_46 sa_7 ?_
        refine ao_icmp_le (pc := 47) (tgt := 52) X dX4_askOf_47 (by decide) (fun _ => ?_) (fun _ => ?_)
        · refine ao_aload_n (pc := 52) X dX4_askOf_52 rfl ?_
          refine ao_getR (pc := 53) X dX4_askOf_53 fl_RX4_9 sf_33_0 ?_
          refine ao_iload_n (pc := 56) X dX4_askOf_56 rfl ?_
          refine ao_iconst (pc := 57) X dX4_askOf_57 ic_1 ?_
          refine ao_iast (pc := 58) X dX4_askOf_58 sa_34 ?_
          refine ao_lt (fun m7 => ?_)
          refine ao_aload_n (pc := 59) X dX4_askOf_59 rfl ?_
          refine ao_getR (pc := 60) X dX4_askOf_60 fl_RX4_15 sf_33_1 ?_
          refine ao_iload_n (pc := 63) X dX4_askOf_63 rfl ?_
          refine ao_iconst (pc := 64) X dX4_askOf_64 ic_0 ?_
          refine ao_iast (pc := 65) X dX4_askOf_65 sa_35 ?_
          refine ao_lt (fun m8 => ?_)
          refine ao_aload_n (pc := 66) X dX4_askOf_66 rfl ?_
          refine ao_dup (pc := 67) X dX4_askOf_67 rfl ?_
          refine ao_getI (pc := 68) X dX4_askOf_68 fl_RX4_28 sf_33_5 ?_
          refine ao_iconst (pc := 71) X dX4_askOf_71 ic_1 ?_
          refine ao_iadd (pc := 72) X dX4_askOf_72 ?_
          refine ao_putI (pc := 73) X dX4_askOf_73 fp_RX4_28 sf_33_5 ?_
          refine ao_lt (fun m9 => ?_)
          refine ao_iconst (pc := 76) X dX4_askOf_76 ic_1 ?_
          exact ao_iret (pc := 77) X hr dX4_askOf_77
        · refine ao_iconst (pc := 50) X dX4_askOf_50 ic_0 ?_
          exact ao_iret (pc := 51) X hr dX4_askOf_51
    · refine ao_bipush (pc := 18) X dX4_askOf_18 bp_m2 ?_
      exact ao_iret (pc := 20) X hr dX4_askOf_20
  · refine ao_iconst (pc := 8) X dX4_askOf_8 ic_m1 ?_
    exact ao_iret (pc := 9) X hr dX4_askOf_9
def fX11_ask_0 (v1 : Int32) (μ : Mem) : Option (Int32 × Mem) :=
  bnd (fX6_note_29_33 μ) fun r1 m2 =>
  bnd (fX4_askOf_33 v1 m2) fun r3 m4 =>
  bnd (fX11_doneBy_0 r3 m4) fun r5 m6 =>
  some (r5, m6)
set_option maxRecDepth 100000 in
set_option maxHeartbeats 4000000 in
theorem mX11_ask_0 {E : En} {l : Launch} (hI : Inj E) (v1 : Int32) (μ : Mem) : MtI E l yX11_ask cX11_ask 2 (some .int) 6 [.ref (eAd E 0), .int v1] μ (fX11_ask_0 v1 μ) := by
  refine mtI_of (own := RX11) [(0, .ref (eAd E 0)), (1, .int v1)] hI rfl (by decide) (Nat.le_of_ble_eq_true rfl) (Nat.le_of_ble_eq_true rfl) rfl (fun Z hl0 X hr => ?_)
  unfold fX11_ask_0
  refine ao_aload_n (pc := 0) X dX11_ask_0 rfl ?_
  refine ao_getR (pc := 1) X dX11_ask_1 fl_RX11_75 sf_0_9 ?_
  refine ao_aload_n (pc := 4) X dX11_ask_4 rfl ?_
  refine ao_getR (pc := 5) X dX11_ask_5 fl_RX11_65 sf_0_7 ?_
  refine ao_callVV (pc := 8) (As := [.ref (eAd E 33)]) (st := []) X hl0 dX11_ask_8 yv_X6_note so_29 ml_RX11_212 (mX6_note_29_33 hI μ) (Nat.le_of_ble_eq_true rfl) rfl rfl (Nat.le_of_ble_eq_true rfl) (fun r1 m2 => ?_)
  refine ao_aload_n (pc := 11) X dX11_ask_11 rfl ?_
  refine ao_aload_n (pc := 12) X dX11_ask_12 rfl ?_
  refine ao_getR (pc := 13) X dX11_ask_13 fl_RX11_65 sf_0_7 ?_
  refine ao_iload_n (pc := 16) X dX11_ask_16 rfl ?_
  refine ao_callVI (pc := 17) (As := [.int v1]) (st := [.ref (eAd E 0)]) X hl0 dX11_ask_17 yv_X4_askOf so_33 ml_RX11_222 (mX4_askOf_33 hI v1 m2) (Nat.le_of_ble_eq_true rfl) rfl rfl (Nat.le_of_ble_eq_true rfl) (fun r3 m4 => ?_)
  refine ao_callVI (pc := 20) (As := [.int r3]) (st := []) X hl0 dX11_ask_20 yv_X11_doneBy so_0 ml_RX11_219 (mX11_doneBy_0 hI r3 m4) (Nat.le_of_ble_eq_true rfl) rfl rfl (Nat.le_of_ble_eq_true rfl) (fun r5 m6 => ?_)
  exact ao_iret (pc := 23) X hr dX11_ask_23
def fX12_doesSpeak_122 (v1 : Int32) (v2 : Int32) (μ : Mem) : Option (Int32 × Mem) :=
  gd (inb v1 6) (if (gI μ 126 (ix v1)) = 0 then (gd (inb v1 6) (if (gI μ 125 (ix v1)) < v2 then (some ((0 : Int32), μ))
    else some ((1 : Int32), μ)))
  else some ((0 : Int32), μ))
set_option maxRecDepth 100000 in
set_option maxHeartbeats 4000000 in
theorem mX12_doesSpeak_122 {E : En} {l : Launch} (hI : Inj E) (v1 : Int32) (v2 : Int32) (μ : Mem) : MtI E l yX12_doesSpeak cX12_doesSpeak 3 (some .boolean) 1 [.ref (eAd E 122), .int v1, .int v2] μ (fX12_doesSpeak_122 v1 v2 μ) := by
  refine mtI_of (own := RX12) [(0, .ref (eAd E 122)), (1, .int v1), (2, .int v2)] hI rfl (by decide) (Nat.le_of_ble_eq_true rfl) (Nat.le_of_ble_eq_true rfl) rfl (fun Z hl0 X hr => ?_)
  unfold fX12_doesSpeak_122
  refine ao_aload_n (pc := 0) X dX12_doesSpeak_0 rfl ?_
  refine ao_getR (pc := 1) X dX12_doesSpeak_1 fl_RX12_19 sf_122_4 ?_
  refine ao_iload_n (pc := 4) X dX12_doesSpeak_4 rfl ?_
  refine ao_zald (pc := 5) X dX12_doesSpeak_5 sa_126 ?_
  refine ao_if_ne (pc := 6) (tgt := 23) X dX12_doesSpeak_6 (by decide) (fun _ => ?_) (fun _ => ?_)
  · refine ao_iconst (pc := 23) X dX12_doesSpeak_23 ic_0 ?_
    exact ao_zret (pc := 24) X hr rfl dX12_doesSpeak_24
  · refine ao_iload_n (pc := 9) X dX12_doesSpeak_9 rfl ?_
    refine ao_aload_n (pc := 10) X dX12_doesSpeak_10 rfl ?_
    refine ao_getR (pc := 11) X dX12_doesSpeak_11 fl_RX12_16 sf_122_3 ?_
    refine ao_iload_n (pc := 14) X dX12_doesSpeak_14 rfl ?_
    refine ao_iald (pc := 15) X dX12_doesSpeak_15 sa_125 ?_
    refine ao_icmp_gt (pc := 16) (tgt := 23) X dX12_doesSpeak_16 (by decide) (fun _ => ?_) (fun _ => ?_)
    · refine ao_iconst (pc := 23) X dX12_doesSpeak_23 ic_0 ?_
      exact ao_zret (pc := 24) X hr rfl dX12_doesSpeak_24
    · refine ao_iconst (pc := 19) X dX12_doesSpeak_19 ic_1 ?_
      refine ao_goto (pc := 20) (tgt := 24) X dX12_doesSpeak_20 (by decide) ?_
      exact ao_zret (pc := 24) X hr rfl dX12_doesSpeak_24
def fX12_goPlead_123 (v1 : Int32) (μ : Mem) : Option (Unit × Mem) :=
  gd (inb v1 27) (lt (sI μ 123 (ix v1) (1 : Int32)) fun m1 =>
  gd (inb ((6 : Int32) + v1) 27) (lt (sI m1 123 (ix ((6 : Int32) + v1)) (0 : Int32)) fun m2 =>
  some ((), m2)))
set_option maxRecDepth 100000 in
set_option maxHeartbeats 4000000 in
theorem mX12_goPlead_123 {E : En} {l : Launch} (hI : Inj E) (v1 : Int32) (μ : Mem) : MtV E l yX12_goPlead cX12_goPlead 2 (none) 1 [.ref (eAd E 123), .int v1] μ (fX12_goPlead_123 v1 μ) := by
  refine mtV_of (own := RX12) [(0, .ref (eAd E 123)), (1, .int v1)] hI rfl (by decide) (Nat.le_of_ble_eq_true rfl) (Nat.le_of_ble_eq_true rfl) rfl (fun Z hl0 X hr => ?_)
  unfold fX12_goPlead_123
  refine ao_aload_n (pc := 0) X dX12_goPlead_0 rfl ?_
  refine ao_iload_n (pc := 1) X dX12_goPlead_1 rfl ?_
  refine ao_iconst (pc := 2) X dX12_goPlead_2 ic_1 ?_
  refine ao_iast (pc := 3) X dX12_goPlead_3 sa_123 ?_
  refine ao_lt (fun m1 => ?_)
  refine ao_aload_n (pc := 4) X dX12_goPlead_4 rfl ?_
  refine ao_bipush (pc := 5) X dX12_goPlead_5 bp_6 ?_
  refine ao_iload_n (pc := 7) X dX12_goPlead_7 rfl ?_
  refine ao_iadd (pc := 8) X dX12_goPlead_8 ?_
  refine ao_iconst (pc := 9) X dX12_goPlead_9 ic_0 ?_
  refine ao_iast (pc := 10) X dX12_goPlead_10 sa_123 ?_
  refine ao_lt (fun m2 => ?_)
  exact ao_vret (pc := 11) X hr dX12_goPlead_11
def fX12_ask_122 (v1 : Int32) (μ : Mem) : Option (Int32 × Mem) :=
  lt (sI μ 122 17 (0 : Int32)) fun m1 =>
  bnd (fX12_isMan_122 v1 m1) fun r2 m3 =>
  if r2 = 0 then (some ((-1 : Int32), m3))
  else gd (inb v1 27) (if (gI m3 123 (ix v1)) = 0 then (bnd (fX12_remember_122_123 m3) fun r4 m5 =>
      bnd (fX12_leftNow_122_123 v1 m5) fun r6 m7 =>
      bnd (fX12_doesSpeak_122 v1 r6 m7) fun r8 m9 =>
      if r8 = 0 then (some ((0 : Int32), m9))
      else bnd (fX12_goPlead_123 v1 m9) fun r10 m11 =>
        some ((1 : Int32), m11))
    else some ((-2 : Int32), m3))
set_option maxRecDepth 100000 in
set_option maxHeartbeats 4000000 in
theorem mX12_ask_122 {E : En} {l : Launch} (hI : Inj E) (v1 : Int32) (μ : Mem) : MtI E l yX12_ask cX12_ask 2 (some .int) 411 [.ref (eAd E 122), .int v1] μ (fX12_ask_122 v1 μ) := by
  refine mtI_of (own := RX12) [(0, .ref (eAd E 122)), (1, .int v1)] hI rfl (by decide) (Nat.le_of_ble_eq_true rfl) (Nat.le_of_ble_eq_true rfl) rfl (fun Z hl0 X hr => ?_)
  unfold fX12_ask_122
  refine ao_aload_n (pc := 0) X dX12_ask_0 rfl ?_
  refine ao_iconst (pc := 1) X dX12_ask_1 ic_0 ?_
  refine ao_putI (pc := 2) X dX12_ask_2 fp_RX12_95 sf_122_17 ?_
  refine ao_lt (fun m1 => ?_)
  refine ao_aload_n (pc := 5) X dX12_ask_5 rfl ?_
  refine ao_iload_n (pc := 6) X dX12_ask_6 rfl ?_
  refine ao_callVI (pc := 7) (As := [.int v1]) (st := []) X hl0 dX12_ask_7 yv_X12_isMan so_122 ml_RX12_224 (mX12_isMan_122 hI v1 m1) (Nat.le_of_ble_eq_true rfl) rfl rfl (Nat.le_of_ble_eq_true rfl) (fun r2 m3 => ?_)
  refine ao_if_ne (pc := 10) (tgt := 15) X dX12_ask_10 (by decide) (fun _ => ?_) (fun _ => ?_)
  · refine ao_aload_n (pc := 15) X dX12_ask_15 rfl ?_
    refine ao_getR (pc := 16) X dX12_ask_16 fl_RX12_9 sf_122_0 ?_
    refine ao_iload_n (pc := 19) X dX12_ask_19 rfl ?_
    refine ao_iald (pc := 20) X dX12_ask_20 sa_123 ?_
    refine ao_if_eq (pc := 21) (tgt := 27) X dX12_ask_21 (by decide) (fun _ => ?_) (fun _ => ?_)
    · refine ao_aload_n (pc := 27) X dX12_ask_27 rfl ?_
      refine ao_aload_n (pc := 28) X dX12_ask_28 rfl ?_
      refine ao_getR (pc := 29) X dX12_ask_29 fl_RX12_9 sf_122_0 ?_
      refine ao_callVV (pc := 32) (As := [.ref (eAd E 123)]) (st := []) X hl0 dX12_ask_32 yv_X12_remember so_122 ml_RX12_249 (mX12_remember_122_123 hI m3) (Nat.le_of_ble_eq_true rfl) rfl rfl (Nat.le_of_ble_eq_true rfl) (fun r4 m5 => ?_)
      refine ao_aload_n (pc := 35) X dX12_ask_35 rfl ?_
      refine ao_iload_n (pc := 36) X dX12_ask_36 rfl ?_
      refine ao_aload_n (pc := 37) X dX12_ask_37 rfl ?_
      refine ao_aload_n (pc := 38) X dX12_ask_38 rfl ?_
      refine ao_getR (pc := 39) X dX12_ask_39 fl_RX12_9 sf_122_0 ?_
      refine ao_iload_n (pc := 42) X dX12_ask_42 rfl ?_
      refine ao_callVI (pc := 43) (As := [.ref (eAd E 123), .int v1]) (st := [.int v1, .ref (eAd E 122)]) X hl0 dX12_ask_43 yv_X12_leftNow so_122 ml_RX12_231 (mX12_leftNow_122_123 hI v1 m5) (Nat.le_of_ble_eq_true rfl) rfl rfl (Nat.le_of_ble_eq_true rfl) (fun r6 m7 => ?_)
      refine ao_callVI (pc := 46) (As := [.int v1, .int r6]) (st := []) X hl0 dX12_ask_46 yv_X12_doesSpeak so_122 ml_RX12_257 (mX12_doesSpeak_122 hI v1 r6 m7) (Nat.le_of_ble_eq_true rfl) rfl rfl (Nat.le_of_ble_eq_true rfl) (fun r8 m9 => ?_)
      refine ao_if_ne (pc := 49) (tgt := 54) X dX12_ask_49 (by decide) (fun _ => ?_) (fun _ => ?_)
      · refine ao_aload_n (pc := 54) X dX12_ask_54 rfl ?_
        refine ao_getR (pc := 55) X dX12_ask_55 fl_RX12_9 sf_122_0 ?_
        refine ao_iload_n (pc := 58) X dX12_ask_58 rfl ?_
        refine ao_callSV (pc := 59) (As := [.ref (eAd E 123), .int v1]) (st := []) X hl0 dX12_ask_59 yv_X12_goPlead ml_RX12_260 (mX12_goPlead_123 hI v1 m9) (Nat.le_of_ble_eq_true rfl) rfl rfl (Nat.le_of_ble_eq_true rfl) (fun r10 m11 => ?_)
        refine ao_iconst (pc := 62) X dX12_ask_62 ic_1 ?_
        exact ao_iret (pc := 63) X hr dX12_ask_63
      · refine ao_iconst (pc := 52) X dX12_ask_52 ic_0 ?_
        exact ao_iret (pc := 53) X hr dX12_ask_53
    · refine ao_bipush (pc := 24) X dX12_ask_24 bp_m2 ?_
      exact ao_iret (pc := 26) X hr dX12_ask_26
  · refine ao_iconst (pc := 13) X dX12_ask_13 ic_m1 ?_
    exact ao_iret (pc := 14) X hr dX12_ask_14
def fX4_wordIn_33 (v1 : Int32) (v2 : Int32) (μ : Mem) : Option (Int32 × Mem) :=
  gd (inb v1 8) (gd (inb v1 8) (some ((imax (0 : Int32) ((gI μ 37 (ix v1)) - ((gI μ 14 (ix v1)) * v2))), μ)))
set_option maxRecDepth 100000 in
set_option maxHeartbeats 4000000 in
theorem mX4_wordIn_33 {E : En} {l : Launch} (hI : Inj E) (v1 : Int32) (v2 : Int32) (μ : Mem) : MtI E l yX4_wordIn cX4_wordIn 3 (some .int) 1 [.ref (eAd E 33), .int v1, .int v2] μ (fX4_wordIn_33 v1 v2 μ) := by
  refine mtI_of (own := RX4) [(0, .ref (eAd E 33)), (1, .int v1), (2, .int v2)] hI rfl (by decide) (Nat.le_of_ble_eq_true rfl) (Nat.le_of_ble_eq_true rfl) rfl (fun Z hl0 X hr => ?_)
  unfold fX4_wordIn_33
  refine ao_iconst (pc := 0) X dX4_wordIn_0 ic_0 ?_
  refine ao_aload_n (pc := 1) X dX4_wordIn_1 rfl ?_
  refine ao_getR (pc := 2) X dX4_wordIn_2 fl_RX4_21 sf_33_3 ?_
  refine ao_iload_n (pc := 5) X dX4_wordIn_5 rfl ?_
  refine ao_iald (pc := 6) X dX4_wordIn_6 sa_37 ?_
  refine ao_aload_n (pc := 7) X dX4_wordIn_7 rfl ?_
  refine ao_getR (pc := 8) X dX4_wordIn_8 fl_RX4_35 sf_33_7 ?_
  refine ao_getR (pc := 11) X dX4_wordIn_11 fl_RX4_120 sf_11_2 ?_
  refine ao_iload_n (pc := 14) X dX4_wordIn_14 rfl ?_
  refine ao_iald (pc := 15) X dX4_wordIn_15 sa_14 ?_
  refine ao_iload_n (pc := 16) X dX4_wordIn_16 rfl ?_
  refine ao_imul (pc := 17) X dX4_wordIn_17 ?_
  refine ao_isub (pc := 18) X dX4_wordIn_18 ?_
  refine ao_max (pc := 19) X dX4_wordIn_19 ml_RX4_72 MaxW_ok (Nat.le_of_ble_eq_true rfl) ?_
  exact ao_iret (pc := 22) X hr dX4_wordIn_22
def fX4_proofIn_33_b5 : Nat → Int32 → Int32 → Int32 → Int32 → Mem → Option (Int32 × Mem)
  | 0, _, _, _, _, _ => none
  | n + 1, p1, p2, p3, p4, μ =>
  if (gI μ 11 3) ≤ p4 then (some (p3, μ))
  else gd (inb p4 8) (if (gI μ 12 (ix p4)) = p1 then (bnd (fX4_wordIn_33 p4 p2 μ) fun r3 m4 =>
      lt (p3 + r3) fun x5 =>
      fX4_proofIn_33_b5 n p1 p2 x5 (p4 + (1 : Int32)) m4)
    else lt (p3 + (0 : Int32)) fun x1 =>
      fX4_proofIn_33_b5 n p1 p2 x1 (p4 + (1 : Int32)) μ)
set_option maxRecDepth 100000 in
set_option maxHeartbeats 4000000 in
theorem bX4_proofIn_33_5 {E : En} {l : Launch} {Z : Zt} (hI : Inj E) (hl0 : lZ l Z) (X : Cx E Z cX4_proofIn RX4 5 2) (hr : rtOf Z = some .int) : ∀ (n : Nat) (p1 : Int32) (p2 : Int32) (p3 : Int32) (p4 : Int32) (μ : Mem), AO E Z 5 (QI E Z) 5 [(0, .ref (eAd E 33)), (1, .int p1), (2, .int p2), (3, .int p3), (4, .int p4)] [] μ (fX4_proofIn_33_b5 n p1 p2 p3 p4 μ) := by
  intro n
  induction n with
  | zero =>
    intros
    exact ao_none
  | succ n ih =>
    intro p1 p2 p3 p4 μ
    rw [fX4_proofIn_33_b5]
    refine ao_iload (pc := 5) X dX4_proofIn_5 rfl ?_
    refine ao_aload_n (pc := 7) X dX4_proofIn_7 rfl ?_
    refine ao_getR (pc := 8) X dX4_proofIn_8 fl_RX4_35 sf_33_7 ?_
    refine ao_getI (pc := 11) X dX4_proofIn_11 fl_RX4_119 sf_11_3 ?_
    refine ao_icmp_ge (pc := 14) (tgt := 51) X dX4_proofIn_14 (by decide) (fun _ => ?_) (fun _ => ?_)
    · refine ao_iload_n (pc := 51) X dX4_proofIn_51 rfl ?_
      exact ao_iret (pc := 52) X hr dX4_proofIn_52
    · refine ao_iload_n (pc := 17) X dX4_proofIn_17 rfl ?_
      refine ao_aload_n (pc := 18) X dX4_proofIn_18 rfl ?_
      refine ao_getR (pc := 19) X dX4_proofIn_19 fl_RX4_35 sf_33_7 ?_
      refine ao_getR (pc := 22) X dX4_proofIn_22 fl_RX4_143 sf_11_0 ?_
      refine ao_iload (pc := 25) X dX4_proofIn_25 rfl ?_
      refine ao_iald (pc := 27) X dX4_proofIn_27 sa_12 ?_
      refine ao_iload_n (pc := 28) X dX4_proofIn_28 rfl ?_
      refine ao_icmp_ne (pc := 29) (tgt := 42) X dX4_proofIn_29 (by decide) (fun _ => ?_) (fun _ => ?_)
      · refine ao_iconst (pc := 42) X dX4_proofIn_42 ic_0 ?_
        refine ao_iadd (pc := 43) X dX4_proofIn_43 ?_
        refine ao_ltI (fun x1 => ?_)
        refine ao_istore_n (pc := 44) (lv' := [(3, .int x1), (0, .ref (eAd E 33)), (1, .int p1), (2, .int p2), (4, .int p4)]) X dX4_proofIn_44 rfl (by decide) rfl ?_
        refine ao_iinc (pc := 45) (k := 4) (v := p4 + (1 : Int32)) (lv' := [(4, .int (p4 + (1 : Int32))), (3, .int x1), (0, .ref (eAd E 33)), (1, .int p1), (2, .int p2)]) X dX4_proofIn_45 rfl (ii_ic ic_1) (by decide) rfl ?_
        refine ao_goto (pc := 48) (tgt := 5) X dX4_proofIn_48 (by decide) ?_
        refine ao_sub [2, 3, 4, 1, 0] rfl ?_
        exact ih p1 p2 x1 (p4 + (1 : Int32)) μ
      · refine ao_aload_n (pc := 32) X dX4_proofIn_32 rfl ?_
        refine ao_iload (pc := 33) X dX4_proofIn_33 rfl ?_
        refine ao_iload_n (pc := 35) X dX4_proofIn_35 rfl ?_
        refine ao_callVI (pc := 36) (As := [.int p4, .int p2]) (st := [.int p3]) X hl0 dX4_proofIn_36 yv_X4_wordIn so_33 ml_RX4_146 (mX4_wordIn_33 hI p4 p2 μ) (Nat.le_of_ble_eq_true rfl) rfl rfl (Nat.le_of_ble_eq_true rfl) (fun r3 m4 => ?_)
        refine ao_goto (pc := 39) (tgt := 43) X dX4_proofIn_39 (by decide) ?_
        refine ao_iadd (pc := 43) X dX4_proofIn_43 ?_
        refine ao_ltI (fun x5 => ?_)
        refine ao_istore_n (pc := 44) (lv' := [(3, .int x5), (0, .ref (eAd E 33)), (1, .int p1), (2, .int p2), (4, .int p4)]) X dX4_proofIn_44 rfl (by decide) rfl ?_
        refine ao_iinc (pc := 45) (k := 4) (v := p4 + (1 : Int32)) (lv' := [(4, .int (p4 + (1 : Int32))), (3, .int x5), (0, .ref (eAd E 33)), (1, .int p1), (2, .int p2)]) X dX4_proofIn_45 rfl (ii_ic ic_1) (by decide) rfl ?_
        refine ao_goto (pc := 48) (tgt := 5) X dX4_proofIn_48 (by decide) ?_
        refine ao_sub [2, 3, 4, 1, 0] rfl ?_
        exact ih p1 p2 x5 (p4 + (1 : Int32)) m4
def fX4_proofIn_33 (v1 : Int32) (v2 : Int32) (μ : Mem) : Option (Int32 × Mem) :=
  fX4_proofIn_33_b5 FU v1 v2 (0 : Int32) (0 : Int32) μ
set_option maxRecDepth 100000 in
set_option maxHeartbeats 4000000 in
theorem mX4_proofIn_33 {E : En} {l : Launch} (hI : Inj E) (v1 : Int32) (v2 : Int32) (μ : Mem) : MtI E l yX4_proofIn cX4_proofIn 5 (some .int) 2 [.ref (eAd E 33), .int v1, .int v2] μ (fX4_proofIn_33 v1 v2 μ) := by
  refine mtI_of (own := RX4) [(0, .ref (eAd E 33)), (1, .int v1), (2, .int v2)] hI rfl (by decide) (Nat.le_of_ble_eq_true rfl) (Nat.le_of_ble_eq_true rfl) rfl (fun Z hl0 X hr => ?_)
  unfold fX4_proofIn_33
  refine ao_iconst (pc := 0) X dX4_proofIn_0 ic_0 ?_
  refine ao_istore_n (pc := 1) (lv' := [(3, .int (0 : Int32)), (0, .ref (eAd E 33)), (1, .int v1), (2, .int v2)]) X dX4_proofIn_1 rfl (by decide) rfl ?_
  refine ao_iconst (pc := 2) X dX4_proofIn_2 ic_0 ?_
  refine ao_istore (pc := 3) (lv' := [(4, .int (0 : Int32)), (3, .int (0 : Int32)), (0, .ref (eAd E 33)), (1, .int v1), (2, .int v2)]) X dX4_proofIn_3 (by decide) rfl ?_
  refine ao_sub [2, 3, 4, 1, 0] rfl ?_
  exact bX4_proofIn_33_5 hI hl0 X hr FU v1 v2 (0 : Int32) (0 : Int32) μ
def fX4_verdictIn_33 (v1 : Int32) (v2 : Int32) (μ : Mem) : Option (Int32 × Mem) :=
  bnd (fX4_proofIn_33 v1 v2 μ) fun r1 m2 =>
  if r1 < (100 : Int32) then (some ((3 : Int32), m2))
  else some ((4 : Int32), m2)
set_option maxRecDepth 100000 in
set_option maxHeartbeats 4000000 in
theorem mX4_verdictIn_33 {E : En} {l : Launch} (hI : Inj E) (v1 : Int32) (v2 : Int32) (μ : Mem) : MtI E l yX4_verdictIn cX4_verdictIn 3 (some .int) 3 [.ref (eAd E 33), .int v1, .int v2] μ (fX4_verdictIn_33 v1 v2 μ) := by
  refine mtI_of (own := RX4) [(0, .ref (eAd E 33)), (1, .int v1), (2, .int v2)] hI rfl (by decide) (Nat.le_of_ble_eq_true rfl) (Nat.le_of_ble_eq_true rfl) rfl (fun Z hl0 X hr => ?_)
  unfold fX4_verdictIn_33
  refine ao_aload_n (pc := 0) X dX4_verdictIn_0 rfl ?_
  refine ao_iload_n (pc := 1) X dX4_verdictIn_1 rfl ?_
  refine ao_iload_n (pc := 2) X dX4_verdictIn_2 rfl ?_
  refine ao_callVI (pc := 3) (As := [.int v1, .int v2]) (st := []) X hl0 dX4_verdictIn_3 yv_X4_proofIn so_33 ml_RX4_149 (mX4_proofIn_33 hI v1 v2 μ) (Nat.le_of_ble_eq_true rfl) rfl rfl (Nat.le_of_ble_eq_true rfl) (fun r1 m2 => ?_)
  refine ao_bipush (pc := 6) X dX4_verdictIn_6 bp_100 ?_
  refine ao_icmp_lt (pc := 8) (tgt := 15) X dX4_verdictIn_8 (by decide) (fun _ => ?_) (fun _ => ?_)
  · refine ao_iconst (pc := 15) X dX4_verdictIn_15 ic_3 ?_
    exact ao_iret (pc := 16) X hr dX4_verdictIn_16
  · refine ao_iconst (pc := 11) X dX4_verdictIn_11 ic_4 ?_
    refine ao_goto (pc := 12) (tgt := 16) X dX4_verdictIn_12 (by decide) ?_
    exact ao_iret (pc := 16) X hr dX4_verdictIn_16
def fX4_tryNow_33 (v1 : Int32) (μ : Mem) : Option (Int32 × Mem) :=
  bnd (fX4_has_33 v1 μ) fun r1 m2 =>
  if r1 = 0 then (some ((-1 : Int32), m2))
  else gd (inb v1 6) (if (gI m2 34 (ix v1)) = (1 : Int32) then (bnd (fX4_verdictIn_33 v1 (0 : Int32) m2) fun r3 m4 =>
      gd (inb v1 6) (lt (sI m4 34 (ix v1) r3) fun m5 =>
      gd (inb v1 6) (some ((gI m5 34 (ix v1)), m5))))
    else some ((-2 : Int32), m2))
set_option maxRecDepth 100000 in
set_option maxHeartbeats 4000000 in
theorem mX4_tryNow_33 {E : En} {l : Launch} (hI : Inj E) (v1 : Int32) (μ : Mem) : MtI E l yX4_tryNow cX4_tryNow 2 (some .int) 4 [.ref (eAd E 33), .int v1] μ (fX4_tryNow_33 v1 μ) := by
  refine mtI_of (own := RX4) [(0, .ref (eAd E 33)), (1, .int v1)] hI rfl (by decide) (Nat.le_of_ble_eq_true rfl) (Nat.le_of_ble_eq_true rfl) rfl (fun Z hl0 X hr => ?_)
  unfold fX4_tryNow_33
  refine ao_aload_n (pc := 0) X dX4_tryNow_0 rfl ?_
  refine ao_iload_n (pc := 1) X dX4_tryNow_1 rfl ?_
  refine ao_callVI (pc := 2) (As := [.int v1]) (st := []) X hl0 dX4_tryNow_2 yv_X4_has so_33 ml_RX4_59 (mX4_has_33 hI v1 μ) (Nat.le_of_ble_eq_true rfl) rfl rfl (Nat.le_of_ble_eq_true rfl) (fun r1 m2 => ?_)
  refine ao_if_ne (pc := 5) (tgt := 10) X dX4_tryNow_5 (by decide) (fun _ => ?_) (fun _ => ?_)
  · refine ao_aload_n (pc := 10) X dX4_tryNow_10 rfl ?_
    refine ao_getR (pc := 11) X dX4_tryNow_11 fl_RX4_9 sf_33_0 ?_
    refine ao_iload_n (pc := 14) X dX4_tryNow_14 rfl ?_
    refine ao_iald (pc := 15) X dX4_tryNow_15 sa_34 ?_
    refine ao_iconst (pc := 16) X dX4_tryNow_16 ic_1 ?_
    refine ao_icmp_eq (pc := 17) (tgt := 23) X dX4_tryNow_17 (by decide) (fun _ => ?_) (fun _ => ?_)
    · refine ao_aload_n (pc := 23) X dX4_tryNow_23 rfl ?_
      refine ao_getR (pc := 24) X dX4_tryNow_24 fl_RX4_9 sf_33_0 ?_
      refine ao_iload_n (pc := 27) X dX4_tryNow_27 rfl ?_
      refine ao_aload_n (pc := 28) X dX4_tryNow_28 rfl ?_
      refine ao_iload_n (pc := 29) X dX4_tryNow_29 rfl ?_
      refine ao_iconst (pc := 30) X dX4_tryNow_30 ic_0 ?_
      refine ao_callVI (pc := 31) (As := [.int v1, .int (0 : Int32)]) (st := [.int v1, .ref (eAd E 34)]) X hl0 dX4_tryNow_31 yv_X4_verdictIn so_33 ml_RX4_86 (mX4_verdictIn_33 hI v1 (0 : Int32) m2) (Nat.le_of_ble_eq_true rfl) rfl rfl (Nat.le_of_ble_eq_true rfl) (fun r3 m4 => ?_)
      refine ao_iast (pc := 34) X dX4_tryNow_34 sa_34 ?_
      refine ao_lt (fun m5 => ?_)
      refine ao_aload_n (pc := 35) X dX4_tryNow_35 rfl ?_
      refine ao_getR (pc := 36) X dX4_tryNow_36 fl_RX4_9 sf_33_0 ?_
      refine ao_iload_n (pc := 39) X dX4_tryNow_39 rfl ?_
      refine ao_iald (pc := 40) X dX4_tryNow_40 sa_34 ?_
      exact ao_iret (pc := 41) X hr dX4_tryNow_41
    · refine ao_bipush (pc := 20) X dX4_tryNow_20 bp_m2 ?_
      exact ao_iret (pc := 22) X hr dX4_tryNow_22
  · refine ao_iconst (pc := 8) X dX4_tryNow_8 ic_m1 ?_
    exact ao_iret (pc := 9) X hr dX4_tryNow_9
def fX7_add_3 (v1 : Int64) (μ : Mem) : Option (Unit × Mem) :=
  if (8 : Int32) ≤ (gI μ 3 1) then (some ((), μ))
  else gd (inb (gI μ 3 1) 8) (lt (sL μ 4 (ix (gI μ 3 1)) v1) fun m1 =>
    lt (sI m1 3 1 ((gI m1 3 1) + (1 : Int32))) fun m2 =>
    some ((), m2))
set_option maxRecDepth 100000 in
set_option maxHeartbeats 4000000 in
theorem mX7_add_3 {E : En} {l : Launch} (hI : Inj E) (v1 : Int64) (μ : Mem) : MtV E l yX7_add cX7_add 3 (none) 1 [.ref (eAd E 3), .long v1] μ (fX7_add_3 v1 μ) := by
  refine mtV_of (own := RX7) [(0, .ref (eAd E 3)), (1, .long v1)] hI rfl (by decide) (Nat.le_of_ble_eq_true rfl) (Nat.le_of_ble_eq_true rfl) rfl (fun Z hl0 X hr => ?_)
  unfold fX7_add_3
  refine ao_aload_n (pc := 0) X dX7_add_0 rfl ?_
  refine ao_getI (pc := 1) X dX7_add_1 fl_RX7_13 sf_3_1 ?_
  refine ao_aload_n (pc := 4) X dX7_add_4 rfl ?_
  refine ao_getR (pc := 5) X dX7_add_5 fl_RX7_7 sf_3_0 ?_
  refine ao_alenJ (pc := 8) (v := (8 : Int32)) X dX7_add_8 sa_4 (by decide) ?_
  refine ao_icmp_ge (pc := 9) (tgt := 32) X dX7_add_9 (by decide) (fun _ => ?_) (fun _ => ?_)
  · exact ao_vret (pc := 32) X hr dX7_add_32
  · refine ao_aload_n (pc := 12) X dX7_add_12 rfl ?_
    refine ao_getR (pc := 13) X dX7_add_13 fl_RX7_7 sf_3_0 ?_
    refine ao_aload_n (pc := 16) X dX7_add_16 rfl ?_
    refine ao_getI (pc := 17) X dX7_add_17 fl_RX7_13 sf_3_1 ?_
    refine ao_lload_n (pc := 20) X dX7_add_20 rfl ?_
    refine ao_last (pc := 21) X dX7_add_21 sa_4 ?_
    refine ao_lt (fun m1 => ?_)
    refine ao_aload_n (pc := 22) X dX7_add_22 rfl ?_
    refine ao_dup (pc := 23) X dX7_add_23 rfl ?_
    refine ao_getI (pc := 24) X dX7_add_24 fl_RX7_13 sf_3_1 ?_
    refine ao_iconst (pc := 27) X dX7_add_27 ic_1 ?_
    refine ao_iadd (pc := 28) X dX7_add_28 ?_
    refine ao_putI (pc := 29) X dX7_add_29 fp_RX7_13 sf_3_1 ?_
    refine ao_lt (fun m2 => ?_)
    exact ao_vret (pc := 32) X hr dX7_add_32
def fX7_clear_3 (μ : Mem) : Option (Unit × Mem) :=
  lt (sI μ 3 1 (0 : Int32)) fun m1 =>
  some ((), m1)
set_option maxRecDepth 100000 in
set_option maxHeartbeats 4000000 in
theorem mX7_clear_3 {E : En} {l : Launch} (hI : Inj E) (μ : Mem) : MtV E l yX7_clear cX7_clear 1 (none) 1 [.ref (eAd E 3)] μ (fX7_clear_3 μ) := by
  refine mtV_of (own := RX7) [(0, .ref (eAd E 3))] hI rfl (by decide) (Nat.le_of_ble_eq_true rfl) (Nat.le_of_ble_eq_true rfl) rfl (fun Z hl0 X hr => ?_)
  unfold fX7_clear_3
  refine ao_aload_n (pc := 0) X dX7_clear_0 rfl ?_
  refine ao_iconst (pc := 1) X dX7_clear_1 ic_0 ?_
  refine ao_putI (pc := 2) X dX7_clear_2 fp_RX7_13 sf_3_1 ?_
  refine ao_lt (fun m1 => ?_)
  exact ao_vret (pc := 5) X hr dX7_clear_5
def fX7_tell_3 (v1 : Int64) (μ : Mem) : Option (Unit × Mem) :=
  bnd (fX7_clear_3 μ) fun r1 m2 =>
  bnd (fX7_add_3 v1 m2) fun r3 m4 =>
  some ((), m4)
set_option maxRecDepth 100000 in
set_option maxHeartbeats 4000000 in
theorem mX7_tell_3 {E : En} {l : Launch} (hI : Inj E) (v1 : Int64) (μ : Mem) : MtV E l yX7_tell cX7_tell 3 (none) 2 [.ref (eAd E 3), .long v1] μ (fX7_tell_3 v1 μ) := by
  refine mtV_of (own := RX7) [(0, .ref (eAd E 3)), (1, .long v1)] hI rfl (by decide) (Nat.le_of_ble_eq_true rfl) (Nat.le_of_ble_eq_true rfl) rfl (fun Z hl0 X hr => ?_)
  unfold fX7_tell_3
  refine ao_aload_n (pc := 0) X dX7_tell_0 rfl ?_
  refine ao_callVV (pc := 1) (As := []) (st := []) X hl0 dX7_tell_1 yv_X7_clear so_3 ml_RX7_17 (mX7_clear_3 hI μ) (Nat.le_of_ble_eq_true rfl) rfl rfl (Nat.le_of_ble_eq_true rfl) (fun r1 m2 => ?_)
  refine ao_aload_n (pc := 4) X dX7_tell_4 rfl ?_
  refine ao_lload_n (pc := 5) X dX7_tell_5 rfl ?_
  refine ao_callVV (pc := 6) (As := [.long v1]) (st := []) X hl0 dX7_tell_6 yv_X7_add so_3 ml_RX7_20 (mX7_add_3 hI v1 m2) (Nat.le_of_ble_eq_true rfl) rfl rfl (Nat.le_of_ble_eq_true rfl) (fun r3 m4 => ?_)
  exact ao_vret (pc := 9) X hr dX7_tell_9
def fX11_judge_0 (v1 : Int32) (μ : Mem) : Option (Int32 × Mem) :=
  bnd (fX6_note_29_33 μ) fun r1 m2 =>
  bnd (fX4_tryNow_33 v1 m2) fun r3 m4 =>
  bnd (fX11_doneBy_0 r3 m4) fun r5 m6 =>
  if r5 < 0 then (some (r5, m6))
  else bnd (fX4_proofIn_33 v1 (0 : Int32) m6) fun r7 m8 =>
    bnd (fX7_tell_3 (Int32.toInt64 r7) m8) fun r9 m10 =>
    some (r5, m10)
set_option maxRecDepth 100000 in
set_option maxHeartbeats 4000000 in
theorem mX11_judge_0 {E : En} {l : Launch} (hI : Inj E) (v1 : Int32) (μ : Mem) : MtI E l yX11_judge cX11_judge 3 (some .int) 5 [.ref (eAd E 0), .int v1] μ (fX11_judge_0 v1 μ) := by
  refine mtI_of (own := RX11) [(0, .ref (eAd E 0)), (1, .int v1)] hI rfl (by decide) (Nat.le_of_ble_eq_true rfl) (Nat.le_of_ble_eq_true rfl) rfl (fun Z hl0 X hr => ?_)
  unfold fX11_judge_0
  refine ao_aload_n (pc := 0) X dX11_judge_0 rfl ?_
  refine ao_getR (pc := 1) X dX11_judge_1 fl_RX11_75 sf_0_9 ?_
  refine ao_aload_n (pc := 4) X dX11_judge_4 rfl ?_
  refine ao_getR (pc := 5) X dX11_judge_5 fl_RX11_65 sf_0_7 ?_
  refine ao_callVV (pc := 8) (As := [.ref (eAd E 33)]) (st := []) X hl0 dX11_judge_8 yv_X6_note so_29 ml_RX11_212 (mX6_note_29_33 hI μ) (Nat.le_of_ble_eq_true rfl) rfl rfl (Nat.le_of_ble_eq_true rfl) (fun r1 m2 => ?_)
  refine ao_aload_n (pc := 11) X dX11_judge_11 rfl ?_
  refine ao_aload_n (pc := 12) X dX11_judge_12 rfl ?_
  refine ao_getR (pc := 13) X dX11_judge_13 fl_RX11_65 sf_0_7 ?_
  refine ao_iload_n (pc := 16) X dX11_judge_16 rfl ?_
  refine ao_callVI (pc := 17) (As := [.int v1]) (st := [.ref (eAd E 0)]) X hl0 dX11_judge_17 yv_X4_tryNow so_33 ml_RX11_225 (mX4_tryNow_33 hI v1 m2) (Nat.le_of_ble_eq_true rfl) rfl rfl (Nat.le_of_ble_eq_true rfl) (fun r3 m4 => ?_)
  refine ao_callVI (pc := 20) (As := [.int r3]) (st := []) X hl0 dX11_judge_20 yv_X11_doneBy so_0 ml_RX11_219 (mX11_doneBy_0 hI r3 m4) (Nat.le_of_ble_eq_true rfl) rfl rfl (Nat.le_of_ble_eq_true rfl) (fun r5 m6 => ?_)
  refine ao_istore_n (pc := 23) (lv' := [(2, .int r5), (0, .ref (eAd E 0)), (1, .int v1)]) X dX11_judge_23 rfl (by decide) rfl ?_
  refine ao_iload_n (pc := 24) X dX11_judge_24 rfl ?_
  refine ao_if_lt (pc := 25) (tgt := 45) X dX11_judge_25 (by decide) (fun _ => ?_) (fun _ => ?_)
  · refine ao_iload_n (pc := 45) X dX11_judge_45 rfl ?_
    exact ao_iret (pc := 46) X hr dX11_judge_46
  · refine ao_aload_n (pc := 28) X dX11_judge_28 rfl ?_
    refine ao_getR (pc := 29) X dX11_judge_29 fl_RX11_19 sf_0_1 ?_
    refine ao_aload_n (pc := 32) X dX11_judge_32 rfl ?_
    refine ao_getR (pc := 33) X dX11_judge_33 fl_RX11_65 sf_0_7 ?_
    refine ao_iload_n (pc := 36) X dX11_judge_36 rfl ?_
    refine ao_iconst (pc := 37) X dX11_judge_37 ic_0 ?_
    refine ao_callVI (pc := 38) (As := [.int v1, .int (0 : Int32)]) (st := [.ref (eAd E 3)]) X hl0 dX11_judge_38 yv_X4_proofIn so_33 ml_RX11_184 (mX4_proofIn_33 hI v1 (0 : Int32) m6) (Nat.le_of_ble_eq_true rfl) rfl rfl (Nat.le_of_ble_eq_true rfl) (fun r7 m8 => ?_)
    refine ao_i2l (pc := 41) X dX11_judge_41 ?_
    refine ao_callVV (pc := 42) (As := [.long (Int32.toInt64 r7)]) (st := []) X hl0 dX11_judge_42 yv_X7_tell so_3 ml_RX11_228 (mX7_tell_3 hI (Int32.toInt64 r7) m8) (Nat.le_of_ble_eq_true rfl) rfl rfl (Nat.le_of_ble_eq_true rfl) (fun r9 m10 => ?_)
    refine ao_iload_n (pc := 45) X dX11_judge_45 rfl ?_
    exact ao_iret (pc := 46) X hr dX11_judge_46
def fX12_ending_122 (v1 : Int32) (μ : Mem) : Option (Int32 × Mem) :=
  if v1 < (100 : Int32) then (some ((3 : Int32), μ))
  else some ((4 : Int32), μ)
set_option maxRecDepth 100000 in
set_option maxHeartbeats 4000000 in
theorem mX12_ending_122 {E : En} {l : Launch} (hI : Inj E) (v1 : Int32) (μ : Mem) : MtI E l yX12_ending cX12_ending 2 (some .int) 1 [.ref (eAd E 122), .int v1] μ (fX12_ending_122 v1 μ) := by
  refine mtI_of (own := RX12) [(0, .ref (eAd E 122)), (1, .int v1)] hI rfl (by decide) (Nat.le_of_ble_eq_true rfl) (Nat.le_of_ble_eq_true rfl) rfl (fun Z hl0 X hr => ?_)
  unfold fX12_ending_122
  refine ao_iload_n (pc := 0) X dX12_ending_0 rfl ?_
  refine ao_bipush (pc := 1) X dX12_ending_1 bp_100 ?_
  refine ao_icmp_lt (pc := 3) (tgt := 10) X dX12_ending_3 (by decide) (fun _ => ?_) (fun _ => ?_)
  · refine ao_iconst (pc := 10) X dX12_ending_10 ic_3 ?_
    exact ao_iret (pc := 11) X hr dX12_ending_11
  · refine ao_iconst (pc := 6) X dX12_ending_6 ic_4 ?_
    refine ao_goto (pc := 7) (tgt := 11) X dX12_ending_7 (by decide) ?_
    exact ao_iret (pc := 11) X hr dX12_ending_11
def fX12_tell_122 (v1 : Int64) (μ : Mem) : Option (Unit × Mem) :=
  gd (inb (gI μ 122 16) 16) (lt (sL μ 134 (ix (gI μ 122 16)) v1) fun m1 =>
  lt (sI m1 122 16 ((gI m1 122 16) + (1 : Int32))) fun m2 =>
  some ((), m2))
set_option maxRecDepth 100000 in
set_option maxHeartbeats 4000000 in
theorem mX12_tell_122 {E : En} {l : Launch} (hI : Inj E) (v1 : Int64) (μ : Mem) : MtV E l yX12_tell cX12_tell 3 (none) 1 [.ref (eAd E 122), .long v1] μ (fX12_tell_122 v1 μ) := by
  refine mtV_of (own := RX12) [(0, .ref (eAd E 122)), (1, .long v1)] hI rfl (by decide) (Nat.le_of_ble_eq_true rfl) (Nat.le_of_ble_eq_true rfl) rfl (fun Z hl0 X hr => ?_)
  unfold fX12_tell_122
  refine ao_aload_n (pc := 0) X dX12_tell_0 rfl ?_
  refine ao_getR (pc := 1) X dX12_tell_1 fl_RX12_49 sf_122_15 ?_
  refine ao_aload_n (pc := 4) X dX12_tell_4 rfl ?_
  refine ao_getI (pc := 5) X dX12_tell_5 fl_RX12_98 sf_122_16 ?_
  refine ao_lload_n (pc := 8) X dX12_tell_8 rfl ?_
  refine ao_last (pc := 9) X dX12_tell_9 sa_134 ?_
  refine ao_lt (fun m1 => ?_)
  refine ao_aload_n (pc := 10) X dX12_tell_10 rfl ?_
  refine ao_dup (pc := 11) X dX12_tell_11 rfl ?_
  refine ao_getI (pc := 12) X dX12_tell_12 fl_RX12_98 sf_122_16 ?_
  refine ao_iconst (pc := 15) X dX12_tell_15 ic_1 ?_
  refine ao_iadd (pc := 16) X dX12_tell_16 ?_
  refine ao_putI (pc := 17) X dX12_tell_17 fp_RX12_98 sf_122_16 ?_
  refine ao_lt (fun m2 => ?_)
  exact ao_vret (pc := 20) X hr dX12_tell_20
def fX12_judge_122 (v1 : Int32) (μ : Mem) : Option (Int32 × Mem) :=
  lt (sI μ 122 17 (0 : Int32)) fun m1 =>
  bnd (fX12_isMan_122 v1 m1) fun r2 m3 =>
  if r2 = 0 then (some ((-1 : Int32), m3))
  else gd (inb v1 27) (if (gI m3 123 (ix v1)) = (1 : Int32) then (bnd (fX12_remember_122_123 m3) fun r4 m5 =>
      bnd (fX12_proofIn_122_123 v1 (0 : Int32) m5) fun r6 m7 =>
      bnd (fX12_ending_122 r6 m7) fun r8 m9 =>
      gd (inb v1 27) (lt (sI m9 123 (ix v1) r8) fun m10 =>
      lt (sI m10 122 16 (0 : Int32)) fun m11 =>
      bnd (fX12_tell_122 (Int32.toInt64 r6) m11) fun r12 m13 =>
      gd (inb v1 27) (some ((gI m13 123 (ix v1)), m13))))
    else some ((-2 : Int32), m3))
set_option maxRecDepth 100000 in
set_option maxHeartbeats 4000000 in
theorem mX12_judge_122 {E : En} {l : Launch} (hI : Inj E) (v1 : Int32) (μ : Mem) : MtI E l yX12_judge cX12_judge 3 (some .int) 3 [.ref (eAd E 122), .int v1] μ (fX12_judge_122 v1 μ) := by
  refine mtI_of (own := RX12) [(0, .ref (eAd E 122)), (1, .int v1)] hI rfl (by decide) (Nat.le_of_ble_eq_true rfl) (Nat.le_of_ble_eq_true rfl) rfl (fun Z hl0 X hr => ?_)
  unfold fX12_judge_122
  refine ao_aload_n (pc := 0) X dX12_judge_0 rfl ?_
  refine ao_iconst (pc := 1) X dX12_judge_1 ic_0 ?_
  refine ao_putI (pc := 2) X dX12_judge_2 fp_RX12_95 sf_122_17 ?_
  refine ao_lt (fun m1 => ?_)
  refine ao_aload_n (pc := 5) X dX12_judge_5 rfl ?_
  refine ao_iload_n (pc := 6) X dX12_judge_6 rfl ?_
  refine ao_callVI (pc := 7) (As := [.int v1]) (st := []) X hl0 dX12_judge_7 yv_X12_isMan so_122 ml_RX12_224 (mX12_isMan_122 hI v1 m1) (Nat.le_of_ble_eq_true rfl) rfl rfl (Nat.le_of_ble_eq_true rfl) (fun r2 m3 => ?_)
  refine ao_if_ne (pc := 10) (tgt := 15) X dX12_judge_10 (by decide) (fun _ => ?_) (fun _ => ?_)
  · refine ao_aload_n (pc := 15) X dX12_judge_15 rfl ?_
    refine ao_getR (pc := 16) X dX12_judge_16 fl_RX12_9 sf_122_0 ?_
    refine ao_iload_n (pc := 19) X dX12_judge_19 rfl ?_
    refine ao_iald (pc := 20) X dX12_judge_20 sa_123 ?_
    refine ao_iconst (pc := 21) X dX12_judge_21 ic_1 ?_
    refine ao_icmp_eq (pc := 22) (tgt := 28) X dX12_judge_22 (by decide) (fun _ => ?_) (fun _ => ?_)
    · refine ao_aload_n (pc := 28) X dX12_judge_28 rfl ?_
      refine ao_aload_n (pc := 29) X dX12_judge_29 rfl ?_
      refine ao_getR (pc := 30) X dX12_judge_30 fl_RX12_9 sf_122_0 ?_
      refine ao_callVV (pc := 33) (As := [.ref (eAd E 123)]) (st := []) X hl0 dX12_judge_33 yv_X12_remember so_122 ml_RX12_249 (mX12_remember_122_123 hI m3) (Nat.le_of_ble_eq_true rfl) rfl rfl (Nat.le_of_ble_eq_true rfl) (fun r4 m5 => ?_)
      refine ao_aload_n (pc := 36) X dX12_judge_36 rfl ?_
      refine ao_aload_n (pc := 37) X dX12_judge_37 rfl ?_
      refine ao_getR (pc := 38) X dX12_judge_38 fl_RX12_9 sf_122_0 ?_
      refine ao_iload_n (pc := 41) X dX12_judge_41 rfl ?_
      refine ao_iconst (pc := 42) X dX12_judge_42 ic_0 ?_
      refine ao_callVI (pc := 43) (As := [.ref (eAd E 123), .int v1, .int (0 : Int32)]) (st := []) X hl0 dX12_judge_43 yv_X12_proofIn so_122 ml_RX12_235 (mX12_proofIn_122_123 hI v1 (0 : Int32) m5) (Nat.le_of_ble_eq_true rfl) rfl rfl (Nat.le_of_ble_eq_true rfl) (fun r6 m7 => ?_)
      refine ao_istore_n (pc := 46) (lv' := [(2, .int r6), (0, .ref (eAd E 122)), (1, .int v1)]) X dX12_judge_46 rfl (by decide) rfl ?_
      refine ao_aload_n (pc := 47) X dX12_judge_47 rfl ?_
      refine ao_getR (pc := 48) X dX12_judge_48 fl_RX12_9 sf_122_0 ?_
      refine ao_iload_n (pc := 51) X dX12_judge_51 rfl ?_
      refine ao_aload_n (pc := 52) X dX12_judge_52 rfl ?_
      refine ao_iload_n (pc := 53) X dX12_judge_53 rfl ?_
      refine ao_callVI (pc := 54) (As := [.int r6]) (st := [.int v1, .ref (eAd E 123)]) X hl0 dX12_judge_54 yv_X12_ending so_122 ml_RX12_264 (mX12_ending_122 hI r6 m7) (Nat.le_of_ble_eq_true rfl) rfl rfl (Nat.le_of_ble_eq_true rfl) (fun r8 m9 => ?_)
      refine ao_iast (pc := 57) X dX12_judge_57 sa_123 ?_
      refine ao_lt (fun m10 => ?_)
      refine ao_aload_n (pc := 58) X dX12_judge_58 rfl ?_
      refine ao_iconst (pc := 59) X dX12_judge_59 ic_0 ?_
      refine ao_putI (pc := 60) X dX12_judge_60 fp_RX12_98 sf_122_16 ?_
      refine ao_lt (fun m11 => ?_)
      refine ao_aload_n (pc := 63) X dX12_judge_63 rfl ?_
      refine ao_iload_n (pc := 64) X dX12_judge_64 rfl ?_
      refine ao_i2l (pc := 65) X dX12_judge_65 ?_
      refine ao_callVV (pc := 66) (As := [.long (Int32.toInt64 r6)]) (st := []) X hl0 dX12_judge_66 yv_X12_tell so_122 ml_RX12_267 (mX12_tell_122 hI (Int32.toInt64 r6) m11) (Nat.le_of_ble_eq_true rfl) rfl rfl (Nat.le_of_ble_eq_true rfl) (fun r12 m13 => ?_)
      refine ao_aload_n (pc := 69) X dX12_judge_69 rfl ?_
      refine ao_getR (pc := 70) X dX12_judge_70 fl_RX12_9 sf_122_0 ?_
      refine ao_iload_n (pc := 73) X dX12_judge_73 rfl ?_
      refine ao_iald (pc := 74) X dX12_judge_74 sa_123 ?_
      exact ao_iret (pc := 75) X hr dX12_judge_75
    · refine ao_bipush (pc := 25) X dX12_judge_25 bp_m2 ?_
      exact ao_iret (pc := 27) X hr dX12_judge_27
  · refine ao_iconst (pc := 13) X dX12_judge_13 ic_m1 ?_
    exact ao_iret (pc := 14) X hr dX12_judge_14
def fX11_diedOf (v0 : Int32) (μ : Mem) : Option (Int32 × Mem) :=
  some ((v0 &&& (255 : Int32)), μ)
set_option maxRecDepth 100000 in
set_option maxHeartbeats 4000000 in
theorem mX11_diedOf {E : En} {l : Launch} (hI : Inj E) (v0 : Int32) (μ : Mem) : MtI E l yX11_diedOf cX11_diedOf 1 (some .int) 1 [.int v0] μ (fX11_diedOf v0 μ) := by
  refine mtI_of (own := RX11) [(0, .int v0)] hI rfl (by decide) (Nat.le_of_ble_eq_true rfl) (Nat.le_of_ble_eq_true rfl) rfl (fun Z hl0 X hr => ?_)
  unfold fX11_diedOf
  refine ao_iload_n (pc := 0) X dX11_diedOf_0 rfl ?_
  refine ao_sipush (pc := 1) X dX11_diedOf_1 sp_255 ?_
  refine ao_iand (pc := 4) X dX11_diedOf_4 ?_
  exact ao_iret (pc := 5) X hr dX11_diedOf_5
def fX11_overOf (v0 : Int32) (μ : Mem) : Option (Int32 × Mem) :=
  some ((v0 >>> ((8 : Int32) &&& 31)), μ)
set_option maxRecDepth 100000 in
set_option maxHeartbeats 4000000 in
theorem mX11_overOf {E : En} {l : Launch} (hI : Inj E) (v0 : Int32) (μ : Mem) : MtI E l yX11_overOf cX11_overOf 1 (some .int) 1 [.int v0] μ (fX11_overOf v0 μ) := by
  refine mtI_of (own := RX11) [(0, .int v0)] hI rfl (by decide) (Nat.le_of_ble_eq_true rfl) (Nat.le_of_ble_eq_true rfl) rfl (fun Z hl0 X hr => ?_)
  unfold fX11_overOf
  refine ao_iload_n (pc := 0) X dX11_overOf_0 rfl ?_
  refine ao_bipush (pc := 1) X dX11_overOf_1 bp_8 ?_
  refine ao_ishr (pc := 3) X dX11_overOf_3 ?_
  exact ao_iret (pc := 4) X hr dX11_overOf_4
def fX4_leaveOver_33_b34 (k4 : Int32 → Int32 → Mem → Option (Int32 × Mem)) (p1 : Int32) (p2 : Int32) (μ : Mem) : Option (Int32 × Mem) :=
  gd (inb p2 6) (lt (sI μ 34 (ix p2) (5 : Int32)) fun m2 =>
  lt (p1 ||| ((1 : Int32) <<< (p2 &&& 31))) fun x3 =>
  k4 x3 (p2 + (1 : Int32)) m2)
set_option maxRecDepth 100000 in
set_option maxHeartbeats 4000000 in
theorem bX4_leaveOver_33_34 {E : En} {l : Launch} {Z : Zt} (hI : Inj E) (hl0 : lZ l Z) (X : Cx E Z cX4_leaveOver RX4 3 1) (hr : rtOf Z = some .int) {k4 : Int32 → Int32 → Mem → Option (Int32 × Mem)} (hk4 : ∀ (p1 : Int32) (p2 : Int32) (m : Mem), AO E Z 3 (QI E Z) 4 [(0, .ref (eAd E 33)), (1, .int p1), (2, .int p2)] [] m (k4 p1 p2 m)) (p1 : Int32) (p2 : Int32) (μ : Mem) : AO E Z 3 (QI E Z) 34 [(0, .ref (eAd E 33)), (1, .int p1), (2, .int p2)] [] μ (fX4_leaveOver_33_b34 k4 p1 p2 μ) := by
  unfold fX4_leaveOver_33_b34
  refine ao_aload_n (pc := 34) X dX4_leaveOver_34 rfl ?_
  refine ao_getR (pc := 35) X dX4_leaveOver_35 fl_RX4_9 sf_33_0 ?_
  refine ao_iload_n (pc := 38) X dX4_leaveOver_38 rfl ?_
  refine ao_iconst (pc := 39) X dX4_leaveOver_39 ic_5 ?_
  refine ao_iast (pc := 40) X dX4_leaveOver_40 sa_34 ?_
  refine ao_lt (fun m2 => ?_)
  refine ao_iload_n (pc := 41) X dX4_leaveOver_41 rfl ?_
  refine ao_iconst (pc := 42) X dX4_leaveOver_42 ic_1 ?_
  refine ao_iload_n (pc := 43) X dX4_leaveOver_43 rfl ?_
  refine ao_ishl (pc := 44) X dX4_leaveOver_44 ?_
  refine ao_ior (pc := 45) X dX4_leaveOver_45 ?_
  refine ao_ltI (fun x3 => ?_)
  refine ao_istore_n (pc := 46) (lv' := [(1, .int x3), (0, .ref (eAd E 33)), (2, .int p2)]) X dX4_leaveOver_46 rfl (by decide) rfl ?_
  refine ao_iinc (pc := 47) (k := 2) (v := p2 + (1 : Int32)) (lv' := [(2, .int (p2 + (1 : Int32))), (1, .int x3), (0, .ref (eAd E 33))]) X dX4_leaveOver_47 rfl (ii_ic ic_1) (by decide) rfl ?_
  refine ao_goto (pc := 50) (tgt := 4) X dX4_leaveOver_50 (by decide) ?_
  refine ao_sub [2, 1, 0] rfl ?_
  exact hk4 x3 (p2 + (1 : Int32)) m2
def fX4_leaveOver_33_b4 : Nat → Int32 → Int32 → Mem → Option (Int32 × Mem)
  | 0, _, _, _ => none
  | n + 1, p1, p2, μ =>
  if (gI μ 5 5) ≤ p2 then (some (p1, μ))
  else gd (inb p2 6) (if (gI μ 34 (ix p2)) = 0 then (fX4_leaveOver_33_b34 (fun p1 p2 m => fX4_leaveOver_33_b4 n p1 p2 m) p1 p2 μ)
    else gd (inb p2 6) (if (gI μ 34 (ix p2)) = (1 : Int32) then (fX4_leaveOver_33_b34 (fun p1 p2 m => fX4_leaveOver_33_b4 n p1 p2 m) p1 p2 μ)
      else fX4_leaveOver_33_b4 n p1 (p2 + (1 : Int32)) μ))
set_option maxRecDepth 100000 in
set_option maxHeartbeats 4000000 in
theorem bX4_leaveOver_33_4 {E : En} {l : Launch} {Z : Zt} (hI : Inj E) (hl0 : lZ l Z) (X : Cx E Z cX4_leaveOver RX4 3 1) (hr : rtOf Z = some .int) : ∀ (n : Nat) (p1 : Int32) (p2 : Int32) (μ : Mem), AO E Z 3 (QI E Z) 4 [(0, .ref (eAd E 33)), (1, .int p1), (2, .int p2)] [] μ (fX4_leaveOver_33_b4 n p1 p2 μ) := by
  intro n
  induction n with
  | zero =>
    intros
    exact ao_none
  | succ n ih =>
    intro p1 p2 μ
    rw [fX4_leaveOver_33_b4]
    refine ao_iload_n (pc := 4) X dX4_leaveOver_4 rfl ?_
    refine ao_aload_n (pc := 5) X dX4_leaveOver_5 rfl ?_
    refine ao_getR (pc := 6) X dX4_leaveOver_6 fl_RX4_31 sf_33_6 ?_
    refine ao_getI (pc := 9) X dX4_leaveOver_9 fl_RX4_54 sf_5_5 ?_
    refine ao_icmp_ge (pc := 12) (tgt := 53) X dX4_leaveOver_12 (by decide) (fun _ => ?_) (fun _ => ?_)
    · refine ao_iload_n (pc := 53) X dX4_leaveOver_53 rfl ?_
      exact ao_iret (pc := 54) X hr dX4_leaveOver_54
    · refine ao_aload_n (pc := 15) X dX4_leaveOver_15 rfl ?_
      refine ao_getR (pc := 16) X dX4_leaveOver_16 fl_RX4_9 sf_33_0 ?_
      refine ao_iload_n (pc := 19) X dX4_leaveOver_19 rfl ?_
      refine ao_iald (pc := 20) X dX4_leaveOver_20 sa_34 ?_
      refine ao_if_eq (pc := 21) (tgt := 34) X dX4_leaveOver_21 (by decide) (fun _ => ?_) (fun _ => ?_)
      · refine ao_sub [0, 1, 2] rfl ?_
        exact bX4_leaveOver_33_34 hI hl0 X hr ih p1 p2 μ
      · refine ao_aload_n (pc := 24) X dX4_leaveOver_24 rfl ?_
        refine ao_getR (pc := 25) X dX4_leaveOver_25 fl_RX4_9 sf_33_0 ?_
        refine ao_iload_n (pc := 28) X dX4_leaveOver_28 rfl ?_
        refine ao_iald (pc := 29) X dX4_leaveOver_29 sa_34 ?_
        refine ao_iconst (pc := 30) X dX4_leaveOver_30 ic_1 ?_
        refine ao_icmp_ne (pc := 31) (tgt := 47) X dX4_leaveOver_31 (by decide) (fun _ => ?_) (fun _ => ?_)
        · refine ao_iinc (pc := 47) (k := 2) (v := p2 + (1 : Int32)) (lv' := [(2, .int (p2 + (1 : Int32))), (0, .ref (eAd E 33)), (1, .int p1)]) X dX4_leaveOver_47 rfl (ii_ic ic_1) (by decide) rfl ?_
          refine ao_goto (pc := 50) (tgt := 4) X dX4_leaveOver_50 (by decide) ?_
          refine ao_sub [1, 2, 0] rfl ?_
          exact ih p1 (p2 + (1 : Int32)) μ
        · refine ao_sub [0, 1, 2] rfl ?_
          exact bX4_leaveOver_33_34 hI hl0 X hr ih p1 p2 μ
def fX4_leaveOver_33 (μ : Mem) : Option (Int32 × Mem) :=
  fX4_leaveOver_33_b4 FU (0 : Int32) (0 : Int32) μ
set_option maxRecDepth 100000 in
set_option maxHeartbeats 4000000 in
theorem mX4_leaveOver_33 {E : En} {l : Launch} (hI : Inj E) (μ : Mem) : MtI E l yX4_leaveOver cX4_leaveOver 3 (some .int) 1 [.ref (eAd E 33)] μ (fX4_leaveOver_33 μ) := by
  refine mtI_of (own := RX4) [(0, .ref (eAd E 33))] hI rfl (by decide) (Nat.le_of_ble_eq_true rfl) (Nat.le_of_ble_eq_true rfl) rfl (fun Z hl0 X hr => ?_)
  unfold fX4_leaveOver_33
  refine ao_iconst (pc := 0) X dX4_leaveOver_0 ic_0 ?_
  refine ao_istore_n (pc := 1) (lv' := [(1, .int (0 : Int32)), (0, .ref (eAd E 33))]) X dX4_leaveOver_1 rfl (by decide) rfl ?_
  refine ao_iconst (pc := 2) X dX4_leaveOver_2 ic_0 ?_
  refine ao_istore_n (pc := 3) (lv' := [(2, .int (0 : Int32)), (1, .int (0 : Int32)), (0, .ref (eAd E 33))]) X dX4_leaveOver_3 rfl (by decide) rfl ?_
  refine ao_sub [2, 1, 0] rfl ?_
  exact bX4_leaveOver_33_4 hI hl0 X hr FU (0 : Int32) (0 : Int32) μ
def fX4_night_33_b87 : Nat → Int32 → Int32 → Int32 → Mem → Option (Int32 × Mem)
  | 0, _, _, _, _ => none
  | n + 1, p1, p2, p3, μ =>
  if (gI μ 11 3) ≤ p3 then (lt (sI μ 33 4 ((gI μ 33 4) + (1 : Int32))) fun m12 =>
    if (gI m12 33 4) = p1 then (bnd (fX4_leaveOver_33 m12) fun r13 m14 =>
      some ((p2 ||| (r13 <<< ((8 : Int32) &&& 31))), m14))
    else some (p2, m12))
  else gd (inb p3 8) (gd (inb p3 8) (gd (inb p3 8) (lt (sI μ 37 (ix p3) (imax (0 : Int32) ((gI μ 37 (ix p3)) - (gI μ 14 (ix p3))))) fun m15 =>
    fX4_night_33_b87 n p1 p2 (p3 + (1 : Int32)) m15)))
set_option maxRecDepth 100000 in
set_option maxHeartbeats 4000000 in
theorem bX4_night_33_87 {E : En} {l : Launch} {Z : Zt} (hI : Inj E) (hl0 : lZ l Z) (X : Cx E Z cX4_night RX4 4 4) (hr : rtOf Z = some .int) : ∀ (n : Nat) (p1 : Int32) (p2 : Int32) (p3 : Int32) (μ : Mem), AO E Z 4 (QI E Z) 87 [(0, .ref (eAd E 33)), (1, .int p1), (2, .int p2), (3, .int p3)] [] μ (fX4_night_33_b87 n p1 p2 p3 μ) := by
  intro n
  induction n with
  | zero =>
    intros
    exact ao_none
  | succ n ih =>
    intro p1 p2 p3 μ
    rw [fX4_night_33_b87]
    refine ao_iload_n (pc := 87) X dX4_night_87 rfl ?_
    refine ao_aload_n (pc := 88) X dX4_night_88 rfl ?_
    refine ao_getR (pc := 89) X dX4_night_89 fl_RX4_35 sf_33_7 ?_
    refine ao_getI (pc := 92) X dX4_night_92 fl_RX4_119 sf_11_3 ?_
    refine ao_icmp_ge (pc := 95) (tgt := 130) X dX4_night_95 (by decide) (fun _ => ?_) (fun _ => ?_)
    · refine ao_aload_n (pc := 130) X dX4_night_130 rfl ?_
      refine ao_dup (pc := 131) X dX4_night_131 rfl ?_
      refine ao_getI (pc := 132) X dX4_night_132 fl_RX4_24 sf_33_4 ?_
      refine ao_iconst (pc := 135) X dX4_night_135 ic_1 ?_
      refine ao_iadd (pc := 136) X dX4_night_136 ?_
      refine ao_putI (pc := 137) X dX4_night_137 fp_RX4_24 sf_33_4 ?_
      refine ao_lt (fun m12 => ?_)
      refine ao_aload_n (pc := 140) X dX4_night_140 rfl ?_
      refine ao_getI (pc := 141) X dX4_night_141 fl_RX4_24 sf_33_4 ?_
      refine ao_iload_n (pc := 144) X dX4_night_144 rfl ?_
      refine ao_icmp_ne (pc := 145) (tgt := 160) X dX4_night_145 (by decide) (fun _ => ?_) (fun _ => ?_)
      · refine ao_iload_n (pc := 160) X dX4_night_160 rfl ?_
        exact ao_iret (pc := 161) X hr dX4_night_161
      · refine ao_iload_n (pc := 148) X dX4_night_148 rfl ?_
        refine ao_aload_n (pc := 149) X dX4_night_149 rfl ?_
        refine ao_callVI (pc := 150) (As := []) (st := [.int p2]) X hl0 dX4_night_150 yv_X4_leaveOver so_33 ml_RX4_123 (mX4_leaveOver_33 hI m12) (Nat.le_of_ble_eq_true rfl) rfl rfl (Nat.le_of_ble_eq_true rfl) (fun r13 m14 => ?_)
        refine ao_bipush (pc := 153) X dX4_night_153 bp_8 ?_
        refine ao_ishl (pc := 155) X dX4_night_155 ?_
        refine ao_ior (pc := 156) X dX4_night_156 ?_
        refine ao_goto (pc := 157) (tgt := 161) X dX4_night_157 (by decide) ?_
        exact ao_iret (pc := 161) X hr dX4_night_161
    · refine ao_aload_n (pc := 98) X dX4_night_98 rfl ?_
      refine ao_getR (pc := 99) X dX4_night_99 fl_RX4_21 sf_33_3 ?_
      refine ao_iload_n (pc := 102) X dX4_night_102 rfl ?_
      refine ao_iconst (pc := 103) X dX4_night_103 ic_0 ?_
      refine ao_aload_n (pc := 104) X dX4_night_104 rfl ?_
      refine ao_getR (pc := 105) X dX4_night_105 fl_RX4_21 sf_33_3 ?_
      refine ao_iload_n (pc := 108) X dX4_night_108 rfl ?_
      refine ao_iald (pc := 109) X dX4_night_109 sa_37 ?_
      refine ao_aload_n (pc := 110) X dX4_night_110 rfl ?_
      refine ao_getR (pc := 111) X dX4_night_111 fl_RX4_35 sf_33_7 ?_
      refine ao_getR (pc := 114) X dX4_night_114 fl_RX4_120 sf_11_2 ?_
      refine ao_iload_n (pc := 117) X dX4_night_117 rfl ?_
      refine ao_iald (pc := 118) X dX4_night_118 sa_14 ?_
      refine ao_isub (pc := 119) X dX4_night_119 ?_
      refine ao_max (pc := 120) X dX4_night_120 ml_RX4_72 MaxW_ok (Nat.le_of_ble_eq_true rfl) ?_
      refine ao_iast (pc := 123) X dX4_night_123 sa_37 ?_
      refine ao_lt (fun m15 => ?_)
      refine ao_iinc (pc := 124) (k := 3) (v := p3 + (1 : Int32)) (lv' := [(3, .int (p3 + (1 : Int32))), (0, .ref (eAd E 33)), (1, .int p1), (2, .int p2)]) X dX4_night_124 rfl (ii_ic ic_1) (by decide) rfl ?_
      refine ao_goto (pc := 127) (tgt := 87) X dX4_night_127 (by decide) ?_
      refine ao_sub [1, 2, 3, 0] rfl ?_
      exact ih p1 p2 (p3 + (1 : Int32)) m15
def fX4_night_33_b4 : Nat → Int32 → Int32 → Int32 → Mem → Option (Int32 × Mem)
  | 0, _, _, _, _ => none
  | n + 1, p1, p2, p3, μ =>
  if (gI μ 5 5) ≤ p3 then (fX4_night_33_b87 FU p1 p2 (0 : Int32) μ)
  else bnd (fX4_isSilent_33 p3 μ) fun r1 m2 =>
    if r1 = 0 then (fX4_night_33_b4 n p1 p2 (p3 + (1 : Int32)) m2)
    else gd (inb p3 6) (if (gI m2 35 (ix p3)) ≤ 0 then (fX4_night_33_b4 n p1 p2 (p3 + (1 : Int32)) m2)
      else gd (inb p3 6) (gd (inb p3 6) (lt (sI m2 36 (ix p3) ((gI m2 36 (ix p3)) + (1 : Int32))) fun m5 =>
        gd (inb p3 6) (gd (inb p3 6) (bnd (fX4_leftWith_33 p3 (gI m5 35 (ix p3)) (gI m5 36 (ix p3)) (gI m5 33 4) m5) fun r6 m7 =>
        if 0 < r6 then (fX4_night_33_b4 n p1 p2 (p3 + (1 : Int32)) m7)
        else gd (inb p3 6) (lt (sI m7 34 (ix p3) (2 : Int32)) fun m9 =>
          lt (p2 ||| ((1 : Int32) <<< (p3 &&& 31))) fun x10 =>
          fX4_night_33_b4 n p1 x10 (p3 + (1 : Int32)) m9))))))
set_option maxRecDepth 100000 in
set_option maxHeartbeats 4000000 in
theorem bX4_night_33_4 {E : En} {l : Launch} {Z : Zt} (hI : Inj E) (hl0 : lZ l Z) (X : Cx E Z cX4_night RX4 4 4) (hr : rtOf Z = some .int) : ∀ (n : Nat) (p1 : Int32) (p2 : Int32) (p3 : Int32) (μ : Mem), AO E Z 4 (QI E Z) 4 [(0, .ref (eAd E 33)), (1, .int p1), (2, .int p2), (3, .int p3)] [] μ (fX4_night_33_b4 n p1 p2 p3 μ) := by
  intro n
  induction n with
  | zero =>
    intros
    exact ao_none
  | succ n ih =>
    intro p1 p2 p3 μ
    rw [fX4_night_33_b4]
    refine ao_iload_n (pc := 4) X dX4_night_4 rfl ?_
    refine ao_aload_n (pc := 5) X dX4_night_5 rfl ?_
    refine ao_getR (pc := 6) X dX4_night_6 fl_RX4_31 sf_33_6 ?_
    refine ao_getI (pc := 9) X dX4_night_9 fl_RX4_54 sf_5_5 ?_
    refine ao_icmp_ge (pc := 12) (tgt := 85) X dX4_night_12 (by decide) (fun _ => ?_) (fun _ => ?_)
    · refine ao_iconst (pc := 85) X dX4_night_85 ic_0 ?_
      refine ao_istore_n (pc := 86) (lv' := [(3, .int (0 : Int32)), (0, .ref (eAd E 33)), (1, .int p1), (2, .int p2)]) X dX4_night_86 rfl (by decide) rfl ?_
      refine ao_sub [1, 2, 3, 0] rfl ?_
      exact bX4_night_33_87 hI hl0 X hr FU p1 p2 (0 : Int32) μ
    · refine ao_aload_n (pc := 15) X dX4_night_15 rfl ?_
      refine ao_iload_n (pc := 16) X dX4_night_16 rfl ?_
      refine ao_callVI (pc := 17) (As := [.int p3]) (st := []) X hl0 dX4_night_17 yv_X4_isSilent so_33 ml_RX4_63 (mX4_isSilent_33 hI p3 μ) (Nat.le_of_ble_eq_true rfl) rfl rfl (Nat.le_of_ble_eq_true rfl) (fun r1 m2 => ?_)
      refine ao_if_eq (pc := 20) (tgt := 79) X dX4_night_20 (by decide) (fun _ => ?_) (fun _ => ?_)
      · refine ao_iinc (pc := 79) (k := 3) (v := p3 + (1 : Int32)) (lv' := [(3, .int (p3 + (1 : Int32))), (0, .ref (eAd E 33)), (1, .int p1), (2, .int p2)]) X dX4_night_79 rfl (ii_ic ic_1) (by decide) rfl ?_
        refine ao_goto (pc := 82) (tgt := 4) X dX4_night_82 (by decide) ?_
        refine ao_sub [1, 2, 3, 0] rfl ?_
        exact ih p1 p2 (p3 + (1 : Int32)) m2
      · refine ao_aload_n (pc := 23) X dX4_night_23 rfl ?_
        refine ao_getR (pc := 24) X dX4_night_24 fl_RX4_15 sf_33_1 ?_
        refine ao_iload_n (pc := 27) X dX4_night_27 rfl ?_
        refine ao_iald (pc := 28) X dX4_night_28 sa_35 ?_
        refine ao_if_le (pc := 29) (tgt := 79) X dX4_night_29 (by decide) (fun _ => ?_) (fun _ => ?_)
        · refine ao_iinc (pc := 79) (k := 3) (v := p3 + (1 : Int32)) (lv' := [(3, .int (p3 + (1 : Int32))), (0, .ref (eAd E 33)), (1, .int p1), (2, .int p2)]) X dX4_night_79 rfl (ii_ic ic_1) (by decide) rfl ?_
          refine ao_goto (pc := 82) (tgt := 4) X dX4_night_82 (by decide) ?_
          refine ao_sub [1, 2, 3, 0] rfl ?_
          exact ih p1 p2 (p3 + (1 : Int32)) m2
        · refine ao_aload_n (pc := 32) X dX4_night_32 rfl ?_
          refine ao_getR (pc := 33) X dX4_night_33 fl_RX4_18 sf_33_2 ?_
          refine ao_iload_n (pc := 36) X dX4_night_36 rfl ?_
          refine ao_dup2 (pc := 37) X dX4_night_37 rfl rfl ?_
          refine ao_iald (pc := 38) X dX4_night_38 sa_36 ?_
          refine ao_iconst (pc := 39) X dX4_night_39 ic_1 ?_
          refine ao_iadd (pc := 40) X dX4_night_40 ?_
          refine ao_iast (pc := 41) X dX4_night_41 sa_36 ?_
          refine ao_lt (fun m5 => ?_)
          refine ao_aload_n (pc := 42) X dX4_night_42 rfl ?_
          refine ao_iload_n (pc := 43) X dX4_night_43 rfl ?_
          refine ao_aload_n (pc := 44) X dX4_night_44 rfl ?_
          refine ao_getR (pc := 45) X dX4_night_45 fl_RX4_15 sf_33_1 ?_
          refine ao_iload_n (pc := 48) X dX4_night_48 rfl ?_
          refine ao_iald (pc := 49) X dX4_night_49 sa_35 ?_
          refine ao_aload_n (pc := 50) X dX4_night_50 rfl ?_
          refine ao_getR (pc := 51) X dX4_night_51 fl_RX4_18 sf_33_2 ?_
          refine ao_iload_n (pc := 54) X dX4_night_54 rfl ?_
          refine ao_iald (pc := 55) X dX4_night_55 sa_36 ?_
          refine ao_aload_n (pc := 56) X dX4_night_56 rfl ?_
          refine ao_getI (pc := 57) X dX4_night_57 fl_RX4_24 sf_33_4 ?_
          refine ao_callVI (pc := 60) (As := [.int p3, .int (gI m5 35 (ix p3)), .int (gI m5 36 (ix p3)), .int (gI m5 33 4)]) (st := []) X hl0 dX4_night_60 yv_X4_leftWith so_33 ml_RX4_115 (mX4_leftWith_33 hI p3 (gI m5 35 (ix p3)) (gI m5 36 (ix p3)) (gI m5 33 4) m5) (Nat.le_of_ble_eq_true rfl) rfl rfl (Nat.le_of_ble_eq_true rfl) (fun r6 m7 => ?_)
          refine ao_if_gt (pc := 63) (tgt := 79) X dX4_night_63 (by decide) (fun _ => ?_) (fun _ => ?_)
          · refine ao_iinc (pc := 79) (k := 3) (v := p3 + (1 : Int32)) (lv' := [(3, .int (p3 + (1 : Int32))), (0, .ref (eAd E 33)), (1, .int p1), (2, .int p2)]) X dX4_night_79 rfl (ii_ic ic_1) (by decide) rfl ?_
            refine ao_goto (pc := 82) (tgt := 4) X dX4_night_82 (by decide) ?_
            refine ao_sub [1, 2, 3, 0] rfl ?_
            exact ih p1 p2 (p3 + (1 : Int32)) m7
          · refine ao_aload_n (pc := 66) X dX4_night_66 rfl ?_
            refine ao_getR (pc := 67) X dX4_night_67 fl_RX4_9 sf_33_0 ?_
            refine ao_iload_n (pc := 70) X dX4_night_70 rfl ?_
            refine ao_iconst (pc := 71) X dX4_night_71 ic_2 ?_
            refine ao_iast (pc := 72) X dX4_night_72 sa_34 ?_
            refine ao_lt (fun m9 => ?_)
            refine ao_iload_n (pc := 73) X dX4_night_73 rfl ?_
            refine ao_iconst (pc := 74) X dX4_night_74 ic_1 ?_
            refine ao_iload_n (pc := 75) X dX4_night_75 rfl ?_
            refine ao_ishl (pc := 76) X dX4_night_76 ?_
            refine ao_ior (pc := 77) X dX4_night_77 ?_
            refine ao_ltI (fun x10 => ?_)
            refine ao_istore_n (pc := 78) (lv' := [(2, .int x10), (0, .ref (eAd E 33)), (1, .int p1), (3, .int p3)]) X dX4_night_78 rfl (by decide) rfl ?_
            refine ao_iinc (pc := 79) (k := 3) (v := p3 + (1 : Int32)) (lv' := [(3, .int (p3 + (1 : Int32))), (2, .int x10), (0, .ref (eAd E 33)), (1, .int p1)]) X dX4_night_79 rfl (ii_ic ic_1) (by decide) rfl ?_
            refine ao_goto (pc := 82) (tgt := 4) X dX4_night_82 (by decide) ?_
            refine ao_sub [2, 3, 1, 0] rfl ?_
            exact ih p1 x10 (p3 + (1 : Int32)) m9
def fX4_night_33 (v1 : Int32) (μ : Mem) : Option (Int32 × Mem) :=
  fX4_night_33_b4 FU v1 (0 : Int32) (0 : Int32) μ
set_option maxRecDepth 100000 in
set_option maxHeartbeats 4000000 in
theorem mX4_night_33 {E : En} {l : Launch} (hI : Inj E) (v1 : Int32) (μ : Mem) : MtI E l yX4_night cX4_night 4 (some .int) 4 [.ref (eAd E 33), .int v1] μ (fX4_night_33 v1 μ) := by
  refine mtI_of (own := RX4) [(0, .ref (eAd E 33)), (1, .int v1)] hI rfl (by decide) (Nat.le_of_ble_eq_true rfl) (Nat.le_of_ble_eq_true rfl) rfl (fun Z hl0 X hr => ?_)
  unfold fX4_night_33
  refine ao_iconst (pc := 0) X dX4_night_0 ic_0 ?_
  refine ao_istore_n (pc := 1) (lv' := [(2, .int (0 : Int32)), (0, .ref (eAd E 33)), (1, .int v1)]) X dX4_night_1 rfl (by decide) rfl ?_
  refine ao_iconst (pc := 2) X dX4_night_2 ic_0 ?_
  refine ao_istore_n (pc := 3) (lv' := [(3, .int (0 : Int32)), (2, .int (0 : Int32)), (0, .ref (eAd E 33)), (1, .int v1)]) X dX4_night_3 rfl (by decide) rfl ?_
  refine ao_sub [2, 3, 1, 0] rfl ?_
  exact bX4_night_33_4 hI hl0 X hr FU v1 (0 : Int32) (0 : Int32) μ
def fX4_pass_33_b5 : Nat → Int32 → Int32 → Int32 → Int32 → Mem → Option (Int32 × Mem)
  | 0, _, _, _, _, _ => none
  | n + 1, p1, p2, p3, p4, μ =>
  if p1 ≤ p4 then (some (p3, μ))
  else bnd (fX4_night_33 p2 μ) fun r1 m2 =>
    lt (p3 ||| r1) fun x3 =>
    fX4_pass_33_b5 n p1 p2 x3 (p4 + (1 : Int32)) m2
set_option maxRecDepth 100000 in
set_option maxHeartbeats 4000000 in
theorem bX4_pass_33_5 {E : En} {l : Launch} {Z : Zt} (hI : Inj E) (hl0 : lZ l Z) (X : Cx E Z cX4_pass RX4 5 5) (hr : rtOf Z = some .int) : ∀ (n : Nat) (p1 : Int32) (p2 : Int32) (p3 : Int32) (p4 : Int32) (μ : Mem), AO E Z 5 (QI E Z) 5 [(0, .ref (eAd E 33)), (1, .int p1), (2, .int p2), (3, .int p3), (4, .int p4)] [] μ (fX4_pass_33_b5 n p1 p2 p3 p4 μ) := by
  intro n
  induction n with
  | zero =>
    intros
    exact ao_none
  | succ n ih =>
    intro p1 p2 p3 p4 μ
    rw [fX4_pass_33_b5]
    refine ao_iload (pc := 5) X dX4_pass_5 rfl ?_
    refine ao_iload_n (pc := 7) X dX4_pass_7 rfl ?_
    refine ao_icmp_ge (pc := 8) (tgt := 25) X dX4_pass_8 (by decide) (fun _ => ?_) (fun _ => ?_)
    · refine ao_iload_n (pc := 25) X dX4_pass_25 rfl ?_
      exact ao_iret (pc := 26) X hr dX4_pass_26
    · refine ao_iload_n (pc := 11) X dX4_pass_11 rfl ?_
      refine ao_aload_n (pc := 12) X dX4_pass_12 rfl ?_
      refine ao_iload_n (pc := 13) X dX4_pass_13 rfl ?_
      refine ao_callVI (pc := 14) (As := [.int p2]) (st := [.int p3]) X hl0 dX4_pass_14 yv_X4_night so_33 ml_RX4_112 (mX4_night_33 hI p2 μ) (Nat.le_of_ble_eq_true rfl) rfl rfl (Nat.le_of_ble_eq_true rfl) (fun r1 m2 => ?_)
      refine ao_ior (pc := 17) X dX4_pass_17 ?_
      refine ao_ltI (fun x3 => ?_)
      refine ao_istore_n (pc := 18) (lv' := [(3, .int x3), (0, .ref (eAd E 33)), (1, .int p1), (2, .int p2), (4, .int p4)]) X dX4_pass_18 rfl (by decide) rfl ?_
      refine ao_iinc (pc := 19) (k := 4) (v := p4 + (1 : Int32)) (lv' := [(4, .int (p4 + (1 : Int32))), (3, .int x3), (0, .ref (eAd E 33)), (1, .int p1), (2, .int p2)]) X dX4_pass_19 rfl (ii_ic ic_1) (by decide) rfl ?_
      refine ao_goto (pc := 22) (tgt := 5) X dX4_pass_22 (by decide) ?_
      refine ao_sub [2, 3, 4, 1, 0] rfl ?_
      exact ih p1 p2 x3 (p4 + (1 : Int32)) m2
def fX4_pass_33 (v1 : Int32) (v2 : Int32) (μ : Mem) : Option (Int32 × Mem) :=
  fX4_pass_33_b5 FU v1 v2 (0 : Int32) (0 : Int32) μ
set_option maxRecDepth 100000 in
set_option maxHeartbeats 4000000 in
theorem mX4_pass_33 {E : En} {l : Launch} (hI : Inj E) (v1 : Int32) (v2 : Int32) (μ : Mem) : MtI E l yX4_pass cX4_pass 5 (some .int) 5 [.ref (eAd E 33), .int v1, .int v2] μ (fX4_pass_33 v1 v2 μ) := by
  refine mtI_of (own := RX4) [(0, .ref (eAd E 33)), (1, .int v1), (2, .int v2)] hI rfl (by decide) (Nat.le_of_ble_eq_true rfl) (Nat.le_of_ble_eq_true rfl) rfl (fun Z hl0 X hr => ?_)
  unfold fX4_pass_33
  refine ao_iconst (pc := 0) X dX4_pass_0 ic_0 ?_
  refine ao_istore_n (pc := 1) (lv' := [(3, .int (0 : Int32)), (0, .ref (eAd E 33)), (1, .int v1), (2, .int v2)]) X dX4_pass_1 rfl (by decide) rfl ?_
  refine ao_iconst (pc := 2) X dX4_pass_2 ic_0 ?_
  refine ao_istore (pc := 3) (lv' := [(4, .int (0 : Int32)), (3, .int (0 : Int32)), (0, .ref (eAd E 33)), (1, .int v1), (2, .int v2)]) X dX4_pass_3 (by decide) rfl ?_
  refine ao_sub [2, 3, 4, 1, 0] rfl ?_
  exact bX4_pass_33_5 hI hl0 X hr FU v1 v2 (0 : Int32) (0 : Int32) μ
def fX7_tell__3 (v1 : Int64) (v3 : Int64) (μ : Mem) : Option (Unit × Mem) :=
  bnd (fX7_tell_3 v1 μ) fun r1 m2 =>
  bnd (fX7_add_3 v3 m2) fun r3 m4 =>
  some ((), m4)
set_option maxRecDepth 100000 in
set_option maxHeartbeats 4000000 in
theorem mX7_tell__3 {E : En} {l : Launch} (hI : Inj E) (v1 : Int64) (v3 : Int64) (μ : Mem) : MtV E l yX7_tell_ cX7_tell_ 5 (none) 3 [.ref (eAd E 3), .long v1, .long v3] μ (fX7_tell__3 v1 v3 μ) := by
  refine mtV_of (own := RX7) [(0, .ref (eAd E 3)), (1, .long v1), (3, .long v3)] hI rfl (by decide) (Nat.le_of_ble_eq_true rfl) (Nat.le_of_ble_eq_true rfl) rfl (fun Z hl0 X hr => ?_)
  unfold fX7_tell__3
  refine ao_aload_n (pc := 0) X dX7_tell__0 rfl ?_
  refine ao_lload_n (pc := 1) X dX7_tell__1 rfl ?_
  refine ao_callVV (pc := 2) (As := [.long v1]) (st := []) X hl0 dX7_tell__2 yv_X7_tell so_3 ml_RX7_24 (mX7_tell_3 hI v1 μ) (Nat.le_of_ble_eq_true rfl) rfl rfl (Nat.le_of_ble_eq_true rfl) (fun r1 m2 => ?_)
  refine ao_aload_n (pc := 5) X dX7_tell__5 rfl ?_
  refine ao_lload_n (pc := 6) X dX7_tell__6 rfl ?_
  refine ao_callVV (pc := 7) (As := [.long v3]) (st := []) X hl0 dX7_tell__7 yv_X7_add so_3 ml_RX7_20 (mX7_add_3 hI v3 m2) (Nat.le_of_ble_eq_true rfl) rfl rfl (Nat.le_of_ble_eq_true rfl) (fun r3 m4 => ?_)
  exact ao_vret (pc := 10) X hr dX7_tell__10
def fX11_nights_0_b47 (p2 : Int32) (μ : Mem) : Option (Int32 × Mem) :=
  bnd (fX11_diedOf p2 μ) fun r7 m8 =>
  bnd (fX11_overOf p2 m8) fun r9 m10 =>
  bnd (fX7_tell__3 (Int32.toInt64 r7) (Int32.toInt64 r9) m10) fun r11 m12 =>
  some ((gI m12 33 4), m12)
set_option maxRecDepth 100000 in
set_option maxHeartbeats 4000000 in
theorem bX11_nights_0_47 {E : En} {l : Launch} {Z : Zt} (hI : Inj E) (hl0 : lZ l Z) (X : Cx E Z cX11_nights RX11 3 6) (hr : rtOf Z = some .int) (p2 : Int32) (μ : Mem) : AO E Z 3 (QI E Z) 47 [(0, .ref (eAd E 0)), (2, .int p2)] [] μ (fX11_nights_0_b47 p2 μ) := by
  unfold fX11_nights_0_b47
  refine ao_aload_n (pc := 47) X dX11_nights_47 rfl ?_
  refine ao_getR (pc := 48) X dX11_nights_48 fl_RX11_19 sf_0_1 ?_
  refine ao_iload_n (pc := 51) X dX11_nights_51 rfl ?_
  refine ao_callSI (pc := 52) (As := [.int p2]) (st := [.ref (eAd E 3)]) X hl0 dX11_nights_52 yv_X11_diedOf ml_RX11_238 (mX11_diedOf hI p2 μ) (Nat.le_of_ble_eq_true rfl) rfl rfl (Nat.le_of_ble_eq_true rfl) (fun r7 m8 => ?_)
  refine ao_i2l (pc := 55) X dX11_nights_55 ?_
  refine ao_iload_n (pc := 56) X dX11_nights_56 rfl ?_
  refine ao_callSI (pc := 57) (As := [.int p2]) (st := [.long (Int32.toInt64 r7), .ref (eAd E 3)]) X hl0 dX11_nights_57 yv_X11_overOf ml_RX11_241 (mX11_overOf hI p2 m8) (Nat.le_of_ble_eq_true rfl) rfl rfl (Nat.le_of_ble_eq_true rfl) (fun r9 m10 => ?_)
  refine ao_i2l (pc := 60) X dX11_nights_60 ?_
  refine ao_callVV (pc := 61) (As := [.long (Int32.toInt64 r7), .long (Int32.toInt64 r9)]) (st := []) X hl0 dX11_nights_61 yv_X7_tell_ so_3 ml_RX11_244 (mX7_tell__3 hI (Int32.toInt64 r7) (Int32.toInt64 r9) m10) (Nat.le_of_ble_eq_true rfl) rfl rfl (Nat.le_of_ble_eq_true rfl) (fun r11 m12 => ?_)
  refine ao_aload_n (pc := 64) X dX11_nights_64 rfl ?_
  refine ao_getR (pc := 65) X dX11_nights_65 fl_RX11_65 sf_0_7 ?_
  refine ao_getI (pc := 68) X dX11_nights_68 fl_RX11_206 sf_33_4 ?_
  exact ao_iret (pc := 71) X hr dX11_nights_71
def fX11_nights_0 (v1 : Int32) (μ : Mem) : Option (Int32 × Mem) :=
  if v1 < 0 then (some ((-1 : Int32), μ))
  else if v1 ≤ (60 : Int32) then (bnd (fX6_note_29_33 μ) fun r1 m2 =>
      bnd (fX4_pass_33 v1 (gI m2 0 14) m2) fun r3 m4 =>
      if v1 ≤ 0 then (fX11_nights_0_b47 r3 m4)
      else bnd (fX6_seal_29 m4) fun r5 m6 =>
        fX11_nights_0_b47 r3 m6)
    else some ((-1 : Int32), μ)
set_option maxRecDepth 100000 in
set_option maxHeartbeats 4000000 in
theorem mX11_nights_0 {E : En} {l : Launch} (hI : Inj E) (v1 : Int32) (μ : Mem) : MtI E l yX11_nights cX11_nights 3 (some .int) 6 [.ref (eAd E 0), .int v1] μ (fX11_nights_0 v1 μ) := by
  refine mtI_of (own := RX11) [(0, .ref (eAd E 0)), (1, .int v1)] hI rfl (by decide) (Nat.le_of_ble_eq_true rfl) (Nat.le_of_ble_eq_true rfl) rfl (fun Z hl0 X hr => ?_)
  unfold fX11_nights_0
  refine ao_iload_n (pc := 0) X dX11_nights_0 rfl ?_
  refine ao_if_lt (pc := 1) (tgt := 10) X dX11_nights_1 (by decide) (fun _ => ?_) (fun _ => ?_)
  · refine ao_iconst (pc := 10) X dX11_nights_10 ic_m1 ?_
    exact ao_iret (pc := 11) X hr dX11_nights_11
  · refine ao_iload_n (pc := 4) X dX11_nights_4 rfl ?_
    refine ao_bipush (pc := 5) X dX11_nights_5 bp_60 ?_
    refine ao_icmp_le (pc := 7) (tgt := 12) X dX11_nights_7 (by decide) (fun _ => ?_) (fun _ => ?_)
    · refine ao_aload_n (pc := 12) X dX11_nights_12 rfl ?_
      refine ao_getR (pc := 13) X dX11_nights_13 fl_RX11_75 sf_0_9 ?_
      refine ao_aload_n (pc := 16) X dX11_nights_16 rfl ?_
      refine ao_getR (pc := 17) X dX11_nights_17 fl_RX11_65 sf_0_7 ?_
      refine ao_callVV (pc := 20) (As := [.ref (eAd E 33)]) (st := []) X hl0 dX11_nights_20 yv_X6_note so_29 ml_RX11_212 (mX6_note_29_33 hI μ) (Nat.le_of_ble_eq_true rfl) rfl rfl (Nat.le_of_ble_eq_true rfl) (fun r1 m2 => ?_)
      refine ao_aload_n (pc := 23) X dX11_nights_23 rfl ?_
      refine ao_getR (pc := 24) X dX11_nights_24 fl_RX11_65 sf_0_7 ?_
      refine ao_iload_n (pc := 27) X dX11_nights_27 rfl ?_
      refine ao_aload_n (pc := 28) X dX11_nights_28 rfl ?_
      refine ao_getI (pc := 29) X dX11_nights_29 fl_RX11_100 sf_0_14 ?_
      refine ao_callVI (pc := 32) (As := [.int v1, .int (gI m2 0 14)]) (st := []) X hl0 dX11_nights_32 yv_X4_pass so_33 ml_RX11_232 (mX4_pass_33 hI v1 (gI m2 0 14) m2) (Nat.le_of_ble_eq_true rfl) rfl rfl (Nat.le_of_ble_eq_true rfl) (fun r3 m4 => ?_)
      refine ao_istore_n (pc := 35) (lv' := [(2, .int r3), (0, .ref (eAd E 0)), (1, .int v1)]) X dX11_nights_35 rfl (by decide) rfl ?_
      refine ao_iload_n (pc := 36) X dX11_nights_36 rfl ?_
      refine ao_if_le (pc := 37) (tgt := 47) X dX11_nights_37 (by decide) (fun _ => ?_) (fun _ => ?_)
      · refine ao_sub [1, 0] rfl ?_
        exact bX11_nights_0_47 hI hl0 X hr r3 m4
      · refine ao_aload_n (pc := 40) X dX11_nights_40 rfl ?_
        refine ao_getR (pc := 41) X dX11_nights_41 fl_RX11_75 sf_0_9 ?_
        refine ao_callVV (pc := 44) (As := []) (st := []) X hl0 dX11_nights_44 yv_X6_seal so_29 ml_RX11_235 (mX6_seal_29 hI m4) (Nat.le_of_ble_eq_true rfl) rfl rfl (Nat.le_of_ble_eq_true rfl) (fun r5 m6 => ?_)
        refine ao_sub [1, 0] rfl ?_
        exact bX11_nights_0_47 hI hl0 X hr r3 m6
    · refine ao_iconst (pc := 10) X dX11_nights_10 ic_m1 ?_
      exact ao_iret (pc := 11) X hr dX11_nights_11
