def fX12_count_122 (v1 : Int32) (μ : Mem) : Option (Int32 × Mem) :=
  lt (sI μ 122 17 (0 : Int32)) fun m1 =>
  if v1 = (0 : Int32) then (some ((gI m1 122 1), m1))
  else if v1 = (1 : Int32) then (some ((gI m1 122 8), m1))
  else if v1 = (2 : Int32) then (gd (inb (26 : Int32) 27) (some ((gI m1 123 (ix (26 : Int32))), m1)))
  else if v1 = (3 : Int32) then (some ((gI m1 122 12), m1))
  else if v1 = (4 : Int32) then (bnd (fX12_ofKind_122_123 (v1 - (4 : Int32)) m1) fun r7 m8 =>
    some (r7, m8))
  else if v1 = (5 : Int32) then (bnd (fX12_ofKind_122_123 (v1 - (4 : Int32)) m1) fun r10 m11 =>
    some (r10, m11))
  else if v1 = (6 : Int32) then (bnd (fX12_ofKind_122_123 (v1 - (4 : Int32)) m1) fun r13 m14 =>
    some (r13, m14))
  else if v1 = (7 : Int32) then (bnd (fX12_ofKind_122_123 (v1 - (4 : Int32)) m1) fun r16 m17 =>
    some (r16, m17))
  else if v1 = (8 : Int32) then (bnd (fX12_ofKind_122_123 (v1 - (4 : Int32)) m1) fun r19 m20 =>
    some (r19, m20))
  else if v1 = (9 : Int32) then (bnd (fX12_ofKind_122_123 (v1 - (4 : Int32)) m1) fun r22 m23 =>
    some (r22, m23))
  else if v1 = (10 : Int32) then (bnd (fX12_allGoods_122 m1) fun r25 m26 =>
    some (r25, m26))
  else if v1 = (11 : Int32) then (some ((gI m1 122 29), m1))
  else if v1 = (12 : Int32) then (some ((gI m1 122 16), m1))
  else if v1 = (13 : Int32) then (some ((gI m1 122 14), m1))
  else some ((-1 : Int32), m1)
set_option maxRecDepth 100000 in
set_option maxHeartbeats 4000000 in
theorem mX12_count_122 {E : En} {l : Launch} (hI : Inj E) (v1 : Int32) (μ : Mem) : MtI E l yX12_count cX12_count 2 (some .int) 2 [.ref (eAd E 122), .int v1] μ (fX12_count_122 v1 μ) := by
  refine mtI_of (own := RX12) [(0, .ref (eAd E 122)), (1, .int v1)] hI rfl (by decide) (Nat.le_of_ble_eq_true rfl) (Nat.le_of_ble_eq_true rfl) rfl (fun Z hl0 X hr => ?_)
  unfold fX12_count_122
  refine ao_aload_n (pc := 0) X dX12_count_0 rfl ?_
  refine ao_iconst (pc := 1) X dX12_count_1 ic_0 ?_
  refine ao_putI (pc := 2) X dX12_count_2 fp_RX12_95 sf_122_17 ?_
  refine ao_lt (fun m1 => ?_)
  refine ao_iload_n (pc := 5) X dX12_count_5 rfl ?_
  refine ao_ite (cd := v1 = (0 : Int32)) (fun c => ao_tabIn (pc := 6) (k := (0 : Int32)) (tgt := 76) X dX12_count_6 c (by decide) (by decide) rfl (by decide) ?_) (fun n2 => ?_)
  · refine ao_aload_n (pc := 76) X dX12_count_76 rfl ?_
    refine ao_getI (pc := 77) X dX12_count_77 fl_RX12_101 sf_122_1 ?_
    exact ao_iret (pc := 80) X hr dX12_count_80
  refine ao_ite (cd := v1 = (1 : Int32)) (fun c => ao_tabIn (pc := 6) (k := (1 : Int32)) (tgt := 81) X dX12_count_6 c (by decide) (by decide) rfl (by decide) ?_) (fun n3 => ?_)
  · refine ao_aload_n (pc := 81) X dX12_count_81 rfl ?_
    refine ao_getI (pc := 82) X dX12_count_82 fl_RX12_181 sf_122_8 ?_
    exact ao_iret (pc := 85) X hr dX12_count_85
  refine ao_ite (cd := v1 = (2 : Int32)) (fun c => ao_tabIn (pc := 6) (k := (2 : Int32)) (tgt := 86) X dX12_count_6 c (by decide) (by decide) rfl (by decide) ?_) (fun n4 => ?_)
  · refine ao_aload_n (pc := 86) X dX12_count_86 rfl ?_
    refine ao_getR (pc := 87) X dX12_count_87 fl_RX12_9 sf_122_0 ?_
    refine ao_bipush (pc := 90) X dX12_count_90 bp_26 ?_
    refine ao_iald (pc := 92) X dX12_count_92 sa_123 ?_
    exact ao_iret (pc := 93) X hr dX12_count_93
  refine ao_ite (cd := v1 = (3 : Int32)) (fun c => ao_tabIn (pc := 6) (k := (3 : Int32)) (tgt := 94) X dX12_count_6 c (by decide) (by decide) rfl (by decide) ?_) (fun n5 => ?_)
  · refine ao_aload_n (pc := 94) X dX12_count_94 rfl ?_
    refine ao_getI (pc := 95) X dX12_count_95 fl_RX12_41 sf_122_12 ?_
    exact ao_iret (pc := 98) X hr dX12_count_98
  refine ao_ite (cd := v1 = (4 : Int32)) (fun c => ao_tabIn (pc := 6) (k := (4 : Int32)) (tgt := 99) X dX12_count_6 c (by decide) (by decide) rfl (by decide) ?_) (fun n6 => ?_)
  · refine ao_aload_n (pc := 99) X dX12_count_99 rfl ?_
    refine ao_aload_n (pc := 100) X dX12_count_100 rfl ?_
    refine ao_getR (pc := 101) X dX12_count_101 fl_RX12_9 sf_122_0 ?_
    refine ao_iload_n (pc := 104) X dX12_count_104 rfl ?_
    refine ao_iconst (pc := 105) X dX12_count_105 ic_4 ?_
    refine ao_isub (pc := 106) X dX12_count_106 ?_
    refine ao_callVI (pc := 107) (As := [.ref (eAd E 123), .int (v1 - (4 : Int32))]) (st := []) X hl0 dX12_count_107 yv_X12_ofKind so_122 ml_RX12_271 (mX12_ofKind_122_123 hI (v1 - (4 : Int32)) m1) (Nat.le_of_ble_eq_true rfl) rfl rfl (Nat.le_of_ble_eq_true rfl) (fun r7 m8 => ?_)
    exact ao_iret (pc := 110) X hr dX12_count_110
  refine ao_ite (cd := v1 = (5 : Int32)) (fun c => ao_tabIn (pc := 6) (k := (5 : Int32)) (tgt := 99) X dX12_count_6 c (by decide) (by decide) rfl (by decide) ?_) (fun n9 => ?_)
  · refine ao_aload_n (pc := 99) X dX12_count_99 rfl ?_
    refine ao_aload_n (pc := 100) X dX12_count_100 rfl ?_
    refine ao_getR (pc := 101) X dX12_count_101 fl_RX12_9 sf_122_0 ?_
    refine ao_iload_n (pc := 104) X dX12_count_104 rfl ?_
    refine ao_iconst (pc := 105) X dX12_count_105 ic_4 ?_
    refine ao_isub (pc := 106) X dX12_count_106 ?_
    refine ao_callVI (pc := 107) (As := [.ref (eAd E 123), .int (v1 - (4 : Int32))]) (st := []) X hl0 dX12_count_107 yv_X12_ofKind so_122 ml_RX12_271 (mX12_ofKind_122_123 hI (v1 - (4 : Int32)) m1) (Nat.le_of_ble_eq_true rfl) rfl rfl (Nat.le_of_ble_eq_true rfl) (fun r10 m11 => ?_)
    exact ao_iret (pc := 110) X hr dX12_count_110
  refine ao_ite (cd := v1 = (6 : Int32)) (fun c => ao_tabIn (pc := 6) (k := (6 : Int32)) (tgt := 99) X dX12_count_6 c (by decide) (by decide) rfl (by decide) ?_) (fun n12 => ?_)
  · refine ao_aload_n (pc := 99) X dX12_count_99 rfl ?_
    refine ao_aload_n (pc := 100) X dX12_count_100 rfl ?_
    refine ao_getR (pc := 101) X dX12_count_101 fl_RX12_9 sf_122_0 ?_
    refine ao_iload_n (pc := 104) X dX12_count_104 rfl ?_
    refine ao_iconst (pc := 105) X dX12_count_105 ic_4 ?_
    refine ao_isub (pc := 106) X dX12_count_106 ?_
    refine ao_callVI (pc := 107) (As := [.ref (eAd E 123), .int (v1 - (4 : Int32))]) (st := []) X hl0 dX12_count_107 yv_X12_ofKind so_122 ml_RX12_271 (mX12_ofKind_122_123 hI (v1 - (4 : Int32)) m1) (Nat.le_of_ble_eq_true rfl) rfl rfl (Nat.le_of_ble_eq_true rfl) (fun r13 m14 => ?_)
    exact ao_iret (pc := 110) X hr dX12_count_110
  refine ao_ite (cd := v1 = (7 : Int32)) (fun c => ao_tabIn (pc := 6) (k := (7 : Int32)) (tgt := 99) X dX12_count_6 c (by decide) (by decide) rfl (by decide) ?_) (fun n15 => ?_)
  · refine ao_aload_n (pc := 99) X dX12_count_99 rfl ?_
    refine ao_aload_n (pc := 100) X dX12_count_100 rfl ?_
    refine ao_getR (pc := 101) X dX12_count_101 fl_RX12_9 sf_122_0 ?_
    refine ao_iload_n (pc := 104) X dX12_count_104 rfl ?_
    refine ao_iconst (pc := 105) X dX12_count_105 ic_4 ?_
    refine ao_isub (pc := 106) X dX12_count_106 ?_
    refine ao_callVI (pc := 107) (As := [.ref (eAd E 123), .int (v1 - (4 : Int32))]) (st := []) X hl0 dX12_count_107 yv_X12_ofKind so_122 ml_RX12_271 (mX12_ofKind_122_123 hI (v1 - (4 : Int32)) m1) (Nat.le_of_ble_eq_true rfl) rfl rfl (Nat.le_of_ble_eq_true rfl) (fun r16 m17 => ?_)
    exact ao_iret (pc := 110) X hr dX12_count_110
  refine ao_ite (cd := v1 = (8 : Int32)) (fun c => ao_tabIn (pc := 6) (k := (8 : Int32)) (tgt := 99) X dX12_count_6 c (by decide) (by decide) rfl (by decide) ?_) (fun n18 => ?_)
  · refine ao_aload_n (pc := 99) X dX12_count_99 rfl ?_
    refine ao_aload_n (pc := 100) X dX12_count_100 rfl ?_
    refine ao_getR (pc := 101) X dX12_count_101 fl_RX12_9 sf_122_0 ?_
    refine ao_iload_n (pc := 104) X dX12_count_104 rfl ?_
    refine ao_iconst (pc := 105) X dX12_count_105 ic_4 ?_
    refine ao_isub (pc := 106) X dX12_count_106 ?_
    refine ao_callVI (pc := 107) (As := [.ref (eAd E 123), .int (v1 - (4 : Int32))]) (st := []) X hl0 dX12_count_107 yv_X12_ofKind so_122 ml_RX12_271 (mX12_ofKind_122_123 hI (v1 - (4 : Int32)) m1) (Nat.le_of_ble_eq_true rfl) rfl rfl (Nat.le_of_ble_eq_true rfl) (fun r19 m20 => ?_)
    exact ao_iret (pc := 110) X hr dX12_count_110
  refine ao_ite (cd := v1 = (9 : Int32)) (fun c => ao_tabIn (pc := 6) (k := (9 : Int32)) (tgt := 99) X dX12_count_6 c (by decide) (by decide) rfl (by decide) ?_) (fun n21 => ?_)
  · refine ao_aload_n (pc := 99) X dX12_count_99 rfl ?_
    refine ao_aload_n (pc := 100) X dX12_count_100 rfl ?_
    refine ao_getR (pc := 101) X dX12_count_101 fl_RX12_9 sf_122_0 ?_
    refine ao_iload_n (pc := 104) X dX12_count_104 rfl ?_
    refine ao_iconst (pc := 105) X dX12_count_105 ic_4 ?_
    refine ao_isub (pc := 106) X dX12_count_106 ?_
    refine ao_callVI (pc := 107) (As := [.ref (eAd E 123), .int (v1 - (4 : Int32))]) (st := []) X hl0 dX12_count_107 yv_X12_ofKind so_122 ml_RX12_271 (mX12_ofKind_122_123 hI (v1 - (4 : Int32)) m1) (Nat.le_of_ble_eq_true rfl) rfl rfl (Nat.le_of_ble_eq_true rfl) (fun r22 m23 => ?_)
    exact ao_iret (pc := 110) X hr dX12_count_110
  refine ao_ite (cd := v1 = (10 : Int32)) (fun c => ao_tabIn (pc := 6) (k := (10 : Int32)) (tgt := 111) X dX12_count_6 c (by decide) (by decide) rfl (by decide) ?_) (fun n24 => ?_)
  · refine ao_aload_n (pc := 111) X dX12_count_111 rfl ?_
    refine ao_callVI (pc := 112) (As := []) (st := []) X hl0 dX12_count_112 yv_X12_allGoods so_122 ml_RX12_165 (mX12_allGoods_122 hI m1) (Nat.le_of_ble_eq_true rfl) rfl rfl (Nat.le_of_ble_eq_true rfl) (fun r25 m26 => ?_)
    exact ao_iret (pc := 115) X hr dX12_count_115
  refine ao_ite (cd := v1 = (11 : Int32)) (fun c => ao_tabIn (pc := 6) (k := (11 : Int32)) (tgt := 116) X dX12_count_6 c (by decide) (by decide) rfl (by decide) ?_) (fun n27 => ?_)
  · refine ao_aload_n (pc := 116) X dX12_count_116 rfl ?_
    refine ao_getI (pc := 117) X dX12_count_117 fl_RX12_175 sf_122_29 ?_
    exact ao_iret (pc := 120) X hr dX12_count_120
  refine ao_ite (cd := v1 = (12 : Int32)) (fun c => ao_tabIn (pc := 6) (k := (12 : Int32)) (tgt := 121) X dX12_count_6 c (by decide) (by decide) rfl (by decide) ?_) (fun n28 => ?_)
  · refine ao_aload_n (pc := 121) X dX12_count_121 rfl ?_
    refine ao_getI (pc := 122) X dX12_count_122 fl_RX12_98 sf_122_16 ?_
    exact ao_iret (pc := 125) X hr dX12_count_125
  refine ao_ite (cd := v1 = (13 : Int32)) (fun c => ao_tabIn (pc := 6) (k := (13 : Int32)) (tgt := 126) X dX12_count_6 c (by decide) (by decide) rfl (by decide) ?_) (fun n29 => ?_)
  · refine ao_aload_n (pc := 126) X dX12_count_126 rfl ?_
    refine ao_getI (pc := 127) X dX12_count_127 fl_RX12_108 sf_122_14 ?_
    exact ao_iret (pc := 130) X hr dX12_count_130
  refine ao_tabOut (pc := 6) (tgt := 131) X dX12_count_6 (by have := lv_neT (a := 0) n2 (by decide); have := lv_neT (a := 1) n3 (by decide); have := lv_neT (a := 2) n4 (by decide); have := lv_neT (a := 3) n5 (by decide); have := lv_neT (a := 4) n6 (by decide); have := lv_neT (a := 5) n9 (by decide); have := lv_neT (a := 6) n12 (by decide); have := lv_neT (a := 7) n15 (by decide); have := lv_neT (a := 8) n18 (by decide); have := lv_neT (a := 9) n21 (by decide); have := lv_neT (a := 10) n24 (by decide); have := lv_neT (a := 11) n27 (by decide); have := lv_neT (a := 12) n28 (by decide); have := lv_neT (a := 13) n29 (by decide); omega) (by decide) ?_
  refine ao_iconst (pc := 131) X dX12_count_131 ic_m1 ?_
  exact ao_iret (pc := 132) X hr dX12_count_132
def fX12_row_122 (v1 : Int32) (μ : Mem) : Option (Int64 × Mem) :=
  lt (sI μ 122 17 (0 : Int32)) fun m1 =>
  bnd (fX12_in v1 (0 : Int32) ((gI m1 122 16) - (1 : Int32)) m1) fun r2 m3 =>
  if r2 = 0 then (bnd (fX12_lost_122 m3) fun r4 m5 =>
    some ((Int32.toInt64 r4), m5))
  else gd (inb v1 16) (some ((gL m3 134 (ix v1)), m3))
set_option maxRecDepth 100000 in
set_option maxHeartbeats 4000000 in
theorem mX12_row_122 {E : En} {l : Launch} (hI : Inj E) (v1 : Int32) (μ : Mem) : MtL E l yX12_row cX12_row 2 (some .long) 2 [.ref (eAd E 122), .int v1] μ (fX12_row_122 v1 μ) := by
  refine mtL_of (own := RX12) [(0, .ref (eAd E 122)), (1, .int v1)] hI rfl (by decide) (Nat.le_of_ble_eq_true rfl) (Nat.le_of_ble_eq_true rfl) rfl (fun Z hl0 X hr => ?_)
  unfold fX12_row_122
  refine ao_aload_n (pc := 0) X dX12_row_0 rfl ?_
  refine ao_iconst (pc := 1) X dX12_row_1 ic_0 ?_
  refine ao_putI (pc := 2) X dX12_row_2 fp_RX12_95 sf_122_17 ?_
  refine ao_lt (fun m1 => ?_)
  refine ao_iload_n (pc := 5) X dX12_row_5 rfl ?_
  refine ao_iconst (pc := 6) X dX12_row_6 ic_0 ?_
  refine ao_aload_n (pc := 7) X dX12_row_7 rfl ?_
  refine ao_getI (pc := 8) X dX12_row_8 fl_RX12_98 sf_122_16 ?_
  refine ao_iconst (pc := 11) X dX12_row_11 ic_1 ?_
  refine ao_isub (pc := 12) X dX12_row_12 ?_
  refine ao_callSI (pc := 13) (As := [.int v1, .int (0 : Int32), .int ((gI m1 122 16) - (1 : Int32))]) (st := []) X hl0 dX12_row_13 yv_X12_in ml_RX12_104 (mX12_in hI v1 (0 : Int32) ((gI m1 122 16) - (1 : Int32)) m1) (Nat.le_of_ble_eq_true rfl) rfl rfl (Nat.le_of_ble_eq_true rfl) (fun r2 m3 => ?_)
  refine ao_if_eq (pc := 16) (tgt := 28) X dX12_row_16 (by decide) (fun _ => ?_) (fun _ => ?_)
  · refine ao_aload_n (pc := 28) X dX12_row_28 rfl ?_
    refine ao_callVI (pc := 29) (As := []) (st := []) X hl0 dX12_row_29 yv_X12_lost so_122 ml_RX12_228 (mX12_lost_122 hI m3) (Nat.le_of_ble_eq_true rfl) rfl rfl (Nat.le_of_ble_eq_true rfl) (fun r4 m5 => ?_)
    refine ao_i2l (pc := 32) X dX12_row_32 ?_
    exact ao_lret (pc := 33) X hr dX12_row_33
  · refine ao_aload_n (pc := 19) X dX12_row_19 rfl ?_
    refine ao_getR (pc := 20) X dX12_row_20 fl_RX12_49 sf_122_15 ?_
    refine ao_iload_n (pc := 23) X dX12_row_23 rfl ?_
    refine ao_lald (pc := 24) X dX12_row_24 sa_134 ?_
    refine ao_goto (pc := 25) (tgt := 33) X dX12_row_25 (by decide) ?_
    exact ao_lret (pc := 33) X hr dX12_row_33
