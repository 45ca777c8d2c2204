def fX12_hopes_122 (v1 : Int32) (μ : Mem) : Option (Int32 × Mem) :=
  lt (sI μ 122 17 (0 : Int32)) fun m1 =>
  bnd (fX12_isHeir v1 m1) fun r2 m3 =>
  if r2 = 0 then (some ((-1 : Int32), m3))
  else bnd (fX12_haveBy_122_132 v1 (0 : Int32) m3) fun r4 m5 =>
    lt (sI m5 122 16 (0 : Int32)) fun m6 =>
    bnd (fX12_haveBy_122_132 v1 (5 : Int32) m6) fun r7 m8 =>
    bnd (fX12_tell_122 (Int32.toInt64 (r7 - r4)) m8) fun r9 m10 =>
    bnd (fX12_haveBy_122_132 v1 (4 : Int32) m10) fun r11 m12 =>
    bnd (fX12_tell_122 (Int32.toInt64 (r11 - r4)) m12) fun r13 m14 =>
    bnd (fX12_haveBy_122_132 v1 (2 : Int32) m14) fun r15 m16 =>
    some ((r15 - r4), m16)
set_option maxRecDepth 100000 in
set_option maxHeartbeats 4000000 in
theorem mX12_hopes_122 {E : En} {l : Launch} (hI : Inj E) (v1 : Int32) (μ : Mem) : MtI E l yX12_hopes cX12_hopes 3 (some .int) 4 [.ref (eAd E 122), .int v1] μ (fX12_hopes_122 v1 μ) := by
  refine mtI_of (own := RX12) [(0, .ref (eAd E 122)), (1, .int v1)] hI rfl (by decide) (Nat.le_of_ble_eq_true rfl) (Nat.le_of_ble_eq_true rfl) rfl (fun Z hl0 X hr => ?_)
  unfold fX12_hopes_122
  refine ao_aload_n (pc := 0) X dX12_hopes_0 rfl ?_
  refine ao_iconst (pc := 1) X dX12_hopes_1 ic_0 ?_
  refine ao_putI (pc := 2) X dX12_hopes_2 fp_RX12_95 sf_122_17 ?_
  refine ao_lt (fun m1 => ?_)
  refine ao_iload_n (pc := 5) X dX12_hopes_5 rfl ?_
  refine ao_callSI (pc := 6) (As := [.int v1]) (st := []) X hl0 dX12_hopes_6 yv_X12_isHeir ml_RX12_345 (mX12_isHeir hI v1 m1) (Nat.le_of_ble_eq_true rfl) rfl rfl (Nat.le_of_ble_eq_true rfl) (fun r2 m3 => ?_)
  refine ao_if_ne (pc := 9) (tgt := 14) X dX12_hopes_9 (by decide) (fun _ => ?_) (fun _ => ?_)
  · refine ao_aload_n (pc := 14) X dX12_hopes_14 rfl ?_
    refine ao_aload_n (pc := 15) X dX12_hopes_15 rfl ?_
    refine ao_getR (pc := 16) X dX12_hopes_16 fl_RX12_38 sf_122_11 ?_
    refine ao_iload_n (pc := 19) X dX12_hopes_19 rfl ?_
    refine ao_iconst (pc := 20) X dX12_hopes_20 ic_0 ?_
    refine ao_callVI (pc := 21) (As := [.ref (eAd E 132), .int v1, .int (0 : Int32)]) (st := []) X hl0 dX12_hopes_21 yv_X12_haveBy so_122 ml_RX12_342 (mX12_haveBy_122_132 hI v1 (0 : Int32) m3) (Nat.le_of_ble_eq_true rfl) rfl rfl (Nat.le_of_ble_eq_true rfl) (fun r4 m5 => ?_)
    refine ao_istore_n (pc := 24) (lv' := [(2, .int r4), (0, .ref (eAd E 122)), (1, .int v1)]) X dX12_hopes_24 rfl (by decide) rfl ?_
    refine ao_aload_n (pc := 25) X dX12_hopes_25 rfl ?_
    refine ao_iconst (pc := 26) X dX12_hopes_26 ic_0 ?_
    refine ao_putI (pc := 27) X dX12_hopes_27 fp_RX12_98 sf_122_16 ?_
    refine ao_lt (fun m6 => ?_)
    refine ao_aload_n (pc := 30) X dX12_hopes_30 rfl ?_
    refine ao_aload_n (pc := 31) X dX12_hopes_31 rfl ?_
    refine ao_aload_n (pc := 32) X dX12_hopes_32 rfl ?_
    refine ao_getR (pc := 33) X dX12_hopes_33 fl_RX12_38 sf_122_11 ?_
    refine ao_iload_n (pc := 36) X dX12_hopes_36 rfl ?_
    refine ao_iconst (pc := 37) X dX12_hopes_37 ic_5 ?_
    refine ao_callVI (pc := 38) (As := [.ref (eAd E 132), .int v1, .int (5 : Int32)]) (st := [.ref (eAd E 122)]) X hl0 dX12_hopes_38 yv_X12_haveBy so_122 ml_RX12_342 (mX12_haveBy_122_132 hI v1 (5 : Int32) m6) (Nat.le_of_ble_eq_true rfl) rfl rfl (Nat.le_of_ble_eq_true rfl) (fun r7 m8 => ?_)
    refine ao_iload_n (pc := 41) X dX12_hopes_41 rfl ?_
    refine ao_isub (pc := 42) X dX12_hopes_42 ?_
    refine ao_i2l (pc := 43) X dX12_hopes_43 ?_
    refine ao_callVV (pc := 44) (As := [.long (Int32.toInt64 (r7 - r4))]) (st := []) X hl0 dX12_hopes_44 yv_X12_tell so_122 ml_RX12_267 (mX12_tell_122 hI (Int32.toInt64 (r7 - r4)) m8) (Nat.le_of_ble_eq_true rfl) rfl rfl (Nat.le_of_ble_eq_true rfl) (fun r9 m10 => ?_)
    refine ao_aload_n (pc := 47) X dX12_hopes_47 rfl ?_
    refine ao_aload_n (pc := 48) X dX12_hopes_48 rfl ?_
    refine ao_aload_n (pc := 49) X dX12_hopes_49 rfl ?_
    refine ao_getR (pc := 50) X dX12_hopes_50 fl_RX12_38 sf_122_11 ?_
    refine ao_iload_n (pc := 53) X dX12_hopes_53 rfl ?_
    refine ao_iconst (pc := 54) X dX12_hopes_54 ic_4 ?_
    refine ao_callVI (pc := 55) (As := [.ref (eAd E 132), .int v1, .int (4 : Int32)]) (st := [.ref (eAd E 122)]) X hl0 dX12_hopes_55 yv_X12_haveBy so_122 ml_RX12_342 (mX12_haveBy_122_132 hI v1 (4 : Int32) m10) (Nat.le_of_ble_eq_true rfl) rfl rfl (Nat.le_of_ble_eq_true rfl) (fun r11 m12 => ?_)
    refine ao_iload_n (pc := 58) X dX12_hopes_58 rfl ?_
    refine ao_isub (pc := 59) X dX12_hopes_59 ?_
    refine ao_i2l (pc := 60) X dX12_hopes_60 ?_
    refine ao_callVV (pc := 61) (As := [.long (Int32.toInt64 (r11 - r4))]) (st := []) X hl0 dX12_hopes_61 yv_X12_tell so_122 ml_RX12_267 (mX12_tell_122 hI (Int32.toInt64 (r11 - r4)) m12) (Nat.le_of_ble_eq_true rfl) rfl rfl (Nat.le_of_ble_eq_true rfl) (fun r13 m14 => ?_)
    refine ao_aload_n (pc := 64) X dX12_hopes_64 rfl ?_
    refine ao_aload_n (pc := 65) X dX12_hopes_65 rfl ?_
    refine ao_getR (pc := 66) X dX12_hopes_66 fl_RX12_38 sf_122_11 ?_
    refine ao_iload_n (pc := 69) X dX12_hopes_69 rfl ?_
    refine ao_iconst (pc := 70) X dX12_hopes_70 ic_2 ?_
    refine ao_callVI (pc := 71) (As := [.ref (eAd E 132), .int v1, .int (2 : Int32)]) (st := []) X hl0 dX12_hopes_71 yv_X12_haveBy so_122 ml_RX12_342 (mX12_haveBy_122_132 hI v1 (2 : Int32) m14) (Nat.le_of_ble_eq_true rfl) rfl rfl (Nat.le_of_ble_eq_true rfl) (fun r15 m16 => ?_)
    refine ao_iload_n (pc := 74) X dX12_hopes_74 rfl ?_
    refine ao_isub (pc := 75) X dX12_hopes_75 ?_
    exact ao_iret (pc := 76) X hr dX12_hopes_76
  · refine ao_iconst (pc := 12) X dX12_hopes_12 ic_m1 ?_
    exact ao_iret (pc := 13) X hr dX12_hopes_13
def fX11_fallsTo_0_26_b55 (k6 : Int32 → Int32 → Int32 → Int32 → Mem → Option (Int32 × Mem)) (p2 : Int32) (p3 : Int32) (p4 : Int32) (p5 : Int32) (p6 : Int32) (q0 : Int32) (μ : Mem) : Option (Int32 × Mem) :=
  if p6 < 0 then (k6 p2 p3 p4 (p5 + (1 : Int32)) μ)
  else if (4 : Int32) ≤ p6 then (k6 p2 p3 p4 (p5 + (1 : Int32)) μ)
    else gd (inb p6 4) (if (gI μ 26 (ix p6)) = p2 then (if q0 = 0 then (k6 p2 p3 p4 (p5 + (1 : Int32)) μ)
        else gd (inb p5 6) (bnd (fX2_worthOf_24 (gI μ 10 (ix p5)) μ) fun r6 m7 =>
          lt (p4 + r6) fun x8 =>
          k6 p2 p3 x8 (p5 + (1 : Int32)) m7))
      else k6 p2 p3 p4 (p5 + (1 : Int32)) μ)
set_option maxRecDepth 100000 in
set_option maxHeartbeats 4000000 in
theorem bX11_fallsTo_0_26_55 {E : En} {l : Launch} {Z : Zt} (hI : Inj E) (hl0 : lZ l Z) (X : Cx E Z cX11_fallsTo RX11 8 2) (hr : rtOf Z = some .int) {k6 : Int32 → Int32 → Int32 → Int32 → Mem → Option (Int32 × Mem)} (hk6 : ∀ (p2 : Int32) (p3 : Int32) (p4 : Int32) (p5 : Int32) (m : Mem), AO E Z 8 (QI E Z) 6 [(0, .ref (eAd E 0)), (1, .ref (eAd E 26)), (2, .int p2), (3, .int p3), (4, .int p4), (5, .int p5)] [] m (k6 p2 p3 p4 p5 m)) (p2 : Int32) (p3 : Int32) (p4 : Int32) (p5 : Int32) (p6 : Int32) (q0 : Int32) (μ : Mem) : AO E Z 8 (QI E Z) 55 [(0, .ref (eAd E 0)), (1, .ref (eAd E 26)), (2, .int p2), (3, .int p3), (4, .int p4), (5, .int p5), (6, .int p6)] [.int q0] μ (fX11_fallsTo_0_26_b55 k6 p2 p3 p4 p5 p6 q0 μ) := by
  unfold fX11_fallsTo_0_26_b55
  refine ao_istore (pc := 55) (lv' := [(7, .int q0), (0, .ref (eAd E 0)), (1, .ref (eAd E 26)), (2, .int p2), (3, .int p3), (4, .int p4), (5, .int p5), (6, .int p6)]) X dX11_fallsTo_55 (by decide) rfl ?_
  refine ao_iload (pc := 57) X dX11_fallsTo_57 rfl ?_
  refine ao_if_lt (pc := 59) (tgt := 104) X dX11_fallsTo_59 (by decide) (fun _ => ?_) (fun _ => ?_)
  · refine ao_iinc (pc := 104) (k := 6) (v := p5 + (1 : Int32)) (lv' := [(5, .int (p5 + (1 : Int32))), (7, .int q0), (0, .ref (eAd E 0)), (1, .ref (eAd E 26)), (2, .int p2), (3, .int p3), (4, .int p4), (6, .int p6)]) X dX11_fallsTo_104 rfl (ii_ic ic_1) (by decide) rfl ?_
    refine ao_goto (pc := 107) (tgt := 6) X dX11_fallsTo_107 (by decide) ?_
    refine ao_sub [2, 3, 4, 5, 6, 0] rfl ?_
    exact hk6 p2 p3 p4 (p5 + (1 : Int32)) μ
  · refine ao_iload (pc := 62) X dX11_fallsTo_62 rfl ?_
    refine ao_aload_n (pc := 64) X dX11_fallsTo_64 rfl ?_
    refine ao_alen (pc := 65) (v := (4 : Int32)) X dX11_fallsTo_65 sa_26 (by decide) ?_
    refine ao_icmp_ge (pc := 66) (tgt := 104) X dX11_fallsTo_66 (by decide) (fun _ => ?_) (fun _ => ?_)
    · refine ao_iinc (pc := 104) (k := 6) (v := p5 + (1 : Int32)) (lv' := [(5, .int (p5 + (1 : Int32))), (7, .int q0), (0, .ref (eAd E 0)), (1, .ref (eAd E 26)), (2, .int p2), (3, .int p3), (4, .int p4), (6, .int p6)]) X dX11_fallsTo_104 rfl (ii_ic ic_1) (by decide) rfl ?_
      refine ao_goto (pc := 107) (tgt := 6) X dX11_fallsTo_107 (by decide) ?_
      refine ao_sub [2, 3, 4, 5, 6, 0] rfl ?_
      exact hk6 p2 p3 p4 (p5 + (1 : Int32)) μ
    · refine ao_aload_n (pc := 69) X dX11_fallsTo_69 rfl ?_
      refine ao_iload (pc := 70) X dX11_fallsTo_70 rfl ?_
      refine ao_iald (pc := 72) X dX11_fallsTo_72 sa_26 ?_
      refine ao_iload_n (pc := 73) X dX11_fallsTo_73 rfl ?_
      refine ao_icmp_ne (pc := 74) (tgt := 104) X dX11_fallsTo_74 (by decide) (fun _ => ?_) (fun _ => ?_)
      · refine ao_iinc (pc := 104) (k := 6) (v := p5 + (1 : Int32)) (lv' := [(5, .int (p5 + (1 : Int32))), (7, .int q0), (0, .ref (eAd E 0)), (1, .ref (eAd E 26)), (2, .int p2), (3, .int p3), (4, .int p4), (6, .int p6)]) X dX11_fallsTo_104 rfl (ii_ic ic_1) (by decide) rfl ?_
        refine ao_goto (pc := 107) (tgt := 6) X dX11_fallsTo_107 (by decide) ?_
        refine ao_sub [2, 3, 4, 5, 6, 0] rfl ?_
        exact hk6 p2 p3 p4 (p5 + (1 : Int32)) μ
      · refine ao_iload (pc := 77) X dX11_fallsTo_77 rfl ?_
        refine ao_if_eq (pc := 79) (tgt := 104) X dX11_fallsTo_79 (by decide) (fun _ => ?_) (fun _ => ?_)
        · refine ao_iinc (pc := 104) (k := 6) (v := p5 + (1 : Int32)) (lv' := [(5, .int (p5 + (1 : Int32))), (7, .int q0), (0, .ref (eAd E 0)), (1, .ref (eAd E 26)), (2, .int p2), (3, .int p3), (4, .int p4), (6, .int p6)]) X dX11_fallsTo_104 rfl (ii_ic ic_1) (by decide) rfl ?_
          refine ao_goto (pc := 107) (tgt := 6) X dX11_fallsTo_107 (by decide) ?_
          refine ao_sub [2, 3, 4, 5, 6, 0] rfl ?_
          exact hk6 p2 p3 p4 (p5 + (1 : Int32)) μ
        · refine ao_iload (pc := 82) X dX11_fallsTo_82 rfl ?_
          refine ao_aload_n (pc := 84) X dX11_fallsTo_84 rfl ?_
          refine ao_getR (pc := 85) X dX11_fallsTo_85 fl_RX11_56 sf_0_6 ?_
          refine ao_aload_n (pc := 88) X dX11_fallsTo_88 rfl ?_
          refine ao_getR (pc := 89) X dX11_fallsTo_89 fl_RX11_26 sf_0_2 ?_
          refine ao_getR (pc := 92) X dX11_fallsTo_92 fl_RX11_169 sf_5_4 ?_
          refine ao_iload (pc := 95) X dX11_fallsTo_95 rfl ?_
          refine ao_iald (pc := 97) X dX11_fallsTo_97 sa_10 ?_
          refine ao_callVI (pc := 98) (As := [.int (gI μ 10 (ix p5))]) (st := [.int p4]) X hl0 dX11_fallsTo_98 yv_X2_worthOf so_24 ml_RX11_188 (mX2_worthOf_24 hI (gI μ 10 (ix p5)) μ) (Nat.le_of_ble_eq_true rfl) rfl rfl (Nat.le_of_ble_eq_true rfl) (fun r6 m7 => ?_)
          refine ao_iadd (pc := 101) X dX11_fallsTo_101 ?_
          refine ao_ltI (fun x8 => ?_)
          refine ao_istore (pc := 102) (lv' := [(4, .int x8), (7, .int q0), (0, .ref (eAd E 0)), (1, .ref (eAd E 26)), (2, .int p2), (3, .int p3), (5, .int p5), (6, .int p6)]) X dX11_fallsTo_102 (by decide) rfl ?_
          refine ao_iinc (pc := 104) (k := 6) (v := p5 + (1 : Int32)) (lv' := [(5, .int (p5 + (1 : Int32))), (4, .int x8), (7, .int q0), (0, .ref (eAd E 0)), (1, .ref (eAd E 26)), (2, .int p2), (3, .int p3), (6, .int p6)]) X dX11_fallsTo_104 rfl (ii_ic ic_1) (by decide) rfl ?_
          refine ao_goto (pc := 107) (tgt := 6) X dX11_fallsTo_107 (by decide) ?_
          refine ao_sub [3, 4, 5, 6, 1, 0] rfl ?_
          exact hk6 p2 p3 x8 (p5 + (1 : Int32)) m7
def fX11_fallsTo_0_26_b6 : Nat → Int32 → Int32 → Int32 → Int32 → Mem → Option (Int32 × Mem)
  | 0, _, _, _, _, _ => none
  | n + 1, p2, p3, p4, p5, μ =>
  if (gI μ 5 5) ≤ p5 then (some (p4, μ))
  else gd (inb p5 6) (lt ((gI μ 34 (ix p5)) - (2 : Int32)) fun x1 =>
    if p2 = 0 then (gd (inb p5 6) (if (gI μ 9 (ix p5)) = p3 then (fX11_fallsTo_0_26_b55 (fun p2 p3 p4 p5 m => fX11_fallsTo_0_26_b6 n p2 p3 p4 p5 m) p2 p3 p4 p5 x1 (1 : Int32) μ)
      else fX11_fallsTo_0_26_b55 (fun p2 p3 p4 p5 m => fX11_fallsTo_0_26_b6 n p2 p3 p4 p5 m) p2 p3 p4 p5 x1 (0 : Int32) μ))
    else fX11_fallsTo_0_26_b55 (fun p2 p3 p4 p5 m => fX11_fallsTo_0_26_b6 n p2 p3 p4 p5 m) p2 p3 p4 p5 x1 (1 : Int32) μ)
set_option maxRecDepth 100000 in
set_option maxHeartbeats 4000000 in
theorem bX11_fallsTo_0_26_6 {E : En} {l : Launch} {Z : Zt} (hI : Inj E) (hl0 : lZ l Z) (X : Cx E Z cX11_fallsTo RX11 8 2) (hr : rtOf Z = some .int) : ∀ (n : Nat) (p2 : Int32) (p3 : Int32) (p4 : Int32) (p5 : Int32) (μ : Mem), AO E Z 8 (QI E Z) 6 [(0, .ref (eAd E 0)), (1, .ref (eAd E 26)), (2, .int p2), (3, .int p3), (4, .int p4), (5, .int p5)] [] μ (fX11_fallsTo_0_26_b6 n p2 p3 p4 p5 μ) := by
  intro n
  induction n with
  | zero =>
    intros
    exact ao_none
  | succ n ih =>
    intro p2 p3 p4 p5 μ
    rw [fX11_fallsTo_0_26_b6]
    refine ao_iload (pc := 6) X dX11_fallsTo_6 rfl ?_
    refine ao_aload_n (pc := 8) X dX11_fallsTo_8 rfl ?_
    refine ao_getR (pc := 9) X dX11_fallsTo_9 fl_RX11_26 sf_0_2 ?_
    refine ao_getI (pc := 12) X dX11_fallsTo_12 fl_RX11_119 sf_5_5 ?_
    refine ao_icmp_ge (pc := 15) (tgt := 110) X dX11_fallsTo_15 (by decide) (fun _ => ?_) (fun _ => ?_)
    · refine ao_iload (pc := 110) X dX11_fallsTo_110 rfl ?_
      exact ao_iret (pc := 112) X hr dX11_fallsTo_112
    · refine ao_aload_n (pc := 18) X dX11_fallsTo_18 rfl ?_
      refine ao_getR (pc := 19) X dX11_fallsTo_19 fl_RX11_65 sf_0_7 ?_
      refine ao_getR (pc := 22) X dX11_fallsTo_22 fl_RX11_172 sf_33_0 ?_
      refine ao_iload (pc := 25) X dX11_fallsTo_25 rfl ?_
      refine ao_iald (pc := 27) X dX11_fallsTo_27 sa_34 ?_
      refine ao_iconst (pc := 28) X dX11_fallsTo_28 ic_2 ?_
      refine ao_isub (pc := 29) X dX11_fallsTo_29 ?_
      refine ao_ltI (fun x1 => ?_)
      refine ao_istore (pc := 30) (lv' := [(6, .int x1), (0, .ref (eAd E 0)), (1, .ref (eAd E 26)), (2, .int p2), (3, .int p3), (4, .int p4), (5, .int p5)]) X dX11_fallsTo_30 (by decide) rfl ?_
      refine ao_iload_n (pc := 32) X dX11_fallsTo_32 rfl ?_
      refine ao_if_ne (pc := 33) (tgt := 50) X dX11_fallsTo_33 (by decide) (fun _ => ?_) (fun _ => ?_)
      · refine ao_iconst (pc := 50) X dX11_fallsTo_50 ic_1 ?_
        refine ao_goto (pc := 51) (tgt := 55) X dX11_fallsTo_51 (by decide) ?_
        refine ao_sub [1, 2, 3, 4, 5, 6, 0] rfl ?_
        exact bX11_fallsTo_0_26_55 hI hl0 X hr ih p2 p3 p4 p5 x1 (1 : Int32) μ
      · refine ao_aload_n (pc := 36) X dX11_fallsTo_36 rfl ?_
        refine ao_getR (pc := 37) X dX11_fallsTo_37 fl_RX11_26 sf_0_2 ?_
        refine ao_getR (pc := 40) X dX11_fallsTo_40 fl_RX11_166 sf_5_3 ?_
        refine ao_iload (pc := 43) X dX11_fallsTo_43 rfl ?_
        refine ao_iald (pc := 45) X dX11_fallsTo_45 sa_9 ?_
        refine ao_iload_n (pc := 46) X dX11_fallsTo_46 rfl ?_
        refine ao_icmp_ne (pc := 47) (tgt := 54) X dX11_fallsTo_47 (by decide) (fun _ => ?_) (fun _ => ?_)
        · refine ao_iconst (pc := 54) X dX11_fallsTo_54 ic_0 ?_
          refine ao_sub [1, 2, 3, 4, 5, 6, 0] rfl ?_
          exact bX11_fallsTo_0_26_55 hI hl0 X hr ih p2 p3 p4 p5 x1 (0 : Int32) μ
        · refine ao_iconst (pc := 50) X dX11_fallsTo_50 ic_1 ?_
          refine ao_goto (pc := 51) (tgt := 55) X dX11_fallsTo_51 (by decide) ?_
          refine ao_sub [1, 2, 3, 4, 5, 6, 0] rfl ?_
          exact bX11_fallsTo_0_26_55 hI hl0 X hr ih p2 p3 p4 p5 x1 (1 : Int32) μ
def fX11_fallsTo_0_26 (v2 : Int32) (v3 : Int32) (μ : Mem) : Option (Int32 × Mem) :=
  fX11_fallsTo_0_26_b6 FU v2 v3 (0 : Int32) (0 : Int32) μ
set_option maxRecDepth 100000 in
set_option maxHeartbeats 4000000 in
theorem mX11_fallsTo_0_26 {E : En} {l : Launch} (hI : Inj E) (v2 : Int32) (v3 : Int32) (μ : Mem) : MtI E l yX11_fallsTo cX11_fallsTo 8 (some .int) 2 [.ref (eAd E 0), .ref (eAd E 26), .int v2, .int v3] μ (fX11_fallsTo_0_26 v2 v3 μ) := by
  refine mtI_of (own := RX11) [(0, .ref (eAd E 0)), (1, .ref (eAd E 26)), (2, .int v2), (3, .int v3)] hI rfl (by decide) (Nat.le_of_ble_eq_true rfl) (Nat.le_of_ble_eq_true rfl) rfl (fun Z hl0 X hr => ?_)
  unfold fX11_fallsTo_0_26
  refine ao_iconst (pc := 0) X dX11_fallsTo_0 ic_0 ?_
  refine ao_istore (pc := 1) (lv' := [(4, .int (0 : Int32)), (0, .ref (eAd E 0)), (1, .ref (eAd E 26)), (2, .int v2), (3, .int v3)]) X dX11_fallsTo_1 (by decide) rfl ?_
  refine ao_iconst (pc := 3) X dX11_fallsTo_3 ic_0 ?_
  refine ao_istore (pc := 4) (lv' := [(5, .int (0 : Int32)), (4, .int (0 : Int32)), (0, .ref (eAd E 0)), (1, .ref (eAd E 26)), (2, .int v2), (3, .int v3)]) X dX11_fallsTo_4 (by decide) rfl ?_
  refine ao_sub [2, 3, 4, 5, 1, 0] rfl ?_
  exact bX11_fallsTo_0_26_6 hI hl0 X hr FU v2 v3 (0 : Int32) (0 : Int32) μ
def fX11_reading_0 (μ : Mem) : Option (Int32 × Mem) :=
  bnd (fX2_readLaw_24_1 μ) fun r1 m2 =>
  bnd (fX9_empty_1 m2) fun r3 m4 =>
  if 0 ≤ r1 then (bnd (fX11_fallsTo_0_26 (1 : Int32) (-1 : Int32) m4) fun r5 m6 =>
    bnd (fX11_fallsTo_0_25 (1 : Int32) (-1 : Int32) m6) fun r7 m8 =>
    bnd (fX7_tell__3 (Int32.toInt64 r5) (Int32.toInt64 r7) m8) fun r9 m10 =>
    some ((r5 - r7), m10))
  else some ((r1 - (9999 : Int32)), m4)
set_option maxRecDepth 100000 in
set_option maxHeartbeats 4000000 in
theorem mX11_reading_0 {E : En} {l : Launch} (hI : Inj E) (μ : Mem) : MtI E l yX11_reading cX11_reading 4 (some .int) 7 [.ref (eAd E 0)] μ (fX11_reading_0 μ) := by
  refine mtI_of (own := RX11) [(0, .ref (eAd E 0))] hI rfl (by decide) (Nat.le_of_ble_eq_true rfl) (Nat.le_of_ble_eq_true rfl) rfl (fun Z hl0 X hr => ?_)
  unfold fX11_reading_0
  refine ao_aload_n (pc := 0) X dX11_reading_0 rfl ?_
  refine ao_getR (pc := 1) X dX11_reading_1 fl_RX11_56 sf_0_6 ?_
  refine ao_aload_n (pc := 4) X dX11_reading_4 rfl ?_
  refine ao_getR (pc := 5) X dX11_reading_5 fl_RX11_10 sf_0_0 ?_
  refine ao_callVI (pc := 8) (As := [.ref (eAd E 1)]) (st := []) X hl0 dX11_reading_8 yv_X2_readLaw so_24 ml_RX11_138 (mX2_readLaw_24_1 hI μ) (Nat.le_of_ble_eq_true rfl) rfl rfl (Nat.le_of_ble_eq_true rfl) (fun r1 m2 => ?_)
  refine ao_istore_n (pc := 11) (lv' := [(1, .int r1), (0, .ref (eAd E 0))]) X dX11_reading_11 rfl (by decide) rfl ?_
  refine ao_aload_n (pc := 12) X dX11_reading_12 rfl ?_
  refine ao_getR (pc := 13) X dX11_reading_13 fl_RX11_10 sf_0_0 ?_
  refine ao_callVV (pc := 16) (As := []) (st := []) X hl0 dX11_reading_16 yv_X9_empty so_1 ml_RX11_116 (mX9_empty_1 hI m2) (Nat.le_of_ble_eq_true rfl) rfl rfl (Nat.le_of_ble_eq_true rfl) (fun r3 m4 => ?_)
  refine ao_iload_n (pc := 19) X dX11_reading_19 rfl ?_
  refine ao_if_ge (pc := 20) (tgt := 29) X dX11_reading_20 (by decide) (fun _ => ?_) (fun _ => ?_)
  · refine ao_aload_n (pc := 29) X dX11_reading_29 rfl ?_
    refine ao_aload_n (pc := 30) X dX11_reading_30 rfl ?_
    refine ao_getR (pc := 31) X dX11_reading_31 fl_RX11_56 sf_0_6 ?_
    refine ao_getR (pc := 34) X dX11_reading_34 fl_RX11_345 sf_24_1 ?_
    refine ao_iconst (pc := 37) X dX11_reading_37 ic_1 ?_
    refine ao_iconst (pc := 38) X dX11_reading_38 ic_m1 ?_
    refine ao_callVI (pc := 39) (As := [.ref (eAd E 26), .int (1 : Int32), .int (-1 : Int32)]) (st := []) X hl0 dX11_reading_39 yv_X11_fallsTo so_0 ml_RX11_338 (mX11_fallsTo_0_26 hI (1 : Int32) (-1 : Int32) m4) (Nat.le_of_ble_eq_true rfl) rfl rfl (Nat.le_of_ble_eq_true rfl) (fun r5 m6 => ?_)
    refine ao_istore_n (pc := 42) (lv' := [(2, .int r5), (1, .int r1), (0, .ref (eAd E 0))]) X dX11_reading_42 rfl (by decide) rfl ?_
    refine ao_aload_n (pc := 43) X dX11_reading_43 rfl ?_
    refine ao_aload_n (pc := 44) X dX11_reading_44 rfl ?_
    refine ao_getR (pc := 45) X dX11_reading_45 fl_RX11_56 sf_0_6 ?_
    refine ao_getR (pc := 48) X dX11_reading_48 fl_RX11_335 sf_24_0 ?_
    refine ao_iconst (pc := 51) X dX11_reading_51 ic_1 ?_
    refine ao_iconst (pc := 52) X dX11_reading_52 ic_m1 ?_
    refine ao_callVI (pc := 53) (As := [.ref (eAd E 25), .int (1 : Int32), .int (-1 : Int32)]) (st := []) X hl0 dX11_reading_53 yv_X11_fallsTo so_0 ml_RX11_338 (mX11_fallsTo_0_25 hI (1 : Int32) (-1 : Int32) m6) (Nat.le_of_ble_eq_true rfl) rfl rfl (Nat.le_of_ble_eq_true rfl) (fun r7 m8 => ?_)
    refine ao_istore_n (pc := 56) (lv' := [(3, .int r7), (2, .int r5), (1, .int r1), (0, .ref (eAd E 0))]) X dX11_reading_56 rfl (by decide) rfl ?_
    refine ao_aload_n (pc := 57) X dX11_reading_57 rfl ?_
    refine ao_getR (pc := 58) X dX11_reading_58 fl_RX11_19 sf_0_1 ?_
    refine ao_iload_n (pc := 61) X dX11_reading_61 rfl ?_
    refine ao_i2l (pc := 62) X dX11_reading_62 ?_
    refine ao_iload_n (pc := 63) X dX11_reading_63 rfl ?_
    refine ao_i2l (pc := 64) X dX11_reading_64 ?_
    refine ao_callVV (pc := 65) (As := [.long (Int32.toInt64 r5), .long (Int32.toInt64 r7)]) (st := []) X hl0 dX11_reading_65 yv_X7_tell_ so_3 ml_RX11_244 (mX7_tell__3 hI (Int32.toInt64 r5) (Int32.toInt64 r7) m8) (Nat.le_of_ble_eq_true rfl) rfl rfl (Nat.le_of_ble_eq_true rfl) (fun r9 m10 => ?_)
    refine ao_iload_n (pc := 68) X dX11_reading_68 rfl ?_
    refine ao_iload_n (pc := 69) X dX11_reading_69 rfl ?_
    refine ao_isub (pc := 70) X dX11_reading_70 ?_
    exact ao_iret (pc := 71) X hr dX11_reading_71
  · refine ao_iload_n (pc := 23) X dX11_reading_23 rfl ?_
    refine ao_sipush (pc := 24) X dX11_reading_24 sp_9999 ?_
    refine ao_isub (pc := 27) X dX11_reading_27 ?_
    exact ao_iret (pc := 28) X hr dX11_reading_28
def fX12_haveBy_122_145_b102 (k6 : Int32 → Int32 → Int32 → Int32 → Mem → Option (Int32 × Mem)) (p2 : Int32) (p3 : Int32) (p4 : Int32) (p5 : Int32) (q0 : Int32) (μ : Mem) : Option (Int32 × Mem) :=
  if q0 = p2 then (gd (inb p5 6) (bnd (fX12_valuesOf_122 (gI μ 128 (ix p5)) μ) fun r9 m10 =>
    lt (p4 + r9) fun x11 =>
    k6 p2 p3 x11 (p5 + (1 : Int32)) m10))
  else lt (p4 + (0 : Int32)) fun x7 =>
    k6 p2 p3 x7 (p5 + (1 : Int32)) μ
set_option maxRecDepth 100000 in
set_option maxHeartbeats 4000000 in
theorem bX12_haveBy_122_145_102 {E : En} {l : Launch} {Z : Zt} (hI : Inj E) (hl0 : lZ l Z) (X : Cx E Z cX12_haveBy RX12 8 3) (hr : rtOf Z = some .int) {k6 : Int32 → Int32 → Int32 → Int32 → Mem → Option (Int32 × Mem)} (hk6 : ∀ (p2 : Int32) (p3 : Int32) (p4 : Int32) (p5 : Int32) (m : Mem), AO E Z 8 (QI E Z) 6 [(0, .ref (eAd E 122)), (1, .ref (eAd E 145)), (2, .int p2), (3, .int p3), (4, .int p4), (5, .int p5)] [] m (k6 p2 p3 p4 p5 m)) (p2 : Int32) (p3 : Int32) (p4 : Int32) (p5 : Int32) (q0 : Int32) (μ : Mem) : AO E Z 8 (QI E Z) 102 [(0, .ref (eAd E 122)), (1, .ref (eAd E 145)), (2, .int p2), (3, .int p3), (4, .int p4), (5, .int p5)] [.int q0] μ (fX12_haveBy_122_145_b102 k6 p2 p3 p4 p5 q0 μ) := by
  unfold fX12_haveBy_122_145_b102
  refine ao_istore (pc := 102) (lv' := [(7, .int q0), (0, .ref (eAd E 122)), (1, .ref (eAd E 145)), (2, .int p2), (3, .int p3), (4, .int p4), (5, .int p5)]) X dX12_haveBy_102 (by decide) rfl ?_
  refine ao_iload (pc := 104) X dX12_haveBy_104 rfl ?_
  refine ao_iload (pc := 106) X dX12_haveBy_106 rfl ?_
  refine ao_iload_n (pc := 108) X dX12_haveBy_108 rfl ?_
  refine ao_icmp_ne (pc := 109) (tgt := 126) X dX12_haveBy_109 (by decide) (fun _ => ?_) (fun _ => ?_)
  · refine ao_iconst (pc := 126) X dX12_haveBy_126 ic_0 ?_
    refine ao_iadd (pc := 127) X dX12_haveBy_127 ?_
    refine ao_ltI (fun x7 => ?_)
    refine ao_istore (pc := 128) (lv' := [(4, .int x7), (7, .int q0), (0, .ref (eAd E 122)), (1, .ref (eAd E 145)), (2, .int p2), (3, .int p3), (5, .int p5)]) X dX12_haveBy_128 (by decide) rfl ?_
    refine ao_iinc (pc := 130) (k := 6) (v := p5 + (1 : Int32)) (lv' := [(5, .int (p5 + (1 : Int32))), (4, .int x7), (7, .int q0), (0, .ref (eAd E 122)), (1, .ref (eAd E 145)), (2, .int p2), (3, .int p3)]) X dX12_haveBy_130 rfl (ii_ic ic_1) (by decide) rfl ?_
    refine ao_goto (pc := 133) (tgt := 6) X dX12_haveBy_133 (by decide) ?_
    refine ao_sub [3, 4, 5, 6, 1, 0] rfl ?_
    exact hk6 p2 p3 x7 (p5 + (1 : Int32)) μ
  · refine ao_aload_n (pc := 112) X dX12_haveBy_112 rfl ?_
    refine ao_aload_n (pc := 113) X dX12_haveBy_113 rfl ?_
    refine ao_getR (pc := 114) X dX12_haveBy_114 fl_RX12_26 sf_122_6 ?_
    refine ao_iload (pc := 117) X dX12_haveBy_117 rfl ?_
    refine ao_iald (pc := 119) X dX12_haveBy_119 sa_128 ?_
    refine ao_callVI (pc := 120) (As := [.int (gI μ 128 (ix p5))]) (st := [.int p4]) X hl0 dX12_haveBy_120 yv_X12_valuesOf so_122 ml_RX12_239 (mX12_valuesOf_122 hI (gI μ 128 (ix p5)) μ) (Nat.le_of_ble_eq_true rfl) rfl rfl (Nat.le_of_ble_eq_true rfl) (fun r9 m10 => ?_)
    refine ao_goto (pc := 123) (tgt := 127) X dX12_haveBy_123 (by decide) ?_
    refine ao_iadd (pc := 127) X dX12_haveBy_127 ?_
    refine ao_ltI (fun x11 => ?_)
    refine ao_istore (pc := 128) (lv' := [(4, .int x11), (7, .int q0), (0, .ref (eAd E 122)), (1, .ref (eAd E 145)), (2, .int p2), (3, .int p3), (5, .int p5)]) X dX12_haveBy_128 (by decide) rfl ?_
    refine ao_iinc (pc := 130) (k := 6) (v := p5 + (1 : Int32)) (lv' := [(5, .int (p5 + (1 : Int32))), (4, .int x11), (7, .int q0), (0, .ref (eAd E 122)), (1, .ref (eAd E 145)), (2, .int p2), (3, .int p3)]) X dX12_haveBy_130 rfl (ii_ic ic_1) (by decide) rfl ?_
    refine ao_goto (pc := 133) (tgt := 6) X dX12_haveBy_133 (by decide) ?_
    refine ao_sub [3, 4, 5, 6, 1, 0] rfl ?_
    exact hk6 p2 p3 x11 (p5 + (1 : Int32)) m10
def fX12_haveBy_122_145_b59 (k6 : Int32 → Int32 → Int32 → Int32 → Mem → Option (Int32 × Mem)) (p2 : Int32) (p3 : Int32) (p4 : Int32) (p5 : Int32) (p6 : Int32) (μ : Mem) : Option (Int32 × Mem) :=
  if (2 : Int32) ≤ p6 then (gd (inb (p6 - (2 : Int32)) 4) (if (gI μ 145 (ix (p6 - (2 : Int32)))) = 0 then (gd (inb p5 6) (fX12_haveBy_122_145_b102 k6 p2 p3 p4 p5 (gI μ 127 (ix p5)) μ))
    else gd (inb (p6 - (2 : Int32)) 4) (if (gI μ 145 (ix (p6 - (2 : Int32)))) = (1 : Int32) then (fX12_haveBy_122_145_b102 k6 p2 p3 p4 p5 (4 : Int32) μ)
      else fX12_haveBy_122_145_b102 k6 p2 p3 p4 p5 (5 : Int32) μ)))
  else k6 p2 p3 p4 (p5 + (1 : Int32)) μ
set_option maxRecDepth 100000 in
set_option maxHeartbeats 4000000 in
theorem bX12_haveBy_122_145_59 {E : En} {l : Launch} {Z : Zt} (hI : Inj E) (hl0 : lZ l Z) (X : Cx E Z cX12_haveBy RX12 8 3) (hr : rtOf Z = some .int) {k6 : Int32 → Int32 → Int32 → Int32 → Mem → Option (Int32 × Mem)} (hk6 : ∀ (p2 : Int32) (p3 : Int32) (p4 : Int32) (p5 : Int32) (m : Mem), AO E Z 8 (QI E Z) 6 [(0, .ref (eAd E 122)), (1, .ref (eAd E 145)), (2, .int p2), (3, .int p3), (4, .int p4), (5, .int p5)] [] m (k6 p2 p3 p4 p5 m)) (p2 : Int32) (p3 : Int32) (p4 : Int32) (p5 : Int32) (p6 : Int32) (μ : Mem) : AO E Z 8 (QI E Z) 59 [(0, .ref (eAd E 122)), (1, .ref (eAd E 145)), (2, .int p2), (3, .int p3), (4, .int p4), (5, .int p5), (6, .int p6)] [] μ (fX12_haveBy_122_145_b59 k6 p2 p3 p4 p5 p6 μ) := by
  unfold fX12_haveBy_122_145_b59
  refine ao_iload (pc := 59) X dX12_haveBy_59 rfl ?_
  refine ao_iconst (pc := 61) X dX12_haveBy_61 ic_2 ?_
  refine ao_icmp_ge (pc := 62) (tgt := 68) X dX12_haveBy_62 (by decide) (fun _ => ?_) (fun _ => ?_)
  · refine ao_aload_n (pc := 68) X dX12_haveBy_68 rfl ?_
    refine ao_iload (pc := 69) X dX12_haveBy_69 rfl ?_
    refine ao_iconst (pc := 71) X dX12_haveBy_71 ic_2 ?_
    refine ao_isub (pc := 72) X dX12_haveBy_72 ?_
    refine ao_iald (pc := 73) X dX12_haveBy_73 sa_145 ?_
    refine ao_if_ne (pc := 74) (tgt := 87) X dX12_haveBy_74 (by decide) (fun _ => ?_) (fun _ => ?_)
    · refine ao_aload_n (pc := 87) X dX12_haveBy_87 rfl ?_
      refine ao_iload (pc := 88) X dX12_haveBy_88 rfl ?_
      refine ao_iconst (pc := 90) X dX12_haveBy_90 ic_2 ?_
      refine ao_isub (pc := 91) X dX12_haveBy_91 ?_
      refine ao_iald (pc := 92) X dX12_haveBy_92 sa_145 ?_
      refine ao_iconst (pc := 93) X dX12_haveBy_93 ic_1 ?_
      refine ao_icmp_ne (pc := 94) (tgt := 101) X dX12_haveBy_94 (by decide) (fun _ => ?_) (fun _ => ?_)
      · refine ao_iconst (pc := 101) X dX12_haveBy_101 ic_5 ?_
        refine ao_sub [0, 1, 2, 3, 4, 5] rfl ?_
        exact bX12_haveBy_122_145_102 hI hl0 X hr hk6 p2 p3 p4 p5 (5 : Int32) μ
      · refine ao_iconst (pc := 97) X dX12_haveBy_97 ic_4 ?_
        refine ao_goto (pc := 98) (tgt := 102) X dX12_haveBy_98 (by decide) ?_
        refine ao_sub [0, 1, 2, 3, 4, 5] rfl ?_
        exact bX12_haveBy_122_145_102 hI hl0 X hr hk6 p2 p3 p4 p5 (4 : Int32) μ
    · refine ao_aload_n (pc := 77) X dX12_haveBy_77 rfl ?_
      refine ao_getR (pc := 78) X dX12_haveBy_78 fl_RX12_23 sf_122_5 ?_
      refine ao_iload (pc := 81) X dX12_haveBy_81 rfl ?_
      refine ao_iald (pc := 83) X dX12_haveBy_83 sa_127 ?_
      refine ao_goto (pc := 84) (tgt := 102) X dX12_haveBy_84 (by decide) ?_
      refine ao_sub [0, 1, 2, 3, 4, 5] rfl ?_
      exact bX12_haveBy_122_145_102 hI hl0 X hr hk6 p2 p3 p4 p5 (gI μ 127 (ix p5)) μ
  · refine ao_goto (pc := 65) (tgt := 130) X dX12_haveBy_65 (by decide) ?_
    refine ao_iinc (pc := 130) (k := 5) (v := p5 + (1 : Int32)) (lv' := [(5, .int (p5 + (1 : Int32))), (0, .ref (eAd E 122)), (1, .ref (eAd E 145)), (2, .int p2), (3, .int p3), (4, .int p4), (6, .int p6)]) X dX12_haveBy_130 rfl (ii_ic ic_1) (by decide) rfl ?_
    refine ao_goto (pc := 133) (tgt := 6) X dX12_haveBy_133 (by decide) ?_
    refine ao_sub [1, 2, 3, 4, 5, 0] rfl ?_
    exact hk6 p2 p3 p4 (p5 + (1 : Int32)) μ
def fX12_haveBy_122_145_b57 (k6 : Int32 → Int32 → Int32 → Int32 → Mem → Option (Int32 × Mem)) (p2 : Int32) (p3 : Int32) (p4 : Int32) (p5 : Int32) (q0 : Int32) (μ : Mem) : Option (Int32 × Mem) :=
  fX12_haveBy_122_145_b59 k6 p2 p3 p4 p5 q0 μ
set_option maxRecDepth 100000 in
set_option maxHeartbeats 4000000 in
theorem bX12_haveBy_122_145_57 {E : En} {l : Launch} {Z : Zt} (hI : Inj E) (hl0 : lZ l Z) (X : Cx E Z cX12_haveBy RX12 8 3) (hr : rtOf Z = some .int) {k6 : Int32 → Int32 → Int32 → Int32 → Mem → Option (Int32 × Mem)} (hk6 : ∀ (p2 : Int32) (p3 : Int32) (p4 : Int32) (p5 : Int32) (m : Mem), AO E Z 8 (QI E Z) 6 [(0, .ref (eAd E 122)), (1, .ref (eAd E 145)), (2, .int p2), (3, .int p3), (4, .int p4), (5, .int p5)] [] m (k6 p2 p3 p4 p5 m)) (p2 : Int32) (p3 : Int32) (p4 : Int32) (p5 : Int32) (q0 : Int32) (μ : Mem) : AO E Z 8 (QI E Z) 57 [(0, .ref (eAd E 122)), (1, .ref (eAd E 145)), (2, .int p2), (3, .int p3), (4, .int p4), (5, .int p5)] [.int q0] μ (fX12_haveBy_122_145_b57 k6 p2 p3 p4 p5 q0 μ) := by
  unfold fX12_haveBy_122_145_b57
  refine ao_istore (pc := 57) (lv' := [(6, .int q0), (0, .ref (eAd E 122)), (1, .ref (eAd E 145)), (2, .int p2), (3, .int p3), (4, .int p4), (5, .int p5)]) X dX12_haveBy_57 (by decide) rfl ?_
  refine ao_sub [1, 2, 3, 4, 5, 6, 0] rfl ?_
  exact bX12_haveBy_122_145_59 hI hl0 X hr hk6 p2 p3 p4 p5 q0 μ
def fX12_haveBy_122_145_b6 : Nat → Int32 → Int32 → Int32 → Int32 → Mem → Option (Int32 × Mem)
  | 0, _, _, _, _, _ => none
  | n + 1, p2, p3, p4, p5, μ =>
  if (gI μ 122 1) ≤ p5 then (some (p4, μ))
  else gd (inb p5 27) (lt (gI μ 123 (ix p5)) fun x1 =>
    if x1 = 0 then (if p3 = 0 then (fX12_haveBy_122_145_b59 (fun p2 p3 p4 p5 m => fX12_haveBy_122_145_b6 n p2 p3 p4 p5 m) p2 p3 p4 p5 x1 μ)
      else if p3 = (4 : Int32) then (bnd (fX12_proofIn_122_123 p5 (0 : Int32) μ) fun r2 m3 =>
          bnd (fX12_ending_122 r2 m3) fun r4 m5 =>
          fX12_haveBy_122_145_b57 (fun p2 p3 p4 p5 m => fX12_haveBy_122_145_b6 n p2 p3 p4 p5 m) p2 p3 p4 p5 r4 m5)
        else fX12_haveBy_122_145_b57 (fun p2 p3 p4 p5 m => fX12_haveBy_122_145_b6 n p2 p3 p4 p5 m) p2 p3 p4 p5 p3 μ)
    else fX12_haveBy_122_145_b59 (fun p2 p3 p4 p5 m => fX12_haveBy_122_145_b6 n p2 p3 p4 p5 m) p2 p3 p4 p5 x1 μ)
set_option maxRecDepth 100000 in
set_option maxHeartbeats 4000000 in
theorem bX12_haveBy_122_145_6 {E : En} {l : Launch} {Z : Zt} (hI : Inj E) (hl0 : lZ l Z) (X : Cx E Z cX12_haveBy RX12 8 3) (hr : rtOf Z = some .int) : ∀ (n : Nat) (p2 : Int32) (p3 : Int32) (p4 : Int32) (p5 : Int32) (μ : Mem), AO E Z 8 (QI E Z) 6 [(0, .ref (eAd E 122)), (1, .ref (eAd E 145)), (2, .int p2), (3, .int p3), (4, .int p4), (5, .int p5)] [] μ (fX12_haveBy_122_145_b6 n p2 p3 p4 p5 μ) := by
  intro n
  induction n with
  | zero =>
    intros
    exact ao_none
  | succ n ih =>
    intro p2 p3 p4 p5 μ
    rw [fX12_haveBy_122_145_b6]
    refine ao_iload (pc := 6) X dX12_haveBy_6 rfl ?_
    refine ao_aload_n (pc := 8) X dX12_haveBy_8 rfl ?_
    refine ao_getI (pc := 9) X dX12_haveBy_9 fl_RX12_101 sf_122_1 ?_
    refine ao_icmp_ge (pc := 12) (tgt := 136) X dX12_haveBy_12 (by decide) (fun _ => ?_) (fun _ => ?_)
    · refine ao_iload (pc := 136) X dX12_haveBy_136 rfl ?_
      exact ao_iret (pc := 138) X hr dX12_haveBy_138
    · refine ao_aload_n (pc := 15) X dX12_haveBy_15 rfl ?_
      refine ao_getR (pc := 16) X dX12_haveBy_16 fl_RX12_9 sf_122_0 ?_
      refine ao_iload (pc := 19) X dX12_haveBy_19 rfl ?_
      refine ao_iald (pc := 21) X dX12_haveBy_21 sa_123 ?_
      refine ao_ltI (fun x1 => ?_)
      refine ao_istore (pc := 22) (lv' := [(6, .int x1), (0, .ref (eAd E 122)), (1, .ref (eAd E 145)), (2, .int p2), (3, .int p3), (4, .int p4), (5, .int p5)]) X dX12_haveBy_22 (by decide) rfl ?_
      refine ao_iload (pc := 24) X dX12_haveBy_24 rfl ?_
      refine ao_if_ne (pc := 26) (tgt := 59) X dX12_haveBy_26 (by decide) (fun _ => ?_) (fun _ => ?_)
      · refine ao_sub [1, 2, 3, 4, 5, 6, 0] rfl ?_
        exact bX12_haveBy_122_145_59 hI hl0 X hr ih p2 p3 p4 p5 x1 μ
      · refine ao_iload_n (pc := 29) X dX12_haveBy_29 rfl ?_
        refine ao_if_eq (pc := 30) (tgt := 59) X dX12_haveBy_30 (by decide) (fun _ => ?_) (fun _ => ?_)
        · refine ao_sub [1, 2, 3, 4, 5, 6, 0] rfl ?_
          exact bX12_haveBy_122_145_59 hI hl0 X hr ih p2 p3 p4 p5 x1 μ
        · refine ao_iload_n (pc := 33) X dX12_haveBy_33 rfl ?_
          refine ao_iconst (pc := 34) X dX12_haveBy_34 ic_4 ?_
          refine ao_icmp_ne (pc := 35) (tgt := 56) X dX12_haveBy_35 (by decide) (fun _ => ?_) (fun _ => ?_)
          · refine ao_iload_n (pc := 56) X dX12_haveBy_56 rfl ?_
            refine ao_sub [1, 2, 3, 4, 5, 6] rfl ?_
            exact bX12_haveBy_122_145_57 hI hl0 X hr ih p2 p3 p4 p5 p3 μ
          · refine ao_aload_n (pc := 38) X dX12_haveBy_38 rfl ?_
            refine ao_aload_n (pc := 39) X dX12_haveBy_39 rfl ?_
            refine ao_aload_n (pc := 40) X dX12_haveBy_40 rfl ?_
            refine ao_getR (pc := 41) X dX12_haveBy_41 fl_RX12_9 sf_122_0 ?_
            refine ao_iload (pc := 44) X dX12_haveBy_44 rfl ?_
            refine ao_iconst (pc := 46) X dX12_haveBy_46 ic_0 ?_
            refine ao_callVI (pc := 47) (As := [.ref (eAd E 123), .int p5, .int (0 : Int32)]) (st := [.ref (eAd E 122)]) X hl0 dX12_haveBy_47 yv_X12_proofIn so_122 ml_RX12_235 (mX12_proofIn_122_123 hI p5 (0 : Int32) μ) (Nat.le_of_ble_eq_true rfl) rfl rfl (Nat.le_of_ble_eq_true rfl) (fun r2 m3 => ?_)
            refine ao_callVI (pc := 50) (As := [.int r2]) (st := []) X hl0 dX12_haveBy_50 yv_X12_ending so_122 ml_RX12_264 (mX12_ending_122 hI r2 m3) (Nat.le_of_ble_eq_true rfl) rfl rfl (Nat.le_of_ble_eq_true rfl) (fun r4 m5 => ?_)
            refine ao_goto (pc := 53) (tgt := 57) X dX12_haveBy_53 (by decide) ?_
            refine ao_sub [1, 2, 3, 4, 5, 6] rfl ?_
            exact bX12_haveBy_122_145_57 hI hl0 X hr ih p2 p3 p4 p5 r4 m5
def fX12_haveBy_122_145 (v2 : Int32) (v3 : Int32) (μ : Mem) : Option (Int32 × Mem) :=
  fX12_haveBy_122_145_b6 FU v2 v3 (0 : Int32) (0 : Int32) μ
set_option maxRecDepth 100000 in
set_option maxHeartbeats 4000000 in
theorem mX12_haveBy_122_145 {E : En} {l : Launch} (hI : Inj E) (v2 : Int32) (v3 : Int32) (μ : Mem) : MtI E l yX12_haveBy cX12_haveBy 8 (some .int) 3 [.ref (eAd E 122), .ref (eAd E 145), .int v2, .int v3] μ (fX12_haveBy_122_145 v2 v3 μ) := by
  refine mtI_of (own := RX12) [(0, .ref (eAd E 122)), (1, .ref (eAd E 145)), (2, .int v2), (3, .int v3)] hI rfl (by decide) (Nat.le_of_ble_eq_true rfl) (Nat.le_of_ble_eq_true rfl) rfl (fun Z hl0 X hr => ?_)
  unfold fX12_haveBy_122_145
  refine ao_iconst (pc := 0) X dX12_haveBy_0 ic_0 ?_
  refine ao_istore (pc := 1) (lv' := [(4, .int (0 : Int32)), (0, .ref (eAd E 122)), (1, .ref (eAd E 145)), (2, .int v2), (3, .int v3)]) X dX12_haveBy_1 (by decide) rfl ?_
  refine ao_iconst (pc := 3) X dX12_haveBy_3 ic_0 ?_
  refine ao_istore (pc := 4) (lv' := [(5, .int (0 : Int32)), (4, .int (0 : Int32)), (0, .ref (eAd E 122)), (1, .ref (eAd E 145)), (2, .int v2), (3, .int v3)]) X dX12_haveBy_4 (by decide) rfl ?_
  refine ao_sub [2, 3, 4, 5, 1, 0] rfl ?_
  exact bX12_haveBy_122_145_6 hI hl0 X hr FU v2 v3 (0 : Int32) (0 : Int32) μ
def fX12_reading_122_b23 : Nat → Int32 → Mem → Option (Int32 × Mem)
  | 0, _, _ => none
  | n + 1, p1, μ =>
  if (4 : Int32) ≤ p1 then (bnd (fX12_haveBy_122_145 (4 : Int32) (0 : Int32) μ) fun r4 m5 =>
    bnd (fX12_haveBy_122_132 (4 : Int32) (0 : Int32) m5) fun r6 m7 =>
    lt (sI m7 122 16 (0 : Int32)) fun m8 =>
    bnd (fX12_tell_122 (Int32.toInt64 r4) m8) fun r9 m10 =>
    bnd (fX12_tell_122 (Int32.toInt64 r6) m10) fun r11 m12 =>
    some ((r4 - r6), m12))
  else gd (inb p1 40) (gd (inb p1 4) (lt (sI μ 145 (ix p1) (gI μ 135 (ix p1))) fun m13 =>
    fX12_reading_122_b23 n (p1 + (1 : Int32)) m13))
set_option maxRecDepth 100000 in
set_option maxHeartbeats 4000000 in
theorem bX12_reading_122_23 {E : En} {l : Launch} {Z : Zt} (hI : Inj E) (hl0 : lZ l Z) (X : Cx E Z cX12_reading RX12 3 5) (hr : rtOf Z = some .int) : ∀ (n : Nat) (p1 : Int32) (μ : Mem), AO E Z 3 (QI E Z) 23 [(0, .ref (eAd E 122)), (1, .int p1)] [] μ (fX12_reading_122_b23 n p1 μ) := by
  intro n
  induction n with
  | zero =>
    intros
    exact ao_none
  | succ n ih =>
    intro p1 μ
    rw [fX12_reading_122_b23]
    refine ao_iload_n (pc := 23) X dX12_reading_23 rfl ?_
    refine ao_iconst (pc := 24) X dX12_reading_24 ic_4 ?_
    refine ao_icmp_ge (pc := 25) (tgt := 46) X dX12_reading_25 (by decide) (fun _ => ?_) (fun _ => ?_)
    · refine ao_aload_n (pc := 46) X dX12_reading_46 rfl ?_
      refine ao_aload_n (pc := 47) X dX12_reading_47 rfl ?_
      refine ao_getR (pc := 48) X dX12_reading_48 fl_RX12_83 sf_122_39 ?_
      refine ao_iconst (pc := 51) X dX12_reading_51 ic_4 ?_
      refine ao_iconst (pc := 52) X dX12_reading_52 ic_0 ?_
      refine ao_callVI (pc := 53) (As := [.ref (eAd E 145), .int (4 : Int32), .int (0 : Int32)]) (st := []) X hl0 dX12_reading_53 yv_X12_haveBy so_122 ml_RX12_342 (mX12_haveBy_122_145 hI (4 : Int32) (0 : Int32) μ) (Nat.le_of_ble_eq_true rfl) rfl rfl (Nat.le_of_ble_eq_true rfl) (fun r4 m5 => ?_)
      refine ao_istore_n (pc := 56) (lv' := [(1, .int r4), (0, .ref (eAd E 122))]) X dX12_reading_56 rfl (by decide) rfl ?_
      refine ao_aload_n (pc := 57) X dX12_reading_57 rfl ?_
      refine ao_aload_n (pc := 58) X dX12_reading_58 rfl ?_
      refine ao_getR (pc := 59) X dX12_reading_59 fl_RX12_38 sf_122_11 ?_
      refine ao_iconst (pc := 62) X dX12_reading_62 ic_4 ?_
      refine ao_iconst (pc := 63) X dX12_reading_63 ic_0 ?_
      refine ao_callVI (pc := 64) (As := [.ref (eAd E 132), .int (4 : Int32), .int (0 : Int32)]) (st := []) X hl0 dX12_reading_64 yv_X12_haveBy so_122 ml_RX12_342 (mX12_haveBy_122_132 hI (4 : Int32) (0 : Int32) m5) (Nat.le_of_ble_eq_true rfl) rfl rfl (Nat.le_of_ble_eq_true rfl) (fun r6 m7 => ?_)
      refine ao_istore_n (pc := 67) (lv' := [(2, .int r6), (1, .int r4), (0, .ref (eAd E 122))]) X dX12_reading_67 rfl (by decide) rfl ?_
      refine ao_aload_n (pc := 68) X dX12_reading_68 rfl ?_
      refine ao_iconst (pc := 69) X dX12_reading_69 ic_0 ?_
      refine ao_putI (pc := 70) X dX12_reading_70 fp_RX12_98 sf_122_16 ?_
      refine ao_lt (fun m8 => ?_)
      refine ao_aload_n (pc := 73) X dX12_reading_73 rfl ?_
      refine ao_iload_n (pc := 74) X dX12_reading_74 rfl ?_
      refine ao_i2l (pc := 75) X dX12_reading_75 ?_
      refine ao_callVV (pc := 76) (As := [.long (Int32.toInt64 r4)]) (st := []) X hl0 dX12_reading_76 yv_X12_tell so_122 ml_RX12_267 (mX12_tell_122 hI (Int32.toInt64 r4) m8) (Nat.le_of_ble_eq_true rfl) rfl rfl (Nat.le_of_ble_eq_true rfl) (fun r9 m10 => ?_)
      refine ao_aload_n (pc := 79) X dX12_reading_79 rfl ?_
      refine ao_iload_n (pc := 80) X dX12_reading_80 rfl ?_
      refine ao_i2l (pc := 81) X dX12_reading_81 ?_
      refine ao_callVV (pc := 82) (As := [.long (Int32.toInt64 r6)]) (st := []) X hl0 dX12_reading_82 yv_X12_tell so_122 ml_RX12_267 (mX12_tell_122 hI (Int32.toInt64 r6) m10) (Nat.le_of_ble_eq_true rfl) rfl rfl (Nat.le_of_ble_eq_true rfl) (fun r11 m12 => ?_)
      refine ao_iload_n (pc := 85) X dX12_reading_85 rfl ?_
      refine ao_iload_n (pc := 86) X dX12_reading_86 rfl ?_
      refine ao_isub (pc := 87) X dX12_reading_87 ?_
      exact ao_iret (pc := 88) X hr dX12_reading_88
    · refine ao_aload_n (pc := 28) X dX12_reading_28 rfl ?_
      refine ao_getR (pc := 29) X dX12_reading_29 fl_RX12_83 sf_122_39 ?_
      refine ao_iload_n (pc := 32) X dX12_reading_32 rfl ?_
      refine ao_aload_n (pc := 33) X dX12_reading_33 rfl ?_
      refine ao_getR (pc := 34) X dX12_reading_34 fl_RX12_53 sf_122_23 ?_
      refine ao_iload_n (pc := 37) X dX12_reading_37 rfl ?_
      refine ao_iald (pc := 38) X dX12_reading_38 sa_135 ?_
      refine ao_iast (pc := 39) X dX12_reading_39 sa_145 ?_
      refine ao_lt (fun m13 => ?_)
      refine ao_iinc (pc := 40) (k := 1) (v := p1 + (1 : Int32)) (lv' := [(1, .int (p1 + (1 : Int32))), (0, .ref (eAd E 122))]) X dX12_reading_40 rfl (ii_ic ic_1) (by decide) rfl ?_
      refine ao_goto (pc := 43) (tgt := 23) X dX12_reading_43 (by decide) ?_
      refine ao_sub [1, 0] rfl ?_
      exact ih (p1 + (1 : Int32)) m13
def fX12_reading_122 (μ : Mem) : Option (Int32 × Mem) :=
  lt (sI μ 122 17 (0 : Int32)) fun m1 =>
  bnd (fX12_readLaw_122 m1) fun r2 m3 =>
  if r2 = 0 then (some (((-10000 : Int32) - (gI m3 122 22)), m3))
  else fX12_reading_122_b23 FU (0 : Int32) m3
set_option maxRecDepth 100000 in
set_option maxHeartbeats 4000000 in
theorem mX12_reading_122 {E : En} {l : Launch} (hI : Inj E) (μ : Mem) : MtI E l yX12_reading cX12_reading 3 (some .int) 5 [.ref (eAd E 122)] μ (fX12_reading_122 μ) := by
  refine mtI_of (own := RX12) [(0, .ref (eAd E 122))] hI rfl (by decide) (Nat.le_of_ble_eq_true rfl) (Nat.le_of_ble_eq_true rfl) rfl (fun Z hl0 X hr => ?_)
  unfold fX12_reading_122
  refine ao_aload_n (pc := 0) X dX12_reading_0 rfl ?_
  refine ao_iconst (pc := 1) X dX12_reading_1 ic_0 ?_
  refine ao_putI (pc := 2) X dX12_reading_2 fp_RX12_95 sf_122_17 ?_
  refine ao_lt (fun m1 => ?_)
  refine ao_aload_n (pc := 5) X dX12_reading_5 rfl ?_
  refine ao_callVI (pc := 6) (As := []) (st := []) X hl0 dX12_reading_6 yv_X12_readLaw so_122 ml_RX12_187 (mX12_readLaw_122 hI m1) (Nat.le_of_ble_eq_true rfl) rfl rfl (Nat.le_of_ble_eq_true rfl) (fun r2 m3 => ?_)
  refine ao_if_ne (pc := 9) (tgt := 21) X dX12_reading_9 (by decide) (fun _ => ?_) (fun _ => ?_)
  · refine ao_iconst (pc := 21) X dX12_reading_21 ic_0 ?_
    refine ao_istore_n (pc := 22) (lv' := [(1, .int (0 : Int32)), (0, .ref (eAd E 122))]) X dX12_reading_22 rfl (by decide) rfl ?_
    refine ao_sub [1, 0] rfl ?_
    exact bX12_reading_122_23 hI hl0 X hr FU (0 : Int32) m3
  · refine ao_sipush (pc := 12) X dX12_reading_12 sp_m10000 ?_
    refine ao_aload_n (pc := 15) X dX12_reading_15 rfl ?_
    refine ao_getI (pc := 16) X dX12_reading_16 fl_RX12_123 sf_122_22 ?_
    refine ao_isub (pc := 19) X dX12_reading_19 ?_
    exact ao_iret (pc := 20) X hr dX12_reading_20
def fX2_changedEndings_24_b4 : Nat → Int32 → Int32 → Mem → Option (Int32 × Mem)
  | 0, _, _, _ => none
  | n + 1, p1, p2, μ =>
  if (4 : Int32) ≤ p2 then (some (p1, μ))
  else gd (inb p2 4) (gd (inb p2 4) (if (gI μ 26 (ix p2)) = (gI μ 25 (ix p2)) then (lt (p1 + (0 : Int32)) fun x3 =>
      fX2_changedEndings_24_b4 n x3 (p2 + (1 : Int32)) μ)
    else lt (p1 + (1 : Int32)) fun x1 =>
      fX2_changedEndings_24_b4 n x1 (p2 + (1 : Int32)) μ))
set_option maxRecDepth 100000 in
set_option maxHeartbeats 4000000 in
theorem bX2_changedEndings_24_4 {E : En} {l : Launch} {Z : Zt} (hI : Inj E) (hl0 : lZ l Z) (X : Cx E Z cX2_changedEndings RX2 3 1) (hr : rtOf Z = some .int) : ∀ (n : Nat) (p1 : Int32) (p2 : Int32) (μ : Mem), AO E Z 3 (QI E Z) 4 [(0, .ref (eAd E 24)), (1, .int p1), (2, .int p2)] [] μ (fX2_changedEndings_24_b4 n p1 p2 μ) := by
  intro n
  induction n with
  | zero =>
    intros
    exact ao_none
  | succ n ih =>
    intro p1 p2 μ
    rw [fX2_changedEndings_24_b4]
    refine ao_iload_n (pc := 4) X dX2_changedEndings_4 rfl ?_
    refine ao_iconst (pc := 5) X dX2_changedEndings_5 ic_4 ?_
    refine ao_icmp_ge (pc := 6) (tgt := 38) X dX2_changedEndings_6 (by decide) (fun _ => ?_) (fun _ => ?_)
    · refine ao_iload_n (pc := 38) X dX2_changedEndings_38 rfl ?_
      exact ao_iret (pc := 39) X hr dX2_changedEndings_39
    · refine ao_iload_n (pc := 9) X dX2_changedEndings_9 rfl ?_
      refine ao_aload_n (pc := 10) X dX2_changedEndings_10 rfl ?_
      refine ao_getR (pc := 11) X dX2_changedEndings_11 fl_RX2_15 sf_24_1 ?_
      refine ao_iload_n (pc := 14) X dX2_changedEndings_14 rfl ?_
      refine ao_iald (pc := 15) X dX2_changedEndings_15 sa_26 ?_
      refine ao_aload_n (pc := 16) X dX2_changedEndings_16 rfl ?_
      refine ao_getR (pc := 17) X dX2_changedEndings_17 fl_RX2_9 sf_24_0 ?_
      refine ao_iload_n (pc := 20) X dX2_changedEndings_20 rfl ?_
      refine ao_iald (pc := 21) X dX2_changedEndings_21 sa_25 ?_
      refine ao_icmp_ne (pc := 22) (tgt := 29) X dX2_changedEndings_22 (by decide) (fun _ => ?_) (fun _ => ?_)
      · refine ao_iconst (pc := 29) X dX2_changedEndings_29 ic_1 ?_
        refine ao_iadd (pc := 30) X dX2_changedEndings_30 ?_
        refine ao_ltI (fun x1 => ?_)
        refine ao_istore_n (pc := 31) (lv' := [(1, .int x1), (0, .ref (eAd E 24)), (2, .int p2)]) X dX2_changedEndings_31 rfl (by decide) rfl ?_
        refine ao_iinc (pc := 32) (k := 2) (v := p2 + (1 : Int32)) (lv' := [(2, .int (p2 + (1 : Int32))), (1, .int x1), (0, .ref (eAd E 24))]) X dX2_changedEndings_32 rfl (ii_ic ic_1) (by decide) rfl ?_
        refine ao_goto (pc := 35) (tgt := 4) X dX2_changedEndings_35 (by decide) ?_
        refine ao_sub [2, 1, 0] rfl ?_
        exact ih x1 (p2 + (1 : Int32)) μ
      · refine ao_iconst (pc := 25) X dX2_changedEndings_25 ic_0 ?_
        refine ao_goto (pc := 26) (tgt := 30) X dX2_changedEndings_26 (by decide) ?_
        refine ao_iadd (pc := 30) X dX2_changedEndings_30 ?_
        refine ao_ltI (fun x3 => ?_)
        refine ao_istore_n (pc := 31) (lv' := [(1, .int x3), (0, .ref (eAd E 24)), (2, .int p2)]) X dX2_changedEndings_31 rfl (by decide) rfl ?_
        refine ao_iinc (pc := 32) (k := 2) (v := p2 + (1 : Int32)) (lv' := [(2, .int (p2 + (1 : Int32))), (1, .int x3), (0, .ref (eAd E 24))]) X dX2_changedEndings_32 rfl (ii_ic ic_1) (by decide) rfl ?_
        refine ao_goto (pc := 35) (tgt := 4) X dX2_changedEndings_35 (by decide) ?_
        refine ao_sub [2, 1, 0] rfl ?_
        exact ih x3 (p2 + (1 : Int32)) μ
def fX2_changedEndings_24 (μ : Mem) : Option (Int32 × Mem) :=
  fX2_changedEndings_24_b4 FU (0 : Int32) (0 : Int32) μ
set_option maxRecDepth 100000 in
set_option maxHeartbeats 4000000 in
theorem mX2_changedEndings_24 {E : En} {l : Launch} (hI : Inj E) (μ : Mem) : MtI E l yX2_changedEndings cX2_changedEndings 3 (some .int) 1 [.ref (eAd E 24)] μ (fX2_changedEndings_24 μ) := by
  refine mtI_of (own := RX2) [(0, .ref (eAd E 24))] hI rfl (by decide) (Nat.le_of_ble_eq_true rfl) (Nat.le_of_ble_eq_true rfl) rfl (fun Z hl0 X hr => ?_)
  unfold fX2_changedEndings_24
  refine ao_iconst (pc := 0) X dX2_changedEndings_0 ic_0 ?_
  refine ao_istore_n (pc := 1) (lv' := [(1, .int (0 : Int32)), (0, .ref (eAd E 24))]) X dX2_changedEndings_1 rfl (by decide) rfl ?_
  refine ao_iconst (pc := 2) X dX2_changedEndings_2 ic_0 ?_
  refine ao_istore_n (pc := 3) (lv' := [(2, .int (0 : Int32)), (1, .int (0 : Int32)), (0, .ref (eAd E 24))]) X dX2_changedEndings_3 rfl (by decide) rfl ?_
  refine ao_sub [2, 1, 0] rfl ?_
  exact bX2_changedEndings_24_4 hI hl0 X hr FU (0 : Int32) (0 : Int32) μ
def fX2_tellReading_24_b4 : Nat → Int32 → Int32 → Mem → Option (Unit × Mem)
  | 0, _, _, _ => none
  | n + 1, p2, p3, μ =>
  if p3 < 0 then (some ((), μ))
  else gd (!((3 : Int32) == 0)) (gd (inb p3 4) (lt (sI μ 26 (ix p3) (p2 - p2 / (3 : Int32) * (3 : Int32))) fun m1 =>
    gd (!((3 : Int32) == 0)) (lt (p2 / (3 : Int32)) fun x2 =>
    fX2_tellReading_24_b4 n x2 (p3 + (-1 : Int32)) m1)))
set_option maxRecDepth 100000 in
set_option maxHeartbeats 4000000 in
theorem bX2_tellReading_24_4 {E : En} {l : Launch} {Z : Zt} (hI : Inj E) (hl0 : lZ l Z) (X : Cx E Z cX2_tellReading RX2 4 1) (hr : rtOf Z = none) : ∀ (n : Nat) (p2 : Int32) (p3 : Int32) (μ : Mem), AO E Z 4 (QV E Z) 4 [(0, .ref (eAd E 24)), (2, .int p2), (3, .int p3)] [] μ (fX2_tellReading_24_b4 n p2 p3 μ) := by
  intro n
  induction n with
  | zero =>
    intros
    exact ao_none
  | succ n ih =>
    intro p2 p3 μ
    rw [fX2_tellReading_24_b4]
    refine ao_iload_n (pc := 4) X dX2_tellReading_4 rfl ?_
    refine ao_if_lt (pc := 5) (tgt := 27) X dX2_tellReading_5 (by decide) (fun _ => ?_) (fun _ => ?_)
    · exact ao_vret (pc := 27) X hr dX2_tellReading_27
    · refine ao_aload_n (pc := 8) X dX2_tellReading_8 rfl ?_
      refine ao_getR (pc := 9) X dX2_tellReading_9 fl_RX2_15 sf_24_1 ?_
      refine ao_iload_n (pc := 12) X dX2_tellReading_12 rfl ?_
      refine ao_iload_n (pc := 13) X dX2_tellReading_13 rfl ?_
      refine ao_iconst (pc := 14) X dX2_tellReading_14 ic_3 ?_
      refine ao_irem (pc := 15) X dX2_tellReading_15 ?_
      refine ao_iast (pc := 16) X dX2_tellReading_16 sa_26 ?_
      refine ao_lt (fun m1 => ?_)
      refine ao_iload_n (pc := 17) X dX2_tellReading_17 rfl ?_
      refine ao_iconst (pc := 18) X dX2_tellReading_18 ic_3 ?_
      refine ao_idiv (pc := 19) X dX2_tellReading_19 ?_
      refine ao_ltI (fun x2 => ?_)
      refine ao_istore_n (pc := 20) (lv' := [(2, .int x2), (0, .ref (eAd E 24)), (3, .int p3)]) X dX2_tellReading_20 rfl (by decide) rfl ?_
      refine ao_iinc (pc := 21) (k := 2) (v := p3 + (-1 : Int32)) (lv' := [(3, .int (p3 + (-1 : Int32))), (2, .int x2), (0, .ref (eAd E 24))]) X dX2_tellReading_21 rfl (ii_ic ic_m1) (by decide) rfl ?_
      refine ao_goto (pc := 24) (tgt := 4) X dX2_tellReading_24 (by decide) ?_
      refine ao_sub [2, 1, 0] rfl ?_
      exact ih x2 (p3 + (-1 : Int32)) m1
def fX2_tellReading_24 (v1 : Int32) (μ : Mem) : Option (Unit × Mem) :=
  fX2_tellReading_24_b4 FU v1 (3 : Int32) μ
set_option maxRecDepth 100000 in
set_option maxHeartbeats 4000000 in
theorem mX2_tellReading_24 {E : En} {l : Launch} (hI : Inj E) (v1 : Int32) (μ : Mem) : MtV E l yX2_tellReading cX2_tellReading 4 (none) 1 [.ref (eAd E 24), .int v1] μ (fX2_tellReading_24 v1 μ) := by
  refine mtV_of (own := RX2) [(0, .ref (eAd E 24)), (1, .int v1)] hI rfl (by decide) (Nat.le_of_ble_eq_true rfl) (Nat.le_of_ble_eq_true rfl) rfl (fun Z hl0 X hr => ?_)
  unfold fX2_tellReading_24
  refine ao_iload_n (pc := 0) X dX2_tellReading_0 rfl ?_
  refine ao_istore_n (pc := 1) (lv' := [(2, .int v1), (0, .ref (eAd E 24)), (1, .int v1)]) X dX2_tellReading_1 rfl (by decide) rfl ?_
  refine ao_iconst (pc := 2) X dX2_tellReading_2 ic_3 ?_
  refine ao_istore_n (pc := 3) (lv' := [(3, .int (3 : Int32)), (2, .int v1), (0, .ref (eAd E 24)), (1, .int v1)]) X dX2_tellReading_3 rfl (by decide) rfl ?_
  refine ao_sub [2, 1, 0] rfl ?_
  exact bX2_tellReading_24_4 hI hl0 X hr FU v1 (3 : Int32) μ
def fX11_wants_0_b80 (k21 : Int32 → Int32 → Int32 → Int32 → Int32 → Mem → Option (Int32 × Mem)) (p1 : Int32) (p5 : Int32) (p6 : Int32) (p7 : Int32) (μ : Mem) : Option (Int32 × Mem) :=
  k21 p1 p5 p6 p7 (p5 + (1 : Int32)) μ
set_option maxRecDepth 100000 in
set_option maxHeartbeats 4000000 in
theorem bX11_wants_0_80 {E : En} {l : Launch} {Z : Zt} (hI : Inj E) (hl0 : lZ l Z) (X : Cx E Z cX11_wants RX11 8 4) (hr : rtOf Z = some .int) {k21 : Int32 → Int32 → Int32 → Int32 → Int32 → Mem → Option (Int32 × Mem)} (hk21 : ∀ (p1 : Int32) (p2 : Int32) (p3 : Int32) (p4 : Int32) (p5 : Int32) (m : Mem), AO E Z 8 (QI E Z) 21 [(0, .ref (eAd E 0)), (1, .int p1), (2, .int p2), (3, .int p3), (4, .int p4), (5, .int p5)] [] m (k21 p1 p2 p3 p4 p5 m)) (p1 : Int32) (p5 : Int32) (p6 : Int32) (p7 : Int32) (μ : Mem) : AO E Z 8 (QI E Z) 80 [(0, .ref (eAd E 0)), (1, .int p1), (5, .int p5), (6, .int p6), (7, .int p7)] [] μ (fX11_wants_0_b80 k21 p1 p5 p6 p7 μ) := by
  unfold fX11_wants_0_b80
  refine ao_iload (pc := 80) X dX11_wants_80 rfl ?_
  refine ao_istore_n (pc := 82) (lv' := [(2, .int p5), (0, .ref (eAd E 0)), (1, .int p1), (5, .int p5), (6, .int p6), (7, .int p7)]) X dX11_wants_82 rfl (by decide) rfl ?_
  refine ao_iload (pc := 83) X dX11_wants_83 rfl ?_
  refine ao_istore_n (pc := 85) (lv' := [(3, .int p6), (2, .int p5), (0, .ref (eAd E 0)), (1, .int p1), (5, .int p5), (6, .int p6), (7, .int p7)]) X dX11_wants_85 rfl (by decide) rfl ?_
  refine ao_iload (pc := 86) X dX11_wants_86 rfl ?_
  refine ao_istore (pc := 88) (lv' := [(4, .int p7), (3, .int p6), (2, .int p5), (0, .ref (eAd E 0)), (1, .int p1), (5, .int p5), (6, .int p6), (7, .int p7)]) X dX11_wants_88 (by decide) rfl ?_
  refine ao_iinc (pc := 90) (k := 5) (v := p5 + (1 : Int32)) (lv' := [(5, .int (p5 + (1 : Int32))), (4, .int p7), (3, .int p6), (2, .int p5), (0, .ref (eAd E 0)), (1, .int p1), (6, .int p6), (7, .int p7)]) X dX11_wants_90 rfl (ii_ic ic_1) (by decide) rfl ?_
  refine ao_goto (pc := 93) (tgt := 21) X dX11_wants_93 (by decide) ?_
  refine ao_sub [4, 5, 3, 2, 1, 0] rfl ?_
  exact hk21 p1 p5 p6 p7 (p5 + (1 : Int32)) μ
def fX11_wants_0_b21 : Nat → Int32 → Int32 → Int32 → Int32 → Int32 → Mem → Option (Int32 × Mem)
  | 0, _, _, _, _, _, _ => none
  | n + 1, p1, p2, p3, p4, p5, μ =>
  if (81 : Int32) ≤ p5 then (bnd (fX11_fallsTo_0_25 (0 : Int32) p1 μ) fun r1 m2 =>
    bnd (fX7_tell__3 (Int32.toInt64 p3) (Int32.toInt64 r1) m2) fun r3 m4 =>
    some (p2, m4))
  else bnd (fX2_tellReading_24 p5 μ) fun r5 m6 =>
    bnd (fX11_fallsTo_0_26 (0 : Int32) p1 m6) fun r7 m8 =>
    bnd (fX2_changedEndings_24 m8) fun r9 m10 =>
    if p3 < r7 then (fX11_wants_0_b80 (fun p1 p2 p3 p4 p5 m => fX11_wants_0_b21 n p1 p2 p3 p4 p5 m) p1 p5 r7 r9 m10)
    else if r7 = p3 then (if p4 ≤ r9 then (fX11_wants_0_b21 n p1 p2 p3 p4 (p5 + (1 : Int32)) m10)
        else fX11_wants_0_b80 (fun p1 p2 p3 p4 p5 m => fX11_wants_0_b21 n p1 p2 p3 p4 p5 m) p1 p5 r7 r9 m10)
      else fX11_wants_0_b21 n p1 p2 p3 p4 (p5 + (1 : Int32)) m10
set_option maxRecDepth 100000 in
set_option maxHeartbeats 4000000 in
theorem bX11_wants_0_21 {E : En} {l : Launch} {Z : Zt} (hI : Inj E) (hl0 : lZ l Z) (X : Cx E Z cX11_wants RX11 8 4) (hr : rtOf Z = some .int) : ∀ (n : Nat) (p1 : Int32) (p2 : Int32) (p3 : Int32) (p4 : Int32) (p5 : Int32) (μ : Mem), AO E Z 8 (QI E Z) 21 [(0, .ref (eAd E 0)), (1, .int p1), (2, .int p2), (3, .int p3), (4, .int p4), (5, .int p5)] [] μ (fX11_wants_0_b21 n p1 p2 p3 p4 p5 μ) := by
  intro n
  induction n with
  | zero =>
    intros
    exact ao_none
  | succ n ih =>
    intro p1 p2 p3 p4 p5 μ
    rw [fX11_wants_0_b21]
    refine ao_iload (pc := 21) X dX11_wants_21 rfl ?_
    refine ao_bipush (pc := 23) X dX11_wants_23 bp_81 ?_
    refine ao_icmp_ge (pc := 25) (tgt := 96) X dX11_wants_25 (by decide) (fun _ => ?_) (fun _ => ?_)
    · refine ao_aload_n (pc := 96) X dX11_wants_96 rfl ?_
      refine ao_getR (pc := 97) X dX11_wants_97 fl_RX11_19 sf_0_1 ?_
      refine ao_iload_n (pc := 100) X dX11_wants_100 rfl ?_
      refine ao_i2l (pc := 101) X dX11_wants_101 ?_
      refine ao_aload_n (pc := 102) X dX11_wants_102 rfl ?_
      refine ao_aload_n (pc := 103) X dX11_wants_103 rfl ?_
      refine ao_getR (pc := 104) X dX11_wants_104 fl_RX11_56 sf_0_6 ?_
      refine ao_getR (pc := 107) X dX11_wants_107 fl_RX11_335 sf_24_0 ?_
      refine ao_iconst (pc := 110) X dX11_wants_110 ic_0 ?_
      refine ao_iload_n (pc := 111) X dX11_wants_111 rfl ?_
      refine ao_callVI (pc := 112) (As := [.ref (eAd E 25), .int (0 : Int32), .int p1]) (st := [.long (Int32.toInt64 p3), .ref (eAd E 3)]) X hl0 dX11_wants_112 yv_X11_fallsTo so_0 ml_RX11_338 (mX11_fallsTo_0_25 hI (0 : Int32) p1 μ) (Nat.le_of_ble_eq_true rfl) rfl rfl (Nat.le_of_ble_eq_true rfl) (fun r1 m2 => ?_)
      refine ao_i2l (pc := 115) X dX11_wants_115 ?_
      refine ao_callVV (pc := 116) (As := [.long (Int32.toInt64 p3), .long (Int32.toInt64 r1)]) (st := []) X hl0 dX11_wants_116 yv_X7_tell_ so_3 ml_RX11_244 (mX7_tell__3 hI (Int32.toInt64 p3) (Int32.toInt64 r1) m2) (Nat.le_of_ble_eq_true rfl) rfl rfl (Nat.le_of_ble_eq_true rfl) (fun r3 m4 => ?_)
      refine ao_iload_n (pc := 119) X dX11_wants_119 rfl ?_
      exact ao_iret (pc := 120) X hr dX11_wants_120
    · refine ao_aload_n (pc := 28) X dX11_wants_28 rfl ?_
      refine ao_getR (pc := 29) X dX11_wants_29 fl_RX11_56 sf_0_6 ?_
      refine ao_iload (pc := 32) X dX11_wants_32 rfl ?_
      refine ao_callVV (pc := 34) (As := [.int p5]) (st := []) X hl0 dX11_wants_34 yv_X2_tellReading so_24 ml_RX11_348 (mX2_tellReading_24 hI p5 μ) (Nat.le_of_ble_eq_true rfl) rfl rfl (Nat.le_of_ble_eq_true rfl) (fun r5 m6 => ?_)
      refine ao_aload_n (pc := 37) X dX11_wants_37 rfl ?_
      refine ao_aload_n (pc := 38) X dX11_wants_38 rfl ?_
      refine ao_getR (pc := 39) X dX11_wants_39 fl_RX11_56 sf_0_6 ?_
      refine ao_getR (pc := 42) X dX11_wants_42 fl_RX11_345 sf_24_1 ?_
      refine ao_iconst (pc := 45) X dX11_wants_45 ic_0 ?_
      refine ao_iload_n (pc := 46) X dX11_wants_46 rfl ?_
      refine ao_callVI (pc := 47) (As := [.ref (eAd E 26), .int (0 : Int32), .int p1]) (st := []) X hl0 dX11_wants_47 yv_X11_fallsTo so_0 ml_RX11_338 (mX11_fallsTo_0_26 hI (0 : Int32) p1 m6) (Nat.le_of_ble_eq_true rfl) rfl rfl (Nat.le_of_ble_eq_true rfl) (fun r7 m8 => ?_)
      refine ao_istore (pc := 50) (lv' := [(6, .int r7), (0, .ref (eAd E 0)), (1, .int p1), (2, .int p2), (3, .int p3), (4, .int p4), (5, .int p5)]) X dX11_wants_50 (by decide) rfl ?_
      refine ao_aload_n (pc := 52) X dX11_wants_52 rfl ?_
      refine ao_getR (pc := 53) X dX11_wants_53 fl_RX11_56 sf_0_6 ?_
      refine ao_callVI (pc := 56) (As := []) (st := []) X hl0 dX11_wants_56 yv_X2_changedEndings so_24 ml_RX11_351 (mX2_changedEndings_24 hI m8) (Nat.le_of_ble_eq_true rfl) rfl rfl (Nat.le_of_ble_eq_true rfl) (fun r9 m10 => ?_)
      refine ao_istore (pc := 59) (lv' := [(7, .int r9), (6, .int r7), (0, .ref (eAd E 0)), (1, .int p1), (2, .int p2), (3, .int p3), (4, .int p4), (5, .int p5)]) X dX11_wants_59 (by decide) rfl ?_
      refine ao_iload (pc := 61) X dX11_wants_61 rfl ?_
      refine ao_iload_n (pc := 63) X dX11_wants_63 rfl ?_
      refine ao_icmp_gt (pc := 64) (tgt := 80) X dX11_wants_64 (by decide) (fun _ => ?_) (fun _ => ?_)
      · refine ao_sub [2, 3, 7, 1, 0] rfl ?_
        exact bX11_wants_0_80 hI hl0 X hr ih p1 p5 r7 r9 m10
      · refine ao_iload (pc := 67) X dX11_wants_67 rfl ?_
        refine ao_iload_n (pc := 69) X dX11_wants_69 rfl ?_
        refine ao_icmp_ne (pc := 70) (tgt := 90) X dX11_wants_70 (by decide) (fun _ => ?_) (fun _ => ?_)
        · refine ao_iinc (pc := 90) (k := 7) (v := p5 + (1 : Int32)) (lv' := [(5, .int (p5 + (1 : Int32))), (7, .int r9), (6, .int r7), (0, .ref (eAd E 0)), (1, .int p1), (2, .int p2), (3, .int p3), (4, .int p4)]) X dX11_wants_90 rfl (ii_ic ic_1) (by decide) rfl ?_
          refine ao_goto (pc := 93) (tgt := 21) X dX11_wants_93 (by decide) ?_
          refine ao_sub [3, 4, 5, 6, 7, 0] rfl ?_
          exact ih p1 p2 p3 p4 (p5 + (1 : Int32)) m10
        · refine ao_iload (pc := 73) X dX11_wants_73 rfl ?_
          refine ao_iload (pc := 75) X dX11_wants_75 rfl ?_
          refine ao_icmp_ge (pc := 77) (tgt := 90) X dX11_wants_77 (by decide) (fun _ => ?_) (fun _ => ?_)
          · refine ao_iinc (pc := 90) (k := 7) (v := p5 + (1 : Int32)) (lv' := [(5, .int (p5 + (1 : Int32))), (7, .int r9), (6, .int r7), (0, .ref (eAd E 0)), (1, .int p1), (2, .int p2), (3, .int p3), (4, .int p4)]) X dX11_wants_90 rfl (ii_ic ic_1) (by decide) rfl ?_
            refine ao_goto (pc := 93) (tgt := 21) X dX11_wants_93 (by decide) ?_
            refine ao_sub [3, 4, 5, 6, 7, 0] rfl ?_
            exact ih p1 p2 p3 p4 (p5 + (1 : Int32)) m10
          · refine ao_sub [2, 3, 7, 1, 0] rfl ?_
            exact bX11_wants_0_80 hI hl0 X hr ih p1 p5 r7 r9 m10
def fX11_wants_0 (v1 : Int32) (μ : Mem) : Option (Int32 × Mem) :=
  if v1 < 0 then (some ((-1 : Int32), μ))
  else if v1 < (4 : Int32) then (fX11_wants_0_b21 FU v1 (0 : Int32) (-1 : Int32) (0 : Int32) (0 : Int32) μ)
    else some ((-1 : Int32), μ)
set_option maxRecDepth 100000 in
set_option maxHeartbeats 4000000 in
theorem mX11_wants_0 {E : En} {l : Launch} (hI : Inj E) (v1 : Int32) (μ : Mem) : MtI E l yX11_wants cX11_wants 8 (some .int) 4 [.ref (eAd E 0), .int v1] μ (fX11_wants_0 v1 μ) := by
  refine mtI_of (own := RX11) [(0, .ref (eAd E 0)), (1, .int v1)] hI rfl (by decide) (Nat.le_of_ble_eq_true rfl) (Nat.le_of_ble_eq_true rfl) rfl (fun Z hl0 X hr => ?_)
  unfold fX11_wants_0
  refine ao_iload_n (pc := 0) X dX11_wants_0 rfl ?_
  refine ao_if_lt (pc := 1) (tgt := 9) X dX11_wants_1 (by decide) (fun _ => ?_) (fun _ => ?_)
  · refine ao_iconst (pc := 9) X dX11_wants_9 ic_m1 ?_
    exact ao_iret (pc := 10) X hr dX11_wants_10
  · refine ao_iload_n (pc := 4) X dX11_wants_4 rfl ?_
    refine ao_iconst (pc := 5) X dX11_wants_5 ic_4 ?_
    refine ao_icmp_lt (pc := 6) (tgt := 11) X dX11_wants_6 (by decide) (fun _ => ?_) (fun _ => ?_)
    · refine ao_iconst (pc := 11) X dX11_wants_11 ic_0 ?_
      refine ao_istore_n (pc := 12) (lv' := [(2, .int (0 : Int32)), (0, .ref (eAd E 0)), (1, .int v1)]) X dX11_wants_12 rfl (by decide) rfl ?_
      refine ao_iconst (pc := 13) X dX11_wants_13 ic_m1 ?_
      refine ao_istore_n (pc := 14) (lv' := [(3, .int (-1 : Int32)), (2, .int (0 : Int32)), (0, .ref (eAd E 0)), (1, .int v1)]) X dX11_wants_14 rfl (by decide) rfl ?_
      refine ao_iconst (pc := 15) X dX11_wants_15 ic_0 ?_
      refine ao_istore (pc := 16) (lv' := [(4, .int (0 : Int32)), (3, .int (-1 : Int32)), (2, .int (0 : Int32)), (0, .ref (eAd E 0)), (1, .int v1)]) X dX11_wants_16 (by decide) rfl ?_
      refine ao_iconst (pc := 18) X dX11_wants_18 ic_0 ?_
      refine ao_istore (pc := 19) (lv' := [(5, .int (0 : Int32)), (4, .int (0 : Int32)), (3, .int (-1 : Int32)), (2, .int (0 : Int32)), (0, .ref (eAd E 0)), (1, .int v1)]) X dX11_wants_19 (by decide) rfl ?_
      refine ao_sub [4, 5, 3, 2, 1, 0] rfl ?_
      exact bX11_wants_0_21 hI hl0 X hr FU v1 (0 : Int32) (-1 : Int32) (0 : Int32) (0 : Int32) μ
    · refine ao_iconst (pc := 9) X dX11_wants_9 ic_m1 ?_
      exact ao_iret (pc := 10) X hr dX11_wants_10
def fX12_wants_122_b130 (k24 : Int32 → Int32 → Int32 → Int32 → Int32 → Mem → Option (Int32 × Mem)) (p1 : Int32) (p5 : Int32) (p6 : Int32) (p8 : Int32) (μ : Mem) : Option (Int32 × Mem) :=
  k24 p1 p5 p8 p6 (p5 + (1 : Int32)) μ
set_option maxRecDepth 100000 in
set_option maxHeartbeats 4000000 in
theorem bX12_wants_122_130 {E : En} {l : Launch} {Z : Zt} (hI : Inj E) (hl0 : lZ l Z) (X : Cx E Z cX12_wants RX12 9 4) (hr : rtOf Z = some .int) {k24 : Int32 → Int32 → Int32 → Int32 → Int32 → Mem → Option (Int32 × Mem)} (hk24 : ∀ (p1 : Int32) (p2 : Int32) (p3 : Int32) (p4 : Int32) (p5 : Int32) (m : Mem), AO E Z 9 (QI E Z) 24 [(0, .ref (eAd E 122)), (1, .int p1), (2, .int p2), (3, .int p3), (4, .int p4), (5, .int p5)] [] m (k24 p1 p2 p3 p4 p5 m)) (p1 : Int32) (p5 : Int32) (p6 : Int32) (p8 : Int32) (μ : Mem) : AO E Z 9 (QI E Z) 130 [(0, .ref (eAd E 122)), (1, .int p1), (5, .int p5), (6, .int p6), (8, .int p8)] [] μ (fX12_wants_122_b130 k24 p1 p5 p6 p8 μ) := by
  unfold fX12_wants_122_b130
  refine ao_iload (pc := 130) X dX12_wants_130 rfl ?_
  refine ao_istore_n (pc := 132) (lv' := [(2, .int p5), (0, .ref (eAd E 122)), (1, .int p1), (5, .int p5), (6, .int p6), (8, .int p8)]) X dX12_wants_132 rfl (by decide) rfl ?_
  refine ao_iload (pc := 133) X dX12_wants_133 rfl ?_
  refine ao_istore_n (pc := 135) (lv' := [(3, .int p8), (2, .int p5), (0, .ref (eAd E 122)), (1, .int p1), (5, .int p5), (6, .int p6), (8, .int p8)]) X dX12_wants_135 rfl (by decide) rfl ?_
  refine ao_iload (pc := 136) X dX12_wants_136 rfl ?_
  refine ao_istore (pc := 138) (lv' := [(4, .int p6), (3, .int p8), (2, .int p5), (0, .ref (eAd E 122)), (1, .int p1), (5, .int p5), (6, .int p6), (8, .int p8)]) X dX12_wants_138 (by decide) rfl ?_
  refine ao_iinc (pc := 140) (k := 5) (v := p5 + (1 : Int32)) (lv' := [(5, .int (p5 + (1 : Int32))), (4, .int p6), (3, .int p8), (2, .int p5), (0, .ref (eAd E 122)), (1, .int p1), (6, .int p6), (8, .int p8)]) X dX12_wants_140 rfl (ii_ic ic_1) (by decide) rfl ?_
  refine ao_goto (pc := 143) (tgt := 24) X dX12_wants_143 (by decide) ?_
  refine ao_sub [4, 5, 3, 2, 1, 0] rfl ?_
  exact hk24 p1 p5 p8 p6 (p5 + (1 : Int32)) μ
def fX12_wants_122_b41 (k24 : Int32 → Int32 → Int32 → Int32 → Int32 → Mem → Option (Int32 × Mem)) : Nat → Int32 → Int32 → Int32 → Int32 → Int32 → Int32 → Int32 → Int32 → Mem → Option (Int32 × Mem)
  | 0, _, _, _, _, _, _, _, _, _ => none
  | n + 1, p1, p2, p3, p4, p5, p6, p7, p8, μ =>
  if p8 < 0 then (bnd (fX12_haveBy_122_145 p1 (0 : Int32) μ) fun r11 m12 =>
    if r11 < p3 then (k24 p1 p2 p3 p4 (p5 + (1 : Int32)) m12)
    else if r11 = p3 then (if p6 < p4 then (fX12_wants_122_b130 k24 p1 p5 p6 r11 m12)
        else k24 p1 p2 p3 p4 (p5 + (1 : Int32)) m12)
      else fX12_wants_122_b130 k24 p1 p5 p6 r11 m12)
  else gd (!((3 : Int32) == 0)) (gd (inb p8 4) (lt (sI μ 145 (ix p8) (p7 - p7 / (3 : Int32) * (3 : Int32))) fun m15 =>
    gd (!((3 : Int32) == 0)) (lt (p7 / (3 : Int32)) fun x16 =>
    gd (inb p8 4) (gd (inb p8 4) (if (gI m15 145 (ix p8)) = (gI m15 132 (ix p8)) then (lt (p6 + (0 : Int32)) fun x19 =>
      fX12_wants_122_b41 k24 n p1 p2 p3 p4 p5 x19 x16 (p8 + (-1 : Int32)) m15)
    else lt (p6 + (1 : Int32)) fun x17 =>
      fX12_wants_122_b41 k24 n p1 p2 p3 p4 p5 x17 x16 (p8 + (-1 : Int32)) m15)))))
set_option maxRecDepth 100000 in
set_option maxHeartbeats 4000000 in
theorem bX12_wants_122_41 {E : En} {l : Launch} {Z : Zt} (hI : Inj E) (hl0 : lZ l Z) (X : Cx E Z cX12_wants RX12 9 4) (hr : rtOf Z = some .int) {k24 : Int32 → Int32 → Int32 → Int32 → Int32 → Mem → Option (Int32 × Mem)} (hk24 : ∀ (p1 : Int32) (p2 : Int32) (p3 : Int32) (p4 : Int32) (p5 : Int32) (m : Mem), AO E Z 9 (QI E Z) 24 [(0, .ref (eAd E 122)), (1, .int p1), (2, .int p2), (3, .int p3), (4, .int p4), (5, .int p5)] [] m (k24 p1 p2 p3 p4 p5 m)) : ∀ (n : Nat) (p1 : Int32) (p2 : Int32) (p3 : Int32) (p4 : Int32) (p5 : Int32) (p6 : Int32) (p7 : Int32) (p8 : Int32) (μ : Mem), AO E Z 9 (QI E Z) 41 [(0, .ref (eAd E 122)), (1, .int p1), (2, .int p2), (3, .int p3), (4, .int p4), (5, .int p5), (6, .int p6), (7, .int p7), (8, .int p8)] [] μ (fX12_wants_122_b41 k24 n p1 p2 p3 p4 p5 p6 p7 p8 μ) := by
  intro n
  induction n with
  | zero =>
    intros
    exact ao_none
  | succ n ih =>
    intro p1 p2 p3 p4 p5 p6 p7 p8 μ
    rw [fX12_wants_122_b41]
    refine ao_iload (pc := 41) X dX12_wants_41 rfl ?_
    refine ao_if_lt (pc := 43) (tgt := 96) X dX12_wants_43 (by decide) (fun _ => ?_) (fun _ => ?_)
    · refine ao_aload_n (pc := 96) X dX12_wants_96 rfl ?_
      refine ao_aload_n (pc := 97) X dX12_wants_97 rfl ?_
      refine ao_getR (pc := 98) X dX12_wants_98 fl_RX12_83 sf_122_39 ?_
      refine ao_iload_n (pc := 101) X dX12_wants_101 rfl ?_
      refine ao_iconst (pc := 102) X dX12_wants_102 ic_0 ?_
      refine ao_callVI (pc := 103) (As := [.ref (eAd E 145), .int p1, .int (0 : Int32)]) (st := []) X hl0 dX12_wants_103 yv_X12_haveBy so_122 ml_RX12_342 (mX12_haveBy_122_145 hI p1 (0 : Int32) μ) (Nat.le_of_ble_eq_true rfl) rfl rfl (Nat.le_of_ble_eq_true rfl) (fun r11 m12 => ?_)
      refine ao_istore (pc := 106) (lv' := [(8, .int r11), (0, .ref (eAd E 122)), (1, .int p1), (2, .int p2), (3, .int p3), (4, .int p4), (5, .int p5), (6, .int p6), (7, .int p7)]) X dX12_wants_106 (by decide) rfl ?_
      refine ao_iload (pc := 108) X dX12_wants_108 rfl ?_
      refine ao_iload_n (pc := 110) X dX12_wants_110 rfl ?_
      refine ao_icmp_lt (pc := 111) (tgt := 140) X dX12_wants_111 (by decide) (fun _ => ?_) (fun _ => ?_)
      · refine ao_iinc (pc := 140) (k := 6) (v := p5 + (1 : Int32)) (lv' := [(5, .int (p5 + (1 : Int32))), (8, .int r11), (0, .ref (eAd E 122)), (1, .int p1), (2, .int p2), (3, .int p3), (4, .int p4), (6, .int p6), (7, .int p7)]) X dX12_wants_140 rfl (ii_ic ic_1) (by decide) rfl ?_
        refine ao_goto (pc := 143) (tgt := 24) X dX12_wants_143 (by decide) ?_
        refine ao_sub [2, 3, 4, 5, 6, 0] rfl ?_
        exact hk24 p1 p2 p3 p4 (p5 + (1 : Int32)) m12
      · refine ao_iload (pc := 114) X dX12_wants_114 rfl ?_
        refine ao_iload_n (pc := 116) X dX12_wants_116 rfl ?_
        refine ao_icmp_ne (pc := 117) (tgt := 130) X dX12_wants_117 (by decide) (fun _ => ?_) (fun _ => ?_)
        · refine ao_sub [1, 2, 6, 7, 0] rfl ?_
          exact bX12_wants_122_130 hI hl0 X hr hk24 p1 p5 p6 r11 m12
        · refine ao_iload (pc := 120) X dX12_wants_120 rfl ?_
          refine ao_iload (pc := 122) X dX12_wants_122 rfl ?_
          refine ao_icmp_lt (pc := 124) (tgt := 130) X dX12_wants_124 (by decide) (fun _ => ?_) (fun _ => ?_)
          · refine ao_sub [1, 2, 6, 7, 0] rfl ?_
            exact bX12_wants_122_130 hI hl0 X hr hk24 p1 p5 p6 r11 m12
          · refine ao_goto (pc := 127) (tgt := 140) X dX12_wants_127 (by decide) ?_
            refine ao_iinc (pc := 140) (k := 6) (v := p5 + (1 : Int32)) (lv' := [(5, .int (p5 + (1 : Int32))), (8, .int r11), (0, .ref (eAd E 122)), (1, .int p1), (2, .int p2), (3, .int p3), (4, .int p4), (6, .int p6), (7, .int p7)]) X dX12_wants_140 rfl (ii_ic ic_1) (by decide) rfl ?_
            refine ao_goto (pc := 143) (tgt := 24) X dX12_wants_143 (by decide) ?_
            refine ao_sub [2, 3, 4, 5, 6, 0] rfl ?_
            exact hk24 p1 p2 p3 p4 (p5 + (1 : Int32)) m12
    · refine ao_aload_n (pc := 46) X dX12_wants_46 rfl ?_
      refine ao_getR (pc := 47) X dX12_wants_47 fl_RX12_83 sf_122_39 ?_
      refine ao_iload (pc := 50) X dX12_wants_50 rfl ?_
      refine ao_iload (pc := 52) X dX12_wants_52 rfl ?_
      refine ao_iconst (pc := 54) X dX12_wants_54 ic_3 ?_
      refine ao_irem (pc := 55) X dX12_wants_55 ?_
      refine ao_iast (pc := 56) X dX12_wants_56 sa_145 ?_
      refine ao_lt (fun m15 => ?_)
      refine ao_iload (pc := 57) X dX12_wants_57 rfl ?_
      refine ao_iconst (pc := 59) X dX12_wants_59 ic_3 ?_
      refine ao_idiv (pc := 60) X dX12_wants_60 ?_
      refine ao_ltI (fun x16 => ?_)
      refine ao_istore (pc := 61) (lv' := [(7, .int x16), (0, .ref (eAd E 122)), (1, .int p1), (2, .int p2), (3, .int p3), (4, .int p4), (5, .int p5), (6, .int p6), (8, .int p8)]) X dX12_wants_61 (by decide) rfl ?_
      refine ao_iload (pc := 63) X dX12_wants_63 rfl ?_
      refine ao_aload_n (pc := 65) X dX12_wants_65 rfl ?_
      refine ao_getR (pc := 66) X dX12_wants_66 fl_RX12_83 sf_122_39 ?_
      refine ao_iload (pc := 69) X dX12_wants_69 rfl ?_
      refine ao_iald (pc := 71) X dX12_wants_71 sa_145 ?_
      refine ao_aload_n (pc := 72) X dX12_wants_72 rfl ?_
      refine ao_getR (pc := 73) X dX12_wants_73 fl_RX12_38 sf_122_11 ?_
      refine ao_iload (pc := 76) X dX12_wants_76 rfl ?_
      refine ao_iald (pc := 78) X dX12_wants_78 sa_132 ?_
      refine ao_icmp_ne (pc := 79) (tgt := 86) X dX12_wants_79 (by decide) (fun _ => ?_) (fun _ => ?_)
      · refine ao_iconst (pc := 86) X dX12_wants_86 ic_1 ?_
        refine ao_iadd (pc := 87) X dX12_wants_87 ?_
        refine ao_ltI (fun x17 => ?_)
        refine ao_istore (pc := 88) (lv' := [(6, .int x17), (7, .int x16), (0, .ref (eAd E 122)), (1, .int p1), (2, .int p2), (3, .int p3), (4, .int p4), (5, .int p5), (8, .int p8)]) X dX12_wants_88 (by decide) rfl ?_
        refine ao_iinc (pc := 90) (k := 8) (v := p8 + (-1 : Int32)) (lv' := [(8, .int (p8 + (-1 : Int32))), (6, .int x17), (7, .int x16), (0, .ref (eAd E 122)), (1, .int p1), (2, .int p2), (3, .int p3), (4, .int p4), (5, .int p5)]) X dX12_wants_90 rfl (ii_ic ic_m1) (by decide) rfl ?_
        refine ao_goto (pc := 93) (tgt := 41) X dX12_wants_93 (by decide) ?_
        refine ao_sub [3, 4, 5, 6, 7, 8, 1, 2, 0] rfl ?_
        exact ih p1 p2 p3 p4 p5 x17 x16 (p8 + (-1 : Int32)) m15
      · refine ao_iconst (pc := 82) X dX12_wants_82 ic_0 ?_
        refine ao_goto (pc := 83) (tgt := 87) X dX12_wants_83 (by decide) ?_
        refine ao_iadd (pc := 87) X dX12_wants_87 ?_
        refine ao_ltI (fun x19 => ?_)
        refine ao_istore (pc := 88) (lv' := [(6, .int x19), (7, .int x16), (0, .ref (eAd E 122)), (1, .int p1), (2, .int p2), (3, .int p3), (4, .int p4), (5, .int p5), (8, .int p8)]) X dX12_wants_88 (by decide) rfl ?_
        refine ao_iinc (pc := 90) (k := 8) (v := p8 + (-1 : Int32)) (lv' := [(8, .int (p8 + (-1 : Int32))), (6, .int x19), (7, .int x16), (0, .ref (eAd E 122)), (1, .int p1), (2, .int p2), (3, .int p3), (4, .int p4), (5, .int p5)]) X dX12_wants_90 rfl (ii_ic ic_m1) (by decide) rfl ?_
        refine ao_goto (pc := 93) (tgt := 41) X dX12_wants_93 (by decide) ?_
        refine ao_sub [3, 4, 5, 6, 7, 8, 1, 2, 0] rfl ?_
        exact ih p1 p2 p3 p4 p5 x19 x16 (p8 + (-1 : Int32)) m15
def fX12_wants_122_b24 : Nat → Int32 → Int32 → Int32 → Int32 → Int32 → Mem → Option (Int32 × Mem)
  | 0, _, _, _, _, _, _ => none
  | n + 1, p1, p2, p3, p4, p5, μ =>
  if (81 : Int32) ≤ p5 then (lt (sI μ 122 16 (0 : Int32)) fun m4 =>
    bnd (fX12_tell_122 (Int32.toInt64 p3) m4) fun r5 m6 =>
    bnd (fX12_haveBy_122_132 p1 (0 : Int32) m6) fun r7 m8 =>
    bnd (fX12_tell_122 (Int32.toInt64 r7) m8) fun r9 m10 =>
    some (p2, m10))
  else fX12_wants_122_b41 (fun p1 p2 p3 p4 p5 m => fX12_wants_122_b24 n p1 p2 p3 p4 p5 m) FU p1 p2 p3 p4 p5 (0 : Int32) p5 (3 : Int32) μ
set_option maxRecDepth 100000 in
set_option maxHeartbeats 4000000 in
theorem bX12_wants_122_24 {E : En} {l : Launch} {Z : Zt} (hI : Inj E) (hl0 : lZ l Z) (X : Cx E Z cX12_wants RX12 9 4) (hr : rtOf Z = some .int) : ∀ (n : Nat) (p1 : Int32) (p2 : Int32) (p3 : Int32) (p4 : Int32) (p5 : Int32) (μ : Mem), AO E Z 9 (QI E Z) 24 [(0, .ref (eAd E 122)), (1, .int p1), (2, .int p2), (3, .int p3), (4, .int p4), (5, .int p5)] [] μ (fX12_wants_122_b24 n p1 p2 p3 p4 p5 μ) := by
  intro n
  induction n with
  | zero =>
    intros
    exact ao_none
  | succ n ih =>
    intro p1 p2 p3 p4 p5 μ
    rw [fX12_wants_122_b24]
    refine ao_iload (pc := 24) X dX12_wants_24 rfl ?_
    refine ao_bipush (pc := 26) X dX12_wants_26 bp_81 ?_
    refine ao_icmp_ge (pc := 28) (tgt := 146) X dX12_wants_28 (by decide) (fun _ => ?_) (fun _ => ?_)
    · refine ao_aload_n (pc := 146) X dX12_wants_146 rfl ?_
      refine ao_iconst (pc := 147) X dX12_wants_147 ic_0 ?_
      refine ao_putI (pc := 148) X dX12_wants_148 fp_RX12_98 sf_122_16 ?_
      refine ao_lt (fun m4 => ?_)
      refine ao_aload_n (pc := 151) X dX12_wants_151 rfl ?_
      refine ao_iload_n (pc := 152) X dX12_wants_152 rfl ?_
      refine ao_i2l (pc := 153) X dX12_wants_153 ?_
      refine ao_callVV (pc := 154) (As := [.long (Int32.toInt64 p3)]) (st := []) X hl0 dX12_wants_154 yv_X12_tell so_122 ml_RX12_267 (mX12_tell_122 hI (Int32.toInt64 p3) m4) (Nat.le_of_ble_eq_true rfl) rfl rfl (Nat.le_of_ble_eq_true rfl) (fun r5 m6 => ?_)
      refine ao_aload_n (pc := 157) X dX12_wants_157 rfl ?_
      refine ao_aload_n (pc := 158) X dX12_wants_158 rfl ?_
      refine ao_aload_n (pc := 159) X dX12_wants_159 rfl ?_
      refine ao_getR (pc := 160) X dX12_wants_160 fl_RX12_38 sf_122_11 ?_
      refine ao_iload_n (pc := 163) X dX12_wants_163 rfl ?_
      refine ao_iconst (pc := 164) X dX12_wants_164 ic_0 ?_
      refine ao_callVI (pc := 165) (As := [.ref (eAd E 132), .int p1, .int (0 : Int32)]) (st := [.ref (eAd E 122)]) X hl0 dX12_wants_165 yv_X12_haveBy so_122 ml_RX12_342 (mX12_haveBy_122_132 hI p1 (0 : Int32) m6) (Nat.le_of_ble_eq_true rfl) rfl rfl (Nat.le_of_ble_eq_true rfl) (fun r7 m8 => ?_)
      refine ao_i2l (pc := 168) X dX12_wants_168 ?_
      refine ao_callVV (pc := 169) (As := [.long (Int32.toInt64 r7)]) (st := []) X hl0 dX12_wants_169 yv_X12_tell so_122 ml_RX12_267 (mX12_tell_122 hI (Int32.toInt64 r7) m8) (Nat.le_of_ble_eq_true rfl) rfl rfl (Nat.le_of_ble_eq_true rfl) (fun r9 m10 => ?_)
      refine ao_iload_n (pc := 172) X dX12_wants_172 rfl ?_
      exact ao_iret (pc := 173) X hr dX12_wants_173
    · refine ao_iconst (pc := 31) X dX12_wants_31 ic_0 ?_
      refine ao_istore (pc := 32) (lv' := [(6, .int (0 : Int32)), (0, .ref (eAd E 122)), (1, .int p1), (2, .int p2), (3, .int p3), (4, .int p4), (5, .int p5)]) X dX12_wants_32 (by decide) rfl ?_
      refine ao_iload (pc := 34) X dX12_wants_34 rfl ?_
      refine ao_istore (pc := 36) (lv' := [(7, .int p5), (6, .int (0 : Int32)), (0, .ref (eAd E 122)), (1, .int p1), (2, .int p2), (3, .int p3), (4, .int p4), (5, .int p5)]) X dX12_wants_36 (by decide) rfl ?_
      refine ao_iconst (pc := 38) X dX12_wants_38 ic_3 ?_
      refine ao_istore (pc := 39) (lv' := [(8, .int (3 : Int32)), (7, .int p5), (6, .int (0 : Int32)), (0, .ref (eAd E 122)), (1, .int p1), (2, .int p2), (3, .int p3), (4, .int p4), (5, .int p5)]) X dX12_wants_39 (by decide) rfl ?_
      refine ao_sub [3, 4, 5, 6, 7, 8, 2, 1, 0] rfl ?_
      exact bX12_wants_122_41 hI hl0 X hr ih FU p1 p2 p3 p4 p5 (0 : Int32) p5 (3 : Int32) μ
def fX12_wants_122 (v1 : Int32) (μ : Mem) : Option (Int32 × Mem) :=
  lt (sI μ 122 17 (0 : Int32)) fun m1 =>
  bnd (fX12_isHeir v1 m1) fun r2 m3 =>
  if r2 = 0 then (some ((-1 : Int32), m3))
  else fX12_wants_122_b24 FU v1 (-1 : Int32) (-1 : Int32) (0 : Int32) (0 : Int32) m3
set_option maxRecDepth 100000 in
set_option maxHeartbeats 4000000 in
theorem mX12_wants_122 {E : En} {l : Launch} (hI : Inj E) (v1 : Int32) (μ : Mem) : MtI E l yX12_wants cX12_wants 9 (some .int) 4 [.ref (eAd E 122), .int v1] μ (fX12_wants_122 v1 μ) := by
  refine mtI_of (own := RX12) [(0, .ref (eAd E 122)), (1, .int v1)] hI rfl (by decide) (Nat.le_of_ble_eq_true rfl) (Nat.le_of_ble_eq_true rfl) rfl (fun Z hl0 X hr => ?_)
  unfold fX12_wants_122
  refine ao_aload_n (pc := 0) X dX12_wants_0 rfl ?_
  refine ao_iconst (pc := 1) X dX12_wants_1 ic_0 ?_
  refine ao_putI (pc := 2) X dX12_wants_2 fp_RX12_95 sf_122_17 ?_
  refine ao_lt (fun m1 => ?_)
  refine ao_iload_n (pc := 5) X dX12_wants_5 rfl ?_
  refine ao_callSI (pc := 6) (As := [.int v1]) (st := []) X hl0 dX12_wants_6 yv_X12_isHeir ml_RX12_345 (mX12_isHeir hI v1 m1) (Nat.le_of_ble_eq_true rfl) rfl rfl (Nat.le_of_ble_eq_true rfl) (fun r2 m3 => ?_)
  refine ao_if_ne (pc := 9) (tgt := 14) X dX12_wants_9 (by decide) (fun _ => ?_) (fun _ => ?_)
  · refine ao_iconst (pc := 14) X dX12_wants_14 ic_m1 ?_
    refine ao_istore_n (pc := 15) (lv' := [(2, .int (-1 : Int32)), (0, .ref (eAd E 122)), (1, .int v1)]) X dX12_wants_15 rfl (by decide) rfl ?_
    refine ao_iconst (pc := 16) X dX12_wants_16 ic_m1 ?_
    refine ao_istore_n (pc := 17) (lv' := [(3, .int (-1 : Int32)), (2, .int (-1 : Int32)), (0, .ref (eAd E 122)), (1, .int v1)]) X dX12_wants_17 rfl (by decide) rfl ?_
    refine ao_iconst (pc := 18) X dX12_wants_18 ic_0 ?_
    refine ao_istore (pc := 19) (lv' := [(4, .int (0 : Int32)), (3, .int (-1 : Int32)), (2, .int (-1 : Int32)), (0, .ref (eAd E 122)), (1, .int v1)]) X dX12_wants_19 (by decide) rfl ?_
    refine ao_iconst (pc := 21) X dX12_wants_21 ic_0 ?_
    refine ao_istore (pc := 22) (lv' := [(5, .int (0 : Int32)), (4, .int (0 : Int32)), (3, .int (-1 : Int32)), (2, .int (-1 : Int32)), (0, .ref (eAd E 122)), (1, .int v1)]) X dX12_wants_22 (by decide) rfl ?_
    refine ao_sub [4, 5, 3, 2, 1, 0] rfl ?_
    exact bX12_wants_122_24 hI hl0 X hr FU v1 (-1 : Int32) (-1 : Int32) (0 : Int32) (0 : Int32) m3
  · refine ao_iconst (pc := 12) X dX12_wants_12 ic_m1 ?_
    exact ao_iret (pc := 13) X hr dX12_wants_13
def fX11_commonDivisor_b9 : Nat → Int64 → Int64 → Int32 → Mem → Option (Int64 × Mem)
  | 0, _, _, _, _ => none
  | n + 1, p4, p6, p8, μ =>
  if (200 : Int32) ≤ p8 then (some (p4, μ))
  else if (lg_cmp p6 (0 : Int64)) = 0 then (some (p4, μ))
    else gd (!(p6 == 0)) (lt (p4 - p4 / p6 * p6) fun x1 =>
      fX11_commonDivisor_b9 n p6 x1 (p8 + (1 : Int32)) μ)
set_option maxRecDepth 100000 in
set_option maxHeartbeats 4000000 in
theorem bX11_commonDivisor_9 {E : En} {l : Launch} {Z : Zt} (hI : Inj E) (hl0 : lZ l Z) (X : Cx E Z cX11_commonDivisor RX11 11 1) (hr : rtOf Z = some .long) : ∀ (n : Nat) (p4 : Int64) (p6 : Int64) (p8 : Int32) (μ : Mem), AO E Z 11 (QL E Z) 9 [(4, .long p4), (6, .long p6), (8, .int p8)] [] μ (fX11_commonDivisor_b9 n p4 p6 p8 μ) := by
  intro n
  induction n with
  | zero =>
    intros
    exact ao_none
  | succ n ih =>
    intro p4 p6 p8 μ
    rw [fX11_commonDivisor_b9]
    refine ao_iload (pc := 9) X dX11_commonDivisor_9 rfl ?_
    refine ao_sipush (pc := 11) X dX11_commonDivisor_11 sp_200 ?_
    refine ao_icmp_ge (pc := 14) (tgt := 45) X dX11_commonDivisor_14 (by decide) (fun _ => ?_) (fun _ => ?_)
    · refine ao_lload (pc := 45) X dX11_commonDivisor_45 rfl ?_
      exact ao_lret (pc := 47) X hr dX11_commonDivisor_47
    · refine ao_lload (pc := 17) X dX11_commonDivisor_17 rfl ?_
      refine ao_lconst (pc := 19) X dX11_commonDivisor_19 lc_0 ?_
      refine ao_lcmp (pc := 20) X dX11_commonDivisor_20 ?_
      refine ao_if_eq (pc := 21) (tgt := 45) X dX11_commonDivisor_21 (by decide) (fun _ => ?_) (fun _ => ?_)
      · refine ao_lload (pc := 45) X dX11_commonDivisor_45 rfl ?_
        exact ao_lret (pc := 47) X hr dX11_commonDivisor_47
      · refine ao_lload (pc := 24) X dX11_commonDivisor_24 rfl ?_
        refine ao_lload (pc := 26) X dX11_commonDivisor_26 rfl ?_
        refine ao_lrem (pc := 28) X dX11_commonDivisor_28 ?_
        refine ao_ltL (fun x1 => ?_)
        refine ao_lstore (pc := 29) (lv' := [(9, .long x1), (4, .long p4), (6, .long p6), (8, .int p8)]) X dX11_commonDivisor_29 (by decide) rfl ?_
        refine ao_lload (pc := 31) X dX11_commonDivisor_31 rfl ?_
        refine ao_lstore (pc := 33) (lv' := [(4, .long p6), (9, .long x1), (6, .long p6), (8, .int p8)]) X dX11_commonDivisor_33 (by decide) rfl ?_
        refine ao_lload (pc := 35) X dX11_commonDivisor_35 rfl ?_
        refine ao_lstore (pc := 37) (lv' := [(6, .long x1), (4, .long p6), (9, .long x1), (8, .int p8)]) X dX11_commonDivisor_37 (by decide) rfl ?_
        refine ao_iinc (pc := 39) (k := 3) (v := p8 + (1 : Int32)) (lv' := [(8, .int (p8 + (1 : Int32))), (6, .long x1), (4, .long p6), (9, .long x1)]) X dX11_commonDivisor_39 rfl (ii_ic ic_1) (by decide) rfl ?_
        refine ao_goto (pc := 42) (tgt := 9) X dX11_commonDivisor_42 (by decide) ?_
        refine ao_sub [2, 1, 0] rfl ?_
        exact ih p6 x1 (p8 + (1 : Int32)) μ
def fX11_commonDivisor (v0 : Int64) (v2 : Int64) (μ : Mem) : Option (Int64 × Mem) :=
  fX11_commonDivisor_b9 FU v0 v2 (0 : Int32) μ
set_option maxRecDepth 100000 in
set_option maxHeartbeats 4000000 in
theorem mX11_commonDivisor {E : En} {l : Launch} (hI : Inj E) (v0 : Int64) (v2 : Int64) (μ : Mem) : MtL E l yX11_commonDivisor cX11_commonDivisor 11 (some .long) 1 [.long v0, .long v2] μ (fX11_commonDivisor v0 v2 μ) := by
  refine mtL_of (own := RX11) [(0, .long v0), (2, .long v2)] hI rfl (by decide) (Nat.le_of_ble_eq_true rfl) (Nat.le_of_ble_eq_true rfl) rfl (fun Z hl0 X hr => ?_)
  unfold fX11_commonDivisor
  refine ao_lload_n (pc := 0) X dX11_commonDivisor_0 rfl ?_
  refine ao_lstore (pc := 1) (lv' := [(4, .long v0), (0, .long v0), (2, .long v2)]) X dX11_commonDivisor_1 (by decide) rfl ?_
  refine ao_lload_n (pc := 3) X dX11_commonDivisor_3 rfl ?_
  refine ao_lstore (pc := 4) (lv' := [(6, .long v2), (4, .long v0), (0, .long v0), (2, .long v2)]) X dX11_commonDivisor_4 (by decide) rfl ?_
  refine ao_iconst (pc := 6) X dX11_commonDivisor_6 ic_0 ?_
  refine ao_istore (pc := 7) (lv' := [(8, .int (0 : Int32)), (6, .long v2), (4, .long v0), (0, .long v0), (2, .long v2)]) X dX11_commonDivisor_7 (by decide) rfl ?_
  refine ao_sub [2, 1, 0] rfl ?_
  exact bX11_commonDivisor_9 hI hl0 X hr FU v0 v2 (0 : Int32) μ
def fX11_isTenths (v0 : Int32) (μ : Mem) : Option (Int32 × Mem) :=
  if v0 < 0 then (some ((0 : Int32), μ))
  else if (10 : Int32) < v0 then (some ((0 : Int32), μ))
    else some ((1 : Int32), μ)
set_option maxRecDepth 100000 in
set_option maxHeartbeats 4000000 in
theorem mX11_isTenths {E : En} {l : Launch} (hI : Inj E) (v0 : Int32) (μ : Mem) : MtI E l yX11_isTenths cX11_isTenths 1 (some .boolean) 1 [.int v0] μ (fX11_isTenths v0 μ) := by
  refine mtI_of (own := RX11) [(0, .int v0)] hI rfl (by decide) (Nat.le_of_ble_eq_true rfl) (Nat.le_of_ble_eq_true rfl) rfl (fun Z hl0 X hr => ?_)
  unfold fX11_isTenths
  refine ao_iload_n (pc := 0) X dX11_isTenths_0 rfl ?_
  refine ao_if_lt (pc := 1) (tgt := 14) X dX11_isTenths_1 (by decide) (fun _ => ?_) (fun _ => ?_)
  · refine ao_iconst (pc := 14) X dX11_isTenths_14 ic_0 ?_
    exact ao_zret (pc := 15) X hr rfl dX11_isTenths_15
  · refine ao_iload_n (pc := 4) X dX11_isTenths_4 rfl ?_
    refine ao_bipush (pc := 5) X dX11_isTenths_5 bp_10 ?_
    refine ao_icmp_gt (pc := 7) (tgt := 14) X dX11_isTenths_7 (by decide) (fun _ => ?_) (fun _ => ?_)
    · refine ao_iconst (pc := 14) X dX11_isTenths_14 ic_0 ?_
      exact ao_zret (pc := 15) X hr rfl dX11_isTenths_15
    · refine ao_iconst (pc := 10) X dX11_isTenths_10 ic_1 ?_
      refine ao_goto (pc := 11) (tgt := 15) X dX11_isTenths_11 (by decide) ?_
      exact ao_zret (pc := 15) X hr rfl dX11_isTenths_15
def fX11_power_b5 : Nat → Int32 → Int32 → Int64 → Int32 → Mem → Option (Int64 × Mem)
  | 0, _, _, _, _, _ => none
  | n + 1, p0, p1, p2, p4, μ =>
  if p1 ≤ p4 then (some (p2, μ))
  else lt (p2 * (Int32.toInt64 p0)) fun x1 =>
    fX11_power_b5 n p0 p1 x1 (p4 + (1 : Int32)) μ
set_option maxRecDepth 100000 in
set_option maxHeartbeats 4000000 in
theorem bX11_power_5 {E : En} {l : Launch} {Z : Zt} (hI : Inj E) (hl0 : lZ l Z) (X : Cx E Z cX11_power RX11 5 1) (hr : rtOf Z = some .long) : ∀ (n : Nat) (p0 : Int32) (p1 : Int32) (p2 : Int64) (p4 : Int32) (μ : Mem), AO E Z 5 (QL E Z) 5 [(0, .int p0), (1, .int p1), (2, .long p2), (4, .int p4)] [] μ (fX11_power_b5 n p0 p1 p2 p4 μ) := by
  intro n
  induction n with
  | zero =>
    intros
    exact ao_none
  | succ n ih =>
    intro p0 p1 p2 p4 μ
    rw [fX11_power_b5]
    refine ao_iload (pc := 5) X dX11_power_5 rfl ?_
    refine ao_iload_n (pc := 7) X dX11_power_7 rfl ?_
    refine ao_icmp_ge (pc := 8) (tgt := 22) X dX11_power_8 (by decide) (fun _ => ?_) (fun _ => ?_)
    · refine ao_lload_n (pc := 22) X dX11_power_22 rfl ?_
      exact ao_lret (pc := 23) X hr dX11_power_23
    · refine ao_lload_n (pc := 11) X dX11_power_11 rfl ?_
      refine ao_iload_n (pc := 12) X dX11_power_12 rfl ?_
      refine ao_i2l (pc := 13) X dX11_power_13 ?_
      refine ao_lmul (pc := 14) X dX11_power_14 ?_
      refine ao_ltL (fun x1 => ?_)
      refine ao_lstore_n (pc := 15) (lv' := [(2, .long x1), (0, .int p0), (1, .int p1), (4, .int p4)]) X dX11_power_15 rfl (by decide) rfl ?_
      refine ao_iinc (pc := 16) (k := 3) (v := p4 + (1 : Int32)) (lv' := [(4, .int (p4 + (1 : Int32))), (2, .long x1), (0, .int p0), (1, .int p1)]) X dX11_power_16 rfl (ii_ic ic_1) (by decide) rfl ?_
      refine ao_goto (pc := 19) (tgt := 5) X dX11_power_19 (by decide) ?_
      refine ao_sub [2, 3, 1, 0] rfl ?_
      exact ih p0 p1 x1 (p4 + (1 : Int32)) μ
def fX11_power (v0 : Int32) (v1 : Int32) (μ : Mem) : Option (Int64 × Mem) :=
  fX11_power_b5 FU v0 v1 (1 : Int64) (0 : Int32) μ
set_option maxRecDepth 100000 in
set_option maxHeartbeats 4000000 in
theorem mX11_power {E : En} {l : Launch} (hI : Inj E) (v0 : Int32) (v1 : Int32) (μ : Mem) : MtL E l yX11_power cX11_power 5 (some .long) 1 [.int v0, .int v1] μ (fX11_power v0 v1 μ) := by
  refine mtL_of (own := RX11) [(0, .int v0), (1, .int v1)] hI rfl (by decide) (Nat.le_of_ble_eq_true rfl) (Nat.le_of_ble_eq_true rfl) rfl (fun Z hl0 X hr => ?_)
  unfold fX11_power
  refine ao_lconst (pc := 0) X dX11_power_0 lc_1 ?_
  refine ao_lstore_n (pc := 1) (lv' := [(2, .long (1 : Int64)), (0, .int v0), (1, .int v1)]) X dX11_power_1 rfl (by decide) rfl ?_
  refine ao_iconst (pc := 2) X dX11_power_2 ic_0 ?_
  refine ao_istore (pc := 3) (lv' := [(4, .int (0 : Int32)), (2, .long (1 : Int64)), (0, .int v0), (1, .int v1)]) X dX11_power_3 (by decide) rfl ?_
  refine ao_sub [2, 3, 1, 0] rfl ?_
  exact bX11_power_5 hI hl0 X hr FU v0 v1 (1 : Int64) (0 : Int32) μ
def fX11_likelyDumb (v0 : Int32) (v1 : Int32) (μ : Mem) : Option (Int64 × Mem) :=
  bnd (fX11_power (10 : Int32) v1 μ) fun r1 m2 =>
  some (((Int32.toInt64 v0) * r1), m2)
set_option maxRecDepth 100000 in
set_option maxHeartbeats 4000000 in
theorem mX11_likelyDumb {E : En} {l : Launch} (hI : Inj E) (v0 : Int32) (v1 : Int32) (μ : Mem) : MtL E l yX11_likelyDumb cX11_likelyDumb 2 (some .long) 2 [.int v0, .int v1] μ (fX11_likelyDumb v0 v1 μ) := by
  refine mtL_of (own := RX11) [(0, .int v0), (1, .int v1)] hI rfl (by decide) (Nat.le_of_ble_eq_true rfl) (Nat.le_of_ble_eq_true rfl) rfl (fun Z hl0 X hr => ?_)
  unfold fX11_likelyDumb
  refine ao_iload_n (pc := 0) X dX11_likelyDumb_0 rfl ?_
  refine ao_i2l (pc := 1) X dX11_likelyDumb_1 ?_
  refine ao_bipush (pc := 2) X dX11_likelyDumb_2 bp_10 ?_
  refine ao_iload_n (pc := 4) X dX11_likelyDumb_4 rfl ?_
  refine ao_callSL (pc := 5) (As := [.int (10 : Int32), .int v1]) (st := [.long (Int32.toInt64 v0)]) X hl0 dX11_likelyDumb_5 yv_X11_power ml_RX11_427 (mX11_power hI (10 : Int32) v1 μ) (Nat.le_of_ble_eq_true rfl) rfl rfl (Nat.le_of_ble_eq_true rfl) (fun r1 m2 => ?_)
  refine ao_lmul (pc := 8) X dX11_likelyDumb_8 ?_
  exact ao_lret (pc := 9) X hr dX11_likelyDumb_9
def fX11_likelyMute (v0 : Int32) (v1 : Int32) (v2 : Int32) (μ : Mem) : Option (Int64 × Mem) :=
  bnd (fX11_likelyDumb v0 v2 μ) fun r1 m2 =>
  bnd (fX11_power ((10 : Int32) - v1) v2 m2) fun r3 m4 =>
  some ((r1 + ((Int32.toInt64 ((10 : Int32) - v0)) * r3)), m4)
set_option maxRecDepth 100000 in
set_option maxHeartbeats 4000000 in
theorem mX11_likelyMute {E : En} {l : Launch} (hI : Inj E) (v0 : Int32) (v1 : Int32) (v2 : Int32) (μ : Mem) : MtL E l yX11_likelyMute cX11_likelyMute 3 (some .long) 3 [.int v0, .int v1, .int v2] μ (fX11_likelyMute v0 v1 v2 μ) := by
  refine mtL_of (own := RX11) [(0, .int v0), (1, .int v1), (2, .int v2)] hI rfl (by decide) (Nat.le_of_ble_eq_true rfl) (Nat.le_of_ble_eq_true rfl) rfl (fun Z hl0 X hr => ?_)
  unfold fX11_likelyMute
  refine ao_iload_n (pc := 0) X dX11_likelyMute_0 rfl ?_
  refine ao_iload_n (pc := 1) X dX11_likelyMute_1 rfl ?_
  refine ao_callSL (pc := 2) (As := [.int v0, .int v2]) (st := []) X hl0 dX11_likelyMute_2 yv_X11_likelyDumb ml_RX11_357 (mX11_likelyDumb hI v0 v2 μ) (Nat.le_of_ble_eq_true rfl) rfl rfl (Nat.le_of_ble_eq_true rfl) (fun r1 m2 => ?_)
  refine ao_bipush (pc := 5) X dX11_likelyMute_5 bp_10 ?_
  refine ao_iload_n (pc := 7) X dX11_likelyMute_7 rfl ?_
  refine ao_isub (pc := 8) X dX11_likelyMute_8 ?_
  refine ao_i2l (pc := 9) X dX11_likelyMute_9 ?_
  refine ao_bipush (pc := 10) X dX11_likelyMute_10 bp_10 ?_
  refine ao_iload_n (pc := 12) X dX11_likelyMute_12 rfl ?_
  refine ao_isub (pc := 13) X dX11_likelyMute_13 ?_
  refine ao_iload_n (pc := 14) X dX11_likelyMute_14 rfl ?_
  refine ao_callSL (pc := 15) (As := [.int ((10 : Int32) - v1), .int v2]) (st := [.long (Int32.toInt64 ((10 : Int32) - v0)), .long r1]) X hl0 dX11_likelyMute_15 yv_X11_power ml_RX11_427 (mX11_power hI ((10 : Int32) - v1) v2 m2) (Nat.le_of_ble_eq_true rfl) rfl rfl (Nat.le_of_ble_eq_true rfl) (fun r3 m4 => ?_)
  refine ao_lmul (pc := 18) X dX11_likelyMute_18 ?_
  refine ao_ladd (pc := 19) X dX11_likelyMute_19 ?_
  exact ao_lret (pc := 20) X hr dX11_likelyMute_20
def fX11_dumb_0 (v1 : Int32) (v2 : Int32) (v3 : Int32) (μ : Mem) : Option (Int32 × Mem) :=
  bnd (fX11_isTenths v1 μ) fun r1 m2 =>
  if r1 = 0 then (some ((-1 : Int32), m2))
  else bnd (fX11_isTenths v2 m2) fun r3 m4 =>
    if r3 = 0 then (some ((-1 : Int32), m4))
    else if v3 < 0 then (some ((-1 : Int32), m4))
      else if v3 ≤ (12 : Int32) then (bnd (fX11_likelyDumb v1 v3 m4) fun r5 m6 =>
          bnd (fX11_likelyMute v1 v2 v3 m6) fun r7 m8 =>
          if (lg_cmp r7 (0 : Int64)) = 0 then (some ((-2 : Int32), m8))
          else bnd (fX11_commonDivisor r5 r7 m8) fun r9 m10 =>
            if (lg_cmp r9 (0 : Int64)) = 0 then (some ((-2 : Int32), m10))
            else gd (!(r9 == 0)) (gd (!(r9 == 0)) (bnd (fX7_tell__3 (r5 / r9) (r7 / r9) m10) fun r11 m12 =>
              some ((0 : Int32), m12))))
        else some ((-1 : Int32), m4)
set_option maxRecDepth 100000 in
set_option maxHeartbeats 4000000 in
theorem mX11_dumb_0 {E : En} {l : Launch} (hI : Inj E) (v1 : Int32) (v2 : Int32) (v3 : Int32) (μ : Mem) : MtI E l yX11_dumb cX11_dumb 10 (some .int) 4 [.ref (eAd E 0), .int v1, .int v2, .int v3] μ (fX11_dumb_0 v1 v2 v3 μ) := by
  refine mtI_of (own := RX11) [(0, .ref (eAd E 0)), (1, .int v1), (2, .int v2), (3, .int v3)] hI rfl (by decide) (Nat.le_of_ble_eq_true rfl) (Nat.le_of_ble_eq_true rfl) rfl (fun Z hl0 X hr => ?_)
  unfold fX11_dumb_0
  refine ao_iload_n (pc := 0) X dX11_dumb_0 rfl ?_
  refine ao_callSI (pc := 1) (As := [.int v1]) (st := []) X hl0 dX11_dumb_1 yv_X11_isTenths ml_RX11_354 (mX11_isTenths hI v1 μ) (Nat.le_of_ble_eq_true rfl) rfl rfl (Nat.le_of_ble_eq_true rfl) (fun r1 m2 => ?_)
  refine ao_if_eq (pc := 4) (tgt := 24) X dX11_dumb_4 (by decide) (fun _ => ?_) (fun _ => ?_)
  · refine ao_iconst (pc := 24) X dX11_dumb_24 ic_m1 ?_
    exact ao_iret (pc := 25) X hr dX11_dumb_25
  · refine ao_iload_n (pc := 7) X dX11_dumb_7 rfl ?_
    refine ao_callSI (pc := 8) (As := [.int v2]) (st := []) X hl0 dX11_dumb_8 yv_X11_isTenths ml_RX11_354 (mX11_isTenths hI v2 m2) (Nat.le_of_ble_eq_true rfl) rfl rfl (Nat.le_of_ble_eq_true rfl) (fun r3 m4 => ?_)
    refine ao_if_eq (pc := 11) (tgt := 24) X dX11_dumb_11 (by decide) (fun _ => ?_) (fun _ => ?_)
    · refine ao_iconst (pc := 24) X dX11_dumb_24 ic_m1 ?_
      exact ao_iret (pc := 25) X hr dX11_dumb_25
    · refine ao_iload_n (pc := 14) X dX11_dumb_14 rfl ?_
      refine ao_if_lt (pc := 15) (tgt := 24) X dX11_dumb_15 (by decide) (fun _ => ?_) (fun _ => ?_)
      · refine ao_iconst (pc := 24) X dX11_dumb_24 ic_m1 ?_
        exact ao_iret (pc := 25) X hr dX11_dumb_25
      · refine ao_iload_n (pc := 18) X dX11_dumb_18 rfl ?_
        refine ao_bipush (pc := 19) X dX11_dumb_19 bp_12 ?_
        refine ao_icmp_le (pc := 21) (tgt := 26) X dX11_dumb_21 (by decide) (fun _ => ?_) (fun _ => ?_)
        · refine ao_iload_n (pc := 26) X dX11_dumb_26 rfl ?_
          refine ao_iload_n (pc := 27) X dX11_dumb_27 rfl ?_
          refine ao_callSL (pc := 28) (As := [.int v1, .int v3]) (st := []) X hl0 dX11_dumb_28 yv_X11_likelyDumb ml_RX11_357 (mX11_likelyDumb hI v1 v3 m4) (Nat.le_of_ble_eq_true rfl) rfl rfl (Nat.le_of_ble_eq_true rfl) (fun r5 m6 => ?_)
          refine ao_lstore (pc := 31) (lv' := [(4, .long r5), (0, .ref (eAd E 0)), (1, .int v1), (2, .int v2), (3, .int v3)]) X dX11_dumb_31 (by decide) rfl ?_
          refine ao_iload_n (pc := 33) X dX11_dumb_33 rfl ?_
          refine ao_iload_n (pc := 34) X dX11_dumb_34 rfl ?_
          refine ao_iload_n (pc := 35) X dX11_dumb_35 rfl ?_
          refine ao_callSL (pc := 36) (As := [.int v1, .int v2, .int v3]) (st := []) X hl0 dX11_dumb_36 yv_X11_likelyMute ml_RX11_361 (mX11_likelyMute hI v1 v2 v3 m6) (Nat.le_of_ble_eq_true rfl) rfl rfl (Nat.le_of_ble_eq_true rfl) (fun r7 m8 => ?_)
          refine ao_lstore (pc := 39) (lv' := [(6, .long r7), (4, .long r5), (0, .ref (eAd E 0)), (1, .int v1), (2, .int v2), (3, .int v3)]) X dX11_dumb_39 (by decide) rfl ?_
          refine ao_lload (pc := 41) X dX11_dumb_41 rfl ?_
          refine ao_lconst (pc := 43) X dX11_dumb_43 lc_0 ?_
          refine ao_lcmp (pc := 44) X dX11_dumb_44 ?_
          refine ao_if_ne (pc := 45) (tgt := 51) X dX11_dumb_45 (by decide) (fun _ => ?_) (fun _ => ?_)
          · refine ao_lload (pc := 51) X dX11_dumb_51 rfl ?_
            refine ao_lload (pc := 53) X dX11_dumb_53 rfl ?_
            refine ao_callSL (pc := 55) (As := [.long r5, .long r7]) (st := []) X hl0 dX11_dumb_55 yv_X11_commonDivisor ml_RX11_365 (mX11_commonDivisor hI r5 r7 m8) (Nat.le_of_ble_eq_true rfl) rfl rfl (Nat.le_of_ble_eq_true rfl) (fun r9 m10 => ?_)
            refine ao_lstore (pc := 58) (lv' := [(8, .long r9), (6, .long r7), (4, .long r5), (0, .ref (eAd E 0)), (1, .int v1), (2, .int v2), (3, .int v3)]) X dX11_dumb_58 (by decide) rfl ?_
            refine ao_lload (pc := 60) X dX11_dumb_60 rfl ?_
            refine ao_lconst (pc := 62) X dX11_dumb_62 lc_0 ?_
            refine ao_lcmp (pc := 63) X dX11_dumb_63 ?_
            refine ao_if_ne (pc := 64) (tgt := 70) X dX11_dumb_64 (by decide) (fun _ => ?_) (fun _ => ?_)
            · refine ao_aload_n (pc := 70) X dX11_dumb_70 rfl ?_
              refine ao_getR (pc := 71) X dX11_dumb_71 fl_RX11_19 sf_0_1 ?_
              refine ao_lload (pc := 74) X dX11_dumb_74 rfl ?_
              refine ao_lload (pc := 76) X dX11_dumb_76 rfl ?_
              refine ao_ldiv (pc := 78) X dX11_dumb_78 ?_
              refine ao_lload (pc := 79) X dX11_dumb_79 rfl ?_
              refine ao_lload (pc := 81) X dX11_dumb_81 rfl ?_
              refine ao_ldiv (pc := 83) X dX11_dumb_83 ?_
              refine ao_callVV (pc := 84) (As := [.long (r5 / r9), .long (r7 / r9)]) (st := []) X hl0 dX11_dumb_84 yv_X7_tell_ so_3 ml_RX11_244 (mX7_tell__3 hI (r5 / r9) (r7 / r9) m10) (Nat.le_of_ble_eq_true rfl) rfl rfl (Nat.le_of_ble_eq_true rfl) (fun r11 m12 => ?_)
              refine ao_iconst (pc := 87) X dX11_dumb_87 ic_0 ?_
              exact ao_iret (pc := 88) X hr dX11_dumb_88
            · refine ao_bipush (pc := 67) X dX11_dumb_67 bp_m2 ?_
              exact ao_iret (pc := 69) X hr dX11_dumb_69
          · refine ao_bipush (pc := 48) X dX11_dumb_48 bp_m2 ?_
            exact ao_iret (pc := 50) X hr dX11_dumb_50
        · refine ao_iconst (pc := 24) X dX11_dumb_24 ic_m1 ?_
          exact ao_iret (pc := 25) X hr dX11_dumb_25
def fX12_common_r (rc : Int64 → Int64 → Mem → Option (Int64 × Mem)) (v0 : Int64) (v2 : Int64) (μ : Mem) : Option (Int64 × Mem) :=
  if (lg_cmp v2 (0 : Int64)) = 0 then (some (v0, μ))
  else gd (!(v2 == 0)) (bnd (rc v2 (v0 - v0 / v2 * v2) μ) fun r1 m2 =>
    some (r1, m2))
set_option maxRecDepth 100000 in
set_option maxHeartbeats 4000000 in
theorem mX12_common_r {E : En} {l : Launch} (hI : Inj E) {dT : Nat} (hB : 1 ≤ dT) {rc : Int64 → Int64 → Mem → Option (Int64 × Mem)} (hrc : ∀ (v0 : Int64) (v2 : Int64) (m : Mem), MtL E l yX12_common cX12_common 4 (some .long) dT [.long v0, .long v2] m (rc v0 v2 m)) (v0 : Int64) (v2 : Int64) (μ : Mem) : MtL E l yX12_common cX12_common 4 (some .long) (dT + 1) [.long v0, .long v2] μ (fX12_common_r rc v0 v2 μ) := by
  refine mtL_of (own := RX12) [(0, .long v0), (2, .long v2)] hI rfl (by decide) (by omega) (Nat.le_of_ble_eq_true rfl) rfl (fun Z hl0 X hr => ?_)
  unfold fX12_common_r
  refine ao_lload_n (pc := 0) X dX12_common_0 rfl ?_
  refine ao_lconst (pc := 1) X dX12_common_1 lc_0 ?_
  refine ao_lcmp (pc := 2) X dX12_common_2 ?_
  refine ao_if_ne (pc := 3) (tgt := 10) X dX12_common_3 (by decide) (fun _ => ?_) (fun _ => ?_)
  · refine ao_lload_n (pc := 10) X dX12_common_10 rfl ?_
    refine ao_lload_n (pc := 11) X dX12_common_11 rfl ?_
    refine ao_lload_n (pc := 12) X dX12_common_12 rfl ?_
    refine ao_lrem (pc := 13) X dX12_common_13 ?_
    refine ao_callSL (pc := 14) (As := [.long v2, .long (v0 - v0 / v2 * v2)]) (st := []) X hl0 dX12_common_14 yv_X12_common ml_RX12_348 (hrc v2 (v0 - v0 / v2 * v2) μ) (by omega) rfl rfl (Nat.le_of_ble_eq_true rfl) (fun r1 m2 => ?_)
    exact ao_lret (pc := 17) X hr dX12_common_17
  · refine ao_lload_n (pc := 6) X dX12_common_6 rfl ?_
    refine ao_goto (pc := 7) (tgt := 17) X dX12_common_7 (by decide) ?_
    exact ao_lret (pc := 17) X hr dX12_common_17
def fX12_common : Nat → Int64 → Int64 → Mem → Option (Int64 × Mem)
  | 0, _, _, _ => none
  | n + 1, v0, v2, μ => fX12_common_r (fun v0 v2 m => fX12_common n v0 v2 m) v0 v2 μ
theorem dBX12_common (n : Nat) : 1 ≤ 1 + 1 * n := Nat.le_add_right _ _
theorem mX12_common {E : En} {l : Launch} (hI : Inj E) : ∀ (n : Nat) (v0 : Int64) (v2 : Int64) (μ : Mem), MtL E l yX12_common cX12_common 4 (some .long) (1 + 1 * n) [.long v0, .long v2] μ (fX12_common n v0 v2 μ) := by
  intro n
  induction n with
  | zero =>
    intro v0 v2 μ r μ' h
    cases h
  | succ n ih =>
    intro v0 v2 μ
    exact mX12_common_r hI (dBX12_common n) ih v0 v2 μ
def fX12_power_b5 : Nat → Int64 → Int32 → Int64 → Int32 → Mem → Option (Int64 × Mem)
  | 0, _, _, _, _, _ => none
  | n + 1, p0, p2, p3, p5, μ =>
  if p2 ≤ p5 then (some (p3, μ))
  else lt (p3 * p0) fun x1 =>
    fX12_power_b5 n p0 p2 x1 (p5 + (1 : Int32)) μ
set_option maxRecDepth 100000 in
set_option maxHeartbeats 4000000 in
theorem bX12_power_5 {E : En} {l : Launch} {Z : Zt} (hI : Inj E) (hl0 : lZ l Z) (X : Cx E Z cX12_power RX12 6 1) (hr : rtOf Z = some .long) : ∀ (n : Nat) (p0 : Int64) (p2 : Int32) (p3 : Int64) (p5 : Int32) (μ : Mem), AO E Z 6 (QL E Z) 5 [(0, .long p0), (2, .int p2), (3, .long p3), (5, .int p5)] [] μ (fX12_power_b5 n p0 p2 p3 p5 μ) := by
  intro n
  induction n with
  | zero =>
    intros
    exact ao_none
  | succ n ih =>
    intro p0 p2 p3 p5 μ
    rw [fX12_power_b5]
    refine ao_iload (pc := 5) X dX12_power_5 rfl ?_
    refine ao_iload_n (pc := 7) X dX12_power_7 rfl ?_
    refine ao_icmp_ge (pc := 8) (tgt := 21) X dX12_power_8 (by decide) (fun _ => ?_) (fun _ => ?_)
    · refine ao_lload_n (pc := 21) X dX12_power_21 rfl ?_
      exact ao_lret (pc := 22) X hr dX12_power_22
    · refine ao_lload_n (pc := 11) X dX12_power_11 rfl ?_
      refine ao_lload_n (pc := 12) X dX12_power_12 rfl ?_
      refine ao_lmul (pc := 13) X dX12_power_13 ?_
      refine ao_ltL (fun x1 => ?_)
      refine ao_lstore_n (pc := 14) (lv' := [(3, .long x1), (0, .long p0), (2, .int p2), (5, .int p5)]) X dX12_power_14 rfl (by decide) rfl ?_
      refine ao_iinc (pc := 15) (k := 3) (v := p5 + (1 : Int32)) (lv' := [(5, .int (p5 + (1 : Int32))), (3, .long x1), (0, .long p0), (2, .int p2)]) X dX12_power_15 rfl (ii_ic ic_1) (by decide) rfl ?_
      refine ao_goto (pc := 18) (tgt := 5) X dX12_power_18 (by decide) ?_
      refine ao_sub [2, 3, 1, 0] rfl ?_
      exact ih p0 p2 x1 (p5 + (1 : Int32)) μ
def fX12_power (v0 : Int64) (v2 : Int32) (μ : Mem) : Option (Int64 × Mem) :=
  fX12_power_b5 FU v0 v2 (1 : Int64) (0 : Int32) μ
set_option maxRecDepth 100000 in
set_option maxHeartbeats 4000000 in
theorem mX12_power {E : En} {l : Launch} (hI : Inj E) (v0 : Int64) (v2 : Int32) (μ : Mem) : MtL E l yX12_power cX12_power 6 (some .long) 1 [.long v0, .int v2] μ (fX12_power v0 v2 μ) := by
  refine mtL_of (own := RX12) [(0, .long v0), (2, .int v2)] hI rfl (by decide) (Nat.le_of_ble_eq_true rfl) (Nat.le_of_ble_eq_true rfl) rfl (fun Z hl0 X hr => ?_)
  unfold fX12_power
  refine ao_lconst (pc := 0) X dX12_power_0 lc_1 ?_
  refine ao_lstore_n (pc := 1) (lv' := [(3, .long (1 : Int64)), (0, .long v0), (2, .int v2)]) X dX12_power_1 rfl (by decide) rfl ?_
  refine ao_iconst (pc := 2) X dX12_power_2 ic_0 ?_
  refine ao_istore (pc := 3) (lv' := [(5, .int (0 : Int32)), (3, .long (1 : Int64)), (0, .long v0), (2, .int v2)]) X dX12_power_3 (by decide) rfl ?_
  refine ao_sub [2, 3, 1, 0] rfl ?_
  exact bX12_power_5 hI hl0 X hr FU v0 v2 (1 : Int64) (0 : Int32) μ
def fX12_dumbPart (v0 : Int32) (v1 : Int32) (μ : Mem) : Option (Int64 × Mem) :=
  bnd (fX12_power (10 : Int64) v1 μ) fun r1 m2 =>
  some (((Int32.toInt64 v0) * r1), m2)
set_option maxRecDepth 100000 in
set_option maxHeartbeats 4000000 in
theorem mX12_dumbPart {E : En} {l : Launch} (hI : Inj E) (v0 : Int32) (v1 : Int32) (μ : Mem) : MtL E l yX12_dumbPart cX12_dumbPart 2 (some .long) 2 [.int v0, .int v1] μ (fX12_dumbPart v0 v1 μ) := by
  refine mtL_of (own := RX12) [(0, .int v0), (1, .int v1)] hI rfl (by decide) (Nat.le_of_ble_eq_true rfl) (Nat.le_of_ble_eq_true rfl) rfl (fun Z hl0 X hr => ?_)
  unfold fX12_dumbPart
  refine ao_iload_n (pc := 0) X dX12_dumbPart_0 rfl ?_
  refine ao_i2l (pc := 1) X dX12_dumbPart_1 ?_
  refine ao_ldc2 (pc := 2) X dX12_dumbPart_2 kl_RX12_352 ?_
  refine ao_iload_n (pc := 5) X dX12_dumbPart_5 rfl ?_
  refine ao_callSL (pc := 6) (As := [.long (10 : Int64), .int v1]) (st := [.long (Int32.toInt64 v0)]) X hl0 dX12_dumbPart_6 yv_X12_power ml_RX12_354 (mX12_power hI (10 : Int64) v1 μ) (Nat.le_of_ble_eq_true rfl) rfl rfl (Nat.le_of_ble_eq_true rfl) (fun r1 m2 => ?_)
  refine ao_lmul (pc := 9) X dX12_dumbPart_9 ?_
  exact ao_lret (pc := 10) X hr dX12_dumbPart_10
def fX12_wholePart (v0 : Int32) (v1 : Int32) (v2 : Int32) (μ : Mem) : Option (Int64 × Mem) :=
  bnd (fX12_dumbPart v0 v2 μ) fun r1 m2 =>
  bnd (fX12_power ((10 : Int64) - (Int32.toInt64 v1)) v2 m2) fun r3 m4 =>
  some ((r1 + ((Int32.toInt64 ((10 : Int32) - v0)) * r3)), m4)
set_option maxRecDepth 100000 in
set_option maxHeartbeats 4000000 in
theorem mX12_wholePart {E : En} {l : Launch} (hI : Inj E) (v0 : Int32) (v1 : Int32) (v2 : Int32) (μ : Mem) : MtL E l yX12_wholePart cX12_wholePart 3 (some .long) 3 [.int v0, .int v1, .int v2] μ (fX12_wholePart v0 v1 v2 μ) := by
  refine mtL_of (own := RX12) [(0, .int v0), (1, .int v1), (2, .int v2)] hI rfl (by decide) (Nat.le_of_ble_eq_true rfl) (Nat.le_of_ble_eq_true rfl) rfl (fun Z hl0 X hr => ?_)
  unfold fX12_wholePart
  refine ao_iload_n (pc := 0) X dX12_wholePart_0 rfl ?_
  refine ao_iload_n (pc := 1) X dX12_wholePart_1 rfl ?_
  refine ao_callSL (pc := 2) (As := [.int v0, .int v2]) (st := []) X hl0 dX12_wholePart_2 yv_X12_dumbPart ml_RX12_358 (mX12_dumbPart hI v0 v2 μ) (Nat.le_of_ble_eq_true rfl) rfl rfl (Nat.le_of_ble_eq_true rfl) (fun r1 m2 => ?_)
  refine ao_bipush (pc := 5) X dX12_wholePart_5 bp_10 ?_
  refine ao_iload_n (pc := 7) X dX12_wholePart_7 rfl ?_
  refine ao_isub (pc := 8) X dX12_wholePart_8 ?_
  refine ao_i2l (pc := 9) X dX12_wholePart_9 ?_
  refine ao_ldc2 (pc := 10) X dX12_wholePart_10 kl_RX12_352 ?_
  refine ao_iload_n (pc := 13) X dX12_wholePart_13 rfl ?_
  refine ao_i2l (pc := 14) X dX12_wholePart_14 ?_
  refine ao_lsub (pc := 15) X dX12_wholePart_15 ?_
  refine ao_iload_n (pc := 16) X dX12_wholePart_16 rfl ?_
  refine ao_callSL (pc := 17) (As := [.long ((10 : Int64) - (Int32.toInt64 v1)), .int v2]) (st := [.long (Int32.toInt64 ((10 : Int32) - v0)), .long r1]) X hl0 dX12_wholePart_17 yv_X12_power ml_RX12_354 (mX12_power hI ((10 : Int64) - (Int32.toInt64 v1)) v2 m2) (Nat.le_of_ble_eq_true rfl) rfl rfl (Nat.le_of_ble_eq_true rfl) (fun r3 m4 => ?_)
  refine ao_lmul (pc := 20) X dX12_wholePart_20 ?_
  refine ao_ladd (pc := 21) X dX12_wholePart_21 ?_
  exact ao_lret (pc := 22) X hr dX12_wholePart_22
def fX12_dumb_122 (v1 : Int32) (v2 : Int32) (v3 : Int32) (μ : Mem) : Option (Int32 × Mem) :=
  lt (sI μ 122 17 (0 : Int32)) fun m1 =>
  bnd (fX12_in v1 (0 : Int32) (10 : Int32) m1) fun r2 m3 =>
  if r2 = 0 then (some ((-1 : Int32), m3))
  else bnd (fX12_in v2 (0 : Int32) (10 : Int32) m3) fun r4 m5 =>
    if r4 = 0 then (some ((-1 : Int32), m5))
    else bnd (fX12_in v3 (0 : Int32) (12 : Int32) m5) fun r6 m7 =>
      if r6 = 0 then (some ((-1 : Int32), m7))
      else bnd (fX12_dumbPart v1 v3 m7) fun r8 m9 =>
        bnd (fX12_wholePart v1 v2 v3 m9) fun r10 m11 =>
        if (lg_cmp r10 (0 : Int64)) = 0 then (some ((-2 : Int32), m11))
        else bnd (fX12_common FR r8 r10 m11) fun r12 m13 =>
          lt (sI m13 122 16 (0 : Int32)) fun m14 =>
          gd (!(r12 == 0)) (bnd (fX12_tell_122 (r8 / r12) m14) fun r15 m16 =>
          gd (!(r12 == 0)) (bnd (fX12_tell_122 (r10 / r12) m16) fun r17 m18 =>
          some ((0 : Int32), m18)))
set_option maxRecDepth 100000 in
set_option maxHeartbeats 4000000 in
theorem mX12_dumb_122 {E : En} {l : Launch} (hI : Inj E) (v1 : Int32) (v2 : Int32) (v3 : Int32) (μ : Mem) : MtI E l yX12_dumb cX12_dumb 10 (some .int) 102 [.ref (eAd E 122), .int v1, .int v2, .int v3] μ (fX12_dumb_122 v1 v2 v3 μ) := by
  refine mtI_of (own := RX12) [(0, .ref (eAd E 122)), (1, .int v1), (2, .int v2), (3, .int v3)] hI rfl (by decide) (Nat.le_of_ble_eq_true rfl) (Nat.le_of_ble_eq_true rfl) rfl (fun Z hl0 X hr => ?_)
  unfold fX12_dumb_122
  refine ao_aload_n (pc := 0) X dX12_dumb_0 rfl ?_
  refine ao_iconst (pc := 1) X dX12_dumb_1 ic_0 ?_
  refine ao_putI (pc := 2) X dX12_dumb_2 fp_RX12_95 sf_122_17 ?_
  refine ao_lt (fun m1 => ?_)
  refine ao_iload_n (pc := 5) X dX12_dumb_5 rfl ?_
  refine ao_iconst (pc := 6) X dX12_dumb_6 ic_0 ?_
  refine ao_bipush (pc := 7) X dX12_dumb_7 bp_10 ?_
  refine ao_callSI (pc := 9) (As := [.int v1, .int (0 : Int32), .int (10 : Int32)]) (st := []) X hl0 dX12_dumb_9 yv_X12_in ml_RX12_104 (mX12_in hI v1 (0 : Int32) (10 : Int32) m1) (Nat.le_of_ble_eq_true rfl) rfl rfl (Nat.le_of_ble_eq_true rfl) (fun r2 m3 => ?_)
  refine ao_if_eq (pc := 12) (tgt := 35) X dX12_dumb_12 (by decide) (fun _ => ?_) (fun _ => ?_)
  · refine ao_iconst (pc := 35) X dX12_dumb_35 ic_m1 ?_
    exact ao_iret (pc := 36) X hr dX12_dumb_36
  · refine ao_iload_n (pc := 15) X dX12_dumb_15 rfl ?_
    refine ao_iconst (pc := 16) X dX12_dumb_16 ic_0 ?_
    refine ao_bipush (pc := 17) X dX12_dumb_17 bp_10 ?_
    refine ao_callSI (pc := 19) (As := [.int v2, .int (0 : Int32), .int (10 : Int32)]) (st := []) X hl0 dX12_dumb_19 yv_X12_in ml_RX12_104 (mX12_in hI v2 (0 : Int32) (10 : Int32) m3) (Nat.le_of_ble_eq_true rfl) rfl rfl (Nat.le_of_ble_eq_true rfl) (fun r4 m5 => ?_)
    refine ao_if_eq (pc := 22) (tgt := 35) X dX12_dumb_22 (by decide) (fun _ => ?_) (fun _ => ?_)
    · refine ao_iconst (pc := 35) X dX12_dumb_35 ic_m1 ?_
      exact ao_iret (pc := 36) X hr dX12_dumb_36
    · refine ao_iload_n (pc := 25) X dX12_dumb_25 rfl ?_
      refine ao_iconst (pc := 26) X dX12_dumb_26 ic_0 ?_
      refine ao_bipush (pc := 27) X dX12_dumb_27 bp_12 ?_
      refine ao_callSI (pc := 29) (As := [.int v3, .int (0 : Int32), .int (12 : Int32)]) (st := []) X hl0 dX12_dumb_29 yv_X12_in ml_RX12_104 (mX12_in hI v3 (0 : Int32) (12 : Int32) m5) (Nat.le_of_ble_eq_true rfl) rfl rfl (Nat.le_of_ble_eq_true rfl) (fun r6 m7 => ?_)
      refine ao_if_ne (pc := 32) (tgt := 37) X dX12_dumb_32 (by decide) (fun _ => ?_) (fun _ => ?_)
      · refine ao_iload_n (pc := 37) X dX12_dumb_37 rfl ?_
        refine ao_iload_n (pc := 38) X dX12_dumb_38 rfl ?_
        refine ao_callSL (pc := 39) (As := [.int v1, .int v3]) (st := []) X hl0 dX12_dumb_39 yv_X12_dumbPart ml_RX12_358 (mX12_dumbPart hI v1 v3 m7) (Nat.le_of_ble_eq_true rfl) rfl rfl (Nat.le_of_ble_eq_true rfl) (fun r8 m9 => ?_)
        refine ao_lstore (pc := 42) (lv' := [(4, .long r8), (0, .ref (eAd E 122)), (1, .int v1), (2, .int v2), (3, .int v3)]) X dX12_dumb_42 (by decide) rfl ?_
        refine ao_iload_n (pc := 44) X dX12_dumb_44 rfl ?_
        refine ao_iload_n (pc := 45) X dX12_dumb_45 rfl ?_
        refine ao_iload_n (pc := 46) X dX12_dumb_46 rfl ?_
        refine ao_callSL (pc := 47) (As := [.int v1, .int v2, .int v3]) (st := []) X hl0 dX12_dumb_47 yv_X12_wholePart ml_RX12_362 (mX12_wholePart hI v1 v2 v3 m9) (Nat.le_of_ble_eq_true rfl) rfl rfl (Nat.le_of_ble_eq_true rfl) (fun r10 m11 => ?_)
        refine ao_lstore (pc := 50) (lv' := [(6, .long r10), (4, .long r8), (0, .ref (eAd E 122)), (1, .int v1), (2, .int v2), (3, .int v3)]) X dX12_dumb_50 (by decide) rfl ?_
        refine ao_lload (pc := 52) X dX12_dumb_52 rfl ?_
        refine ao_lconst (pc := 54) X dX12_dumb_54 lc_0 ?_
        refine ao_lcmp (pc := 55) X dX12_dumb_55 ?_
        refine ao_if_ne (pc := 56) (tgt := 62) X dX12_dumb_56 (by decide) (fun _ => ?_) (fun _ => ?_)
        · refine ao_lload (pc := 62) X dX12_dumb_62 rfl ?_
          refine ao_lload (pc := 64) X dX12_dumb_64 rfl ?_
          refine ao_callSL (pc := 66) (As := [.long r8, .long r10]) (st := []) X hl0 dX12_dumb_66 yv_X12_common ml_RX12_348 (mX12_common hI FR r8 r10 m11) (by decide) rfl rfl (Nat.le_of_ble_eq_true rfl) (fun r12 m13 => ?_)
          refine ao_lstore (pc := 69) (lv' := [(8, .long r12), (6, .long r10), (4, .long r8), (0, .ref (eAd E 122)), (1, .int v1), (2, .int v2), (3, .int v3)]) X dX12_dumb_69 (by decide) rfl ?_
          refine ao_aload_n (pc := 71) X dX12_dumb_71 rfl ?_
          refine ao_iconst (pc := 72) X dX12_dumb_72 ic_0 ?_
          refine ao_putI (pc := 73) X dX12_dumb_73 fp_RX12_98 sf_122_16 ?_
          refine ao_lt (fun m14 => ?_)
          refine ao_aload_n (pc := 76) X dX12_dumb_76 rfl ?_
          refine ao_lload (pc := 77) X dX12_dumb_77 rfl ?_
          refine ao_lload (pc := 79) X dX12_dumb_79 rfl ?_
          refine ao_ldiv (pc := 81) X dX12_dumb_81 ?_
          refine ao_callVV (pc := 82) (As := [.long (r8 / r12)]) (st := []) X hl0 dX12_dumb_82 yv_X12_tell so_122 ml_RX12_267 (mX12_tell_122 hI (r8 / r12) m14) (Nat.le_of_ble_eq_true rfl) rfl rfl (Nat.le_of_ble_eq_true rfl) (fun r15 m16 => ?_)
          refine ao_aload_n (pc := 85) X dX12_dumb_85 rfl ?_
          refine ao_lload (pc := 86) X dX12_dumb_86 rfl ?_
          refine ao_lload (pc := 88) X dX12_dumb_88 rfl ?_
          refine ao_ldiv (pc := 90) X dX12_dumb_90 ?_
          refine ao_callVV (pc := 91) (As := [.long (r10 / r12)]) (st := []) X hl0 dX12_dumb_91 yv_X12_tell so_122 ml_RX12_267 (mX12_tell_122 hI (r10 / r12) m16) (Nat.le_of_ble_eq_true rfl) rfl rfl (Nat.le_of_ble_eq_true rfl) (fun r17 m18 => ?_)
          refine ao_iconst (pc := 94) X dX12_dumb_94 ic_0 ?_
          exact ao_iret (pc := 95) X hr dX12_dumb_95
        · refine ao_bipush (pc := 59) X dX12_dumb_59 bp_m2 ?_
          exact ao_iret (pc := 61) X hr dX12_dumb_61
      · refine ao_iconst (pc := 35) X dX12_dumb_35 ic_m1 ?_
        exact ao_iret (pc := 36) X hr dX12_dumb_36
def fX11_sure_0_b29 : Nat → Int32 → Int32 → Int32 → Int32 → Mem → Option (Int32 × Mem)
  | 0, _, _, _, _, _ => none
  | n + 1, p1, p2, p3, p4, μ =>
  if (12 : Int32) < p4 then (some ((-2 : Int32), μ))
  else bnd (fX11_likelyMute p1 p2 p4 μ) fun r5 m6 =>
    if (lg_cmp r5 (0 : Int64)) ≤ 0 then (fX11_sure_0_b29 n p1 p2 p3 (p4 + (1 : Int32)) m6)
    else bnd (fX11_likelyDumb p1 p4 m6) fun r8 m9 =>
      if (lg_cmp ((100 : Int64) * r8) ((Int32.toInt64 p3) * r5)) < 0 then (fX11_sure_0_b29 n p1 p2 p3 (p4 + (1 : Int32)) m9)
      else some (p4, m9)
set_option maxRecDepth 100000 in
set_option maxHeartbeats 4000000 in
theorem bX11_sure_0_29 {E : En} {l : Launch} {Z : Zt} (hI : Inj E) (hl0 : lZ l Z) (X : Cx E Z cX11_sure RX11 7 4) (hr : rtOf Z = some .int) : ∀ (n : Nat) (p1 : Int32) (p2 : Int32) (p3 : Int32) (p4 : Int32) (μ : Mem), AO E Z 7 (QI E Z) 29 [(1, .int p1), (2, .int p2), (3, .int p3), (4, .int p4)] [] μ (fX11_sure_0_b29 n p1 p2 p3 p4 μ) := by
  intro n
  induction n with
  | zero =>
    intros
    exact ao_none
  | succ n ih =>
    intro p1 p2 p3 p4 μ
    rw [fX11_sure_0_b29]
    refine ao_iload (pc := 29) X dX11_sure_29 rfl ?_
    refine ao_bipush (pc := 31) X dX11_sure_31 bp_12 ?_
    refine ao_icmp_gt (pc := 33) (tgt := 80) X dX11_sure_33 (by decide) (fun _ => ?_) (fun _ => ?_)
    · refine ao_bipush (pc := 80) X dX11_sure_80 bp_m2 ?_
      exact ao_iret (pc := 82) X hr dX11_sure_82
    · refine ao_iload_n (pc := 36) X dX11_sure_36 rfl ?_
      refine ao_iload_n (pc := 37) X dX11_sure_37 rfl ?_
      refine ao_iload (pc := 38) X dX11_sure_38 rfl ?_
      refine ao_callSL (pc := 40) (As := [.int p1, .int p2, .int p4]) (st := []) X hl0 dX11_sure_40 yv_X11_likelyMute ml_RX11_361 (mX11_likelyMute hI p1 p2 p4 μ) (Nat.le_of_ble_eq_true rfl) rfl rfl (Nat.le_of_ble_eq_true rfl) (fun r5 m6 => ?_)
      refine ao_lstore (pc := 43) (lv' := [(5, .long r5), (1, .int p1), (2, .int p2), (3, .int p3), (4, .int p4)]) X dX11_sure_43 (by decide) rfl ?_
      refine ao_lload (pc := 45) X dX11_sure_45 rfl ?_
      refine ao_lconst (pc := 47) X dX11_sure_47 lc_0 ?_
      refine ao_lcmp (pc := 48) X dX11_sure_48 ?_
      refine ao_if_le (pc := 49) (tgt := 74) X dX11_sure_49 (by decide) (fun _ => ?_) (fun _ => ?_)
      · refine ao_iinc (pc := 74) (k := 4) (v := p4 + (1 : Int32)) (lv' := [(4, .int (p4 + (1 : Int32))), (5, .long r5), (1, .int p1), (2, .int p2), (3, .int p3)]) X dX11_sure_74 rfl (ii_ic ic_1) (by decide) rfl ?_
        refine ao_goto (pc := 77) (tgt := 29) X dX11_sure_77 (by decide) ?_
        refine ao_sub [2, 3, 4, 0] rfl ?_
        exact ih p1 p2 p3 (p4 + (1 : Int32)) m6
      · refine ao_ldc2 (pc := 52) X dX11_sure_52 kl_RX11_369 ?_
        refine ao_iload_n (pc := 55) X dX11_sure_55 rfl ?_
        refine ao_iload (pc := 56) X dX11_sure_56 rfl ?_
        refine ao_callSL (pc := 58) (As := [.int p1, .int p4]) (st := [.long (100 : Int64)]) X hl0 dX11_sure_58 yv_X11_likelyDumb ml_RX11_357 (mX11_likelyDumb hI p1 p4 m6) (Nat.le_of_ble_eq_true rfl) rfl rfl (Nat.le_of_ble_eq_true rfl) (fun r8 m9 => ?_)
        refine ao_lmul (pc := 61) X dX11_sure_61 ?_
        refine ao_iload_n (pc := 62) X dX11_sure_62 rfl ?_
        refine ao_i2l (pc := 63) X dX11_sure_63 ?_
        refine ao_lload (pc := 64) X dX11_sure_64 rfl ?_
        refine ao_lmul (pc := 66) X dX11_sure_66 ?_
        refine ao_lcmp (pc := 67) X dX11_sure_67 ?_
        refine ao_if_lt (pc := 68) (tgt := 74) X dX11_sure_68 (by decide) (fun _ => ?_) (fun _ => ?_)
        · refine ao_iinc (pc := 74) (k := 4) (v := p4 + (1 : Int32)) (lv' := [(4, .int (p4 + (1 : Int32))), (5, .long r5), (1, .int p1), (2, .int p2), (3, .int p3)]) X dX11_sure_74 rfl (ii_ic ic_1) (by decide) rfl ?_
          refine ao_goto (pc := 77) (tgt := 29) X dX11_sure_77 (by decide) ?_
          refine ao_sub [2, 3, 4, 0] rfl ?_
          exact ih p1 p2 p3 (p4 + (1 : Int32)) m9
        · refine ao_iload (pc := 71) X dX11_sure_71 rfl ?_
          exact ao_iret (pc := 73) X hr dX11_sure_73
def fX11_sure_0 (v1 : Int32) (v2 : Int32) (v3 : Int32) (μ : Mem) : Option (Int32 × Mem) :=
  bnd (fX11_isTenths v1 μ) fun r1 m2 =>
  if r1 = 0 then (some ((-1 : Int32), m2))
  else bnd (fX11_isTenths v2 m2) fun r3 m4 =>
    if r3 = 0 then (some ((-1 : Int32), m4))
    else if v3 < 0 then (some ((-1 : Int32), m4))
      else if v3 ≤ (100 : Int32) then (fX11_sure_0_b29 FU v1 v2 v3 (0 : Int32) m4)
        else some ((-1 : Int32), m4)
set_option maxRecDepth 100000 in
set_option maxHeartbeats 4000000 in
theorem mX11_sure_0 {E : En} {l : Launch} (hI : Inj E) (v1 : Int32) (v2 : Int32) (v3 : Int32) (μ : Mem) : MtI E l yX11_sure cX11_sure 7 (some .int) 4 [.ref (eAd E 0), .int v1, .int v2, .int v3] μ (fX11_sure_0 v1 v2 v3 μ) := by
  refine mtI_of (own := RX11) [(0, .ref (eAd E 0)), (1, .int v1), (2, .int v2), (3, .int v3)] hI rfl (by decide) (Nat.le_of_ble_eq_true rfl) (Nat.le_of_ble_eq_true rfl) rfl (fun Z hl0 X hr => ?_)
  unfold fX11_sure_0
  refine ao_iload_n (pc := 0) X dX11_sure_0 rfl ?_
  refine ao_callSI (pc := 1) (As := [.int v1]) (st := []) X hl0 dX11_sure_1 yv_X11_isTenths ml_RX11_354 (mX11_isTenths hI v1 μ) (Nat.le_of_ble_eq_true rfl) rfl rfl (Nat.le_of_ble_eq_true rfl) (fun r1 m2 => ?_)
  refine ao_if_eq (pc := 4) (tgt := 24) X dX11_sure_4 (by decide) (fun _ => ?_) (fun _ => ?_)
  · refine ao_iconst (pc := 24) X dX11_sure_24 ic_m1 ?_
    exact ao_iret (pc := 25) X hr dX11_sure_25
  · refine ao_iload_n (pc := 7) X dX11_sure_7 rfl ?_
    refine ao_callSI (pc := 8) (As := [.int v2]) (st := []) X hl0 dX11_sure_8 yv_X11_isTenths ml_RX11_354 (mX11_isTenths hI v2 m2) (Nat.le_of_ble_eq_true rfl) rfl rfl (Nat.le_of_ble_eq_true rfl) (fun r3 m4 => ?_)
    refine ao_if_eq (pc := 11) (tgt := 24) X dX11_sure_11 (by decide) (fun _ => ?_) (fun _ => ?_)
    · refine ao_iconst (pc := 24) X dX11_sure_24 ic_m1 ?_
      exact ao_iret (pc := 25) X hr dX11_sure_25
    · refine ao_iload_n (pc := 14) X dX11_sure_14 rfl ?_
      refine ao_if_lt (pc := 15) (tgt := 24) X dX11_sure_15 (by decide) (fun _ => ?_) (fun _ => ?_)
      · refine ao_iconst (pc := 24) X dX11_sure_24 ic_m1 ?_
        exact ao_iret (pc := 25) X hr dX11_sure_25
      · refine ao_iload_n (pc := 18) X dX11_sure_18 rfl ?_
        refine ao_bipush (pc := 19) X dX11_sure_19 bp_100 ?_
        refine ao_icmp_le (pc := 21) (tgt := 26) X dX11_sure_21 (by decide) (fun _ => ?_) (fun _ => ?_)
        · refine ao_iconst (pc := 26) X dX11_sure_26 ic_0 ?_
          refine ao_istore (pc := 27) (lv' := [(4, .int (0 : Int32)), (0, .ref (eAd E 0)), (1, .int v1), (2, .int v2), (3, .int v3)]) X dX11_sure_27 (by decide) rfl ?_
          refine ao_sub [2, 3, 4, 0] rfl ?_
          exact bX11_sure_0_29 hI hl0 X hr FU v1 v2 v3 (0 : Int32) m4
        · refine ao_iconst (pc := 24) X dX11_sure_24 ic_m1 ?_
          exact ao_iret (pc := 25) X hr dX11_sure_25
def fX12_sure_122_b40 : Nat → Int32 → Int32 → Int32 → Int32 → Mem → Option (Int32 × Mem)
  | 0, _, _, _, _, _ => none
  | n + 1, p1, p2, p3, p4, μ =>
  if (12 : Int32) < p4 then (some ((-2 : Int32), μ))
  else bnd (fX12_wholePart p1 p2 p4 μ) fun r8 m9 =>
    if (lg_cmp r8 (0 : Int64)) ≤ 0 then (fX12_sure_122_b40 n p1 p2 p3 (p4 + (1 : Int32)) m9)
    else bnd (fX12_dumbPart p1 p4 m9) fun r11 m12 =>
      if (lg_cmp ((100 : Int64) * r11) ((Int32.toInt64 p3) * r8)) < 0 then (fX12_sure_122_b40 n p1 p2 p3 (p4 + (1 : Int32)) m12)
      else some (p4, m12)
set_option maxRecDepth 100000 in
set_option maxHeartbeats 4000000 in
theorem bX12_sure_122_40 {E : En} {l : Launch} {Z : Zt} (hI : Inj E) (hl0 : lZ l Z) (X : Cx E Z cX12_sure RX12 7 4) (hr : rtOf Z = some .int) : ∀ (n : Nat) (p1 : Int32) (p2 : Int32) (p3 : Int32) (p4 : Int32) (μ : Mem), AO E Z 7 (QI E Z) 40 [(1, .int p1), (2, .int p2), (3, .int p3), (4, .int p4)] [] μ (fX12_sure_122_b40 n p1 p2 p3 p4 μ) := by
  intro n
  induction n with
  | zero =>
    intros
    exact ao_none
  | succ n ih =>
    intro p1 p2 p3 p4 μ
    rw [fX12_sure_122_b40]
    refine ao_iload (pc := 40) X dX12_sure_40 rfl ?_
    refine ao_bipush (pc := 42) X dX12_sure_42 bp_12 ?_
    refine ao_icmp_gt (pc := 44) (tgt := 91) X dX12_sure_44 (by decide) (fun _ => ?_) (fun _ => ?_)
    · refine ao_bipush (pc := 91) X dX12_sure_91 bp_m2 ?_
      exact ao_iret (pc := 93) X hr dX12_sure_93
    · refine ao_iload_n (pc := 47) X dX12_sure_47 rfl ?_
      refine ao_iload_n (pc := 48) X dX12_sure_48 rfl ?_
      refine ao_iload (pc := 49) X dX12_sure_49 rfl ?_
      refine ao_callSL (pc := 51) (As := [.int p1, .int p2, .int p4]) (st := []) X hl0 dX12_sure_51 yv_X12_wholePart ml_RX12_362 (mX12_wholePart hI p1 p2 p4 μ) (Nat.le_of_ble_eq_true rfl) rfl rfl (Nat.le_of_ble_eq_true rfl) (fun r8 m9 => ?_)
      refine ao_lstore (pc := 54) (lv' := [(5, .long r8), (1, .int p1), (2, .int p2), (3, .int p3), (4, .int p4)]) X dX12_sure_54 (by decide) rfl ?_
      refine ao_lload (pc := 56) X dX12_sure_56 rfl ?_
      refine ao_lconst (pc := 58) X dX12_sure_58 lc_0 ?_
      refine ao_lcmp (pc := 59) X dX12_sure_59 ?_
      refine ao_if_le (pc := 60) (tgt := 85) X dX12_sure_60 (by decide) (fun _ => ?_) (fun _ => ?_)
      · refine ao_iinc (pc := 85) (k := 4) (v := p4 + (1 : Int32)) (lv' := [(4, .int (p4 + (1 : Int32))), (5, .long r8), (1, .int p1), (2, .int p2), (3, .int p3)]) X dX12_sure_85 rfl (ii_ic ic_1) (by decide) rfl ?_
        refine ao_goto (pc := 88) (tgt := 40) X dX12_sure_88 (by decide) ?_
        refine ao_sub [2, 3, 4, 0] rfl ?_
        exact ih p1 p2 p3 (p4 + (1 : Int32)) m9
      · refine ao_ldc2 (pc := 63) X dX12_sure_63 kl_RX12_366 ?_
        refine ao_iload_n (pc := 66) X dX12_sure_66 rfl ?_
        refine ao_iload (pc := 67) X dX12_sure_67 rfl ?_
        refine ao_callSL (pc := 69) (As := [.int p1, .int p4]) (st := [.long (100 : Int64)]) X hl0 dX12_sure_69 yv_X12_dumbPart ml_RX12_358 (mX12_dumbPart hI p1 p4 m9) (Nat.le_of_ble_eq_true rfl) rfl rfl (Nat.le_of_ble_eq_true rfl) (fun r11 m12 => ?_)
        refine ao_lmul (pc := 72) X dX12_sure_72 ?_
        refine ao_iload_n (pc := 73) X dX12_sure_73 rfl ?_
        refine ao_i2l (pc := 74) X dX12_sure_74 ?_
        refine ao_lload (pc := 75) X dX12_sure_75 rfl ?_
        refine ao_lmul (pc := 77) X dX12_sure_77 ?_
        refine ao_lcmp (pc := 78) X dX12_sure_78 ?_
        refine ao_if_lt (pc := 79) (tgt := 85) X dX12_sure_79 (by decide) (fun _ => ?_) (fun _ => ?_)
        · refine ao_iinc (pc := 85) (k := 4) (v := p4 + (1 : Int32)) (lv' := [(4, .int (p4 + (1 : Int32))), (5, .long r8), (1, .int p1), (2, .int p2), (3, .int p3)]) X dX12_sure_85 rfl (ii_ic ic_1) (by decide) rfl ?_
          refine ao_goto (pc := 88) (tgt := 40) X dX12_sure_88 (by decide) ?_
          refine ao_sub [2, 3, 4, 0] rfl ?_
          exact ih p1 p2 p3 (p4 + (1 : Int32)) m12
        · refine ao_iload (pc := 82) X dX12_sure_82 rfl ?_
          exact ao_iret (pc := 84) X hr dX12_sure_84
def fX12_sure_122 (v1 : Int32) (v2 : Int32) (v3 : Int32) (μ : Mem) : Option (Int32 × Mem) :=
  lt (sI μ 122 17 (0 : Int32)) fun m1 =>
  bnd (fX12_in v1 (0 : Int32) (10 : Int32) m1) fun r2 m3 =>
  if r2 = 0 then (some ((-1 : Int32), m3))
  else bnd (fX12_in v2 (0 : Int32) (10 : Int32) m3) fun r4 m5 =>
    if r4 = 0 then (some ((-1 : Int32), m5))
    else bnd (fX12_in v3 (0 : Int32) (100 : Int32) m5) fun r6 m7 =>
      if r6 = 0 then (some ((-1 : Int32), m7))
      else fX12_sure_122_b40 FU v1 v2 v3 (0 : Int32) m7
set_option maxRecDepth 100000 in
set_option maxHeartbeats 4000000 in
theorem mX12_sure_122 {E : En} {l : Launch} (hI : Inj E) (v1 : Int32) (v2 : Int32) (v3 : Int32) (μ : Mem) : MtI E l yX12_sure cX12_sure 7 (some .int) 4 [.ref (eAd E 122), .int v1, .int v2, .int v3] μ (fX12_sure_122 v1 v2 v3 μ) := by
  refine mtI_of (own := RX12) [(0, .ref (eAd E 122)), (1, .int v1), (2, .int v2), (3, .int v3)] hI rfl (by decide) (Nat.le_of_ble_eq_true rfl) (Nat.le_of_ble_eq_true rfl) rfl (fun Z hl0 X hr => ?_)
  unfold fX12_sure_122
  refine ao_aload_n (pc := 0) X dX12_sure_0 rfl ?_
  refine ao_iconst (pc := 1) X dX12_sure_1 ic_0 ?_
  refine ao_putI (pc := 2) X dX12_sure_2 fp_RX12_95 sf_122_17 ?_
  refine ao_lt (fun m1 => ?_)
  refine ao_iload_n (pc := 5) X dX12_sure_5 rfl ?_
  refine ao_iconst (pc := 6) X dX12_sure_6 ic_0 ?_
  refine ao_bipush (pc := 7) X dX12_sure_7 bp_10 ?_
  refine ao_callSI (pc := 9) (As := [.int v1, .int (0 : Int32), .int (10 : Int32)]) (st := []) X hl0 dX12_sure_9 yv_X12_in ml_RX12_104 (mX12_in hI v1 (0 : Int32) (10 : Int32) m1) (Nat.le_of_ble_eq_true rfl) rfl rfl (Nat.le_of_ble_eq_true rfl) (fun r2 m3 => ?_)
  refine ao_if_eq (pc := 12) (tgt := 35) X dX12_sure_12 (by decide) (fun _ => ?_) (fun _ => ?_)
  · refine ao_iconst (pc := 35) X dX12_sure_35 ic_m1 ?_
    exact ao_iret (pc := 36) X hr dX12_sure_36
  · refine ao_iload_n (pc := 15) X dX12_sure_15 rfl ?_
    refine ao_iconst (pc := 16) X dX12_sure_16 ic_0 ?_
    refine ao_bipush (pc := 17) X dX12_sure_17 bp_10 ?_
    refine ao_callSI (pc := 19) (As := [.int v2, .int (0 : Int32), .int (10 : Int32)]) (st := []) X hl0 dX12_sure_19 yv_X12_in ml_RX12_104 (mX12_in hI v2 (0 : Int32) (10 : Int32) m3) (Nat.le_of_ble_eq_true rfl) rfl rfl (Nat.le_of_ble_eq_true rfl) (fun r4 m5 => ?_)
    refine ao_if_eq (pc := 22) (tgt := 35) X dX12_sure_22 (by decide) (fun _ => ?_) (fun _ => ?_)
    · refine ao_iconst (pc := 35) X dX12_sure_35 ic_m1 ?_
      exact ao_iret (pc := 36) X hr dX12_sure_36
    · refine ao_iload_n (pc := 25) X dX12_sure_25 rfl ?_
      refine ao_iconst (pc := 26) X dX12_sure_26 ic_0 ?_
      refine ao_bipush (pc := 27) X dX12_sure_27 bp_100 ?_
      refine ao_callSI (pc := 29) (As := [.int v3, .int (0 : Int32), .int (100 : Int32)]) (st := []) X hl0 dX12_sure_29 yv_X12_in ml_RX12_104 (mX12_in hI v3 (0 : Int32) (100 : Int32) m5) (Nat.le_of_ble_eq_true rfl) rfl rfl (Nat.le_of_ble_eq_true rfl) (fun r6 m7 => ?_)
      refine ao_if_ne (pc := 32) (tgt := 37) X dX12_sure_32 (by decide) (fun _ => ?_) (fun _ => ?_)
      · refine ao_iconst (pc := 37) X dX12_sure_37 ic_0 ?_
        refine ao_istore (pc := 38) (lv' := [(4, .int (0 : Int32)), (0, .ref (eAd E 122)), (1, .int v1), (2, .int v2), (3, .int v3)]) X dX12_sure_38 (by decide) rfl ?_
        refine ao_sub [2, 3, 4, 0] rfl ?_
        exact bX12_sure_122_40 hI hl0 X hr FU v1 v2 v3 (0 : Int32) m7
      · refine ao_iconst (pc := 35) X dX12_sure_35 ic_m1 ?_
        exact ao_iret (pc := 36) X hr dX12_sure_36
def fX11_isSuchPart_0 (v1 : Int32) (v2 : Int32) (v3 : Int32) (μ : Mem) : Option (Int32 × Mem) :=
  if (v1 &&& (v2 ^^^ (-1 : Int32))) = 0 then (bnd (fX2_worthOf_24 v1 μ) fun r1 m2 =>
    if r1 = v3 then (some ((1 : Int32), m2))
    else some ((0 : Int32), m2))
  else some ((0 : Int32), μ)
set_option maxRecDepth 100000 in
set_option maxHeartbeats 4000000 in
theorem mX11_isSuchPart_0 {E : En} {l : Launch} (hI : Inj E) (v1 : Int32) (v2 : Int32) (v3 : Int32) (μ : Mem) : MtI E l yX11_isSuchPart cX11_isSuchPart 4 (some .boolean) 2 [.ref (eAd E 0), .int v1, .int v2, .int v3] μ (fX11_isSuchPart_0 v1 v2 v3 μ) := by
  refine mtI_of (own := RX11) [(0, .ref (eAd E 0)), (1, .int v1), (2, .int v2), (3, .int v3)] hI rfl (by decide) (Nat.le_of_ble_eq_true rfl) (Nat.le_of_ble_eq_true rfl) rfl (fun Z hl0 X hr => ?_)
  unfold fX11_isSuchPart_0
  refine ao_iload_n (pc := 0) X dX11_isSuchPart_0 rfl ?_
  refine ao_iload_n (pc := 1) X dX11_isSuchPart_1 rfl ?_
  refine ao_iconst (pc := 2) X dX11_isSuchPart_2 ic_m1 ?_
  refine ao_ixor (pc := 3) X dX11_isSuchPart_3 ?_
  refine ao_iand (pc := 4) X dX11_isSuchPart_4 ?_
  refine ao_if_ne (pc := 5) (tgt := 24) X dX11_isSuchPart_5 (by decide) (fun _ => ?_) (fun _ => ?_)
  · refine ao_iconst (pc := 24) X dX11_isSuchPart_24 ic_0 ?_
    exact ao_zret (pc := 25) X hr rfl dX11_isSuchPart_25
  · refine ao_aload_n (pc := 8) X dX11_isSuchPart_8 rfl ?_
    refine ao_getR (pc := 9) X dX11_isSuchPart_9 fl_RX11_56 sf_0_6 ?_
    refine ao_iload_n (pc := 12) X dX11_isSuchPart_12 rfl ?_
    refine ao_callVI (pc := 13) (As := [.int v1]) (st := []) X hl0 dX11_isSuchPart_13 yv_X2_worthOf so_24 ml_RX11_188 (mX2_worthOf_24 hI v1 μ) (Nat.le_of_ble_eq_true rfl) rfl rfl (Nat.le_of_ble_eq_true rfl) (fun r1 m2 => ?_)
    refine ao_iload_n (pc := 16) X dX11_isSuchPart_16 rfl ?_
    refine ao_icmp_ne (pc := 17) (tgt := 24) X dX11_isSuchPart_17 (by decide) (fun _ => ?_) (fun _ => ?_)
    · refine ao_iconst (pc := 24) X dX11_isSuchPart_24 ic_0 ?_
      exact ao_zret (pc := 25) X hr rfl dX11_isSuchPart_25
    · refine ao_iconst (pc := 20) X dX11_isSuchPart_20 ic_1 ?_
      refine ao_goto (pc := 21) (tgt := 25) X dX11_isSuchPart_21 (by decide) ?_
      exact ao_zret (pc := 25) X hr rfl dX11_isSuchPart_25
def fX11_house_0_b111 (p4 : Int32) (q0 : Int64) (q1 : Int64) (μ : Mem) : Option (Int32 × Mem) :=
  bnd (fX7_tell__3 q1 q0 μ) fun r7 m8 =>
  some (p4, m8)
set_option maxRecDepth 100000 in
set_option maxHeartbeats 4000000 in
theorem bX11_house_0_111 {E : En} {l : Launch} {Z : Zt} (hI : Inj E) (hl0 : lZ l Z) (X : Cx E Z cX11_house RX11 8 4) (hr : rtOf Z = some .int) (p4 : Int32) (q0 : Int64) (q1 : Int64) (μ : Mem) : AO E Z 8 (QI E Z) 111 [(4, .int p4)] [.long q0, .long q1, .ref (eAd E 3)] μ (fX11_house_0_b111 p4 q0 q1 μ) := by
  unfold fX11_house_0_b111
  refine ao_callVV (pc := 111) (As := [.long q1, .long q0]) (st := []) X hl0 dX11_house_111 yv_X7_tell_ so_3 ml_RX11_244 (mX7_tell__3 hI q1 q0 μ) (Nat.le_of_ble_eq_true rfl) rfl rfl (Nat.le_of_ble_eq_true rfl) (fun r7 m8 => ?_)
  refine ao_iload (pc := 114) X dX11_house_114 rfl ?_
  exact ao_iret (pc := 116) X hr dX11_house_116
def fX11_house_0_b74 (k43 : Int32 → Int32 → Int32 → Int32 → Int32 → Int32 → Mem → Option (Int32 × Mem)) (p2 : Int32) (p3 : Int32) (p4 : Int32) (p6 : Int32) (p7 : Int32) (q0 : Int32) (μ : Mem) : Option (Int32 × Mem) :=
  lt (p6 &&& p7) fun x9 =>
  k43 p2 p3 (p4 + (1 : Int32)) q0 x9 (p7 + (1 : Int32)) μ
set_option maxRecDepth 100000 in
set_option maxHeartbeats 4000000 in
theorem bX11_house_0_74 {E : En} {l : Launch} {Z : Zt} (hI : Inj E) (hl0 : lZ l Z) (X : Cx E Z cX11_house RX11 8 4) (hr : rtOf Z = some .int) {k43 : Int32 → Int32 → Int32 → Int32 → Int32 → Int32 → Mem → Option (Int32 × Mem)} (hk43 : ∀ (p2 : Int32) (p3 : Int32) (p4 : Int32) (p5 : Int32) (p6 : Int32) (p7 : Int32) (m : Mem), AO E Z 8 (QI E Z) 43 [(0, .ref (eAd E 0)), (2, .int p2), (3, .int p3), (4, .int p4), (5, .int p5), (6, .int p6), (7, .int p7)] [] m (k43 p2 p3 p4 p5 p6 p7 m)) (p2 : Int32) (p3 : Int32) (p4 : Int32) (p6 : Int32) (p7 : Int32) (q0 : Int32) (μ : Mem) : AO E Z 8 (QI E Z) 74 [(0, .ref (eAd E 0)), (2, .int p2), (3, .int p3), (4, .int p4), (6, .int p6), (7, .int p7)] [.int q0] μ (fX11_house_0_b74 k43 p2 p3 p4 p6 p7 q0 μ) := by
  unfold fX11_house_0_b74
  refine ao_istore (pc := 74) (lv' := [(5, .int q0), (0, .ref (eAd E 0)), (2, .int p2), (3, .int p3), (4, .int p4), (6, .int p6), (7, .int p7)]) X dX11_house_74 (by decide) rfl ?_
  refine ao_iload (pc := 76) X dX11_house_76 rfl ?_
  refine ao_iload (pc := 78) X dX11_house_78 rfl ?_
  refine ao_iand (pc := 80) X dX11_house_80 ?_
  refine ao_ltI (fun x9 => ?_)
  refine ao_istore (pc := 81) (lv' := [(6, .int x9), (5, .int q0), (0, .ref (eAd E 0)), (2, .int p2), (3, .int p3), (4, .int p4), (7, .int p7)]) X dX11_house_81 (by decide) rfl ?_
  refine ao_iinc (pc := 83) (k := 5) (v := p4 + (1 : Int32)) (lv' := [(4, .int (p4 + (1 : Int32))), (6, .int x9), (5, .int q0), (0, .ref (eAd E 0)), (2, .int p2), (3, .int p3), (7, .int p7)]) X dX11_house_83 rfl (ii_ic ic_1) (by decide) rfl ?_
  refine ao_iinc (pc := 86) (k := 6) (v := p7 + (1 : Int32)) (lv' := [(7, .int (p7 + (1 : Int32))), (4, .int (p4 + (1 : Int32))), (6, .int x9), (5, .int q0), (0, .ref (eAd E 0)), (2, .int p2), (3, .int p3)]) X dX11_house_86 rfl (ii_ic ic_1) (by decide) rfl ?_
  refine ao_goto (pc := 89) (tgt := 43) X dX11_house_89 (by decide) ?_
  refine ao_sub [4, 5, 6, 1, 3, 2, 0] rfl ?_
  exact hk43 p2 p3 (p4 + (1 : Int32)) q0 x9 (p7 + (1 : Int32)) μ
def fX11_house_0_b43 : Nat → Int32 → Int32 → Int32 → Int32 → Int32 → Int32 → Mem → Option (Int32 × Mem)
  | 0, _, _, _, _, _, _, _ => none
  | n + 1, p2, p3, p4, p5, p6, p7, μ =>
  if (256 : Int32) ≤ p7 then (if p4 = 0 then (fX11_house_0_b111 p4 (0 : Int64) (Int32.toInt64 p5) μ)
    else fX11_house_0_b111 p4 (Int32.toInt64 p6) (Int32.toInt64 p5) μ)
  else bnd (fX11_isSuchPart_0 p7 p3 p2 μ) fun r4 m5 =>
    if r4 = 0 then (fX11_house_0_b43 n p2 p3 p4 p5 p6 (p7 + (1 : Int32)) m5)
    else if p4 = 0 then (fX11_house_0_b74 (fun p2 p3 p4 p5 p6 p7 m => fX11_house_0_b43 n p2 p3 p4 p5 p6 p7 m) p2 p3 p4 p6 p7 p7 m5)
      else fX11_house_0_b74 (fun p2 p3 p4 p5 p6 p7 m => fX11_house_0_b43 n p2 p3 p4 p5 p6 p7 m) p2 p3 p4 p6 p7 p5 m5
set_option maxRecDepth 100000 in
set_option maxHeartbeats 4000000 in
theorem bX11_house_0_43 {E : En} {l : Launch} {Z : Zt} (hI : Inj E) (hl0 : lZ l Z) (X : Cx E Z cX11_house RX11 8 4) (hr : rtOf Z = some .int) : ∀ (n : Nat) (p2 : Int32) (p3 : Int32) (p4 : Int32) (p5 : Int32) (p6 : Int32) (p7 : Int32) (μ : Mem), AO E Z 8 (QI E Z) 43 [(0, .ref (eAd E 0)), (2, .int p2), (3, .int p3), (4, .int p4), (5, .int p5), (6, .int p6), (7, .int p7)] [] μ (fX11_house_0_b43 n p2 p3 p4 p5 p6 p7 μ) := by
  intro n
  induction n with
  | zero =>
    intros
    exact ao_none
  | succ n ih =>
    intro p2 p3 p4 p5 p6 p7 μ
    rw [fX11_house_0_b43]
    refine ao_iload (pc := 43) X dX11_house_43 rfl ?_
    refine ao_sipush (pc := 45) X dX11_house_45 sp_256 ?_
    refine ao_icmp_ge (pc := 48) (tgt := 92) X dX11_house_48 (by decide) (fun _ => ?_) (fun _ => ?_)
    · refine ao_aload_n (pc := 92) X dX11_house_92 rfl ?_
      refine ao_getR (pc := 93) X dX11_house_93 fl_RX11_19 sf_0_1 ?_
      refine ao_iload (pc := 96) X dX11_house_96 rfl ?_
      refine ao_i2l (pc := 98) X dX11_house_98 ?_
      refine ao_iload (pc := 99) X dX11_house_99 rfl ?_
      refine ao_if_ne (pc := 101) (tgt := 108) X dX11_house_101 (by decide) (fun _ => ?_) (fun _ => ?_)
      · refine ao_iload (pc := 108) X dX11_house_108 rfl ?_
        refine ao_i2l (pc := 110) X dX11_house_110 ?_
        refine ao_sub [3] rfl ?_
        exact bX11_house_0_111 hI hl0 X hr p4 (Int32.toInt64 p6) (Int32.toInt64 p5) μ
      · refine ao_lconst (pc := 104) X dX11_house_104 lc_0 ?_
        refine ao_goto (pc := 105) (tgt := 111) X dX11_house_105 (by decide) ?_
        refine ao_sub [3] rfl ?_
        exact bX11_house_0_111 hI hl0 X hr p4 (0 : Int64) (Int32.toInt64 p5) μ
    · refine ao_aload_n (pc := 51) X dX11_house_51 rfl ?_
      refine ao_iload (pc := 52) X dX11_house_52 rfl ?_
      refine ao_iload_n (pc := 54) X dX11_house_54 rfl ?_
      refine ao_iload_n (pc := 55) X dX11_house_55 rfl ?_
      refine ao_callVI (pc := 56) (As := [.int p7, .int p3, .int p2]) (st := []) X hl0 dX11_house_56 yv_X11_isSuchPart so_0 ml_RX11_371 (mX11_isSuchPart_0 hI p7 p3 p2 μ) (Nat.le_of_ble_eq_true rfl) rfl rfl (Nat.le_of_ble_eq_true rfl) (fun r4 m5 => ?_)
      refine ao_if_eq (pc := 59) (tgt := 86) X dX11_house_59 (by decide) (fun _ => ?_) (fun _ => ?_)
      · refine ao_iinc (pc := 86) (k := 6) (v := p7 + (1 : Int32)) (lv' := [(7, .int (p7 + (1 : Int32))), (0, .ref (eAd E 0)), (2, .int p2), (3, .int p3), (4, .int p4), (5, .int p5), (6, .int p6)]) X dX11_house_86 rfl (ii_ic ic_1) (by decide) rfl ?_
        refine ao_goto (pc := 89) (tgt := 43) X dX11_house_89 (by decide) ?_
        refine ao_sub [1, 2, 3, 4, 5, 6, 0] rfl ?_
        exact ih p2 p3 p4 p5 p6 (p7 + (1 : Int32)) m5
      · refine ao_iload (pc := 62) X dX11_house_62 rfl ?_
        refine ao_if_ne (pc := 64) (tgt := 72) X dX11_house_64 (by decide) (fun _ => ?_) (fun _ => ?_)
        · refine ao_iload (pc := 72) X dX11_house_72 rfl ?_
          refine ao_sub [0, 1, 2, 3, 5, 6] rfl ?_
          exact bX11_house_0_74 hI hl0 X hr ih p2 p3 p4 p6 p7 p5 m5
        · refine ao_iload (pc := 67) X dX11_house_67 rfl ?_
          refine ao_goto (pc := 69) (tgt := 74) X dX11_house_69 (by decide) ?_
          refine ao_sub [0, 1, 2, 3, 5, 6] rfl ?_
          exact bX11_house_0_74 hI hl0 X hr ih p2 p3 p4 p6 p7 p7 m5
def fX11_house_0 (v1 : Int32) (v2 : Int32) (μ : Mem) : Option (Int32 × Mem) :=
  bnd (fX11_isThere_0 v1 μ) fun r1 m2 =>
  if r1 = 0 then (some ((-1 : Int32), m2))
  else if v2 < 0 then (some ((-1 : Int32), m2))
    else if v2 ≤ (999 : Int32) then (gd (inb v1 6) (lt (gI m2 10 (ix v1)) fun x3 =>
        fX11_house_0_b43 FU v2 x3 (0 : Int32) (-1 : Int32) x3 (0 : Int32) m2))
      else some ((-1 : Int32), m2)
set_option maxRecDepth 100000 in
set_option maxHeartbeats 4000000 in
theorem mX11_house_0 {E : En} {l : Launch} (hI : Inj E) (v1 : Int32) (v2 : Int32) (μ : Mem) : MtI E l yX11_house cX11_house 8 (some .int) 4 [.ref (eAd E 0), .int v1, .int v2] μ (fX11_house_0 v1 v2 μ) := by
  refine mtI_of (own := RX11) [(0, .ref (eAd E 0)), (1, .int v1), (2, .int v2)] hI rfl (by decide) (Nat.le_of_ble_eq_true rfl) (Nat.le_of_ble_eq_true rfl) rfl (fun Z hl0 X hr => ?_)
  unfold fX11_house_0
  refine ao_aload_n (pc := 0) X dX11_house_0 rfl ?_
  refine ao_iload_n (pc := 1) X dX11_house_1 rfl ?_
  refine ao_callVI (pc := 2) (As := [.int v1]) (st := []) X hl0 dX11_house_2 yv_X11_isThere so_0 ml_RX11_147 (mX11_isThere_0 hI v1 μ) (Nat.le_of_ble_eq_true rfl) rfl rfl (Nat.le_of_ble_eq_true rfl) (fun r1 m2 => ?_)
  refine ao_if_eq (pc := 5) (tgt := 19) X dX11_house_5 (by decide) (fun _ => ?_) (fun _ => ?_)
  · refine ao_iconst (pc := 19) X dX11_house_19 ic_m1 ?_
    exact ao_iret (pc := 20) X hr dX11_house_20
  · refine ao_iload_n (pc := 8) X dX11_house_8 rfl ?_
    refine ao_if_lt (pc := 9) (tgt := 19) X dX11_house_9 (by decide) (fun _ => ?_) (fun _ => ?_)
    · refine ao_iconst (pc := 19) X dX11_house_19 ic_m1 ?_
      exact ao_iret (pc := 20) X hr dX11_house_20
    · refine ao_iload_n (pc := 12) X dX11_house_12 rfl ?_
      refine ao_sipush (pc := 13) X dX11_house_13 sp_999 ?_
      refine ao_icmp_le (pc := 16) (tgt := 21) X dX11_house_16 (by decide) (fun _ => ?_) (fun _ => ?_)
      · refine ao_aload_n (pc := 21) X dX11_house_21 rfl ?_
        refine ao_getR (pc := 22) X dX11_house_22 fl_RX11_26 sf_0_2 ?_
        refine ao_getR (pc := 25) X dX11_house_25 fl_RX11_169 sf_5_4 ?_
        refine ao_iload_n (pc := 28) X dX11_house_28 rfl ?_
        refine ao_iald (pc := 29) X dX11_house_29 sa_10 ?_
        refine ao_ltI (fun x3 => ?_)
        refine ao_istore_n (pc := 30) (lv' := [(3, .int x3), (0, .ref (eAd E 0)), (1, .int v1), (2, .int v2)]) X dX11_house_30 rfl (by decide) rfl ?_
        refine ao_iconst (pc := 31) X dX11_house_31 ic_0 ?_
        refine ao_istore (pc := 32) (lv' := [(4, .int (0 : Int32)), (3, .int x3), (0, .ref (eAd E 0)), (1, .int v1), (2, .int v2)]) X dX11_house_32 (by decide) rfl ?_
        refine ao_iconst (pc := 34) X dX11_house_34 ic_m1 ?_
        refine ao_istore (pc := 35) (lv' := [(5, .int (-1 : Int32)), (4, .int (0 : Int32)), (3, .int x3), (0, .ref (eAd E 0)), (1, .int v1), (2, .int v2)]) X dX11_house_35 (by decide) rfl ?_
        refine ao_iload_n (pc := 37) X dX11_house_37 rfl ?_
        refine ao_istore (pc := 38) (lv' := [(6, .int x3), (5, .int (-1 : Int32)), (4, .int (0 : Int32)), (3, .int x3), (0, .ref (eAd E 0)), (1, .int v1), (2, .int v2)]) X dX11_house_38 (by decide) rfl ?_
        refine ao_iconst (pc := 40) X dX11_house_40 ic_0 ?_
        refine ao_istore (pc := 41) (lv' := [(7, .int (0 : Int32)), (6, .int x3), (5, .int (-1 : Int32)), (4, .int (0 : Int32)), (3, .int x3), (0, .ref (eAd E 0)), (1, .int v1), (2, .int v2)]) X dX11_house_41 (by decide) rfl ?_
        refine ao_sub [5, 7, 4, 3, 2, 1, 0] rfl ?_
        exact bX11_house_0_43 hI hl0 X hr FU v2 x3 (0 : Int32) (-1 : Int32) x3 (0 : Int32) m2
      · refine ao_iconst (pc := 19) X dX11_house_19 ic_m1 ?_
        exact ao_iret (pc := 20) X hr dX11_house_20
def fX12_house_122_b133 (p3 : Int32) (q0 : Int64) (μ : Mem) : Option (Int32 × Mem) :=
  bnd (fX12_tell_122 q0 μ) fun r14 m15 =>
  some (p3, m15)
set_option maxRecDepth 100000 in
set_option maxHeartbeats 4000000 in
theorem bX12_house_122_133 {E : En} {l : Launch} {Z : Zt} (hI : Inj E) (hl0 : lZ l Z) (X : Cx E Z cX12_house RX12 7 3) (hr : rtOf Z = some .int) (p3 : Int32) (q0 : Int64) (μ : Mem) : AO E Z 7 (QI E Z) 133 [(3, .int p3)] [.long q0, .ref (eAd E 122)] μ (fX12_house_122_b133 p3 q0 μ) := by
  unfold fX12_house_122_b133
  refine ao_callVV (pc := 133) (As := [.long q0]) (st := []) X hl0 dX12_house_133 yv_X12_tell so_122 ml_RX12_267 (mX12_tell_122 hI q0 μ) (Nat.le_of_ble_eq_true rfl) rfl rfl (Nat.le_of_ble_eq_true rfl) (fun r14 m15 => ?_)
  refine ao_iload_n (pc := 136) X dX12_house_136 rfl ?_
  exact ao_iret (pc := 137) X hr dX12_house_137
def fX12_house_122_b91 (k42 : Int32 → Int32 → Int32 → Int32 → Int32 → Int32 → Mem → Option (Int32 × Mem)) (p1 : Int32) (p2 : Int32) (p3 : Int32) (p5 : Int32) (p6 : Int32) (q0 : Int32) (μ : Mem) : Option (Int32 × Mem) :=
  lt (p5 &&& p6) fun x16 =>
  k42 p1 p2 (p3 + (1 : Int32)) q0 x16 (p6 + (1 : Int32)) μ
set_option maxRecDepth 100000 in
set_option maxHeartbeats 4000000 in
theorem bX12_house_122_91 {E : En} {l : Launch} {Z : Zt} (hI : Inj E) (hl0 : lZ l Z) (X : Cx E Z cX12_house RX12 7 3) (hr : rtOf Z = some .int) {k42 : Int32 → Int32 → Int32 → Int32 → Int32 → Int32 → Mem → Option (Int32 × Mem)} (hk42 : ∀ (p1 : Int32) (p2 : Int32) (p3 : Int32) (p4 : Int32) (p5 : Int32) (p6 : Int32) (m : Mem), AO E Z 7 (QI E Z) 42 [(0, .ref (eAd E 122)), (1, .int p1), (2, .int p2), (3, .int p3), (4, .int p4), (5, .int p5), (6, .int p6)] [] m (k42 p1 p2 p3 p4 p5 p6 m)) (p1 : Int32) (p2 : Int32) (p3 : Int32) (p5 : Int32) (p6 : Int32) (q0 : Int32) (μ : Mem) : AO E Z 7 (QI E Z) 91 [(0, .ref (eAd E 122)), (1, .int p1), (2, .int p2), (3, .int p3), (5, .int p5), (6, .int p6)] [.int q0] μ (fX12_house_122_b91 k42 p1 p2 p3 p5 p6 q0 μ) := by
  unfold fX12_house_122_b91
  refine ao_istore (pc := 91) (lv' := [(4, .int q0), (0, .ref (eAd E 122)), (1, .int p1), (2, .int p2), (3, .int p3), (5, .int p5), (6, .int p6)]) X dX12_house_91 (by decide) rfl ?_
  refine ao_iload (pc := 93) X dX12_house_93 rfl ?_
  refine ao_iload (pc := 95) X dX12_house_95 rfl ?_
  refine ao_iand (pc := 97) X dX12_house_97 ?_
  refine ao_ltI (fun x16 => ?_)
  refine ao_istore (pc := 98) (lv' := [(5, .int x16), (4, .int q0), (0, .ref (eAd E 122)), (1, .int p1), (2, .int p2), (3, .int p3), (6, .int p6)]) X dX12_house_98 (by decide) rfl ?_
  refine ao_iinc (pc := 100) (k := 5) (v := p3 + (1 : Int32)) (lv' := [(3, .int (p3 + (1 : Int32))), (5, .int x16), (4, .int q0), (0, .ref (eAd E 122)), (1, .int p1), (2, .int p2), (6, .int p6)]) X dX12_house_100 rfl (ii_ic ic_1) (by decide) rfl ?_
  refine ao_iinc (pc := 103) (k := 6) (v := p6 + (1 : Int32)) (lv' := [(6, .int (p6 + (1 : Int32))), (3, .int (p3 + (1 : Int32))), (5, .int x16), (4, .int q0), (0, .ref (eAd E 122)), (1, .int p1), (2, .int p2)]) X dX12_house_103 rfl (ii_ic ic_1) (by decide) rfl ?_
  refine ao_goto (pc := 106) (tgt := 42) X dX12_house_106 (by decide) ?_
  refine ao_sub [4, 5, 6, 1, 3, 2, 0] rfl ?_
  exact hk42 p1 p2 (p3 + (1 : Int32)) q0 x16 (p6 + (1 : Int32)) μ
def fX12_house_122_b42 : Nat → Int32 → Int32 → Int32 → Int32 → Int32 → Int32 → Mem → Option (Int32 × Mem)
  | 0, _, _, _, _, _, _, _ => none
  | n + 1, p1, p2, p3, p4, p5, p6, μ =>
  gd (inb p1 6) (if (gI μ 128 (ix p1)) < p6 then (lt (sI μ 122 16 (0 : Int32)) fun m7 =>
    bnd (fX12_tell_122 (Int32.toInt64 p4) m7) fun r8 m9 =>
    if p3 = 0 then (fX12_house_122_b133 p3 (0 : Int64) m9)
    else fX12_house_122_b133 p3 (Int32.toInt64 p5) m9)
  else gd (inb p1 6) (if (p6 &&& ((gI μ 128 (ix p1)) ^^^ (-1 : Int32))) = 0 then (bnd (fX12_valuesOf_122 p6 μ) fun r11 m12 =>
      if r11 = p2 then (if p3 = 0 then (fX12_house_122_b91 (fun p1 p2 p3 p4 p5 p6 m => fX12_house_122_b42 n p1 p2 p3 p4 p5 p6 m) p1 p2 p3 p5 p6 p6 m12)
        else fX12_house_122_b91 (fun p1 p2 p3 p4 p5 p6 m => fX12_house_122_b42 n p1 p2 p3 p4 p5 p6 m) p1 p2 p3 p5 p6 p4 m12)
      else fX12_house_122_b42 n p1 p2 p3 p4 p5 (p6 + (1 : Int32)) m12)
    else fX12_house_122_b42 n p1 p2 p3 p4 p5 (p6 + (1 : Int32)) μ))
set_option maxRecDepth 100000 in
set_option maxHeartbeats 4000000 in
theorem bX12_house_122_42 {E : En} {l : Launch} {Z : Zt} (hI : Inj E) (hl0 : lZ l Z) (X : Cx E Z cX12_house RX12 7 3) (hr : rtOf Z = some .int) : ∀ (n : Nat) (p1 : Int32) (p2 : Int32) (p3 : Int32) (p4 : Int32) (p5 : Int32) (p6 : Int32) (μ : Mem), AO E Z 7 (QI E Z) 42 [(0, .ref (eAd E 122)), (1, .int p1), (2, .int p2), (3, .int p3), (4, .int p4), (5, .int p5), (6, .int p6)] [] μ (fX12_house_122_b42 n p1 p2 p3 p4 p5 p6 μ) := by
  intro n
  induction n with
  | zero =>
    intros
    exact ao_none
  | succ n ih =>
    intro p1 p2 p3 p4 p5 p6 μ
    rw [fX12_house_122_b42]
    refine ao_iload (pc := 42) X dX12_house_42 rfl ?_
    refine ao_aload_n (pc := 44) X dX12_house_44 rfl ?_
    refine ao_getR (pc := 45) X dX12_house_45 fl_RX12_26 sf_122_6 ?_
    refine ao_iload_n (pc := 48) X dX12_house_48 rfl ?_
    refine ao_iald (pc := 49) X dX12_house_49 sa_128 ?_
    refine ao_icmp_gt (pc := 50) (tgt := 109) X dX12_house_50 (by decide) (fun _ => ?_) (fun _ => ?_)
    · refine ao_aload_n (pc := 109) X dX12_house_109 rfl ?_
      refine ao_iconst (pc := 110) X dX12_house_110 ic_0 ?_
      refine ao_putI (pc := 111) X dX12_house_111 fp_RX12_98 sf_122_16 ?_
      refine ao_lt (fun m7 => ?_)
      refine ao_aload_n (pc := 114) X dX12_house_114 rfl ?_
      refine ao_iload (pc := 115) X dX12_house_115 rfl ?_
      refine ao_i2l (pc := 117) X dX12_house_117 ?_
      refine ao_callVV (pc := 118) (As := [.long (Int32.toInt64 p4)]) (st := []) X hl0 dX12_house_118 yv_X12_tell so_122 ml_RX12_267 (mX12_tell_122 hI (Int32.toInt64 p4) m7) (Nat.le_of_ble_eq_true rfl) rfl rfl (Nat.le_of_ble_eq_true rfl) (fun r8 m9 => ?_)
      refine ao_aload_n (pc := 121) X dX12_house_121 rfl ?_
      refine ao_iload_n (pc := 122) X dX12_house_122 rfl ?_
      refine ao_if_ne (pc := 123) (tgt := 130) X dX12_house_123 (by decide) (fun _ => ?_) (fun _ => ?_)
      · refine ao_iload (pc := 130) X dX12_house_130 rfl ?_
        refine ao_i2l (pc := 132) X dX12_house_132 ?_
        refine ao_sub [3] rfl ?_
        exact bX12_house_122_133 hI hl0 X hr p3 (Int32.toInt64 p5) m9
      · refine ao_lconst (pc := 126) X dX12_house_126 lc_0 ?_
        refine ao_goto (pc := 127) (tgt := 133) X dX12_house_127 (by decide) ?_
        refine ao_sub [3] rfl ?_
        exact bX12_house_122_133 hI hl0 X hr p3 (0 : Int64) m9
    · refine ao_iload (pc := 53) X dX12_house_53 rfl ?_
      refine ao_aload_n (pc := 55) X dX12_house_55 rfl ?_
      refine ao_getR (pc := 56) X dX12_house_56 fl_RX12_26 sf_122_6 ?_
      refine ao_iload_n (pc := 59) X dX12_house_59 rfl ?_
      refine ao_iald (pc := 60) X dX12_house_60 sa_128 ?_
      refine ao_iconst (pc := 61) X dX12_house_61 ic_m1 ?_
      refine ao_ixor (pc := 62) X dX12_house_62 ?_
      refine ao_iand (pc := 63) X dX12_house_63 ?_
      refine ao_if_ne (pc := 64) (tgt := 103) X dX12_house_64 (by decide) (fun _ => ?_) (fun _ => ?_)
      · refine ao_iinc (pc := 103) (k := 6) (v := p6 + (1 : Int32)) (lv' := [(6, .int (p6 + (1 : Int32))), (0, .ref (eAd E 122)), (1, .int p1), (2, .int p2), (3, .int p3), (4, .int p4), (5, .int p5)]) X dX12_house_103 rfl (ii_ic ic_1) (by decide) rfl ?_
        refine ao_goto (pc := 106) (tgt := 42) X dX12_house_106 (by decide) ?_
        refine ao_sub [1, 2, 3, 4, 5, 6, 0] rfl ?_
        exact ih p1 p2 p3 p4 p5 (p6 + (1 : Int32)) μ
      · refine ao_aload_n (pc := 67) X dX12_house_67 rfl ?_
        refine ao_iload (pc := 68) X dX12_house_68 rfl ?_
        refine ao_callVI (pc := 70) (As := [.int p6]) (st := []) X hl0 dX12_house_70 yv_X12_valuesOf so_122 ml_RX12_239 (mX12_valuesOf_122 hI p6 μ) (Nat.le_of_ble_eq_true rfl) rfl rfl (Nat.le_of_ble_eq_true rfl) (fun r11 m12 => ?_)
        refine ao_iload_n (pc := 73) X dX12_house_73 rfl ?_
        refine ao_icmp_eq (pc := 74) (tgt := 80) X dX12_house_74 (by decide) (fun _ => ?_) (fun _ => ?_)
        · refine ao_iload_n (pc := 80) X dX12_house_80 rfl ?_
          refine ao_if_ne (pc := 81) (tgt := 89) X dX12_house_81 (by decide) (fun _ => ?_) (fun _ => ?_)
          · refine ao_iload (pc := 89) X dX12_house_89 rfl ?_
            refine ao_sub [0, 1, 2, 3, 5, 6] rfl ?_
            exact bX12_house_122_91 hI hl0 X hr ih p1 p2 p3 p5 p6 p4 m12
          · refine ao_iload (pc := 84) X dX12_house_84 rfl ?_
            refine ao_goto (pc := 86) (tgt := 91) X dX12_house_86 (by decide) ?_
            refine ao_sub [0, 1, 2, 3, 5, 6] rfl ?_
            exact bX12_house_122_91 hI hl0 X hr ih p1 p2 p3 p5 p6 p6 m12
        · refine ao_goto (pc := 77) (tgt := 103) X dX12_house_77 (by decide) ?_
          refine ao_iinc (pc := 103) (k := 6) (v := p6 + (1 : Int32)) (lv' := [(6, .int (p6 + (1 : Int32))), (0, .ref (eAd E 122)), (1, .int p1), (2, .int p2), (3, .int p3), (4, .int p4), (5, .int p5)]) X dX12_house_103 rfl (ii_ic ic_1) (by decide) rfl ?_
          refine ao_goto (pc := 106) (tgt := 42) X dX12_house_106 (by decide) ?_
          refine ao_sub [1, 2, 3, 4, 5, 6, 0] rfl ?_
          exact ih p1 p2 p3 p4 p5 (p6 + (1 : Int32)) m12
def fX12_house_122 (v1 : Int32) (v2 : Int32) (μ : Mem) : Option (Int32 × Mem) :=
  lt (sI μ 122 17 (0 : Int32)) fun m1 =>
  bnd (fX12_isMan_122 v1 m1) fun r2 m3 =>
  if r2 = 0 then (some ((-1 : Int32), m3))
  else bnd (fX12_in v2 (0 : Int32) (999 : Int32) m3) fun r4 m5 =>
    if r4 = 0 then (some ((-1 : Int32), m5))
    else gd (inb v1 6) (lt (gI m5 128 (ix v1)) fun x6 =>
      fX12_house_122_b42 FU v1 v2 (0 : Int32) (-1 : Int32) x6 (0 : Int32) m5)
set_option maxRecDepth 100000 in
set_option maxHeartbeats 4000000 in
theorem mX12_house_122 {E : En} {l : Launch} (hI : Inj E) (v1 : Int32) (v2 : Int32) (μ : Mem) : MtI E l yX12_house cX12_house 7 (some .int) 3 [.ref (eAd E 122), .int v1, .int v2] μ (fX12_house_122 v1 v2 μ) := by
  refine mtI_of (own := RX12) [(0, .ref (eAd E 122)), (1, .int v1), (2, .int v2)] hI rfl (by decide) (Nat.le_of_ble_eq_true rfl) (Nat.le_of_ble_eq_true rfl) rfl (fun Z hl0 X hr => ?_)
  unfold fX12_house_122
  refine ao_aload_n (pc := 0) X dX12_house_0 rfl ?_
  refine ao_iconst (pc := 1) X dX12_house_1 ic_0 ?_
  refine ao_putI (pc := 2) X dX12_house_2 fp_RX12_95 sf_122_17 ?_
  refine ao_lt (fun m1 => ?_)
  refine ao_aload_n (pc := 5) X dX12_house_5 rfl ?_
  refine ao_iload_n (pc := 6) X dX12_house_6 rfl ?_
  refine ao_callVI (pc := 7) (As := [.int v1]) (st := []) X hl0 dX12_house_7 yv_X12_isMan so_122 ml_RX12_224 (mX12_isMan_122 hI v1 m1) (Nat.le_of_ble_eq_true rfl) rfl rfl (Nat.le_of_ble_eq_true rfl) (fun r2 m3 => ?_)
  refine ao_if_eq (pc := 10) (tgt := 24) X dX12_house_10 (by decide) (fun _ => ?_) (fun _ => ?_)
  · refine ao_iconst (pc := 24) X dX12_house_24 ic_m1 ?_
    exact ao_iret (pc := 25) X hr dX12_house_25
  · refine ao_iload_n (pc := 13) X dX12_house_13 rfl ?_
    refine ao_iconst (pc := 14) X dX12_house_14 ic_0 ?_
    refine ao_sipush (pc := 15) X dX12_house_15 sp_999 ?_
    refine ao_callSI (pc := 18) (As := [.int v2, .int (0 : Int32), .int (999 : Int32)]) (st := []) X hl0 dX12_house_18 yv_X12_in ml_RX12_104 (mX12_in hI v2 (0 : Int32) (999 : Int32) m3) (Nat.le_of_ble_eq_true rfl) rfl rfl (Nat.le_of_ble_eq_true rfl) (fun r4 m5 => ?_)
    refine ao_if_ne (pc := 21) (tgt := 26) X dX12_house_21 (by decide) (fun _ => ?_) (fun _ => ?_)
    · refine ao_iconst (pc := 26) X dX12_house_26 ic_0 ?_
      refine ao_istore_n (pc := 27) (lv' := [(3, .int (0 : Int32)), (0, .ref (eAd E 122)), (1, .int v1), (2, .int v2)]) X dX12_house_27 rfl (by decide) rfl ?_
      refine ao_iconst (pc := 28) X dX12_house_28 ic_m1 ?_
      refine ao_istore (pc := 29) (lv' := [(4, .int (-1 : Int32)), (3, .int (0 : Int32)), (0, .ref (eAd E 122)), (1, .int v1), (2, .int v2)]) X dX12_house_29 (by decide) rfl ?_
      refine ao_aload_n (pc := 31) X dX12_house_31 rfl ?_
      refine ao_getR (pc := 32) X dX12_house_32 fl_RX12_26 sf_122_6 ?_
      refine ao_iload_n (pc := 35) X dX12_house_35 rfl ?_
      refine ao_iald (pc := 36) X dX12_house_36 sa_128 ?_
      refine ao_ltI (fun x6 => ?_)
      refine ao_istore (pc := 37) (lv' := [(5, .int x6), (4, .int (-1 : Int32)), (3, .int (0 : Int32)), (0, .ref (eAd E 122)), (1, .int v1), (2, .int v2)]) X dX12_house_37 (by decide) rfl ?_
      refine ao_iconst (pc := 39) X dX12_house_39 ic_0 ?_
      refine ao_istore (pc := 40) (lv' := [(6, .int (0 : Int32)), (5, .int x6), (4, .int (-1 : Int32)), (3, .int (0 : Int32)), (0, .ref (eAd E 122)), (1, .int v1), (2, .int v2)]) X dX12_house_40 (by decide) rfl ?_
      refine ao_sub [4, 5, 6, 3, 2, 1, 0] rfl ?_
      exact bX12_house_122_42 hI hl0 X hr FU v1 v2 (0 : Int32) (-1 : Int32) x6 (0 : Int32) m5
    · refine ao_iconst (pc := 24) X dX12_house_24 ic_m1 ?_
      exact ao_iret (pc := 25) X hr dX12_house_25
def fX11_partsWith_0_b6 : Nat → Int32 → Int32 → Int32 → Int32 → Int32 → Mem → Option (Int32 × Mem)
  | 0, _, _, _, _, _, _ => none
  | n + 1, p1, p2, p3, p4, p5, μ =>
  if (256 : Int32) ≤ p5 then (some (p4, μ))
  else if (p5 &&& p2) = p2 then (bnd (fX11_isSuchPart_0 p5 p1 p3 μ) fun r2 m3 =>
      if r2 = 0 then (fX11_partsWith_0_b6 n p1 p2 p3 p4 (p5 + (1 : Int32)) m3)
      else fX11_partsWith_0_b6 n p1 p2 p3 (p4 + (1 : Int32)) (p5 + (1 : Int32)) m3)
    else fX11_partsWith_0_b6 n p1 p2 p3 p4 (p5 + (1 : Int32)) μ
set_option maxRecDepth 100000 in
set_option maxHeartbeats 4000000 in
theorem bX11_partsWith_0_6 {E : En} {l : Launch} {Z : Zt} (hI : Inj E) (hl0 : lZ l Z) (X : Cx E Z cX11_partsWith RX11 6 3) (hr : rtOf Z = some .int) : ∀ (n : Nat) (p1 : Int32) (p2 : Int32) (p3 : Int32) (p4 : Int32) (p5 : Int32) (μ : Mem), AO E Z 6 (QI E Z) 6 [(0, .ref (eAd E 0)), (1, .int p1), (2, .int p2), (3, .int p3), (4, .int p4), (5, .int p5)] [] μ (fX11_partsWith_0_b6 n p1 p2 p3 p4 p5 μ) := by
  intro n
  induction n with
  | zero =>
    intros
    exact ao_none
  | succ n ih =>
    intro p1 p2 p3 p4 p5 μ
    rw [fX11_partsWith_0_b6]
    refine ao_iload (pc := 6) X dX11_partsWith_6 rfl ?_
    refine ao_sipush (pc := 8) X dX11_partsWith_8 sp_256 ?_
    refine ao_icmp_ge (pc := 11) (tgt := 42) X dX11_partsWith_11 (by decide) (fun _ => ?_) (fun _ => ?_)
    · refine ao_iload (pc := 42) X dX11_partsWith_42 rfl ?_
      exact ao_iret (pc := 44) X hr dX11_partsWith_44
    · refine ao_iload (pc := 14) X dX11_partsWith_14 rfl ?_
      refine ao_iload_n (pc := 16) X dX11_partsWith_16 rfl ?_
      refine ao_iand (pc := 17) X dX11_partsWith_17 ?_
      refine ao_iload_n (pc := 18) X dX11_partsWith_18 rfl ?_
      refine ao_icmp_ne (pc := 19) (tgt := 36) X dX11_partsWith_19 (by decide) (fun _ => ?_) (fun _ => ?_)
      · refine ao_iinc (pc := 36) (k := 5) (v := p5 + (1 : Int32)) (lv' := [(5, .int (p5 + (1 : Int32))), (0, .ref (eAd E 0)), (1, .int p1), (2, .int p2), (3, .int p3), (4, .int p4)]) X dX11_partsWith_36 rfl (ii_ic ic_1) (by decide) rfl ?_
        refine ao_goto (pc := 39) (tgt := 6) X dX11_partsWith_39 (by decide) ?_
        refine ao_sub [1, 2, 3, 4, 5, 0] rfl ?_
        exact ih p1 p2 p3 p4 (p5 + (1 : Int32)) μ
      · refine ao_aload_n (pc := 22) X dX11_partsWith_22 rfl ?_
        refine ao_iload (pc := 23) X dX11_partsWith_23 rfl ?_
        refine ao_iload_n (pc := 25) X dX11_partsWith_25 rfl ?_
        refine ao_iload_n (pc := 26) X dX11_partsWith_26 rfl ?_
        refine ao_callVI (pc := 27) (As := [.int p5, .int p1, .int p3]) (st := []) X hl0 dX11_partsWith_27 yv_X11_isSuchPart so_0 ml_RX11_371 (mX11_isSuchPart_0 hI p5 p1 p3 μ) (Nat.le_of_ble_eq_true rfl) rfl rfl (Nat.le_of_ble_eq_true rfl) (fun r2 m3 => ?_)
        refine ao_if_eq (pc := 30) (tgt := 36) X dX11_partsWith_30 (by decide) (fun _ => ?_) (fun _ => ?_)
        · refine ao_iinc (pc := 36) (k := 5) (v := p5 + (1 : Int32)) (lv' := [(5, .int (p5 + (1 : Int32))), (0, .ref (eAd E 0)), (1, .int p1), (2, .int p2), (3, .int p3), (4, .int p4)]) X dX11_partsWith_36 rfl (ii_ic ic_1) (by decide) rfl ?_
          refine ao_goto (pc := 39) (tgt := 6) X dX11_partsWith_39 (by decide) ?_
          refine ao_sub [1, 2, 3, 4, 5, 0] rfl ?_
          exact ih p1 p2 p3 p4 (p5 + (1 : Int32)) m3
        · refine ao_iinc (pc := 33) (k := 4) (v := p4 + (1 : Int32)) (lv' := [(4, .int (p4 + (1 : Int32))), (0, .ref (eAd E 0)), (1, .int p1), (2, .int p2), (3, .int p3), (5, .int p5)]) X dX11_partsWith_33 rfl (ii_ic ic_1) (by decide) rfl ?_
          refine ao_iinc (pc := 36) (k := 5) (v := p5 + (1 : Int32)) (lv' := [(5, .int (p5 + (1 : Int32))), (4, .int (p4 + (1 : Int32))), (0, .ref (eAd E 0)), (1, .int p1), (2, .int p2), (3, .int p3)]) X dX11_partsWith_36 rfl (ii_ic ic_1) (by decide) rfl ?_
          refine ao_goto (pc := 39) (tgt := 6) X dX11_partsWith_39 (by decide) ?_
          refine ao_sub [2, 3, 4, 5, 1, 0] rfl ?_
          exact ih p1 p2 p3 (p4 + (1 : Int32)) (p5 + (1 : Int32)) m3
def fX11_partsWith_0 (v1 : Int32) (v2 : Int32) (v3 : Int32) (μ : Mem) : Option (Int32 × Mem) :=
  fX11_partsWith_0_b6 FU v1 v2 v3 (0 : Int32) (0 : Int32) μ
set_option maxRecDepth 100000 in
set_option maxHeartbeats 4000000 in
theorem mX11_partsWith_0 {E : En} {l : Launch} (hI : Inj E) (v1 : Int32) (v2 : Int32) (v3 : Int32) (μ : Mem) : MtI E l yX11_partsWith cX11_partsWith 6 (some .int) 3 [.ref (eAd E 0), .int v1, .int v2, .int v3] μ (fX11_partsWith_0 v1 v2 v3 μ) := by
  refine mtI_of (own := RX11) [(0, .ref (eAd E 0)), (1, .int v1), (2, .int v2), (3, .int v3)] hI rfl (by decide) (Nat.le_of_ble_eq_true rfl) (Nat.le_of_ble_eq_true rfl) rfl (fun Z hl0 X hr => ?_)
  unfold fX11_partsWith_0
  refine ao_iconst (pc := 0) X dX11_partsWith_0 ic_0 ?_
  refine ao_istore (pc := 1) (lv' := [(4, .int (0 : Int32)), (0, .ref (eAd E 0)), (1, .int v1), (2, .int v2), (3, .int v3)]) X dX11_partsWith_1 (by decide) rfl ?_
  refine ao_iconst (pc := 3) X dX11_partsWith_3 ic_0 ?_
  refine ao_istore (pc := 4) (lv' := [(5, .int (0 : Int32)), (4, .int (0 : Int32)), (0, .ref (eAd E 0)), (1, .int v1), (2, .int v2), (3, .int v3)]) X dX11_partsWith_4 (by decide) rfl ?_
  refine ao_sub [2, 3, 4, 5, 1, 0] rfl ?_
  exact bX11_partsWith_0_6 hI hl0 X hr FU v1 v2 v3 (0 : Int32) (0 : Int32) μ
def fX11_search_0_b122 (p5 : Int32) (p6 : Int32) (μ : Mem) : Option (Int32 × Mem) :=
  if p5 < 0 then (some (p5, μ))
  else bnd (fX7_tell_3 (Int32.toInt64 p6) μ) fun r13 m14 =>
    some (p5, m14)
set_option maxRecDepth 100000 in
set_option maxHeartbeats 4000000 in
theorem bX11_search_0_122 {E : En} {l : Launch} {Z : Zt} (hI : Inj E) (hl0 : lZ l Z) (X : Cx E Z cX11_search RX11 10 4) (hr : rtOf Z = some .int) (p5 : Int32) (p6 : Int32) (μ : Mem) : AO E Z 10 (QI E Z) 122 [(0, .ref (eAd E 0)), (5, .int p5), (6, .int p6)] [] μ (fX11_search_0_b122 p5 p6 μ) := by
  unfold fX11_search_0_b122
  refine ao_iload (pc := 122) X dX11_search_122 rfl ?_
  refine ao_if_lt (pc := 124) (tgt := 137) X dX11_search_124 (by decide) (fun _ => ?_) (fun _ => ?_)
  · refine ao_iload (pc := 137) X dX11_search_137 rfl ?_
    exact ao_iret (pc := 139) X hr dX11_search_139
  · refine ao_aload_n (pc := 127) X dX11_search_127 rfl ?_
    refine ao_getR (pc := 128) X dX11_search_128 fl_RX11_19 sf_0_1 ?_
    refine ao_iload (pc := 131) X dX11_search_131 rfl ?_
    refine ao_i2l (pc := 133) X dX11_search_133 ?_
    refine ao_callVV (pc := 134) (As := [.long (Int32.toInt64 p6)]) (st := []) X hl0 dX11_search_134 yv_X7_tell so_3 ml_RX11_228 (mX7_tell_3 hI (Int32.toInt64 p6) μ) (Nat.le_of_ble_eq_true rfl) rfl rfl (Nat.le_of_ble_eq_true rfl) (fun r13 m14 => ?_)
    refine ao_iload (pc := 137) X dX11_search_137 rfl ?_
    exact ao_iret (pc := 139) X hr dX11_search_139
def fX11_search_0_b53 : Nat → Int32 → Int32 → Int32 → Int32 → Int32 → Int32 → Mem → Option (Int32 × Mem)
  | 0, _, _, _, _, _, _, _ => none
  | n + 1, p2, p3, p4, p5, p6, p7, μ =>
  if (8 : Int32) ≤ p7 then (fX11_search_0_b122 p5 p6 μ)
  else if p4 ≤ 0 then (fX11_search_0_b122 p5 p6 μ)
    else if ((p3 >>> (p7 &&& 31)) &&& (1 : Int32)) = 0 then (fX11_search_0_b53 n p2 p3 p4 p5 p6 (p7 + (1 : Int32)) μ)
      else bnd (fX11_partsWith_0 p3 ((1 : Int32) <<< (p7 &&& 31)) p2 μ) fun r7 m8 =>
        lt (imax r7 (p4 - r7)) fun x9 =>
        if p6 ≤ x9 then (fX11_search_0_b53 n p2 p3 p4 p5 p6 (p7 + (1 : Int32)) m8)
        else fX11_search_0_b53 n p2 p3 p4 p7 x9 (p7 + (1 : Int32)) m8
set_option maxRecDepth 100000 in
set_option maxHeartbeats 4000000 in
theorem bX11_search_0_53 {E : En} {l : Launch} {Z : Zt} (hI : Inj E) (hl0 : lZ l Z) (X : Cx E Z cX11_search RX11 10 4) (hr : rtOf Z = some .int) : ∀ (n : Nat) (p2 : Int32) (p3 : Int32) (p4 : Int32) (p5 : Int32) (p6 : Int32) (p7 : Int32) (μ : Mem), AO E Z 10 (QI E Z) 53 [(0, .ref (eAd E 0)), (2, .int p2), (3, .int p3), (4, .int p4), (5, .int p5), (6, .int p6), (7, .int p7)] [] μ (fX11_search_0_b53 n p2 p3 p4 p5 p6 p7 μ) := by
  intro n
  induction n with
  | zero =>
    intros
    exact ao_none
  | succ n ih =>
    intro p2 p3 p4 p5 p6 p7 μ
    rw [fX11_search_0_b53]
    refine ao_iload (pc := 53) X dX11_search_53 rfl ?_
    refine ao_bipush (pc := 55) X dX11_search_55 bp_8 ?_
    refine ao_icmp_ge (pc := 57) (tgt := 122) X dX11_search_57 (by decide) (fun _ => ?_) (fun _ => ?_)
    · refine ao_sub [0, 4, 5] rfl ?_
      exact bX11_search_0_122 hI hl0 X hr p5 p6 μ
    · refine ao_iload (pc := 60) X dX11_search_60 rfl ?_
      refine ao_if_le (pc := 62) (tgt := 122) X dX11_search_62 (by decide) (fun _ => ?_) (fun _ => ?_)
      · refine ao_sub [0, 4, 5] rfl ?_
        exact bX11_search_0_122 hI hl0 X hr p5 p6 μ
      · refine ao_iload_n (pc := 65) X dX11_search_65 rfl ?_
        refine ao_iload (pc := 66) X dX11_search_66 rfl ?_
        refine ao_ishr (pc := 68) X dX11_search_68 ?_
        refine ao_iconst (pc := 69) X dX11_search_69 ic_1 ?_
        refine ao_iand (pc := 70) X dX11_search_70 ?_
        refine ao_if_ne (pc := 71) (tgt := 77) X dX11_search_71 (by decide) (fun _ => ?_) (fun _ => ?_)
        · refine ao_aload_n (pc := 77) X dX11_search_77 rfl ?_
          refine ao_iload_n (pc := 78) X dX11_search_78 rfl ?_
          refine ao_iconst (pc := 79) X dX11_search_79 ic_1 ?_
          refine ao_iload (pc := 80) X dX11_search_80 rfl ?_
          refine ao_ishl (pc := 82) X dX11_search_82 ?_
          refine ao_iload_n (pc := 83) X dX11_search_83 rfl ?_
          refine ao_callVI (pc := 84) (As := [.int p3, .int ((1 : Int32) <<< (p7 &&& 31)), .int p2]) (st := []) X hl0 dX11_search_84 yv_X11_partsWith so_0 ml_RX11_375 (mX11_partsWith_0 hI p3 ((1 : Int32) <<< (p7 &&& 31)) p2 μ) (Nat.le_of_ble_eq_true rfl) rfl rfl (Nat.le_of_ble_eq_true rfl) (fun r7 m8 => ?_)
          refine ao_istore (pc := 87) (lv' := [(8, .int r7), (0, .ref (eAd E 0)), (2, .int p2), (3, .int p3), (4, .int p4), (5, .int p5), (6, .int p6), (7, .int p7)]) X dX11_search_87 (by decide) rfl ?_
          refine ao_iload (pc := 89) X dX11_search_89 rfl ?_
          refine ao_iload (pc := 91) X dX11_search_91 rfl ?_
          refine ao_iload (pc := 93) X dX11_search_93 rfl ?_
          refine ao_isub (pc := 95) X dX11_search_95 ?_
          refine ao_max (pc := 96) X dX11_search_96 ml_RX11_378 MaxW_ok (Nat.le_of_ble_eq_true rfl) ?_
          refine ao_ltI (fun x9 => ?_)
          refine ao_istore (pc := 99) (lv' := [(9, .int x9), (8, .int r7), (0, .ref (eAd E 0)), (2, .int p2), (3, .int p3), (4, .int p4), (5, .int p5), (6, .int p6), (7, .int p7)]) X dX11_search_99 (by decide) rfl ?_
          refine ao_iload (pc := 101) X dX11_search_101 rfl ?_
          refine ao_iload (pc := 103) X dX11_search_103 rfl ?_
          refine ao_icmp_ge (pc := 105) (tgt := 116) X dX11_search_105 (by decide) (fun _ => ?_) (fun _ => ?_)
          · refine ao_iinc (pc := 116) (k := 8) (v := p7 + (1 : Int32)) (lv' := [(7, .int (p7 + (1 : Int32))), (9, .int x9), (8, .int r7), (0, .ref (eAd E 0)), (2, .int p2), (3, .int p3), (4, .int p4), (5, .int p5), (6, .int p6)]) X dX11_search_116 rfl (ii_ic ic_1) (by decide) rfl ?_
            refine ao_goto (pc := 119) (tgt := 53) X dX11_search_119 (by decide) ?_
            refine ao_sub [3, 4, 5, 6, 7, 8, 0] rfl ?_
            exact ih p2 p3 p4 p5 p6 (p7 + (1 : Int32)) m8
          · refine ao_iload (pc := 108) X dX11_search_108 rfl ?_
            refine ao_istore (pc := 110) (lv' := [(5, .int p7), (9, .int x9), (8, .int r7), (0, .ref (eAd E 0)), (2, .int p2), (3, .int p3), (4, .int p4), (6, .int p6), (7, .int p7)]) X dX11_search_110 (by decide) rfl ?_
            refine ao_iload (pc := 112) X dX11_search_112 rfl ?_
            refine ao_istore (pc := 114) (lv' := [(6, .int x9), (5, .int p7), (9, .int x9), (8, .int r7), (0, .ref (eAd E 0)), (2, .int p2), (3, .int p3), (4, .int p4), (7, .int p7)]) X dX11_search_114 (by decide) rfl ?_
            refine ao_iinc (pc := 116) (k := 8) (v := p7 + (1 : Int32)) (lv' := [(7, .int (p7 + (1 : Int32))), (6, .int x9), (5, .int p7), (9, .int x9), (8, .int r7), (0, .ref (eAd E 0)), (2, .int p2), (3, .int p3), (4, .int p4)]) X dX11_search_116 rfl (ii_ic ic_1) (by decide) rfl ?_
            refine ao_goto (pc := 119) (tgt := 53) X dX11_search_119 (by decide) ?_
            refine ao_sub [5, 6, 7, 8, 2, 1, 0] rfl ?_
            exact ih p2 p3 p4 p7 x9 (p7 + (1 : Int32)) m8
        · refine ao_goto (pc := 74) (tgt := 116) X dX11_search_74 (by decide) ?_
          refine ao_iinc (pc := 116) (k := 6) (v := p7 + (1 : Int32)) (lv' := [(7, .int (p7 + (1 : Int32))), (0, .ref (eAd E 0)), (2, .int p2), (3, .int p3), (4, .int p4), (5, .int p5), (6, .int p6)]) X dX11_search_116 rfl (ii_ic ic_1) (by decide) rfl ?_
          refine ao_goto (pc := 119) (tgt := 53) X dX11_search_119 (by decide) ?_
          refine ao_sub [1, 2, 3, 4, 5, 6, 0] rfl ?_
          exact ih p2 p3 p4 p5 p6 (p7 + (1 : Int32)) μ
def fX11_search_0 (v1 : Int32) (v2 : Int32) (μ : Mem) : Option (Int32 × Mem) :=
  bnd (fX11_isThere_0 v1 μ) fun r1 m2 =>
  if r1 = 0 then (some ((-1 : Int32), m2))
  else if v2 < 0 then (some ((-1 : Int32), m2))
    else if v2 ≤ (999 : Int32) then (gd (inb v1 6) (lt (gI m2 10 (ix v1)) fun x3 =>
        bnd (fX11_partsWith_0 x3 (0 : Int32) v2 m2) fun r4 m5 =>
        lt (r4 + (1 : Int32)) fun x6 =>
        fX11_search_0_b53 FU v2 x3 r4 (-2 : Int32) x6 (0 : Int32) m5))
      else some ((-1 : Int32), m2)
set_option maxRecDepth 100000 in
set_option maxHeartbeats 4000000 in
theorem mX11_search_0 {E : En} {l : Launch} (hI : Inj E) (v1 : Int32) (v2 : Int32) (μ : Mem) : MtI E l yX11_search cX11_search 10 (some .int) 4 [.ref (eAd E 0), .int v1, .int v2] μ (fX11_search_0 v1 v2 μ) := by
  refine mtI_of (own := RX11) [(0, .ref (eAd E 0)), (1, .int v1), (2, .int v2)] hI rfl (by decide) (Nat.le_of_ble_eq_true rfl) (Nat.le_of_ble_eq_true rfl) rfl (fun Z hl0 X hr => ?_)
  unfold fX11_search_0
  refine ao_aload_n (pc := 0) X dX11_search_0 rfl ?_
  refine ao_iload_n (pc := 1) X dX11_search_1 rfl ?_
  refine ao_callVI (pc := 2) (As := [.int v1]) (st := []) X hl0 dX11_search_2 yv_X11_isThere so_0 ml_RX11_147 (mX11_isThere_0 hI v1 μ) (Nat.le_of_ble_eq_true rfl) rfl rfl (Nat.le_of_ble_eq_true rfl) (fun r1 m2 => ?_)
  refine ao_if_eq (pc := 5) (tgt := 19) X dX11_search_5 (by decide) (fun _ => ?_) (fun _ => ?_)
  · refine ao_iconst (pc := 19) X dX11_search_19 ic_m1 ?_
    exact ao_iret (pc := 20) X hr dX11_search_20
  · refine ao_iload_n (pc := 8) X dX11_search_8 rfl ?_
    refine ao_if_lt (pc := 9) (tgt := 19) X dX11_search_9 (by decide) (fun _ => ?_) (fun _ => ?_)
    · refine ao_iconst (pc := 19) X dX11_search_19 ic_m1 ?_
      exact ao_iret (pc := 20) X hr dX11_search_20
    · refine ao_iload_n (pc := 12) X dX11_search_12 rfl ?_
      refine ao_sipush (pc := 13) X dX11_search_13 sp_999 ?_
      refine ao_icmp_le (pc := 16) (tgt := 21) X dX11_search_16 (by decide) (fun _ => ?_) (fun _ => ?_)
      · refine ao_aload_n (pc := 21) X dX11_search_21 rfl ?_
        refine ao_getR (pc := 22) X dX11_search_22 fl_RX11_26 sf_0_2 ?_
        refine ao_getR (pc := 25) X dX11_search_25 fl_RX11_169 sf_5_4 ?_
        refine ao_iload_n (pc := 28) X dX11_search_28 rfl ?_
        refine ao_iald (pc := 29) X dX11_search_29 sa_10 ?_
        refine ao_ltI (fun x3 => ?_)
        refine ao_istore_n (pc := 30) (lv' := [(3, .int x3), (0, .ref (eAd E 0)), (1, .int v1), (2, .int v2)]) X dX11_search_30 rfl (by decide) rfl ?_
        refine ao_aload_n (pc := 31) X dX11_search_31 rfl ?_
        refine ao_iload_n (pc := 32) X dX11_search_32 rfl ?_
        refine ao_iconst (pc := 33) X dX11_search_33 ic_0 ?_
        refine ao_iload_n (pc := 34) X dX11_search_34 rfl ?_
        refine ao_callVI (pc := 35) (As := [.int x3, .int (0 : Int32), .int v2]) (st := []) X hl0 dX11_search_35 yv_X11_partsWith so_0 ml_RX11_375 (mX11_partsWith_0 hI x3 (0 : Int32) v2 m2) (Nat.le_of_ble_eq_true rfl) rfl rfl (Nat.le_of_ble_eq_true rfl) (fun r4 m5 => ?_)
        refine ao_istore (pc := 38) (lv' := [(4, .int r4), (3, .int x3), (0, .ref (eAd E 0)), (1, .int v1), (2, .int v2)]) X dX11_search_38 (by decide) rfl ?_
        refine ao_bipush (pc := 40) X dX11_search_40 bp_m2 ?_
        refine ao_istore (pc := 42) (lv' := [(5, .int (-2 : Int32)), (4, .int r4), (3, .int x3), (0, .ref (eAd E 0)), (1, .int v1), (2, .int v2)]) X dX11_search_42 (by decide) rfl ?_
        refine ao_iload (pc := 44) X dX11_search_44 rfl ?_
        refine ao_iconst (pc := 46) X dX11_search_46 ic_1 ?_
        refine ao_iadd (pc := 47) X dX11_search_47 ?_
        refine ao_ltI (fun x6 => ?_)
        refine ao_istore (pc := 48) (lv' := [(6, .int x6), (5, .int (-2 : Int32)), (4, .int r4), (3, .int x3), (0, .ref (eAd E 0)), (1, .int v1), (2, .int v2)]) X dX11_search_48 (by decide) rfl ?_
        refine ao_iconst (pc := 50) X dX11_search_50 ic_0 ?_
        refine ao_istore (pc := 51) (lv' := [(7, .int (0 : Int32)), (6, .int x6), (5, .int (-2 : Int32)), (4, .int r4), (3, .int x3), (0, .ref (eAd E 0)), (1, .int v1), (2, .int v2)]) X dX11_search_51 (by decide) rfl ?_
        refine ao_sub [5, 7, 4, 3, 2, 1, 0] rfl ?_
        exact bX11_search_0_53 hI hl0 X hr FU v2 x3 r4 (-2 : Int32) x6 (0 : Int32) m5
      · refine ao_iconst (pc := 19) X dX11_search_19 ic_m1 ?_
        exact ao_iret (pc := 20) X hr dX11_search_20
