def fX11_lacks_0_b36 : Nat → Int32 → Int32 → Int32 → Int32 → Mem → Option (Int32 × Mem)
  | 0, _, _, _, _, _ => none
  | n + 1, p2, p3, p4, p5, μ =>
  if (gI μ 5 5) ≤ p5 then (bnd (fX7_tell_3 (Int32.toInt64 p4) μ) fun r5 m6 =>
    some (p3, m6))
  else gd (inb p5 6) (if (gI μ 34 (ix p5)) = (2 : Int32) then (fX11_lacks_0_b36 n p2 p3 p4 (p5 + (1 : Int32)) μ)
    else bnd (fX4_lackIn_33 p5 p2 μ) fun r8 m9 =>
      if r8 ≤ p3 then (fX11_lacks_0_b36 n p2 p3 p4 (p5 + (1 : Int32)) m9)
      else fX11_lacks_0_b36 n p2 p3 (p4 + (1 : Int32)) (p5 + (1 : Int32)) m9)
set_option maxRecDepth 100000 in
set_option maxHeartbeats 4000000 in
theorem bX11_lacks_0_36 {E : En} {l : Launch} {Z : Zt} (hI : Inj E) (hl0 : lZ l Z) (X : Cx E Z cX11_lacks RX11 6 4) (hr : rtOf Z = some .int) : ∀ (n : Nat) (p2 : Int32) (p3 : Int32) (p4 : Int32) (p5 : Int32) (μ : Mem), AO E Z 6 (QI E Z) 36 [(0, .ref (eAd E 0)), (2, .int p2), (3, .int p3), (4, .int p4), (5, .int p5)] [] μ (fX11_lacks_0_b36 n p2 p3 p4 p5 μ) := by
  intro n
  induction n with
  | zero =>
    intros
    exact ao_none
  | succ n ih =>
    intro p2 p3 p4 p5 μ
    rw [fX11_lacks_0_b36]
    refine ao_iload (pc := 36) X dX11_lacks_36 rfl ?_
    refine ao_aload_n (pc := 38) X dX11_lacks_38 rfl ?_
    refine ao_getR (pc := 39) X dX11_lacks_39 fl_RX11_26 sf_0_2 ?_
    refine ao_getI (pc := 42) X dX11_lacks_42 fl_RX11_119 sf_5_5 ?_
    refine ao_icmp_ge (pc := 45) (tgt := 85) X dX11_lacks_45 (by decide) (fun _ => ?_) (fun _ => ?_)
    · refine ao_aload_n (pc := 85) X dX11_lacks_85 rfl ?_
      refine ao_getR (pc := 86) X dX11_lacks_86 fl_RX11_19 sf_0_1 ?_
      refine ao_iload (pc := 89) X dX11_lacks_89 rfl ?_
      refine ao_i2l (pc := 91) X dX11_lacks_91 ?_
      refine ao_callVV (pc := 92) (As := [.long (Int32.toInt64 p4)]) (st := []) X hl0 dX11_lacks_92 yv_X7_tell so_3 ml_RX11_228 (mX7_tell_3 hI (Int32.toInt64 p4) μ) (Nat.le_of_ble_eq_true rfl) rfl rfl (Nat.le_of_ble_eq_true rfl) (fun r5 m6 => ?_)
      refine ao_iload_n (pc := 95) X dX11_lacks_95 rfl ?_
      exact ao_iret (pc := 96) X hr dX11_lacks_96
    · refine ao_aload_n (pc := 48) X dX11_lacks_48 rfl ?_
      refine ao_getR (pc := 49) X dX11_lacks_49 fl_RX11_65 sf_0_7 ?_
      refine ao_getR (pc := 52) X dX11_lacks_52 fl_RX11_172 sf_33_0 ?_
      refine ao_iload (pc := 55) X dX11_lacks_55 rfl ?_
      refine ao_iald (pc := 57) X dX11_lacks_57 sa_34 ?_
      refine ao_iconst (pc := 58) X dX11_lacks_58 ic_2 ?_
      refine ao_icmp_eq (pc := 59) (tgt := 79) X dX11_lacks_59 (by decide) (fun _ => ?_) (fun _ => ?_)
      · refine ao_iinc (pc := 79) (k := 4) (v := p5 + (1 : Int32)) (lv' := [(5, .int (p5 + (1 : Int32))), (0, .ref (eAd E 0)), (2, .int p2), (3, .int p3), (4, .int p4)]) X dX11_lacks_79 rfl (ii_ic ic_1) (by decide) rfl ?_
        refine ao_goto (pc := 82) (tgt := 36) X dX11_lacks_82 (by decide) ?_
        refine ao_sub [1, 2, 3, 4, 0] rfl ?_
        exact ih p2 p3 p4 (p5 + (1 : Int32)) μ
      · refine ao_aload_n (pc := 62) X dX11_lacks_62 rfl ?_
        refine ao_getR (pc := 63) X dX11_lacks_63 fl_RX11_65 sf_0_7 ?_
        refine ao_iload (pc := 66) X dX11_lacks_66 rfl ?_
        refine ao_iload_n (pc := 68) X dX11_lacks_68 rfl ?_
        refine ao_callVI (pc := 69) (As := [.int p5, .int p2]) (st := []) X hl0 dX11_lacks_69 yv_X4_lackIn so_33 ml_RX11_312 (mX4_lackIn_33 hI p5 p2 μ) (Nat.le_of_ble_eq_true rfl) rfl rfl (Nat.le_of_ble_eq_true rfl) (fun r8 m9 => ?_)
        refine ao_iload_n (pc := 72) X dX11_lacks_72 rfl ?_
        refine ao_icmp_le (pc := 73) (tgt := 79) X dX11_lacks_73 (by decide) (fun _ => ?_) (fun _ => ?_)
        · refine ao_iinc (pc := 79) (k := 4) (v := p5 + (1 : Int32)) (lv' := [(5, .int (p5 + (1 : Int32))), (0, .ref (eAd E 0)), (2, .int p2), (3, .int p3), (4, .int p4)]) X dX11_lacks_79 rfl (ii_ic ic_1) (by decide) rfl ?_
          refine ao_goto (pc := 82) (tgt := 36) X dX11_lacks_82 (by decide) ?_
          refine ao_sub [1, 2, 3, 4, 0] rfl ?_
          exact ih p2 p3 p4 (p5 + (1 : Int32)) m9
        · refine ao_iinc (pc := 76) (k := 3) (v := p4 + (1 : Int32)) (lv' := [(4, .int (p4 + (1 : Int32))), (0, .ref (eAd E 0)), (2, .int p2), (3, .int p3), (5, .int p5)]) X dX11_lacks_76 rfl (ii_ic ic_1) (by decide) rfl ?_
          refine ao_iinc (pc := 79) (k := 4) (v := p5 + (1 : Int32)) (lv' := [(5, .int (p5 + (1 : Int32))), (4, .int (p4 + (1 : Int32))), (0, .ref (eAd E 0)), (2, .int p2), (3, .int p3)]) X dX11_lacks_79 rfl (ii_ic ic_1) (by decide) rfl ?_
          refine ao_goto (pc := 82) (tgt := 36) X dX11_lacks_82 (by decide) ?_
          refine ao_sub [2, 3, 4, 1, 0] rfl ?_
          exact ih p2 p3 (p4 + (1 : Int32)) (p5 + (1 : Int32)) m9
def fX11_lacks_0 (v1 : Int32) (v2 : Int32) (μ : Mem) : Option (Int32 × Mem) :=
  bnd (fX11_isThere_0 v1 μ) fun r1 m2 =>
  if r1 = 0 then (some ((-1 : Int32), m2))
  else if v2 < 0 then (some ((-1 : Int32), m2))
    else if v2 ≤ (99 : Int32) then (bnd (fX4_lackIn_33 v1 v2 m2) fun r3 m4 =>
        fX11_lacks_0_b36 FU v2 r3 (0 : Int32) (0 : Int32) m4)
      else some ((-1 : Int32), m2)
set_option maxRecDepth 100000 in
set_option maxHeartbeats 4000000 in
theorem mX11_lacks_0 {E : En} {l : Launch} (hI : Inj E) (v1 : Int32) (v2 : Int32) (μ : Mem) : MtI E l yX11_lacks cX11_lacks 6 (some .int) 4 [.ref (eAd E 0), .int v1, .int v2] μ (fX11_lacks_0 v1 v2 μ) := by
  refine mtI_of (own := RX11) [(0, .ref (eAd E 0)), (1, .int v1), (2, .int v2)] hI rfl (by decide) (Nat.le_of_ble_eq_true rfl) (Nat.le_of_ble_eq_true rfl) rfl (fun Z hl0 X hr => ?_)
  unfold fX11_lacks_0
  refine ao_aload_n (pc := 0) X dX11_lacks_0 rfl ?_
  refine ao_iload_n (pc := 1) X dX11_lacks_1 rfl ?_
  refine ao_callVI (pc := 2) (As := [.int v1]) (st := []) X hl0 dX11_lacks_2 yv_X11_isThere so_0 ml_RX11_147 (mX11_isThere_0 hI v1 μ) (Nat.le_of_ble_eq_true rfl) rfl rfl (Nat.le_of_ble_eq_true rfl) (fun r1 m2 => ?_)
  refine ao_if_eq (pc := 5) (tgt := 18) X dX11_lacks_5 (by decide) (fun _ => ?_) (fun _ => ?_)
  · refine ao_iconst (pc := 18) X dX11_lacks_18 ic_m1 ?_
    exact ao_iret (pc := 19) X hr dX11_lacks_19
  · refine ao_iload_n (pc := 8) X dX11_lacks_8 rfl ?_
    refine ao_if_lt (pc := 9) (tgt := 18) X dX11_lacks_9 (by decide) (fun _ => ?_) (fun _ => ?_)
    · refine ao_iconst (pc := 18) X dX11_lacks_18 ic_m1 ?_
      exact ao_iret (pc := 19) X hr dX11_lacks_19
    · refine ao_iload_n (pc := 12) X dX11_lacks_12 rfl ?_
      refine ao_bipush (pc := 13) X dX11_lacks_13 bp_99 ?_
      refine ao_icmp_le (pc := 15) (tgt := 20) X dX11_lacks_15 (by decide) (fun _ => ?_) (fun _ => ?_)
      · refine ao_aload_n (pc := 20) X dX11_lacks_20 rfl ?_
        refine ao_getR (pc := 21) X dX11_lacks_21 fl_RX11_65 sf_0_7 ?_
        refine ao_iload_n (pc := 24) X dX11_lacks_24 rfl ?_
        refine ao_iload_n (pc := 25) X dX11_lacks_25 rfl ?_
        refine ao_callVI (pc := 26) (As := [.int v1, .int v2]) (st := []) X hl0 dX11_lacks_26 yv_X4_lackIn so_33 ml_RX11_312 (mX4_lackIn_33 hI v1 v2 m2) (Nat.le_of_ble_eq_true rfl) rfl rfl (Nat.le_of_ble_eq_true rfl) (fun r3 m4 => ?_)
        refine ao_istore_n (pc := 29) (lv' := [(3, .int r3), (0, .ref (eAd E 0)), (1, .int v1), (2, .int v2)]) X dX11_lacks_29 rfl (by decide) rfl ?_
        refine ao_iconst (pc := 30) X dX11_lacks_30 ic_0 ?_
        refine ao_istore (pc := 31) (lv' := [(4, .int (0 : Int32)), (3, .int r3), (0, .ref (eAd E 0)), (1, .int v1), (2, .int v2)]) X dX11_lacks_31 (by decide) rfl ?_
        refine ao_iconst (pc := 33) X dX11_lacks_33 ic_0 ?_
        refine ao_istore (pc := 34) (lv' := [(5, .int (0 : Int32)), (4, .int (0 : Int32)), (3, .int r3), (0, .ref (eAd E 0)), (1, .int v1), (2, .int v2)]) X dX11_lacks_34 (by decide) rfl ?_
        refine ao_sub [3, 5, 2, 1, 0] rfl ?_
        exact bX11_lacks_0_36 hI hl0 X hr FU v2 r3 (0 : Int32) (0 : Int32) m4
      · refine ao_iconst (pc := 18) X dX11_lacks_18 ic_m1 ?_
        exact ao_iret (pc := 19) X hr dX11_lacks_19
def fX12_lackOf_122 (v1 : Int32) (v2 : Int32) (μ : Mem) : Option (Int32 × Mem) :=
  bnd (fX12_proofIn_122_123 v1 v2 μ) fun r1 m2 =>
  some ((imax (0 : Int32) ((100 : Int32) - r1)), m2)
set_option maxRecDepth 100000 in
set_option maxHeartbeats 4000000 in
theorem mX12_lackOf_122 {E : En} {l : Launch} (hI : Inj E) (v1 : Int32) (v2 : Int32) (μ : Mem) : MtI E l yX12_lackOf cX12_lackOf 3 (some .int) 2 [.ref (eAd E 122), .int v1, .int v2] μ (fX12_lackOf_122 v1 v2 μ) := by
  refine mtI_of (own := RX12) [(0, .ref (eAd E 122)), (1, .int v1), (2, .int v2)] hI rfl (by decide) (Nat.le_of_ble_eq_true rfl) (Nat.le_of_ble_eq_true rfl) rfl (fun Z hl0 X hr => ?_)
  unfold fX12_lackOf_122
  refine ao_iconst (pc := 0) X dX12_lackOf_0 ic_0 ?_
  refine ao_bipush (pc := 1) X dX12_lackOf_1 bp_100 ?_
  refine ao_aload_n (pc := 3) X dX12_lackOf_3 rfl ?_
  refine ao_aload_n (pc := 4) X dX12_lackOf_4 rfl ?_
  refine ao_getR (pc := 5) X dX12_lackOf_5 fl_RX12_9 sf_122_0 ?_
  refine ao_iload_n (pc := 8) X dX12_lackOf_8 rfl ?_
  refine ao_iload_n (pc := 9) X dX12_lackOf_9 rfl ?_
  refine ao_callVI (pc := 10) (As := [.ref (eAd E 123), .int v1, .int v2]) (st := [.int (100 : Int32), .int (0 : Int32)]) X hl0 dX12_lackOf_10 yv_X12_proofIn so_122 ml_RX12_235 (mX12_proofIn_122_123 hI v1 v2 μ) (Nat.le_of_ble_eq_true rfl) rfl rfl (Nat.le_of_ble_eq_true rfl) (fun r1 m2 => ?_)
  refine ao_isub (pc := 13) X dX12_lackOf_13 ?_
  refine ao_max (pc := 14) X dX12_lackOf_14 ml_RX12_217 MaxW_ok (Nat.le_of_ble_eq_true rfl) ?_
  exact ao_iret (pc := 17) X hr dX12_lackOf_17
def fX12_lacks_122_b30 : Nat → Int32 → Int32 → Int32 → Int32 → Mem → Option (Int32 × Mem)
  | 0, _, _, _, _, _ => none
  | n + 1, p1, p2, p3, p4, μ =>
  if (gI μ 122 1) ≤ p4 then (lt (sI μ 122 16 (0 : Int32)) fun m6 =>
    bnd (fX12_tell_122 (Int32.toInt64 p3) m6) fun r7 m8 =>
    bnd (fX12_lackOf_122 p1 p2 m8) fun r9 m10 =>
    some (r9, m10))
  else if p4 = p1 then (lt (p3 + (0 : Int32)) fun x11 =>
      fX12_lacks_122_b30 n p1 p2 x11 (p4 + (1 : Int32)) μ)
    else gd (inb p4 27) (if (gI μ 123 (ix p4)) = (2 : Int32) then (lt (p3 + (0 : Int32)) fun x13 =>
        fX12_lacks_122_b30 n p1 p2 x13 (p4 + (1 : Int32)) μ)
      else bnd (fX12_lackOf_122 p4 p2 μ) fun r15 m16 =>
        bnd (fX12_lackOf_122 p1 p2 m16) fun r17 m18 =>
        if r15 ≤ r17 then (lt (p3 + (0 : Int32)) fun x19 =>
          fX12_lacks_122_b30 n p1 p2 x19 (p4 + (1 : Int32)) m18)
        else lt (p3 + (1 : Int32)) fun x21 =>
          fX12_lacks_122_b30 n p1 p2 x21 (p4 + (1 : Int32)) m18)
set_option maxRecDepth 100000 in
set_option maxHeartbeats 4000000 in
theorem bX12_lacks_122_30 {E : En} {l : Launch} {Z : Zt} (hI : Inj E) (hl0 : lZ l Z) (X : Cx E Z cX12_lacks RX12 5 3) (hr : rtOf Z = some .int) : ∀ (n : Nat) (p1 : Int32) (p2 : Int32) (p3 : Int32) (p4 : Int32) (μ : Mem), AO E Z 5 (QI E Z) 30 [(0, .ref (eAd E 122)), (1, .int p1), (2, .int p2), (3, .int p3), (4, .int p4)] [] μ (fX12_lacks_122_b30 n p1 p2 p3 p4 μ) := by
  intro n
  induction n with
  | zero =>
    intros
    exact ao_none
  | succ n ih =>
    intro p1 p2 p3 p4 μ
    rw [fX12_lacks_122_b30]
    refine ao_iload (pc := 30) X dX12_lacks_30 rfl ?_
    refine ao_aload_n (pc := 32) X dX12_lacks_32 rfl ?_
    refine ao_getI (pc := 33) X dX12_lacks_33 fl_RX12_101 sf_122_1 ?_
    refine ao_icmp_ge (pc := 36) (tgt := 86) X dX12_lacks_36 (by decide) (fun _ => ?_) (fun _ => ?_)
    · refine ao_aload_n (pc := 86) X dX12_lacks_86 rfl ?_
      refine ao_iconst (pc := 87) X dX12_lacks_87 ic_0 ?_
      refine ao_putI (pc := 88) X dX12_lacks_88 fp_RX12_98 sf_122_16 ?_
      refine ao_lt (fun m6 => ?_)
      refine ao_aload_n (pc := 91) X dX12_lacks_91 rfl ?_
      refine ao_iload_n (pc := 92) X dX12_lacks_92 rfl ?_
      refine ao_i2l (pc := 93) X dX12_lacks_93 ?_
      refine ao_callVV (pc := 94) (As := [.long (Int32.toInt64 p3)]) (st := []) X hl0 dX12_lacks_94 yv_X12_tell so_122 ml_RX12_267 (mX12_tell_122 hI (Int32.toInt64 p3) m6) (Nat.le_of_ble_eq_true rfl) rfl rfl (Nat.le_of_ble_eq_true rfl) (fun r7 m8 => ?_)
      refine ao_aload_n (pc := 97) X dX12_lacks_97 rfl ?_
      refine ao_iload_n (pc := 98) X dX12_lacks_98 rfl ?_
      refine ao_iload_n (pc := 99) X dX12_lacks_99 rfl ?_
      refine ao_callVI (pc := 100) (As := [.int p1, .int p2]) (st := []) X hl0 dX12_lacks_100 yv_X12_lackOf so_122 ml_RX12_310 (mX12_lackOf_122 hI p1 p2 m8) (Nat.le_of_ble_eq_true rfl) rfl rfl (Nat.le_of_ble_eq_true rfl) (fun r9 m10 => ?_)
      exact ao_iret (pc := 103) X hr dX12_lacks_103
    · refine ao_iload_n (pc := 39) X dX12_lacks_39 rfl ?_
      refine ao_iload (pc := 40) X dX12_lacks_40 rfl ?_
      refine ao_iload_n (pc := 42) X dX12_lacks_42 rfl ?_
      refine ao_icmp_eq (pc := 43) (tgt := 77) X dX12_lacks_43 (by decide) (fun _ => ?_) (fun _ => ?_)
      · refine ao_iconst (pc := 77) X dX12_lacks_77 ic_0 ?_
        refine ao_iadd (pc := 78) X dX12_lacks_78 ?_
        refine ao_ltI (fun x11 => ?_)
        refine ao_istore_n (pc := 79) (lv' := [(3, .int x11), (0, .ref (eAd E 122)), (1, .int p1), (2, .int p2), (4, .int p4)]) X dX12_lacks_79 rfl (by decide) rfl ?_
        refine ao_iinc (pc := 80) (k := 4) (v := p4 + (1 : Int32)) (lv' := [(4, .int (p4 + (1 : Int32))), (3, .int x11), (0, .ref (eAd E 122)), (1, .int p1), (2, .int p2)]) X dX12_lacks_80 rfl (ii_ic ic_1) (by decide) rfl ?_
        refine ao_goto (pc := 83) (tgt := 30) X dX12_lacks_83 (by decide) ?_
        refine ao_sub [2, 3, 4, 1, 0] rfl ?_
        exact ih p1 p2 x11 (p4 + (1 : Int32)) μ
      · refine ao_aload_n (pc := 46) X dX12_lacks_46 rfl ?_
        refine ao_getR (pc := 47) X dX12_lacks_47 fl_RX12_9 sf_122_0 ?_
        refine ao_iload (pc := 50) X dX12_lacks_50 rfl ?_
        refine ao_iald (pc := 52) X dX12_lacks_52 sa_123 ?_
        refine ao_iconst (pc := 53) X dX12_lacks_53 ic_2 ?_
        refine ao_icmp_eq (pc := 54) (tgt := 77) X dX12_lacks_54 (by decide) (fun _ => ?_) (fun _ => ?_)
        · refine ao_iconst (pc := 77) X dX12_lacks_77 ic_0 ?_
          refine ao_iadd (pc := 78) X dX12_lacks_78 ?_
          refine ao_ltI (fun x13 => ?_)
          refine ao_istore_n (pc := 79) (lv' := [(3, .int x13), (0, .ref (eAd E 122)), (1, .int p1), (2, .int p2), (4, .int p4)]) X dX12_lacks_79 rfl (by decide) rfl ?_
          refine ao_iinc (pc := 80) (k := 4) (v := p4 + (1 : Int32)) (lv' := [(4, .int (p4 + (1 : Int32))), (3, .int x13), (0, .ref (eAd E 122)), (1, .int p1), (2, .int p2)]) X dX12_lacks_80 rfl (ii_ic ic_1) (by decide) rfl ?_
          refine ao_goto (pc := 83) (tgt := 30) X dX12_lacks_83 (by decide) ?_
          refine ao_sub [2, 3, 4, 1, 0] rfl ?_
          exact ih p1 p2 x13 (p4 + (1 : Int32)) μ
        · refine ao_aload_n (pc := 57) X dX12_lacks_57 rfl ?_
          refine ao_iload (pc := 58) X dX12_lacks_58 rfl ?_
          refine ao_iload_n (pc := 60) X dX12_lacks_60 rfl ?_
          refine ao_callVI (pc := 61) (As := [.int p4, .int p2]) (st := [.int p3]) X hl0 dX12_lacks_61 yv_X12_lackOf so_122 ml_RX12_310 (mX12_lackOf_122 hI p4 p2 μ) (Nat.le_of_ble_eq_true rfl) rfl rfl (Nat.le_of_ble_eq_true rfl) (fun r15 m16 => ?_)
          refine ao_aload_n (pc := 64) X dX12_lacks_64 rfl ?_
          refine ao_iload_n (pc := 65) X dX12_lacks_65 rfl ?_
          refine ao_iload_n (pc := 66) X dX12_lacks_66 rfl ?_
          refine ao_callVI (pc := 67) (As := [.int p1, .int p2]) (st := [.int r15, .int p3]) X hl0 dX12_lacks_67 yv_X12_lackOf so_122 ml_RX12_310 (mX12_lackOf_122 hI p1 p2 m16) (Nat.le_of_ble_eq_true rfl) rfl rfl (Nat.le_of_ble_eq_true rfl) (fun r17 m18 => ?_)
          refine ao_icmp_le (pc := 70) (tgt := 77) X dX12_lacks_70 (by decide) (fun _ => ?_) (fun _ => ?_)
          · refine ao_iconst (pc := 77) X dX12_lacks_77 ic_0 ?_
            refine ao_iadd (pc := 78) X dX12_lacks_78 ?_
            refine ao_ltI (fun x19 => ?_)
            refine ao_istore_n (pc := 79) (lv' := [(3, .int x19), (0, .ref (eAd E 122)), (1, .int p1), (2, .int p2), (4, .int p4)]) X dX12_lacks_79 rfl (by decide) rfl ?_
            refine ao_iinc (pc := 80) (k := 4) (v := p4 + (1 : Int32)) (lv' := [(4, .int (p4 + (1 : Int32))), (3, .int x19), (0, .ref (eAd E 122)), (1, .int p1), (2, .int p2)]) X dX12_lacks_80 rfl (ii_ic ic_1) (by decide) rfl ?_
            refine ao_goto (pc := 83) (tgt := 30) X dX12_lacks_83 (by decide) ?_
            refine ao_sub [2, 3, 4, 1, 0] rfl ?_
            exact ih p1 p2 x19 (p4 + (1 : Int32)) m18
          · refine ao_iconst (pc := 73) X dX12_lacks_73 ic_1 ?_
            refine ao_goto (pc := 74) (tgt := 78) X dX12_lacks_74 (by decide) ?_
            refine ao_iadd (pc := 78) X dX12_lacks_78 ?_
            refine ao_ltI (fun x21 => ?_)
            refine ao_istore_n (pc := 79) (lv' := [(3, .int x21), (0, .ref (eAd E 122)), (1, .int p1), (2, .int p2), (4, .int p4)]) X dX12_lacks_79 rfl (by decide) rfl ?_
            refine ao_iinc (pc := 80) (k := 4) (v := p4 + (1 : Int32)) (lv' := [(4, .int (p4 + (1 : Int32))), (3, .int x21), (0, .ref (eAd E 122)), (1, .int p1), (2, .int p2)]) X dX12_lacks_80 rfl (ii_ic ic_1) (by decide) rfl ?_
            refine ao_goto (pc := 83) (tgt := 30) X dX12_lacks_83 (by decide) ?_
            refine ao_sub [2, 3, 4, 1, 0] rfl ?_
            exact ih p1 p2 x21 (p4 + (1 : Int32)) m18
def fX12_lacks_122 (v1 : Int32) (v2 : Int32) (μ : Mem) : Option (Int32 × Mem) :=
  lt (sI μ 122 17 (0 : Int32)) fun m1 =>
  bnd (fX12_isMan_122 v1 m1) fun r2 m3 =>
  if r2 = 0 then (some ((-1 : Int32), m3))
  else bnd (fX12_in v2 (0 : Int32) (99 : Int32) m3) fun r4 m5 =>
    if r4 = 0 then (some ((-1 : Int32), m5))
    else fX12_lacks_122_b30 FU v1 v2 (0 : Int32) (0 : Int32) m5
set_option maxRecDepth 100000 in
set_option maxHeartbeats 4000000 in
theorem mX12_lacks_122 {E : En} {l : Launch} (hI : Inj E) (v1 : Int32) (v2 : Int32) (μ : Mem) : MtI E l yX12_lacks cX12_lacks 5 (some .int) 3 [.ref (eAd E 122), .int v1, .int v2] μ (fX12_lacks_122 v1 v2 μ) := by
  refine mtI_of (own := RX12) [(0, .ref (eAd E 122)), (1, .int v1), (2, .int v2)] hI rfl (by decide) (Nat.le_of_ble_eq_true rfl) (Nat.le_of_ble_eq_true rfl) rfl (fun Z hl0 X hr => ?_)
  unfold fX12_lacks_122
  refine ao_aload_n (pc := 0) X dX12_lacks_0 rfl ?_
  refine ao_iconst (pc := 1) X dX12_lacks_1 ic_0 ?_
  refine ao_putI (pc := 2) X dX12_lacks_2 fp_RX12_95 sf_122_17 ?_
  refine ao_lt (fun m1 => ?_)
  refine ao_aload_n (pc := 5) X dX12_lacks_5 rfl ?_
  refine ao_iload_n (pc := 6) X dX12_lacks_6 rfl ?_
  refine ao_callVI (pc := 7) (As := [.int v1]) (st := []) X hl0 dX12_lacks_7 yv_X12_isMan so_122 ml_RX12_224 (mX12_isMan_122 hI v1 m1) (Nat.le_of_ble_eq_true rfl) rfl rfl (Nat.le_of_ble_eq_true rfl) (fun r2 m3 => ?_)
  refine ao_if_eq (pc := 10) (tgt := 23) X dX12_lacks_10 (by decide) (fun _ => ?_) (fun _ => ?_)
  · refine ao_iconst (pc := 23) X dX12_lacks_23 ic_m1 ?_
    exact ao_iret (pc := 24) X hr dX12_lacks_24
  · refine ao_iload_n (pc := 13) X dX12_lacks_13 rfl ?_
    refine ao_iconst (pc := 14) X dX12_lacks_14 ic_0 ?_
    refine ao_bipush (pc := 15) X dX12_lacks_15 bp_99 ?_
    refine ao_callSI (pc := 17) (As := [.int v2, .int (0 : Int32), .int (99 : Int32)]) (st := []) X hl0 dX12_lacks_17 yv_X12_in ml_RX12_104 (mX12_in hI v2 (0 : Int32) (99 : Int32) m3) (Nat.le_of_ble_eq_true rfl) rfl rfl (Nat.le_of_ble_eq_true rfl) (fun r4 m5 => ?_)
    refine ao_if_ne (pc := 20) (tgt := 25) X dX12_lacks_20 (by decide) (fun _ => ?_) (fun _ => ?_)
    · refine ao_iconst (pc := 25) X dX12_lacks_25 ic_0 ?_
      refine ao_istore_n (pc := 26) (lv' := [(3, .int (0 : Int32)), (0, .ref (eAd E 122)), (1, .int v1), (2, .int v2)]) X dX12_lacks_26 rfl (by decide) rfl ?_
      refine ao_iconst (pc := 27) X dX12_lacks_27 ic_0 ?_
      refine ao_istore (pc := 28) (lv' := [(4, .int (0 : Int32)), (3, .int (0 : Int32)), (0, .ref (eAd E 122)), (1, .int v1), (2, .int v2)]) X dX12_lacks_28 (by decide) rfl ?_
      refine ao_sub [2, 3, 4, 1, 0] rfl ?_
      exact bX12_lacks_122_30 hI hl0 X hr FU v1 v2 (0 : Int32) (0 : Int32) m5
    · refine ao_iconst (pc := 23) X dX12_lacks_23 ic_m1 ?_
      exact ao_iret (pc := 24) X hr dX12_lacks_24
def fX11_daysLeft_0 (μ : Mem) : Option (Int32 × Mem) :=
  if (gI μ 0 14) ≤ (gI μ 33 4) then (some ((1000 : Int32), μ))
  else some (((gI μ 0 14) - (gI μ 33 4)), μ)
set_option maxRecDepth 100000 in
set_option maxHeartbeats 4000000 in
theorem mX11_daysLeft_0 {E : En} {l : Launch} (hI : Inj E) (μ : Mem) : MtI E l yX11_daysLeft cX11_daysLeft 1 (some .int) 1 [.ref (eAd E 0)] μ (fX11_daysLeft_0 μ) := by
  refine mtI_of (own := RX11) [(0, .ref (eAd E 0))] hI rfl (by decide) (Nat.le_of_ble_eq_true rfl) (Nat.le_of_ble_eq_true rfl) rfl (fun Z hl0 X hr => ?_)
  unfold fX11_daysLeft_0
  refine ao_aload_n (pc := 0) X dX11_daysLeft_0 rfl ?_
  refine ao_getI (pc := 1) X dX11_daysLeft_1 fl_RX11_100 sf_0_14 ?_
  refine ao_aload_n (pc := 4) X dX11_daysLeft_4 rfl ?_
  refine ao_getR (pc := 5) X dX11_daysLeft_5 fl_RX11_65 sf_0_7 ?_
  refine ao_getI (pc := 8) X dX11_daysLeft_8 fl_RX11_206 sf_33_4 ?_
  refine ao_icmp_le (pc := 11) (tgt := 29) X dX11_daysLeft_11 (by decide) (fun _ => ?_) (fun _ => ?_)
  · refine ao_sipush (pc := 29) X dX11_daysLeft_29 sp_1000 ?_
    exact ao_iret (pc := 32) X hr dX11_daysLeft_32
  · refine ao_aload_n (pc := 14) X dX11_daysLeft_14 rfl ?_
    refine ao_getI (pc := 15) X dX11_daysLeft_15 fl_RX11_100 sf_0_14 ?_
    refine ao_aload_n (pc := 18) X dX11_daysLeft_18 rfl ?_
    refine ao_getR (pc := 19) X dX11_daysLeft_19 fl_RX11_65 sf_0_7 ?_
    refine ao_getI (pc := 22) X dX11_daysLeft_22 fl_RX11_206 sf_33_4 ?_
    refine ao_isub (pc := 25) X dX11_daysLeft_25 ?_
    refine ao_goto (pc := 26) (tgt := 32) X dX11_daysLeft_26 (by decide) ?_
    exact ao_iret (pc := 32) X hr dX11_daysLeft_32
def fX7_tell___3 (v1 : Int64) (v3 : Int64) (v5 : Int64) (μ : Mem) : Option (Unit × Mem) :=
  bnd (fX7_tell__3 v1 v3 μ) fun r1 m2 =>
  bnd (fX7_add_3 v5 m2) fun r3 m4 =>
  some ((), m4)
set_option maxRecDepth 100000 in
set_option maxHeartbeats 4000000 in
theorem mX7_tell___3 {E : En} {l : Launch} (hI : Inj E) (v1 : Int64) (v3 : Int64) (v5 : Int64) (μ : Mem) : MtV E l yX7_tell__ cX7_tell__ 7 (none) 4 [.ref (eAd E 3), .long v1, .long v3, .long v5] μ (fX7_tell___3 v1 v3 v5 μ) := by
  refine mtV_of (own := RX7) [(0, .ref (eAd E 3)), (1, .long v1), (3, .long v3), (5, .long v5)] hI rfl (by decide) (Nat.le_of_ble_eq_true rfl) (Nat.le_of_ble_eq_true rfl) rfl (fun Z hl0 X hr => ?_)
  unfold fX7_tell___3
  refine ao_aload_n (pc := 0) X dX7_tell___0 rfl ?_
  refine ao_lload_n (pc := 1) X dX7_tell___1 rfl ?_
  refine ao_lload_n (pc := 2) X dX7_tell___2 rfl ?_
  refine ao_callVV (pc := 3) (As := [.long v1, .long v3]) (st := []) X hl0 dX7_tell___3 yv_X7_tell_ so_3 ml_RX7_27 (mX7_tell__3 hI v1 v3 μ) (Nat.le_of_ble_eq_true rfl) rfl rfl (Nat.le_of_ble_eq_true rfl) (fun r1 m2 => ?_)
  refine ao_aload_n (pc := 6) X dX7_tell___6 rfl ?_
  refine ao_lload (pc := 7) X dX7_tell___7 rfl ?_
  refine ao_callVV (pc := 9) (As := [.long v5]) (st := []) X hl0 dX7_tell___9 yv_X7_add so_3 ml_RX7_20 (mX7_add_3 hI v5 m2) (Nat.le_of_ble_eq_true rfl) rfl rfl (Nat.le_of_ble_eq_true rfl) (fun r3 m4 => ?_)
  exact ao_vret (pc := 12) X hr dX7_tell___12
def fX11_best_0_b85 (p1 : Int32) (p2 : Int32) (p3 : Int32) (μ : Mem) : Option (Int32 × Mem) :=
  bnd (fX2_heAndHeir_24 p1 (5 : Int32) μ) fun r13 m14 =>
  bnd (fX2_heAndHeir_24 p1 (2 : Int32) m14) fun r15 m16 =>
  bnd (fX7_tell___3 (Int32.toInt64 p3) (Int32.toInt64 r13) (Int32.toInt64 r15) m16) fun r17 m18 =>
  some (p2, m18)
set_option maxRecDepth 100000 in
set_option maxHeartbeats 4000000 in
theorem bX11_best_0_85 {E : En} {l : Launch} {Z : Zt} (hI : Inj E) (hl0 : lZ l Z) (X : Cx E Z cX11_best RX11 6 5) (hr : rtOf Z = some .int) (p1 : Int32) (p2 : Int32) (p3 : Int32) (μ : Mem) : AO E Z 6 (QI E Z) 85 [(0, .ref (eAd E 0)), (1, .int p1), (2, .int p2), (3, .int p3)] [] μ (fX11_best_0_b85 p1 p2 p3 μ) := by
  unfold fX11_best_0_b85
  refine ao_aload_n (pc := 85) X dX11_best_85 rfl ?_
  refine ao_getR (pc := 86) X dX11_best_86 fl_RX11_19 sf_0_1 ?_
  refine ao_iload_n (pc := 89) X dX11_best_89 rfl ?_
  refine ao_i2l (pc := 90) X dX11_best_90 ?_
  refine ao_aload_n (pc := 91) X dX11_best_91 rfl ?_
  refine ao_getR (pc := 92) X dX11_best_92 fl_RX11_56 sf_0_6 ?_
  refine ao_iload_n (pc := 95) X dX11_best_95 rfl ?_
  refine ao_iconst (pc := 96) X dX11_best_96 ic_5 ?_
  refine ao_callVI (pc := 97) (As := [.int p1, .int (5 : Int32)]) (st := [.long (Int32.toInt64 p3), .ref (eAd E 3)]) X hl0 dX11_best_97 yv_X2_heAndHeir so_24 ml_RX11_309 (mX2_heAndHeir_24 hI p1 (5 : Int32) μ) (Nat.le_of_ble_eq_true rfl) rfl rfl (Nat.le_of_ble_eq_true rfl) (fun r13 m14 => ?_)
  refine ao_i2l (pc := 100) X dX11_best_100 ?_
  refine ao_aload_n (pc := 101) X dX11_best_101 rfl ?_
  refine ao_getR (pc := 102) X dX11_best_102 fl_RX11_56 sf_0_6 ?_
  refine ao_iload_n (pc := 105) X dX11_best_105 rfl ?_
  refine ao_iconst (pc := 106) X dX11_best_106 ic_2 ?_
  refine ao_callVI (pc := 107) (As := [.int p1, .int (2 : Int32)]) (st := [.long (Int32.toInt64 r13), .long (Int32.toInt64 p3), .ref (eAd E 3)]) X hl0 dX11_best_107 yv_X2_heAndHeir so_24 ml_RX11_309 (mX2_heAndHeir_24 hI p1 (2 : Int32) m14) (Nat.le_of_ble_eq_true rfl) rfl rfl (Nat.le_of_ble_eq_true rfl) (fun r15 m16 => ?_)
  refine ao_i2l (pc := 110) X dX11_best_110 ?_
  refine ao_callVV (pc := 111) (As := [.long (Int32.toInt64 p3), .long (Int32.toInt64 r13), .long (Int32.toInt64 r15)]) (st := []) X hl0 dX11_best_111 yv_X7_tell__ so_3 ml_RX11_319 (mX7_tell___3 hI (Int32.toInt64 p3) (Int32.toInt64 r13) (Int32.toInt64 r15) m16) (Nat.le_of_ble_eq_true rfl) rfl rfl (Nat.le_of_ble_eq_true rfl) (fun r17 m18 => ?_)
  refine ao_iload_n (pc := 114) X dX11_best_114 rfl ?_
  exact ao_iret (pc := 115) X hr dX11_best_115
def fX11_best_0_b31 : Nat → Int32 → Int32 → Int32 → Int32 → Mem → Option (Int32 × Mem)
  | 0, _, _, _, _, _ => none
  | n + 1, p1, p2, p3, p4, μ =>
  if (60 : Int32) < p4 then (fX11_best_0_b85 p1 p2 p3 μ)
  else bnd (fX11_daysLeft_0 μ) fun r5 m6 =>
    if r5 ≤ p4 then (fX11_best_0_b85 p1 p2 p3 m6)
    else bnd (fX4_verdictIn_33 p1 p4 m6) fun r7 m8 =>
      bnd (fX2_heAndHeir_24 p1 r7 m8) fun r9 m10 =>
      if r9 ≤ p3 then (fX11_best_0_b31 n p1 p2 p3 (p4 + (1 : Int32)) m10)
      else fX11_best_0_b31 n p1 p4 r9 (p4 + (1 : Int32)) m10
set_option maxRecDepth 100000 in
set_option maxHeartbeats 4000000 in
theorem bX11_best_0_31 {E : En} {l : Launch} {Z : Zt} (hI : Inj E) (hl0 : lZ l Z) (X : Cx E Z cX11_best RX11 6 5) (hr : rtOf Z = some .int) : ∀ (n : Nat) (p1 : Int32) (p2 : Int32) (p3 : Int32) (p4 : Int32) (μ : Mem), AO E Z 6 (QI E Z) 31 [(0, .ref (eAd E 0)), (1, .int p1), (2, .int p2), (3, .int p3), (4, .int p4)] [] μ (fX11_best_0_b31 n p1 p2 p3 p4 μ) := by
  intro n
  induction n with
  | zero =>
    intros
    exact ao_none
  | succ n ih =>
    intro p1 p2 p3 p4 μ
    rw [fX11_best_0_b31]
    refine ao_iload (pc := 31) X dX11_best_31 rfl ?_
    refine ao_bipush (pc := 33) X dX11_best_33 bp_60 ?_
    refine ao_icmp_gt (pc := 35) (tgt := 85) X dX11_best_35 (by decide) (fun _ => ?_) (fun _ => ?_)
    · refine ao_sub [0, 1, 2, 3] rfl ?_
      exact bX11_best_0_85 hI hl0 X hr p1 p2 p3 μ
    · refine ao_iload (pc := 38) X dX11_best_38 rfl ?_
      refine ao_aload_n (pc := 40) X dX11_best_40 rfl ?_
      refine ao_callVI (pc := 41) (As := []) (st := [.int p4]) X hl0 dX11_best_41 yv_X11_daysLeft so_0 ml_RX11_315 (mX11_daysLeft_0 hI μ) (Nat.le_of_ble_eq_true rfl) rfl rfl (Nat.le_of_ble_eq_true rfl) (fun r5 m6 => ?_)
      refine ao_icmp_ge (pc := 44) (tgt := 85) X dX11_best_44 (by decide) (fun _ => ?_) (fun _ => ?_)
      · refine ao_sub [0, 1, 2, 3] rfl ?_
        exact bX11_best_0_85 hI hl0 X hr p1 p2 p3 m6
      · refine ao_aload_n (pc := 47) X dX11_best_47 rfl ?_
        refine ao_getR (pc := 48) X dX11_best_48 fl_RX11_56 sf_0_6 ?_
        refine ao_iload_n (pc := 51) X dX11_best_51 rfl ?_
        refine ao_aload_n (pc := 52) X dX11_best_52 rfl ?_
        refine ao_getR (pc := 53) X dX11_best_53 fl_RX11_65 sf_0_7 ?_
        refine ao_iload_n (pc := 56) X dX11_best_56 rfl ?_
        refine ao_iload (pc := 57) X dX11_best_57 rfl ?_
        refine ao_callVI (pc := 59) (As := [.int p1, .int p4]) (st := [.int p1, .ref (eAd E 24)]) X hl0 dX11_best_59 yv_X4_verdictIn so_33 ml_RX11_306 (mX4_verdictIn_33 hI p1 p4 m6) (Nat.le_of_ble_eq_true rfl) rfl rfl (Nat.le_of_ble_eq_true rfl) (fun r7 m8 => ?_)
        refine ao_callVI (pc := 62) (As := [.int p1, .int r7]) (st := []) X hl0 dX11_best_62 yv_X2_heAndHeir so_24 ml_RX11_309 (mX2_heAndHeir_24 hI p1 r7 m8) (Nat.le_of_ble_eq_true rfl) rfl rfl (Nat.le_of_ble_eq_true rfl) (fun r9 m10 => ?_)
        refine ao_istore (pc := 65) (lv' := [(5, .int r9), (0, .ref (eAd E 0)), (1, .int p1), (2, .int p2), (3, .int p3), (4, .int p4)]) X dX11_best_65 (by decide) rfl ?_
        refine ao_iload (pc := 67) X dX11_best_67 rfl ?_
        refine ao_iload_n (pc := 69) X dX11_best_69 rfl ?_
        refine ao_icmp_le (pc := 70) (tgt := 79) X dX11_best_70 (by decide) (fun _ => ?_) (fun _ => ?_)
        · refine ao_iinc (pc := 79) (k := 5) (v := p4 + (1 : Int32)) (lv' := [(4, .int (p4 + (1 : Int32))), (5, .int r9), (0, .ref (eAd E 0)), (1, .int p1), (2, .int p2), (3, .int p3)]) X dX11_best_79 rfl (ii_ic ic_1) (by decide) rfl ?_
          refine ao_goto (pc := 82) (tgt := 31) X dX11_best_82 (by decide) ?_
          refine ao_sub [2, 3, 4, 5, 0] rfl ?_
          exact ih p1 p2 p3 (p4 + (1 : Int32)) m10
        · refine ao_iload (pc := 73) X dX11_best_73 rfl ?_
          refine ao_istore_n (pc := 75) (lv' := [(2, .int p4), (5, .int r9), (0, .ref (eAd E 0)), (1, .int p1), (3, .int p3), (4, .int p4)]) X dX11_best_75 rfl (by decide) rfl ?_
          refine ao_iload (pc := 76) X dX11_best_76 rfl ?_
          refine ao_istore_n (pc := 78) (lv' := [(3, .int r9), (2, .int p4), (5, .int r9), (0, .ref (eAd E 0)), (1, .int p1), (4, .int p4)]) X dX11_best_78 rfl (by decide) rfl ?_
          refine ao_iinc (pc := 79) (k := 5) (v := p4 + (1 : Int32)) (lv' := [(4, .int (p4 + (1 : Int32))), (3, .int r9), (2, .int p4), (5, .int r9), (0, .ref (eAd E 0)), (1, .int p1)]) X dX11_best_79 rfl (ii_ic ic_1) (by decide) rfl ?_
          refine ao_goto (pc := 82) (tgt := 31) X dX11_best_82 (by decide) ?_
          refine ao_sub [4, 5, 2, 1, 0] rfl ?_
          exact ih p1 p4 r9 (p4 + (1 : Int32)) m10
def fX11_best_0 (v1 : Int32) (μ : Mem) : Option (Int32 × Mem) :=
  bnd (fX11_isThere_0 v1 μ) fun r1 m2 =>
  if r1 = 0 then (some ((-1 : Int32), m2))
  else bnd (fX4_isSilent_33 v1 m2) fun r3 m4 =>
    if r3 = 0 then (some ((-2 : Int32), m4))
    else fX11_best_0_b31 FU v1 (0 : Int32) (-1 : Int32) (0 : Int32) m4
set_option maxRecDepth 100000 in
set_option maxHeartbeats 4000000 in
theorem mX11_best_0 {E : En} {l : Launch} (hI : Inj E) (v1 : Int32) (μ : Mem) : MtI E l yX11_best cX11_best 6 (some .int) 5 [.ref (eAd E 0), .int v1] μ (fX11_best_0 v1 μ) := by
  refine mtI_of (own := RX11) [(0, .ref (eAd E 0)), (1, .int v1)] hI rfl (by decide) (Nat.le_of_ble_eq_true rfl) (Nat.le_of_ble_eq_true rfl) rfl (fun Z hl0 X hr => ?_)
  unfold fX11_best_0
  refine ao_aload_n (pc := 0) X dX11_best_0 rfl ?_
  refine ao_iload_n (pc := 1) X dX11_best_1 rfl ?_
  refine ao_callVI (pc := 2) (As := [.int v1]) (st := []) X hl0 dX11_best_2 yv_X11_isThere so_0 ml_RX11_147 (mX11_isThere_0 hI v1 μ) (Nat.le_of_ble_eq_true rfl) rfl rfl (Nat.le_of_ble_eq_true rfl) (fun r1 m2 => ?_)
  refine ao_if_ne (pc := 5) (tgt := 10) X dX11_best_5 (by decide) (fun _ => ?_) (fun _ => ?_)
  · refine ao_aload_n (pc := 10) X dX11_best_10 rfl ?_
    refine ao_getR (pc := 11) X dX11_best_11 fl_RX11_65 sf_0_7 ?_
    refine ao_iload_n (pc := 14) X dX11_best_14 rfl ?_
    refine ao_callVI (pc := 15) (As := [.int v1]) (st := []) X hl0 dX11_best_15 yv_X4_isSilent so_33 ml_RX11_261 (mX4_isSilent_33 hI v1 m2) (Nat.le_of_ble_eq_true rfl) rfl rfl (Nat.le_of_ble_eq_true rfl) (fun r3 m4 => ?_)
    refine ao_if_ne (pc := 18) (tgt := 24) X dX11_best_18 (by decide) (fun _ => ?_) (fun _ => ?_)
    · refine ao_iconst (pc := 24) X dX11_best_24 ic_0 ?_
      refine ao_istore_n (pc := 25) (lv' := [(2, .int (0 : Int32)), (0, .ref (eAd E 0)), (1, .int v1)]) X dX11_best_25 rfl (by decide) rfl ?_
      refine ao_iconst (pc := 26) X dX11_best_26 ic_m1 ?_
      refine ao_istore_n (pc := 27) (lv' := [(3, .int (-1 : Int32)), (2, .int (0 : Int32)), (0, .ref (eAd E 0)), (1, .int v1)]) X dX11_best_27 rfl (by decide) rfl ?_
      refine ao_iconst (pc := 28) X dX11_best_28 ic_0 ?_
      refine ao_istore (pc := 29) (lv' := [(4, .int (0 : Int32)), (3, .int (-1 : Int32)), (2, .int (0 : Int32)), (0, .ref (eAd E 0)), (1, .int v1)]) X dX11_best_29 (by decide) rfl ?_
      refine ao_sub [3, 4, 2, 1, 0] rfl ?_
      exact bX11_best_0_31 hI hl0 X hr FU v1 (0 : Int32) (-1 : Int32) (0 : Int32) m4
    · refine ao_bipush (pc := 21) X dX11_best_21 bp_m2 ?_
      exact ao_iret (pc := 23) X hr dX11_best_23
  · refine ao_iconst (pc := 8) X dX11_best_8 ic_m1 ?_
    exact ao_iret (pc := 9) X hr dX11_best_9
def fX12_isAhead_122 (v1 : Int32) (μ : Mem) : Option (Int32 × Mem) :=
  gd (inb (26 : Int32) 27) (if (gI μ 122 12) ≤ (gI μ 123 (ix (26 : Int32))) then (some ((1 : Int32), μ))
  else gd (inb (26 : Int32) 27) (if (gI μ 122 12) ≤ ((gI μ 123 (ix (26 : Int32))) + v1) then (some ((0 : Int32), μ))
    else some ((1 : Int32), μ)))
set_option maxRecDepth 100000 in
set_option maxHeartbeats 4000000 in
theorem mX12_isAhead_122 {E : En} {l : Launch} (hI : Inj E) (v1 : Int32) (μ : Mem) : MtI E l yX12_isAhead cX12_isAhead 2 (some .boolean) 1 [.ref (eAd E 122), .int v1] μ (fX12_isAhead_122 v1 μ) := by
  refine mtI_of (own := RX12) [(0, .ref (eAd E 122)), (1, .int v1)] hI rfl (by decide) (Nat.le_of_ble_eq_true rfl) (Nat.le_of_ble_eq_true rfl) rfl (fun Z hl0 X hr => ?_)
  unfold fX12_isAhead_122
  refine ao_aload_n (pc := 0) X dX12_isAhead_0 rfl ?_
  refine ao_getI (pc := 1) X dX12_isAhead_1 fl_RX12_41 sf_122_12 ?_
  refine ao_aload_n (pc := 4) X dX12_isAhead_4 rfl ?_
  refine ao_getR (pc := 5) X dX12_isAhead_5 fl_RX12_9 sf_122_0 ?_
  refine ao_bipush (pc := 8) X dX12_isAhead_8 bp_26 ?_
  refine ao_iald (pc := 10) X dX12_isAhead_10 sa_123 ?_
  refine ao_icmp_le (pc := 11) (tgt := 30) X dX12_isAhead_11 (by decide) (fun _ => ?_) (fun _ => ?_)
  · refine ao_iconst (pc := 30) X dX12_isAhead_30 ic_1 ?_
    refine ao_goto (pc := 31) (tgt := 35) X dX12_isAhead_31 (by decide) ?_
    exact ao_zret (pc := 35) X hr rfl dX12_isAhead_35
  · refine ao_aload_n (pc := 14) X dX12_isAhead_14 rfl ?_
    refine ao_getR (pc := 15) X dX12_isAhead_15 fl_RX12_9 sf_122_0 ?_
    refine ao_bipush (pc := 18) X dX12_isAhead_18 bp_26 ?_
    refine ao_iald (pc := 20) X dX12_isAhead_20 sa_123 ?_
    refine ao_iload_n (pc := 21) X dX12_isAhead_21 rfl ?_
    refine ao_iadd (pc := 22) X dX12_isAhead_22 ?_
    refine ao_aload_n (pc := 23) X dX12_isAhead_23 rfl ?_
    refine ao_getI (pc := 24) X dX12_isAhead_24 fl_RX12_41 sf_122_12 ?_
    refine ao_icmp_ge (pc := 27) (tgt := 34) X dX12_isAhead_27 (by decide) (fun _ => ?_) (fun _ => ?_)
    · refine ao_iconst (pc := 34) X dX12_isAhead_34 ic_0 ?_
      exact ao_zret (pc := 35) X hr rfl dX12_isAhead_35
    · refine ao_iconst (pc := 30) X dX12_isAhead_30 ic_1 ?_
      refine ao_goto (pc := 31) (tgt := 35) X dX12_isAhead_31 (by decide) ?_
      exact ao_zret (pc := 35) X hr rfl dX12_isAhead_35
def fX12_best_122_b34 : Nat → Int32 → Int32 → Int32 → Int32 → Mem → Option (Int32 × Mem)
  | 0, _, _, _, _, _ => none
  | n + 1, p1, p2, p3, p4, μ =>
  if (60 : Int32) < p4 then (lt (sI μ 122 16 (0 : Int32)) fun m4 =>
    bnd (fX12_tell_122 (Int32.toInt64 p3) m4) fun r5 m6 =>
    bnd (fX12_theirs_122 p1 (5 : Int32) m6) fun r7 m8 =>
    bnd (fX12_tell_122 (Int32.toInt64 r7) m8) fun r9 m10 =>
    bnd (fX12_theirs_122 p1 (2 : Int32) m10) fun r11 m12 =>
    bnd (fX12_tell_122 (Int32.toInt64 r11) m12) fun r13 m14 =>
    some (p2, m14))
  else bnd (fX12_proofIn_122_123 p1 p4 μ) fun r15 m16 =>
    bnd (fX12_ending_122 r15 m16) fun r17 m18 =>
    bnd (fX12_theirs_122 p1 r17 m18) fun r19 m20 =>
    bnd (fX12_isAhead_122 p4 m20) fun r21 m22 =>
    if r21 = 0 then (fX12_best_122_b34 n p1 p2 p3 (p4 + (1 : Int32)) m22)
    else if p3 < r19 then (fX12_best_122_b34 n p1 p4 r19 (p4 + (1 : Int32)) m22)
      else fX12_best_122_b34 n p1 p2 p3 (p4 + (1 : Int32)) m22
set_option maxRecDepth 100000 in
set_option maxHeartbeats 4000000 in
theorem bX12_best_122_34 {E : En} {l : Launch} {Z : Zt} (hI : Inj E) (hl0 : lZ l Z) (X : Cx E Z cX12_best RX12 6 4) (hr : rtOf Z = some .int) : ∀ (n : Nat) (p1 : Int32) (p2 : Int32) (p3 : Int32) (p4 : Int32) (μ : Mem), AO E Z 6 (QI E Z) 34 [(0, .ref (eAd E 122)), (1, .int p1), (2, .int p2), (3, .int p3), (4, .int p4)] [] μ (fX12_best_122_b34 n p1 p2 p3 p4 μ) := by
  intro n
  induction n with
  | zero =>
    intros
    exact ao_none
  | succ n ih =>
    intro p1 p2 p3 p4 μ
    rw [fX12_best_122_b34]
    refine ao_iload (pc := 34) X dX12_best_34 rfl ?_
    refine ao_bipush (pc := 36) X dX12_best_36 bp_60 ?_
    refine ao_icmp_gt (pc := 38) (tgt := 93) X dX12_best_38 (by decide) (fun _ => ?_) (fun _ => ?_)
    · refine ao_aload_n (pc := 93) X dX12_best_93 rfl ?_
      refine ao_iconst (pc := 94) X dX12_best_94 ic_0 ?_
      refine ao_putI (pc := 95) X dX12_best_95 fp_RX12_98 sf_122_16 ?_
      refine ao_lt (fun m4 => ?_)
      refine ao_aload_n (pc := 98) X dX12_best_98 rfl ?_
      refine ao_iload_n (pc := 99) X dX12_best_99 rfl ?_
      refine ao_i2l (pc := 100) X dX12_best_100 ?_
      refine ao_callVV (pc := 101) (As := [.long (Int32.toInt64 p3)]) (st := []) X hl0 dX12_best_101 yv_X12_tell so_122 ml_RX12_267 (mX12_tell_122 hI (Int32.toInt64 p3) m4) (Nat.le_of_ble_eq_true rfl) rfl rfl (Nat.le_of_ble_eq_true rfl) (fun r5 m6 => ?_)
      refine ao_aload_n (pc := 104) X dX12_best_104 rfl ?_
      refine ao_aload_n (pc := 105) X dX12_best_105 rfl ?_
      refine ao_iload_n (pc := 106) X dX12_best_106 rfl ?_
      refine ao_iconst (pc := 107) X dX12_best_107 ic_5 ?_
      refine ao_callVI (pc := 108) (As := [.int p1, .int (5 : Int32)]) (st := [.ref (eAd E 122)]) X hl0 dX12_best_108 yv_X12_theirs so_122 ml_RX12_307 (mX12_theirs_122 hI p1 (5 : Int32) m6) (Nat.le_of_ble_eq_true rfl) rfl rfl (Nat.le_of_ble_eq_true rfl) (fun r7 m8 => ?_)
      refine ao_i2l (pc := 111) X dX12_best_111 ?_
      refine ao_callVV (pc := 112) (As := [.long (Int32.toInt64 r7)]) (st := []) X hl0 dX12_best_112 yv_X12_tell so_122 ml_RX12_267 (mX12_tell_122 hI (Int32.toInt64 r7) m8) (Nat.le_of_ble_eq_true rfl) rfl rfl (Nat.le_of_ble_eq_true rfl) (fun r9 m10 => ?_)
      refine ao_aload_n (pc := 115) X dX12_best_115 rfl ?_
      refine ao_aload_n (pc := 116) X dX12_best_116 rfl ?_
      refine ao_iload_n (pc := 117) X dX12_best_117 rfl ?_
      refine ao_iconst (pc := 118) X dX12_best_118 ic_2 ?_
      refine ao_callVI (pc := 119) (As := [.int p1, .int (2 : Int32)]) (st := [.ref (eAd E 122)]) X hl0 dX12_best_119 yv_X12_theirs so_122 ml_RX12_307 (mX12_theirs_122 hI p1 (2 : Int32) m10) (Nat.le_of_ble_eq_true rfl) rfl rfl (Nat.le_of_ble_eq_true rfl) (fun r11 m12 => ?_)
      refine ao_i2l (pc := 122) X dX12_best_122 ?_
      refine ao_callVV (pc := 123) (As := [.long (Int32.toInt64 r11)]) (st := []) X hl0 dX12_best_123 yv_X12_tell so_122 ml_RX12_267 (mX12_tell_122 hI (Int32.toInt64 r11) m12) (Nat.le_of_ble_eq_true rfl) rfl rfl (Nat.le_of_ble_eq_true rfl) (fun r13 m14 => ?_)
      refine ao_iload_n (pc := 126) X dX12_best_126 rfl ?_
      exact ao_iret (pc := 127) X hr dX12_best_127
    · refine ao_aload_n (pc := 41) X dX12_best_41 rfl ?_
      refine ao_iload_n (pc := 42) X dX12_best_42 rfl ?_
      refine ao_aload_n (pc := 43) X dX12_best_43 rfl ?_
      refine ao_aload_n (pc := 44) X dX12_best_44 rfl ?_
      refine ao_aload_n (pc := 45) X dX12_best_45 rfl ?_
      refine ao_getR (pc := 46) X dX12_best_46 fl_RX12_9 sf_122_0 ?_
      refine ao_iload_n (pc := 49) X dX12_best_49 rfl ?_
      refine ao_iload (pc := 50) X dX12_best_50 rfl ?_
      refine ao_callVI (pc := 52) (As := [.ref (eAd E 123), .int p1, .int p4]) (st := [.ref (eAd E 122), .int p1, .ref (eAd E 122)]) X hl0 dX12_best_52 yv_X12_proofIn so_122 ml_RX12_235 (mX12_proofIn_122_123 hI p1 p4 μ) (Nat.le_of_ble_eq_true rfl) rfl rfl (Nat.le_of_ble_eq_true rfl) (fun r15 m16 => ?_)
      refine ao_callVI (pc := 55) (As := [.int r15]) (st := [.int p1, .ref (eAd E 122)]) X hl0 dX12_best_55 yv_X12_ending so_122 ml_RX12_264 (mX12_ending_122 hI r15 m16) (Nat.le_of_ble_eq_true rfl) rfl rfl (Nat.le_of_ble_eq_true rfl) (fun r17 m18 => ?_)
      refine ao_callVI (pc := 58) (As := [.int p1, .int r17]) (st := []) X hl0 dX12_best_58 yv_X12_theirs so_122 ml_RX12_307 (mX12_theirs_122 hI p1 r17 m18) (Nat.le_of_ble_eq_true rfl) rfl rfl (Nat.le_of_ble_eq_true rfl) (fun r19 m20 => ?_)
      refine ao_istore (pc := 61) (lv' := [(5, .int r19), (0, .ref (eAd E 122)), (1, .int p1), (2, .int p2), (3, .int p3), (4, .int p4)]) X dX12_best_61 (by decide) rfl ?_
      refine ao_aload_n (pc := 63) X dX12_best_63 rfl ?_
      refine ao_iload (pc := 64) X dX12_best_64 rfl ?_
      refine ao_callVI (pc := 66) (As := [.int p4]) (st := []) X hl0 dX12_best_66 yv_X12_isAhead so_122 ml_RX12_313 (mX12_isAhead_122 hI p4 m20) (Nat.le_of_ble_eq_true rfl) rfl rfl (Nat.le_of_ble_eq_true rfl) (fun r21 m22 => ?_)
      refine ao_if_eq (pc := 69) (tgt := 87) X dX12_best_69 (by decide) (fun _ => ?_) (fun _ => ?_)
      · refine ao_iinc (pc := 87) (k := 5) (v := p4 + (1 : Int32)) (lv' := [(4, .int (p4 + (1 : Int32))), (5, .int r19), (0, .ref (eAd E 122)), (1, .int p1), (2, .int p2), (3, .int p3)]) X dX12_best_87 rfl (ii_ic ic_1) (by decide) rfl ?_
        refine ao_goto (pc := 90) (tgt := 34) X dX12_best_90 (by decide) ?_
        refine ao_sub [2, 3, 4, 5, 0] rfl ?_
        exact ih p1 p2 p3 (p4 + (1 : Int32)) m22
      · refine ao_iload (pc := 72) X dX12_best_72 rfl ?_
        refine ao_iload_n (pc := 74) X dX12_best_74 rfl ?_
        refine ao_icmp_gt (pc := 75) (tgt := 81) X dX12_best_75 (by decide) (fun _ => ?_) (fun _ => ?_)
        · refine ao_iload (pc := 81) X dX12_best_81 rfl ?_
          refine ao_istore_n (pc := 83) (lv' := [(2, .int p4), (5, .int r19), (0, .ref (eAd E 122)), (1, .int p1), (3, .int p3), (4, .int p4)]) X dX12_best_83 rfl (by decide) rfl ?_
          refine ao_iload (pc := 84) X dX12_best_84 rfl ?_
          refine ao_istore_n (pc := 86) (lv' := [(3, .int r19), (2, .int p4), (5, .int r19), (0, .ref (eAd E 122)), (1, .int p1), (4, .int p4)]) X dX12_best_86 rfl (by decide) rfl ?_
          refine ao_iinc (pc := 87) (k := 5) (v := p4 + (1 : Int32)) (lv' := [(4, .int (p4 + (1 : Int32))), (3, .int r19), (2, .int p4), (5, .int r19), (0, .ref (eAd E 122)), (1, .int p1)]) X dX12_best_87 rfl (ii_ic ic_1) (by decide) rfl ?_
          refine ao_goto (pc := 90) (tgt := 34) X dX12_best_90 (by decide) ?_
          refine ao_sub [4, 5, 2, 1, 0] rfl ?_
          exact ih p1 p4 r19 (p4 + (1 : Int32)) m22
        · refine ao_goto (pc := 78) (tgt := 87) X dX12_best_78 (by decide) ?_
          refine ao_iinc (pc := 87) (k := 5) (v := p4 + (1 : Int32)) (lv' := [(4, .int (p4 + (1 : Int32))), (5, .int r19), (0, .ref (eAd E 122)), (1, .int p1), (2, .int p2), (3, .int p3)]) X dX12_best_87 rfl (ii_ic ic_1) (by decide) rfl ?_
          refine ao_goto (pc := 90) (tgt := 34) X dX12_best_90 (by decide) ?_
          refine ao_sub [2, 3, 4, 5, 0] rfl ?_
          exact ih p1 p2 p3 (p4 + (1 : Int32)) m22
def fX12_best_122 (v1 : Int32) (μ : Mem) : Option (Int32 × Mem) :=
  lt (sI μ 122 17 (0 : Int32)) fun m1 =>
  bnd (fX12_isMan_122 v1 m1) fun r2 m3 =>
  if r2 = 0 then (some ((-1 : Int32), m3))
  else gd (inb v1 27) (if (gI m3 123 (ix v1)) = 0 then (fX12_best_122_b34 FU v1 (0 : Int32) (-1 : Int32) (0 : Int32) m3)
    else some ((-2 : Int32), m3))
set_option maxRecDepth 100000 in
set_option maxHeartbeats 4000000 in
theorem mX12_best_122 {E : En} {l : Launch} (hI : Inj E) (v1 : Int32) (μ : Mem) : MtI E l yX12_best cX12_best 6 (some .int) 4 [.ref (eAd E 122), .int v1] μ (fX12_best_122 v1 μ) := by
  refine mtI_of (own := RX12) [(0, .ref (eAd E 122)), (1, .int v1)] hI rfl (by decide) (Nat.le_of_ble_eq_true rfl) (Nat.le_of_ble_eq_true rfl) rfl (fun Z hl0 X hr => ?_)
  unfold fX12_best_122
  refine ao_aload_n (pc := 0) X dX12_best_0 rfl ?_
  refine ao_iconst (pc := 1) X dX12_best_1 ic_0 ?_
  refine ao_putI (pc := 2) X dX12_best_2 fp_RX12_95 sf_122_17 ?_
  refine ao_lt (fun m1 => ?_)
  refine ao_aload_n (pc := 5) X dX12_best_5 rfl ?_
  refine ao_iload_n (pc := 6) X dX12_best_6 rfl ?_
  refine ao_callVI (pc := 7) (As := [.int v1]) (st := []) X hl0 dX12_best_7 yv_X12_isMan so_122 ml_RX12_224 (mX12_isMan_122 hI v1 m1) (Nat.le_of_ble_eq_true rfl) rfl rfl (Nat.le_of_ble_eq_true rfl) (fun r2 m3 => ?_)
  refine ao_if_ne (pc := 10) (tgt := 15) X dX12_best_10 (by decide) (fun _ => ?_) (fun _ => ?_)
  · refine ao_aload_n (pc := 15) X dX12_best_15 rfl ?_
    refine ao_getR (pc := 16) X dX12_best_16 fl_RX12_9 sf_122_0 ?_
    refine ao_iload_n (pc := 19) X dX12_best_19 rfl ?_
    refine ao_iald (pc := 20) X dX12_best_20 sa_123 ?_
    refine ao_if_eq (pc := 21) (tgt := 27) X dX12_best_21 (by decide) (fun _ => ?_) (fun _ => ?_)
    · refine ao_iconst (pc := 27) X dX12_best_27 ic_0 ?_
      refine ao_istore_n (pc := 28) (lv' := [(2, .int (0 : Int32)), (0, .ref (eAd E 122)), (1, .int v1)]) X dX12_best_28 rfl (by decide) rfl ?_
      refine ao_iconst (pc := 29) X dX12_best_29 ic_m1 ?_
      refine ao_istore_n (pc := 30) (lv' := [(3, .int (-1 : Int32)), (2, .int (0 : Int32)), (0, .ref (eAd E 122)), (1, .int v1)]) X dX12_best_30 rfl (by decide) rfl ?_
      refine ao_iconst (pc := 31) X dX12_best_31 ic_0 ?_
      refine ao_istore (pc := 32) (lv' := [(4, .int (0 : Int32)), (3, .int (-1 : Int32)), (2, .int (0 : Int32)), (0, .ref (eAd E 122)), (1, .int v1)]) X dX12_best_32 (by decide) rfl ?_
      refine ao_sub [3, 4, 2, 1, 0] rfl ?_
      exact bX12_best_122_34 hI hl0 X hr FU v1 (0 : Int32) (-1 : Int32) (0 : Int32) m3
    · refine ao_bipush (pc := 24) X dX12_best_24 bp_m2 ?_
      exact ao_iret (pc := 26) X hr dX12_best_26
  · refine ao_iconst (pc := 13) X dX12_best_13 ic_m1 ?_
    exact ao_iret (pc := 14) X hr dX12_best_14
def fX10_gainOf_31 (v1 : Int32) (v2 : Int32) (μ : Mem) : Option (Int32 × Mem) :=
  if (gI μ 31 5) = 0 then (some ((1 : Int32), μ))
  else bnd (fX2_has_24 v1 v2 (1 : Int32) μ) fun r1 m2 =>
    bnd (fX2_has_24 v1 (5 : Int32) (1 : Int32) m2) fun r3 m4 =>
    some ((r1 - r3), m4)
set_option maxRecDepth 100000 in
set_option maxHeartbeats 4000000 in
theorem mX10_gainOf_31 {E : En} {l : Launch} (hI : Inj E) (v1 : Int32) (v2 : Int32) (μ : Mem) : MtI E l yX10_gainOf cX10_gainOf 3 (some .int) 3 [.ref (eAd E 31), .int v1, .int v2] μ (fX10_gainOf_31 v1 v2 μ) := by
  refine mtI_of (own := RX10) [(0, .ref (eAd E 31)), (1, .int v1), (2, .int v2)] hI rfl (by decide) (Nat.le_of_ble_eq_true rfl) (Nat.le_of_ble_eq_true rfl) rfl (fun Z hl0 X hr => ?_)
  unfold fX10_gainOf_31
  refine ao_aload_n (pc := 0) X dX10_gainOf_0 rfl ?_
  refine ao_getI (pc := 1) X dX10_gainOf_1 fl_RX10_28 sf_31_5 ?_
  refine ao_if_ne (pc := 4) (tgt := 9) X dX10_gainOf_4 (by decide) (fun _ => ?_) (fun _ => ?_)
  · refine ao_aload_n (pc := 9) X dX10_gainOf_9 rfl ?_
    refine ao_getR (pc := 10) X dX10_gainOf_10 fl_RX10_36 sf_31_7 ?_
    refine ao_iload_n (pc := 13) X dX10_gainOf_13 rfl ?_
    refine ao_iload_n (pc := 14) X dX10_gainOf_14 rfl ?_
    refine ao_iconst (pc := 15) X dX10_gainOf_15 ic_1 ?_
    refine ao_callVI (pc := 16) (As := [.int v1, .int v2, .int (1 : Int32)]) (st := []) X hl0 dX10_gainOf_16 yv_X2_has so_24 ml_RX10_48 (mX2_has_24 hI v1 v2 (1 : Int32) μ) (Nat.le_of_ble_eq_true rfl) rfl rfl (Nat.le_of_ble_eq_true rfl) (fun r1 m2 => ?_)
    refine ao_aload_n (pc := 19) X dX10_gainOf_19 rfl ?_
    refine ao_getR (pc := 20) X dX10_gainOf_20 fl_RX10_36 sf_31_7 ?_
    refine ao_iload_n (pc := 23) X dX10_gainOf_23 rfl ?_
    refine ao_iconst (pc := 24) X dX10_gainOf_24 ic_5 ?_
    refine ao_iconst (pc := 25) X dX10_gainOf_25 ic_1 ?_
    refine ao_callVI (pc := 26) (As := [.int v1, .int (5 : Int32), .int (1 : Int32)]) (st := [.int r1]) X hl0 dX10_gainOf_26 yv_X2_has so_24 ml_RX10_48 (mX2_has_24 hI v1 (5 : Int32) (1 : Int32) m2) (Nat.le_of_ble_eq_true rfl) rfl rfl (Nat.le_of_ble_eq_true rfl) (fun r3 m4 => ?_)
    refine ao_isub (pc := 29) X dX10_gainOf_29 ?_
    exact ao_iret (pc := 30) X hr dX10_gainOf_30
  · refine ao_iconst (pc := 7) X dX10_gainOf_7 ic_1 ?_
    exact ao_iret (pc := 8) X hr dX10_gainOf_8
def fX10_isPleaded_31 (v1 : Int32) (μ : Mem) : Option (Int32 × Mem) :=
  gd (inb v1 6) (if (gI μ 34 (ix v1)) = (1 : Int32) then (some ((1 : Int32), μ))
  else some ((0 : Int32), μ))
set_option maxRecDepth 100000 in
set_option maxHeartbeats 4000000 in
theorem mX10_isPleaded_31 {E : En} {l : Launch} (hI : Inj E) (v1 : Int32) (μ : Mem) : MtI E l yX10_isPleaded cX10_isPleaded 2 (some .boolean) 1 [.ref (eAd E 31), .int v1] μ (fX10_isPleaded_31 v1 μ) := by
  refine mtI_of (own := RX10) [(0, .ref (eAd E 31)), (1, .int v1)] hI rfl (by decide) (Nat.le_of_ble_eq_true rfl) (Nat.le_of_ble_eq_true rfl) rfl (fun Z hl0 X hr => ?_)
  unfold fX10_isPleaded_31
  refine ao_aload_n (pc := 0) X dX10_isPleaded_0 rfl ?_
  refine ao_getR (pc := 1) X dX10_isPleaded_1 fl_RX10_32 sf_31_6 ?_
  refine ao_getR (pc := 4) X dX10_isPleaded_4 fl_RX10_64 sf_33_0 ?_
  refine ao_iload_n (pc := 7) X dX10_isPleaded_7 rfl ?_
  refine ao_iald (pc := 8) X dX10_isPleaded_8 sa_34 ?_
  refine ao_iconst (pc := 9) X dX10_isPleaded_9 ic_1 ?_
  refine ao_icmp_ne (pc := 10) (tgt := 17) X dX10_isPleaded_10 (by decide) (fun _ => ?_) (fun _ => ?_)
  · refine ao_iconst (pc := 17) X dX10_isPleaded_17 ic_0 ?_
    exact ao_zret (pc := 18) X hr rfl dX10_isPleaded_18
  · refine ao_iconst (pc := 13) X dX10_isPleaded_13 ic_1 ?_
    refine ao_goto (pc := 14) (tgt := 18) X dX10_isPleaded_14 (by decide) ?_
    exact ao_zret (pc := 18) X hr rfl dX10_isPleaded_18
def fX10_goOn_31_b137 (rc : Int32 → Int32 → Int32 → Mem → Option (Unit × Mem)) (k66 : Int32 → Int32 → Int32 → Int32 → Mem → Option (Unit × Mem)) (p1 : Int32) (p2 : Int32) (p3 : Int32) (p4 : Int32) (p6 : Int32) (μ : Mem) : Option (Unit × Mem) :=
  gd (inb p1 6) (lt (sI μ 119 (ix p1) p4) fun m10 =>
  bnd (fX10_gainOf_31 p4 p6 m10) fun r11 m12 =>
  bnd (rc (p1 + (1 : Int32)) (p2 ||| ((1 : Int32) <<< (p4 &&& 31))) (p3 + r11) m12) fun r13 m14 =>
  k66 p1 p2 p3 (p4 + (1 : Int32)) m14)
set_option maxRecDepth 100000 in
set_option maxHeartbeats 4000000 in
theorem bX10_goOn_31_137 {E : En} {l : Launch} {Z : Zt} (hI : Inj E) (hl0 : lZ l Z) {dT : Nat} (X : Cx E Z cX10_goOn RX10 7 (dT + 1)) (hr : rtOf Z = none) (hB : 4 ≤ dT) {rc : Int32 → Int32 → Int32 → Mem → Option (Unit × Mem)} (hrc : ∀ (v1 : Int32) (v2 : Int32) (v3 : Int32) (m : Mem), MtV E l yX10_goOn cX10_goOn 7 (none) dT [.ref (eAd E 31), .int v1, .int v2, .int v3] m (rc v1 v2 v3 m)) {k66 : Int32 → Int32 → Int32 → Int32 → Mem → Option (Unit × Mem)} (hk66 : ∀ (p1 : Int32) (p2 : Int32) (p3 : Int32) (p4 : Int32) (m : Mem), AO E Z 7 (QV E Z) 66 [(0, .ref (eAd E 31)), (1, .int p1), (2, .int p2), (3, .int p3), (4, .int p4)] [] m (k66 p1 p2 p3 p4 m)) (p1 : Int32) (p2 : Int32) (p3 : Int32) (p4 : Int32) (p6 : Int32) (μ : Mem) : AO E Z 7 (QV E Z) 137 [(0, .ref (eAd E 31)), (1, .int p1), (2, .int p2), (3, .int p3), (4, .int p4), (6, .int p6)] [] μ (fX10_goOn_31_b137 rc k66 p1 p2 p3 p4 p6 μ) := by
  unfold fX10_goOn_31_b137
  refine ao_aload_n (pc := 137) X dX10_goOn_137 rfl ?_
  refine ao_getR (pc := 138) X dX10_goOn_138 fl_RX10_22 sf_31_3 ?_
  refine ao_iload_n (pc := 141) X dX10_goOn_141 rfl ?_
  refine ao_iload (pc := 142) X dX10_goOn_142 rfl ?_
  refine ao_iast (pc := 144) X dX10_goOn_144 sa_119 ?_
  refine ao_lt (fun m10 => ?_)
  refine ao_aload_n (pc := 145) X dX10_goOn_145 rfl ?_
  refine ao_iload_n (pc := 146) X dX10_goOn_146 rfl ?_
  refine ao_iconst (pc := 147) X dX10_goOn_147 ic_1 ?_
  refine ao_iadd (pc := 148) X dX10_goOn_148 ?_
  refine ao_iload_n (pc := 149) X dX10_goOn_149 rfl ?_
  refine ao_iconst (pc := 150) X dX10_goOn_150 ic_1 ?_
  refine ao_iload (pc := 151) X dX10_goOn_151 rfl ?_
  refine ao_ishl (pc := 153) X dX10_goOn_153 ?_
  refine ao_ior (pc := 154) X dX10_goOn_154 ?_
  refine ao_iload_n (pc := 155) X dX10_goOn_155 rfl ?_
  refine ao_aload_n (pc := 156) X dX10_goOn_156 rfl ?_
  refine ao_iload (pc := 157) X dX10_goOn_157 rfl ?_
  refine ao_iload (pc := 159) X dX10_goOn_159 rfl ?_
  refine ao_callVI (pc := 161) (As := [.int p4, .int p6]) (st := [.int p3, .int (p2 ||| ((1 : Int32) <<< (p4 &&& 31))), .int (p1 + (1 : Int32)), .ref (eAd E 31)]) X hl0 dX10_goOn_161 yv_X10_gainOf so_31 ml_RX10_78 (mX10_gainOf_31 hI p4 p6 m10) (by omega) rfl rfl (Nat.le_of_ble_eq_true rfl) (fun r11 m12 => ?_)
  refine ao_iadd (pc := 164) X dX10_goOn_164 ?_
  refine ao_callVV (pc := 165) (As := [.int (p1 + (1 : Int32)), .int (p2 ||| ((1 : Int32) <<< (p4 &&& 31))), .int (p3 + r11)]) (st := []) X hl0 dX10_goOn_165 yv_X10_goOn so_31 ml_RX10_60 (hrc (p1 + (1 : Int32)) (p2 ||| ((1 : Int32) <<< (p4 &&& 31))) (p3 + r11) m12) (by omega) rfl rfl (Nat.le_of_ble_eq_true rfl) (fun r13 m14 => ?_)
  refine ao_iinc (pc := 168) (k := 4) (v := p4 + (1 : Int32)) (lv' := [(4, .int (p4 + (1 : Int32))), (0, .ref (eAd E 31)), (1, .int p1), (2, .int p2), (3, .int p3), (6, .int p6)]) X dX10_goOn_168 rfl (ii_ic ic_1) (by decide) rfl ?_
  refine ao_goto (pc := 171) (tgt := 66) X dX10_goOn_171 (by decide) ?_
  refine ao_sub [1, 2, 3, 4, 0] rfl ?_
  exact hk66 p1 p2 p3 (p4 + (1 : Int32)) m14
def fX10_goOn_31_b117 (rc : Int32 → Int32 → Int32 → Mem → Option (Unit × Mem)) (k66 : Int32 → Int32 → Int32 → Int32 → Mem → Option (Unit × Mem)) (p1 : Int32) (p2 : Int32) (p3 : Int32) (p4 : Int32) (p5 : Int32) (q0 : Int32) (μ : Mem) : Option (Unit × Mem) :=
  if p5 = 0 then (k66 p1 p2 p3 (p4 + (1 : Int32)) μ)
  else if (gI μ 31 5) = 0 then (if q0 = (4 : Int32) then (fX10_goOn_31_b137 rc k66 p1 p2 p3 p4 q0 μ)
      else k66 p1 p2 p3 (p4 + (1 : Int32)) μ)
    else fX10_goOn_31_b137 rc k66 p1 p2 p3 p4 q0 μ
set_option maxRecDepth 100000 in
set_option maxHeartbeats 4000000 in
theorem bX10_goOn_31_117 {E : En} {l : Launch} {Z : Zt} (hI : Inj E) (hl0 : lZ l Z) {dT : Nat} (X : Cx E Z cX10_goOn RX10 7 (dT + 1)) (hr : rtOf Z = none) (hB : 4 ≤ dT) {rc : Int32 → Int32 → Int32 → Mem → Option (Unit × Mem)} (hrc : ∀ (v1 : Int32) (v2 : Int32) (v3 : Int32) (m : Mem), MtV E l yX10_goOn cX10_goOn 7 (none) dT [.ref (eAd E 31), .int v1, .int v2, .int v3] m (rc v1 v2 v3 m)) {k66 : Int32 → Int32 → Int32 → Int32 → Mem → Option (Unit × Mem)} (hk66 : ∀ (p1 : Int32) (p2 : Int32) (p3 : Int32) (p4 : Int32) (m : Mem), AO E Z 7 (QV E Z) 66 [(0, .ref (eAd E 31)), (1, .int p1), (2, .int p2), (3, .int p3), (4, .int p4)] [] m (k66 p1 p2 p3 p4 m)) (p1 : Int32) (p2 : Int32) (p3 : Int32) (p4 : Int32) (p5 : Int32) (q0 : Int32) (μ : Mem) : AO E Z 7 (QV E Z) 117 [(0, .ref (eAd E 31)), (1, .int p1), (2, .int p2), (3, .int p3), (4, .int p4), (5, .int p5)] [.int q0] μ (fX10_goOn_31_b117 rc k66 p1 p2 p3 p4 p5 q0 μ) := by
  unfold fX10_goOn_31_b117
  refine ao_istore (pc := 117) (lv' := [(6, .int q0), (0, .ref (eAd E 31)), (1, .int p1), (2, .int p2), (3, .int p3), (4, .int p4), (5, .int p5)]) X dX10_goOn_117 (by decide) rfl ?_
  refine ao_iload (pc := 119) X dX10_goOn_119 rfl ?_
  refine ao_if_eq (pc := 121) (tgt := 168) X dX10_goOn_121 (by decide) (fun _ => ?_) (fun _ => ?_)
  · refine ao_iinc (pc := 168) (k := 5) (v := p4 + (1 : Int32)) (lv' := [(4, .int (p4 + (1 : Int32))), (6, .int q0), (0, .ref (eAd E 31)), (1, .int p1), (2, .int p2), (3, .int p3), (5, .int p5)]) X dX10_goOn_168 rfl (ii_ic ic_1) (by decide) rfl ?_
    refine ao_goto (pc := 171) (tgt := 66) X dX10_goOn_171 (by decide) ?_
    refine ao_sub [2, 3, 4, 5, 0] rfl ?_
    exact hk66 p1 p2 p3 (p4 + (1 : Int32)) μ
  · refine ao_aload_n (pc := 124) X dX10_goOn_124 rfl ?_
    refine ao_getI (pc := 125) X dX10_goOn_125 fl_RX10_28 sf_31_5 ?_
    refine ao_if_ne (pc := 128) (tgt := 137) X dX10_goOn_128 (by decide) (fun _ => ?_) (fun _ => ?_)
    · refine ao_sub [1, 2, 3, 4, 5, 0] rfl ?_
      exact bX10_goOn_31_137 hI hl0 X hr hB hrc hk66 p1 p2 p3 p4 q0 μ
    · refine ao_iload (pc := 131) X dX10_goOn_131 rfl ?_
      refine ao_iconst (pc := 133) X dX10_goOn_133 ic_4 ?_
      refine ao_icmp_ne (pc := 134) (tgt := 168) X dX10_goOn_134 (by decide) (fun _ => ?_) (fun _ => ?_)
      · refine ao_iinc (pc := 168) (k := 5) (v := p4 + (1 : Int32)) (lv' := [(4, .int (p4 + (1 : Int32))), (6, .int q0), (0, .ref (eAd E 31)), (1, .int p1), (2, .int p2), (3, .int p3), (5, .int p5)]) X dX10_goOn_168 rfl (ii_ic ic_1) (by decide) rfl ?_
        refine ao_goto (pc := 171) (tgt := 66) X dX10_goOn_171 (by decide) ?_
        refine ao_sub [2, 3, 4, 5, 0] rfl ?_
        exact hk66 p1 p2 p3 (p4 + (1 : Int32)) μ
      · refine ao_sub [1, 2, 3, 4, 5, 0] rfl ?_
        exact bX10_goOn_31_137 hI hl0 X hr hB hrc hk66 p1 p2 p3 p4 q0 μ
def fX10_goOn_31_b96 (rc : Int32 → Int32 → Int32 → Mem → Option (Unit × Mem)) (k66 : Int32 → Int32 → Int32 → Int32 → Mem → Option (Unit × Mem)) (p1 : Int32) (p2 : Int32) (p3 : Int32) (p4 : Int32) (q0 : Int32) (μ : Mem) : Option (Unit × Mem) :=
  if q0 = 0 then (fX10_goOn_31_b117 rc k66 p1 p2 p3 p4 q0 (3 : Int32) μ)
  else bnd (fX4_verdictIn_33 p4 p1 μ) fun r6 m7 =>
    fX10_goOn_31_b117 rc k66 p1 p2 p3 p4 q0 r6 m7
set_option maxRecDepth 100000 in
set_option maxHeartbeats 4000000 in
theorem bX10_goOn_31_96 {E : En} {l : Launch} {Z : Zt} (hI : Inj E) (hl0 : lZ l Z) {dT : Nat} (X : Cx E Z cX10_goOn RX10 7 (dT + 1)) (hr : rtOf Z = none) (hB : 4 ≤ dT) {rc : Int32 → Int32 → Int32 → Mem → Option (Unit × Mem)} (hrc : ∀ (v1 : Int32) (v2 : Int32) (v3 : Int32) (m : Mem), MtV E l yX10_goOn cX10_goOn 7 (none) dT [.ref (eAd E 31), .int v1, .int v2, .int v3] m (rc v1 v2 v3 m)) {k66 : Int32 → Int32 → Int32 → Int32 → Mem → Option (Unit × Mem)} (hk66 : ∀ (p1 : Int32) (p2 : Int32) (p3 : Int32) (p4 : Int32) (m : Mem), AO E Z 7 (QV E Z) 66 [(0, .ref (eAd E 31)), (1, .int p1), (2, .int p2), (3, .int p3), (4, .int p4)] [] m (k66 p1 p2 p3 p4 m)) (p1 : Int32) (p2 : Int32) (p3 : Int32) (p4 : Int32) (q0 : Int32) (μ : Mem) : AO E Z 7 (QV E Z) 96 [(0, .ref (eAd E 31)), (1, .int p1), (2, .int p2), (3, .int p3), (4, .int p4)] [.int q0] μ (fX10_goOn_31_b96 rc k66 p1 p2 p3 p4 q0 μ) := by
  unfold fX10_goOn_31_b96
  refine ao_istore (pc := 96) (lv' := [(5, .int q0), (0, .ref (eAd E 31)), (1, .int p1), (2, .int p2), (3, .int p3), (4, .int p4)]) X dX10_goOn_96 (by decide) rfl ?_
  refine ao_iload (pc := 98) X dX10_goOn_98 rfl ?_
  refine ao_if_eq (pc := 100) (tgt := 116) X dX10_goOn_100 (by decide) (fun _ => ?_) (fun _ => ?_)
  · refine ao_iconst (pc := 116) X dX10_goOn_116 ic_3 ?_
    refine ao_sub [1, 2, 3, 4, 5, 0] rfl ?_
    exact bX10_goOn_31_117 hI hl0 X hr hB hrc hk66 p1 p2 p3 p4 q0 (3 : Int32) μ
  · refine ao_aload_n (pc := 103) X dX10_goOn_103 rfl ?_
    refine ao_getR (pc := 104) X dX10_goOn_104 fl_RX10_32 sf_31_6 ?_
    refine ao_iload (pc := 107) X dX10_goOn_107 rfl ?_
    refine ao_iload_n (pc := 109) X dX10_goOn_109 rfl ?_
    refine ao_callVI (pc := 110) (As := [.int p4, .int p1]) (st := []) X hl0 dX10_goOn_110 yv_X4_verdictIn so_33 ml_RX10_75 (mX4_verdictIn_33 hI p4 p1 μ) (by omega) rfl rfl (Nat.le_of_ble_eq_true rfl) (fun r6 m7 => ?_)
    refine ao_goto (pc := 113) (tgt := 117) X dX10_goOn_113 (by decide) ?_
    refine ao_sub [1, 2, 3, 4, 5, 0] rfl ?_
    exact bX10_goOn_31_117 hI hl0 X hr hB hrc hk66 p1 p2 p3 p4 q0 r6 m7
def fX10_goOn_31_b95 (rc : Int32 → Int32 → Int32 → Mem → Option (Unit × Mem)) (k66 : Int32 → Int32 → Int32 → Int32 → Mem → Option (Unit × Mem)) (p1 : Int32) (p2 : Int32) (p3 : Int32) (p4 : Int32) (μ : Mem) : Option (Unit × Mem) :=
  fX10_goOn_31_b96 rc k66 p1 p2 p3 p4 (0 : Int32) μ
set_option maxRecDepth 100000 in
set_option maxHeartbeats 4000000 in
theorem bX10_goOn_31_95 {E : En} {l : Launch} {Z : Zt} (hI : Inj E) (hl0 : lZ l Z) {dT : Nat} (X : Cx E Z cX10_goOn RX10 7 (dT + 1)) (hr : rtOf Z = none) (hB : 4 ≤ dT) {rc : Int32 → Int32 → Int32 → Mem → Option (Unit × Mem)} (hrc : ∀ (v1 : Int32) (v2 : Int32) (v3 : Int32) (m : Mem), MtV E l yX10_goOn cX10_goOn 7 (none) dT [.ref (eAd E 31), .int v1, .int v2, .int v3] m (rc v1 v2 v3 m)) {k66 : Int32 → Int32 → Int32 → Int32 → Mem → Option (Unit × Mem)} (hk66 : ∀ (p1 : Int32) (p2 : Int32) (p3 : Int32) (p4 : Int32) (m : Mem), AO E Z 7 (QV E Z) 66 [(0, .ref (eAd E 31)), (1, .int p1), (2, .int p2), (3, .int p3), (4, .int p4)] [] m (k66 p1 p2 p3 p4 m)) (p1 : Int32) (p2 : Int32) (p3 : Int32) (p4 : Int32) (μ : Mem) : AO E Z 7 (QV E Z) 95 [(0, .ref (eAd E 31)), (1, .int p1), (2, .int p2), (3, .int p3), (4, .int p4)] [] μ (fX10_goOn_31_b95 rc k66 p1 p2 p3 p4 μ) := by
  unfold fX10_goOn_31_b95
  refine ao_iconst (pc := 95) X dX10_goOn_95 ic_0 ?_
  refine ao_sub [0, 1, 2, 3, 4] rfl ?_
  exact bX10_goOn_31_96 hI hl0 X hr hB hrc hk66 p1 p2 p3 p4 (0 : Int32) μ
def fX10_goOn_31_b66 (rc : Int32 → Int32 → Int32 → Mem → Option (Unit × Mem)) : Nat → Int32 → Int32 → Int32 → Int32 → Mem → Option (Unit × Mem)
  | 0, _, _, _, _, _ => none
  | n + 1, p1, p2, p3, p4, μ =>
  if (6 : Int32) ≤ p4 then (some ((), μ))
  else bnd (fX10_isPleaded_31 p4 μ) fun r4 m5 =>
    if r4 = 0 then (fX10_goOn_31_b95 rc (fun p1 p2 p3 p4 m => fX10_goOn_31_b66 rc n p1 p2 p3 p4 m) p1 p2 p3 p4 m5)
    else if ((p2 >>> (p4 &&& 31)) &&& (1 : Int32)) = 0 then (fX10_goOn_31_b96 rc (fun p1 p2 p3 p4 m => fX10_goOn_31_b66 rc n p1 p2 p3 p4 m) p1 p2 p3 p4 (1 : Int32) m5)
      else fX10_goOn_31_b95 rc (fun p1 p2 p3 p4 m => fX10_goOn_31_b66 rc n p1 p2 p3 p4 m) p1 p2 p3 p4 m5
set_option maxRecDepth 100000 in
set_option maxHeartbeats 4000000 in
theorem bX10_goOn_31_66 {E : En} {l : Launch} {Z : Zt} (hI : Inj E) (hl0 : lZ l Z) {dT : Nat} (X : Cx E Z cX10_goOn RX10 7 (dT + 1)) (hr : rtOf Z = none) (hB : 4 ≤ dT) {rc : Int32 → Int32 → Int32 → Mem → Option (Unit × Mem)} (hrc : ∀ (v1 : Int32) (v2 : Int32) (v3 : Int32) (m : Mem), MtV E l yX10_goOn cX10_goOn 7 (none) dT [.ref (eAd E 31), .int v1, .int v2, .int v3] m (rc v1 v2 v3 m)) : ∀ (n : Nat) (p1 : Int32) (p2 : Int32) (p3 : Int32) (p4 : Int32) (μ : Mem), AO E Z 7 (QV E Z) 66 [(0, .ref (eAd E 31)), (1, .int p1), (2, .int p2), (3, .int p3), (4, .int p4)] [] μ (fX10_goOn_31_b66 rc n p1 p2 p3 p4 μ) := by
  intro n
  induction n with
  | zero =>
    intros
    exact ao_none
  | succ n ih =>
    intro p1 p2 p3 p4 μ
    rw [fX10_goOn_31_b66]
    refine ao_iload (pc := 66) X dX10_goOn_66 rfl ?_
    refine ao_bipush (pc := 68) X dX10_goOn_68 bp_6 ?_
    refine ao_icmp_ge (pc := 70) (tgt := 174) X dX10_goOn_70 (by decide) (fun _ => ?_) (fun _ => ?_)
    · exact ao_vret (pc := 174) X hr dX10_goOn_174
    · refine ao_aload_n (pc := 73) X dX10_goOn_73 rfl ?_
      refine ao_iload (pc := 74) X dX10_goOn_74 rfl ?_
      refine ao_callVI (pc := 76) (As := [.int p4]) (st := []) X hl0 dX10_goOn_76 yv_X10_isPleaded so_31 ml_RX10_44 (mX10_isPleaded_31 hI p4 μ) (by omega) rfl rfl (Nat.le_of_ble_eq_true rfl) (fun r4 m5 => ?_)
      refine ao_if_eq (pc := 79) (tgt := 95) X dX10_goOn_79 (by decide) (fun _ => ?_) (fun _ => ?_)
      · refine ao_sub [0, 1, 2, 3, 4] rfl ?_
        exact bX10_goOn_31_95 hI hl0 X hr hB hrc ih p1 p2 p3 p4 m5
      · refine ao_iload_n (pc := 82) X dX10_goOn_82 rfl ?_
        refine ao_iload (pc := 83) X dX10_goOn_83 rfl ?_
        refine ao_ishr (pc := 85) X dX10_goOn_85 ?_
        refine ao_iconst (pc := 86) X dX10_goOn_86 ic_1 ?_
        refine ao_iand (pc := 87) X dX10_goOn_87 ?_
        refine ao_if_ne (pc := 88) (tgt := 95) X dX10_goOn_88 (by decide) (fun _ => ?_) (fun _ => ?_)
        · refine ao_sub [0, 1, 2, 3, 4] rfl ?_
          exact bX10_goOn_31_95 hI hl0 X hr hB hrc ih p1 p2 p3 p4 m5
        · refine ao_iconst (pc := 91) X dX10_goOn_91 ic_1 ?_
          refine ao_goto (pc := 92) (tgt := 96) X dX10_goOn_92 (by decide) ?_
          refine ao_sub [0, 1, 2, 3, 4] rfl ?_
          exact bX10_goOn_31_96 hI hl0 X hr hB hrc ih p1 p2 p3 p4 (1 : Int32) m5
def fX10_goOn_31_b48 (rc : Int32 → Int32 → Int32 → Mem → Option (Unit × Mem)) (p1 : Int32) (p2 : Int32) (p3 : Int32) (μ : Mem) : Option (Unit × Mem) :=
  if (gI μ 31 4) ≤ p1 then (some ((), μ))
  else if p1 < (6 : Int32) then (fX10_goOn_31_b66 rc FU p1 p2 p3 (0 : Int32) μ)
    else some ((), μ)
set_option maxRecDepth 100000 in
set_option maxHeartbeats 4000000 in
theorem bX10_goOn_31_48 {E : En} {l : Launch} {Z : Zt} (hI : Inj E) (hl0 : lZ l Z) {dT : Nat} (X : Cx E Z cX10_goOn RX10 7 (dT + 1)) (hr : rtOf Z = none) (hB : 4 ≤ dT) {rc : Int32 → Int32 → Int32 → Mem → Option (Unit × Mem)} (hrc : ∀ (v1 : Int32) (v2 : Int32) (v3 : Int32) (m : Mem), MtV E l yX10_goOn cX10_goOn 7 (none) dT [.ref (eAd E 31), .int v1, .int v2, .int v3] m (rc v1 v2 v3 m)) (p1 : Int32) (p2 : Int32) (p3 : Int32) (μ : Mem) : AO E Z 7 (QV E Z) 48 [(0, .ref (eAd E 31)), (1, .int p1), (2, .int p2), (3, .int p3)] [] μ (fX10_goOn_31_b48 rc p1 p2 p3 μ) := by
  unfold fX10_goOn_31_b48
  refine ao_iload_n (pc := 48) X dX10_goOn_48 rfl ?_
  refine ao_aload_n (pc := 49) X dX10_goOn_49 rfl ?_
  refine ao_getI (pc := 50) X dX10_goOn_50 fl_RX10_25 sf_31_4 ?_
  refine ao_icmp_ge (pc := 53) (tgt := 62) X dX10_goOn_53 (by decide) (fun _ => ?_) (fun _ => ?_)
  · exact ao_vret (pc := 62) X hr dX10_goOn_62
  · refine ao_iload_n (pc := 56) X dX10_goOn_56 rfl ?_
    refine ao_bipush (pc := 57) X dX10_goOn_57 bp_6 ?_
    refine ao_icmp_lt (pc := 59) (tgt := 63) X dX10_goOn_59 (by decide) (fun _ => ?_) (fun _ => ?_)
    · refine ao_iconst (pc := 63) X dX10_goOn_63 ic_0 ?_
      refine ao_istore (pc := 64) (lv' := [(4, .int (0 : Int32)), (0, .ref (eAd E 31)), (1, .int p1), (2, .int p2), (3, .int p3)]) X dX10_goOn_64 (by decide) rfl ?_
      refine ao_sub [1, 2, 3, 4, 0] rfl ?_
      exact bX10_goOn_31_66 hI hl0 X hr hB hrc FU p1 p2 p3 (0 : Int32) μ
    · exact ao_vret (pc := 62) X hr dX10_goOn_62
def fX10_goOn_31_b24 (rc : Int32 → Int32 → Int32 → Mem → Option (Unit × Mem)) (p1 : Int32) (p2 : Int32) (p3 : Int32) (μ : Mem) : Option (Unit × Mem) :=
  gd (cpOK (0 : Int32) (0 : Int32) p1 6 6) (lt (sC μ 119 118 (ix (0 : Int32)) (ix (0 : Int32)) (ix p1)) fun m1 =>
  lt (sI m1 31 1 p1) fun m2 =>
  lt (sI m2 31 2 p3) fun m3 =>
  fX10_goOn_31_b48 rc p1 p2 p3 m3)
set_option maxRecDepth 100000 in
set_option maxHeartbeats 4000000 in
theorem bX10_goOn_31_24 {E : En} {l : Launch} {Z : Zt} (hI : Inj E) (hl0 : lZ l Z) {dT : Nat} (X : Cx E Z cX10_goOn RX10 7 (dT + 1)) (hr : rtOf Z = none) (hB : 4 ≤ dT) {rc : Int32 → Int32 → Int32 → Mem → Option (Unit × Mem)} (hrc : ∀ (v1 : Int32) (v2 : Int32) (v3 : Int32) (m : Mem), MtV E l yX10_goOn cX10_goOn 7 (none) dT [.ref (eAd E 31), .int v1, .int v2, .int v3] m (rc v1 v2 v3 m)) (p1 : Int32) (p2 : Int32) (p3 : Int32) (μ : Mem) : AO E Z 7 (QV E Z) 24 [(0, .ref (eAd E 31)), (1, .int p1), (2, .int p2), (3, .int p3)] [] μ (fX10_goOn_31_b24 rc p1 p2 p3 μ) := by
  unfold fX10_goOn_31_b24
  refine ao_aload_n (pc := 24) X dX10_goOn_24 rfl ?_
  refine ao_getR (pc := 25) X dX10_goOn_25 fl_RX10_22 sf_31_3 ?_
  refine ao_iconst (pc := 28) X dX10_goOn_28 ic_0 ?_
  refine ao_aload_n (pc := 29) X dX10_goOn_29 rfl ?_
  refine ao_getR (pc := 30) X dX10_goOn_30 fl_RX10_9 sf_31_0 ?_
  refine ao_iconst (pc := 33) X dX10_goOn_33 ic_0 ?_
  refine ao_iload_n (pc := 34) X dX10_goOn_34 rfl ?_
  refine ao_copy (pc := 35) X dX10_goOn_35 ml_RX10_69 CpyW_ok sa_119 sa_118 (Nat.le_of_ble_eq_true rfl) ?_
  refine ao_lt (fun m1 => ?_)
  refine ao_aload_n (pc := 38) X dX10_goOn_38 rfl ?_
  refine ao_iload_n (pc := 39) X dX10_goOn_39 rfl ?_
  refine ao_putI (pc := 40) X dX10_goOn_40 fp_RX10_15 sf_31_1 ?_
  refine ao_lt (fun m2 => ?_)
  refine ao_aload_n (pc := 43) X dX10_goOn_43 rfl ?_
  refine ao_iload_n (pc := 44) X dX10_goOn_44 rfl ?_
  refine ao_putI (pc := 45) X dX10_goOn_45 fp_RX10_19 sf_31_2 ?_
  refine ao_lt (fun m3 => ?_)
  refine ao_sub [0, 1, 2, 3] rfl ?_
  exact bX10_goOn_31_48 hI hl0 X hr hB hrc p1 p2 p3 m3
def fX10_goOn_31_r (rc : Int32 → Int32 → Int32 → Mem → Option (Unit × Mem)) (v1 : Int32) (v2 : Int32) (v3 : Int32) (μ : Mem) : Option (Unit × Mem) :=
  if (gI μ 31 2) < v3 then (fX10_goOn_31_b24 rc v1 v2 v3 μ)
  else if v3 = (gI μ 31 2) then (if (gI μ 31 1) ≤ v1 then (fX10_goOn_31_b48 rc v1 v2 v3 μ)
      else fX10_goOn_31_b24 rc v1 v2 v3 μ)
    else fX10_goOn_31_b48 rc v1 v2 v3 μ
set_option maxRecDepth 100000 in
set_option maxHeartbeats 4000000 in
theorem mX10_goOn_31_r {E : En} {l : Launch} (hI : Inj E) {dT : Nat} (hB : 4 ≤ dT) {rc : Int32 → Int32 → Int32 → Mem → Option (Unit × Mem)} (hrc : ∀ (v1 : Int32) (v2 : Int32) (v3 : Int32) (m : Mem), MtV E l yX10_goOn cX10_goOn 7 (none) dT [.ref (eAd E 31), .int v1, .int v2, .int v3] m (rc v1 v2 v3 m)) (v1 : Int32) (v2 : Int32) (v3 : Int32) (μ : Mem) : MtV E l yX10_goOn cX10_goOn 7 (none) (dT + 1) [.ref (eAd E 31), .int v1, .int v2, .int v3] μ (fX10_goOn_31_r rc v1 v2 v3 μ) := by
  refine mtV_of (own := RX10) [(0, .ref (eAd E 31)), (1, .int v1), (2, .int v2), (3, .int v3)] hI rfl (by decide) (by omega) (Nat.le_of_ble_eq_true rfl) rfl (fun Z hl0 X hr => ?_)
  unfold fX10_goOn_31_r
  refine ao_iload_n (pc := 0) X dX10_goOn_0 rfl ?_
  refine ao_aload_n (pc := 1) X dX10_goOn_1 rfl ?_
  refine ao_getI (pc := 2) X dX10_goOn_2 fl_RX10_19 sf_31_2 ?_
  refine ao_icmp_gt (pc := 5) (tgt := 24) X dX10_goOn_5 (by decide) (fun _ => ?_) (fun _ => ?_)
  · refine ao_sub [0, 1, 2, 3] rfl ?_
    exact bX10_goOn_31_24 hI hl0 X hr hB hrc v1 v2 v3 μ
  · refine ao_iload_n (pc := 8) X dX10_goOn_8 rfl ?_
    refine ao_aload_n (pc := 9) X dX10_goOn_9 rfl ?_
    refine ao_getI (pc := 10) X dX10_goOn_10 fl_RX10_19 sf_31_2 ?_
    refine ao_icmp_ne (pc := 13) (tgt := 48) X dX10_goOn_13 (by decide) (fun _ => ?_) (fun _ => ?_)
    · refine ao_sub [0, 1, 2, 3] rfl ?_
      exact bX10_goOn_31_48 hI hl0 X hr hB hrc v1 v2 v3 μ
    · refine ao_iload_n (pc := 16) X dX10_goOn_16 rfl ?_
      refine ao_aload_n (pc := 17) X dX10_goOn_17 rfl ?_
      refine ao_getI (pc := 18) X dX10_goOn_18 fl_RX10_15 sf_31_1 ?_
      refine ao_icmp_ge (pc := 21) (tgt := 48) X dX10_goOn_21 (by decide) (fun _ => ?_) (fun _ => ?_)
      · refine ao_sub [0, 1, 2, 3] rfl ?_
        exact bX10_goOn_31_48 hI hl0 X hr hB hrc v1 v2 v3 μ
      · refine ao_sub [0, 1, 2, 3] rfl ?_
        exact bX10_goOn_31_24 hI hl0 X hr hB hrc v1 v2 v3 μ
def fX10_goOn_31 : Nat → Int32 → Int32 → Int32 → Mem → Option (Unit × Mem)
  | 0, _, _, _, _ => none
  | n + 1, v1, v2, v3, μ => fX10_goOn_31_r (fun v1 v2 v3 m => fX10_goOn_31 n v1 v2 v3 m) v1 v2 v3 μ
theorem dBX10_goOn_31 (n : Nat) : 4 ≤ 4 + 1 * n := Nat.le_add_right _ _
theorem mX10_goOn_31 {E : En} {l : Launch} (hI : Inj E) : ∀ (n : Nat) (v1 : Int32) (v2 : Int32) (v3 : Int32) (μ : Mem), MtV E l yX10_goOn cX10_goOn 7 (none) (4 + 1 * n) [.ref (eAd E 31), .int v1, .int v2, .int v3] μ (fX10_goOn_31 n v1 v2 v3 μ) := by
  intro n
  induction n with
  | zero =>
    intro v1 v2 v3 μ r μ' h
    cases h
  | succ n ih =>
    intro v1 v2 v3 μ
    exact mX10_goOn_31_r hI (dBX10_goOn_31 n) ih v1 v2 v3 μ
def fX10_find_31 (v1 : Int32) (v2 : Int32) (μ : Mem) : Option (Unit × Mem) :=
  lt (sI μ 31 4 (imin v1 (6 : Int32))) fun m1 =>
  lt (sI m1 31 1 (0 : Int32)) fun m2 =>
  lt (sI m2 31 2 v2) fun m3 =>
  bnd (fX10_goOn_31 FR (0 : Int32) (0 : Int32) v2 m3) fun r4 m5 =>
  some ((), m5)
set_option maxRecDepth 100000 in
set_option maxHeartbeats 4000000 in
theorem mX10_find_31 {E : En} {l : Launch} (hI : Inj E) (v1 : Int32) (v2 : Int32) (μ : Mem) : MtV E l yX10_find cX10_find 3 (none) 105 [.ref (eAd E 31), .int v1, .int v2] μ (fX10_find_31 v1 v2 μ) := by
  refine mtV_of (own := RX10) [(0, .ref (eAd E 31)), (1, .int v1), (2, .int v2)] hI rfl (by decide) (Nat.le_of_ble_eq_true rfl) (Nat.le_of_ble_eq_true rfl) rfl (fun Z hl0 X hr => ?_)
  unfold fX10_find_31
  refine ao_aload_n (pc := 0) X dX10_find_0 rfl ?_
  refine ao_iload_n (pc := 1) X dX10_find_1 rfl ?_
  refine ao_bipush (pc := 2) X dX10_find_2 bp_6 ?_
  refine ao_min (pc := 4) X dX10_find_4 ml_RX10_54 MinW_ok (Nat.le_of_ble_eq_true rfl) ?_
  refine ao_putI (pc := 7) X dX10_find_7 fp_RX10_25 sf_31_4 ?_
  refine ao_lt (fun m1 => ?_)
  refine ao_aload_n (pc := 10) X dX10_find_10 rfl ?_
  refine ao_iconst (pc := 11) X dX10_find_11 ic_0 ?_
  refine ao_putI (pc := 12) X dX10_find_12 fp_RX10_15 sf_31_1 ?_
  refine ao_lt (fun m2 => ?_)
  refine ao_aload_n (pc := 15) X dX10_find_15 rfl ?_
  refine ao_iload_n (pc := 16) X dX10_find_16 rfl ?_
  refine ao_putI (pc := 17) X dX10_find_17 fp_RX10_19 sf_31_2 ?_
  refine ao_lt (fun m3 => ?_)
  refine ao_aload_n (pc := 20) X dX10_find_20 rfl ?_
  refine ao_iconst (pc := 21) X dX10_find_21 ic_0 ?_
  refine ao_iconst (pc := 22) X dX10_find_22 ic_0 ?_
  refine ao_iload_n (pc := 23) X dX10_find_23 rfl ?_
  refine ao_callVV (pc := 24) (As := [.int (0 : Int32), .int (0 : Int32), .int v2]) (st := []) X hl0 dX10_find_24 yv_X10_goOn so_31 ml_RX10_60 (mX10_goOn_31 hI FR (0 : Int32) (0 : Int32) v2 m3) (by decide) rfl rfl (Nat.le_of_ble_eq_true rfl) (fun r4 m5 => ?_)
  exact ao_vret (pc := 27) X hr dX10_find_27
def fX10_findMostConvicted_31 (v1 : Int32) (μ : Mem) : Option (Unit × Mem) :=
  lt (sI μ 31 5 (0 : Int32)) fun m1 =>
  bnd (fX10_find_31 v1 (0 : Int32) m1) fun r2 m3 =>
  some ((), m3)
set_option maxRecDepth 100000 in
set_option maxHeartbeats 4000000 in
theorem mX10_findMostConvicted_31 {E : En} {l : Launch} (hI : Inj E) (v1 : Int32) (μ : Mem) : MtV E l yX10_findMostConvicted cX10_findMostConvicted 2 (none) 106 [.ref (eAd E 31), .int v1] μ (fX10_findMostConvicted_31 v1 μ) := by
  refine mtV_of (own := RX10) [(0, .ref (eAd E 31)), (1, .int v1)] hI rfl (by decide) (Nat.le_of_ble_eq_true rfl) (Nat.le_of_ble_eq_true rfl) rfl (fun Z hl0 X hr => ?_)
  unfold fX10_findMostConvicted_31
  refine ao_aload_n (pc := 0) X dX10_findMostConvicted_0 rfl ?_
  refine ao_iconst (pc := 1) X dX10_findMostConvicted_1 ic_0 ?_
  refine ao_putZ (pc := 2) X dX10_findMostConvicted_2 fp_RX10_28 sf_31_5 rfl rfl ?_
  refine ao_lt (fun m1 => ?_)
  refine ao_aload_n (pc := 5) X dX10_findMostConvicted_5 rfl ?_
  refine ao_iload_n (pc := 6) X dX10_findMostConvicted_6 rfl ?_
  refine ao_iconst (pc := 7) X dX10_findMostConvicted_7 ic_0 ?_
  refine ao_callVV (pc := 8) (As := [.int v1, .int (0 : Int32)]) (st := []) X hl0 dX10_findMostConvicted_8 yv_X10_find so_31 ml_RX10_40 (mX10_find_31 hI v1 (0 : Int32) m1) (Nat.le_of_ble_eq_true rfl) rfl rfl (Nat.le_of_ble_eq_true rfl) (fun r2 m3 => ?_)
  exact ao_vret (pc := 11) X hr dX10_findMostConvicted_11
def fX11_tellTurns_0_b9 : Nat → Int32 → Mem → Option (Unit × Mem)
  | 0, _, _ => none
  | n + 1, p1, μ =>
  if (gI μ 31 1) ≤ p1 then (some ((), μ))
  else gd (inb p1 6) (bnd (fX7_add_3 (Int32.toInt64 (gI μ 118 (ix p1))) μ) fun r3 m4 =>
    fX11_tellTurns_0_b9 n (p1 + (1 : Int32)) m4)
set_option maxRecDepth 100000 in
set_option maxHeartbeats 4000000 in
theorem bX11_tellTurns_0_9 {E : En} {l : Launch} {Z : Zt} (hI : Inj E) (hl0 : lZ l Z) (X : Cx E Z cX11_tellTurns RX11 2 2) (hr : rtOf Z = none) : ∀ (n : Nat) (p1 : Int32) (μ : Mem), AO E Z 2 (QV E Z) 9 [(0, .ref (eAd E 0)), (1, .int p1)] [] μ (fX11_tellTurns_0_b9 n p1 μ) := by
  intro n
  induction n with
  | zero =>
    intros
    exact ao_none
  | succ n ih =>
    intro p1 μ
    rw [fX11_tellTurns_0_b9]
    refine ao_iload_n (pc := 9) X dX11_tellTurns_9 rfl ?_
    refine ao_aload_n (pc := 10) X dX11_tellTurns_10 rfl ?_
    refine ao_getR (pc := 11) X dX11_tellTurns_11 fl_RX11_84 sf_0_10 ?_
    refine ao_getI (pc := 14) X dX11_tellTurns_14 fl_RX11_421 sf_31_1 ?_
    refine ao_icmp_ge (pc := 17) (tgt := 43) X dX11_tellTurns_17 (by decide) (fun _ => ?_) (fun _ => ?_)
    · exact ao_vret (pc := 43) X hr dX11_tellTurns_43
    · refine ao_aload_n (pc := 20) X dX11_tellTurns_20 rfl ?_
      refine ao_getR (pc := 21) X dX11_tellTurns_21 fl_RX11_19 sf_0_1 ?_
      refine ao_aload_n (pc := 24) X dX11_tellTurns_24 rfl ?_
      refine ao_getR (pc := 25) X dX11_tellTurns_25 fl_RX11_84 sf_0_10 ?_
      refine ao_getR (pc := 28) X dX11_tellTurns_28 fl_RX11_424 sf_31_0 ?_
      refine ao_iload_n (pc := 31) X dX11_tellTurns_31 rfl ?_
      refine ao_iald (pc := 32) X dX11_tellTurns_32 sa_118 ?_
      refine ao_i2l (pc := 33) X dX11_tellTurns_33 ?_
      refine ao_callVV (pc := 34) (As := [.long (Int32.toInt64 (gI μ 118 (ix p1)))]) (st := []) X hl0 dX11_tellTurns_34 yv_X7_add so_3 ml_RX11_290 (mX7_add_3 hI (Int32.toInt64 (gI μ 118 (ix p1))) μ) (Nat.le_of_ble_eq_true rfl) rfl rfl (Nat.le_of_ble_eq_true rfl) (fun r3 m4 => ?_)
      refine ao_iinc (pc := 37) (k := 1) (v := p1 + (1 : Int32)) (lv' := [(1, .int (p1 + (1 : Int32))), (0, .ref (eAd E 0))]) X dX11_tellTurns_37 rfl (ii_ic ic_1) (by decide) rfl ?_
      refine ao_goto (pc := 40) (tgt := 9) X dX11_tellTurns_40 (by decide) ?_
      refine ao_sub [1, 0] rfl ?_
      exact ih (p1 + (1 : Int32)) m4
def fX11_tellTurns_0 (μ : Mem) : Option (Unit × Mem) :=
  bnd (fX7_clear_3 μ) fun r1 m2 =>
  fX11_tellTurns_0_b9 FU (0 : Int32) m2
set_option maxRecDepth 100000 in
set_option maxHeartbeats 4000000 in
theorem mX11_tellTurns_0 {E : En} {l : Launch} (hI : Inj E) (μ : Mem) : MtV E l yX11_tellTurns cX11_tellTurns 2 (none) 2 [.ref (eAd E 0)] μ (fX11_tellTurns_0 μ) := by
  refine mtV_of (own := RX11) [(0, .ref (eAd E 0))] hI rfl (by decide) (Nat.le_of_ble_eq_true rfl) (Nat.le_of_ble_eq_true rfl) rfl (fun Z hl0 X hr => ?_)
  unfold fX11_tellTurns_0
  refine ao_aload_n (pc := 0) X dX11_tellTurns_0 rfl ?_
  refine ao_getR (pc := 1) X dX11_tellTurns_1 fl_RX11_19 sf_0_1 ?_
  refine ao_callVV (pc := 4) (As := []) (st := []) X hl0 dX11_tellTurns_4 yv_X7_clear so_3 ml_RX11_284 (mX7_clear_3 hI μ) (Nat.le_of_ble_eq_true rfl) rfl rfl (Nat.le_of_ble_eq_true rfl) (fun r1 m2 => ?_)
  refine ao_iconst (pc := 7) X dX11_tellTurns_7 ic_0 ?_
  refine ao_istore_n (pc := 8) (lv' := [(1, .int (0 : Int32)), (0, .ref (eAd E 0))]) X dX11_tellTurns_8 rfl (by decide) rfl ?_
  refine ao_sub [1, 0] rfl ?_
  exact bX11_tellTurns_0_9 hI hl0 X hr FU (0 : Int32) m2
def fX11_trials_0 (μ : Mem) : Option (Int32 × Mem) :=
  bnd (fX11_daysLeft_0 μ) fun r1 m2 =>
  bnd (fX10_findMostConvicted_31 r1 m2) fun r3 m4 =>
  bnd (fX11_tellTurns_0 m4) fun r5 m6 =>
  some ((gI m6 31 2), m6)
set_option maxRecDepth 100000 in
set_option maxHeartbeats 4000000 in
theorem mX11_trials_0 {E : En} {l : Launch} (hI : Inj E) (μ : Mem) : MtI E l yX11_trials cX11_trials 1 (some .int) 107 [.ref (eAd E 0)] μ (fX11_trials_0 μ) := by
  refine mtI_of (own := RX11) [(0, .ref (eAd E 0))] hI rfl (by decide) (Nat.le_of_ble_eq_true rfl) (Nat.le_of_ble_eq_true rfl) rfl (fun Z hl0 X hr => ?_)
  unfold fX11_trials_0
  refine ao_aload_n (pc := 0) X dX11_trials_0 rfl ?_
  refine ao_getR (pc := 1) X dX11_trials_1 fl_RX11_84 sf_0_10 ?_
  refine ao_aload_n (pc := 4) X dX11_trials_4 rfl ?_
  refine ao_callVI (pc := 5) (As := []) (st := [.ref (eAd E 31)]) X hl0 dX11_trials_5 yv_X11_daysLeft so_0 ml_RX11_315 (mX11_daysLeft_0 hI μ) (Nat.le_of_ble_eq_true rfl) rfl rfl (Nat.le_of_ble_eq_true rfl) (fun r1 m2 => ?_)
  refine ao_callVV (pc := 8) (As := [.int r1]) (st := []) X hl0 dX11_trials_8 yv_X10_findMostConvicted so_31 ml_RX11_322 (mX10_findMostConvicted_31 hI r1 m2) (Nat.le_of_ble_eq_true rfl) rfl rfl (Nat.le_of_ble_eq_true rfl) (fun r3 m4 => ?_)
  refine ao_aload_n (pc := 11) X dX11_trials_11 rfl ?_
  refine ao_callVV (pc := 12) (As := []) (st := []) X hl0 dX11_trials_12 yv_X11_tellTurns so_0 ml_RX11_326 (mX11_tellTurns_0 hI m4) (Nat.le_of_ble_eq_true rfl) rfl rfl (Nat.le_of_ble_eq_true rfl) (fun r5 m6 => ?_)
  refine ao_aload_n (pc := 15) X dX11_trials_15 rfl ?_
  refine ao_getR (pc := 16) X dX11_trials_16 fl_RX11_84 sf_0_10 ?_
  refine ao_getI (pc := 19) X dX11_trials_19 fl_RX11_329 sf_31_2 ?_
  exact ao_iret (pc := 22) X hr dX11_trials_22
def fX12_keepLine_122_b7 : Nat → Int32 → Int32 → Mem → Option (Unit × Mem)
  | 0, _, _, _ => none
  | n + 1, p1, p2, μ =>
  if p1 ≤ p2 then (some ((), μ))
  else gd (inb p2 6) (gd (inb p2 6) (lt (sI μ 144 (ix p2) (gI μ 143 (ix p2))) fun m2 =>
    fX12_keepLine_122_b7 n p1 (p2 + (1 : Int32)) m2))
set_option maxRecDepth 100000 in
set_option maxHeartbeats 4000000 in
theorem bX12_keepLine_122_7 {E : En} {l : Launch} {Z : Zt} (hI : Inj E) (hl0 : lZ l Z) (X : Cx E Z cX12_keepLine RX12 3 1) (hr : rtOf Z = none) : ∀ (n : Nat) (p1 : Int32) (p2 : Int32) (μ : Mem), AO E Z 3 (QV E Z) 7 [(0, .ref (eAd E 122)), (1, .int p1), (2, .int p2)] [] μ (fX12_keepLine_122_b7 n p1 p2 μ) := by
  intro n
  induction n with
  | zero =>
    intros
    exact ao_none
  | succ n ih =>
    intro p1 p2 μ
    rw [fX12_keepLine_122_b7]
    refine ao_iload_n (pc := 7) X dX12_keepLine_7 rfl ?_
    refine ao_iload_n (pc := 8) X dX12_keepLine_8 rfl ?_
    refine ao_icmp_ge (pc := 9) (tgt := 30) X dX12_keepLine_9 (by decide) (fun _ => ?_) (fun _ => ?_)
    · exact ao_vret (pc := 30) X hr dX12_keepLine_30
    · refine ao_aload_n (pc := 12) X dX12_keepLine_12 rfl ?_
      refine ao_getR (pc := 13) X dX12_keepLine_13 fl_RX12_80 sf_122_36 ?_
      refine ao_iload_n (pc := 16) X dX12_keepLine_16 rfl ?_
      refine ao_aload_n (pc := 17) X dX12_keepLine_17 rfl ?_
      refine ao_getR (pc := 18) X dX12_keepLine_18 fl_RX12_77 sf_122_35 ?_
      refine ao_iload_n (pc := 21) X dX12_keepLine_21 rfl ?_
      refine ao_iald (pc := 22) X dX12_keepLine_22 sa_143 ?_
      refine ao_iast (pc := 23) X dX12_keepLine_23 sa_144 ?_
      refine ao_lt (fun m2 => ?_)
      refine ao_iinc (pc := 24) (k := 2) (v := p2 + (1 : Int32)) (lv' := [(2, .int (p2 + (1 : Int32))), (0, .ref (eAd E 122)), (1, .int p1)]) X dX12_keepLine_24 rfl (ii_ic ic_1) (by decide) rfl ?_
      refine ao_goto (pc := 27) (tgt := 7) X dX12_keepLine_27 (by decide) ?_
      refine ao_sub [1, 2, 0] rfl ?_
      exact ih p1 (p2 + (1 : Int32)) m2
def fX12_keepLine_122 (v1 : Int32) (μ : Mem) : Option (Unit × Mem) :=
  lt (sI μ 122 37 v1) fun m1 =>
  fX12_keepLine_122_b7 FU v1 (0 : Int32) m1
set_option maxRecDepth 100000 in
set_option maxHeartbeats 4000000 in
theorem mX12_keepLine_122 {E : En} {l : Launch} (hI : Inj E) (v1 : Int32) (μ : Mem) : MtV E l yX12_keepLine cX12_keepLine 3 (none) 1 [.ref (eAd E 122), .int v1] μ (fX12_keepLine_122 v1 μ) := by
  refine mtV_of (own := RX12) [(0, .ref (eAd E 122)), (1, .int v1)] hI rfl (by decide) (Nat.le_of_ble_eq_true rfl) (Nat.le_of_ble_eq_true rfl) rfl (fun Z hl0 X hr => ?_)
  unfold fX12_keepLine_122
  refine ao_aload_n (pc := 0) X dX12_keepLine_0 rfl ?_
  refine ao_iload_n (pc := 1) X dX12_keepLine_1 rfl ?_
  refine ao_putI (pc := 2) X dX12_keepLine_2 fp_RX12_316 sf_122_37 ?_
  refine ao_lt (fun m1 => ?_)
  refine ao_iconst (pc := 5) X dX12_keepLine_5 ic_0 ?_
  refine ao_istore_n (pc := 6) (lv' := [(2, .int (0 : Int32)), (0, .ref (eAd E 122)), (1, .int v1)]) X dX12_keepLine_6 rfl (by decide) rfl ?_
  refine ao_sub [1, 2, 0] rfl ?_
  exact bX12_keepLine_122_7 hI hl0 X hr FU v1 (0 : Int32) m1
def fX12_goTrials_122_b15 (rc : Int32 → Int32 → Mem → Option (Unit × Mem)) : Nat → Int32 → Int32 → Int32 → Mem → Option (Unit × Mem)
  | 0, _, _, _, _ => none
  | n + 1, p1, p2, p3, μ =>
  if (gI μ 122 1) ≤ p3 then (some ((), μ))
  else bnd (fX12_has p1 p3 μ) fun r3 m4 =>
    if r3 = 0 then (fX12_goTrials_122_b15 rc n p1 p2 (p3 + (1 : Int32)) m4)
    else bnd (fX12_isAhead_122 p2 m4) fun r6 m7 =>
      if r6 = 0 then (fX12_goTrials_122_b15 rc n p1 p2 (p3 + (1 : Int32)) m7)
      else bnd (fX12_proofIn_122_123 p3 p2 m7) fun r9 m10 =>
        if (100 : Int32) ≤ r9 then (gd (inb p2 6) (lt (sI m10 143 (ix p2) p3) fun m11 =>
          bnd (rc (p1 &&& (((1 : Int32) <<< (p3 &&& 31)) ^^^ (-1 : Int32))) (p2 + (1 : Int32)) m11) fun r12 m13 =>
          fX12_goTrials_122_b15 rc n p1 p2 (p3 + (1 : Int32)) m13))
        else fX12_goTrials_122_b15 rc n p1 p2 (p3 + (1 : Int32)) m10
set_option maxRecDepth 100000 in
set_option maxHeartbeats 4000000 in
theorem bX12_goTrials_122_15 {E : En} {l : Launch} {Z : Zt} (hI : Inj E) (hl0 : lZ l Z) {dT : Nat} (X : Cx E Z cX12_goTrials RX12 4 (dT + 1)) (hr : rtOf Z = none) (hB : 2 ≤ dT) {rc : Int32 → Int32 → Mem → Option (Unit × Mem)} (hrc : ∀ (v1 : Int32) (v2 : Int32) (m : Mem), MtV E l yX12_goTrials cX12_goTrials 4 (none) dT [.ref (eAd E 122), .int v1, .int v2] m (rc v1 v2 m)) : ∀ (n : Nat) (p1 : Int32) (p2 : Int32) (p3 : Int32) (μ : Mem), AO E Z 4 (QV E Z) 15 [(0, .ref (eAd E 122)), (1, .int p1), (2, .int p2), (3, .int p3)] [] μ (fX12_goTrials_122_b15 rc n p1 p2 p3 μ) := by
  intro n
  induction n with
  | zero =>
    intros
    exact ao_none
  | succ n ih =>
    intro p1 p2 p3 μ
    rw [fX12_goTrials_122_b15]
    refine ao_iload_n (pc := 15) X dX12_goTrials_15 rfl ?_
    refine ao_aload_n (pc := 16) X dX12_goTrials_16 rfl ?_
    refine ao_getI (pc := 17) X dX12_goTrials_17 fl_RX12_101 sf_122_1 ?_
    refine ao_icmp_ge (pc := 20) (tgt := 84) X dX12_goTrials_20 (by decide) (fun _ => ?_) (fun _ => ?_)
    · exact ao_vret (pc := 84) X hr dX12_goTrials_84
    · refine ao_iload_n (pc := 23) X dX12_goTrials_23 rfl ?_
      refine ao_iload_n (pc := 24) X dX12_goTrials_24 rfl ?_
      refine ao_callSI (pc := 25) (As := [.int p1, .int p3]) (st := []) X hl0 dX12_goTrials_25 yv_X12_has ml_RX12_158 (mX12_has hI p1 p3 μ) (by omega) rfl rfl (Nat.le_of_ble_eq_true rfl) (fun r3 m4 => ?_)
      refine ao_if_eq (pc := 28) (tgt := 78) X dX12_goTrials_28 (by decide) (fun _ => ?_) (fun _ => ?_)
      · refine ao_iinc (pc := 78) (k := 3) (v := p3 + (1 : Int32)) (lv' := [(3, .int (p3 + (1 : Int32))), (0, .ref (eAd E 122)), (1, .int p1), (2, .int p2)]) X dX12_goTrials_78 rfl (ii_ic ic_1) (by decide) rfl ?_
        refine ao_goto (pc := 81) (tgt := 15) X dX12_goTrials_81 (by decide) ?_
        refine ao_sub [1, 2, 3, 0] rfl ?_
        exact ih p1 p2 (p3 + (1 : Int32)) m4
      · refine ao_aload_n (pc := 31) X dX12_goTrials_31 rfl ?_
        refine ao_iload_n (pc := 32) X dX12_goTrials_32 rfl ?_
        refine ao_callVI (pc := 33) (As := [.int p2]) (st := []) X hl0 dX12_goTrials_33 yv_X12_isAhead so_122 ml_RX12_313 (mX12_isAhead_122 hI p2 m4) (by omega) rfl rfl (Nat.le_of_ble_eq_true rfl) (fun r6 m7 => ?_)
        refine ao_if_eq (pc := 36) (tgt := 78) X dX12_goTrials_36 (by decide) (fun _ => ?_) (fun _ => ?_)
        · refine ao_iinc (pc := 78) (k := 3) (v := p3 + (1 : Int32)) (lv' := [(3, .int (p3 + (1 : Int32))), (0, .ref (eAd E 122)), (1, .int p1), (2, .int p2)]) X dX12_goTrials_78 rfl (ii_ic ic_1) (by decide) rfl ?_
          refine ao_goto (pc := 81) (tgt := 15) X dX12_goTrials_81 (by decide) ?_
          refine ao_sub [1, 2, 3, 0] rfl ?_
          exact ih p1 p2 (p3 + (1 : Int32)) m7
        · refine ao_aload_n (pc := 39) X dX12_goTrials_39 rfl ?_
          refine ao_aload_n (pc := 40) X dX12_goTrials_40 rfl ?_
          refine ao_getR (pc := 41) X dX12_goTrials_41 fl_RX12_9 sf_122_0 ?_
          refine ao_iload_n (pc := 44) X dX12_goTrials_44 rfl ?_
          refine ao_iload_n (pc := 45) X dX12_goTrials_45 rfl ?_
          refine ao_callVI (pc := 46) (As := [.ref (eAd E 123), .int p3, .int p2]) (st := []) X hl0 dX12_goTrials_46 yv_X12_proofIn so_122 ml_RX12_235 (mX12_proofIn_122_123 hI p3 p2 m7) (by omega) rfl rfl (Nat.le_of_ble_eq_true rfl) (fun r9 m10 => ?_)
          refine ao_bipush (pc := 49) X dX12_goTrials_49 bp_100 ?_
          refine ao_icmp_ge (pc := 51) (tgt := 57) X dX12_goTrials_51 (by decide) (fun _ => ?_) (fun _ => ?_)
          · refine ao_aload_n (pc := 57) X dX12_goTrials_57 rfl ?_
            refine ao_getR (pc := 58) X dX12_goTrials_58 fl_RX12_77 sf_122_35 ?_
            refine ao_iload_n (pc := 61) X dX12_goTrials_61 rfl ?_
            refine ao_iload_n (pc := 62) X dX12_goTrials_62 rfl ?_
            refine ao_iast (pc := 63) X dX12_goTrials_63 sa_143 ?_
            refine ao_lt (fun m11 => ?_)
            refine ao_aload_n (pc := 64) X dX12_goTrials_64 rfl ?_
            refine ao_iload_n (pc := 65) X dX12_goTrials_65 rfl ?_
            refine ao_iconst (pc := 66) X dX12_goTrials_66 ic_1 ?_
            refine ao_iload_n (pc := 67) X dX12_goTrials_67 rfl ?_
            refine ao_ishl (pc := 68) X dX12_goTrials_68 ?_
            refine ao_iconst (pc := 69) X dX12_goTrials_69 ic_m1 ?_
            refine ao_ixor (pc := 70) X dX12_goTrials_70 ?_
            refine ao_iand (pc := 71) X dX12_goTrials_71 ?_
            refine ao_iload_n (pc := 72) X dX12_goTrials_72 rfl ?_
            refine ao_iconst (pc := 73) X dX12_goTrials_73 ic_1 ?_
            refine ao_iadd (pc := 74) X dX12_goTrials_74 ?_
            refine ao_callVV (pc := 75) (As := [.int (p1 &&& (((1 : Int32) <<< (p3 &&& 31)) ^^^ (-1 : Int32))), .int (p2 + (1 : Int32))]) (st := []) X hl0 dX12_goTrials_75 yv_X12_goTrials so_122 ml_RX12_322 (hrc (p1 &&& (((1 : Int32) <<< (p3 &&& 31)) ^^^ (-1 : Int32))) (p2 + (1 : Int32)) m11) (by omega) rfl rfl (Nat.le_of_ble_eq_true rfl) (fun r12 m13 => ?_)
            refine ao_iinc (pc := 78) (k := 3) (v := p3 + (1 : Int32)) (lv' := [(3, .int (p3 + (1 : Int32))), (0, .ref (eAd E 122)), (1, .int p1), (2, .int p2)]) X dX12_goTrials_78 rfl (ii_ic ic_1) (by decide) rfl ?_
            refine ao_goto (pc := 81) (tgt := 15) X dX12_goTrials_81 (by decide) ?_
            refine ao_sub [1, 2, 3, 0] rfl ?_
            exact ih p1 p2 (p3 + (1 : Int32)) m13
          · refine ao_goto (pc := 54) (tgt := 78) X dX12_goTrials_54 (by decide) ?_
            refine ao_iinc (pc := 78) (k := 3) (v := p3 + (1 : Int32)) (lv' := [(3, .int (p3 + (1 : Int32))), (0, .ref (eAd E 122)), (1, .int p1), (2, .int p2)]) X dX12_goTrials_78 rfl (ii_ic ic_1) (by decide) rfl ?_
            refine ao_goto (pc := 81) (tgt := 15) X dX12_goTrials_81 (by decide) ?_
            refine ao_sub [1, 2, 3, 0] rfl ?_
            exact ih p1 p2 (p3 + (1 : Int32)) m10
def fX12_goTrials_122_r (rc : Int32 → Int32 → Mem → Option (Unit × Mem)) (v1 : Int32) (v2 : Int32) (μ : Mem) : Option (Unit × Mem) :=
  if v2 ≤ (gI μ 122 37) then (fX12_goTrials_122_b15 rc FU v1 v2 (0 : Int32) μ)
  else bnd (fX12_keepLine_122 v2 μ) fun r1 m2 =>
    fX12_goTrials_122_b15 rc FU v1 v2 (0 : Int32) m2
set_option maxRecDepth 100000 in
set_option maxHeartbeats 4000000 in
theorem mX12_goTrials_122_r {E : En} {l : Launch} (hI : Inj E) {dT : Nat} (hB : 2 ≤ dT) {rc : Int32 → Int32 → Mem → Option (Unit × Mem)} (hrc : ∀ (v1 : Int32) (v2 : Int32) (m : Mem), MtV E l yX12_goTrials cX12_goTrials 4 (none) dT [.ref (eAd E 122), .int v1, .int v2] m (rc v1 v2 m)) (v1 : Int32) (v2 : Int32) (μ : Mem) : MtV E l yX12_goTrials cX12_goTrials 4 (none) (dT + 1) [.ref (eAd E 122), .int v1, .int v2] μ (fX12_goTrials_122_r rc v1 v2 μ) := by
  refine mtV_of (own := RX12) [(0, .ref (eAd E 122)), (1, .int v1), (2, .int v2)] hI rfl (by decide) (by omega) (Nat.le_of_ble_eq_true rfl) rfl (fun Z hl0 X hr => ?_)
  unfold fX12_goTrials_122_r
  refine ao_iload_n (pc := 0) X dX12_goTrials_0 rfl ?_
  refine ao_aload_n (pc := 1) X dX12_goTrials_1 rfl ?_
  refine ao_getI (pc := 2) X dX12_goTrials_2 fl_RX12_316 sf_122_37 ?_
  refine ao_icmp_le (pc := 5) (tgt := 13) X dX12_goTrials_5 (by decide) (fun _ => ?_) (fun _ => ?_)
  · refine ao_iconst (pc := 13) X dX12_goTrials_13 ic_0 ?_
    refine ao_istore_n (pc := 14) (lv' := [(3, .int (0 : Int32)), (0, .ref (eAd E 122)), (1, .int v1), (2, .int v2)]) X dX12_goTrials_14 rfl (by decide) rfl ?_
    refine ao_sub [1, 2, 3, 0] rfl ?_
    exact bX12_goTrials_122_15 hI hl0 X hr hB hrc FU v1 v2 (0 : Int32) μ
  · refine ao_aload_n (pc := 8) X dX12_goTrials_8 rfl ?_
    refine ao_iload_n (pc := 9) X dX12_goTrials_9 rfl ?_
    refine ao_callVV (pc := 10) (As := [.int v2]) (st := []) X hl0 dX12_goTrials_10 yv_X12_keepLine so_122 ml_RX12_319 (mX12_keepLine_122 hI v2 μ) (by omega) rfl rfl (Nat.le_of_ble_eq_true rfl) (fun r1 m2 => ?_)
    refine ao_iconst (pc := 13) X dX12_goTrials_13 ic_0 ?_
    refine ao_istore_n (pc := 14) (lv' := [(3, .int (0 : Int32)), (0, .ref (eAd E 122)), (1, .int v1), (2, .int v2)]) X dX12_goTrials_14 rfl (by decide) rfl ?_
    refine ao_sub [1, 2, 3, 0] rfl ?_
    exact bX12_goTrials_122_15 hI hl0 X hr hB hrc FU v1 v2 (0 : Int32) m2
def fX12_goTrials_122 : Nat → Int32 → Int32 → Mem → Option (Unit × Mem)
  | 0, _, _, _ => none
  | n + 1, v1, v2, μ => fX12_goTrials_122_r (fun v1 v2 m => fX12_goTrials_122 n v1 v2 m) v1 v2 μ
theorem dBX12_goTrials_122 (n : Nat) : 2 ≤ 2 + 1 * n := Nat.le_add_right _ _
theorem mX12_goTrials_122 {E : En} {l : Launch} (hI : Inj E) : ∀ (n : Nat) (v1 : Int32) (v2 : Int32) (μ : Mem), MtV E l yX12_goTrials cX12_goTrials 4 (none) (2 + 1 * n) [.ref (eAd E 122), .int v1, .int v2] μ (fX12_goTrials_122 n v1 v2 μ) := by
  intro n
  induction n with
  | zero =>
    intro v1 v2 μ r μ' h
    cases h
  | succ n ih =>
    intro v1 v2 μ
    exact mX12_goTrials_122_r hI (dBX12_goTrials_122 n) ih v1 v2 μ
def fX12_tellLine_122_b7 : Nat → Int32 → Mem → Option (Unit × Mem)
  | 0, _, _ => none
  | n + 1, p1, μ =>
  if (gI μ 122 37) ≤ p1 then (some ((), μ))
  else gd (inb p1 6) (bnd (fX12_tell_122 (Int32.toInt64 (gI μ 144 (ix p1))) μ) fun r2 m3 =>
    fX12_tellLine_122_b7 n (p1 + (1 : Int32)) m3)
set_option maxRecDepth 100000 in
set_option maxHeartbeats 4000000 in
theorem bX12_tellLine_122_7 {E : En} {l : Launch} {Z : Zt} (hI : Inj E) (hl0 : lZ l Z) (X : Cx E Z cX12_tellLine RX12 2 2) (hr : rtOf Z = none) : ∀ (n : Nat) (p1 : Int32) (μ : Mem), AO E Z 2 (QV E Z) 7 [(0, .ref (eAd E 122)), (1, .int p1)] [] μ (fX12_tellLine_122_b7 n p1 μ) := by
  intro n
  induction n with
  | zero =>
    intros
    exact ao_none
  | succ n ih =>
    intro p1 μ
    rw [fX12_tellLine_122_b7]
    refine ao_iload_n (pc := 7) X dX12_tellLine_7 rfl ?_
    refine ao_aload_n (pc := 8) X dX12_tellLine_8 rfl ?_
    refine ao_getI (pc := 9) X dX12_tellLine_9 fl_RX12_316 sf_122_37 ?_
    refine ao_icmp_ge (pc := 12) (tgt := 32) X dX12_tellLine_12 (by decide) (fun _ => ?_) (fun _ => ?_)
    · exact ao_vret (pc := 32) X hr dX12_tellLine_32
    · refine ao_aload_n (pc := 15) X dX12_tellLine_15 rfl ?_
      refine ao_aload_n (pc := 16) X dX12_tellLine_16 rfl ?_
      refine ao_getR (pc := 17) X dX12_tellLine_17 fl_RX12_80 sf_122_36 ?_
      refine ao_iload_n (pc := 20) X dX12_tellLine_20 rfl ?_
      refine ao_iald (pc := 21) X dX12_tellLine_21 sa_144 ?_
      refine ao_i2l (pc := 22) X dX12_tellLine_22 ?_
      refine ao_callVV (pc := 23) (As := [.long (Int32.toInt64 (gI μ 144 (ix p1)))]) (st := []) X hl0 dX12_tellLine_23 yv_X12_tell so_122 ml_RX12_267 (mX12_tell_122 hI (Int32.toInt64 (gI μ 144 (ix p1))) μ) (Nat.le_of_ble_eq_true rfl) rfl rfl (Nat.le_of_ble_eq_true rfl) (fun r2 m3 => ?_)
      refine ao_iinc (pc := 26) (k := 1) (v := p1 + (1 : Int32)) (lv' := [(1, .int (p1 + (1 : Int32))), (0, .ref (eAd E 122))]) X dX12_tellLine_26 rfl (ii_ic ic_1) (by decide) rfl ?_
      refine ao_goto (pc := 29) (tgt := 7) X dX12_tellLine_29 (by decide) ?_
      refine ao_sub [1, 0] rfl ?_
      exact ih (p1 + (1 : Int32)) m3
def fX12_tellLine_122 (μ : Mem) : Option (Unit × Mem) :=
  lt (sI μ 122 16 (0 : Int32)) fun m1 =>
  fX12_tellLine_122_b7 FU (0 : Int32) m1
set_option maxRecDepth 100000 in
set_option maxHeartbeats 4000000 in
theorem mX12_tellLine_122 {E : En} {l : Launch} (hI : Inj E) (μ : Mem) : MtV E l yX12_tellLine cX12_tellLine 2 (none) 2 [.ref (eAd E 122)] μ (fX12_tellLine_122 μ) := by
  refine mtV_of (own := RX12) [(0, .ref (eAd E 122))] hI rfl (by decide) (Nat.le_of_ble_eq_true rfl) (Nat.le_of_ble_eq_true rfl) rfl (fun Z hl0 X hr => ?_)
  unfold fX12_tellLine_122
  refine ao_aload_n (pc := 0) X dX12_tellLine_0 rfl ?_
  refine ao_iconst (pc := 1) X dX12_tellLine_1 ic_0 ?_
  refine ao_putI (pc := 2) X dX12_tellLine_2 fp_RX12_98 sf_122_16 ?_
  refine ao_lt (fun m1 => ?_)
  refine ao_iconst (pc := 5) X dX12_tellLine_5 ic_0 ?_
  refine ao_istore_n (pc := 6) (lv' := [(1, .int (0 : Int32)), (0, .ref (eAd E 122))]) X dX12_tellLine_6 rfl (by decide) rfl ?_
  refine ao_sub [1, 0] rfl ?_
  exact bX12_tellLine_122_7 hI hl0 X hr FU (0 : Int32) m1
def fX12_trials_122 (μ : Mem) : Option (Int32 × Mem) :=
  lt (sI μ 122 17 (0 : Int32)) fun m1 =>
  lt (sI m1 122 37 (0 : Int32)) fun m2 =>
  bnd (fX12_ofKind_122_123 (1 : Int32) m2) fun r3 m4 =>
  bnd (fX12_goTrials_122 FR r3 (0 : Int32) m4) fun r5 m6 =>
  bnd (fX12_tellLine_122 m6) fun r7 m8 =>
  some ((gI m8 122 37), m8)
set_option maxRecDepth 100000 in
set_option maxHeartbeats 4000000 in
theorem mX12_trials_122 {E : En} {l : Launch} (hI : Inj E) (μ : Mem) : MtI E l yX12_trials cX12_trials 1 (some .int) 103 [.ref (eAd E 122)] μ (fX12_trials_122 μ) := by
  refine mtI_of (own := RX12) [(0, .ref (eAd E 122))] hI rfl (by decide) (Nat.le_of_ble_eq_true rfl) (Nat.le_of_ble_eq_true rfl) rfl (fun Z hl0 X hr => ?_)
  unfold fX12_trials_122
  refine ao_aload_n (pc := 0) X dX12_trials_0 rfl ?_
  refine ao_iconst (pc := 1) X dX12_trials_1 ic_0 ?_
  refine ao_putI (pc := 2) X dX12_trials_2 fp_RX12_95 sf_122_17 ?_
  refine ao_lt (fun m1 => ?_)
  refine ao_aload_n (pc := 5) X dX12_trials_5 rfl ?_
  refine ao_iconst (pc := 6) X dX12_trials_6 ic_0 ?_
  refine ao_putI (pc := 7) X dX12_trials_7 fp_RX12_316 sf_122_37 ?_
  refine ao_lt (fun m2 => ?_)
  refine ao_aload_n (pc := 10) X dX12_trials_10 rfl ?_
  refine ao_aload_n (pc := 11) X dX12_trials_11 rfl ?_
  refine ao_aload_n (pc := 12) X dX12_trials_12 rfl ?_
  refine ao_getR (pc := 13) X dX12_trials_13 fl_RX12_9 sf_122_0 ?_
  refine ao_iconst (pc := 16) X dX12_trials_16 ic_1 ?_
  refine ao_callVI (pc := 17) (As := [.ref (eAd E 123), .int (1 : Int32)]) (st := [.ref (eAd E 122)]) X hl0 dX12_trials_17 yv_X12_ofKind so_122 ml_RX12_271 (mX12_ofKind_122_123 hI (1 : Int32) m2) (Nat.le_of_ble_eq_true rfl) rfl rfl (Nat.le_of_ble_eq_true rfl) (fun r3 m4 => ?_)
  refine ao_iconst (pc := 20) X dX12_trials_20 ic_0 ?_
  refine ao_callVV (pc := 21) (As := [.int r3, .int (0 : Int32)]) (st := []) X hl0 dX12_trials_21 yv_X12_goTrials so_122 ml_RX12_322 (mX12_goTrials_122 hI FR r3 (0 : Int32) m4) (by decide) rfl rfl (Nat.le_of_ble_eq_true rfl) (fun r5 m6 => ?_)
  refine ao_aload_n (pc := 24) X dX12_trials_24 rfl ?_
  refine ao_callVV (pc := 25) (As := []) (st := []) X hl0 dX12_trials_25 yv_X12_tellLine so_122 ml_RX12_326 (mX12_tellLine_122 hI m6) (Nat.le_of_ble_eq_true rfl) rfl rfl (Nat.le_of_ble_eq_true rfl) (fun r7 m8 => ?_)
  refine ao_aload_n (pc := 28) X dX12_trials_28 rfl ?_
  refine ao_getI (pc := 29) X dX12_trials_29 fl_RX12_316 sf_122_37 ?_
  exact ao_iret (pc := 32) X hr dX12_trials_32
def fX10_findMostForKing_31_b9 : Nat → Int32 → Int32 → Int32 → Mem → Option (Unit × Mem)
  | 0, _, _, _, _ => none
  | n + 1, p1, p2, p3, μ =>
  if (6 : Int32) ≤ p3 then (bnd (fX10_find_31 p1 p2 μ) fun r2 m3 =>
    some ((), m3))
  else bnd (fX10_isPleaded_31 p3 μ) fun r4 m5 =>
    if r4 = 0 then (lt (p2 + (0 : Int32)) fun x6 =>
      fX10_findMostForKing_31_b9 n p1 x6 (p3 + (1 : Int32)) m5)
    else bnd (fX2_has_24 p3 (5 : Int32) (1 : Int32) m5) fun r8 m9 =>
      lt (p2 + r8) fun x10 =>
      fX10_findMostForKing_31_b9 n p1 x10 (p3 + (1 : Int32)) m9
set_option maxRecDepth 100000 in
set_option maxHeartbeats 4000000 in
theorem bX10_findMostForKing_31_9 {E : En} {l : Launch} {Z : Zt} (hI : Inj E) (hl0 : lZ l Z) (X : Cx E Z cX10_findMostForKing RX10 4 106) (hr : rtOf Z = none) : ∀ (n : Nat) (p1 : Int32) (p2 : Int32) (p3 : Int32) (μ : Mem), AO E Z 4 (QV E Z) 9 [(0, .ref (eAd E 31)), (1, .int p1), (2, .int p2), (3, .int p3)] [] μ (fX10_findMostForKing_31_b9 n p1 p2 p3 μ) := by
  intro n
  induction n with
  | zero =>
    intros
    exact ao_none
  | succ n ih =>
    intro p1 p2 p3 μ
    rw [fX10_findMostForKing_31_b9]
    refine ao_iload_n (pc := 9) X dX10_findMostForKing_9 rfl ?_
    refine ao_bipush (pc := 10) X dX10_findMostForKing_10 bp_6 ?_
    refine ao_icmp_ge (pc := 12) (tgt := 46) X dX10_findMostForKing_12 (by decide) (fun _ => ?_) (fun _ => ?_)
    · refine ao_aload_n (pc := 46) X dX10_findMostForKing_46 rfl ?_
      refine ao_iload_n (pc := 47) X dX10_findMostForKing_47 rfl ?_
      refine ao_iload_n (pc := 48) X dX10_findMostForKing_48 rfl ?_
      refine ao_callVV (pc := 49) (As := [.int p1, .int p2]) (st := []) X hl0 dX10_findMostForKing_49 yv_X10_find so_31 ml_RX10_40 (mX10_find_31 hI p1 p2 μ) (Nat.le_of_ble_eq_true rfl) rfl rfl (Nat.le_of_ble_eq_true rfl) (fun r2 m3 => ?_)
      exact ao_vret (pc := 52) X hr dX10_findMostForKing_52
    · refine ao_iload_n (pc := 15) X dX10_findMostForKing_15 rfl ?_
      refine ao_aload_n (pc := 16) X dX10_findMostForKing_16 rfl ?_
      refine ao_iload_n (pc := 17) X dX10_findMostForKing_17 rfl ?_
      refine ao_callVI (pc := 18) (As := [.int p3]) (st := [.int p2]) X hl0 dX10_findMostForKing_18 yv_X10_isPleaded so_31 ml_RX10_44 (mX10_isPleaded_31 hI p3 μ) (Nat.le_of_ble_eq_true rfl) rfl rfl (Nat.le_of_ble_eq_true rfl) (fun r4 m5 => ?_)
      refine ao_if_eq (pc := 21) (tgt := 37) X dX10_findMostForKing_21 (by decide) (fun _ => ?_) (fun _ => ?_)
      · refine ao_iconst (pc := 37) X dX10_findMostForKing_37 ic_0 ?_
        refine ao_iadd (pc := 38) X dX10_findMostForKing_38 ?_
        refine ao_ltI (fun x6 => ?_)
        refine ao_istore_n (pc := 39) (lv' := [(2, .int x6), (0, .ref (eAd E 31)), (1, .int p1), (3, .int p3)]) X dX10_findMostForKing_39 rfl (by decide) rfl ?_
        refine ao_iinc (pc := 40) (k := 3) (v := p3 + (1 : Int32)) (lv' := [(3, .int (p3 + (1 : Int32))), (2, .int x6), (0, .ref (eAd E 31)), (1, .int p1)]) X dX10_findMostForKing_40 rfl (ii_ic ic_1) (by decide) rfl ?_
        refine ao_goto (pc := 43) (tgt := 9) X dX10_findMostForKing_43 (by decide) ?_
        refine ao_sub [2, 3, 1, 0] rfl ?_
        exact ih p1 x6 (p3 + (1 : Int32)) m5
      · refine ao_aload_n (pc := 24) X dX10_findMostForKing_24 rfl ?_
        refine ao_getR (pc := 25) X dX10_findMostForKing_25 fl_RX10_36 sf_31_7 ?_
        refine ao_iload_n (pc := 28) X dX10_findMostForKing_28 rfl ?_
        refine ao_iconst (pc := 29) X dX10_findMostForKing_29 ic_5 ?_
        refine ao_iconst (pc := 30) X dX10_findMostForKing_30 ic_1 ?_
        refine ao_callVI (pc := 31) (As := [.int p3, .int (5 : Int32), .int (1 : Int32)]) (st := [.int p2]) X hl0 dX10_findMostForKing_31 yv_X2_has so_24 ml_RX10_48 (mX2_has_24 hI p3 (5 : Int32) (1 : Int32) m5) (Nat.le_of_ble_eq_true rfl) rfl rfl (Nat.le_of_ble_eq_true rfl) (fun r8 m9 => ?_)
        refine ao_goto (pc := 34) (tgt := 38) X dX10_findMostForKing_34 (by decide) ?_
        refine ao_iadd (pc := 38) X dX10_findMostForKing_38 ?_
        refine ao_ltI (fun x10 => ?_)
        refine ao_istore_n (pc := 39) (lv' := [(2, .int x10), (0, .ref (eAd E 31)), (1, .int p1), (3, .int p3)]) X dX10_findMostForKing_39 rfl (by decide) rfl ?_
        refine ao_iinc (pc := 40) (k := 3) (v := p3 + (1 : Int32)) (lv' := [(3, .int (p3 + (1 : Int32))), (2, .int x10), (0, .ref (eAd E 31)), (1, .int p1)]) X dX10_findMostForKing_40 rfl (ii_ic ic_1) (by decide) rfl ?_
        refine ao_goto (pc := 43) (tgt := 9) X dX10_findMostForKing_43 (by decide) ?_
        refine ao_sub [2, 3, 1, 0] rfl ?_
        exact ih p1 x10 (p3 + (1 : Int32)) m9
def fX10_findMostForKing_31 (v1 : Int32) (μ : Mem) : Option (Unit × Mem) :=
  lt (sI μ 31 5 (1 : Int32)) fun m1 =>
  fX10_findMostForKing_31_b9 FU v1 (0 : Int32) (0 : Int32) m1
set_option maxRecDepth 100000 in
set_option maxHeartbeats 4000000 in
theorem mX10_findMostForKing_31 {E : En} {l : Launch} (hI : Inj E) (v1 : Int32) (μ : Mem) : MtV E l yX10_findMostForKing cX10_findMostForKing 4 (none) 106 [.ref (eAd E 31), .int v1] μ (fX10_findMostForKing_31 v1 μ) := by
  refine mtV_of (own := RX10) [(0, .ref (eAd E 31)), (1, .int v1)] hI rfl (by decide) (Nat.le_of_ble_eq_true rfl) (Nat.le_of_ble_eq_true rfl) rfl (fun Z hl0 X hr => ?_)
  unfold fX10_findMostForKing_31
  refine ao_aload_n (pc := 0) X dX10_findMostForKing_0 rfl ?_
  refine ao_iconst (pc := 1) X dX10_findMostForKing_1 ic_1 ?_
  refine ao_putZ (pc := 2) X dX10_findMostForKing_2 fp_RX10_28 sf_31_5 rfl rfl ?_
  refine ao_lt (fun m1 => ?_)
  refine ao_iconst (pc := 5) X dX10_findMostForKing_5 ic_0 ?_
  refine ao_istore_n (pc := 6) (lv' := [(2, .int (0 : Int32)), (0, .ref (eAd E 31)), (1, .int v1)]) X dX10_findMostForKing_6 rfl (by decide) rfl ?_
  refine ao_iconst (pc := 7) X dX10_findMostForKing_7 ic_0 ?_
  refine ao_istore_n (pc := 8) (lv' := [(3, .int (0 : Int32)), (2, .int (0 : Int32)), (0, .ref (eAd E 31)), (1, .int v1)]) X dX10_findMostForKing_8 rfl (by decide) rfl ?_
  refine ao_sub [2, 3, 1, 0] rfl ?_
  exact bX10_findMostForKing_31_9 hI hl0 X hr FU v1 (0 : Int32) (0 : Int32) m1
def fX11_docket_0 (μ : Mem) : Option (Int32 × Mem) :=
  bnd (fX11_daysLeft_0 μ) fun r1 m2 =>
  bnd (fX10_findMostForKing_31 r1 m2) fun r3 m4 =>
  bnd (fX11_tellTurns_0 m4) fun r5 m6 =>
  some ((gI m6 31 2), m6)
set_option maxRecDepth 100000 in
set_option maxHeartbeats 4000000 in
theorem mX11_docket_0 {E : En} {l : Launch} (hI : Inj E) (μ : Mem) : MtI E l yX11_docket cX11_docket 1 (some .int) 107 [.ref (eAd E 0)] μ (fX11_docket_0 μ) := by
  refine mtI_of (own := RX11) [(0, .ref (eAd E 0))] hI rfl (by decide) (Nat.le_of_ble_eq_true rfl) (Nat.le_of_ble_eq_true rfl) rfl (fun Z hl0 X hr => ?_)
  unfold fX11_docket_0
  refine ao_aload_n (pc := 0) X dX11_docket_0 rfl ?_
  refine ao_getR (pc := 1) X dX11_docket_1 fl_RX11_84 sf_0_10 ?_
  refine ao_aload_n (pc := 4) X dX11_docket_4 rfl ?_
  refine ao_callVI (pc := 5) (As := []) (st := [.ref (eAd E 31)]) X hl0 dX11_docket_5 yv_X11_daysLeft so_0 ml_RX11_315 (mX11_daysLeft_0 hI μ) (Nat.le_of_ble_eq_true rfl) rfl rfl (Nat.le_of_ble_eq_true rfl) (fun r1 m2 => ?_)
  refine ao_callVV (pc := 8) (As := [.int r1]) (st := []) X hl0 dX11_docket_8 yv_X10_findMostForKing so_31 ml_RX11_332 (mX10_findMostForKing_31 hI r1 m2) (Nat.le_of_ble_eq_true rfl) rfl rfl (Nat.le_of_ble_eq_true rfl) (fun r3 m4 => ?_)
  refine ao_aload_n (pc := 11) X dX11_docket_11 rfl ?_
  refine ao_callVV (pc := 12) (As := []) (st := []) X hl0 dX11_docket_12 yv_X11_tellTurns so_0 ml_RX11_326 (mX11_tellTurns_0 hI m4) (Nat.le_of_ble_eq_true rfl) rfl rfl (Nat.le_of_ble_eq_true rfl) (fun r5 m6 => ?_)
  refine ao_aload_n (pc := 15) X dX11_docket_15 rfl ?_
  refine ao_getR (pc := 16) X dX11_docket_16 fl_RX11_84 sf_0_10 ?_
  refine ao_getI (pc := 19) X dX11_docket_19 fl_RX11_329 sf_31_2 ?_
  exact ao_iret (pc := 22) X hr dX11_docket_22
def fX12_kingsBy_122 (v1 : Int32) (v2 : Int32) (μ : Mem) : Option (Int32 × Mem) :=
  bnd (fX12_whose_122 v2 μ) fun r1 m2 =>
  if r1 = (1 : Int32) then (gd (inb v1 6) (bnd (fX12_valuesOf_122 (gI m2 128 (ix v1)) m2) fun r3 m4 =>
    some (r3, m4)))
  else some ((0 : Int32), m2)
set_option maxRecDepth 100000 in
set_option maxHeartbeats 4000000 in
theorem mX12_kingsBy_122 {E : En} {l : Launch} (hI : Inj E) (v1 : Int32) (v2 : Int32) (μ : Mem) : MtI E l yX12_kingsBy cX12_kingsBy 3 (some .int) 3 [.ref (eAd E 122), .int v1, .int v2] μ (fX12_kingsBy_122 v1 v2 μ) := by
  refine mtI_of (own := RX12) [(0, .ref (eAd E 122)), (1, .int v1), (2, .int v2)] hI rfl (by decide) (Nat.le_of_ble_eq_true rfl) (Nat.le_of_ble_eq_true rfl) rfl (fun Z hl0 X hr => ?_)
  unfold fX12_kingsBy_122
  refine ao_aload_n (pc := 0) X dX12_kingsBy_0 rfl ?_
  refine ao_iload_n (pc := 1) X dX12_kingsBy_1 rfl ?_
  refine ao_callVI (pc := 2) (As := [.int v2]) (st := []) X hl0 dX12_kingsBy_2 yv_X12_whose so_122 ml_RX12_304 (mX12_whose_122 hI v2 μ) (Nat.le_of_ble_eq_true rfl) rfl rfl (Nat.le_of_ble_eq_true rfl) (fun r1 m2 => ?_)
  refine ao_iconst (pc := 5) X dX12_kingsBy_5 ic_1 ?_
  refine ao_icmp_ne (pc := 6) (tgt := 22) X dX12_kingsBy_6 (by decide) (fun _ => ?_) (fun _ => ?_)
  · refine ao_iconst (pc := 22) X dX12_kingsBy_22 ic_0 ?_
    exact ao_iret (pc := 23) X hr dX12_kingsBy_23
  · refine ao_aload_n (pc := 9) X dX12_kingsBy_9 rfl ?_
    refine ao_aload_n (pc := 10) X dX12_kingsBy_10 rfl ?_
    refine ao_getR (pc := 11) X dX12_kingsBy_11 fl_RX12_26 sf_122_6 ?_
    refine ao_iload_n (pc := 14) X dX12_kingsBy_14 rfl ?_
    refine ao_iald (pc := 15) X dX12_kingsBy_15 sa_128 ?_
    refine ao_callVI (pc := 16) (As := [.int (gI m2 128 (ix v1))]) (st := []) X hl0 dX12_kingsBy_16 yv_X12_valuesOf so_122 ml_RX12_239 (mX12_valuesOf_122 hI (gI m2 128 (ix v1)) m2) (Nat.le_of_ble_eq_true rfl) rfl rfl (Nat.le_of_ble_eq_true rfl) (fun r3 m4 => ?_)
    refine ao_goto (pc := 19) (tgt := 23) X dX12_kingsBy_19 (by decide) ?_
    exact ao_iret (pc := 23) X hr dX12_kingsBy_23
def fX12_kingsOf_122_b4 : Nat → Int32 → Int32 → Int32 → Mem → Option (Int32 × Mem)
  | 0, _, _, _, _ => none
  | n + 1, p1, p2, p3, μ =>
  if (gI μ 122 1) ≤ p3 then (some (p2, μ))
  else bnd (fX12_has p1 p3 μ) fun r1 m2 =>
    if r1 = 0 then (lt (p2 + (0 : Int32)) fun x3 =>
      fX12_kingsOf_122_b4 n p1 x3 (p3 + (1 : Int32)) m2)
    else bnd (fX12_kingsBy_122 p3 (5 : Int32) m2) fun r5 m6 =>
      lt (p2 + r5) fun x7 =>
      fX12_kingsOf_122_b4 n p1 x7 (p3 + (1 : Int32)) m6
set_option maxRecDepth 100000 in
set_option maxHeartbeats 4000000 in
theorem bX12_kingsOf_122_4 {E : En} {l : Launch} {Z : Zt} (hI : Inj E) (hl0 : lZ l Z) (X : Cx E Z cX12_kingsOf RX12 4 4) (hr : rtOf Z = some .int) : ∀ (n : Nat) (p1 : Int32) (p2 : Int32) (p3 : Int32) (μ : Mem), AO E Z 4 (QI E Z) 4 [(0, .ref (eAd E 122)), (1, .int p1), (2, .int p2), (3, .int p3)] [] μ (fX12_kingsOf_122_b4 n p1 p2 p3 μ) := by
  intro n
  induction n with
  | zero =>
    intros
    exact ao_none
  | succ n ih =>
    intro p1 p2 p3 μ
    rw [fX12_kingsOf_122_b4]
    refine ao_iload_n (pc := 4) X dX12_kingsOf_4 rfl ?_
    refine ao_aload_n (pc := 5) X dX12_kingsOf_5 rfl ?_
    refine ao_getI (pc := 6) X dX12_kingsOf_6 fl_RX12_101 sf_122_1 ?_
    refine ao_icmp_ge (pc := 9) (tgt := 39) X dX12_kingsOf_9 (by decide) (fun _ => ?_) (fun _ => ?_)
    · refine ao_iload_n (pc := 39) X dX12_kingsOf_39 rfl ?_
      exact ao_iret (pc := 40) X hr dX12_kingsOf_40
    · refine ao_iload_n (pc := 12) X dX12_kingsOf_12 rfl ?_
      refine ao_iload_n (pc := 13) X dX12_kingsOf_13 rfl ?_
      refine ao_iload_n (pc := 14) X dX12_kingsOf_14 rfl ?_
      refine ao_callSI (pc := 15) (As := [.int p1, .int p3]) (st := [.int p2]) X hl0 dX12_kingsOf_15 yv_X12_has ml_RX12_158 (mX12_has hI p1 p3 μ) (Nat.le_of_ble_eq_true rfl) rfl rfl (Nat.le_of_ble_eq_true rfl) (fun r1 m2 => ?_)
      refine ao_if_eq (pc := 18) (tgt := 30) X dX12_kingsOf_18 (by decide) (fun _ => ?_) (fun _ => ?_)
      · refine ao_iconst (pc := 30) X dX12_kingsOf_30 ic_0 ?_
        refine ao_iadd (pc := 31) X dX12_kingsOf_31 ?_
        refine ao_ltI (fun x3 => ?_)
        refine ao_istore_n (pc := 32) (lv' := [(2, .int x3), (0, .ref (eAd E 122)), (1, .int p1), (3, .int p3)]) X dX12_kingsOf_32 rfl (by decide) rfl ?_
        refine ao_iinc (pc := 33) (k := 3) (v := p3 + (1 : Int32)) (lv' := [(3, .int (p3 + (1 : Int32))), (2, .int x3), (0, .ref (eAd E 122)), (1, .int p1)]) X dX12_kingsOf_33 rfl (ii_ic ic_1) (by decide) rfl ?_
        refine ao_goto (pc := 36) (tgt := 4) X dX12_kingsOf_36 (by decide) ?_
        refine ao_sub [2, 3, 1, 0] rfl ?_
        exact ih p1 x3 (p3 + (1 : Int32)) m2
      · refine ao_aload_n (pc := 21) X dX12_kingsOf_21 rfl ?_
        refine ao_iload_n (pc := 22) X dX12_kingsOf_22 rfl ?_
        refine ao_iconst (pc := 23) X dX12_kingsOf_23 ic_5 ?_
        refine ao_callVI (pc := 24) (As := [.int p3, .int (5 : Int32)]) (st := [.int p2]) X hl0 dX12_kingsOf_24 yv_X12_kingsBy so_122 ml_RX12_329 (mX12_kingsBy_122 hI p3 (5 : Int32) m2) (Nat.le_of_ble_eq_true rfl) rfl rfl (Nat.le_of_ble_eq_true rfl) (fun r5 m6 => ?_)
        refine ao_goto (pc := 27) (tgt := 31) X dX12_kingsOf_27 (by decide) ?_
        refine ao_iadd (pc := 31) X dX12_kingsOf_31 ?_
        refine ao_ltI (fun x7 => ?_)
        refine ao_istore_n (pc := 32) (lv' := [(2, .int x7), (0, .ref (eAd E 122)), (1, .int p1), (3, .int p3)]) X dX12_kingsOf_32 rfl (by decide) rfl ?_
        refine ao_iinc (pc := 33) (k := 3) (v := p3 + (1 : Int32)) (lv' := [(3, .int (p3 + (1 : Int32))), (2, .int x7), (0, .ref (eAd E 122)), (1, .int p1)]) X dX12_kingsOf_33 rfl (ii_ic ic_1) (by decide) rfl ?_
        refine ao_goto (pc := 36) (tgt := 4) X dX12_kingsOf_36 (by decide) ?_
        refine ao_sub [2, 3, 1, 0] rfl ?_
        exact ih p1 x7 (p3 + (1 : Int32)) m6
def fX12_kingsOf_122 (v1 : Int32) (μ : Mem) : Option (Int32 × Mem) :=
  fX12_kingsOf_122_b4 FU v1 (0 : Int32) (0 : Int32) μ
set_option maxRecDepth 100000 in
set_option maxHeartbeats 4000000 in
theorem mX12_kingsOf_122 {E : En} {l : Launch} (hI : Inj E) (v1 : Int32) (μ : Mem) : MtI E l yX12_kingsOf cX12_kingsOf 4 (some .int) 4 [.ref (eAd E 122), .int v1] μ (fX12_kingsOf_122 v1 μ) := by
  refine mtI_of (own := RX12) [(0, .ref (eAd E 122)), (1, .int v1)] hI rfl (by decide) (Nat.le_of_ble_eq_true rfl) (Nat.le_of_ble_eq_true rfl) rfl (fun Z hl0 X hr => ?_)
  unfold fX12_kingsOf_122
  refine ao_iconst (pc := 0) X dX12_kingsOf_0 ic_0 ?_
  refine ao_istore_n (pc := 1) (lv' := [(2, .int (0 : Int32)), (0, .ref (eAd E 122)), (1, .int v1)]) X dX12_kingsOf_1 rfl (by decide) rfl ?_
  refine ao_iconst (pc := 2) X dX12_kingsOf_2 ic_0 ?_
  refine ao_istore_n (pc := 3) (lv' := [(3, .int (0 : Int32)), (2, .int (0 : Int32)), (0, .ref (eAd E 122)), (1, .int v1)]) X dX12_kingsOf_3 rfl (by decide) rfl ?_
  refine ao_sub [2, 3, 1, 0] rfl ?_
  exact bX12_kingsOf_122_4 hI hl0 X hr FU v1 (0 : Int32) (0 : Int32) μ
def fX12_goDocket_122_b49 (rc : Int32 → Int32 → Int32 → Mem → Option (Unit × Mem)) : Nat → Int32 → Int32 → Int32 → Int32 → Mem → Option (Unit × Mem)
  | 0, _, _, _, _, _ => none
  | n + 1, p1, p2, p3, p5, μ =>
  if (gI μ 122 1) ≤ p5 then (some ((), μ))
  else bnd (fX12_has p1 p5 μ) fun r7 m8 =>
    if r7 = 0 then (fX12_goDocket_122_b49 rc n p1 p2 p3 (p5 + (1 : Int32)) m8)
    else bnd (fX12_isAhead_122 p2 m8) fun r10 m11 =>
      if r10 = 0 then (fX12_goDocket_122_b49 rc n p1 p2 p3 (p5 + (1 : Int32)) m11)
      else gd (inb p2 6) (lt (sI m11 143 (ix p2) p5) fun m12 =>
        bnd (fX12_proofIn_122_123 p5 p2 m12) fun r13 m14 =>
        bnd (fX12_ending_122 r13 m14) fun r15 m16 =>
        bnd (fX12_kingsBy_122 p5 r15 m16) fun r17 m18 =>
        bnd (rc (p1 &&& (((1 : Int32) <<< (p5 &&& 31)) ^^^ (-1 : Int32))) (p2 + (1 : Int32)) (p3 + r17) m18) fun r19 m20 =>
        fX12_goDocket_122_b49 rc n p1 p2 p3 (p5 + (1 : Int32)) m20)
set_option maxRecDepth 100000 in
set_option maxHeartbeats 4000000 in
theorem bX12_goDocket_122_49 {E : En} {l : Launch} {Z : Zt} (hI : Inj E) (hl0 : lZ l Z) {dT : Nat} (X : Cx E Z cX12_goDocket RX12 6 (dT + 1)) (hr : rtOf Z = none) (hB : 5 ≤ dT) {rc : Int32 → Int32 → Int32 → Mem → Option (Unit × Mem)} (hrc : ∀ (v1 : Int32) (v2 : Int32) (v3 : Int32) (m : Mem), MtV E l yX12_goDocket cX12_goDocket 6 (none) dT [.ref (eAd E 122), .int v1, .int v2, .int v3] m (rc v1 v2 v3 m)) : ∀ (n : Nat) (p1 : Int32) (p2 : Int32) (p3 : Int32) (p5 : Int32) (μ : Mem), AO E Z 6 (QV E Z) 49 [(0, .ref (eAd E 122)), (1, .int p1), (2, .int p2), (3, .int p3), (5, .int p5)] [] μ (fX12_goDocket_122_b49 rc n p1 p2 p3 p5 μ) := by
  intro n
  induction n with
  | zero =>
    intros
    exact ao_none
  | succ n ih =>
    intro p1 p2 p3 p5 μ
    rw [fX12_goDocket_122_b49]
    refine ao_iload (pc := 49) X dX12_goDocket_49 rfl ?_
    refine ao_aload_n (pc := 51) X dX12_goDocket_51 rfl ?_
    refine ao_getI (pc := 52) X dX12_goDocket_52 fl_RX12_101 sf_122_1 ?_
    refine ao_icmp_ge (pc := 55) (tgt := 130) X dX12_goDocket_55 (by decide) (fun _ => ?_) (fun _ => ?_)
    · exact ao_vret (pc := 130) X hr dX12_goDocket_130
    · refine ao_iload_n (pc := 58) X dX12_goDocket_58 rfl ?_
      refine ao_iload (pc := 59) X dX12_goDocket_59 rfl ?_
      refine ao_callSI (pc := 61) (As := [.int p1, .int p5]) (st := []) X hl0 dX12_goDocket_61 yv_X12_has ml_RX12_158 (mX12_has hI p1 p5 μ) (by omega) rfl rfl (Nat.le_of_ble_eq_true rfl) (fun r7 m8 => ?_)
      refine ao_if_eq (pc := 64) (tgt := 124) X dX12_goDocket_64 (by decide) (fun _ => ?_) (fun _ => ?_)
      · refine ao_iinc (pc := 124) (k := 4) (v := p5 + (1 : Int32)) (lv' := [(5, .int (p5 + (1 : Int32))), (0, .ref (eAd E 122)), (1, .int p1), (2, .int p2), (3, .int p3)]) X dX12_goDocket_124 rfl (ii_ic ic_1) (by decide) rfl ?_
        refine ao_goto (pc := 127) (tgt := 49) X dX12_goDocket_127 (by decide) ?_
        refine ao_sub [1, 2, 3, 4, 0] rfl ?_
        exact ih p1 p2 p3 (p5 + (1 : Int32)) m8
      · refine ao_aload_n (pc := 67) X dX12_goDocket_67 rfl ?_
        refine ao_iload_n (pc := 68) X dX12_goDocket_68 rfl ?_
        refine ao_callVI (pc := 69) (As := [.int p2]) (st := []) X hl0 dX12_goDocket_69 yv_X12_isAhead so_122 ml_RX12_313 (mX12_isAhead_122 hI p2 m8) (by omega) rfl rfl (Nat.le_of_ble_eq_true rfl) (fun r10 m11 => ?_)
        refine ao_if_ne (pc := 72) (tgt := 78) X dX12_goDocket_72 (by decide) (fun _ => ?_) (fun _ => ?_)
        · refine ao_aload_n (pc := 78) X dX12_goDocket_78 rfl ?_
          refine ao_getR (pc := 79) X dX12_goDocket_79 fl_RX12_77 sf_122_35 ?_
          refine ao_iload_n (pc := 82) X dX12_goDocket_82 rfl ?_
          refine ao_iload (pc := 83) X dX12_goDocket_83 rfl ?_
          refine ao_iast (pc := 85) X dX12_goDocket_85 sa_143 ?_
          refine ao_lt (fun m12 => ?_)
          refine ao_aload_n (pc := 86) X dX12_goDocket_86 rfl ?_
          refine ao_iload_n (pc := 87) X dX12_goDocket_87 rfl ?_
          refine ao_iconst (pc := 88) X dX12_goDocket_88 ic_1 ?_
          refine ao_iload (pc := 89) X dX12_goDocket_89 rfl ?_
          refine ao_ishl (pc := 91) X dX12_goDocket_91 ?_
          refine ao_iconst (pc := 92) X dX12_goDocket_92 ic_m1 ?_
          refine ao_ixor (pc := 93) X dX12_goDocket_93 ?_
          refine ao_iand (pc := 94) X dX12_goDocket_94 ?_
          refine ao_iload_n (pc := 95) X dX12_goDocket_95 rfl ?_
          refine ao_iconst (pc := 96) X dX12_goDocket_96 ic_1 ?_
          refine ao_iadd (pc := 97) X dX12_goDocket_97 ?_
          refine ao_iload_n (pc := 98) X dX12_goDocket_98 rfl ?_
          refine ao_aload_n (pc := 99) X dX12_goDocket_99 rfl ?_
          refine ao_iload (pc := 100) X dX12_goDocket_100 rfl ?_
          refine ao_aload_n (pc := 102) X dX12_goDocket_102 rfl ?_
          refine ao_aload_n (pc := 103) X dX12_goDocket_103 rfl ?_
          refine ao_aload_n (pc := 104) X dX12_goDocket_104 rfl ?_
          refine ao_getR (pc := 105) X dX12_goDocket_105 fl_RX12_9 sf_122_0 ?_
          refine ao_iload (pc := 108) X dX12_goDocket_108 rfl ?_
          refine ao_iload_n (pc := 110) X dX12_goDocket_110 rfl ?_
          refine ao_callVI (pc := 111) (As := [.ref (eAd E 123), .int p5, .int p2]) (st := [.ref (eAd E 122), .int p5, .ref (eAd E 122), .int p3, .int (p2 + (1 : Int32)), .int (p1 &&& (((1 : Int32) <<< (p5 &&& 31)) ^^^ (-1 : Int32))), .ref (eAd E 122)]) X hl0 dX12_goDocket_111 yv_X12_proofIn so_122 ml_RX12_235 (mX12_proofIn_122_123 hI p5 p2 m12) (by omega) rfl rfl (Nat.le_of_ble_eq_true rfl) (fun r13 m14 => ?_)
          refine ao_callVI (pc := 114) (As := [.int r13]) (st := [.int p5, .ref (eAd E 122), .int p3, .int (p2 + (1 : Int32)), .int (p1 &&& (((1 : Int32) <<< (p5 &&& 31)) ^^^ (-1 : Int32))), .ref (eAd E 122)]) X hl0 dX12_goDocket_114 yv_X12_ending so_122 ml_RX12_264 (mX12_ending_122 hI r13 m14) (by omega) rfl rfl (Nat.le_of_ble_eq_true rfl) (fun r15 m16 => ?_)
          refine ao_callVI (pc := 117) (As := [.int p5, .int r15]) (st := [.int p3, .int (p2 + (1 : Int32)), .int (p1 &&& (((1 : Int32) <<< (p5 &&& 31)) ^^^ (-1 : Int32))), .ref (eAd E 122)]) X hl0 dX12_goDocket_117 yv_X12_kingsBy so_122 ml_RX12_329 (mX12_kingsBy_122 hI p5 r15 m16) (by omega) rfl rfl (Nat.le_of_ble_eq_true rfl) (fun r17 m18 => ?_)
          refine ao_iadd (pc := 120) X dX12_goDocket_120 ?_
          refine ao_callVV (pc := 121) (As := [.int (p1 &&& (((1 : Int32) <<< (p5 &&& 31)) ^^^ (-1 : Int32))), .int (p2 + (1 : Int32)), .int (p3 + r17)]) (st := []) X hl0 dX12_goDocket_121 yv_X12_goDocket so_122 ml_RX12_338 (hrc (p1 &&& (((1 : Int32) <<< (p5 &&& 31)) ^^^ (-1 : Int32))) (p2 + (1 : Int32)) (p3 + r17) m18) (by omega) rfl rfl (Nat.le_of_ble_eq_true rfl) (fun r19 m20 => ?_)
          refine ao_iinc (pc := 124) (k := 4) (v := p5 + (1 : Int32)) (lv' := [(5, .int (p5 + (1 : Int32))), (0, .ref (eAd E 122)), (1, .int p1), (2, .int p2), (3, .int p3)]) X dX12_goDocket_124 rfl (ii_ic ic_1) (by decide) rfl ?_
          refine ao_goto (pc := 127) (tgt := 49) X dX12_goDocket_127 (by decide) ?_
          refine ao_sub [1, 2, 3, 4, 0] rfl ?_
          exact ih p1 p2 p3 (p5 + (1 : Int32)) m20
        · refine ao_goto (pc := 75) (tgt := 124) X dX12_goDocket_75 (by decide) ?_
          refine ao_iinc (pc := 124) (k := 4) (v := p5 + (1 : Int32)) (lv' := [(5, .int (p5 + (1 : Int32))), (0, .ref (eAd E 122)), (1, .int p1), (2, .int p2), (3, .int p3)]) X dX12_goDocket_124 rfl (ii_ic ic_1) (by decide) rfl ?_
          refine ao_goto (pc := 127) (tgt := 49) X dX12_goDocket_127 (by decide) ?_
          refine ao_sub [1, 2, 3, 4, 0] rfl ?_
          exact ih p1 p2 p3 (p5 + (1 : Int32)) m11
def fX12_goDocket_122_b35 (rc : Int32 → Int32 → Int32 → Mem → Option (Unit × Mem)) (p1 : Int32) (p2 : Int32) (p3 : Int32) (p4 : Int32) (μ : Mem) : Option (Unit × Mem) :=
  lt (sI μ 122 38 p4) fun m4 =>
  bnd (fX12_keepLine_122 p2 m4) fun r5 m6 =>
  fX12_goDocket_122_b49 rc FU p1 p2 p3 (0 : Int32) m6
set_option maxRecDepth 100000 in
set_option maxHeartbeats 4000000 in
theorem bX12_goDocket_122_35 {E : En} {l : Launch} {Z : Zt} (hI : Inj E) (hl0 : lZ l Z) {dT : Nat} (X : Cx E Z cX12_goDocket RX12 6 (dT + 1)) (hr : rtOf Z = none) (hB : 5 ≤ dT) {rc : Int32 → Int32 → Int32 → Mem → Option (Unit × Mem)} (hrc : ∀ (v1 : Int32) (v2 : Int32) (v3 : Int32) (m : Mem), MtV E l yX12_goDocket cX12_goDocket 6 (none) dT [.ref (eAd E 122), .int v1, .int v2, .int v3] m (rc v1 v2 v3 m)) (p1 : Int32) (p2 : Int32) (p3 : Int32) (p4 : Int32) (μ : Mem) : AO E Z 6 (QV E Z) 35 [(0, .ref (eAd E 122)), (1, .int p1), (2, .int p2), (3, .int p3), (4, .int p4)] [] μ (fX12_goDocket_122_b35 rc p1 p2 p3 p4 μ) := by
  unfold fX12_goDocket_122_b35
  refine ao_aload_n (pc := 35) X dX12_goDocket_35 rfl ?_
  refine ao_iload (pc := 36) X dX12_goDocket_36 rfl ?_
  refine ao_putI (pc := 38) X dX12_goDocket_38 fp_RX12_335 sf_122_38 ?_
  refine ao_lt (fun m4 => ?_)
  refine ao_aload_n (pc := 41) X dX12_goDocket_41 rfl ?_
  refine ao_iload_n (pc := 42) X dX12_goDocket_42 rfl ?_
  refine ao_callVV (pc := 43) (As := [.int p2]) (st := []) X hl0 dX12_goDocket_43 yv_X12_keepLine so_122 ml_RX12_319 (mX12_keepLine_122 hI p2 m4) (by omega) rfl rfl (Nat.le_of_ble_eq_true rfl) (fun r5 m6 => ?_)
  refine ao_iconst (pc := 46) X dX12_goDocket_46 ic_0 ?_
  refine ao_istore (pc := 47) (lv' := [(5, .int (0 : Int32)), (0, .ref (eAd E 122)), (1, .int p1), (2, .int p2), (3, .int p3), (4, .int p4)]) X dX12_goDocket_47 (by decide) rfl ?_
  refine ao_sub [1, 2, 3, 4, 0] rfl ?_
  exact bX12_goDocket_122_49 hI hl0 X hr hB hrc FU p1 p2 p3 (0 : Int32) m6
def fX12_goDocket_122_r (rc : Int32 → Int32 → Int32 → Mem → Option (Unit × Mem)) (v1 : Int32) (v2 : Int32) (v3 : Int32) (μ : Mem) : Option (Unit × Mem) :=
  bnd (fX12_kingsOf_122 v1 μ) fun r1 m2 =>
  lt (v3 + r1) fun x3 =>
  if (gI m2 122 38) < x3 then (fX12_goDocket_122_b35 rc v1 v2 v3 x3 m2)
  else if x3 = (gI m2 122 38) then (if (gI m2 122 37) ≤ v2 then (fX12_goDocket_122_b49 rc FU v1 v2 v3 (0 : Int32) m2)
      else fX12_goDocket_122_b35 rc v1 v2 v3 x3 m2)
    else fX12_goDocket_122_b49 rc FU v1 v2 v3 (0 : Int32) m2
set_option maxRecDepth 100000 in
set_option maxHeartbeats 4000000 in
theorem mX12_goDocket_122_r {E : En} {l : Launch} (hI : Inj E) {dT : Nat} (hB : 5 ≤ dT) {rc : Int32 → Int32 → Int32 → Mem → Option (Unit × Mem)} (hrc : ∀ (v1 : Int32) (v2 : Int32) (v3 : Int32) (m : Mem), MtV E l yX12_goDocket cX12_goDocket 6 (none) dT [.ref (eAd E 122), .int v1, .int v2, .int v3] m (rc v1 v2 v3 m)) (v1 : Int32) (v2 : Int32) (v3 : Int32) (μ : Mem) : MtV E l yX12_goDocket cX12_goDocket 6 (none) (dT + 1) [.ref (eAd E 122), .int v1, .int v2, .int v3] μ (fX12_goDocket_122_r rc v1 v2 v3 μ) := by
  refine mtV_of (own := RX12) [(0, .ref (eAd E 122)), (1, .int v1), (2, .int v2), (3, .int v3)] hI rfl (by decide) (by omega) (Nat.le_of_ble_eq_true rfl) rfl (fun Z hl0 X hr => ?_)
  unfold fX12_goDocket_122_r
  refine ao_iload_n (pc := 0) X dX12_goDocket_0 rfl ?_
  refine ao_aload_n (pc := 1) X dX12_goDocket_1 rfl ?_
  refine ao_iload_n (pc := 2) X dX12_goDocket_2 rfl ?_
  refine ao_callVI (pc := 3) (As := [.int v1]) (st := [.int v3]) X hl0 dX12_goDocket_3 yv_X12_kingsOf so_122 ml_RX12_332 (mX12_kingsOf_122 hI v1 μ) (by omega) rfl rfl (Nat.le_of_ble_eq_true rfl) (fun r1 m2 => ?_)
  refine ao_iadd (pc := 6) X dX12_goDocket_6 ?_
  refine ao_ltI (fun x3 => ?_)
  refine ao_istore (pc := 7) (lv' := [(4, .int x3), (0, .ref (eAd E 122)), (1, .int v1), (2, .int v2), (3, .int v3)]) X dX12_goDocket_7 (by decide) rfl ?_
  refine ao_iload (pc := 9) X dX12_goDocket_9 rfl ?_
  refine ao_aload_n (pc := 11) X dX12_goDocket_11 rfl ?_
  refine ao_getI (pc := 12) X dX12_goDocket_12 fl_RX12_335 sf_122_38 ?_
  refine ao_icmp_gt (pc := 15) (tgt := 35) X dX12_goDocket_15 (by decide) (fun _ => ?_) (fun _ => ?_)
  · refine ao_sub [1, 2, 3, 4, 0] rfl ?_
    exact bX12_goDocket_122_35 hI hl0 X hr hB hrc v1 v2 v3 x3 m2
  · refine ao_iload (pc := 18) X dX12_goDocket_18 rfl ?_
    refine ao_aload_n (pc := 20) X dX12_goDocket_20 rfl ?_
    refine ao_getI (pc := 21) X dX12_goDocket_21 fl_RX12_335 sf_122_38 ?_
    refine ao_icmp_ne (pc := 24) (tgt := 46) X dX12_goDocket_24 (by decide) (fun _ => ?_) (fun _ => ?_)
    · refine ao_iconst (pc := 46) X dX12_goDocket_46 ic_0 ?_
      refine ao_istore (pc := 47) (lv' := [(5, .int (0 : Int32)), (4, .int x3), (0, .ref (eAd E 122)), (1, .int v1), (2, .int v2), (3, .int v3)]) X dX12_goDocket_47 (by decide) rfl ?_
      refine ao_sub [2, 3, 4, 5, 0] rfl ?_
      exact bX12_goDocket_122_49 hI hl0 X hr hB hrc FU v1 v2 v3 (0 : Int32) m2
    · refine ao_iload_n (pc := 27) X dX12_goDocket_27 rfl ?_
      refine ao_aload_n (pc := 28) X dX12_goDocket_28 rfl ?_
      refine ao_getI (pc := 29) X dX12_goDocket_29 fl_RX12_316 sf_122_37 ?_
      refine ao_icmp_ge (pc := 32) (tgt := 46) X dX12_goDocket_32 (by decide) (fun _ => ?_) (fun _ => ?_)
      · refine ao_iconst (pc := 46) X dX12_goDocket_46 ic_0 ?_
        refine ao_istore (pc := 47) (lv' := [(5, .int (0 : Int32)), (4, .int x3), (0, .ref (eAd E 122)), (1, .int v1), (2, .int v2), (3, .int v3)]) X dX12_goDocket_47 (by decide) rfl ?_
        refine ao_sub [2, 3, 4, 5, 0] rfl ?_
        exact bX12_goDocket_122_49 hI hl0 X hr hB hrc FU v1 v2 v3 (0 : Int32) m2
      · refine ao_sub [1, 2, 3, 4, 0] rfl ?_
        exact bX12_goDocket_122_35 hI hl0 X hr hB hrc v1 v2 v3 x3 m2
def fX12_goDocket_122 : Nat → Int32 → Int32 → Int32 → Mem → Option (Unit × Mem)
  | 0, _, _, _, _ => none
  | n + 1, v1, v2, v3, μ => fX12_goDocket_122_r (fun v1 v2 v3 m => fX12_goDocket_122 n v1 v2 v3 m) v1 v2 v3 μ
theorem dBX12_goDocket_122 (n : Nat) : 5 ≤ 5 + 1 * n := Nat.le_add_right _ _
theorem mX12_goDocket_122 {E : En} {l : Launch} (hI : Inj E) : ∀ (n : Nat) (v1 : Int32) (v2 : Int32) (v3 : Int32) (μ : Mem), MtV E l yX12_goDocket cX12_goDocket 6 (none) (5 + 1 * n) [.ref (eAd E 122), .int v1, .int v2, .int v3] μ (fX12_goDocket_122 n v1 v2 v3 μ) := by
  intro n
  induction n with
  | zero =>
    intro v1 v2 v3 μ r μ' h
    cases h
  | succ n ih =>
    intro v1 v2 v3 μ
    exact mX12_goDocket_122_r hI (dBX12_goDocket_122 n) ih v1 v2 v3 μ
def fX12_docket_122 (μ : Mem) : Option (Int32 × Mem) :=
  lt (sI μ 122 17 (0 : Int32)) fun m1 =>
  lt (sI m1 122 38 (-1 : Int32)) fun m2 =>
  bnd (fX12_ofKind_122_123 (1 : Int32) m2) fun r3 m4 =>
  bnd (fX12_goDocket_122 FR r3 (0 : Int32) (0 : Int32) m4) fun r5 m6 =>
  bnd (fX12_tellLine_122 m6) fun r7 m8 =>
  some ((gI m8 122 38), m8)
set_option maxRecDepth 100000 in
set_option maxHeartbeats 4000000 in
theorem mX12_docket_122 {E : En} {l : Launch} (hI : Inj E) (μ : Mem) : MtI E l yX12_docket cX12_docket 1 (some .int) 106 [.ref (eAd E 122)] μ (fX12_docket_122 μ) := by
  refine mtI_of (own := RX12) [(0, .ref (eAd E 122))] hI rfl (by decide) (Nat.le_of_ble_eq_true rfl) (Nat.le_of_ble_eq_true rfl) rfl (fun Z hl0 X hr => ?_)
  unfold fX12_docket_122
  refine ao_aload_n (pc := 0) X dX12_docket_0 rfl ?_
  refine ao_iconst (pc := 1) X dX12_docket_1 ic_0 ?_
  refine ao_putI (pc := 2) X dX12_docket_2 fp_RX12_95 sf_122_17 ?_
  refine ao_lt (fun m1 => ?_)
  refine ao_aload_n (pc := 5) X dX12_docket_5 rfl ?_
  refine ao_iconst (pc := 6) X dX12_docket_6 ic_m1 ?_
  refine ao_putI (pc := 7) X dX12_docket_7 fp_RX12_335 sf_122_38 ?_
  refine ao_lt (fun m2 => ?_)
  refine ao_aload_n (pc := 10) X dX12_docket_10 rfl ?_
  refine ao_aload_n (pc := 11) X dX12_docket_11 rfl ?_
  refine ao_aload_n (pc := 12) X dX12_docket_12 rfl ?_
  refine ao_getR (pc := 13) X dX12_docket_13 fl_RX12_9 sf_122_0 ?_
  refine ao_iconst (pc := 16) X dX12_docket_16 ic_1 ?_
  refine ao_callVI (pc := 17) (As := [.ref (eAd E 123), .int (1 : Int32)]) (st := [.ref (eAd E 122)]) X hl0 dX12_docket_17 yv_X12_ofKind so_122 ml_RX12_271 (mX12_ofKind_122_123 hI (1 : Int32) m2) (Nat.le_of_ble_eq_true rfl) rfl rfl (Nat.le_of_ble_eq_true rfl) (fun r3 m4 => ?_)
  refine ao_iconst (pc := 20) X dX12_docket_20 ic_0 ?_
  refine ao_iconst (pc := 21) X dX12_docket_21 ic_0 ?_
  refine ao_callVV (pc := 22) (As := [.int r3, .int (0 : Int32), .int (0 : Int32)]) (st := []) X hl0 dX12_docket_22 yv_X12_goDocket so_122 ml_RX12_338 (mX12_goDocket_122 hI FR r3 (0 : Int32) (0 : Int32) m4) (by decide) rfl rfl (Nat.le_of_ble_eq_true rfl) (fun r5 m6 => ?_)
  refine ao_aload_n (pc := 25) X dX12_docket_25 rfl ?_
  refine ao_callVV (pc := 26) (As := []) (st := []) X hl0 dX12_docket_26 yv_X12_tellLine so_122 ml_RX12_326 (mX12_tellLine_122 hI m6) (Nat.le_of_ble_eq_true rfl) rfl rfl (Nat.le_of_ble_eq_true rfl) (fun r7 m8 => ?_)
  refine ao_aload_n (pc := 29) X dX12_docket_29 rfl ?_
  refine ao_getI (pc := 30) X dX12_docket_30 fl_RX12_335 sf_122_38 ?_
  exact ao_iret (pc := 33) X hr dX12_docket_33
def fX11_fallsTo_0_25_b55 (k6 : Int32 → Int32 → Int32 → Int32 → Mem → Option (Int32 × Mem)) (p2 : Int32) (p3 : Int32) (p4 : Int32) (p5 : Int32) (p6 : Int32) (q0 : Int32) (μ : Mem) : Option (Int32 × Mem) :=
  if p6 < 0 then (k6 p2 p3 p4 (p5 + (1 : Int32)) μ)
  else if (4 : Int32) ≤ p6 then (k6 p2 p3 p4 (p5 + (1 : Int32)) μ)
    else gd (inb p6 4) (if (gI μ 25 (ix p6)) = p2 then (if q0 = 0 then (k6 p2 p3 p4 (p5 + (1 : Int32)) μ)
        else gd (inb p5 6) (bnd (fX2_worthOf_24 (gI μ 10 (ix p5)) μ) fun r6 m7 =>
          lt (p4 + r6) fun x8 =>
          k6 p2 p3 x8 (p5 + (1 : Int32)) m7))
      else k6 p2 p3 p4 (p5 + (1 : Int32)) μ)
set_option maxRecDepth 100000 in
set_option maxHeartbeats 4000000 in
theorem bX11_fallsTo_0_25_55 {E : En} {l : Launch} {Z : Zt} (hI : Inj E) (hl0 : lZ l Z) (X : Cx E Z cX11_fallsTo RX11 8 2) (hr : rtOf Z = some .int) {k6 : Int32 → Int32 → Int32 → Int32 → Mem → Option (Int32 × Mem)} (hk6 : ∀ (p2 : Int32) (p3 : Int32) (p4 : Int32) (p5 : Int32) (m : Mem), AO E Z 8 (QI E Z) 6 [(0, .ref (eAd E 0)), (1, .ref (eAd E 25)), (2, .int p2), (3, .int p3), (4, .int p4), (5, .int p5)] [] m (k6 p2 p3 p4 p5 m)) (p2 : Int32) (p3 : Int32) (p4 : Int32) (p5 : Int32) (p6 : Int32) (q0 : Int32) (μ : Mem) : AO E Z 8 (QI E Z) 55 [(0, .ref (eAd E 0)), (1, .ref (eAd E 25)), (2, .int p2), (3, .int p3), (4, .int p4), (5, .int p5), (6, .int p6)] [.int q0] μ (fX11_fallsTo_0_25_b55 k6 p2 p3 p4 p5 p6 q0 μ) := by
  unfold fX11_fallsTo_0_25_b55
  refine ao_istore (pc := 55) (lv' := [(7, .int q0), (0, .ref (eAd E 0)), (1, .ref (eAd E 25)), (2, .int p2), (3, .int p3), (4, .int p4), (5, .int p5), (6, .int p6)]) X dX11_fallsTo_55 (by decide) rfl ?_
  refine ao_iload (pc := 57) X dX11_fallsTo_57 rfl ?_
  refine ao_if_lt (pc := 59) (tgt := 104) X dX11_fallsTo_59 (by decide) (fun _ => ?_) (fun _ => ?_)
  · refine ao_iinc (pc := 104) (k := 6) (v := p5 + (1 : Int32)) (lv' := [(5, .int (p5 + (1 : Int32))), (7, .int q0), (0, .ref (eAd E 0)), (1, .ref (eAd E 25)), (2, .int p2), (3, .int p3), (4, .int p4), (6, .int p6)]) X dX11_fallsTo_104 rfl (ii_ic ic_1) (by decide) rfl ?_
    refine ao_goto (pc := 107) (tgt := 6) X dX11_fallsTo_107 (by decide) ?_
    refine ao_sub [2, 3, 4, 5, 6, 0] rfl ?_
    exact hk6 p2 p3 p4 (p5 + (1 : Int32)) μ
  · refine ao_iload (pc := 62) X dX11_fallsTo_62 rfl ?_
    refine ao_aload_n (pc := 64) X dX11_fallsTo_64 rfl ?_
    refine ao_alen (pc := 65) (v := (4 : Int32)) X dX11_fallsTo_65 sa_25 (by decide) ?_
    refine ao_icmp_ge (pc := 66) (tgt := 104) X dX11_fallsTo_66 (by decide) (fun _ => ?_) (fun _ => ?_)
    · refine ao_iinc (pc := 104) (k := 6) (v := p5 + (1 : Int32)) (lv' := [(5, .int (p5 + (1 : Int32))), (7, .int q0), (0, .ref (eAd E 0)), (1, .ref (eAd E 25)), (2, .int p2), (3, .int p3), (4, .int p4), (6, .int p6)]) X dX11_fallsTo_104 rfl (ii_ic ic_1) (by decide) rfl ?_
      refine ao_goto (pc := 107) (tgt := 6) X dX11_fallsTo_107 (by decide) ?_
      refine ao_sub [2, 3, 4, 5, 6, 0] rfl ?_
      exact hk6 p2 p3 p4 (p5 + (1 : Int32)) μ
    · refine ao_aload_n (pc := 69) X dX11_fallsTo_69 rfl ?_
      refine ao_iload (pc := 70) X dX11_fallsTo_70 rfl ?_
      refine ao_iald (pc := 72) X dX11_fallsTo_72 sa_25 ?_
      refine ao_iload_n (pc := 73) X dX11_fallsTo_73 rfl ?_
      refine ao_icmp_ne (pc := 74) (tgt := 104) X dX11_fallsTo_74 (by decide) (fun _ => ?_) (fun _ => ?_)
      · refine ao_iinc (pc := 104) (k := 6) (v := p5 + (1 : Int32)) (lv' := [(5, .int (p5 + (1 : Int32))), (7, .int q0), (0, .ref (eAd E 0)), (1, .ref (eAd E 25)), (2, .int p2), (3, .int p3), (4, .int p4), (6, .int p6)]) X dX11_fallsTo_104 rfl (ii_ic ic_1) (by decide) rfl ?_
        refine ao_goto (pc := 107) (tgt := 6) X dX11_fallsTo_107 (by decide) ?_
        refine ao_sub [2, 3, 4, 5, 6, 0] rfl ?_
        exact hk6 p2 p3 p4 (p5 + (1 : Int32)) μ
      · refine ao_iload (pc := 77) X dX11_fallsTo_77 rfl ?_
        refine ao_if_eq (pc := 79) (tgt := 104) X dX11_fallsTo_79 (by decide) (fun _ => ?_) (fun _ => ?_)
        · refine ao_iinc (pc := 104) (k := 6) (v := p5 + (1 : Int32)) (lv' := [(5, .int (p5 + (1 : Int32))), (7, .int q0), (0, .ref (eAd E 0)), (1, .ref (eAd E 25)), (2, .int p2), (3, .int p3), (4, .int p4), (6, .int p6)]) X dX11_fallsTo_104 rfl (ii_ic ic_1) (by decide) rfl ?_
          refine ao_goto (pc := 107) (tgt := 6) X dX11_fallsTo_107 (by decide) ?_
          refine ao_sub [2, 3, 4, 5, 6, 0] rfl ?_
          exact hk6 p2 p3 p4 (p5 + (1 : Int32)) μ
        · refine ao_iload (pc := 82) X dX11_fallsTo_82 rfl ?_
          refine ao_aload_n (pc := 84) X dX11_fallsTo_84 rfl ?_
          refine ao_getR (pc := 85) X dX11_fallsTo_85 fl_RX11_56 sf_0_6 ?_
          refine ao_aload_n (pc := 88) X dX11_fallsTo_88 rfl ?_
          refine ao_getR (pc := 89) X dX11_fallsTo_89 fl_RX11_26 sf_0_2 ?_
          refine ao_getR (pc := 92) X dX11_fallsTo_92 fl_RX11_169 sf_5_4 ?_
          refine ao_iload (pc := 95) X dX11_fallsTo_95 rfl ?_
          refine ao_iald (pc := 97) X dX11_fallsTo_97 sa_10 ?_
          refine ao_callVI (pc := 98) (As := [.int (gI μ 10 (ix p5))]) (st := [.int p4]) X hl0 dX11_fallsTo_98 yv_X2_worthOf so_24 ml_RX11_188 (mX2_worthOf_24 hI (gI μ 10 (ix p5)) μ) (Nat.le_of_ble_eq_true rfl) rfl rfl (Nat.le_of_ble_eq_true rfl) (fun r6 m7 => ?_)
          refine ao_iadd (pc := 101) X dX11_fallsTo_101 ?_
          refine ao_ltI (fun x8 => ?_)
          refine ao_istore (pc := 102) (lv' := [(4, .int x8), (7, .int q0), (0, .ref (eAd E 0)), (1, .ref (eAd E 25)), (2, .int p2), (3, .int p3), (5, .int p5), (6, .int p6)]) X dX11_fallsTo_102 (by decide) rfl ?_
          refine ao_iinc (pc := 104) (k := 6) (v := p5 + (1 : Int32)) (lv' := [(5, .int (p5 + (1 : Int32))), (4, .int x8), (7, .int q0), (0, .ref (eAd E 0)), (1, .ref (eAd E 25)), (2, .int p2), (3, .int p3), (6, .int p6)]) X dX11_fallsTo_104 rfl (ii_ic ic_1) (by decide) rfl ?_
          refine ao_goto (pc := 107) (tgt := 6) X dX11_fallsTo_107 (by decide) ?_
          refine ao_sub [3, 4, 5, 6, 1, 0] rfl ?_
          exact hk6 p2 p3 x8 (p5 + (1 : Int32)) m7
def fX11_fallsTo_0_25_b6 : Nat → Int32 → Int32 → Int32 → Int32 → Mem → Option (Int32 × Mem)
  | 0, _, _, _, _, _ => none
  | n + 1, p2, p3, p4, p5, μ =>
  if (gI μ 5 5) ≤ p5 then (some (p4, μ))
  else gd (inb p5 6) (lt ((gI μ 34 (ix p5)) - (2 : Int32)) fun x1 =>
    if p2 = 0 then (gd (inb p5 6) (if (gI μ 9 (ix p5)) = p3 then (fX11_fallsTo_0_25_b55 (fun p2 p3 p4 p5 m => fX11_fallsTo_0_25_b6 n p2 p3 p4 p5 m) p2 p3 p4 p5 x1 (1 : Int32) μ)
      else fX11_fallsTo_0_25_b55 (fun p2 p3 p4 p5 m => fX11_fallsTo_0_25_b6 n p2 p3 p4 p5 m) p2 p3 p4 p5 x1 (0 : Int32) μ))
    else fX11_fallsTo_0_25_b55 (fun p2 p3 p4 p5 m => fX11_fallsTo_0_25_b6 n p2 p3 p4 p5 m) p2 p3 p4 p5 x1 (1 : Int32) μ)
set_option maxRecDepth 100000 in
set_option maxHeartbeats 4000000 in
theorem bX11_fallsTo_0_25_6 {E : En} {l : Launch} {Z : Zt} (hI : Inj E) (hl0 : lZ l Z) (X : Cx E Z cX11_fallsTo RX11 8 2) (hr : rtOf Z = some .int) : ∀ (n : Nat) (p2 : Int32) (p3 : Int32) (p4 : Int32) (p5 : Int32) (μ : Mem), AO E Z 8 (QI E Z) 6 [(0, .ref (eAd E 0)), (1, .ref (eAd E 25)), (2, .int p2), (3, .int p3), (4, .int p4), (5, .int p5)] [] μ (fX11_fallsTo_0_25_b6 n p2 p3 p4 p5 μ) := by
  intro n
  induction n with
  | zero =>
    intros
    exact ao_none
  | succ n ih =>
    intro p2 p3 p4 p5 μ
    rw [fX11_fallsTo_0_25_b6]
    refine ao_iload (pc := 6) X dX11_fallsTo_6 rfl ?_
    refine ao_aload_n (pc := 8) X dX11_fallsTo_8 rfl ?_
    refine ao_getR (pc := 9) X dX11_fallsTo_9 fl_RX11_26 sf_0_2 ?_
    refine ao_getI (pc := 12) X dX11_fallsTo_12 fl_RX11_119 sf_5_5 ?_
    refine ao_icmp_ge (pc := 15) (tgt := 110) X dX11_fallsTo_15 (by decide) (fun _ => ?_) (fun _ => ?_)
    · refine ao_iload (pc := 110) X dX11_fallsTo_110 rfl ?_
      exact ao_iret (pc := 112) X hr dX11_fallsTo_112
    · refine ao_aload_n (pc := 18) X dX11_fallsTo_18 rfl ?_
      refine ao_getR (pc := 19) X dX11_fallsTo_19 fl_RX11_65 sf_0_7 ?_
      refine ao_getR (pc := 22) X dX11_fallsTo_22 fl_RX11_172 sf_33_0 ?_
      refine ao_iload (pc := 25) X dX11_fallsTo_25 rfl ?_
      refine ao_iald (pc := 27) X dX11_fallsTo_27 sa_34 ?_
      refine ao_iconst (pc := 28) X dX11_fallsTo_28 ic_2 ?_
      refine ao_isub (pc := 29) X dX11_fallsTo_29 ?_
      refine ao_ltI (fun x1 => ?_)
      refine ao_istore (pc := 30) (lv' := [(6, .int x1), (0, .ref (eAd E 0)), (1, .ref (eAd E 25)), (2, .int p2), (3, .int p3), (4, .int p4), (5, .int p5)]) X dX11_fallsTo_30 (by decide) rfl ?_
      refine ao_iload_n (pc := 32) X dX11_fallsTo_32 rfl ?_
      refine ao_if_ne (pc := 33) (tgt := 50) X dX11_fallsTo_33 (by decide) (fun _ => ?_) (fun _ => ?_)
      · refine ao_iconst (pc := 50) X dX11_fallsTo_50 ic_1 ?_
        refine ao_goto (pc := 51) (tgt := 55) X dX11_fallsTo_51 (by decide) ?_
        refine ao_sub [1, 2, 3, 4, 5, 6, 0] rfl ?_
        exact bX11_fallsTo_0_25_55 hI hl0 X hr ih p2 p3 p4 p5 x1 (1 : Int32) μ
      · refine ao_aload_n (pc := 36) X dX11_fallsTo_36 rfl ?_
        refine ao_getR (pc := 37) X dX11_fallsTo_37 fl_RX11_26 sf_0_2 ?_
        refine ao_getR (pc := 40) X dX11_fallsTo_40 fl_RX11_166 sf_5_3 ?_
        refine ao_iload (pc := 43) X dX11_fallsTo_43 rfl ?_
        refine ao_iald (pc := 45) X dX11_fallsTo_45 sa_9 ?_
        refine ao_iload_n (pc := 46) X dX11_fallsTo_46 rfl ?_
        refine ao_icmp_ne (pc := 47) (tgt := 54) X dX11_fallsTo_47 (by decide) (fun _ => ?_) (fun _ => ?_)
        · refine ao_iconst (pc := 54) X dX11_fallsTo_54 ic_0 ?_
          refine ao_sub [1, 2, 3, 4, 5, 6, 0] rfl ?_
          exact bX11_fallsTo_0_25_55 hI hl0 X hr ih p2 p3 p4 p5 x1 (0 : Int32) μ
        · refine ao_iconst (pc := 50) X dX11_fallsTo_50 ic_1 ?_
          refine ao_goto (pc := 51) (tgt := 55) X dX11_fallsTo_51 (by decide) ?_
          refine ao_sub [1, 2, 3, 4, 5, 6, 0] rfl ?_
          exact bX11_fallsTo_0_25_55 hI hl0 X hr ih p2 p3 p4 p5 x1 (1 : Int32) μ
def fX11_fallsTo_0_25 (v2 : Int32) (v3 : Int32) (μ : Mem) : Option (Int32 × Mem) :=
  fX11_fallsTo_0_25_b6 FU v2 v3 (0 : Int32) (0 : Int32) μ
set_option maxRecDepth 100000 in
set_option maxHeartbeats 4000000 in
theorem mX11_fallsTo_0_25 {E : En} {l : Launch} (hI : Inj E) (v2 : Int32) (v3 : Int32) (μ : Mem) : MtI E l yX11_fallsTo cX11_fallsTo 8 (some .int) 2 [.ref (eAd E 0), .ref (eAd E 25), .int v2, .int v3] μ (fX11_fallsTo_0_25 v2 v3 μ) := by
  refine mtI_of (own := RX11) [(0, .ref (eAd E 0)), (1, .ref (eAd E 25)), (2, .int v2), (3, .int v3)] hI rfl (by decide) (Nat.le_of_ble_eq_true rfl) (Nat.le_of_ble_eq_true rfl) rfl (fun Z hl0 X hr => ?_)
  unfold fX11_fallsTo_0_25
  refine ao_iconst (pc := 0) X dX11_fallsTo_0 ic_0 ?_
  refine ao_istore (pc := 1) (lv' := [(4, .int (0 : Int32)), (0, .ref (eAd E 0)), (1, .ref (eAd E 25)), (2, .int v2), (3, .int v3)]) X dX11_fallsTo_1 (by decide) rfl ?_
  refine ao_iconst (pc := 3) X dX11_fallsTo_3 ic_0 ?_
  refine ao_istore (pc := 4) (lv' := [(5, .int (0 : Int32)), (4, .int (0 : Int32)), (0, .ref (eAd E 0)), (1, .ref (eAd E 25)), (2, .int v2), (3, .int v3)]) X dX11_fallsTo_4 (by decide) rfl ?_
  refine ao_sub [2, 3, 4, 5, 1, 0] rfl ?_
  exact bX11_fallsTo_0_25_6 hI hl0 X hr FU v2 v3 (0 : Int32) (0 : Int32) μ
def fX11_parts_0_b9 : Nat → Int32 → Mem → Option (Int32 × Mem)
  | 0, _, _ => none
  | n + 1, p1, μ =>
  if (4 : Int32) ≤ p1 then (bnd (fX11_fallsTo_0_25 (2 : Int32) (-1 : Int32) μ) fun r3 m4 =>
    bnd (fX7_add_3 (Int32.toInt64 r3) m4) fun r5 m6 =>
    bnd (fX11_fallsTo_0_25 (1 : Int32) (-1 : Int32) m6) fun r7 m8 =>
    some (r7, m8))
  else bnd (fX11_fallsTo_0_25 (0 : Int32) p1 μ) fun r9 m10 =>
    bnd (fX7_add_3 (Int32.toInt64 r9) m10) fun r11 m12 =>
    fX11_parts_0_b9 n (p1 + (1 : Int32)) m12
set_option maxRecDepth 100000 in
set_option maxHeartbeats 4000000 in
theorem bX11_parts_0_9 {E : En} {l : Launch} {Z : Zt} (hI : Inj E) (hl0 : lZ l Z) (X : Cx E Z cX11_parts RX11 2 3) (hr : rtOf Z = some .int) : ∀ (n : Nat) (p1 : Int32) (μ : Mem), AO E Z 2 (QI E Z) 9 [(0, .ref (eAd E 0)), (1, .int p1)] [] μ (fX11_parts_0_b9 n p1 μ) := by
  intro n
  induction n with
  | zero =>
    intros
    exact ao_none
  | succ n ih =>
    intro p1 μ
    rw [fX11_parts_0_b9]
    refine ao_iload_n (pc := 9) X dX11_parts_9 rfl ?_
    refine ao_iconst (pc := 10) X dX11_parts_10 ic_4 ?_
    refine ao_icmp_ge (pc := 11) (tgt := 41) X dX11_parts_11 (by decide) (fun _ => ?_) (fun _ => ?_)
    · refine ao_aload_n (pc := 41) X dX11_parts_41 rfl ?_
      refine ao_getR (pc := 42) X dX11_parts_42 fl_RX11_19 sf_0_1 ?_
      refine ao_aload_n (pc := 45) X dX11_parts_45 rfl ?_
      refine ao_aload_n (pc := 46) X dX11_parts_46 rfl ?_
      refine ao_getR (pc := 47) X dX11_parts_47 fl_RX11_56 sf_0_6 ?_
      refine ao_getR (pc := 50) X dX11_parts_50 fl_RX11_335 sf_24_0 ?_
      refine ao_iconst (pc := 53) X dX11_parts_53 ic_2 ?_
      refine ao_iconst (pc := 54) X dX11_parts_54 ic_m1 ?_
      refine ao_callVI (pc := 55) (As := [.ref (eAd E 25), .int (2 : Int32), .int (-1 : Int32)]) (st := [.ref (eAd E 3)]) X hl0 dX11_parts_55 yv_X11_fallsTo so_0 ml_RX11_338 (mX11_fallsTo_0_25 hI (2 : Int32) (-1 : Int32) μ) (Nat.le_of_ble_eq_true rfl) rfl rfl (Nat.le_of_ble_eq_true rfl) (fun r3 m4 => ?_)
      refine ao_i2l (pc := 58) X dX11_parts_58 ?_
      refine ao_callVV (pc := 59) (As := [.long (Int32.toInt64 r3)]) (st := []) X hl0 dX11_parts_59 yv_X7_add so_3 ml_RX11_290 (mX7_add_3 hI (Int32.toInt64 r3) m4) (Nat.le_of_ble_eq_true rfl) rfl rfl (Nat.le_of_ble_eq_true rfl) (fun r5 m6 => ?_)
      refine ao_aload_n (pc := 62) X dX11_parts_62 rfl ?_
      refine ao_aload_n (pc := 63) X dX11_parts_63 rfl ?_
      refine ao_getR (pc := 64) X dX11_parts_64 fl_RX11_56 sf_0_6 ?_
      refine ao_getR (pc := 67) X dX11_parts_67 fl_RX11_335 sf_24_0 ?_
      refine ao_iconst (pc := 70) X dX11_parts_70 ic_1 ?_
      refine ao_iconst (pc := 71) X dX11_parts_71 ic_m1 ?_
      refine ao_callVI (pc := 72) (As := [.ref (eAd E 25), .int (1 : Int32), .int (-1 : Int32)]) (st := []) X hl0 dX11_parts_72 yv_X11_fallsTo so_0 ml_RX11_338 (mX11_fallsTo_0_25 hI (1 : Int32) (-1 : Int32) m6) (Nat.le_of_ble_eq_true rfl) rfl rfl (Nat.le_of_ble_eq_true rfl) (fun r7 m8 => ?_)
      exact ao_iret (pc := 75) X hr dX11_parts_75
    · refine ao_aload_n (pc := 14) X dX11_parts_14 rfl ?_
      refine ao_getR (pc := 15) X dX11_parts_15 fl_RX11_19 sf_0_1 ?_
      refine ao_aload_n (pc := 18) X dX11_parts_18 rfl ?_
      refine ao_aload_n (pc := 19) X dX11_parts_19 rfl ?_
      refine ao_getR (pc := 20) X dX11_parts_20 fl_RX11_56 sf_0_6 ?_
      refine ao_getR (pc := 23) X dX11_parts_23 fl_RX11_335 sf_24_0 ?_
      refine ao_iconst (pc := 26) X dX11_parts_26 ic_0 ?_
      refine ao_iload_n (pc := 27) X dX11_parts_27 rfl ?_
      refine ao_callVI (pc := 28) (As := [.ref (eAd E 25), .int (0 : Int32), .int p1]) (st := [.ref (eAd E 3)]) X hl0 dX11_parts_28 yv_X11_fallsTo so_0 ml_RX11_338 (mX11_fallsTo_0_25 hI (0 : Int32) p1 μ) (Nat.le_of_ble_eq_true rfl) rfl rfl (Nat.le_of_ble_eq_true rfl) (fun r9 m10 => ?_)
      refine ao_i2l (pc := 31) X dX11_parts_31 ?_
      refine ao_callVV (pc := 32) (As := [.long (Int32.toInt64 r9)]) (st := []) X hl0 dX11_parts_32 yv_X7_add so_3 ml_RX11_290 (mX7_add_3 hI (Int32.toInt64 r9) m10) (Nat.le_of_ble_eq_true rfl) rfl rfl (Nat.le_of_ble_eq_true rfl) (fun r11 m12 => ?_)
      refine ao_iinc (pc := 35) (k := 1) (v := p1 + (1 : Int32)) (lv' := [(1, .int (p1 + (1 : Int32))), (0, .ref (eAd E 0))]) X dX11_parts_35 rfl (ii_ic ic_1) (by decide) rfl ?_
      refine ao_goto (pc := 38) (tgt := 9) X dX11_parts_38 (by decide) ?_
      refine ao_sub [1, 0] rfl ?_
      exact ih (p1 + (1 : Int32)) m12
def fX11_parts_0 (μ : Mem) : Option (Int32 × Mem) :=
  bnd (fX7_clear_3 μ) fun r1 m2 =>
  fX11_parts_0_b9 FU (0 : Int32) m2
set_option maxRecDepth 100000 in
set_option maxHeartbeats 4000000 in
theorem mX11_parts_0 {E : En} {l : Launch} (hI : Inj E) (μ : Mem) : MtI E l yX11_parts cX11_parts 2 (some .int) 3 [.ref (eAd E 0)] μ (fX11_parts_0 μ) := by
  refine mtI_of (own := RX11) [(0, .ref (eAd E 0))] hI rfl (by decide) (Nat.le_of_ble_eq_true rfl) (Nat.le_of_ble_eq_true rfl) rfl (fun Z hl0 X hr => ?_)
  unfold fX11_parts_0
  refine ao_aload_n (pc := 0) X dX11_parts_0 rfl ?_
  refine ao_getR (pc := 1) X dX11_parts_1 fl_RX11_19 sf_0_1 ?_
  refine ao_callVV (pc := 4) (As := []) (st := []) X hl0 dX11_parts_4 yv_X7_clear so_3 ml_RX11_284 (mX7_clear_3 hI μ) (Nat.le_of_ble_eq_true rfl) rfl rfl (Nat.le_of_ble_eq_true rfl) (fun r1 m2 => ?_)
  refine ao_iconst (pc := 7) X dX11_parts_7 ic_0 ?_
  refine ao_istore_n (pc := 8) (lv' := [(1, .int (0 : Int32)), (0, .ref (eAd E 0))]) X dX11_parts_8 rfl (by decide) rfl ?_
  refine ao_sub [1, 0] rfl ?_
  exact bX11_parts_0_9 hI hl0 X hr FU (0 : Int32) m2
def fX12_haveBy_122_132_b102 (k6 : Int32 → Int32 → Int32 → Int32 → Mem → Option (Int32 × Mem)) (p2 : Int32) (p3 : Int32) (p4 : Int32) (p5 : Int32) (q0 : Int32) (μ : Mem) : Option (Int32 × Mem) :=
  if q0 = p2 then (gd (inb p5 6) (bnd (fX12_valuesOf_122 (gI μ 128 (ix p5)) μ) fun r9 m10 =>
    lt (p4 + r9) fun x11 =>
    k6 p2 p3 x11 (p5 + (1 : Int32)) m10))
  else lt (p4 + (0 : Int32)) fun x7 =>
    k6 p2 p3 x7 (p5 + (1 : Int32)) μ
set_option maxRecDepth 100000 in
set_option maxHeartbeats 4000000 in
theorem bX12_haveBy_122_132_102 {E : En} {l : Launch} {Z : Zt} (hI : Inj E) (hl0 : lZ l Z) (X : Cx E Z cX12_haveBy RX12 8 3) (hr : rtOf Z = some .int) {k6 : Int32 → Int32 → Int32 → Int32 → Mem → Option (Int32 × Mem)} (hk6 : ∀ (p2 : Int32) (p3 : Int32) (p4 : Int32) (p5 : Int32) (m : Mem), AO E Z 8 (QI E Z) 6 [(0, .ref (eAd E 122)), (1, .ref (eAd E 132)), (2, .int p2), (3, .int p3), (4, .int p4), (5, .int p5)] [] m (k6 p2 p3 p4 p5 m)) (p2 : Int32) (p3 : Int32) (p4 : Int32) (p5 : Int32) (q0 : Int32) (μ : Mem) : AO E Z 8 (QI E Z) 102 [(0, .ref (eAd E 122)), (1, .ref (eAd E 132)), (2, .int p2), (3, .int p3), (4, .int p4), (5, .int p5)] [.int q0] μ (fX12_haveBy_122_132_b102 k6 p2 p3 p4 p5 q0 μ) := by
  unfold fX12_haveBy_122_132_b102
  refine ao_istore (pc := 102) (lv' := [(7, .int q0), (0, .ref (eAd E 122)), (1, .ref (eAd E 132)), (2, .int p2), (3, .int p3), (4, .int p4), (5, .int p5)]) X dX12_haveBy_102 (by decide) rfl ?_
  refine ao_iload (pc := 104) X dX12_haveBy_104 rfl ?_
  refine ao_iload (pc := 106) X dX12_haveBy_106 rfl ?_
  refine ao_iload_n (pc := 108) X dX12_haveBy_108 rfl ?_
  refine ao_icmp_ne (pc := 109) (tgt := 126) X dX12_haveBy_109 (by decide) (fun _ => ?_) (fun _ => ?_)
  · refine ao_iconst (pc := 126) X dX12_haveBy_126 ic_0 ?_
    refine ao_iadd (pc := 127) X dX12_haveBy_127 ?_
    refine ao_ltI (fun x7 => ?_)
    refine ao_istore (pc := 128) (lv' := [(4, .int x7), (7, .int q0), (0, .ref (eAd E 122)), (1, .ref (eAd E 132)), (2, .int p2), (3, .int p3), (5, .int p5)]) X dX12_haveBy_128 (by decide) rfl ?_
    refine ao_iinc (pc := 130) (k := 6) (v := p5 + (1 : Int32)) (lv' := [(5, .int (p5 + (1 : Int32))), (4, .int x7), (7, .int q0), (0, .ref (eAd E 122)), (1, .ref (eAd E 132)), (2, .int p2), (3, .int p3)]) X dX12_haveBy_130 rfl (ii_ic ic_1) (by decide) rfl ?_
    refine ao_goto (pc := 133) (tgt := 6) X dX12_haveBy_133 (by decide) ?_
    refine ao_sub [3, 4, 5, 6, 1, 0] rfl ?_
    exact hk6 p2 p3 x7 (p5 + (1 : Int32)) μ
  · refine ao_aload_n (pc := 112) X dX12_haveBy_112 rfl ?_
    refine ao_aload_n (pc := 113) X dX12_haveBy_113 rfl ?_
    refine ao_getR (pc := 114) X dX12_haveBy_114 fl_RX12_26 sf_122_6 ?_
    refine ao_iload (pc := 117) X dX12_haveBy_117 rfl ?_
    refine ao_iald (pc := 119) X dX12_haveBy_119 sa_128 ?_
    refine ao_callVI (pc := 120) (As := [.int (gI μ 128 (ix p5))]) (st := [.int p4]) X hl0 dX12_haveBy_120 yv_X12_valuesOf so_122 ml_RX12_239 (mX12_valuesOf_122 hI (gI μ 128 (ix p5)) μ) (Nat.le_of_ble_eq_true rfl) rfl rfl (Nat.le_of_ble_eq_true rfl) (fun r9 m10 => ?_)
    refine ao_goto (pc := 123) (tgt := 127) X dX12_haveBy_123 (by decide) ?_
    refine ao_iadd (pc := 127) X dX12_haveBy_127 ?_
    refine ao_ltI (fun x11 => ?_)
    refine ao_istore (pc := 128) (lv' := [(4, .int x11), (7, .int q0), (0, .ref (eAd E 122)), (1, .ref (eAd E 132)), (2, .int p2), (3, .int p3), (5, .int p5)]) X dX12_haveBy_128 (by decide) rfl ?_
    refine ao_iinc (pc := 130) (k := 6) (v := p5 + (1 : Int32)) (lv' := [(5, .int (p5 + (1 : Int32))), (4, .int x11), (7, .int q0), (0, .ref (eAd E 122)), (1, .ref (eAd E 132)), (2, .int p2), (3, .int p3)]) X dX12_haveBy_130 rfl (ii_ic ic_1) (by decide) rfl ?_
    refine ao_goto (pc := 133) (tgt := 6) X dX12_haveBy_133 (by decide) ?_
    refine ao_sub [3, 4, 5, 6, 1, 0] rfl ?_
    exact hk6 p2 p3 x11 (p5 + (1 : Int32)) m10
def fX12_haveBy_122_132_b59 (k6 : Int32 → Int32 → Int32 → Int32 → Mem → Option (Int32 × Mem)) (p2 : Int32) (p3 : Int32) (p4 : Int32) (p5 : Int32) (p6 : Int32) (μ : Mem) : Option (Int32 × Mem) :=
  if (2 : Int32) ≤ p6 then (gd (inb (p6 - (2 : Int32)) 4) (if (gI μ 132 (ix (p6 - (2 : Int32)))) = 0 then (gd (inb p5 6) (fX12_haveBy_122_132_b102 k6 p2 p3 p4 p5 (gI μ 127 (ix p5)) μ))
    else gd (inb (p6 - (2 : Int32)) 4) (if (gI μ 132 (ix (p6 - (2 : Int32)))) = (1 : Int32) then (fX12_haveBy_122_132_b102 k6 p2 p3 p4 p5 (4 : Int32) μ)
      else fX12_haveBy_122_132_b102 k6 p2 p3 p4 p5 (5 : Int32) μ)))
  else k6 p2 p3 p4 (p5 + (1 : Int32)) μ
set_option maxRecDepth 100000 in
set_option maxHeartbeats 4000000 in
theorem bX12_haveBy_122_132_59 {E : En} {l : Launch} {Z : Zt} (hI : Inj E) (hl0 : lZ l Z) (X : Cx E Z cX12_haveBy RX12 8 3) (hr : rtOf Z = some .int) {k6 : Int32 → Int32 → Int32 → Int32 → Mem → Option (Int32 × Mem)} (hk6 : ∀ (p2 : Int32) (p3 : Int32) (p4 : Int32) (p5 : Int32) (m : Mem), AO E Z 8 (QI E Z) 6 [(0, .ref (eAd E 122)), (1, .ref (eAd E 132)), (2, .int p2), (3, .int p3), (4, .int p4), (5, .int p5)] [] m (k6 p2 p3 p4 p5 m)) (p2 : Int32) (p3 : Int32) (p4 : Int32) (p5 : Int32) (p6 : Int32) (μ : Mem) : AO E Z 8 (QI E Z) 59 [(0, .ref (eAd E 122)), (1, .ref (eAd E 132)), (2, .int p2), (3, .int p3), (4, .int p4), (5, .int p5), (6, .int p6)] [] μ (fX12_haveBy_122_132_b59 k6 p2 p3 p4 p5 p6 μ) := by
  unfold fX12_haveBy_122_132_b59
  refine ao_iload (pc := 59) X dX12_haveBy_59 rfl ?_
  refine ao_iconst (pc := 61) X dX12_haveBy_61 ic_2 ?_
  refine ao_icmp_ge (pc := 62) (tgt := 68) X dX12_haveBy_62 (by decide) (fun _ => ?_) (fun _ => ?_)
  · refine ao_aload_n (pc := 68) X dX12_haveBy_68 rfl ?_
    refine ao_iload (pc := 69) X dX12_haveBy_69 rfl ?_
    refine ao_iconst (pc := 71) X dX12_haveBy_71 ic_2 ?_
    refine ao_isub (pc := 72) X dX12_haveBy_72 ?_
    refine ao_iald (pc := 73) X dX12_haveBy_73 sa_132 ?_
    refine ao_if_ne (pc := 74) (tgt := 87) X dX12_haveBy_74 (by decide) (fun _ => ?_) (fun _ => ?_)
    · refine ao_aload_n (pc := 87) X dX12_haveBy_87 rfl ?_
      refine ao_iload (pc := 88) X dX12_haveBy_88 rfl ?_
      refine ao_iconst (pc := 90) X dX12_haveBy_90 ic_2 ?_
      refine ao_isub (pc := 91) X dX12_haveBy_91 ?_
      refine ao_iald (pc := 92) X dX12_haveBy_92 sa_132 ?_
      refine ao_iconst (pc := 93) X dX12_haveBy_93 ic_1 ?_
      refine ao_icmp_ne (pc := 94) (tgt := 101) X dX12_haveBy_94 (by decide) (fun _ => ?_) (fun _ => ?_)
      · refine ao_iconst (pc := 101) X dX12_haveBy_101 ic_5 ?_
        refine ao_sub [0, 1, 2, 3, 4, 5] rfl ?_
        exact bX12_haveBy_122_132_102 hI hl0 X hr hk6 p2 p3 p4 p5 (5 : Int32) μ
      · refine ao_iconst (pc := 97) X dX12_haveBy_97 ic_4 ?_
        refine ao_goto (pc := 98) (tgt := 102) X dX12_haveBy_98 (by decide) ?_
        refine ao_sub [0, 1, 2, 3, 4, 5] rfl ?_
        exact bX12_haveBy_122_132_102 hI hl0 X hr hk6 p2 p3 p4 p5 (4 : Int32) μ
    · refine ao_aload_n (pc := 77) X dX12_haveBy_77 rfl ?_
      refine ao_getR (pc := 78) X dX12_haveBy_78 fl_RX12_23 sf_122_5 ?_
      refine ao_iload (pc := 81) X dX12_haveBy_81 rfl ?_
      refine ao_iald (pc := 83) X dX12_haveBy_83 sa_127 ?_
      refine ao_goto (pc := 84) (tgt := 102) X dX12_haveBy_84 (by decide) ?_
      refine ao_sub [0, 1, 2, 3, 4, 5] rfl ?_
      exact bX12_haveBy_122_132_102 hI hl0 X hr hk6 p2 p3 p4 p5 (gI μ 127 (ix p5)) μ
  · refine ao_goto (pc := 65) (tgt := 130) X dX12_haveBy_65 (by decide) ?_
    refine ao_iinc (pc := 130) (k := 5) (v := p5 + (1 : Int32)) (lv' := [(5, .int (p5 + (1 : Int32))), (0, .ref (eAd E 122)), (1, .ref (eAd E 132)), (2, .int p2), (3, .int p3), (4, .int p4), (6, .int p6)]) X dX12_haveBy_130 rfl (ii_ic ic_1) (by decide) rfl ?_
    refine ao_goto (pc := 133) (tgt := 6) X dX12_haveBy_133 (by decide) ?_
    refine ao_sub [1, 2, 3, 4, 5, 0] rfl ?_
    exact hk6 p2 p3 p4 (p5 + (1 : Int32)) μ
def fX12_haveBy_122_132_b57 (k6 : Int32 → Int32 → Int32 → Int32 → Mem → Option (Int32 × Mem)) (p2 : Int32) (p3 : Int32) (p4 : Int32) (p5 : Int32) (q0 : Int32) (μ : Mem) : Option (Int32 × Mem) :=
  fX12_haveBy_122_132_b59 k6 p2 p3 p4 p5 q0 μ
set_option maxRecDepth 100000 in
set_option maxHeartbeats 4000000 in
theorem bX12_haveBy_122_132_57 {E : En} {l : Launch} {Z : Zt} (hI : Inj E) (hl0 : lZ l Z) (X : Cx E Z cX12_haveBy RX12 8 3) (hr : rtOf Z = some .int) {k6 : Int32 → Int32 → Int32 → Int32 → Mem → Option (Int32 × Mem)} (hk6 : ∀ (p2 : Int32) (p3 : Int32) (p4 : Int32) (p5 : Int32) (m : Mem), AO E Z 8 (QI E Z) 6 [(0, .ref (eAd E 122)), (1, .ref (eAd E 132)), (2, .int p2), (3, .int p3), (4, .int p4), (5, .int p5)] [] m (k6 p2 p3 p4 p5 m)) (p2 : Int32) (p3 : Int32) (p4 : Int32) (p5 : Int32) (q0 : Int32) (μ : Mem) : AO E Z 8 (QI E Z) 57 [(0, .ref (eAd E 122)), (1, .ref (eAd E 132)), (2, .int p2), (3, .int p3), (4, .int p4), (5, .int p5)] [.int q0] μ (fX12_haveBy_122_132_b57 k6 p2 p3 p4 p5 q0 μ) := by
  unfold fX12_haveBy_122_132_b57
  refine ao_istore (pc := 57) (lv' := [(6, .int q0), (0, .ref (eAd E 122)), (1, .ref (eAd E 132)), (2, .int p2), (3, .int p3), (4, .int p4), (5, .int p5)]) X dX12_haveBy_57 (by decide) rfl ?_
  refine ao_sub [1, 2, 3, 4, 5, 6, 0] rfl ?_
  exact bX12_haveBy_122_132_59 hI hl0 X hr hk6 p2 p3 p4 p5 q0 μ
def fX12_haveBy_122_132_b6 : Nat → Int32 → Int32 → Int32 → Int32 → Mem → Option (Int32 × Mem)
  | 0, _, _, _, _, _ => none
  | n + 1, p2, p3, p4, p5, μ =>
  if (gI μ 122 1) ≤ p5 then (some (p4, μ))
  else gd (inb p5 27) (lt (gI μ 123 (ix p5)) fun x1 =>
    if x1 = 0 then (if p3 = 0 then (fX12_haveBy_122_132_b59 (fun p2 p3 p4 p5 m => fX12_haveBy_122_132_b6 n p2 p3 p4 p5 m) p2 p3 p4 p5 x1 μ)
      else if p3 = (4 : Int32) then (bnd (fX12_proofIn_122_123 p5 (0 : Int32) μ) fun r2 m3 =>
          bnd (fX12_ending_122 r2 m3) fun r4 m5 =>
          fX12_haveBy_122_132_b57 (fun p2 p3 p4 p5 m => fX12_haveBy_122_132_b6 n p2 p3 p4 p5 m) p2 p3 p4 p5 r4 m5)
        else fX12_haveBy_122_132_b57 (fun p2 p3 p4 p5 m => fX12_haveBy_122_132_b6 n p2 p3 p4 p5 m) p2 p3 p4 p5 p3 μ)
    else fX12_haveBy_122_132_b59 (fun p2 p3 p4 p5 m => fX12_haveBy_122_132_b6 n p2 p3 p4 p5 m) p2 p3 p4 p5 x1 μ)
set_option maxRecDepth 100000 in
set_option maxHeartbeats 4000000 in
theorem bX12_haveBy_122_132_6 {E : En} {l : Launch} {Z : Zt} (hI : Inj E) (hl0 : lZ l Z) (X : Cx E Z cX12_haveBy RX12 8 3) (hr : rtOf Z = some .int) : ∀ (n : Nat) (p2 : Int32) (p3 : Int32) (p4 : Int32) (p5 : Int32) (μ : Mem), AO E Z 8 (QI E Z) 6 [(0, .ref (eAd E 122)), (1, .ref (eAd E 132)), (2, .int p2), (3, .int p3), (4, .int p4), (5, .int p5)] [] μ (fX12_haveBy_122_132_b6 n p2 p3 p4 p5 μ) := by
  intro n
  induction n with
  | zero =>
    intros
    exact ao_none
  | succ n ih =>
    intro p2 p3 p4 p5 μ
    rw [fX12_haveBy_122_132_b6]
    refine ao_iload (pc := 6) X dX12_haveBy_6 rfl ?_
    refine ao_aload_n (pc := 8) X dX12_haveBy_8 rfl ?_
    refine ao_getI (pc := 9) X dX12_haveBy_9 fl_RX12_101 sf_122_1 ?_
    refine ao_icmp_ge (pc := 12) (tgt := 136) X dX12_haveBy_12 (by decide) (fun _ => ?_) (fun _ => ?_)
    · refine ao_iload (pc := 136) X dX12_haveBy_136 rfl ?_
      exact ao_iret (pc := 138) X hr dX12_haveBy_138
    · refine ao_aload_n (pc := 15) X dX12_haveBy_15 rfl ?_
      refine ao_getR (pc := 16) X dX12_haveBy_16 fl_RX12_9 sf_122_0 ?_
      refine ao_iload (pc := 19) X dX12_haveBy_19 rfl ?_
      refine ao_iald (pc := 21) X dX12_haveBy_21 sa_123 ?_
      refine ao_ltI (fun x1 => ?_)
      refine ao_istore (pc := 22) (lv' := [(6, .int x1), (0, .ref (eAd E 122)), (1, .ref (eAd E 132)), (2, .int p2), (3, .int p3), (4, .int p4), (5, .int p5)]) X dX12_haveBy_22 (by decide) rfl ?_
      refine ao_iload (pc := 24) X dX12_haveBy_24 rfl ?_
      refine ao_if_ne (pc := 26) (tgt := 59) X dX12_haveBy_26 (by decide) (fun _ => ?_) (fun _ => ?_)
      · refine ao_sub [1, 2, 3, 4, 5, 6, 0] rfl ?_
        exact bX12_haveBy_122_132_59 hI hl0 X hr ih p2 p3 p4 p5 x1 μ
      · refine ao_iload_n (pc := 29) X dX12_haveBy_29 rfl ?_
        refine ao_if_eq (pc := 30) (tgt := 59) X dX12_haveBy_30 (by decide) (fun _ => ?_) (fun _ => ?_)
        · refine ao_sub [1, 2, 3, 4, 5, 6, 0] rfl ?_
          exact bX12_haveBy_122_132_59 hI hl0 X hr ih p2 p3 p4 p5 x1 μ
        · refine ao_iload_n (pc := 33) X dX12_haveBy_33 rfl ?_
          refine ao_iconst (pc := 34) X dX12_haveBy_34 ic_4 ?_
          refine ao_icmp_ne (pc := 35) (tgt := 56) X dX12_haveBy_35 (by decide) (fun _ => ?_) (fun _ => ?_)
          · refine ao_iload_n (pc := 56) X dX12_haveBy_56 rfl ?_
            refine ao_sub [1, 2, 3, 4, 5, 6] rfl ?_
            exact bX12_haveBy_122_132_57 hI hl0 X hr ih p2 p3 p4 p5 p3 μ
          · refine ao_aload_n (pc := 38) X dX12_haveBy_38 rfl ?_
            refine ao_aload_n (pc := 39) X dX12_haveBy_39 rfl ?_
            refine ao_aload_n (pc := 40) X dX12_haveBy_40 rfl ?_
            refine ao_getR (pc := 41) X dX12_haveBy_41 fl_RX12_9 sf_122_0 ?_
            refine ao_iload (pc := 44) X dX12_haveBy_44 rfl ?_
            refine ao_iconst (pc := 46) X dX12_haveBy_46 ic_0 ?_
            refine ao_callVI (pc := 47) (As := [.ref (eAd E 123), .int p5, .int (0 : Int32)]) (st := [.ref (eAd E 122)]) X hl0 dX12_haveBy_47 yv_X12_proofIn so_122 ml_RX12_235 (mX12_proofIn_122_123 hI p5 (0 : Int32) μ) (Nat.le_of_ble_eq_true rfl) rfl rfl (Nat.le_of_ble_eq_true rfl) (fun r2 m3 => ?_)
            refine ao_callVI (pc := 50) (As := [.int r2]) (st := []) X hl0 dX12_haveBy_50 yv_X12_ending so_122 ml_RX12_264 (mX12_ending_122 hI r2 m3) (Nat.le_of_ble_eq_true rfl) rfl rfl (Nat.le_of_ble_eq_true rfl) (fun r4 m5 => ?_)
            refine ao_goto (pc := 53) (tgt := 57) X dX12_haveBy_53 (by decide) ?_
            refine ao_sub [1, 2, 3, 4, 5, 6] rfl ?_
            exact bX12_haveBy_122_132_57 hI hl0 X hr ih p2 p3 p4 p5 r4 m5
def fX12_haveBy_122_132 (v2 : Int32) (v3 : Int32) (μ : Mem) : Option (Int32 × Mem) :=
  fX12_haveBy_122_132_b6 FU v2 v3 (0 : Int32) (0 : Int32) μ
set_option maxRecDepth 100000 in
set_option maxHeartbeats 4000000 in
theorem mX12_haveBy_122_132 {E : En} {l : Launch} (hI : Inj E) (v2 : Int32) (v3 : Int32) (μ : Mem) : MtI E l yX12_haveBy cX12_haveBy 8 (some .int) 3 [.ref (eAd E 122), .ref (eAd E 132), .int v2, .int v3] μ (fX12_haveBy_122_132 v2 v3 μ) := by
  refine mtI_of (own := RX12) [(0, .ref (eAd E 122)), (1, .ref (eAd E 132)), (2, .int v2), (3, .int v3)] hI rfl (by decide) (Nat.le_of_ble_eq_true rfl) (Nat.le_of_ble_eq_true rfl) rfl (fun Z hl0 X hr => ?_)
  unfold fX12_haveBy_122_132
  refine ao_iconst (pc := 0) X dX12_haveBy_0 ic_0 ?_
  refine ao_istore (pc := 1) (lv' := [(4, .int (0 : Int32)), (0, .ref (eAd E 122)), (1, .ref (eAd E 132)), (2, .int v2), (3, .int v3)]) X dX12_haveBy_1 (by decide) rfl ?_
  refine ao_iconst (pc := 3) X dX12_haveBy_3 ic_0 ?_
  refine ao_istore (pc := 4) (lv' := [(5, .int (0 : Int32)), (4, .int (0 : Int32)), (0, .ref (eAd E 122)), (1, .ref (eAd E 132)), (2, .int v2), (3, .int v3)]) X dX12_haveBy_4 (by decide) rfl ?_
  refine ao_sub [2, 3, 4, 5, 1, 0] rfl ?_
  exact bX12_haveBy_122_132_6 hI hl0 X hr FU v2 v3 (0 : Int32) (0 : Int32) μ
def fX12_parts_122_b12 : Nat → Int32 → Mem → Option (Int32 × Mem)
  | 0, _, _ => none
  | n + 1, p1, μ =>
  if (4 : Int32) ≤ p1 then (bnd (fX12_haveBy_122_132 (5 : Int32) (0 : Int32) μ) fun r3 m4 =>
    bnd (fX12_tell_122 (Int32.toInt64 r3) m4) fun r5 m6 =>
    bnd (fX12_haveBy_122_132 (4 : Int32) (0 : Int32) m6) fun r7 m8 =>
    some (r7, m8))
  else bnd (fX12_haveBy_122_132 p1 (0 : Int32) μ) fun r9 m10 =>
    bnd (fX12_tell_122 (Int32.toInt64 r9) m10) fun r11 m12 =>
    fX12_parts_122_b12 n (p1 + (1 : Int32)) m12
set_option maxRecDepth 100000 in
set_option maxHeartbeats 4000000 in
theorem bX12_parts_122_12 {E : En} {l : Launch} {Z : Zt} (hI : Inj E) (hl0 : lZ l Z) (X : Cx E Z cX12_parts RX12 2 4) (hr : rtOf Z = some .int) : ∀ (n : Nat) (p1 : Int32) (μ : Mem), AO E Z 2 (QI E Z) 12 [(0, .ref (eAd E 122)), (1, .int p1)] [] μ (fX12_parts_122_b12 n p1 μ) := by
  intro n
  induction n with
  | zero =>
    intros
    exact ao_none
  | succ n ih =>
    intro p1 μ
    rw [fX12_parts_122_b12]
    refine ao_iload_n (pc := 12) X dX12_parts_12 rfl ?_
    refine ao_iconst (pc := 13) X dX12_parts_13 ic_4 ?_
    refine ao_icmp_ge (pc := 14) (tgt := 38) X dX12_parts_14 (by decide) (fun _ => ?_) (fun _ => ?_)
    · refine ao_aload_n (pc := 38) X dX12_parts_38 rfl ?_
      refine ao_aload_n (pc := 39) X dX12_parts_39 rfl ?_
      refine ao_aload_n (pc := 40) X dX12_parts_40 rfl ?_
      refine ao_getR (pc := 41) X dX12_parts_41 fl_RX12_38 sf_122_11 ?_
      refine ao_iconst (pc := 44) X dX12_parts_44 ic_5 ?_
      refine ao_iconst (pc := 45) X dX12_parts_45 ic_0 ?_
      refine ao_callVI (pc := 46) (As := [.ref (eAd E 132), .int (5 : Int32), .int (0 : Int32)]) (st := [.ref (eAd E 122)]) X hl0 dX12_parts_46 yv_X12_haveBy so_122 ml_RX12_342 (mX12_haveBy_122_132 hI (5 : Int32) (0 : Int32) μ) (Nat.le_of_ble_eq_true rfl) rfl rfl (Nat.le_of_ble_eq_true rfl) (fun r3 m4 => ?_)
      refine ao_i2l (pc := 49) X dX12_parts_49 ?_
      refine ao_callVV (pc := 50) (As := [.long (Int32.toInt64 r3)]) (st := []) X hl0 dX12_parts_50 yv_X12_tell so_122 ml_RX12_267 (mX12_tell_122 hI (Int32.toInt64 r3) m4) (Nat.le_of_ble_eq_true rfl) rfl rfl (Nat.le_of_ble_eq_true rfl) (fun r5 m6 => ?_)
      refine ao_aload_n (pc := 53) X dX12_parts_53 rfl ?_
      refine ao_aload_n (pc := 54) X dX12_parts_54 rfl ?_
      refine ao_getR (pc := 55) X dX12_parts_55 fl_RX12_38 sf_122_11 ?_
      refine ao_iconst (pc := 58) X dX12_parts_58 ic_4 ?_
      refine ao_iconst (pc := 59) X dX12_parts_59 ic_0 ?_
      refine ao_callVI (pc := 60) (As := [.ref (eAd E 132), .int (4 : Int32), .int (0 : Int32)]) (st := []) X hl0 dX12_parts_60 yv_X12_haveBy so_122 ml_RX12_342 (mX12_haveBy_122_132 hI (4 : Int32) (0 : Int32) m6) (Nat.le_of_ble_eq_true rfl) rfl rfl (Nat.le_of_ble_eq_true rfl) (fun r7 m8 => ?_)
      exact ao_iret (pc := 63) X hr dX12_parts_63
    · refine ao_aload_n (pc := 17) X dX12_parts_17 rfl ?_
      refine ao_aload_n (pc := 18) X dX12_parts_18 rfl ?_
      refine ao_aload_n (pc := 19) X dX12_parts_19 rfl ?_
      refine ao_getR (pc := 20) X dX12_parts_20 fl_RX12_38 sf_122_11 ?_
      refine ao_iload_n (pc := 23) X dX12_parts_23 rfl ?_
      refine ao_iconst (pc := 24) X dX12_parts_24 ic_0 ?_
      refine ao_callVI (pc := 25) (As := [.ref (eAd E 132), .int p1, .int (0 : Int32)]) (st := [.ref (eAd E 122)]) X hl0 dX12_parts_25 yv_X12_haveBy so_122 ml_RX12_342 (mX12_haveBy_122_132 hI p1 (0 : Int32) μ) (Nat.le_of_ble_eq_true rfl) rfl rfl (Nat.le_of_ble_eq_true rfl) (fun r9 m10 => ?_)
      refine ao_i2l (pc := 28) X dX12_parts_28 ?_
      refine ao_callVV (pc := 29) (As := [.long (Int32.toInt64 r9)]) (st := []) X hl0 dX12_parts_29 yv_X12_tell so_122 ml_RX12_267 (mX12_tell_122 hI (Int32.toInt64 r9) m10) (Nat.le_of_ble_eq_true rfl) rfl rfl (Nat.le_of_ble_eq_true rfl) (fun r11 m12 => ?_)
      refine ao_iinc (pc := 32) (k := 1) (v := p1 + (1 : Int32)) (lv' := [(1, .int (p1 + (1 : Int32))), (0, .ref (eAd E 122))]) X dX12_parts_32 rfl (ii_ic ic_1) (by decide) rfl ?_
      refine ao_goto (pc := 35) (tgt := 12) X dX12_parts_35 (by decide) ?_
      refine ao_sub [1, 0] rfl ?_
      exact ih (p1 + (1 : Int32)) m12
def fX12_parts_122 (μ : Mem) : Option (Int32 × Mem) :=
  lt (sI μ 122 17 (0 : Int32)) fun m1 =>
  lt (sI m1 122 16 (0 : Int32)) fun m2 =>
  fX12_parts_122_b12 FU (0 : Int32) m2
set_option maxRecDepth 100000 in
set_option maxHeartbeats 4000000 in
theorem mX12_parts_122 {E : En} {l : Launch} (hI : Inj E) (μ : Mem) : MtI E l yX12_parts cX12_parts 2 (some .int) 4 [.ref (eAd E 122)] μ (fX12_parts_122 μ) := by
  refine mtI_of (own := RX12) [(0, .ref (eAd E 122))] hI rfl (by decide) (Nat.le_of_ble_eq_true rfl) (Nat.le_of_ble_eq_true rfl) rfl (fun Z hl0 X hr => ?_)
  unfold fX12_parts_122
  refine ao_aload_n (pc := 0) X dX12_parts_0 rfl ?_
  refine ao_iconst (pc := 1) X dX12_parts_1 ic_0 ?_
  refine ao_putI (pc := 2) X dX12_parts_2 fp_RX12_95 sf_122_17 ?_
  refine ao_lt (fun m1 => ?_)
  refine ao_aload_n (pc := 5) X dX12_parts_5 rfl ?_
  refine ao_iconst (pc := 6) X dX12_parts_6 ic_0 ?_
  refine ao_putI (pc := 7) X dX12_parts_7 fp_RX12_98 sf_122_16 ?_
  refine ao_lt (fun m2 => ?_)
  refine ao_iconst (pc := 10) X dX12_parts_10 ic_0 ?_
  refine ao_istore_n (pc := 11) (lv' := [(1, .int (0 : Int32)), (0, .ref (eAd E 122))]) X dX12_parts_11 rfl (by decide) rfl ?_
  refine ao_sub [1, 0] rfl ?_
  exact bX12_parts_122_12 hI hl0 X hr FU (0 : Int32) m2
def fX11_hopes_0_b21 : Nat → Int32 → Int32 → Int32 → Int32 → Int32 → Mem → Option (Int32 × Mem)
  | 0, _, _, _, _, _, _ => none
  | n + 1, p1, p2, p3, p4, p5, μ =>
  if (gI μ 5 5) ≤ p5 then (bnd (fX7_tell__3 (Int32.toInt64 p3) (Int32.toInt64 p4) μ) fun r1 m2 =>
    some (p2, m2))
  else bnd (fX4_isSilent_33 p5 μ) fun r3 m4 =>
    if r3 = 0 then (fX11_hopes_0_b21 n p1 p2 p3 p4 (p5 + (1 : Int32)) m4)
    else gd (inb p5 6) (if (gI m4 9 (ix p5)) = p1 then (bnd (fX2_has_24 p5 (2 : Int32) (0 : Int32) m4) fun r7 m8 =>
        lt (p2 + r7) fun x9 =>
        bnd (fX2_has_24 p5 (5 : Int32) (0 : Int32) m8) fun r10 m11 =>
        lt (p3 + r10) fun x12 =>
        bnd (fX4_verdictIn_33 p5 (0 : Int32) m11) fun r13 m14 =>
        bnd (fX2_has_24 p5 r13 (0 : Int32) m14) fun r15 m16 =>
        lt (p4 + r15) fun x17 =>
        fX11_hopes_0_b21 n p1 x9 x12 x17 (p5 + (1 : Int32)) m16)
      else fX11_hopes_0_b21 n p1 p2 p3 p4 (p5 + (1 : Int32)) m4)
set_option maxRecDepth 100000 in
set_option maxHeartbeats 4000000 in
theorem bX11_hopes_0_21 {E : En} {l : Launch} {Z : Zt} (hI : Inj E) (hl0 : lZ l Z) (X : Cx E Z cX11_hopes RX11 6 4) (hr : rtOf Z = some .int) : ∀ (n : Nat) (p1 : Int32) (p2 : Int32) (p3 : Int32) (p4 : Int32) (p5 : Int32) (μ : Mem), AO E Z 6 (QI E Z) 21 [(0, .ref (eAd E 0)), (1, .int p1), (2, .int p2), (3, .int p3), (4, .int p4), (5, .int p5)] [] μ (fX11_hopes_0_b21 n p1 p2 p3 p4 p5 μ) := by
  intro n
  induction n with
  | zero =>
    intros
    exact ao_none
  | succ n ih =>
    intro p1 p2 p3 p4 p5 μ
    rw [fX11_hopes_0_b21]
    refine ao_iload (pc := 21) X dX11_hopes_21 rfl ?_
    refine ao_aload_n (pc := 23) X dX11_hopes_23 rfl ?_
    refine ao_getR (pc := 24) X dX11_hopes_24 fl_RX11_26 sf_0_2 ?_
    refine ao_getI (pc := 27) X dX11_hopes_27 fl_RX11_119 sf_5_5 ?_
    refine ao_icmp_ge (pc := 30) (tgt := 118) X dX11_hopes_30 (by decide) (fun _ => ?_) (fun _ => ?_)
    · refine ao_aload_n (pc := 118) X dX11_hopes_118 rfl ?_
      refine ao_getR (pc := 119) X dX11_hopes_119 fl_RX11_19 sf_0_1 ?_
      refine ao_iload_n (pc := 122) X dX11_hopes_122 rfl ?_
      refine ao_i2l (pc := 123) X dX11_hopes_123 ?_
      refine ao_iload (pc := 124) X dX11_hopes_124 rfl ?_
      refine ao_i2l (pc := 126) X dX11_hopes_126 ?_
      refine ao_callVV (pc := 127) (As := [.long (Int32.toInt64 p3), .long (Int32.toInt64 p4)]) (st := []) X hl0 dX11_hopes_127 yv_X7_tell_ so_3 ml_RX11_244 (mX7_tell__3 hI (Int32.toInt64 p3) (Int32.toInt64 p4) μ) (Nat.le_of_ble_eq_true rfl) rfl rfl (Nat.le_of_ble_eq_true rfl) (fun r1 m2 => ?_)
      refine ao_iload_n (pc := 130) X dX11_hopes_130 rfl ?_
      exact ao_iret (pc := 131) X hr dX11_hopes_131
    · refine ao_aload_n (pc := 33) X dX11_hopes_33 rfl ?_
      refine ao_getR (pc := 34) X dX11_hopes_34 fl_RX11_65 sf_0_7 ?_
      refine ao_iload (pc := 37) X dX11_hopes_37 rfl ?_
      refine ao_callVI (pc := 39) (As := [.int p5]) (st := []) X hl0 dX11_hopes_39 yv_X4_isSilent so_33 ml_RX11_261 (mX4_isSilent_33 hI p5 μ) (Nat.le_of_ble_eq_true rfl) rfl rfl (Nat.le_of_ble_eq_true rfl) (fun r3 m4 => ?_)
      refine ao_if_eq (pc := 42) (tgt := 112) X dX11_hopes_42 (by decide) (fun _ => ?_) (fun _ => ?_)
      · refine ao_iinc (pc := 112) (k := 5) (v := p5 + (1 : Int32)) (lv' := [(5, .int (p5 + (1 : Int32))), (0, .ref (eAd E 0)), (1, .int p1), (2, .int p2), (3, .int p3), (4, .int p4)]) X dX11_hopes_112 rfl (ii_ic ic_1) (by decide) rfl ?_
        refine ao_goto (pc := 115) (tgt := 21) X dX11_hopes_115 (by decide) ?_
        refine ao_sub [1, 2, 3, 4, 5, 0] rfl ?_
        exact ih p1 p2 p3 p4 (p5 + (1 : Int32)) m4
      · refine ao_aload_n (pc := 45) X dX11_hopes_45 rfl ?_
        refine ao_getR (pc := 46) X dX11_hopes_46 fl_RX11_26 sf_0_2 ?_
        refine ao_getR (pc := 49) X dX11_hopes_49 fl_RX11_166 sf_5_3 ?_
        refine ao_iload (pc := 52) X dX11_hopes_52 rfl ?_
        refine ao_iald (pc := 54) X dX11_hopes_54 sa_9 ?_
        refine ao_iload_n (pc := 55) X dX11_hopes_55 rfl ?_
        refine ao_icmp_ne (pc := 56) (tgt := 112) X dX11_hopes_56 (by decide) (fun _ => ?_) (fun _ => ?_)
        · refine ao_iinc (pc := 112) (k := 5) (v := p5 + (1 : Int32)) (lv' := [(5, .int (p5 + (1 : Int32))), (0, .ref (eAd E 0)), (1, .int p1), (2, .int p2), (3, .int p3), (4, .int p4)]) X dX11_hopes_112 rfl (ii_ic ic_1) (by decide) rfl ?_
          refine ao_goto (pc := 115) (tgt := 21) X dX11_hopes_115 (by decide) ?_
          refine ao_sub [1, 2, 3, 4, 5, 0] rfl ?_
          exact ih p1 p2 p3 p4 (p5 + (1 : Int32)) m4
        · refine ao_iload_n (pc := 59) X dX11_hopes_59 rfl ?_
          refine ao_aload_n (pc := 60) X dX11_hopes_60 rfl ?_
          refine ao_getR (pc := 61) X dX11_hopes_61 fl_RX11_56 sf_0_6 ?_
          refine ao_iload (pc := 64) X dX11_hopes_64 rfl ?_
          refine ao_iconst (pc := 66) X dX11_hopes_66 ic_2 ?_
          refine ao_iconst (pc := 67) X dX11_hopes_67 ic_0 ?_
          refine ao_callVI (pc := 68) (As := [.int p5, .int (2 : Int32), .int (0 : Int32)]) (st := [.int p2]) X hl0 dX11_hopes_68 yv_X2_has so_24 ml_RX11_342 (mX2_has_24 hI p5 (2 : Int32) (0 : Int32) m4) (Nat.le_of_ble_eq_true rfl) rfl rfl (Nat.le_of_ble_eq_true rfl) (fun r7 m8 => ?_)
          refine ao_iadd (pc := 71) X dX11_hopes_71 ?_
          refine ao_ltI (fun x9 => ?_)
          refine ao_istore_n (pc := 72) (lv' := [(2, .int x9), (0, .ref (eAd E 0)), (1, .int p1), (3, .int p3), (4, .int p4), (5, .int p5)]) X dX11_hopes_72 rfl (by decide) rfl ?_
          refine ao_iload_n (pc := 73) X dX11_hopes_73 rfl ?_
          refine ao_aload_n (pc := 74) X dX11_hopes_74 rfl ?_
          refine ao_getR (pc := 75) X dX11_hopes_75 fl_RX11_56 sf_0_6 ?_
          refine ao_iload (pc := 78) X dX11_hopes_78 rfl ?_
          refine ao_iconst (pc := 80) X dX11_hopes_80 ic_5 ?_
          refine ao_iconst (pc := 81) X dX11_hopes_81 ic_0 ?_
          refine ao_callVI (pc := 82) (As := [.int p5, .int (5 : Int32), .int (0 : Int32)]) (st := [.int p3]) X hl0 dX11_hopes_82 yv_X2_has so_24 ml_RX11_342 (mX2_has_24 hI p5 (5 : Int32) (0 : Int32) m8) (Nat.le_of_ble_eq_true rfl) rfl rfl (Nat.le_of_ble_eq_true rfl) (fun r10 m11 => ?_)
          refine ao_iadd (pc := 85) X dX11_hopes_85 ?_
          refine ao_ltI (fun x12 => ?_)
          refine ao_istore_n (pc := 86) (lv' := [(3, .int x12), (2, .int x9), (0, .ref (eAd E 0)), (1, .int p1), (4, .int p4), (5, .int p5)]) X dX11_hopes_86 rfl (by decide) rfl ?_
          refine ao_iload (pc := 87) X dX11_hopes_87 rfl ?_
          refine ao_aload_n (pc := 89) X dX11_hopes_89 rfl ?_
          refine ao_getR (pc := 90) X dX11_hopes_90 fl_RX11_56 sf_0_6 ?_
          refine ao_iload (pc := 93) X dX11_hopes_93 rfl ?_
          refine ao_aload_n (pc := 95) X dX11_hopes_95 rfl ?_
          refine ao_getR (pc := 96) X dX11_hopes_96 fl_RX11_65 sf_0_7 ?_
          refine ao_iload (pc := 99) X dX11_hopes_99 rfl ?_
          refine ao_iconst (pc := 101) X dX11_hopes_101 ic_0 ?_
          refine ao_callVI (pc := 102) (As := [.int p5, .int (0 : Int32)]) (st := [.int p5, .ref (eAd E 24), .int p4]) X hl0 dX11_hopes_102 yv_X4_verdictIn so_33 ml_RX11_306 (mX4_verdictIn_33 hI p5 (0 : Int32) m11) (Nat.le_of_ble_eq_true rfl) rfl rfl (Nat.le_of_ble_eq_true rfl) (fun r13 m14 => ?_)
          refine ao_iconst (pc := 105) X dX11_hopes_105 ic_0 ?_
          refine ao_callVI (pc := 106) (As := [.int p5, .int r13, .int (0 : Int32)]) (st := [.int p4]) X hl0 dX11_hopes_106 yv_X2_has so_24 ml_RX11_342 (mX2_has_24 hI p5 r13 (0 : Int32) m14) (Nat.le_of_ble_eq_true rfl) rfl rfl (Nat.le_of_ble_eq_true rfl) (fun r15 m16 => ?_)
          refine ao_iadd (pc := 109) X dX11_hopes_109 ?_
          refine ao_ltI (fun x17 => ?_)
          refine ao_istore (pc := 110) (lv' := [(4, .int x17), (3, .int x12), (2, .int x9), (0, .ref (eAd E 0)), (1, .int p1), (5, .int p5)]) X dX11_hopes_110 (by decide) rfl ?_
          refine ao_iinc (pc := 112) (k := 5) (v := p5 + (1 : Int32)) (lv' := [(5, .int (p5 + (1 : Int32))), (4, .int x17), (3, .int x12), (2, .int x9), (0, .ref (eAd E 0)), (1, .int p1)]) X dX11_hopes_112 rfl (ii_ic ic_1) (by decide) rfl ?_
          refine ao_goto (pc := 115) (tgt := 21) X dX11_hopes_115 (by decide) ?_
          refine ao_sub [4, 5, 3, 2, 1, 0] rfl ?_
          exact ih p1 x9 x12 x17 (p5 + (1 : Int32)) m16
def fX11_hopes_0 (v1 : Int32) (μ : Mem) : Option (Int32 × Mem) :=
  if v1 < 0 then (some ((-1 : Int32), μ))
  else if v1 < (4 : Int32) then (fX11_hopes_0_b21 FU v1 (0 : Int32) (0 : Int32) (0 : Int32) (0 : Int32) μ)
    else some ((-1 : Int32), μ)
set_option maxRecDepth 100000 in
set_option maxHeartbeats 4000000 in
theorem mX11_hopes_0 {E : En} {l : Launch} (hI : Inj E) (v1 : Int32) (μ : Mem) : MtI E l yX11_hopes cX11_hopes 6 (some .int) 4 [.ref (eAd E 0), .int v1] μ (fX11_hopes_0 v1 μ) := by
  refine mtI_of (own := RX11) [(0, .ref (eAd E 0)), (1, .int v1)] hI rfl (by decide) (Nat.le_of_ble_eq_true rfl) (Nat.le_of_ble_eq_true rfl) rfl (fun Z hl0 X hr => ?_)
  unfold fX11_hopes_0
  refine ao_iload_n (pc := 0) X dX11_hopes_0 rfl ?_
  refine ao_if_lt (pc := 1) (tgt := 9) X dX11_hopes_1 (by decide) (fun _ => ?_) (fun _ => ?_)
  · refine ao_iconst (pc := 9) X dX11_hopes_9 ic_m1 ?_
    exact ao_iret (pc := 10) X hr dX11_hopes_10
  · refine ao_iload_n (pc := 4) X dX11_hopes_4 rfl ?_
    refine ao_iconst (pc := 5) X dX11_hopes_5 ic_4 ?_
    refine ao_icmp_lt (pc := 6) (tgt := 11) X dX11_hopes_6 (by decide) (fun _ => ?_) (fun _ => ?_)
    · refine ao_iconst (pc := 11) X dX11_hopes_11 ic_0 ?_
      refine ao_istore_n (pc := 12) (lv' := [(2, .int (0 : Int32)), (0, .ref (eAd E 0)), (1, .int v1)]) X dX11_hopes_12 rfl (by decide) rfl ?_
      refine ao_iconst (pc := 13) X dX11_hopes_13 ic_0 ?_
      refine ao_istore_n (pc := 14) (lv' := [(3, .int (0 : Int32)), (2, .int (0 : Int32)), (0, .ref (eAd E 0)), (1, .int v1)]) X dX11_hopes_14 rfl (by decide) rfl ?_
      refine ao_iconst (pc := 15) X dX11_hopes_15 ic_0 ?_
      refine ao_istore (pc := 16) (lv' := [(4, .int (0 : Int32)), (3, .int (0 : Int32)), (2, .int (0 : Int32)), (0, .ref (eAd E 0)), (1, .int v1)]) X dX11_hopes_16 (by decide) rfl ?_
      refine ao_iconst (pc := 18) X dX11_hopes_18 ic_0 ?_
      refine ao_istore (pc := 19) (lv' := [(5, .int (0 : Int32)), (4, .int (0 : Int32)), (3, .int (0 : Int32)), (2, .int (0 : Int32)), (0, .ref (eAd E 0)), (1, .int v1)]) X dX11_hopes_19 (by decide) rfl ?_
      refine ao_sub [4, 5, 3, 2, 1, 0] rfl ?_
      exact bX11_hopes_0_21 hI hl0 X hr FU v1 (0 : Int32) (0 : Int32) (0 : Int32) (0 : Int32) μ
    · refine ao_iconst (pc := 9) X dX11_hopes_9 ic_m1 ?_
      exact ao_iret (pc := 10) X hr dX11_hopes_10
def fX12_isHeir (v0 : Int32) (μ : Mem) : Option (Int32 × Mem) :=
  bnd (fX12_in v0 (0 : Int32) (3 : Int32) μ) fun r1 m2 =>
  gd (isZ r1) (some (r1, m2))
set_option maxRecDepth 100000 in
set_option maxHeartbeats 4000000 in
theorem mX12_isHeir {E : En} {l : Launch} (hI : Inj E) (v0 : Int32) (μ : Mem) : MtI E l yX12_isHeir cX12_isHeir 1 (some .boolean) 2 [.int v0] μ (fX12_isHeir v0 μ) := by
  refine mtI_of (own := RX12) [(0, .int v0)] hI rfl (by decide) (Nat.le_of_ble_eq_true rfl) (Nat.le_of_ble_eq_true rfl) rfl (fun Z hl0 X hr => ?_)
  unfold fX12_isHeir
  refine ao_iload_n (pc := 0) X dX12_isHeir_0 rfl ?_
  refine ao_iconst (pc := 1) X dX12_isHeir_1 ic_0 ?_
  refine ao_iconst (pc := 2) X dX12_isHeir_2 ic_3 ?_
  refine ao_callSI (pc := 3) (As := [.int v0, .int (0 : Int32), .int (3 : Int32)]) (st := []) X hl0 dX12_isHeir_3 yv_X12_in ml_RX12_104 (mX12_in hI v0 (0 : Int32) (3 : Int32) μ) (Nat.le_of_ble_eq_true rfl) rfl rfl (Nat.le_of_ble_eq_true rfl) (fun r1 m2 => ?_)
  exact ao_zretG (pc := 6) X hr dX12_isHeir_6
