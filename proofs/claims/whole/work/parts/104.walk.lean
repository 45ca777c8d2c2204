def fX12_goNight_122_123_b139 (k118 : Int32 → Mem → Option (Unit × Mem)) (p2 : Int32) (μ : Mem) : Option (Unit × Mem) :=
  gd (inb p2 27) (lt (sI μ 123 (ix p2) (5 : Int32)) fun m13 =>
  k118 (p2 + (1 : Int32)) m13)
set_option maxRecDepth 100000 in
set_option maxHeartbeats 4000000 in
theorem bX12_goNight_122_123_139 {E : En} {l : Launch} {Z : Zt} (hI : Inj E) (hl0 : lZ l Z) (X : Cx E Z cX12_goNight RX12 3 411) (hr : rtOf Z = none) {k118 : Int32 → Mem → Option (Unit × Mem)} (hk118 : ∀ (p2 : Int32) (m : Mem), AO E Z 3 (QV E Z) 118 [(0, .ref (eAd E 122)), (1, .ref (eAd E 123)), (2, .int p2)] [] m (k118 p2 m)) (p2 : Int32) (μ : Mem) : AO E Z 3 (QV E Z) 139 [(0, .ref (eAd E 122)), (1, .ref (eAd E 123)), (2, .int p2)] [] μ (fX12_goNight_122_123_b139 k118 p2 μ) := by
  unfold fX12_goNight_122_123_b139
  refine ao_aload_n (pc := 139) X dX12_goNight_139 rfl ?_
  refine ao_iload_n (pc := 140) X dX12_goNight_140 rfl ?_
  refine ao_iconst (pc := 141) X dX12_goNight_141 ic_5 ?_
  refine ao_iast (pc := 142) X dX12_goNight_142 sa_123 ?_
  refine ao_lt (fun m13 => ?_)
  refine ao_iinc (pc := 143) (k := 2) (v := p2 + (1 : Int32)) (lv' := [(2, .int (p2 + (1 : Int32))), (0, .ref (eAd E 122)), (1, .ref (eAd E 123))]) X dX12_goNight_143 rfl (ii_ic ic_1) (by decide) rfl ?_
  refine ao_goto (pc := 146) (tgt := 118) X dX12_goNight_146 (by decide) ?_
  refine ao_sub [1, 2, 0] rfl ?_
  exact hk118 (p2 + (1 : Int32)) m13
def fX12_goNight_122_123_b118 : Nat → Int32 → Mem → Option (Unit × Mem)
  | 0, _, _ => none
  | n + 1, p2, μ =>
  if (gI μ 122 1) ≤ p2 then (some ((), μ))
  else gd (inb p2 27) (if (gI μ 123 (ix p2)) = 0 then (fX12_goNight_122_123_b139 (fun p2 m => fX12_goNight_122_123_b118 n p2 m) p2 μ)
    else gd (inb p2 27) (if (gI μ 123 (ix p2)) = (1 : Int32) then (fX12_goNight_122_123_b139 (fun p2 m => fX12_goNight_122_123_b118 n p2 m) p2 μ)
      else fX12_goNight_122_123_b118 n (p2 + (1 : Int32)) μ))
set_option maxRecDepth 100000 in
set_option maxHeartbeats 4000000 in
theorem bX12_goNight_122_123_118 {E : En} {l : Launch} {Z : Zt} (hI : Inj E) (hl0 : lZ l Z) (X : Cx E Z cX12_goNight RX12 3 411) (hr : rtOf Z = none) : ∀ (n : Nat) (p2 : Int32) (μ : Mem), AO E Z 3 (QV E Z) 118 [(0, .ref (eAd E 122)), (1, .ref (eAd E 123)), (2, .int p2)] [] μ (fX12_goNight_122_123_b118 n p2 μ) := by
  intro n
  induction n with
  | zero =>
    intros
    exact ao_none
  | succ n ih =>
    intro p2 μ
    rw [fX12_goNight_122_123_b118]
    refine ao_iload_n (pc := 118) X dX12_goNight_118 rfl ?_
    refine ao_aload_n (pc := 119) X dX12_goNight_119 rfl ?_
    refine ao_getI (pc := 120) X dX12_goNight_120 fl_RX12_101 sf_122_1 ?_
    refine ao_icmp_ge (pc := 123) (tgt := 149) X dX12_goNight_123 (by decide) (fun _ => ?_) (fun _ => ?_)
    · exact ao_vret (pc := 149) X hr dX12_goNight_149
    · refine ao_aload_n (pc := 126) X dX12_goNight_126 rfl ?_
      refine ao_iload_n (pc := 127) X dX12_goNight_127 rfl ?_
      refine ao_iald (pc := 128) X dX12_goNight_128 sa_123 ?_
      refine ao_if_eq (pc := 129) (tgt := 139) X dX12_goNight_129 (by decide) (fun _ => ?_) (fun _ => ?_)
      · refine ao_sub [0, 1, 2] rfl ?_
        exact bX12_goNight_122_123_139 hI hl0 X hr ih p2 μ
      · refine ao_aload_n (pc := 132) X dX12_goNight_132 rfl ?_
        refine ao_iload_n (pc := 133) X dX12_goNight_133 rfl ?_
        refine ao_iald (pc := 134) X dX12_goNight_134 sa_123 ?_
        refine ao_iconst (pc := 135) X dX12_goNight_135 ic_1 ?_
        refine ao_icmp_ne (pc := 136) (tgt := 143) X dX12_goNight_136 (by decide) (fun _ => ?_) (fun _ => ?_)
        · refine ao_iinc (pc := 143) (k := 2) (v := p2 + (1 : Int32)) (lv' := [(2, .int (p2 + (1 : Int32))), (0, .ref (eAd E 122)), (1, .ref (eAd E 123))]) X dX12_goNight_143 rfl (ii_ic ic_1) (by decide) rfl ?_
          refine ao_goto (pc := 146) (tgt := 118) X dX12_goNight_146 (by decide) ?_
          refine ao_sub [1, 2, 0] rfl ?_
          exact ih (p2 + (1 : Int32)) μ
        · refine ao_sub [0, 1, 2] rfl ?_
          exact bX12_goNight_122_123_139 hI hl0 X hr ih p2 μ
def fX12_goNight_122_123_b59 : Nat → Int32 → Mem → Option (Unit × Mem)
  | 0, _, _ => none
  | n + 1, p2, μ =>
  if (gI μ 122 8) ≤ p2 then (gd (inb (26 : Int32) 27) (gd (inb (26 : Int32) 27) (lt (sI μ 123 (ix (26 : Int32)) ((gI μ 123 (ix (26 : Int32))) + (1 : Int32))) fun m9 =>
    gd (inb (26 : Int32) 27) (if (gI m9 123 (ix (26 : Int32))) = (gI m9 122 12) then (fX12_goNight_122_123_b118 FU (0 : Int32) m9)
    else some ((), m9)))))
  else gd (inb ((18 : Int32) + p2) 27) (gd (inb p2 8) (gd (inb ((18 : Int32) + p2) 27) (lt (sI μ 123 (ix ((18 : Int32) + p2)) (imax (0 : Int32) ((gI μ 123 (ix ((18 : Int32) + p2))) - (gI μ 131 (ix p2))))) fun m10 =>
    fX12_goNight_122_123_b59 n (p2 + (1 : Int32)) m10)))
set_option maxRecDepth 100000 in
set_option maxHeartbeats 4000000 in
theorem bX12_goNight_122_123_59 {E : En} {l : Launch} {Z : Zt} (hI : Inj E) (hl0 : lZ l Z) (X : Cx E Z cX12_goNight RX12 3 411) (hr : rtOf Z = none) : ∀ (n : Nat) (p2 : Int32) (μ : Mem), AO E Z 3 (QV E Z) 59 [(0, .ref (eAd E 122)), (1, .ref (eAd E 123)), (2, .int p2)] [] μ (fX12_goNight_122_123_b59 n p2 μ) := by
  intro n
  induction n with
  | zero =>
    intros
    exact ao_none
  | succ n ih =>
    intro p2 μ
    rw [fX12_goNight_122_123_b59]
    refine ao_iload_n (pc := 59) X dX12_goNight_59 rfl ?_
    refine ao_aload_n (pc := 60) X dX12_goNight_60 rfl ?_
    refine ao_getI (pc := 61) X dX12_goNight_61 fl_RX12_181 sf_122_8 ?_
    refine ao_icmp_ge (pc := 64) (tgt := 96) X dX12_goNight_64 (by decide) (fun _ => ?_) (fun _ => ?_)
    · refine ao_aload_n (pc := 96) X dX12_goNight_96 rfl ?_
      refine ao_bipush (pc := 97) X dX12_goNight_97 bp_26 ?_
      refine ao_dup2 (pc := 99) X dX12_goNight_99 rfl rfl ?_
      refine ao_iald (pc := 100) X dX12_goNight_100 sa_123 ?_
      refine ao_iconst (pc := 101) X dX12_goNight_101 ic_1 ?_
      refine ao_iadd (pc := 102) X dX12_goNight_102 ?_
      refine ao_iast (pc := 103) X dX12_goNight_103 sa_123 ?_
      refine ao_lt (fun m9 => ?_)
      refine ao_aload_n (pc := 104) X dX12_goNight_104 rfl ?_
      refine ao_bipush (pc := 105) X dX12_goNight_105 bp_26 ?_
      refine ao_iald (pc := 107) X dX12_goNight_107 sa_123 ?_
      refine ao_aload_n (pc := 108) X dX12_goNight_108 rfl ?_
      refine ao_getI (pc := 109) X dX12_goNight_109 fl_RX12_41 sf_122_12 ?_
      refine ao_icmp_eq (pc := 112) (tgt := 116) X dX12_goNight_112 (by decide) (fun _ => ?_) (fun _ => ?_)
      · refine ao_iconst (pc := 116) X dX12_goNight_116 ic_0 ?_
        refine ao_istore_n (pc := 117) (lv' := [(2, .int (0 : Int32)), (0, .ref (eAd E 122)), (1, .ref (eAd E 123))]) X dX12_goNight_117 rfl (by decide) rfl ?_
        refine ao_sub [1, 2, 0] rfl ?_
        exact bX12_goNight_122_123_118 hI hl0 X hr FU (0 : Int32) m9
      · exact ao_vret (pc := 115) X hr dX12_goNight_115
    · refine ao_aload_n (pc := 67) X dX12_goNight_67 rfl ?_
      refine ao_bipush (pc := 68) X dX12_goNight_68 bp_18 ?_
      refine ao_iload_n (pc := 70) X dX12_goNight_70 rfl ?_
      refine ao_iadd (pc := 71) X dX12_goNight_71 ?_
      refine ao_iconst (pc := 72) X dX12_goNight_72 ic_0 ?_
      refine ao_aload_n (pc := 73) X dX12_goNight_73 rfl ?_
      refine ao_bipush (pc := 74) X dX12_goNight_74 bp_18 ?_
      refine ao_iload_n (pc := 76) X dX12_goNight_76 rfl ?_
      refine ao_iadd (pc := 77) X dX12_goNight_77 ?_
      refine ao_iald (pc := 78) X dX12_goNight_78 sa_123 ?_
      refine ao_aload_n (pc := 79) X dX12_goNight_79 rfl ?_
      refine ao_getR (pc := 80) X dX12_goNight_80 fl_RX12_35 sf_122_10 ?_
      refine ao_iload_n (pc := 83) X dX12_goNight_83 rfl ?_
      refine ao_iald (pc := 84) X dX12_goNight_84 sa_131 ?_
      refine ao_isub (pc := 85) X dX12_goNight_85 ?_
      refine ao_max (pc := 86) X dX12_goNight_86 ml_RX12_217 MaxW_ok (Nat.le_of_ble_eq_true rfl) ?_
      refine ao_iast (pc := 89) X dX12_goNight_89 sa_123 ?_
      refine ao_lt (fun m10 => ?_)
      refine ao_iinc (pc := 90) (k := 2) (v := p2 + (1 : Int32)) (lv' := [(2, .int (p2 + (1 : Int32))), (0, .ref (eAd E 122)), (1, .ref (eAd E 123))]) X dX12_goNight_90 rfl (ii_ic ic_1) (by decide) rfl ?_
      refine ao_goto (pc := 93) (tgt := 59) X dX12_goNight_93 (by decide) ?_
      refine ao_sub [1, 2, 0] rfl ?_
      exact ih (p2 + (1 : Int32)) m10
def fX12_goNight_122_123_b2 : Nat → Int32 → Mem → Option (Unit × Mem)
  | 0, _, _ => none
  | n + 1, p2, μ =>
  if (gI μ 122 1) ≤ p2 then (fX12_goNight_122_123_b59 FU (0 : Int32) μ)
  else gd (inb p2 27) (if (gI μ 123 (ix p2)) = 0 then (gd (inb ((6 : Int32) + p2) 27) (if (gI μ 123 (ix ((6 : Int32) + p2))) = 0 then (fX12_goNight_122_123_b2 n (p2 + (1 : Int32)) μ)
      else gd (inb ((12 : Int32) + p2) 27) (gd (inb ((12 : Int32) + p2) 27) (lt (sI μ 123 (ix ((12 : Int32) + p2)) ((gI μ 123 (ix ((12 : Int32) + p2))) + (1 : Int32))) fun m2 =>
        bnd (fX12_leftNow_122_123 p2 m2) fun r3 m4 =>
        if 0 < r3 then (fX12_goNight_122_123_b2 n (p2 + (1 : Int32)) m4)
        else gd (inb p2 27) (lt (sI m4 123 (ix p2) (2 : Int32)) fun m6 =>
          fX12_goNight_122_123_b2 n (p2 + (1 : Int32)) m6)))))
    else fX12_goNight_122_123_b2 n (p2 + (1 : Int32)) μ)
set_option maxRecDepth 100000 in
set_option maxHeartbeats 4000000 in
theorem bX12_goNight_122_123_2 {E : En} {l : Launch} {Z : Zt} (hI : Inj E) (hl0 : lZ l Z) (X : Cx E Z cX12_goNight RX12 3 411) (hr : rtOf Z = none) : ∀ (n : Nat) (p2 : Int32) (μ : Mem), AO E Z 3 (QV E Z) 2 [(0, .ref (eAd E 122)), (1, .ref (eAd E 123)), (2, .int p2)] [] μ (fX12_goNight_122_123_b2 n p2 μ) := by
  intro n
  induction n with
  | zero =>
    intros
    exact ao_none
  | succ n ih =>
    intro p2 μ
    rw [fX12_goNight_122_123_b2]
    refine ao_iload_n (pc := 2) X dX12_goNight_2 rfl ?_
    refine ao_aload_n (pc := 3) X dX12_goNight_3 rfl ?_
    refine ao_getI (pc := 4) X dX12_goNight_4 fl_RX12_101 sf_122_1 ?_
    refine ao_icmp_ge (pc := 7) (tgt := 57) X dX12_goNight_7 (by decide) (fun _ => ?_) (fun _ => ?_)
    · refine ao_iconst (pc := 57) X dX12_goNight_57 ic_0 ?_
      refine ao_istore_n (pc := 58) (lv' := [(2, .int (0 : Int32)), (0, .ref (eAd E 122)), (1, .ref (eAd E 123))]) X dX12_goNight_58 rfl (by decide) rfl ?_
      refine ao_sub [1, 2, 0] rfl ?_
      exact bX12_goNight_122_123_59 hI hl0 X hr FU (0 : Int32) μ
    · refine ao_aload_n (pc := 10) X dX12_goNight_10 rfl ?_
      refine ao_iload_n (pc := 11) X dX12_goNight_11 rfl ?_
      refine ao_iald (pc := 12) X dX12_goNight_12 sa_123 ?_
      refine ao_if_ne (pc := 13) (tgt := 51) X dX12_goNight_13 (by decide) (fun _ => ?_) (fun _ => ?_)
      · refine ao_iinc (pc := 51) (k := 2) (v := p2 + (1 : Int32)) (lv' := [(2, .int (p2 + (1 : Int32))), (0, .ref (eAd E 122)), (1, .ref (eAd E 123))]) X dX12_goNight_51 rfl (ii_ic ic_1) (by decide) rfl ?_
        refine ao_goto (pc := 54) (tgt := 2) X dX12_goNight_54 (by decide) ?_
        refine ao_sub [1, 2, 0] rfl ?_
        exact ih (p2 + (1 : Int32)) μ
      · refine ao_aload_n (pc := 16) X dX12_goNight_16 rfl ?_
        refine ao_bipush (pc := 17) X dX12_goNight_17 bp_6 ?_
        refine ao_iload_n (pc := 19) X dX12_goNight_19 rfl ?_
        refine ao_iadd (pc := 20) X dX12_goNight_20 ?_
        refine ao_iald (pc := 21) X dX12_goNight_21 sa_123 ?_
        refine ao_if_ne (pc := 22) (tgt := 28) X dX12_goNight_22 (by decide) (fun _ => ?_) (fun _ => ?_)
        · refine ao_aload_n (pc := 28) X dX12_goNight_28 rfl ?_
          refine ao_bipush (pc := 29) X dX12_goNight_29 bp_12 ?_
          refine ao_iload_n (pc := 31) X dX12_goNight_31 rfl ?_
          refine ao_iadd (pc := 32) X dX12_goNight_32 ?_
          refine ao_dup2 (pc := 33) X dX12_goNight_33 rfl rfl ?_
          refine ao_iald (pc := 34) X dX12_goNight_34 sa_123 ?_
          refine ao_iconst (pc := 35) X dX12_goNight_35 ic_1 ?_
          refine ao_iadd (pc := 36) X dX12_goNight_36 ?_
          refine ao_iast (pc := 37) X dX12_goNight_37 sa_123 ?_
          refine ao_lt (fun m2 => ?_)
          refine ao_aload_n (pc := 38) X dX12_goNight_38 rfl ?_
          refine ao_aload_n (pc := 39) X dX12_goNight_39 rfl ?_
          refine ao_iload_n (pc := 40) X dX12_goNight_40 rfl ?_
          refine ao_callVI (pc := 41) (As := [.ref (eAd E 123), .int p2]) (st := []) X hl0 dX12_goNight_41 yv_X12_leftNow so_122 ml_RX12_231 (mX12_leftNow_122_123 hI p2 m2) (Nat.le_of_ble_eq_true rfl) rfl rfl (Nat.le_of_ble_eq_true rfl) (fun r3 m4 => ?_)
          refine ao_if_gt (pc := 44) (tgt := 51) X dX12_goNight_44 (by decide) (fun _ => ?_) (fun _ => ?_)
          · refine ao_iinc (pc := 51) (k := 2) (v := p2 + (1 : Int32)) (lv' := [(2, .int (p2 + (1 : Int32))), (0, .ref (eAd E 122)), (1, .ref (eAd E 123))]) X dX12_goNight_51 rfl (ii_ic ic_1) (by decide) rfl ?_
            refine ao_goto (pc := 54) (tgt := 2) X dX12_goNight_54 (by decide) ?_
            refine ao_sub [1, 2, 0] rfl ?_
            exact ih (p2 + (1 : Int32)) m4
          · refine ao_aload_n (pc := 47) X dX12_goNight_47 rfl ?_
            refine ao_iload_n (pc := 48) X dX12_goNight_48 rfl ?_
            refine ao_iconst (pc := 49) X dX12_goNight_49 ic_2 ?_
            refine ao_iast (pc := 50) X dX12_goNight_50 sa_123 ?_
            refine ao_lt (fun m6 => ?_)
            refine ao_iinc (pc := 51) (k := 2) (v := p2 + (1 : Int32)) (lv' := [(2, .int (p2 + (1 : Int32))), (0, .ref (eAd E 122)), (1, .ref (eAd E 123))]) X dX12_goNight_51 rfl (ii_ic ic_1) (by decide) rfl ?_
            refine ao_goto (pc := 54) (tgt := 2) X dX12_goNight_54 (by decide) ?_
            refine ao_sub [1, 2, 0] rfl ?_
            exact ih (p2 + (1 : Int32)) m6
        · refine ao_goto (pc := 25) (tgt := 51) X dX12_goNight_25 (by decide) ?_
          refine ao_iinc (pc := 51) (k := 2) (v := p2 + (1 : Int32)) (lv' := [(2, .int (p2 + (1 : Int32))), (0, .ref (eAd E 122)), (1, .ref (eAd E 123))]) X dX12_goNight_51 rfl (ii_ic ic_1) (by decide) rfl ?_
          refine ao_goto (pc := 54) (tgt := 2) X dX12_goNight_54 (by decide) ?_
          refine ao_sub [1, 2, 0] rfl ?_
          exact ih (p2 + (1 : Int32)) μ
def fX12_goNight_122_123 (μ : Mem) : Option (Unit × Mem) :=
  fX12_goNight_122_123_b2 FU (0 : Int32) μ
set_option maxRecDepth 100000 in
set_option maxHeartbeats 4000000 in
theorem mX12_goNight_122_123 {E : En} {l : Launch} (hI : Inj E) (μ : Mem) : MtV E l yX12_goNight cX12_goNight 3 (none) 411 [.ref (eAd E 122), .ref (eAd E 123)] μ (fX12_goNight_122_123 μ) := by
  refine mtV_of (own := RX12) [(0, .ref (eAd E 122)), (1, .ref (eAd E 123))] hI rfl (by decide) (Nat.le_of_ble_eq_true rfl) (Nat.le_of_ble_eq_true rfl) rfl (fun Z hl0 X hr => ?_)
  unfold fX12_goNight_122_123
  refine ao_iconst (pc := 0) X dX12_goNight_0 ic_0 ?_
  refine ao_istore_n (pc := 1) (lv' := [(2, .int (0 : Int32)), (0, .ref (eAd E 122)), (1, .ref (eAd E 123))]) X dX12_goNight_1 rfl (by decide) rfl ?_
  refine ao_sub [1, 2, 0] rfl ?_
  exact bX12_goNight_122_123_2 hI hl0 X hr FU (0 : Int32) μ
def fX12_ofKind_122_123_b5 : Nat → Int32 → Int32 → Int32 → Mem → Option (Int32 × Mem)
  | 0, _, _, _, _ => none
  | n + 1, p2, p3, p4, μ =>
  if (gI μ 122 1) ≤ p4 then (some (p3, μ))
  else gd (inb p4 27) (if (gI μ 123 (ix p4)) = p2 then (lt (p3 ||| ((1 : Int32) <<< (p4 &&& 31))) fun x3 =>
      fX12_ofKind_122_123_b5 n p2 x3 (p4 + (1 : Int32)) μ)
    else lt (p3 ||| (0 : Int32)) fun x1 =>
      fX12_ofKind_122_123_b5 n p2 x1 (p4 + (1 : Int32)) μ)
set_option maxRecDepth 100000 in
set_option maxHeartbeats 4000000 in
theorem bX12_ofKind_122_123_5 {E : En} {l : Launch} {Z : Zt} (hI : Inj E) (hl0 : lZ l Z) (X : Cx E Z cX12_ofKind RX12 5 1) (hr : rtOf Z = some .int) : ∀ (n : Nat) (p2 : Int32) (p3 : Int32) (p4 : Int32) (μ : Mem), AO E Z 5 (QI E Z) 5 [(0, .ref (eAd E 122)), (1, .ref (eAd E 123)), (2, .int p2), (3, .int p3), (4, .int p4)] [] μ (fX12_ofKind_122_123_b5 n p2 p3 p4 μ) := by
  intro n
  induction n with
  | zero =>
    intros
    exact ao_none
  | succ n ih =>
    intro p2 p3 p4 μ
    rw [fX12_ofKind_122_123_b5]
    refine ao_iload (pc := 5) X dX12_ofKind_5 rfl ?_
    refine ao_aload_n (pc := 7) X dX12_ofKind_7 rfl ?_
    refine ao_getI (pc := 8) X dX12_ofKind_8 fl_RX12_101 sf_122_1 ?_
    refine ao_icmp_ge (pc := 11) (tgt := 39) X dX12_ofKind_11 (by decide) (fun _ => ?_) (fun _ => ?_)
    · refine ao_iload_n (pc := 39) X dX12_ofKind_39 rfl ?_
      exact ao_iret (pc := 40) X hr dX12_ofKind_40
    · refine ao_iload_n (pc := 14) X dX12_ofKind_14 rfl ?_
      refine ao_aload_n (pc := 15) X dX12_ofKind_15 rfl ?_
      refine ao_iload (pc := 16) X dX12_ofKind_16 rfl ?_
      refine ao_iald (pc := 18) X dX12_ofKind_18 sa_123 ?_
      refine ao_iload_n (pc := 19) X dX12_ofKind_19 rfl ?_
      refine ao_icmp_ne (pc := 20) (tgt := 30) X dX12_ofKind_20 (by decide) (fun _ => ?_) (fun _ => ?_)
      · refine ao_iconst (pc := 30) X dX12_ofKind_30 ic_0 ?_
        refine ao_ior (pc := 31) X dX12_ofKind_31 ?_
        refine ao_ltI (fun x1 => ?_)
        refine ao_istore_n (pc := 32) (lv' := [(3, .int x1), (0, .ref (eAd E 122)), (1, .ref (eAd E 123)), (2, .int p2), (4, .int p4)]) X dX12_ofKind_32 rfl (by decide) rfl ?_
        refine ao_iinc (pc := 33) (k := 4) (v := p4 + (1 : Int32)) (lv' := [(4, .int (p4 + (1 : Int32))), (3, .int x1), (0, .ref (eAd E 122)), (1, .ref (eAd E 123)), (2, .int p2)]) X dX12_ofKind_33 rfl (ii_ic ic_1) (by decide) rfl ?_
        refine ao_goto (pc := 36) (tgt := 5) X dX12_ofKind_36 (by decide) ?_
        refine ao_sub [2, 3, 4, 1, 0] rfl ?_
        exact ih p2 x1 (p4 + (1 : Int32)) μ
      · refine ao_iconst (pc := 23) X dX12_ofKind_23 ic_1 ?_
        refine ao_iload (pc := 24) X dX12_ofKind_24 rfl ?_
        refine ao_ishl (pc := 26) X dX12_ofKind_26 ?_
        refine ao_goto (pc := 27) (tgt := 31) X dX12_ofKind_27 (by decide) ?_
        refine ao_ior (pc := 31) X dX12_ofKind_31 ?_
        refine ao_ltI (fun x3 => ?_)
        refine ao_istore_n (pc := 32) (lv' := [(3, .int x3), (0, .ref (eAd E 122)), (1, .ref (eAd E 123)), (2, .int p2), (4, .int p4)]) X dX12_ofKind_32 rfl (by decide) rfl ?_
        refine ao_iinc (pc := 33) (k := 4) (v := p4 + (1 : Int32)) (lv' := [(4, .int (p4 + (1 : Int32))), (3, .int x3), (0, .ref (eAd E 122)), (1, .ref (eAd E 123)), (2, .int p2)]) X dX12_ofKind_33 rfl (ii_ic ic_1) (by decide) rfl ?_
        refine ao_goto (pc := 36) (tgt := 5) X dX12_ofKind_36 (by decide) ?_
        refine ao_sub [2, 3, 4, 1, 0] rfl ?_
        exact ih p2 x3 (p4 + (1 : Int32)) μ
def fX12_ofKind_122_123 (v2 : Int32) (μ : Mem) : Option (Int32 × Mem) :=
  fX12_ofKind_122_123_b5 FU v2 (0 : Int32) (0 : Int32) μ
set_option maxRecDepth 100000 in
set_option maxHeartbeats 4000000 in
theorem mX12_ofKind_122_123 {E : En} {l : Launch} (hI : Inj E) (v2 : Int32) (μ : Mem) : MtI E l yX12_ofKind cX12_ofKind 5 (some .int) 1 [.ref (eAd E 122), .ref (eAd E 123), .int v2] μ (fX12_ofKind_122_123 v2 μ) := by
  refine mtI_of (own := RX12) [(0, .ref (eAd E 122)), (1, .ref (eAd E 123)), (2, .int v2)] hI rfl (by decide) (Nat.le_of_ble_eq_true rfl) (Nat.le_of_ble_eq_true rfl) rfl (fun Z hl0 X hr => ?_)
  unfold fX12_ofKind_122_123
  refine ao_iconst (pc := 0) X dX12_ofKind_0 ic_0 ?_
  refine ao_istore_n (pc := 1) (lv' := [(3, .int (0 : Int32)), (0, .ref (eAd E 122)), (1, .ref (eAd E 123)), (2, .int v2)]) X dX12_ofKind_1 rfl (by decide) rfl ?_
  refine ao_iconst (pc := 2) X dX12_ofKind_2 ic_0 ?_
  refine ao_istore (pc := 3) (lv' := [(4, .int (0 : Int32)), (3, .int (0 : Int32)), (0, .ref (eAd E 122)), (1, .ref (eAd E 123)), (2, .int v2)]) X dX12_ofKind_3 (by decide) rfl ?_
  refine ao_sub [2, 3, 4, 1, 0] rfl ?_
  exact bX12_ofKind_122_123_5 hI hl0 X hr FU v2 (0 : Int32) (0 : Int32) μ
def fX12_nights_122_b52 : Nat → Int32 → Int32 → Int32 → Int32 → Mem → Option (Int32 × Mem)
  | 0, _, _, _, _, _ => none
  | n + 1, p1, p2, p3, p4, μ =>
  if p1 ≤ p4 then (lt (sI μ 122 16 (0 : Int32)) fun m10 =>
    bnd (fX12_ofKind_122_123 (2 : Int32) m10) fun r11 m12 =>
    bnd (fX12_tell_122 (Int32.toInt64 (r11 &&& (p2 ^^^ (-1 : Int32)))) m12) fun r13 m14 =>
    bnd (fX12_ofKind_122_123 (5 : Int32) m14) fun r15 m16 =>
    bnd (fX12_tell_122 (Int32.toInt64 (r15 &&& (p3 ^^^ (-1 : Int32)))) m16) fun r17 m18 =>
    gd (inb (26 : Int32) 27) (some ((gI m18 123 (ix (26 : Int32))), m18)))
  else bnd (fX12_goNight_122_123 μ) fun r19 m20 =>
    fX12_nights_122_b52 n p1 p2 p3 (p4 + (1 : Int32)) m20
set_option maxRecDepth 100000 in
set_option maxHeartbeats 4000000 in
theorem bX12_nights_122_52 {E : En} {l : Launch} {Z : Zt} (hI : Inj E) (hl0 : lZ l Z) (X : Cx E Z cX12_nights RX12 5 412) (hr : rtOf Z = some .int) : ∀ (n : Nat) (p1 : Int32) (p2 : Int32) (p3 : Int32) (p4 : Int32) (μ : Mem), AO E Z 5 (QI E Z) 52 [(0, .ref (eAd E 122)), (1, .int p1), (2, .int p2), (3, .int p3), (4, .int p4)] [] μ (fX12_nights_122_b52 n p1 p2 p3 p4 μ) := by
  intro n
  induction n with
  | zero =>
    intros
    exact ao_none
  | succ n ih =>
    intro p1 p2 p3 p4 μ
    rw [fX12_nights_122_b52]
    refine ao_iload (pc := 52) X dX12_nights_52 rfl ?_
    refine ao_iload_n (pc := 54) X dX12_nights_54 rfl ?_
    refine ao_icmp_ge (pc := 55) (tgt := 72) X dX12_nights_55 (by decide) (fun _ => ?_) (fun _ => ?_)
    · refine ao_aload_n (pc := 72) X dX12_nights_72 rfl ?_
      refine ao_iconst (pc := 73) X dX12_nights_73 ic_0 ?_
      refine ao_putI (pc := 74) X dX12_nights_74 fp_RX12_98 sf_122_16 ?_
      refine ao_lt (fun m10 => ?_)
      refine ao_aload_n (pc := 77) X dX12_nights_77 rfl ?_
      refine ao_aload_n (pc := 78) X dX12_nights_78 rfl ?_
      refine ao_aload_n (pc := 79) X dX12_nights_79 rfl ?_
      refine ao_getR (pc := 80) X dX12_nights_80 fl_RX12_9 sf_122_0 ?_
      refine ao_iconst (pc := 83) X dX12_nights_83 ic_2 ?_
      refine ao_callVI (pc := 84) (As := [.ref (eAd E 123), .int (2 : Int32)]) (st := [.ref (eAd E 122)]) X hl0 dX12_nights_84 yv_X12_ofKind so_122 ml_RX12_271 (mX12_ofKind_122_123 hI (2 : Int32) m10) (Nat.le_of_ble_eq_true rfl) rfl rfl (Nat.le_of_ble_eq_true rfl) (fun r11 m12 => ?_)
      refine ao_iload_n (pc := 87) X dX12_nights_87 rfl ?_
      refine ao_iconst (pc := 88) X dX12_nights_88 ic_m1 ?_
      refine ao_ixor (pc := 89) X dX12_nights_89 ?_
      refine ao_iand (pc := 90) X dX12_nights_90 ?_
      refine ao_i2l (pc := 91) X dX12_nights_91 ?_
      refine ao_callVV (pc := 92) (As := [.long (Int32.toInt64 (r11 &&& (p2 ^^^ (-1 : Int32))))]) (st := []) X hl0 dX12_nights_92 yv_X12_tell so_122 ml_RX12_267 (mX12_tell_122 hI (Int32.toInt64 (r11 &&& (p2 ^^^ (-1 : Int32)))) m12) (Nat.le_of_ble_eq_true rfl) rfl rfl (Nat.le_of_ble_eq_true rfl) (fun r13 m14 => ?_)
      refine ao_aload_n (pc := 95) X dX12_nights_95 rfl ?_
      refine ao_aload_n (pc := 96) X dX12_nights_96 rfl ?_
      refine ao_aload_n (pc := 97) X dX12_nights_97 rfl ?_
      refine ao_getR (pc := 98) X dX12_nights_98 fl_RX12_9 sf_122_0 ?_
      refine ao_iconst (pc := 101) X dX12_nights_101 ic_5 ?_
      refine ao_callVI (pc := 102) (As := [.ref (eAd E 123), .int (5 : Int32)]) (st := [.ref (eAd E 122)]) X hl0 dX12_nights_102 yv_X12_ofKind so_122 ml_RX12_271 (mX12_ofKind_122_123 hI (5 : Int32) m14) (Nat.le_of_ble_eq_true rfl) rfl rfl (Nat.le_of_ble_eq_true rfl) (fun r15 m16 => ?_)
      refine ao_iload_n (pc := 105) X dX12_nights_105 rfl ?_
      refine ao_iconst (pc := 106) X dX12_nights_106 ic_m1 ?_
      refine ao_ixor (pc := 107) X dX12_nights_107 ?_
      refine ao_iand (pc := 108) X dX12_nights_108 ?_
      refine ao_i2l (pc := 109) X dX12_nights_109 ?_
      refine ao_callVV (pc := 110) (As := [.long (Int32.toInt64 (r15 &&& (p3 ^^^ (-1 : Int32))))]) (st := []) X hl0 dX12_nights_110 yv_X12_tell so_122 ml_RX12_267 (mX12_tell_122 hI (Int32.toInt64 (r15 &&& (p3 ^^^ (-1 : Int32)))) m16) (Nat.le_of_ble_eq_true rfl) rfl rfl (Nat.le_of_ble_eq_true rfl) (fun r17 m18 => ?_)
      refine ao_aload_n (pc := 113) X dX12_nights_113 rfl ?_
      refine ao_getR (pc := 114) X dX12_nights_114 fl_RX12_9 sf_122_0 ?_
      refine ao_bipush (pc := 117) X dX12_nights_117 bp_26 ?_
      refine ao_iald (pc := 119) X dX12_nights_119 sa_123 ?_
      exact ao_iret (pc := 120) X hr dX12_nights_120
    · refine ao_aload_n (pc := 58) X dX12_nights_58 rfl ?_
      refine ao_aload_n (pc := 59) X dX12_nights_59 rfl ?_
      refine ao_getR (pc := 60) X dX12_nights_60 fl_RX12_9 sf_122_0 ?_
      refine ao_callVV (pc := 63) (As := [.ref (eAd E 123)]) (st := []) X hl0 dX12_nights_63 yv_X12_goNight so_122 ml_RX12_274 (mX12_goNight_122_123 hI μ) (Nat.le_of_ble_eq_true rfl) rfl rfl (Nat.le_of_ble_eq_true rfl) (fun r19 m20 => ?_)
      refine ao_iinc (pc := 66) (k := 4) (v := p4 + (1 : Int32)) (lv' := [(4, .int (p4 + (1 : Int32))), (0, .ref (eAd E 122)), (1, .int p1), (2, .int p2), (3, .int p3)]) X dX12_nights_66 rfl (ii_ic ic_1) (by decide) rfl ?_
      refine ao_goto (pc := 69) (tgt := 52) X dX12_nights_69 (by decide) ?_
      refine ao_sub [1, 2, 3, 4, 0] rfl ?_
      exact ih p1 p2 p3 (p4 + (1 : Int32)) m20
def fX12_nights_122_b29 (p1 : Int32) (μ : Mem) : Option (Int32 × Mem) :=
  bnd (fX12_ofKind_122_123 (2 : Int32) μ) fun r6 m7 =>
  bnd (fX12_ofKind_122_123 (5 : Int32) m7) fun r8 m9 =>
  fX12_nights_122_b52 FU p1 r6 r8 (0 : Int32) m9
set_option maxRecDepth 100000 in
set_option maxHeartbeats 4000000 in
theorem bX12_nights_122_29 {E : En} {l : Launch} {Z : Zt} (hI : Inj E) (hl0 : lZ l Z) (X : Cx E Z cX12_nights RX12 5 412) (hr : rtOf Z = some .int) (p1 : Int32) (μ : Mem) : AO E Z 5 (QI E Z) 29 [(0, .ref (eAd E 122)), (1, .int p1)] [] μ (fX12_nights_122_b29 p1 μ) := by
  unfold fX12_nights_122_b29
  refine ao_aload_n (pc := 29) X dX12_nights_29 rfl ?_
  refine ao_aload_n (pc := 30) X dX12_nights_30 rfl ?_
  refine ao_getR (pc := 31) X dX12_nights_31 fl_RX12_9 sf_122_0 ?_
  refine ao_iconst (pc := 34) X dX12_nights_34 ic_2 ?_
  refine ao_callVI (pc := 35) (As := [.ref (eAd E 123), .int (2 : Int32)]) (st := []) X hl0 dX12_nights_35 yv_X12_ofKind so_122 ml_RX12_271 (mX12_ofKind_122_123 hI (2 : Int32) μ) (Nat.le_of_ble_eq_true rfl) rfl rfl (Nat.le_of_ble_eq_true rfl) (fun r6 m7 => ?_)
  refine ao_istore_n (pc := 38) (lv' := [(2, .int r6), (0, .ref (eAd E 122)), (1, .int p1)]) X dX12_nights_38 rfl (by decide) rfl ?_
  refine ao_aload_n (pc := 39) X dX12_nights_39 rfl ?_
  refine ao_aload_n (pc := 40) X dX12_nights_40 rfl ?_
  refine ao_getR (pc := 41) X dX12_nights_41 fl_RX12_9 sf_122_0 ?_
  refine ao_iconst (pc := 44) X dX12_nights_44 ic_5 ?_
  refine ao_callVI (pc := 45) (As := [.ref (eAd E 123), .int (5 : Int32)]) (st := []) X hl0 dX12_nights_45 yv_X12_ofKind so_122 ml_RX12_271 (mX12_ofKind_122_123 hI (5 : Int32) m7) (Nat.le_of_ble_eq_true rfl) rfl rfl (Nat.le_of_ble_eq_true rfl) (fun r8 m9 => ?_)
  refine ao_istore_n (pc := 48) (lv' := [(3, .int r8), (2, .int r6), (0, .ref (eAd E 122)), (1, .int p1)]) X dX12_nights_48 rfl (by decide) rfl ?_
  refine ao_iconst (pc := 49) X dX12_nights_49 ic_0 ?_
  refine ao_istore (pc := 50) (lv' := [(4, .int (0 : Int32)), (3, .int r8), (2, .int r6), (0, .ref (eAd E 122)), (1, .int p1)]) X dX12_nights_50 (by decide) rfl ?_
  refine ao_sub [3, 4, 2, 1, 0] rfl ?_
  exact bX12_nights_122_52 hI hl0 X hr FU p1 r6 r8 (0 : Int32) m9
def fX12_nights_122 (v1 : Int32) (μ : Mem) : Option (Int32 × Mem) :=
  lt (sI μ 122 17 (0 : Int32)) fun m1 =>
  bnd (fX12_in v1 (0 : Int32) (60 : Int32) m1) fun r2 m3 =>
  if r2 = 0 then (some ((-1 : Int32), m3))
  else if v1 ≤ 0 then (fX12_nights_122_b29 v1 m3)
    else bnd (fX12_remember_122_123 m3) fun r4 m5 =>
      fX12_nights_122_b29 v1 m5
set_option maxRecDepth 100000 in
set_option maxHeartbeats 4000000 in
theorem mX12_nights_122 {E : En} {l : Launch} (hI : Inj E) (v1 : Int32) (μ : Mem) : MtI E l yX12_nights cX12_nights 5 (some .int) 412 [.ref (eAd E 122), .int v1] μ (fX12_nights_122 v1 μ) := by
  refine mtI_of (own := RX12) [(0, .ref (eAd E 122)), (1, .int v1)] hI rfl (by decide) (Nat.le_of_ble_eq_true rfl) (Nat.le_of_ble_eq_true rfl) rfl (fun Z hl0 X hr => ?_)
  unfold fX12_nights_122
  refine ao_aload_n (pc := 0) X dX12_nights_0 rfl ?_
  refine ao_iconst (pc := 1) X dX12_nights_1 ic_0 ?_
  refine ao_putI (pc := 2) X dX12_nights_2 fp_RX12_95 sf_122_17 ?_
  refine ao_lt (fun m1 => ?_)
  refine ao_iload_n (pc := 5) X dX12_nights_5 rfl ?_
  refine ao_iconst (pc := 6) X dX12_nights_6 ic_0 ?_
  refine ao_bipush (pc := 7) X dX12_nights_7 bp_60 ?_
  refine ao_callSI (pc := 9) (As := [.int v1, .int (0 : Int32), .int (60 : Int32)]) (st := []) X hl0 dX12_nights_9 yv_X12_in ml_RX12_104 (mX12_in hI v1 (0 : Int32) (60 : Int32) m1) (Nat.le_of_ble_eq_true rfl) rfl rfl (Nat.le_of_ble_eq_true rfl) (fun r2 m3 => ?_)
  refine ao_if_ne (pc := 12) (tgt := 17) X dX12_nights_12 (by decide) (fun _ => ?_) (fun _ => ?_)
  · refine ao_iload_n (pc := 17) X dX12_nights_17 rfl ?_
    refine ao_if_le (pc := 18) (tgt := 29) X dX12_nights_18 (by decide) (fun _ => ?_) (fun _ => ?_)
    · refine ao_sub [0, 1] rfl ?_
      exact bX12_nights_122_29 hI hl0 X hr v1 m3
    · refine ao_aload_n (pc := 21) X dX12_nights_21 rfl ?_
      refine ao_aload_n (pc := 22) X dX12_nights_22 rfl ?_
      refine ao_getR (pc := 23) X dX12_nights_23 fl_RX12_9 sf_122_0 ?_
      refine ao_callVV (pc := 26) (As := [.ref (eAd E 123)]) (st := []) X hl0 dX12_nights_26 yv_X12_remember so_122 ml_RX12_249 (mX12_remember_122_123 hI m3) (Nat.le_of_ble_eq_true rfl) rfl rfl (Nat.le_of_ble_eq_true rfl) (fun r4 m5 => ?_)
      refine ao_sub [0, 1] rfl ?_
      exact bX12_nights_122_29 hI hl0 X hr v1 m5
  · refine ao_iconst (pc := 15) X dX12_nights_15 ic_m1 ?_
    exact ao_iret (pc := 16) X hr dX12_nights_16
def fX4_perform_33_15 (v2 : Int32) (v3 : Int32) (μ : Mem) : Option (Int32 × Mem) :=
  if v2 < 0 then (some ((-1 : Int32), μ))
  else if v2 < (20 : Int32) then (gd (inb v2 20) (lt (gI μ 17 (ix v2)) fun x1 =>
      gd (inb v2 20) (lt (gI μ 18 (ix v2)) fun x2 =>
      gd (inb v2 20) (lt (gI μ 16 (ix v2)) fun x3 =>
      if x3 = (0 : Int32) then (bnd (fX4_layOn_33 x1 x2 μ) fun r5 m6 =>
        some (r5, m6))
      else if x3 = (1 : Int32) then (bnd (fX4_layOn_33 x1 (-x2) μ) fun r8 m9 =>
        some (r8, m9))
      else if x3 = (2 : Int32) then (bnd (fX4_askOf_33 x1 μ) fun r11 m12 =>
        some (r11, m12))
      else if x3 = (3 : Int32) then (bnd (fX4_tryNow_33 x1 μ) fun r14 m15 =>
        some (r14, m15))
      else if x2 ≤ (60 : Int32) then (bnd (fX4_pass_33 x2 v3 μ) fun r16 m17 =>
        some ((gI m17 33 4), m17))
      else some ((-1 : Int32), μ)))))
    else some ((-1 : Int32), μ)
set_option maxRecDepth 100000 in
set_option maxHeartbeats 4000000 in
theorem mX4_perform_33_15 {E : En} {l : Launch} (hI : Inj E) (v2 : Int32) (v3 : Int32) (μ : Mem) : MtI E l yX4_perform cX4_perform 6 (some .int) 6 [.ref (eAd E 33), .ref (eAd E 15), .int v2, .int v3] μ (fX4_perform_33_15 v2 v3 μ) := by
  refine mtI_of (own := RX4) [(0, .ref (eAd E 33)), (1, .ref (eAd E 15)), (2, .int v2), (3, .int v3)] hI rfl (by decide) (Nat.le_of_ble_eq_true rfl) (Nat.le_of_ble_eq_true rfl) rfl (fun Z hl0 X hr => ?_)
  unfold fX4_perform_33_15
  refine ao_iload_n (pc := 0) X dX4_perform_0 rfl ?_
  refine ao_if_lt (pc := 1) (tgt := 13) X dX4_perform_1 (by decide) (fun _ => ?_) (fun _ => ?_)
  · refine ao_iconst (pc := 13) X dX4_perform_13 ic_m1 ?_
    exact ao_iret (pc := 14) X hr dX4_perform_14
  · refine ao_iload_n (pc := 4) X dX4_perform_4 rfl ?_
    refine ao_aload_n (pc := 5) X dX4_perform_5 rfl ?_
    refine ao_getR (pc := 6) X dX4_perform_6 fl_RX4_89 sf_15_0 ?_
    refine ao_alen (pc := 9) (v := (20 : Int32)) X dX4_perform_9 sa_16 (by decide) ?_
    refine ao_icmp_lt (pc := 10) (tgt := 15) X dX4_perform_10 (by decide) (fun _ => ?_) (fun _ => ?_)
    · refine ao_aload_n (pc := 15) X dX4_perform_15 rfl ?_
      refine ao_getR (pc := 16) X dX4_perform_16 fl_RX4_94 sf_15_1 ?_
      refine ao_iload_n (pc := 19) X dX4_perform_19 rfl ?_
      refine ao_iald (pc := 20) X dX4_perform_20 sa_17 ?_
      refine ao_ltI (fun x1 => ?_)
      refine ao_istore (pc := 21) (lv' := [(4, .int x1), (0, .ref (eAd E 33)), (1, .ref (eAd E 15)), (2, .int v2), (3, .int v3)]) X dX4_perform_21 (by decide) rfl ?_
      refine ao_aload_n (pc := 23) X dX4_perform_23 rfl ?_
      refine ao_getR (pc := 24) X dX4_perform_24 fl_RX4_97 sf_15_2 ?_
      refine ao_iload_n (pc := 27) X dX4_perform_27 rfl ?_
      refine ao_iald (pc := 28) X dX4_perform_28 sa_18 ?_
      refine ao_ltI (fun x2 => ?_)
      refine ao_istore (pc := 29) (lv' := [(5, .int x2), (4, .int x1), (0, .ref (eAd E 33)), (1, .ref (eAd E 15)), (2, .int v2), (3, .int v3)]) X dX4_perform_29 (by decide) rfl ?_
      refine ao_aload_n (pc := 31) X dX4_perform_31 rfl ?_
      refine ao_getR (pc := 32) X dX4_perform_32 fl_RX4_89 sf_15_0 ?_
      refine ao_iload_n (pc := 35) X dX4_perform_35 rfl ?_
      refine ao_iald (pc := 36) X dX4_perform_36 sa_16 ?_
      refine ao_ltI (fun x3 => ?_)
      refine ao_ite (cd := x3 = (0 : Int32)) (fun c => ao_tabIn (pc := 37) (k := (0 : Int32)) (tgt := 68) X dX4_perform_37 c (by decide) (by decide) rfl (by decide) ?_) (fun n4 => ?_)
      · refine ao_aload_n (pc := 68) X dX4_perform_68 rfl ?_
        refine ao_iload (pc := 69) X dX4_perform_69 rfl ?_
        refine ao_iload (pc := 71) X dX4_perform_71 rfl ?_
        refine ao_callVI (pc := 73) (As := [.int x1, .int x2]) (st := []) X hl0 dX4_perform_73 yv_X4_layOn so_33 ml_RX4_100 (mX4_layOn_33 hI x1 x2 μ) (Nat.le_of_ble_eq_true rfl) rfl rfl (Nat.le_of_ble_eq_true rfl) (fun r5 m6 => ?_)
        exact ao_iret (pc := 76) X hr dX4_perform_76
      refine ao_ite (cd := x3 = (1 : Int32)) (fun c => ao_tabIn (pc := 37) (k := (1 : Int32)) (tgt := 77) X dX4_perform_37 c (by decide) (by decide) rfl (by decide) ?_) (fun n7 => ?_)
      · refine ao_aload_n (pc := 77) X dX4_perform_77 rfl ?_
        refine ao_iload (pc := 78) X dX4_perform_78 rfl ?_
        refine ao_iload (pc := 80) X dX4_perform_80 rfl ?_
        refine ao_ineg (pc := 82) X dX4_perform_82 ?_
        refine ao_callVI (pc := 83) (As := [.int x1, .int (-x2)]) (st := []) X hl0 dX4_perform_83 yv_X4_layOn so_33 ml_RX4_100 (mX4_layOn_33 hI x1 (-x2) μ) (Nat.le_of_ble_eq_true rfl) rfl rfl (Nat.le_of_ble_eq_true rfl) (fun r8 m9 => ?_)
        exact ao_iret (pc := 86) X hr dX4_perform_86
      refine ao_ite (cd := x3 = (2 : Int32)) (fun c => ao_tabIn (pc := 37) (k := (2 : Int32)) (tgt := 87) X dX4_perform_37 c (by decide) (by decide) rfl (by decide) ?_) (fun n10 => ?_)
      · refine ao_aload_n (pc := 87) X dX4_perform_87 rfl ?_
        refine ao_iload (pc := 88) X dX4_perform_88 rfl ?_
        refine ao_callVI (pc := 90) (As := [.int x1]) (st := []) X hl0 dX4_perform_90 yv_X4_askOf so_33 ml_RX4_103 (mX4_askOf_33 hI x1 μ) (Nat.le_of_ble_eq_true rfl) rfl rfl (Nat.le_of_ble_eq_true rfl) (fun r11 m12 => ?_)
        exact ao_iret (pc := 93) X hr dX4_perform_93
      refine ao_ite (cd := x3 = (3 : Int32)) (fun c => ao_tabIn (pc := 37) (k := (3 : Int32)) (tgt := 94) X dX4_perform_37 c (by decide) (by decide) rfl (by decide) ?_) (fun n13 => ?_)
      · refine ao_aload_n (pc := 94) X dX4_perform_94 rfl ?_
        refine ao_iload (pc := 95) X dX4_perform_95 rfl ?_
        refine ao_callVI (pc := 97) (As := [.int x1]) (st := []) X hl0 dX4_perform_97 yv_X4_tryNow so_33 ml_RX4_106 (mX4_tryNow_33 hI x1 μ) (Nat.le_of_ble_eq_true rfl) rfl rfl (Nat.le_of_ble_eq_true rfl) (fun r14 m15 => ?_)
        exact ao_iret (pc := 100) X hr dX4_perform_100
      refine ao_tabOut (pc := 37) (tgt := 101) X dX4_perform_37 (by have := lv_neT (a := 0) n4 (by decide); have := lv_neT (a := 1) n7 (by decide); have := lv_neT (a := 2) n10 (by decide); have := lv_neT (a := 3) n13 (by decide); omega) (by decide) ?_
      refine ao_iload (pc := 101) X dX4_perform_101 rfl ?_
      refine ao_bipush (pc := 103) X dX4_perform_103 bp_60 ?_
      refine ao_icmp_le (pc := 105) (tgt := 110) X dX4_perform_105 (by decide) (fun _ => ?_) (fun _ => ?_)
      · refine ao_aload_n (pc := 110) X dX4_perform_110 rfl ?_
        refine ao_iload (pc := 111) X dX4_perform_111 rfl ?_
        refine ao_iload_n (pc := 113) X dX4_perform_113 rfl ?_
        refine ao_callVI (pc := 114) (As := [.int x2, .int v3]) (st := []) X hl0 dX4_perform_114 yv_X4_pass so_33 ml_RX4_109 (mX4_pass_33 hI x2 v3 μ) (Nat.le_of_ble_eq_true rfl) rfl rfl (Nat.le_of_ble_eq_true rfl) (fun r16 m17 => ?_)
        refine ao_pop (pc := 117) X dX4_perform_117 rfl ?_
        refine ao_aload_n (pc := 118) X dX4_perform_118 rfl ?_
        refine ao_getI (pc := 119) X dX4_perform_119 fl_RX4_24 sf_33_4 ?_
        exact ao_iret (pc := 122) X hr dX4_perform_122
      · refine ao_iconst (pc := 108) X dX4_perform_108 ic_m1 ?_
        exact ao_iret (pc := 109) X hr dX4_perform_109
    · refine ao_iconst (pc := 13) X dX4_perform_13 ic_m1 ?_
      exact ao_iret (pc := 14) X hr dX4_perform_14
def fJ0_isLatin1_aae02_s1 (μ : Mem) : Option (Int32 × Mem) :=
  if (1 : Int32) = 0 then (some ((0 : Int32), μ))
  else if (0 : Int32) = 0 then (some ((1 : Int32), μ))
    else some ((0 : Int32), μ)
set_option maxRecDepth 100000 in
set_option maxHeartbeats 4000000 in
theorem mJ0_isLatin1_aae02_s1 {E : En} {l : Launch} (hI : Inj E) (μ : Mem) : MtI E l yJ0_isLatin1_aae02 cJ0_isLatin1_aae02 1 (some .boolean) 1 [.ref (eSk E 1)] μ (fJ0_isLatin1_aae02_s1 μ) := by
  refine mtI_of (own := RJ0) [(0, .ref (eSk E 1))] hI rfl (by decide) (Nat.le_of_ble_eq_true rfl) (Nat.le_of_ble_eq_true rfl) rfl (fun Z hl0 X hr => ?_)
  unfold fJ0_isLatin1_aae02_s1
  refine ao_scomp (pc := 0) X dJ0_isLatin1_aae02_0 fs_RJ0_38 ?_
  refine ao_if_eq (pc := 3) (tgt := 17) X dJ0_isLatin1_aae02_3 (by decide) (fun _ => ?_) (fun _ => ?_)
  · refine ao_iconst (pc := 17) X dJ0_isLatin1_aae02_17 ic_0 ?_
    exact ao_zret (pc := 18) X hr rfl dJ0_isLatin1_aae02_18
  · refine ao_aload_n (pc := 6) X dJ0_isLatin1_aae02_6 rfl ?_
    refine ao_scod (pc := 7) X dJ0_isLatin1_aae02_7 (by decide) fs_RJ0_15 ?_
    refine ao_if_ne (pc := 10) (tgt := 17) X dJ0_isLatin1_aae02_10 (by decide) (fun _ => ?_) (fun _ => ?_)
    · refine ao_iconst (pc := 17) X dJ0_isLatin1_aae02_17 ic_0 ?_
      exact ao_zret (pc := 18) X hr rfl dJ0_isLatin1_aae02_18
    · refine ao_iconst (pc := 13) X dJ0_isLatin1_aae02_13 ic_1 ?_
      refine ao_goto (pc := 14) (tgt := 18) X dJ0_isLatin1_aae02_14 (by decide) ?_
      exact ao_zret (pc := 18) X hr rfl dJ0_isLatin1_aae02_18
def fJ0_coder_7d493_s1 (μ : Mem) : Option (Int32 × Mem) :=
  if (1 : Int32) = 0 then (some ((1 : Int32), μ))
  else some ((0 : Int32), μ)
set_option maxRecDepth 100000 in
set_option maxHeartbeats 4000000 in
theorem mJ0_coder_7d493_s1 {E : En} {l : Launch} (hI : Inj E) (μ : Mem) : MtI E l yJ0_coder_7d493 cJ0_coder_7d493 1 (some .byte) 1 [.ref (eSk E 1)] μ (fJ0_coder_7d493_s1 μ) := by
  refine mtI_of (own := RJ0) [(0, .ref (eSk E 1))] hI rfl (by decide) (Nat.le_of_ble_eq_true rfl) (Nat.le_of_ble_eq_true rfl) rfl (fun Z hl0 X hr => ?_)
  unfold fJ0_coder_7d493_s1
  refine ao_scomp (pc := 0) X dJ0_coder_7d493_0 fs_RJ0_38 ?_
  refine ao_if_eq (pc := 3) (tgt := 13) X dJ0_coder_7d493_3 (by decide) (fun _ => ?_) (fun _ => ?_)
  · refine ao_iconst (pc := 13) X dJ0_coder_7d493_13 ic_1 ?_
    exact ao_zret (pc := 14) X hr rfl dJ0_coder_7d493_14
  · refine ao_aload_n (pc := 6) X dJ0_coder_7d493_6 rfl ?_
    refine ao_scod (pc := 7) X dJ0_coder_7d493_7 (by decide) fs_RJ0_15 ?_
    refine ao_goto (pc := 10) (tgt := 14) X dJ0_coder_7d493_10 (by decide) ?_
    exact ao_zret (pc := 14) X hr rfl dJ0_coder_7d493_14
def fJ0_length_8abf5_s1 (μ : Mem) : Option (Int32 × Mem) :=
  bnd (fJ0_coder_7d493_s1 μ) fun r1 m2 =>
  some (((5 : Int32) >>> (r1 &&& 31)), m2)
set_option maxRecDepth 100000 in
set_option maxHeartbeats 4000000 in
theorem mJ0_length_8abf5_s1 {E : En} {l : Launch} (hI : Inj E) (μ : Mem) : MtI E l yJ0_length_8abf5 cJ0_length_8abf5 1 (some .int) 2 [.ref (eSk E 1)] μ (fJ0_length_8abf5_s1 μ) := by
  refine mtI_of (own := RJ0) [(0, .ref (eSk E 1))] hI rfl (by decide) (Nat.le_of_ble_eq_true rfl) (Nat.le_of_ble_eq_true rfl) rfl (fun Z hl0 X hr => ?_)
  unfold fJ0_length_8abf5_s1
  refine ao_aload_n (pc := 0) X dJ0_length_8abf5_0 rfl ?_
  refine ao_sval (pc := 1) X dJ0_length_8abf5_1 (by decide) fs_RJ0_9 ?_
  refine ao_slen (pc := 4) (v := (5 : Int32)) X dJ0_length_8abf5_4 (by decide) (by decide) ?_
  refine ao_aload_n (pc := 5) X dJ0_length_8abf5_5 rfl ?_
  refine ao_callT (pc := 6) (As := []) (st := [.int (5 : Int32)]) X hl0 dJ0_length_8abf5_6 (by decide) yv_J0_coder_7d493 ml_RJ0_335 (mJ0_coder_7d493_s1 hI μ) (Nat.le_of_ble_eq_true rfl) rfl rfl (Nat.le_of_ble_eq_true rfl) (fun r1 m2 => ?_)
  refine ao_ishr (pc := 9) X dJ0_length_8abf5_9 ?_
  exact ao_iret (pc := 10) X hr dJ0_length_8abf5_10
def fJ1_indexOfChar_4cfef_v1_b7 : Nat → Int32 → Int32 → Int32 → Mem → Option (Int32 × Mem)
  | 0, _, _, _, _ => none
  | n + 1, p3, p4, p5, μ =>
  if p3 ≤ p5 then (some ((-1 : Int32), μ))
  else gd (inb p5 5) (if (sch 1 p5) = p4 then (some (p5, μ))
    else fJ1_indexOfChar_4cfef_v1_b7 n p3 p4 (p5 + (1 : Int32)) μ)
set_option maxRecDepth 100000 in
set_option maxHeartbeats 4000000 in
theorem bJ1_indexOfChar_4cfef_v1_7 {E : En} {l : Launch} {Z : Zt} (hI : Inj E) (hl0 : lZ l Z) (X : Cx E Z cJ1_indexOfChar_4cfef RJ1 6 1) (hr : rtOf Z = some .int) : ∀ (n : Nat) (p3 : Int32) (p4 : Int32) (p5 : Int32) (μ : Mem), AO E Z 6 (QI E Z) 7 [(0, .ref (eSv E 1)), (3, .int p3), (4, .int p4), (5, .int p5)] [] μ (fJ1_indexOfChar_4cfef_v1_b7 n p3 p4 p5 μ) := by
  intro n
  induction n with
  | zero =>
    intros
    exact ao_none
  | succ n ih =>
    intro p3 p4 p5 μ
    rw [fJ1_indexOfChar_4cfef_v1_b7]
    refine ao_iload (pc := 7) X dJ1_indexOfChar_4cfef_7 rfl ?_
    refine ao_iload_n (pc := 9) X dJ1_indexOfChar_4cfef_9 rfl ?_
    refine ao_icmp_ge (pc := 10) (tgt := 31) X dJ1_indexOfChar_4cfef_10 (by decide) (fun _ => ?_) (fun _ => ?_)
    · refine ao_iconst (pc := 31) X dJ1_indexOfChar_4cfef_31 ic_m1 ?_
      exact ao_iret (pc := 32) X hr dJ1_indexOfChar_4cfef_32
    · refine ao_aload_n (pc := 13) X dJ1_indexOfChar_4cfef_13 rfl ?_
      refine ao_iload (pc := 14) X dJ1_indexOfChar_4cfef_14 rfl ?_
      refine ao_sbald (pc := 16) X dJ1_indexOfChar_4cfef_16 (by decide) rfl ?_
      refine ao_iload (pc := 17) X dJ1_indexOfChar_4cfef_17 rfl ?_
      refine ao_icmp_ne (pc := 19) (tgt := 25) X dJ1_indexOfChar_4cfef_19 (by decide) (fun _ => ?_) (fun _ => ?_)
      · refine ao_iinc (pc := 25) (k := 3) (v := p5 + (1 : Int32)) (lv' := [(5, .int (p5 + (1 : Int32))), (0, .ref (eSv E 1)), (3, .int p3), (4, .int p4)]) X dJ1_indexOfChar_4cfef_25 rfl (ii_ic ic_1) (by decide) rfl ?_
        refine ao_goto (pc := 28) (tgt := 7) X dJ1_indexOfChar_4cfef_28 (by decide) ?_
        refine ao_sub [1, 2, 3, 0] rfl ?_
        exact ih p3 p4 (p5 + (1 : Int32)) μ
      · refine ao_iload (pc := 22) X dJ1_indexOfChar_4cfef_22 rfl ?_
        exact ao_iret (pc := 24) X hr dJ1_indexOfChar_4cfef_24
def fJ1_indexOfChar_4cfef_v1 (v1 : Int32) (v2 : Int32) (v3 : Int32) (μ : Mem) : Option (Int32 × Mem) :=
  lt (Int8.toInt32 (Int32.toInt8 v1)) fun x1 =>
  fJ1_indexOfChar_4cfef_v1_b7 FU v3 x1 v2 μ
set_option maxRecDepth 100000 in
set_option maxHeartbeats 4000000 in
theorem mJ1_indexOfChar_4cfef_v1 {E : En} {l : Launch} (hI : Inj E) (v1 : Int32) (v2 : Int32) (v3 : Int32) (μ : Mem) : MtI E l yJ1_indexOfChar_4cfef cJ1_indexOfChar_4cfef 6 (some .int) 1 [.ref (eSv E 1), .int v1, .int v2, .int v3] μ (fJ1_indexOfChar_4cfef_v1 v1 v2 v3 μ) := by
  refine mtI_of (own := RJ1) [(0, .ref (eSv E 1)), (1, .int v1), (2, .int v2), (3, .int v3)] hI rfl (by decide) (Nat.le_of_ble_eq_true rfl) (Nat.le_of_ble_eq_true rfl) rfl (fun Z hl0 X hr => ?_)
  unfold fJ1_indexOfChar_4cfef_v1
  refine ao_iload_n (pc := 0) X dJ1_indexOfChar_4cfef_0 rfl ?_
  refine ao_i2b (pc := 1) X dJ1_indexOfChar_4cfef_1 ?_
  refine ao_ltI (fun x1 => ?_)
  refine ao_istore (pc := 2) (lv' := [(4, .int x1), (0, .ref (eSv E 1)), (1, .int v1), (2, .int v2), (3, .int v3)]) X dJ1_indexOfChar_4cfef_2 (by decide) rfl ?_
  refine ao_iload_n (pc := 4) X dJ1_indexOfChar_4cfef_4 rfl ?_
  refine ao_istore (pc := 5) (lv' := [(5, .int v2), (4, .int x1), (0, .ref (eSv E 1)), (1, .int v1), (2, .int v2), (3, .int v3)]) X dJ1_indexOfChar_4cfef_5 (by decide) rfl ?_
  refine ao_sub [2, 5, 1, 0] rfl ?_
  exact bJ1_indexOfChar_4cfef_v1_7 hI hl0 X hr FU v3 x1 v2 μ
def fJ1_indexOf_4cfef_v1 (v1 : Int32) (v2 : Int32) (v3 : Int32) (μ : Mem) : Option (Int32 × Mem) :=
  bnd (fJ1_canEncode_9a6ad v1 μ) fun r1 m2 =>
  if r1 = 0 then (some ((-1 : Int32), m2))
  else lt (imax v2 (0 : Int32)) fun x3 =>
    lt (imin v3 (5 : Int32)) fun x4 =>
    if x3 < x4 then (bnd (fJ1_indexOfChar_4cfef_v1 v1 x3 x4 m2) fun r5 m6 =>
      some (r5, m6))
    else some ((-1 : Int32), m2)
set_option maxRecDepth 100000 in
set_option maxHeartbeats 4000000 in
theorem mJ1_indexOf_4cfef_v1 {E : En} {l : Launch} (hI : Inj E) (v1 : Int32) (v2 : Int32) (v3 : Int32) (μ : Mem) : MtI E l yJ1_indexOf_4cfef cJ1_indexOf_4cfef 4 (some .int) 2 [.ref (eSv E 1), .int v1, .int v2, .int v3] μ (fJ1_indexOf_4cfef_v1 v1 v2 v3 μ) := by
  refine mtI_of (own := RJ1) [(0, .ref (eSv E 1)), (1, .int v1), (2, .int v2), (3, .int v3)] hI rfl (by decide) (Nat.le_of_ble_eq_true rfl) (Nat.le_of_ble_eq_true rfl) rfl (fun Z hl0 X hr => ?_)
  unfold fJ1_indexOf_4cfef_v1
  refine ao_iload_n (pc := 0) X dJ1_indexOf_4cfef_0 rfl ?_
  refine ao_callSI (pc := 1) (As := [.int v1]) (st := []) X hl0 dJ1_indexOf_4cfef_1 yv_J1_canEncode_9a6ad ml_RJ1_88 (mJ1_canEncode_9a6ad hI v1 μ) (Nat.le_of_ble_eq_true rfl) rfl rfl (Nat.le_of_ble_eq_true rfl) (fun r1 m2 => ?_)
  refine ao_if_ne (pc := 4) (tgt := 9) X dJ1_indexOf_4cfef_4 (by decide) (fun _ => ?_) (fun _ => ?_)
  · refine ao_iload_n (pc := 9) X dJ1_indexOf_4cfef_9 rfl ?_
    refine ao_iconst (pc := 10) X dJ1_indexOf_4cfef_10 ic_0 ?_
    refine ao_max (pc := 11) X dJ1_indexOf_4cfef_11 ml_RJ1_92 MaxW_ok (Nat.le_of_ble_eq_true rfl) ?_
    refine ao_ltI (fun x3 => ?_)
    refine ao_istore_n (pc := 14) (lv' := [(2, .int x3), (0, .ref (eSv E 1)), (1, .int v1), (3, .int v3)]) X dJ1_indexOf_4cfef_14 rfl (by decide) rfl ?_
    refine ao_iload_n (pc := 15) X dJ1_indexOf_4cfef_15 rfl ?_
    refine ao_aload_n (pc := 16) X dJ1_indexOf_4cfef_16 rfl ?_
    refine ao_slen (pc := 17) (v := (5 : Int32)) X dJ1_indexOf_4cfef_17 (by decide) (by decide) ?_
    refine ao_min (pc := 18) X dJ1_indexOf_4cfef_18 ml_RJ1_38 MinW_ok (Nat.le_of_ble_eq_true rfl) ?_
    refine ao_ltI (fun x4 => ?_)
    refine ao_istore_n (pc := 21) (lv' := [(3, .int x4), (2, .int x3), (0, .ref (eSv E 1)), (1, .int v1)]) X dJ1_indexOf_4cfef_21 rfl (by decide) rfl ?_
    refine ao_iload_n (pc := 22) X dJ1_indexOf_4cfef_22 rfl ?_
    refine ao_iload_n (pc := 23) X dJ1_indexOf_4cfef_23 rfl ?_
    refine ao_icmp_lt (pc := 24) (tgt := 29) X dJ1_indexOf_4cfef_24 (by decide) (fun _ => ?_) (fun _ => ?_)
    · refine ao_aload_n (pc := 29) X dJ1_indexOf_4cfef_29 rfl ?_
      refine ao_iload_n (pc := 30) X dJ1_indexOf_4cfef_30 rfl ?_
      refine ao_iload_n (pc := 31) X dJ1_indexOf_4cfef_31 rfl ?_
      refine ao_iload_n (pc := 32) X dJ1_indexOf_4cfef_32 rfl ?_
      refine ao_callSI (pc := 33) (As := [.ref (eSv E 1), .int v1, .int x3, .int x4]) (st := []) X hl0 dJ1_indexOf_4cfef_33 yv_J1_indexOfChar_4cfef ml_RJ1_95 (mJ1_indexOfChar_4cfef_v1 hI v1 x3 x4 m2) (Nat.le_of_ble_eq_true rfl) rfl rfl (Nat.le_of_ble_eq_true rfl) (fun r5 m6 => ?_)
      exact ao_iret (pc := 36) X hr dJ1_indexOf_4cfef_36
    · refine ao_iconst (pc := 27) X dJ1_indexOf_4cfef_27 ic_m1 ?_
      exact ao_iret (pc := 28) X hr dJ1_indexOf_4cfef_28
  · refine ao_iconst (pc := 7) X dJ1_indexOf_4cfef_7 ic_m1 ?_
    exact ao_iret (pc := 8) X hr dJ1_indexOf_4cfef_8
def fJ0_indexOf_7cf53_s1 (v1 : Int32) (v2 : Int32) (μ : Mem) : Option (Int32 × Mem) :=
  bnd (fJ0_isLatin1_aae02_s1 μ) fun r1 m2 =>
  if r1 = 0 then (bnd (fJ0_length_8abf5_s1 m2) fun r3 m4 =>
    none)
  else bnd (fJ0_length_8abf5_s1 m2) fun r5 m6 =>
    bnd (fJ1_indexOf_4cfef_v1 v1 v2 r5 m6) fun r7 m8 =>
    some (r7, m8)
set_option maxRecDepth 100000 in
set_option maxHeartbeats 4000000 in
theorem mJ0_indexOf_7cf53_s1 {E : En} {l : Launch} (hI : Inj E) (v1 : Int32) (v2 : Int32) (μ : Mem) : MtI E l yJ0_indexOf_7cf53 cJ0_indexOf_7cf53 3 (some .int) 3 [.ref (eSk E 1), .int v1, .int v2] μ (fJ0_indexOf_7cf53_s1 v1 v2 μ) := by
  refine mtI_of (own := RJ0) [(0, .ref (eSk E 1)), (1, .int v1), (2, .int v2)] hI rfl (by decide) (Nat.le_of_ble_eq_true rfl) (Nat.le_of_ble_eq_true rfl) rfl (fun Z hl0 X hr => ?_)
  unfold fJ0_indexOf_7cf53_s1
  refine ao_aload_n (pc := 0) X dJ0_indexOf_7cf53_0 rfl ?_
  refine ao_callT (pc := 1) (As := []) (st := []) X hl0 dJ0_indexOf_7cf53_1 (by decide) yv_J0_isLatin1_aae02 ml_RJ0_492 (mJ0_isLatin1_aae02_s1 hI μ) (Nat.le_of_ble_eq_true rfl) rfl rfl (Nat.le_of_ble_eq_true rfl) (fun r1 m2 => ?_)
  refine ao_if_eq (pc := 4) (tgt := 23) X dJ0_indexOf_7cf53_4 (by decide) (fun _ => ?_) (fun _ => ?_)
  · refine ao_aload_n (pc := 23) X dJ0_indexOf_7cf53_23 rfl ?_
    refine ao_sval (pc := 24) X dJ0_indexOf_7cf53_24 (by decide) fs_RJ0_9 ?_
    refine ao_iload_n (pc := 27) X dJ0_indexOf_7cf53_27 rfl ?_
    refine ao_iload_n (pc := 28) X dJ0_indexOf_7cf53_28 rfl ?_
    refine ao_aload_n (pc := 29) X dJ0_indexOf_7cf53_29 rfl ?_
    refine ao_callT (pc := 30) (As := []) (st := [.int v2, .int v1, .ref (eSv E 1)]) X hl0 dJ0_indexOf_7cf53_30 (by decide) yv_J0_length_8abf5 ml_RJ0_505 (mJ0_length_8abf5_s1 hI m2) (Nat.le_of_ble_eq_true rfl) rfl rfl (Nat.le_of_ble_eq_true rfl) (fun r3 m4 => ?_)
    exact ao_none
  · refine ao_aload_n (pc := 7) X dJ0_indexOf_7cf53_7 rfl ?_
    refine ao_sval (pc := 8) X dJ0_indexOf_7cf53_8 (by decide) fs_RJ0_9 ?_
    refine ao_iload_n (pc := 11) X dJ0_indexOf_7cf53_11 rfl ?_
    refine ao_iload_n (pc := 12) X dJ0_indexOf_7cf53_12 rfl ?_
    refine ao_aload_n (pc := 13) X dJ0_indexOf_7cf53_13 rfl ?_
    refine ao_callT (pc := 14) (As := []) (st := [.int v2, .int v1, .ref (eSv E 1)]) X hl0 dJ0_indexOf_7cf53_14 (by decide) yv_J0_length_8abf5 ml_RJ0_505 (mJ0_length_8abf5_s1 hI m2) (Nat.le_of_ble_eq_true rfl) rfl rfl (Nat.le_of_ble_eq_true rfl) (fun r5 m6 => ?_)
    refine ao_callSI (pc := 17) (As := [.ref (eSv E 1), .int v1, .int v2, .int r5]) (st := []) X hl0 dJ0_indexOf_7cf53_17 yv_J1_indexOf_4cfef ml_RJ0_637 (mJ1_indexOf_4cfef_v1 hI v1 v2 r5 m6) (Nat.le_of_ble_eq_true rfl) rfl rfl (Nat.le_of_ble_eq_true rfl) (fun r7 m8 => ?_)
    refine ao_goto (pc := 20) (tgt := 36) X dJ0_indexOf_7cf53_20 (by decide) ?_
    exact ao_iret (pc := 36) X hr dJ0_indexOf_7cf53_36
def fJ0_indexOf_0f7a4_s1 (v1 : Int32) (μ : Mem) : Option (Int32 × Mem) :=
  bnd (fJ0_indexOf_7cf53_s1 v1 (0 : Int32) μ) fun r1 m2 =>
  some (r1, m2)
set_option maxRecDepth 100000 in
set_option maxHeartbeats 4000000 in
theorem mJ0_indexOf_0f7a4_s1 {E : En} {l : Launch} (hI : Inj E) (v1 : Int32) (μ : Mem) : MtI E l yJ0_indexOf_0f7a4 cJ0_indexOf_0f7a4 2 (some .int) 4 [.ref (eSk E 1), .int v1] μ (fJ0_indexOf_0f7a4_s1 v1 μ) := by
  refine mtI_of (own := RJ0) [(0, .ref (eSk E 1)), (1, .int v1)] hI rfl (by decide) (Nat.le_of_ble_eq_true rfl) (Nat.le_of_ble_eq_true rfl) rfl (fun Z hl0 X hr => ?_)
  unfold fJ0_indexOf_0f7a4_s1
  refine ao_aload_n (pc := 0) X dJ0_indexOf_0f7a4_0 rfl ?_
  refine ao_iload_n (pc := 1) X dJ0_indexOf_0f7a4_1 rfl ?_
  refine ao_iconst (pc := 2) X dJ0_indexOf_0f7a4_2 ic_0 ?_
  refine ao_callT (pc := 3) (As := [.int v1, .int (0 : Int32)]) (st := []) X hl0 dJ0_indexOf_0f7a4_3 (by decide) yv_J0_indexOf_7cf53 ml_RJ0_633 (mJ0_indexOf_7cf53_s1 hI v1 (0 : Int32) μ) (Nat.le_of_ble_eq_true rfl) rfl rfl (Nat.le_of_ble_eq_true rfl) (fun r1 m2 => ?_)
  exact ao_iret (pc := 6) X hr dJ0_indexOf_0f7a4_6
def fX9_takesOneOf_1_s1 (μ : Mem) : Option (Int32 × Mem) :=
  if (gI μ 1 2) < (gI μ 1 3) then (gd (inb (gI μ 1 2) 80) (bnd (fJ0_indexOf_0f7a4_s1 (gI μ 2 (ix (gI μ 1 2))) μ) fun r1 m2 =>
    if r1 < 0 then (some (r1, m2))
    else lt (sI m2 1 2 ((gI m2 1 2) + (1 : Int32))) fun m3 =>
      some (r1, m3)))
  else some ((-1 : Int32), μ)
set_option maxRecDepth 100000 in
set_option maxHeartbeats 4000000 in
theorem mX9_takesOneOf_1_s1 {E : En} {l : Launch} (hI : Inj E) (μ : Mem) : MtI E l yX9_takesOneOf cX9_takesOneOf 3 (some .int) 5 [.ref (eAd E 1), .ref (eSk E 1)] μ (fX9_takesOneOf_1_s1 μ) := by
  refine mtI_of (own := RX9) [(0, .ref (eAd E 1)), (1, .ref (eSk E 1))] hI rfl (by decide) (Nat.le_of_ble_eq_true rfl) (Nat.le_of_ble_eq_true rfl) rfl (fun Z hl0 X hr => ?_)
  unfold fX9_takesOneOf_1_s1
  refine ao_aload_n (pc := 0) X dX9_takesOneOf_0 rfl ?_
  refine ao_getI (pc := 1) X dX9_takesOneOf_1 fl_RX9_19 sf_1_2 ?_
  refine ao_aload_n (pc := 4) X dX9_takesOneOf_4 rfl ?_
  refine ao_getI (pc := 5) X dX9_takesOneOf_5 fl_RX9_22 sf_1_3 ?_
  refine ao_icmp_lt (pc := 8) (tgt := 13) X dX9_takesOneOf_8 (by decide) (fun _ => ?_) (fun _ => ?_)
  · refine ao_aload_n (pc := 13) X dX9_takesOneOf_13 rfl ?_
    refine ao_aload_n (pc := 14) X dX9_takesOneOf_14 rfl ?_
    refine ao_getR (pc := 15) X dX9_takesOneOf_15 fl_RX9_11 sf_1_0 ?_
    refine ao_aload_n (pc := 18) X dX9_takesOneOf_18 rfl ?_
    refine ao_getI (pc := 19) X dX9_takesOneOf_19 fl_RX9_19 sf_1_2 ?_
    refine ao_cald (pc := 22) X dX9_takesOneOf_22 sa_2 ?_
    refine ao_callT (pc := 23) (As := [.int (gI μ 2 (ix (gI μ 1 2)))]) (st := []) X hl0 dX9_takesOneOf_23 (by decide) yv_J0_indexOf_0f7a4 ml_RX9_34 (mJ0_indexOf_0f7a4_s1 hI (gI μ 2 (ix (gI μ 1 2))) μ) (Nat.le_of_ble_eq_true rfl) rfl rfl (Nat.le_of_ble_eq_true rfl) (fun r1 m2 => ?_)
    refine ao_istore_n (pc := 26) (lv' := [(2, .int r1), (0, .ref (eAd E 1)), (1, .ref (eSk E 1))]) X dX9_takesOneOf_26 rfl (by decide) rfl ?_
    refine ao_iload_n (pc := 27) X dX9_takesOneOf_27 rfl ?_
    refine ao_if_lt (pc := 28) (tgt := 41) X dX9_takesOneOf_28 (by decide) (fun _ => ?_) (fun _ => ?_)
    · refine ao_iload_n (pc := 41) X dX9_takesOneOf_41 rfl ?_
      exact ao_iret (pc := 42) X hr dX9_takesOneOf_42
    · refine ao_aload_n (pc := 31) X dX9_takesOneOf_31 rfl ?_
      refine ao_dup (pc := 32) X dX9_takesOneOf_32 rfl ?_
      refine ao_getI (pc := 33) X dX9_takesOneOf_33 fl_RX9_19 sf_1_2 ?_
      refine ao_iconst (pc := 36) X dX9_takesOneOf_36 ic_1 ?_
      refine ao_iadd (pc := 37) X dX9_takesOneOf_37 ?_
      refine ao_putI (pc := 38) X dX9_takesOneOf_38 fp_RX9_19 sf_1_2 ?_
      refine ao_lt (fun m3 => ?_)
      refine ao_iload_n (pc := 41) X dX9_takesOneOf_41 rfl ?_
      exact ao_iret (pc := 42) X hr dX9_takesOneOf_42
  · refine ao_iconst (pc := 11) X dX9_takesOneOf_11 ic_m1 ?_
    exact ao_iret (pc := 12) X hr dX9_takesOneOf_12
def fX0_readsOne_15_1_b116 (p2 : Int32) (q0 : Int32) (q1 : Int32) (μ : Mem) : Option (Int32 × Mem) :=
  gd (inb q1 20) (lt (sI μ 18 (ix q1) q0) fun m9 =>
  gd (inb p2 20) (if (gI m9 18 (ix p2)) < 0 then (some ((0 : Int32), m9))
  else some ((1 : Int32), m9)))
set_option maxRecDepth 100000 in
set_option maxHeartbeats 4000000 in
theorem bX0_readsOne_15_1_116 {E : En} {l : Launch} {Z : Zt} (hI : Inj E) (hl0 : lZ l Z) (X : Cx E Z cX0_readsOne RX0 4 6) (hr : rtOf Z = some .boolean) (p2 : Int32) (q0 : Int32) (q1 : Int32) (μ : Mem) : AO E Z 4 (QI E Z) 116 [(0, .ref (eAd E 15)), (2, .int p2)] [.int q0, .int q1, .ref (eAd E 18)] μ (fX0_readsOne_15_1_b116 p2 q0 q1 μ) := by
  unfold fX0_readsOne_15_1_b116
  refine ao_iast (pc := 116) X dX0_readsOne_116 sa_18 ?_
  refine ao_lt (fun m9 => ?_)
  refine ao_aload_n (pc := 117) X dX0_readsOne_117 rfl ?_
  refine ao_getR (pc := 118) X dX0_readsOne_118 fl_RX0_16 sf_15_2 ?_
  refine ao_iload_n (pc := 121) X dX0_readsOne_121 rfl ?_
  refine ao_iald (pc := 122) X dX0_readsOne_122 sa_18 ?_
  refine ao_if_lt (pc := 123) (tgt := 130) X dX0_readsOne_123 (by decide) (fun _ => ?_) (fun _ => ?_)
  · refine ao_iconst (pc := 130) X dX0_readsOne_130 ic_0 ?_
    exact ao_zret (pc := 131) X hr rfl dX0_readsOne_131
  · refine ao_iconst (pc := 126) X dX0_readsOne_126 ic_1 ?_
    refine ao_goto (pc := 127) (tgt := 131) X dX0_readsOne_127 (by decide) ?_
    exact ao_zret (pc := 131) X hr rfl dX0_readsOne_131
def fX0_readsOne_15_1_b97 (p2 : Int32) (q0 : Int32) (μ : Mem) : Option (Int32 × Mem) :=
  if q0 = 0 then (fX0_readsOne_15_1_b116 p2 (0 : Int32) p2 μ)
  else bnd (fX9_number_1 (2 : Int32) μ) fun r7 m8 =>
    fX0_readsOne_15_1_b116 p2 r7 p2 m8
set_option maxRecDepth 100000 in
set_option maxHeartbeats 4000000 in
theorem bX0_readsOne_15_1_97 {E : En} {l : Launch} {Z : Zt} (hI : Inj E) (hl0 : lZ l Z) (X : Cx E Z cX0_readsOne RX0 4 6) (hr : rtOf Z = some .boolean) (p2 : Int32) (q0 : Int32) (μ : Mem) : AO E Z 4 (QI E Z) 97 [(0, .ref (eAd E 15)), (1, .ref (eAd E 1)), (2, .int p2)] [.int q0] μ (fX0_readsOne_15_1_b97 p2 q0 μ) := by
  unfold fX0_readsOne_15_1_b97
  refine ao_istore_n (pc := 97) (lv' := [(3, .int q0), (0, .ref (eAd E 15)), (1, .ref (eAd E 1)), (2, .int p2)]) X dX0_readsOne_97 rfl (by decide) rfl ?_
  refine ao_aload_n (pc := 98) X dX0_readsOne_98 rfl ?_
  refine ao_getR (pc := 99) X dX0_readsOne_99 fl_RX0_16 sf_15_2 ?_
  refine ao_iload_n (pc := 102) X dX0_readsOne_102 rfl ?_
  refine ao_iload_n (pc := 103) X dX0_readsOne_103 rfl ?_
  refine ao_if_eq (pc := 104) (tgt := 115) X dX0_readsOne_104 (by decide) (fun _ => ?_) (fun _ => ?_)
  · refine ao_iconst (pc := 115) X dX0_readsOne_115 ic_0 ?_
    refine ao_sub [1, 3] rfl ?_
    exact bX0_readsOne_15_1_116 hI hl0 X hr p2 (0 : Int32) p2 μ
  · refine ao_aload_n (pc := 107) X dX0_readsOne_107 rfl ?_
    refine ao_iconst (pc := 108) X dX0_readsOne_108 ic_2 ?_
    refine ao_callVI (pc := 109) (As := [.int (2 : Int32)]) (st := [.int p2, .ref (eAd E 18)]) X hl0 dX0_readsOne_109 yv_X9_number so_1 ml_RX0_31 (mX9_number_1 hI (2 : Int32) μ) (Nat.le_of_ble_eq_true rfl) rfl rfl (Nat.le_of_ble_eq_true rfl) (fun r7 m8 => ?_)
    refine ao_goto (pc := 112) (tgt := 116) X dX0_readsOne_112 (by decide) ?_
    refine ao_sub [1, 3] rfl ?_
    exact bX0_readsOne_15_1_116 hI hl0 X hr p2 r7 p2 m8
def fX0_readsOne_15_1_b96 (p2 : Int32) (μ : Mem) : Option (Int32 × Mem) :=
  fX0_readsOne_15_1_b97 p2 (0 : Int32) μ
set_option maxRecDepth 100000 in
set_option maxHeartbeats 4000000 in
theorem bX0_readsOne_15_1_96 {E : En} {l : Launch} {Z : Zt} (hI : Inj E) (hl0 : lZ l Z) (X : Cx E Z cX0_readsOne RX0 4 6) (hr : rtOf Z = some .boolean) (p2 : Int32) (μ : Mem) : AO E Z 4 (QI E Z) 96 [(0, .ref (eAd E 15)), (1, .ref (eAd E 1)), (2, .int p2)] [] μ (fX0_readsOne_15_1_b96 p2 μ) := by
  unfold fX0_readsOne_15_1_b96
  refine ao_iconst (pc := 96) X dX0_readsOne_96 ic_0 ?_
  refine ao_sub [0, 1, 2] rfl ?_
  exact bX0_readsOne_15_1_97 hI hl0 X hr p2 (0 : Int32) μ
def fX0_readsOne_15_1_b60 (p2 : Int32) (q0 : Int32) (q1 : Int32) (μ : Mem) : Option (Int32 × Mem) :=
  gd (inb q1 20) (lt (sI μ 17 (ix q1) q0) fun m6 =>
  gd (inb p2 20) (if 0 ≤ (gI m6 17 (ix p2)) then (gd (inb p2 20) (if (gI m6 16 (ix p2)) = (2 : Int32) then (fX0_readsOne_15_1_b96 p2 m6)
    else gd (inb p2 20) (if (gI m6 16 (ix p2)) = (3 : Int32) then (fX0_readsOne_15_1_b96 p2 m6)
      else fX0_readsOne_15_1_b97 p2 (1 : Int32) m6)))
  else some ((0 : Int32), m6)))
set_option maxRecDepth 100000 in
set_option maxHeartbeats 4000000 in
theorem bX0_readsOne_15_1_60 {E : En} {l : Launch} {Z : Zt} (hI : Inj E) (hl0 : lZ l Z) (X : Cx E Z cX0_readsOne RX0 4 6) (hr : rtOf Z = some .boolean) (p2 : Int32) (q0 : Int32) (q1 : Int32) (μ : Mem) : AO E Z 4 (QI E Z) 60 [(0, .ref (eAd E 15)), (1, .ref (eAd E 1)), (2, .int p2)] [.int q0, .int q1, .ref (eAd E 17)] μ (fX0_readsOne_15_1_b60 p2 q0 q1 μ) := by
  unfold fX0_readsOne_15_1_b60
  refine ao_iast (pc := 60) X dX0_readsOne_60 sa_17 ?_
  refine ao_lt (fun m6 => ?_)
  refine ao_aload_n (pc := 61) X dX0_readsOne_61 rfl ?_
  refine ao_getR (pc := 62) X dX0_readsOne_62 fl_RX0_13 sf_15_1 ?_
  refine ao_iload_n (pc := 65) X dX0_readsOne_65 rfl ?_
  refine ao_iald (pc := 66) X dX0_readsOne_66 sa_17 ?_
  refine ao_if_ge (pc := 67) (tgt := 72) X dX0_readsOne_67 (by decide) (fun _ => ?_) (fun _ => ?_)
  · refine ao_aload_n (pc := 72) X dX0_readsOne_72 rfl ?_
    refine ao_getR (pc := 73) X dX0_readsOne_73 fl_RX0_9 sf_15_0 ?_
    refine ao_iload_n (pc := 76) X dX0_readsOne_76 rfl ?_
    refine ao_iald (pc := 77) X dX0_readsOne_77 sa_16 ?_
    refine ao_iconst (pc := 78) X dX0_readsOne_78 ic_2 ?_
    refine ao_icmp_eq (pc := 79) (tgt := 96) X dX0_readsOne_79 (by decide) (fun _ => ?_) (fun _ => ?_)
    · refine ao_sub [0, 1, 2] rfl ?_
      exact bX0_readsOne_15_1_96 hI hl0 X hr p2 m6
    · refine ao_aload_n (pc := 82) X dX0_readsOne_82 rfl ?_
      refine ao_getR (pc := 83) X dX0_readsOne_83 fl_RX0_9 sf_15_0 ?_
      refine ao_iload_n (pc := 86) X dX0_readsOne_86 rfl ?_
      refine ao_iald (pc := 87) X dX0_readsOne_87 sa_16 ?_
      refine ao_iconst (pc := 88) X dX0_readsOne_88 ic_3 ?_
      refine ao_icmp_eq (pc := 89) (tgt := 96) X dX0_readsOne_89 (by decide) (fun _ => ?_) (fun _ => ?_)
      · refine ao_sub [0, 1, 2] rfl ?_
        exact bX0_readsOne_15_1_96 hI hl0 X hr p2 m6
      · refine ao_iconst (pc := 92) X dX0_readsOne_92 ic_1 ?_
        refine ao_goto (pc := 93) (tgt := 97) X dX0_readsOne_93 (by decide) ?_
        refine ao_sub [0, 1, 2] rfl ?_
        exact bX0_readsOne_15_1_97 hI hl0 X hr p2 (1 : Int32) m6
  · refine ao_iconst (pc := 70) X dX0_readsOne_70 ic_0 ?_
    exact ao_zret (pc := 71) X hr rfl dX0_readsOne_71
def fX0_readsOne_15_1 (v2 : Int32) (μ : Mem) : Option (Int32 × Mem) :=
  if v2 < 0 then (some ((0 : Int32), μ))
  else if v2 < (20 : Int32) then (bnd (fX9_takesOneOf_1_s1 μ) fun r1 m2 =>
      gd (inb v2 20) (lt (sI m2 16 (ix v2) r1) fun m3 =>
      gd (inb v2 20) (if 0 ≤ (gI m3 16 (ix v2)) then (gd (inb v2 20) (if (gI m3 16 (ix v2)) = (4 : Int32) then (fX0_readsOne_15_1_b60 v2 (0 : Int32) v2 m3)
        else bnd (fX9_digit_1 (10 : Int32) m3) fun r4 m5 =>
          fX0_readsOne_15_1_b60 v2 r4 v2 m5))
      else some ((0 : Int32), m3))))
    else some ((0 : Int32), μ)
set_option maxRecDepth 100000 in
set_option maxHeartbeats 4000000 in
theorem mX0_readsOne_15_1 {E : En} {l : Launch} (hI : Inj E) (v2 : Int32) (μ : Mem) : MtI E l yX0_readsOne cX0_readsOne 4 (some .boolean) 6 [.ref (eAd E 15), .ref (eAd E 1), .int v2] μ (fX0_readsOne_15_1 v2 μ) := by
  refine mtI_of (own := RX0) [(0, .ref (eAd E 15)), (1, .ref (eAd E 1)), (2, .int v2)] hI rfl (by decide) (Nat.le_of_ble_eq_true rfl) (Nat.le_of_ble_eq_true rfl) rfl (fun Z hl0 X hr => ?_)
  unfold fX0_readsOne_15_1
  refine ao_iload_n (pc := 0) X dX0_readsOne_0 rfl ?_
  refine ao_if_lt (pc := 1) (tgt := 10) X dX0_readsOne_1 (by decide) (fun _ => ?_) (fun _ => ?_)
  · refine ao_iconst (pc := 10) X dX0_readsOne_10 ic_0 ?_
    exact ao_zret (pc := 11) X hr rfl dX0_readsOne_11
  · refine ao_iload_n (pc := 4) X dX0_readsOne_4 rfl ?_
    refine ao_bipush (pc := 5) X dX0_readsOne_5 bp_20 ?_
    refine ao_icmp_lt (pc := 7) (tgt := 12) X dX0_readsOne_7 (by decide) (fun _ => ?_) (fun _ => ?_)
    · refine ao_aload_n (pc := 12) X dX0_readsOne_12 rfl ?_
      refine ao_getR (pc := 13) X dX0_readsOne_13 fl_RX0_9 sf_15_0 ?_
      refine ao_iload_n (pc := 16) X dX0_readsOne_16 rfl ?_
      refine ao_aload_n (pc := 17) X dX0_readsOne_17 rfl ?_
      refine ao_ldcS (pc := 18) (tx := "loajn") (i := 1) X dX0_readsOne_18 (List.mem_of_getElem? (i := 1) rfl) ?_
      refine ao_callVI (pc := 20) (As := [.ref (eSk E 1)]) (st := [.int v2, .ref (eAd E 16)]) X hl0 dX0_readsOne_20 yv_X9_takesOneOf so_1 ml_RX0_21 (mX9_takesOneOf_1_s1 hI μ) (Nat.le_of_ble_eq_true rfl) rfl rfl (Nat.le_of_ble_eq_true rfl) (fun r1 m2 => ?_)
      refine ao_iast (pc := 23) X dX0_readsOne_23 sa_16 ?_
      refine ao_lt (fun m3 => ?_)
      refine ao_aload_n (pc := 24) X dX0_readsOne_24 rfl ?_
      refine ao_getR (pc := 25) X dX0_readsOne_25 fl_RX0_9 sf_15_0 ?_
      refine ao_iload_n (pc := 28) X dX0_readsOne_28 rfl ?_
      refine ao_iald (pc := 29) X dX0_readsOne_29 sa_16 ?_
      refine ao_if_ge (pc := 30) (tgt := 35) X dX0_readsOne_30 (by decide) (fun _ => ?_) (fun _ => ?_)
      · refine ao_aload_n (pc := 35) X dX0_readsOne_35 rfl ?_
        refine ao_getR (pc := 36) X dX0_readsOne_36 fl_RX0_13 sf_15_1 ?_
        refine ao_iload_n (pc := 39) X dX0_readsOne_39 rfl ?_
        refine ao_aload_n (pc := 40) X dX0_readsOne_40 rfl ?_
        refine ao_getR (pc := 41) X dX0_readsOne_41 fl_RX0_9 sf_15_0 ?_
        refine ao_iload_n (pc := 44) X dX0_readsOne_44 rfl ?_
        refine ao_iald (pc := 45) X dX0_readsOne_45 sa_16 ?_
        refine ao_iconst (pc := 46) X dX0_readsOne_46 ic_4 ?_
        refine ao_icmp_ne (pc := 47) (tgt := 54) X dX0_readsOne_47 (by decide) (fun _ => ?_) (fun _ => ?_)
        · refine ao_aload_n (pc := 54) X dX0_readsOne_54 rfl ?_
          refine ao_bipush (pc := 55) X dX0_readsOne_55 bp_10 ?_
          refine ao_callVI (pc := 57) (As := [.int (10 : Int32)]) (st := [.int v2, .ref (eAd E 17)]) X hl0 dX0_readsOne_57 yv_X9_digit so_1 ml_RX0_27 (mX9_digit_1 hI (10 : Int32) m3) (Nat.le_of_ble_eq_true rfl) rfl rfl (Nat.le_of_ble_eq_true rfl) (fun r4 m5 => ?_)
          refine ao_sub [0, 1, 2] rfl ?_
          exact bX0_readsOne_15_1_60 hI hl0 X hr v2 r4 v2 m5
        · refine ao_iconst (pc := 50) X dX0_readsOne_50 ic_0 ?_
          refine ao_goto (pc := 51) (tgt := 60) X dX0_readsOne_51 (by decide) ?_
          refine ao_sub [0, 1, 2] rfl ?_
          exact bX0_readsOne_15_1_60 hI hl0 X hr v2 (0 : Int32) v2 m3
      · refine ao_iconst (pc := 33) X dX0_readsOne_33 ic_0 ?_
        exact ao_zret (pc := 34) X hr rfl dX0_readsOne_34
    · refine ao_iconst (pc := 10) X dX0_readsOne_10 ic_0 ?_
      exact ao_zret (pc := 11) X hr rfl dX0_readsOne_11
def fX5_readAll_15_1_b16 : Nat → Int32 → Mem → Option (Int32 × Mem)
  | 0, _, _ => none
  | n + 1, p3, μ =>
  if (80 : Int32) ≤ p3 then (bnd (fX9_wrong_1 μ) fun r5 m6 =>
    some (r5, m6))
  else bnd (fX0_readsOne_15_1 p3 μ) fun r7 m8 =>
    if r7 = 0 then (bnd (fX9_wrong_1 m8) fun r16 m17 =>
      some (r16, m17))
    else bnd (fX9_isRead_1 m8) fun r9 m10 =>
      if r9 = 0 then (bnd (fX9_takes_1 (59 : Int32) m10) fun r11 m12 =>
        if r11 = 0 then (bnd (fX9_wrong_1 m12) fun r14 m15 =>
          some (r14, m15))
        else fX5_readAll_15_1_b16 n (p3 + (1 : Int32)) m12)
      else some ((p3 + (1 : Int32)), m10)
set_option maxRecDepth 100000 in
set_option maxHeartbeats 4000000 in
theorem bX5_readAll_15_1_16 {E : En} {l : Launch} {Z : Zt} (hI : Inj E) (hl0 : lZ l Z) (X : Cx E Z cX5_readAll RX5 4 7) (hr : rtOf Z = some .int) : ∀ (n : Nat) (p3 : Int32) (μ : Mem), AO E Z 4 (QI E Z) 16 [(0, .ref (eAd E 15)), (1, .ref (eAd E 1)), (3, .int p3)] [] μ (fX5_readAll_15_1_b16 n p3 μ) := by
  intro n
  induction n with
  | zero =>
    intros
    exact ao_none
  | succ n ih =>
    intro p3 μ
    rw [fX5_readAll_15_1_b16]
    refine ao_iload_n (pc := 16) X dX5_readAll_16 rfl ?_
    refine ao_bipush (pc := 17) X dX5_readAll_17 bp_80 ?_
    refine ao_icmp_ge (pc := 19) (tgt := 67) X dX5_readAll_19 (by decide) (fun _ => ?_) (fun _ => ?_)
    · refine ao_aload_n (pc := 67) X dX5_readAll_67 rfl ?_
      refine ao_callVI (pc := 68) (As := []) (st := []) X hl0 dX5_readAll_68 yv_X9_wrong so_1 ml_RX5_23 (mX9_wrong_1 hI μ) (Nat.le_of_ble_eq_true rfl) rfl rfl (Nat.le_of_ble_eq_true rfl) (fun r5 m6 => ?_)
      exact ao_iret (pc := 71) X hr dX5_readAll_71
    · refine ao_aload_n (pc := 22) X dX5_readAll_22 rfl ?_
      refine ao_aload_n (pc := 23) X dX5_readAll_23 rfl ?_
      refine ao_iload_n (pc := 24) X dX5_readAll_24 rfl ?_
      refine ao_callU (pc := 25) (As := [.ref (eAd E 1), .int p3]) (st := []) X hl0 dX5_readAll_25 yu_RX5_17_RX0 so_15 (mX0_readsOne_15_1 hI p3 μ) (Nat.le_of_ble_eq_true rfl) rfl rfl (Nat.le_of_ble_eq_true rfl) (fun r7 m8 => ?_)
      refine ao_if_ne (pc := 28) (tgt := 36) X dX5_readAll_28 (by decide) (fun _ => ?_) (fun _ => ?_)
      · refine ao_aload_n (pc := 36) X dX5_readAll_36 rfl ?_
        refine ao_callVI (pc := 37) (As := []) (st := []) X hl0 dX5_readAll_37 yv_X9_isRead so_1 ml_RX5_13 (mX9_isRead_1 hI m8) (Nat.le_of_ble_eq_true rfl) rfl rfl (Nat.le_of_ble_eq_true rfl) (fun r9 m10 => ?_)
        refine ao_if_eq (pc := 40) (tgt := 47) X dX5_readAll_40 (by decide) (fun _ => ?_) (fun _ => ?_)
        · refine ao_aload_n (pc := 47) X dX5_readAll_47 rfl ?_
          refine ao_bipush (pc := 48) X dX5_readAll_48 bp_59 ?_
          refine ao_callVI (pc := 50) (As := [.int (59 : Int32)]) (st := []) X hl0 dX5_readAll_50 yv_X9_takes so_1 ml_RX5_27 (mX9_takes_1 hI (59 : Int32) m10) (Nat.le_of_ble_eq_true rfl) rfl rfl (Nat.le_of_ble_eq_true rfl) (fun r11 m12 => ?_)
          refine ao_if_ne (pc := 53) (tgt := 61) X dX5_readAll_53 (by decide) (fun _ => ?_) (fun _ => ?_)
          · refine ao_iinc (pc := 61) (k := 2) (v := p3 + (1 : Int32)) (lv' := [(3, .int (p3 + (1 : Int32))), (0, .ref (eAd E 15)), (1, .ref (eAd E 1))]) X dX5_readAll_61 rfl (ii_ic ic_1) (by decide) rfl ?_
            refine ao_goto (pc := 64) (tgt := 16) X dX5_readAll_64 (by decide) ?_
            refine ao_sub [1, 2, 0] rfl ?_
            exact ih (p3 + (1 : Int32)) m12
          · refine ao_aload_n (pc := 56) X dX5_readAll_56 rfl ?_
            refine ao_callVI (pc := 57) (As := []) (st := []) X hl0 dX5_readAll_57 yv_X9_wrong so_1 ml_RX5_23 (mX9_wrong_1 hI m12) (Nat.le_of_ble_eq_true rfl) rfl rfl (Nat.le_of_ble_eq_true rfl) (fun r14 m15 => ?_)
            exact ao_iret (pc := 60) X hr dX5_readAll_60
        · refine ao_iload_n (pc := 43) X dX5_readAll_43 rfl ?_
          refine ao_iconst (pc := 44) X dX5_readAll_44 ic_1 ?_
          refine ao_iadd (pc := 45) X dX5_readAll_45 ?_
          exact ao_iret (pc := 46) X hr dX5_readAll_46
      · refine ao_aload_n (pc := 31) X dX5_readAll_31 rfl ?_
        refine ao_callVI (pc := 32) (As := []) (st := []) X hl0 dX5_readAll_32 yv_X9_wrong so_1 ml_RX5_23 (mX9_wrong_1 hI m8) (Nat.le_of_ble_eq_true rfl) rfl rfl (Nat.le_of_ble_eq_true rfl) (fun r16 m17 => ?_)
        exact ao_iret (pc := 35) X hr dX5_readAll_35
def fX5_readAll_15_1 (v2 : Int32) (μ : Mem) : Option (Int32 × Mem) :=
  bnd (fX9_open_1 v2 μ) fun r1 m2 =>
  bnd (fX9_isRead_1 m2) fun r3 m4 =>
  if r3 = 0 then (fX5_readAll_15_1_b16 FU (0 : Int32) m4)
  else some ((0 : Int32), m4)
set_option maxRecDepth 100000 in
set_option maxHeartbeats 4000000 in
theorem mX5_readAll_15_1 {E : En} {l : Launch} (hI : Inj E) (v2 : Int32) (μ : Mem) : MtI E l yX5_readAll cX5_readAll 4 (some .int) 7 [.ref (eAd E 15), .ref (eAd E 1), .int v2] μ (fX5_readAll_15_1 v2 μ) := by
  refine mtI_of (own := RX5) [(0, .ref (eAd E 15)), (1, .ref (eAd E 1)), (2, .int v2)] hI rfl (by decide) (Nat.le_of_ble_eq_true rfl) (Nat.le_of_ble_eq_true rfl) rfl (fun Z hl0 X hr => ?_)
  unfold fX5_readAll_15_1
  refine ao_aload_n (pc := 0) X dX5_readAll_0 rfl ?_
  refine ao_iload_n (pc := 1) X dX5_readAll_1 rfl ?_
  refine ao_callVV (pc := 2) (As := [.int v2]) (st := []) X hl0 dX5_readAll_2 yv_X9_open so_1 ml_RX5_7 (mX9_open_1 hI v2 μ) (Nat.le_of_ble_eq_true rfl) rfl rfl (Nat.le_of_ble_eq_true rfl) (fun r1 m2 => ?_)
  refine ao_aload_n (pc := 5) X dX5_readAll_5 rfl ?_
  refine ao_callVI (pc := 6) (As := []) (st := []) X hl0 dX5_readAll_6 yv_X9_isRead so_1 ml_RX5_13 (mX9_isRead_1 hI m2) (Nat.le_of_ble_eq_true rfl) rfl rfl (Nat.le_of_ble_eq_true rfl) (fun r3 m4 => ?_)
  refine ao_if_eq (pc := 9) (tgt := 14) X dX5_readAll_9 (by decide) (fun _ => ?_) (fun _ => ?_)
  · refine ao_iconst (pc := 14) X dX5_readAll_14 ic_0 ?_
    refine ao_istore_n (pc := 15) (lv' := [(3, .int (0 : Int32)), (0, .ref (eAd E 15)), (1, .ref (eAd E 1)), (2, .int v2)]) X dX5_readAll_15 rfl (by decide) rfl ?_
    refine ao_sub [1, 2, 0] rfl ?_
    exact bX5_readAll_15_1_16 hI hl0 X hr FU (0 : Int32) m4
  · refine ao_iconst (pc := 12) X dX5_readAll_12 ic_0 ?_
    exact ao_iret (pc := 13) X hr dX5_readAll_13
def fX11_assize_0_b95 (p2 : Int32) (q0 : Int64) (μ : Mem) : Option (Int32 × Mem) :=
  bnd (fX7_tell__3 q0 (Int32.toInt64 (gI μ 33 4)) μ) fun r12 m13 =>
  some (p2, m13)
set_option maxRecDepth 100000 in
set_option maxHeartbeats 4000000 in
theorem bX11_assize_0_95 {E : En} {l : Launch} {Z : Zt} (hI : Inj E) (hl0 : lZ l Z) (X : Cx E Z cX11_assize RX11 3 8) (hr : rtOf Z = some .int) (p2 : Int32) (q0 : Int64) (μ : Mem) : AO E Z 3 (QI E Z) 95 [(0, .ref (eAd E 0)), (2, .int p2)] [.long q0, .ref (eAd E 3)] μ (fX11_assize_0_b95 p2 q0 μ) := by
  unfold fX11_assize_0_b95
  refine ao_aload_n (pc := 95) X dX11_assize_95 rfl ?_
  refine ao_getR (pc := 96) X dX11_assize_96 fl_RX11_65 sf_0_7 ?_
  refine ao_getI (pc := 99) X dX11_assize_99 fl_RX11_206 sf_33_4 ?_
  refine ao_i2l (pc := 102) X dX11_assize_102 ?_
  refine ao_callVV (pc := 103) (As := [.long q0, .long (Int32.toInt64 (gI μ 33 4))]) (st := []) X hl0 dX11_assize_103 yv_X7_tell_ so_3 ml_RX11_244 (mX7_tell__3 hI q0 (Int32.toInt64 (gI μ 33 4)) μ) (Nat.le_of_ble_eq_true rfl) rfl rfl (Nat.le_of_ble_eq_true rfl) (fun r12 m13 => ?_)
  refine ao_iload_n (pc := 106) X dX11_assize_106 rfl ?_
  exact ao_iret (pc := 107) X hr dX11_assize_107
def fX11_assize_0_b81 (p1 : Int32) (p2 : Int32) (μ : Mem) : Option (Int32 × Mem) :=
  if p1 ≤ p2 then (fX11_assize_0_b95 p2 (0 : Int64) μ)
  else fX11_assize_0_b95 p2 (1 : Int64) μ
set_option maxRecDepth 100000 in
set_option maxHeartbeats 4000000 in
theorem bX11_assize_0_81 {E : En} {l : Launch} {Z : Zt} (hI : Inj E) (hl0 : lZ l Z) (X : Cx E Z cX11_assize RX11 3 8) (hr : rtOf Z = some .int) (p1 : Int32) (p2 : Int32) (μ : Mem) : AO E Z 3 (QI E Z) 81 [(0, .ref (eAd E 0)), (1, .int p1), (2, .int p2)] [] μ (fX11_assize_0_b81 p1 p2 μ) := by
  unfold fX11_assize_0_b81
  refine ao_aload_n (pc := 81) X dX11_assize_81 rfl ?_
  refine ao_getR (pc := 82) X dX11_assize_82 fl_RX11_19 sf_0_1 ?_
  refine ao_iload_n (pc := 85) X dX11_assize_85 rfl ?_
  refine ao_iload_n (pc := 86) X dX11_assize_86 rfl ?_
  refine ao_icmp_ge (pc := 87) (tgt := 94) X dX11_assize_87 (by decide) (fun _ => ?_) (fun _ => ?_)
  · refine ao_lconst (pc := 94) X dX11_assize_94 lc_0 ?_
    refine ao_sub [0, 2] rfl ?_
    exact bX11_assize_0_95 hI hl0 X hr p2 (0 : Int64) μ
  · refine ao_lconst (pc := 90) X dX11_assize_90 lc_1 ?_
    refine ao_goto (pc := 91) (tgt := 95) X dX11_assize_91 (by decide) ?_
    refine ao_sub [0, 2] rfl ?_
    exact bX11_assize_0_95 hI hl0 X hr p2 (1 : Int64) μ
def fX11_assize_0_b70 (p1 : Int32) (p2 : Int32) (μ : Mem) : Option (Int32 × Mem) :=
  if p2 ≤ 0 then (fX11_assize_0_b81 p1 p2 μ)
  else bnd (fX6_seal_29 μ) fun r10 m11 =>
    fX11_assize_0_b81 p1 p2 m11
set_option maxRecDepth 100000 in
set_option maxHeartbeats 4000000 in
theorem bX11_assize_0_70 {E : En} {l : Launch} {Z : Zt} (hI : Inj E) (hl0 : lZ l Z) (X : Cx E Z cX11_assize RX11 3 8) (hr : rtOf Z = some .int) (p1 : Int32) (p2 : Int32) (μ : Mem) : AO E Z 3 (QI E Z) 70 [(0, .ref (eAd E 0)), (1, .int p1), (2, .int p2)] [] μ (fX11_assize_0_b70 p1 p2 μ) := by
  unfold fX11_assize_0_b70
  refine ao_iload_n (pc := 70) X dX11_assize_70 rfl ?_
  refine ao_if_le (pc := 71) (tgt := 81) X dX11_assize_71 (by decide) (fun _ => ?_) (fun _ => ?_)
  · refine ao_sub [0, 1, 2] rfl ?_
    exact bX11_assize_0_81 hI hl0 X hr p1 p2 μ
  · refine ao_aload_n (pc := 74) X dX11_assize_74 rfl ?_
    refine ao_getR (pc := 75) X dX11_assize_75 fl_RX11_75 sf_0_9 ?_
    refine ao_callVV (pc := 78) (As := []) (st := []) X hl0 dX11_assize_78 yv_X6_seal so_29 ml_RX11_235 (mX6_seal_29 hI μ) (Nat.le_of_ble_eq_true rfl) rfl rfl (Nat.le_of_ble_eq_true rfl) (fun r10 m11 => ?_)
    refine ao_sub [0, 1, 2] rfl ?_
    exact bX11_assize_0_81 hI hl0 X hr p1 p2 m11
def fX11_assize_0_b40 : Nat → Int32 → Int32 → Mem → Option (Int32 × Mem)
  | 0, _, _, _ => none
  | n + 1, p1, p2, μ =>
  if p1 ≤ p2 then (fX11_assize_0_b70 p1 p2 μ)
  else bnd (fX4_perform_33_15 p2 (gI μ 0 14) μ) fun r7 m8 =>
    if r7 < 0 then (fX11_assize_0_b70 p1 p2 m8)
    else fX11_assize_0_b40 n p1 (p2 + (1 : Int32)) m8
set_option maxRecDepth 100000 in
set_option maxHeartbeats 4000000 in
theorem bX11_assize_0_40 {E : En} {l : Launch} {Z : Zt} (hI : Inj E) (hl0 : lZ l Z) (X : Cx E Z cX11_assize RX11 3 8) (hr : rtOf Z = some .int) : ∀ (n : Nat) (p1 : Int32) (p2 : Int32) (μ : Mem), AO E Z 3 (QI E Z) 40 [(0, .ref (eAd E 0)), (1, .int p1), (2, .int p2)] [] μ (fX11_assize_0_b40 n p1 p2 μ) := by
  intro n
  induction n with
  | zero =>
    intros
    exact ao_none
  | succ n ih =>
    intro p1 p2 μ
    rw [fX11_assize_0_b40]
    refine ao_iload_n (pc := 40) X dX11_assize_40 rfl ?_
    refine ao_iload_n (pc := 41) X dX11_assize_41 rfl ?_
    refine ao_icmp_ge (pc := 42) (tgt := 70) X dX11_assize_42 (by decide) (fun _ => ?_) (fun _ => ?_)
    · refine ao_sub [0, 1, 2] rfl ?_
      exact bX11_assize_0_70 hI hl0 X hr p1 p2 μ
    · refine ao_aload_n (pc := 45) X dX11_assize_45 rfl ?_
      refine ao_getR (pc := 46) X dX11_assize_46 fl_RX11_65 sf_0_7 ?_
      refine ao_aload_n (pc := 49) X dX11_assize_49 rfl ?_
      refine ao_getR (pc := 50) X dX11_assize_50 fl_RX11_42 sf_0_4 ?_
      refine ao_iload_n (pc := 53) X dX11_assize_53 rfl ?_
      refine ao_aload_n (pc := 54) X dX11_assize_54 rfl ?_
      refine ao_getI (pc := 55) X dX11_assize_55 fl_RX11_100 sf_0_14 ?_
      refine ao_callVI (pc := 58) (As := [.ref (eAd E 15), .int p2, .int (gI μ 0 14)]) (st := []) X hl0 dX11_assize_58 yv_X4_perform so_33 ml_RX11_248 (mX4_perform_33_15 hI p2 (gI μ 0 14) μ) (Nat.le_of_ble_eq_true rfl) rfl rfl (Nat.le_of_ble_eq_true rfl) (fun r7 m8 => ?_)
      refine ao_if_lt (pc := 61) (tgt := 70) X dX11_assize_61 (by decide) (fun _ => ?_) (fun _ => ?_)
      · refine ao_sub [0, 1, 2] rfl ?_
        exact bX11_assize_0_70 hI hl0 X hr p1 p2 m8
      · refine ao_iinc (pc := 64) (k := 2) (v := p2 + (1 : Int32)) (lv' := [(2, .int (p2 + (1 : Int32))), (0, .ref (eAd E 0)), (1, .int p1)]) X dX11_assize_64 rfl (ii_ic ic_1) (by decide) rfl ?_
        refine ao_goto (pc := 67) (tgt := 40) X dX11_assize_67 (by decide) ?_
        refine ao_sub [1, 2, 0] rfl ?_
        exact ih p1 (p2 + (1 : Int32)) m8
def fX11_assize_0 (μ : Mem) : Option (Int32 × Mem) :=
  bnd (fX5_readAll_15_1 (60 : Int32) μ) fun r1 m2 =>
  bnd (fX9_empty_1 m2) fun r3 m4 =>
  if 0 ≤ r1 then (bnd (fX6_note_29_33 m4) fun r5 m6 =>
    fX11_assize_0_b40 FU r1 (0 : Int32) m6)
  else some (r1, m4)
set_option maxRecDepth 100000 in
set_option maxHeartbeats 4000000 in
theorem mX11_assize_0 {E : En} {l : Launch} (hI : Inj E) (μ : Mem) : MtI E l yX11_assize cX11_assize 3 (some .int) 8 [.ref (eAd E 0)] μ (fX11_assize_0 μ) := by
  refine mtI_of (own := RX11) [(0, .ref (eAd E 0))] hI rfl (by decide) (Nat.le_of_ble_eq_true rfl) (Nat.le_of_ble_eq_true rfl) rfl (fun Z hl0 X hr => ?_)
  unfold fX11_assize_0
  refine ao_aload_n (pc := 0) X dX11_assize_0 rfl ?_
  refine ao_getR (pc := 1) X dX11_assize_1 fl_RX11_42 sf_0_4 ?_
  refine ao_aload_n (pc := 4) X dX11_assize_4 rfl ?_
  refine ao_getR (pc := 5) X dX11_assize_5 fl_RX11_10 sf_0_0 ?_
  refine ao_bipush (pc := 8) X dX11_assize_8 bp_60 ?_
  refine ao_callU (pc := 10) (As := [.ref (eAd E 1), .int (60 : Int32)]) (st := []) X hl0 dX11_assize_10 yu_RX11_247_RX0 so_15 (mX5_readAll_15_1 hI (60 : Int32) μ) (Nat.le_of_ble_eq_true rfl) rfl rfl (Nat.le_of_ble_eq_true rfl) (fun r1 m2 => ?_)
  refine ao_istore_n (pc := 13) (lv' := [(1, .int r1), (0, .ref (eAd E 0))]) X dX11_assize_13 rfl (by decide) rfl ?_
  refine ao_aload_n (pc := 14) X dX11_assize_14 rfl ?_
  refine ao_getR (pc := 15) X dX11_assize_15 fl_RX11_10 sf_0_0 ?_
  refine ao_callVV (pc := 18) (As := []) (st := []) X hl0 dX11_assize_18 yv_X9_empty so_1 ml_RX11_116 (mX9_empty_1 hI m2) (Nat.le_of_ble_eq_true rfl) rfl rfl (Nat.le_of_ble_eq_true rfl) (fun r3 m4 => ?_)
  refine ao_iload_n (pc := 21) X dX11_assize_21 rfl ?_
  refine ao_if_ge (pc := 22) (tgt := 27) X dX11_assize_22 (by decide) (fun _ => ?_) (fun _ => ?_)
  · refine ao_aload_n (pc := 27) X dX11_assize_27 rfl ?_
    refine ao_getR (pc := 28) X dX11_assize_28 fl_RX11_75 sf_0_9 ?_
    refine ao_aload_n (pc := 31) X dX11_assize_31 rfl ?_
    refine ao_getR (pc := 32) X dX11_assize_32 fl_RX11_65 sf_0_7 ?_
    refine ao_callVV (pc := 35) (As := [.ref (eAd E 33)]) (st := []) X hl0 dX11_assize_35 yv_X6_note so_29 ml_RX11_212 (mX6_note_29_33 hI m4) (Nat.le_of_ble_eq_true rfl) rfl rfl (Nat.le_of_ble_eq_true rfl) (fun r5 m6 => ?_)
    refine ao_iconst (pc := 38) X dX11_assize_38 ic_0 ?_
    refine ao_istore_n (pc := 39) (lv' := [(2, .int (0 : Int32)), (1, .int r1), (0, .ref (eAd E 0))]) X dX11_assize_39 rfl (by decide) rfl ?_
    refine ao_sub [2, 1, 0] rfl ?_
    exact bX11_assize_0_40 hI hl0 X hr FU r1 (0 : Int32) m6
  · refine ao_iload_n (pc := 25) X dX11_assize_25 rfl ?_
    exact ao_iret (pc := 26) X hr dX11_assize_26
def fX12_act_122_b56 (p2 : Int32) (q0 : Int32) (μ : Mem) : Option (Int32 × Mem) :=
  bnd (fX12_refusesLay_122 p2 q0 μ) fun r20 m21 =>
  if 0 ≤ r20 then (bnd (fX12_goLay_123 p2 q0 m21) fun r22 m23 =>
    some ((1 : Int32), m23))
  else some ((0 : Int32), m21)
set_option maxRecDepth 100000 in
set_option maxHeartbeats 4000000 in
theorem bX12_act_122_56 {E : En} {l : Launch} {Z : Zt} (hI : Inj E) (hl0 : lZ l Z) (X : Cx E Z cX12_act RX12 5 412) (hr : rtOf Z = some .boolean) (p2 : Int32) (q0 : Int32) (μ : Mem) : AO E Z 5 (QI E Z) 56 [(0, .ref (eAd E 122)), (2, .int p2)] [.int q0] μ (fX12_act_122_b56 p2 q0 μ) := by
  unfold fX12_act_122_b56
  refine ao_istore (pc := 56) (lv' := [(4, .int q0), (0, .ref (eAd E 122)), (2, .int p2)]) X dX12_act_56 (by decide) rfl ?_
  refine ao_aload_n (pc := 58) X dX12_act_58 rfl ?_
  refine ao_iload_n (pc := 59) X dX12_act_59 rfl ?_
  refine ao_iload (pc := 60) X dX12_act_60 rfl ?_
  refine ao_callVI (pc := 62) (As := [.int p2, .int q0]) (st := []) X hl0 dX12_act_62 yv_X12_refusesLay so_122 ml_RX12_246 (mX12_refusesLay_122 hI p2 q0 μ) (Nat.le_of_ble_eq_true rfl) rfl rfl (Nat.le_of_ble_eq_true rfl) (fun r20 m21 => ?_)
  refine ao_if_ge (pc := 65) (tgt := 70) X dX12_act_65 (by decide) (fun _ => ?_) (fun _ => ?_)
  · refine ao_aload_n (pc := 70) X dX12_act_70 rfl ?_
    refine ao_getR (pc := 71) X dX12_act_71 fl_RX12_9 sf_122_0 ?_
    refine ao_iload_n (pc := 74) X dX12_act_74 rfl ?_
    refine ao_iload (pc := 75) X dX12_act_75 rfl ?_
    refine ao_callSV (pc := 77) (As := [.ref (eAd E 123), .int p2, .int q0]) (st := []) X hl0 dX12_act_77 yv_X12_goLay ml_RX12_253 (mX12_goLay_123 hI p2 q0 m21) (Nat.le_of_ble_eq_true rfl) rfl rfl (Nat.le_of_ble_eq_true rfl) (fun r22 m23 => ?_)
    refine ao_iconst (pc := 80) X dX12_act_80 ic_1 ?_
    exact ao_zret (pc := 81) X hr rfl dX12_act_81
  · refine ao_iconst (pc := 68) X dX12_act_68 ic_0 ?_
    exact ao_zret (pc := 69) X hr rfl dX12_act_69
def fX12_act_122_b181 : Nat → Int32 → Int32 → Mem → Option (Int32 × Mem)
  | 0, _, _, _ => none
  | n + 1, p2, p4, μ =>
  if p2 ≤ p4 then (some ((1 : Int32), μ))
  else bnd (fX12_goNight_122_123 μ) fun r24 m25 =>
    fX12_act_122_b181 n p2 (p4 + (1 : Int32)) m25
set_option maxRecDepth 100000 in
set_option maxHeartbeats 4000000 in
theorem bX12_act_122_181 {E : En} {l : Launch} {Z : Zt} (hI : Inj E) (hl0 : lZ l Z) (X : Cx E Z cX12_act RX12 5 412) (hr : rtOf Z = some .boolean) : ∀ (n : Nat) (p2 : Int32) (p4 : Int32) (μ : Mem), AO E Z 5 (QI E Z) 181 [(0, .ref (eAd E 122)), (2, .int p2), (4, .int p4)] [] μ (fX12_act_122_b181 n p2 p4 μ) := by
  intro n
  induction n with
  | zero =>
    intros
    exact ao_none
  | succ n ih =>
    intro p2 p4 μ
    rw [fX12_act_122_b181]
    refine ao_iload (pc := 181) X dX12_act_181 rfl ?_
    refine ao_iload_n (pc := 183) X dX12_act_183 rfl ?_
    refine ao_icmp_ge (pc := 184) (tgt := 201) X dX12_act_184 (by decide) (fun _ => ?_) (fun _ => ?_)
    · refine ao_iconst (pc := 201) X dX12_act_201 ic_1 ?_
      exact ao_zret (pc := 202) X hr rfl dX12_act_202
    · refine ao_aload_n (pc := 187) X dX12_act_187 rfl ?_
      refine ao_aload_n (pc := 188) X dX12_act_188 rfl ?_
      refine ao_getR (pc := 189) X dX12_act_189 fl_RX12_9 sf_122_0 ?_
      refine ao_callVV (pc := 192) (As := [.ref (eAd E 123)]) (st := []) X hl0 dX12_act_192 yv_X12_goNight so_122 ml_RX12_274 (mX12_goNight_122_123 hI μ) (Nat.le_of_ble_eq_true rfl) rfl rfl (Nat.le_of_ble_eq_true rfl) (fun r24 m25 => ?_)
      refine ao_iinc (pc := 195) (k := 2) (v := p4 + (1 : Int32)) (lv' := [(4, .int (p4 + (1 : Int32))), (0, .ref (eAd E 122)), (2, .int p2)]) X dX12_act_195 rfl (ii_ic ic_1) (by decide) rfl ?_
      refine ao_goto (pc := 198) (tgt := 181) X dX12_act_198 (by decide) ?_
      refine ao_sub [1, 2, 0] rfl ?_
      exact ih p2 (p4 + (1 : Int32)) m25
def fX12_act_122 (v1 : Int32) (v2 : Int32) (v3 : Int32) (μ : Mem) : Option (Int32 × Mem) :=
  if v1 = (97 : Int32) then (bnd (fX12_isMan_122 v2 μ) fun r2 m3 =>
    if r2 = 0 then (some ((0 : Int32), m3))
    else gd (inb v2 27) (if (gI m3 123 (ix v2)) = 0 then (bnd (fX12_leftNow_122_123 v2 m3) fun r4 m5 =>
        bnd (fX12_doesSpeak_122 v2 r4 m5) fun r6 m7 =>
        if r6 = 0 then (some ((1 : Int32), m7))
        else bnd (fX12_goPlead_123 v2 m7) fun r8 m9 =>
          some ((1 : Int32), m9))
      else some ((0 : Int32), m3)))
  else if v1 = (106 : Int32) then (bnd (fX12_isMan_122 v2 μ) fun r11 m12 =>
    if r11 = 0 then (some ((0 : Int32), m12))
    else gd (inb v2 27) (if (gI m12 123 (ix v2)) = (1 : Int32) then (bnd (fX12_proofIn_122_123 v2 (0 : Int32) m12) fun r13 m14 =>
        bnd (fX12_ending_122 r13 m14) fun r15 m16 =>
        gd (inb v2 27) (lt (sI m16 123 (ix v2) r15) fun m17 =>
        some ((1 : Int32), m17)))
      else some ((0 : Int32), m12)))
  else if v1 = (108 : Int32) then (if v1 = (108 : Int32) then (fX12_act_122_b56 v2 v3 μ)
    else fX12_act_122_b56 v2 (-v3) μ)
  else if v1 = (111 : Int32) then (if v1 = (108 : Int32) then (fX12_act_122_b56 v2 v3 μ)
    else fX12_act_122_b56 v2 (-v3) μ)
  else if v2 ≤ (60 : Int32) then (fX12_act_122_b181 FU v2 (0 : Int32) μ)
  else some ((0 : Int32), μ)
set_option maxRecDepth 100000 in
set_option maxHeartbeats 4000000 in
theorem mX12_act_122 {E : En} {l : Launch} (hI : Inj E) (v1 : Int32) (v2 : Int32) (v3 : Int32) (μ : Mem) : MtI E l yX12_act cX12_act 5 (some .boolean) 412 [.ref (eAd E 122), .int v1, .int v2, .int v3] μ (fX12_act_122 v1 v2 v3 μ) := by
  refine mtI_of (own := RX12) [(0, .ref (eAd E 122)), (1, .int v1), (2, .int v2), (3, .int v3)] hI rfl (by decide) (Nat.le_of_ble_eq_true rfl) (Nat.le_of_ble_eq_true rfl) rfl (fun Z hl0 X hr => ?_)
  unfold fX12_act_122
  refine ao_iload_n (pc := 0) X dX12_act_0 rfl ?_
  refine ao_ite (cd := v1 = (97 : Int32)) (fun c => ao_look (pc := 1) (tgt := 82) X dX12_act_1 (by decide) (by rw [c]; try decide) (by decide) ?_) (fun n1 => ?_)
  · refine ao_aload_n (pc := 82) X dX12_act_82 rfl ?_
    refine ao_iload_n (pc := 83) X dX12_act_83 rfl ?_
    refine ao_callVI (pc := 84) (As := [.int v2]) (st := []) X hl0 dX12_act_84 yv_X12_isMan so_122 ml_RX12_224 (mX12_isMan_122 hI v2 μ) (Nat.le_of_ble_eq_true rfl) rfl rfl (Nat.le_of_ble_eq_true rfl) (fun r2 m3 => ?_)
    refine ao_if_eq (pc := 87) (tgt := 99) X dX12_act_87 (by decide) (fun _ => ?_) (fun _ => ?_)
    · refine ao_iconst (pc := 99) X dX12_act_99 ic_0 ?_
      exact ao_zret (pc := 100) X hr rfl dX12_act_100
    · refine ao_aload_n (pc := 90) X dX12_act_90 rfl ?_
      refine ao_getR (pc := 91) X dX12_act_91 fl_RX12_9 sf_122_0 ?_
      refine ao_iload_n (pc := 94) X dX12_act_94 rfl ?_
      refine ao_iald (pc := 95) X dX12_act_95 sa_123 ?_
      refine ao_if_eq (pc := 96) (tgt := 101) X dX12_act_96 (by decide) (fun _ => ?_) (fun _ => ?_)
      · refine ao_aload_n (pc := 101) X dX12_act_101 rfl ?_
        refine ao_iload_n (pc := 102) X dX12_act_102 rfl ?_
        refine ao_aload_n (pc := 103) X dX12_act_103 rfl ?_
        refine ao_aload_n (pc := 104) X dX12_act_104 rfl ?_
        refine ao_getR (pc := 105) X dX12_act_105 fl_RX12_9 sf_122_0 ?_
        refine ao_iload_n (pc := 108) X dX12_act_108 rfl ?_
        refine ao_callVI (pc := 109) (As := [.ref (eAd E 123), .int v2]) (st := [.int v2, .ref (eAd E 122)]) X hl0 dX12_act_109 yv_X12_leftNow so_122 ml_RX12_231 (mX12_leftNow_122_123 hI v2 m3) (Nat.le_of_ble_eq_true rfl) rfl rfl (Nat.le_of_ble_eq_true rfl) (fun r4 m5 => ?_)
        refine ao_callVI (pc := 112) (As := [.int v2, .int r4]) (st := []) X hl0 dX12_act_112 yv_X12_doesSpeak so_122 ml_RX12_257 (mX12_doesSpeak_122 hI v2 r4 m5) (Nat.le_of_ble_eq_true rfl) rfl rfl (Nat.le_of_ble_eq_true rfl) (fun r6 m7 => ?_)
        refine ao_if_eq (pc := 115) (tgt := 126) X dX12_act_115 (by decide) (fun _ => ?_) (fun _ => ?_)
        · refine ao_iconst (pc := 126) X dX12_act_126 ic_1 ?_
          exact ao_zret (pc := 127) X hr rfl dX12_act_127
        · refine ao_aload_n (pc := 118) X dX12_act_118 rfl ?_
          refine ao_getR (pc := 119) X dX12_act_119 fl_RX12_9 sf_122_0 ?_
          refine ao_iload_n (pc := 122) X dX12_act_122 rfl ?_
          refine ao_callSV (pc := 123) (As := [.ref (eAd E 123), .int v2]) (st := []) X hl0 dX12_act_123 yv_X12_goPlead ml_RX12_260 (mX12_goPlead_123 hI v2 m7) (Nat.le_of_ble_eq_true rfl) rfl rfl (Nat.le_of_ble_eq_true rfl) (fun r8 m9 => ?_)
          refine ao_iconst (pc := 126) X dX12_act_126 ic_1 ?_
          exact ao_zret (pc := 127) X hr rfl dX12_act_127
      · refine ao_iconst (pc := 99) X dX12_act_99 ic_0 ?_
        exact ao_zret (pc := 100) X hr rfl dX12_act_100
  refine ao_ite (cd := v1 = (106 : Int32)) (fun c => ao_look (pc := 1) (tgt := 128) X dX12_act_1 (by decide) (by rw [c]; try decide) (by decide) ?_) (fun n10 => ?_)
  · refine ao_aload_n (pc := 128) X dX12_act_128 rfl ?_
    refine ao_iload_n (pc := 129) X dX12_act_129 rfl ?_
    refine ao_callVI (pc := 130) (As := [.int v2]) (st := []) X hl0 dX12_act_130 yv_X12_isMan so_122 ml_RX12_224 (mX12_isMan_122 hI v2 μ) (Nat.le_of_ble_eq_true rfl) rfl rfl (Nat.le_of_ble_eq_true rfl) (fun r11 m12 => ?_)
    refine ao_if_eq (pc := 133) (tgt := 146) X dX12_act_133 (by decide) (fun _ => ?_) (fun _ => ?_)
    · refine ao_iconst (pc := 146) X dX12_act_146 ic_0 ?_
      exact ao_zret (pc := 147) X hr rfl dX12_act_147
    · refine ao_aload_n (pc := 136) X dX12_act_136 rfl ?_
      refine ao_getR (pc := 137) X dX12_act_137 fl_RX12_9 sf_122_0 ?_
      refine ao_iload_n (pc := 140) X dX12_act_140 rfl ?_
      refine ao_iald (pc := 141) X dX12_act_141 sa_123 ?_
      refine ao_iconst (pc := 142) X dX12_act_142 ic_1 ?_
      refine ao_icmp_eq (pc := 143) (tgt := 148) X dX12_act_143 (by decide) (fun _ => ?_) (fun _ => ?_)
      · refine ao_aload_n (pc := 148) X dX12_act_148 rfl ?_
        refine ao_getR (pc := 149) X dX12_act_149 fl_RX12_9 sf_122_0 ?_
        refine ao_iload_n (pc := 152) X dX12_act_152 rfl ?_
        refine ao_aload_n (pc := 153) X dX12_act_153 rfl ?_
        refine ao_aload_n (pc := 154) X dX12_act_154 rfl ?_
        refine ao_aload_n (pc := 155) X dX12_act_155 rfl ?_
        refine ao_getR (pc := 156) X dX12_act_156 fl_RX12_9 sf_122_0 ?_
        refine ao_iload_n (pc := 159) X dX12_act_159 rfl ?_
        refine ao_iconst (pc := 160) X dX12_act_160 ic_0 ?_
        refine ao_callVI (pc := 161) (As := [.ref (eAd E 123), .int v2, .int (0 : Int32)]) (st := [.ref (eAd E 122), .int v2, .ref (eAd E 123)]) X hl0 dX12_act_161 yv_X12_proofIn so_122 ml_RX12_235 (mX12_proofIn_122_123 hI v2 (0 : Int32) m12) (Nat.le_of_ble_eq_true rfl) rfl rfl (Nat.le_of_ble_eq_true rfl) (fun r13 m14 => ?_)
        refine ao_callVI (pc := 164) (As := [.int r13]) (st := [.int v2, .ref (eAd E 123)]) X hl0 dX12_act_164 yv_X12_ending so_122 ml_RX12_264 (mX12_ending_122 hI r13 m14) (Nat.le_of_ble_eq_true rfl) rfl rfl (Nat.le_of_ble_eq_true rfl) (fun r15 m16 => ?_)
        refine ao_iast (pc := 167) X dX12_act_167 sa_123 ?_
        refine ao_lt (fun m17 => ?_)
        refine ao_iconst (pc := 168) X dX12_act_168 ic_1 ?_
        exact ao_zret (pc := 169) X hr rfl dX12_act_169
      · refine ao_iconst (pc := 146) X dX12_act_146 ic_0 ?_
        exact ao_zret (pc := 147) X hr rfl dX12_act_147
  refine ao_ite (cd := v1 = (108 : Int32)) (fun c => ao_look (pc := 1) (tgt := 44) X dX12_act_1 (by decide) (by rw [c]; try decide) (by decide) ?_) (fun n18 => ?_)
  · refine ao_iload_n (pc := 44) X dX12_act_44 rfl ?_
    refine ao_bipush (pc := 45) X dX12_act_45 bp_108 ?_
    refine ao_icmp_ne (pc := 47) (tgt := 54) X dX12_act_47 (by decide) (fun _ => ?_) (fun _ => ?_)
    · refine ao_iload_n (pc := 54) X dX12_act_54 rfl ?_
      refine ao_ineg (pc := 55) X dX12_act_55 ?_
      refine ao_sub [0, 2] rfl ?_
      exact bX12_act_122_56 hI hl0 X hr v2 (-v3) μ
    · refine ao_iload_n (pc := 50) X dX12_act_50 rfl ?_
      refine ao_goto (pc := 51) (tgt := 56) X dX12_act_51 (by decide) ?_
      refine ao_sub [0, 2] rfl ?_
      exact bX12_act_122_56 hI hl0 X hr v2 v3 μ
  refine ao_ite (cd := v1 = (111 : Int32)) (fun c => ao_look (pc := 1) (tgt := 44) X dX12_act_1 (by decide) (by rw [c]; try decide) (by decide) ?_) (fun n19 => ?_)
  · refine ao_iload_n (pc := 44) X dX12_act_44 rfl ?_
    refine ao_bipush (pc := 45) X dX12_act_45 bp_108 ?_
    refine ao_icmp_ne (pc := 47) (tgt := 54) X dX12_act_47 (by decide) (fun _ => ?_) (fun _ => ?_)
    · refine ao_iload_n (pc := 54) X dX12_act_54 rfl ?_
      refine ao_ineg (pc := 55) X dX12_act_55 ?_
      refine ao_sub [0, 2] rfl ?_
      exact bX12_act_122_56 hI hl0 X hr v2 (-v3) μ
    · refine ao_iload_n (pc := 50) X dX12_act_50 rfl ?_
      refine ao_goto (pc := 51) (tgt := 56) X dX12_act_51 (by decide) ?_
      refine ao_sub [0, 2] rfl ?_
      exact bX12_act_122_56 hI hl0 X hr v2 v3 μ
  refine ao_look (off := 169) (pc := 1) (tgt := 170) X dX12_act_1 (by decide) (by show Op.lookupswitch.offset [(97, 81), (106, 127), (108, 43), (111, 43)] _ _ = _; rw [lv_osw n1 (by decide), lv_osw n10 (by decide), lv_osw n18 (by decide), lv_osw n19 (by decide)]; try rfl) (by decide) ?_
  refine ao_iload_n (pc := 170) X dX12_act_170 rfl ?_
  refine ao_bipush (pc := 171) X dX12_act_171 bp_60 ?_
  refine ao_icmp_le (pc := 173) (tgt := 178) X dX12_act_173 (by decide) (fun _ => ?_) (fun _ => ?_)
  · refine ao_iconst (pc := 178) X dX12_act_178 ic_0 ?_
    refine ao_istore (pc := 179) (lv' := [(4, .int (0 : Int32)), (0, .ref (eAd E 122)), (1, .int v1), (2, .int v2), (3, .int v3)]) X dX12_act_179 (by decide) rfl ?_
    refine ao_sub [1, 3, 0] rfl ?_
    exact bX12_act_122_181 hI hl0 X hr FU v2 (0 : Int32) μ
  · refine ao_iconst (pc := 176) X dX12_act_176 ic_0 ?_
    exact ao_zret (pc := 177) X hr rfl dX12_act_177
def fX12_lay_123_139_b2 : Nat → Int32 → Int32 → Mem → Option (Unit × Mem)
  | 0, _, _, _ => none
  | n + 1, p2, p3, μ =>
  if (27 : Int32) ≤ p3 then (some ((), μ))
  else gd (inb p3 27) (gd (inb (p2 + p3) 27) (lt (sI μ 139 (ix (p2 + p3)) (gI μ 123 (ix p3))) fun m1 =>
    fX12_lay_123_139_b2 n p2 (p3 + (1 : Int32)) m1))
set_option maxRecDepth 100000 in
set_option maxHeartbeats 4000000 in
theorem bX12_lay_123_139_2 {E : En} {l : Launch} {Z : Zt} (hI : Inj E) (hl0 : lZ l Z) (X : Cx E Z cX12_lay RX12 4 1) (hr : rtOf Z = none) : ∀ (n : Nat) (p2 : Int32) (p3 : Int32) (μ : Mem), AO E Z 4 (QV E Z) 2 [(0, .ref (eAd E 123)), (1, .ref (eAd E 139)), (2, .int p2), (3, .int p3)] [] μ (fX12_lay_123_139_b2 n p2 p3 μ) := by
  intro n
  induction n with
  | zero =>
    intros
    exact ao_none
  | succ n ih =>
    intro p2 p3 μ
    rw [fX12_lay_123_139_b2]
    refine ao_iload_n (pc := 2) X dX12_lay_2 rfl ?_
    refine ao_bipush (pc := 3) X dX12_lay_3 bp_27 ?_
    refine ao_icmp_ge (pc := 5) (tgt := 22) X dX12_lay_5 (by decide) (fun _ => ?_) (fun _ => ?_)
    · exact ao_vret (pc := 22) X hr dX12_lay_22
    · refine ao_aload_n (pc := 8) X dX12_lay_8 rfl ?_
      refine ao_iload_n (pc := 9) X dX12_lay_9 rfl ?_
      refine ao_iload_n (pc := 10) X dX12_lay_10 rfl ?_
      refine ao_iadd (pc := 11) X dX12_lay_11 ?_
      refine ao_aload_n (pc := 12) X dX12_lay_12 rfl ?_
      refine ao_iload_n (pc := 13) X dX12_lay_13 rfl ?_
      refine ao_iald (pc := 14) X dX12_lay_14 sa_123 ?_
      refine ao_iast (pc := 15) X dX12_lay_15 sa_139 ?_
      refine ao_lt (fun m1 => ?_)
      refine ao_iinc (pc := 16) (k := 3) (v := p3 + (1 : Int32)) (lv' := [(3, .int (p3 + (1 : Int32))), (0, .ref (eAd E 123)), (1, .ref (eAd E 139)), (2, .int p2)]) X dX12_lay_16 rfl (ii_ic ic_1) (by decide) rfl ?_
      refine ao_goto (pc := 19) (tgt := 2) X dX12_lay_19 (by decide) ?_
      refine ao_sub [1, 2, 3, 0] rfl ?_
      exact ih p2 (p3 + (1 : Int32)) m1
def fX12_lay_123_139 (v2 : Int32) (μ : Mem) : Option (Unit × Mem) :=
  fX12_lay_123_139_b2 FU v2 (0 : Int32) μ
set_option maxRecDepth 100000 in
set_option maxHeartbeats 4000000 in
theorem mX12_lay_123_139 {E : En} {l : Launch} (hI : Inj E) (v2 : Int32) (μ : Mem) : MtV E l yX12_lay cX12_lay 4 (none) 1 [.ref (eAd E 123), .ref (eAd E 139), .int v2] μ (fX12_lay_123_139 v2 μ) := by
  refine mtV_of (own := RX12) [(0, .ref (eAd E 123)), (1, .ref (eAd E 139)), (2, .int v2)] hI rfl (by decide) (Nat.le_of_ble_eq_true rfl) (Nat.le_of_ble_eq_true rfl) rfl (fun Z hl0 X hr => ?_)
  unfold fX12_lay_123_139
  refine ao_iconst (pc := 0) X dX12_lay_0 ic_0 ?_
  refine ao_istore_n (pc := 1) (lv' := [(3, .int (0 : Int32)), (0, .ref (eAd E 123)), (1, .ref (eAd E 139)), (2, .int v2)]) X dX12_lay_1 rfl (by decide) rfl ?_
  refine ao_sub [1, 2, 3, 0] rfl ?_
  exact bX12_lay_123_139_2 hI hl0 X hr FU v2 (0 : Int32) μ
def fX12_readAct_122_b102 (p1 : Int32) (μ : Mem) : Option (Unit × Mem) :=
  bnd (fX12_number_122 (2 : Int32) μ) fun r12 m13 =>
  gd (inb (p1 + (2 : Int32)) 240) (lt (sI m13 141 (ix (p1 + (2 : Int32))) r12) fun m14 =>
  some ((), m14))
set_option maxRecDepth 100000 in
set_option maxHeartbeats 4000000 in
theorem bX12_readAct_122_102 {E : En} {l : Launch} {Z : Zt} (hI : Inj E) (hl0 : lZ l Z) (X : Cx E Z cX12_readAct RX12 3 5) (hr : rtOf Z = none) (p1 : Int32) (μ : Mem) : AO E Z 3 (QV E Z) 102 [(0, .ref (eAd E 122)), (1, .int p1)] [] μ (fX12_readAct_122_b102 p1 μ) := by
  unfold fX12_readAct_122_b102
  refine ao_aload_n (pc := 102) X dX12_readAct_102 rfl ?_
  refine ao_getR (pc := 103) X dX12_readAct_103 fl_RX12_71 sf_122_32 ?_
  refine ao_iload_n (pc := 106) X dX12_readAct_106 rfl ?_
  refine ao_iconst (pc := 107) X dX12_readAct_107 ic_2 ?_
  refine ao_iadd (pc := 108) X dX12_readAct_108 ?_
  refine ao_aload_n (pc := 109) X dX12_readAct_109 rfl ?_
  refine ao_iconst (pc := 110) X dX12_readAct_110 ic_2 ?_
  refine ao_callVI (pc := 111) (As := [.int (2 : Int32)]) (st := [.int (p1 + (2 : Int32)), .ref (eAd E 141)]) X hl0 dX12_readAct_111 yv_X12_number so_122 ml_RX12_150 (mX12_number_122 hI (2 : Int32) μ) (Nat.le_of_ble_eq_true rfl) rfl rfl (Nat.le_of_ble_eq_true rfl) (fun r12 m13 => ?_)
  refine ao_iast (pc := 114) X dX12_readAct_114 sa_141 ?_
  refine ao_lt (fun m14 => ?_)
  exact ao_vret (pc := 115) X hr dX12_readAct_115
def fX12_readAct_122_b89 (p1 : Int32) (p2 : Int32) (q0 : Int32) (q1 : Int32) (μ : Mem) : Option (Unit × Mem) :=
  gd (inb q1 240) (lt (sI μ 141 (ix q1) q0) fun m11 =>
  if p2 = (108 : Int32) then (fX12_readAct_122_b102 p1 m11)
  else if p2 = (111 : Int32) then (fX12_readAct_122_b102 p1 m11)
    else some ((), m11))
set_option maxRecDepth 100000 in
set_option maxHeartbeats 4000000 in
theorem bX12_readAct_122_89 {E : En} {l : Launch} {Z : Zt} (hI : Inj E) (hl0 : lZ l Z) (X : Cx E Z cX12_readAct RX12 3 5) (hr : rtOf Z = none) (p1 : Int32) (p2 : Int32) (q0 : Int32) (q1 : Int32) (μ : Mem) : AO E Z 3 (QV E Z) 89 [(0, .ref (eAd E 122)), (1, .int p1), (2, .int p2)] [.int q0, .int q1, .ref (eAd E 141)] μ (fX12_readAct_122_b89 p1 p2 q0 q1 μ) := by
  unfold fX12_readAct_122_b89
  refine ao_iast (pc := 89) X dX12_readAct_89 sa_141 ?_
  refine ao_lt (fun m11 => ?_)
  refine ao_iload_n (pc := 90) X dX12_readAct_90 rfl ?_
  refine ao_bipush (pc := 91) X dX12_readAct_91 bp_108 ?_
  refine ao_icmp_eq (pc := 93) (tgt := 102) X dX12_readAct_93 (by decide) (fun _ => ?_) (fun _ => ?_)
  · refine ao_sub [0, 1] rfl ?_
    exact bX12_readAct_122_102 hI hl0 X hr p1 m11
  · refine ao_iload_n (pc := 96) X dX12_readAct_96 rfl ?_
    refine ao_bipush (pc := 97) X dX12_readAct_97 bp_111 ?_
    refine ao_icmp_ne (pc := 99) (tgt := 115) X dX12_readAct_99 (by decide) (fun _ => ?_) (fun _ => ?_)
    · exact ao_vret (pc := 115) X hr dX12_readAct_115
    · refine ao_sub [0, 1] rfl ?_
      exact bX12_readAct_122_102 hI hl0 X hr p1 m11
def fX12_readAct_122_b43 (p1 : Int32) (p2 : Int32) (μ : Mem) : Option (Unit × Mem) :=
  lt (sI μ 122 21 ((gI μ 122 21) + (1 : Int32))) fun m5 =>
  gd (inb p1 240) (lt (sI m5 141 (ix p1) p2) fun m6 =>
  if p2 = (110 : Int32) then (bnd (fX12_number_122 (2 : Int32) m6) fun r9 m10 =>
    fX12_readAct_122_b89 p1 p2 r9 (p1 + (1 : Int32)) m10)
  else bnd (fX12_oneOf_122 (48 : Int32) (10 : Int32) m6) fun r7 m8 =>
    fX12_readAct_122_b89 p1 p2 r7 (p1 + (1 : Int32)) m8)
set_option maxRecDepth 100000 in
set_option maxHeartbeats 4000000 in
theorem bX12_readAct_122_43 {E : En} {l : Launch} {Z : Zt} (hI : Inj E) (hl0 : lZ l Z) (X : Cx E Z cX12_readAct RX12 3 5) (hr : rtOf Z = none) (p1 : Int32) (p2 : Int32) (μ : Mem) : AO E Z 3 (QV E Z) 43 [(0, .ref (eAd E 122)), (1, .int p1), (2, .int p2)] [] μ (fX12_readAct_122_b43 p1 p2 μ) := by
  unfold fX12_readAct_122_b43
  refine ao_aload_n (pc := 43) X dX12_readAct_43 rfl ?_
  refine ao_dup (pc := 44) X dX12_readAct_44 rfl ?_
  refine ao_getI (pc := 45) X dX12_readAct_45 fl_RX12_120 sf_122_21 ?_
  refine ao_iconst (pc := 48) X dX12_readAct_48 ic_1 ?_
  refine ao_iadd (pc := 49) X dX12_readAct_49 ?_
  refine ao_putI (pc := 50) X dX12_readAct_50 fp_RX12_120 sf_122_21 ?_
  refine ao_lt (fun m5 => ?_)
  refine ao_aload_n (pc := 53) X dX12_readAct_53 rfl ?_
  refine ao_getR (pc := 54) X dX12_readAct_54 fl_RX12_71 sf_122_32 ?_
  refine ao_iload_n (pc := 57) X dX12_readAct_57 rfl ?_
  refine ao_iload_n (pc := 58) X dX12_readAct_58 rfl ?_
  refine ao_iast (pc := 59) X dX12_readAct_59 sa_141 ?_
  refine ao_lt (fun m6 => ?_)
  refine ao_aload_n (pc := 60) X dX12_readAct_60 rfl ?_
  refine ao_getR (pc := 61) X dX12_readAct_61 fl_RX12_71 sf_122_32 ?_
  refine ao_iload_n (pc := 64) X dX12_readAct_64 rfl ?_
  refine ao_iconst (pc := 65) X dX12_readAct_65 ic_1 ?_
  refine ao_iadd (pc := 66) X dX12_readAct_66 ?_
  refine ao_iload_n (pc := 67) X dX12_readAct_67 rfl ?_
  refine ao_bipush (pc := 68) X dX12_readAct_68 bp_110 ?_
  refine ao_icmp_ne (pc := 70) (tgt := 81) X dX12_readAct_70 (by decide) (fun _ => ?_) (fun _ => ?_)
  · refine ao_aload_n (pc := 81) X dX12_readAct_81 rfl ?_
    refine ao_bipush (pc := 82) X dX12_readAct_82 bp_48 ?_
    refine ao_bipush (pc := 84) X dX12_readAct_84 bp_10 ?_
    refine ao_callVI (pc := 86) (As := [.int (48 : Int32), .int (10 : Int32)]) (st := [.int (p1 + (1 : Int32)), .ref (eAd E 141)]) X hl0 dX12_readAct_86 yv_X12_oneOf so_122 ml_RX12_146 (mX12_oneOf_122 hI (48 : Int32) (10 : Int32) m6) (Nat.le_of_ble_eq_true rfl) rfl rfl (Nat.le_of_ble_eq_true rfl) (fun r7 m8 => ?_)
    refine ao_sub [0, 1, 2] rfl ?_
    exact bX12_readAct_122_89 hI hl0 X hr p1 p2 r7 (p1 + (1 : Int32)) m8
  · refine ao_aload_n (pc := 73) X dX12_readAct_73 rfl ?_
    refine ao_iconst (pc := 74) X dX12_readAct_74 ic_2 ?_
    refine ao_callVI (pc := 75) (As := [.int (2 : Int32)]) (st := [.int (p1 + (1 : Int32)), .ref (eAd E 141)]) X hl0 dX12_readAct_75 yv_X12_number so_122 ml_RX12_150 (mX12_number_122 hI (2 : Int32) m6) (Nat.le_of_ble_eq_true rfl) rfl rfl (Nat.le_of_ble_eq_true rfl) (fun r9 m10 => ?_)
    refine ao_goto (pc := 78) (tgt := 89) X dX12_readAct_78 (by decide) ?_
    refine ao_sub [0, 1, 2] rfl ?_
    exact bX12_readAct_122_89 hI hl0 X hr p1 p2 r9 (p1 + (1 : Int32)) m10
def fX12_readAct_122 (v1 : Int32) (μ : Mem) : Option (Unit × Mem) :=
  bnd (fX12_here_122 μ) fun r1 m2 =>
  if r1 = (108 : Int32) then (fX12_readAct_122_b43 v1 r1 m2)
  else if r1 = (111 : Int32) then (fX12_readAct_122_b43 v1 r1 m2)
    else if r1 = (97 : Int32) then (fX12_readAct_122_b43 v1 r1 m2)
      else if r1 = (106 : Int32) then (fX12_readAct_122_b43 v1 r1 m2)
        else if r1 = (110 : Int32) then (fX12_readAct_122_b43 v1 r1 m2)
          else bnd (fX12_fault_122 (gI m2 122 21) m2) fun r3 m4 =>
            fX12_readAct_122_b43 v1 r1 m4
set_option maxRecDepth 100000 in
set_option maxHeartbeats 4000000 in
theorem mX12_readAct_122 {E : En} {l : Launch} (hI : Inj E) (v1 : Int32) (μ : Mem) : MtV E l yX12_readAct cX12_readAct 3 (none) 5 [.ref (eAd E 122), .int v1] μ (fX12_readAct_122 v1 μ) := by
  refine mtV_of (own := RX12) [(0, .ref (eAd E 122)), (1, .int v1)] hI rfl (by decide) (Nat.le_of_ble_eq_true rfl) (Nat.le_of_ble_eq_true rfl) rfl (fun Z hl0 X hr => ?_)
  unfold fX12_readAct_122
  refine ao_aload_n (pc := 0) X dX12_readAct_0 rfl ?_
  refine ao_callVI (pc := 1) (As := []) (st := []) X hl0 dX12_readAct_1 yv_X12_here so_122 ml_RX12_134 (mX12_here_122 hI μ) (Nat.le_of_ble_eq_true rfl) rfl rfl (Nat.le_of_ble_eq_true rfl) (fun r1 m2 => ?_)
  refine ao_istore_n (pc := 4) (lv' := [(2, .int r1), (0, .ref (eAd E 122)), (1, .int v1)]) X dX12_readAct_4 rfl (by decide) rfl ?_
  refine ao_iload_n (pc := 5) X dX12_readAct_5 rfl ?_
  refine ao_bipush (pc := 6) X dX12_readAct_6 bp_108 ?_
  refine ao_icmp_eq (pc := 8) (tgt := 43) X dX12_readAct_8 (by decide) (fun _ => ?_) (fun _ => ?_)
  · refine ao_sub [1, 2, 0] rfl ?_
    exact bX12_readAct_122_43 hI hl0 X hr v1 r1 m2
  · refine ao_iload_n (pc := 11) X dX12_readAct_11 rfl ?_
    refine ao_bipush (pc := 12) X dX12_readAct_12 bp_111 ?_
    refine ao_icmp_eq (pc := 14) (tgt := 43) X dX12_readAct_14 (by decide) (fun _ => ?_) (fun _ => ?_)
    · refine ao_sub [1, 2, 0] rfl ?_
      exact bX12_readAct_122_43 hI hl0 X hr v1 r1 m2
    · refine ao_iload_n (pc := 17) X dX12_readAct_17 rfl ?_
      refine ao_bipush (pc := 18) X dX12_readAct_18 bp_97 ?_
      refine ao_icmp_eq (pc := 20) (tgt := 43) X dX12_readAct_20 (by decide) (fun _ => ?_) (fun _ => ?_)
      · refine ao_sub [1, 2, 0] rfl ?_
        exact bX12_readAct_122_43 hI hl0 X hr v1 r1 m2
      · refine ao_iload_n (pc := 23) X dX12_readAct_23 rfl ?_
        refine ao_bipush (pc := 24) X dX12_readAct_24 bp_106 ?_
        refine ao_icmp_eq (pc := 26) (tgt := 43) X dX12_readAct_26 (by decide) (fun _ => ?_) (fun _ => ?_)
        · refine ao_sub [1, 2, 0] rfl ?_
          exact bX12_readAct_122_43 hI hl0 X hr v1 r1 m2
        · refine ao_iload_n (pc := 29) X dX12_readAct_29 rfl ?_
          refine ao_bipush (pc := 30) X dX12_readAct_30 bp_110 ?_
          refine ao_icmp_eq (pc := 32) (tgt := 43) X dX12_readAct_32 (by decide) (fun _ => ?_) (fun _ => ?_)
          · refine ao_sub [1, 2, 0] rfl ?_
            exact bX12_readAct_122_43 hI hl0 X hr v1 r1 m2
          · refine ao_aload_n (pc := 35) X dX12_readAct_35 rfl ?_
            refine ao_aload_n (pc := 36) X dX12_readAct_36 rfl ?_
            refine ao_getI (pc := 37) X dX12_readAct_37 fl_RX12_120 sf_122_21 ?_
            refine ao_callVV (pc := 40) (As := [.int (gI m2 122 21)]) (st := []) X hl0 dX12_readAct_40 yv_X12_fault so_122 ml_RX12_142 (mX12_fault_122 hI (gI m2 122 21) m2) (Nat.le_of_ble_eq_true rfl) rfl rfl (Nat.le_of_ble_eq_true rfl) (fun r3 m4 => ?_)
            refine ao_sub [1, 2, 0] rfl ?_
            exact bX12_readAct_122_43 hI hl0 X hr v1 r1 m4
def fX12_lay_139_138_b2 : Nat → Int32 → Int32 → Mem → Option (Unit × Mem)
  | 0, _, _, _ => none
  | n + 1, p2, p3, μ =>
  if (27 : Int32) ≤ p3 then (some ((), μ))
  else gd (inb p3 27) (gd (inb (p2 + p3) 324) (lt (sI μ 138 (ix (p2 + p3)) (gI μ 139 (ix p3))) fun m1 =>
    fX12_lay_139_138_b2 n p2 (p3 + (1 : Int32)) m1))
set_option maxRecDepth 100000 in
set_option maxHeartbeats 4000000 in
theorem bX12_lay_139_138_2 {E : En} {l : Launch} {Z : Zt} (hI : Inj E) (hl0 : lZ l Z) (X : Cx E Z cX12_lay RX12 4 1) (hr : rtOf Z = none) : ∀ (n : Nat) (p2 : Int32) (p3 : Int32) (μ : Mem), AO E Z 4 (QV E Z) 2 [(0, .ref (eAd E 139)), (1, .ref (eAd E 138)), (2, .int p2), (3, .int p3)] [] μ (fX12_lay_139_138_b2 n p2 p3 μ) := by
  intro n
  induction n with
  | zero =>
    intros
    exact ao_none
  | succ n ih =>
    intro p2 p3 μ
    rw [fX12_lay_139_138_b2]
    refine ao_iload_n (pc := 2) X dX12_lay_2 rfl ?_
    refine ao_bipush (pc := 3) X dX12_lay_3 bp_27 ?_
    refine ao_icmp_ge (pc := 5) (tgt := 22) X dX12_lay_5 (by decide) (fun _ => ?_) (fun _ => ?_)
    · exact ao_vret (pc := 22) X hr dX12_lay_22
    · refine ao_aload_n (pc := 8) X dX12_lay_8 rfl ?_
      refine ao_iload_n (pc := 9) X dX12_lay_9 rfl ?_
      refine ao_iload_n (pc := 10) X dX12_lay_10 rfl ?_
      refine ao_iadd (pc := 11) X dX12_lay_11 ?_
      refine ao_aload_n (pc := 12) X dX12_lay_12 rfl ?_
      refine ao_iload_n (pc := 13) X dX12_lay_13 rfl ?_
      refine ao_iald (pc := 14) X dX12_lay_14 sa_139 ?_
      refine ao_iast (pc := 15) X dX12_lay_15 sa_138 ?_
      refine ao_lt (fun m1 => ?_)
      refine ao_iinc (pc := 16) (k := 3) (v := p3 + (1 : Int32)) (lv' := [(3, .int (p3 + (1 : Int32))), (0, .ref (eAd E 139)), (1, .ref (eAd E 138)), (2, .int p2)]) X dX12_lay_16 rfl (ii_ic ic_1) (by decide) rfl ?_
      refine ao_goto (pc := 19) (tgt := 2) X dX12_lay_19 (by decide) ?_
      refine ao_sub [1, 2, 3, 0] rfl ?_
      exact ih p2 (p3 + (1 : Int32)) m1
def fX12_lay_139_138 (v2 : Int32) (μ : Mem) : Option (Unit × Mem) :=
  fX12_lay_139_138_b2 FU v2 (0 : Int32) μ
set_option maxRecDepth 100000 in
set_option maxHeartbeats 4000000 in
theorem mX12_lay_139_138 {E : En} {l : Launch} (hI : Inj E) (v2 : Int32) (μ : Mem) : MtV E l yX12_lay cX12_lay 4 (none) 1 [.ref (eAd E 139), .ref (eAd E 138), .int v2] μ (fX12_lay_139_138 v2 μ) := by
  refine mtV_of (own := RX12) [(0, .ref (eAd E 139)), (1, .ref (eAd E 138)), (2, .int v2)] hI rfl (by decide) (Nat.le_of_ble_eq_true rfl) (Nat.le_of_ble_eq_true rfl) rfl (fun Z hl0 X hr => ?_)
  unfold fX12_lay_139_138
  refine ao_iconst (pc := 0) X dX12_lay_0 ic_0 ?_
  refine ao_istore_n (pc := 1) (lv' := [(3, .int (0 : Int32)), (0, .ref (eAd E 139)), (1, .ref (eAd E 138)), (2, .int v2)]) X dX12_lay_1 rfl (by decide) rfl ?_
  refine ao_sub [1, 2, 3, 0] rfl ?_
  exact bX12_lay_139_138_2 hI hl0 X hr FU v2 (0 : Int32) μ
def fX12_remember_122_139_b49 (μ : Mem) : Option (Unit × Mem) :=
  bnd (fX12_lay_139_138 ((27 : Int32) * (gI μ 122 29)) μ) fun r1 m2 =>
  lt (sI m2 122 29 ((gI m2 122 29) + (1 : Int32))) fun m3 =>
  some ((), m3)
set_option maxRecDepth 100000 in
set_option maxHeartbeats 4000000 in
theorem bX12_remember_122_139_49 {E : En} {l : Launch} {Z : Zt} (hI : Inj E) (hl0 : lZ l Z) (X : Cx E Z cX12_remember RX12 3 2) (hr : rtOf Z = none) (μ : Mem) : AO E Z 3 (QV E Z) 49 [(0, .ref (eAd E 122)), (1, .ref (eAd E 139))] [] μ (fX12_remember_122_139_b49 μ) := by
  unfold fX12_remember_122_139_b49
  refine ao_aload_n (pc := 49) X dX12_remember_49 rfl ?_
  refine ao_aload_n (pc := 50) X dX12_remember_50 rfl ?_
  refine ao_getR (pc := 51) X dX12_remember_51 fl_RX12_62 sf_122_28 ?_
  refine ao_bipush (pc := 54) X dX12_remember_54 bp_27 ?_
  refine ao_aload_n (pc := 56) X dX12_remember_56 rfl ?_
  refine ao_getI (pc := 57) X dX12_remember_57 fl_RX12_175 sf_122_29 ?_
  refine ao_imul (pc := 60) X dX12_remember_60 ?_
  refine ao_callSV (pc := 61) (As := [.ref (eAd E 139), .ref (eAd E 138), .int ((27 : Int32) * (gI μ 122 29))]) (st := []) X hl0 dX12_remember_61 yv_X12_lay ml_RX12_242 (mX12_lay_139_138 hI ((27 : Int32) * (gI μ 122 29)) μ) (Nat.le_of_ble_eq_true rfl) rfl rfl (Nat.le_of_ble_eq_true rfl) (fun r1 m2 => ?_)
  refine ao_aload_n (pc := 64) X dX12_remember_64 rfl ?_
  refine ao_dup (pc := 65) X dX12_remember_65 rfl ?_
  refine ao_getI (pc := 66) X dX12_remember_66 fl_RX12_175 sf_122_29 ?_
  refine ao_iconst (pc := 69) X dX12_remember_69 ic_1 ?_
  refine ao_iadd (pc := 70) X dX12_remember_70 ?_
  refine ao_putI (pc := 71) X dX12_remember_71 fp_RX12_175 sf_122_29 ?_
  refine ao_lt (fun m3 => ?_)
  exact ao_vret (pc := 74) X hr dX12_remember_74
def fX12_remember_122_139_b11 : Nat → Int32 → Mem → Option (Unit × Mem)
  | 0, _, _ => none
  | n + 1, p2, μ =>
  if (297 : Int32) ≤ p2 then (lt (sI μ 122 29 ((gI μ 122 29) - (1 : Int32))) fun m4 =>
    fX12_remember_122_139_b49 m4)
  else gd (inb (p2 + (27 : Int32)) 324) (gd (inb p2 324) (lt (sI μ 138 (ix p2) (gI μ 138 (ix (p2 + (27 : Int32))))) fun m5 =>
    fX12_remember_122_139_b11 n (p2 + (1 : Int32)) m5))
set_option maxRecDepth 100000 in
set_option maxHeartbeats 4000000 in
theorem bX12_remember_122_139_11 {E : En} {l : Launch} {Z : Zt} (hI : Inj E) (hl0 : lZ l Z) (X : Cx E Z cX12_remember RX12 3 2) (hr : rtOf Z = none) : ∀ (n : Nat) (p2 : Int32) (μ : Mem), AO E Z 3 (QV E Z) 11 [(0, .ref (eAd E 122)), (1, .ref (eAd E 139)), (2, .int p2)] [] μ (fX12_remember_122_139_b11 n p2 μ) := by
  intro n
  induction n with
  | zero =>
    intros
    exact ao_none
  | succ n ih =>
    intro p2 μ
    rw [fX12_remember_122_139_b11]
    refine ao_iload_n (pc := 11) X dX12_remember_11 rfl ?_
    refine ao_sipush (pc := 12) X dX12_remember_12 sp_297 ?_
    refine ao_icmp_ge (pc := 15) (tgt := 39) X dX12_remember_15 (by decide) (fun _ => ?_) (fun _ => ?_)
    · refine ao_aload_n (pc := 39) X dX12_remember_39 rfl ?_
      refine ao_dup (pc := 40) X dX12_remember_40 rfl ?_
      refine ao_getI (pc := 41) X dX12_remember_41 fl_RX12_175 sf_122_29 ?_
      refine ao_iconst (pc := 44) X dX12_remember_44 ic_1 ?_
      refine ao_isub (pc := 45) X dX12_remember_45 ?_
      refine ao_putI (pc := 46) X dX12_remember_46 fp_RX12_175 sf_122_29 ?_
      refine ao_lt (fun m4 => ?_)
      refine ao_sub [0, 1] rfl ?_
      exact bX12_remember_122_139_49 hI hl0 X hr m4
    · refine ao_aload_n (pc := 18) X dX12_remember_18 rfl ?_
      refine ao_getR (pc := 19) X dX12_remember_19 fl_RX12_62 sf_122_28 ?_
      refine ao_iload_n (pc := 22) X dX12_remember_22 rfl ?_
      refine ao_aload_n (pc := 23) X dX12_remember_23 rfl ?_
      refine ao_getR (pc := 24) X dX12_remember_24 fl_RX12_62 sf_122_28 ?_
      refine ao_iload_n (pc := 27) X dX12_remember_27 rfl ?_
      refine ao_bipush (pc := 28) X dX12_remember_28 bp_27 ?_
      refine ao_iadd (pc := 30) X dX12_remember_30 ?_
      refine ao_iald (pc := 31) X dX12_remember_31 sa_138 ?_
      refine ao_iast (pc := 32) X dX12_remember_32 sa_138 ?_
      refine ao_lt (fun m5 => ?_)
      refine ao_iinc (pc := 33) (k := 2) (v := p2 + (1 : Int32)) (lv' := [(2, .int (p2 + (1 : Int32))), (0, .ref (eAd E 122)), (1, .ref (eAd E 139))]) X dX12_remember_33 rfl (ii_ic ic_1) (by decide) rfl ?_
      refine ao_goto (pc := 36) (tgt := 11) X dX12_remember_36 (by decide) ?_
      refine ao_sub [1, 2, 0] rfl ?_
      exact ih (p2 + (1 : Int32)) m5
def fX12_remember_122_139 (μ : Mem) : Option (Unit × Mem) :=
  if (gI μ 122 29) = (12 : Int32) then (fX12_remember_122_139_b11 FU (0 : Int32) μ)
  else fX12_remember_122_139_b49 μ
set_option maxRecDepth 100000 in
set_option maxHeartbeats 4000000 in
theorem mX12_remember_122_139 {E : En} {l : Launch} (hI : Inj E) (μ : Mem) : MtV E l yX12_remember cX12_remember 3 (none) 2 [.ref (eAd E 122), .ref (eAd E 139)] μ (fX12_remember_122_139 μ) := by
  refine mtV_of (own := RX12) [(0, .ref (eAd E 122)), (1, .ref (eAd E 139))] hI rfl (by decide) (Nat.le_of_ble_eq_true rfl) (Nat.le_of_ble_eq_true rfl) rfl (fun Z hl0 X hr => ?_)
  unfold fX12_remember_122_139
  refine ao_aload_n (pc := 0) X dX12_remember_0 rfl ?_
  refine ao_getI (pc := 1) X dX12_remember_1 fl_RX12_175 sf_122_29 ?_
  refine ao_bipush (pc := 4) X dX12_remember_4 bp_12 ?_
  refine ao_icmp_ne (pc := 6) (tgt := 49) X dX12_remember_6 (by decide) (fun _ => ?_) (fun _ => ?_)
  · refine ao_sub [0, 1] rfl ?_
    exact bX12_remember_122_139_49 hI hl0 X hr μ
  · refine ao_iconst (pc := 9) X dX12_remember_9 ic_0 ?_
    refine ao_istore_n (pc := 10) (lv' := [(2, .int (0 : Int32)), (0, .ref (eAd E 122)), (1, .ref (eAd E 139))]) X dX12_remember_10 rfl (by decide) rfl ?_
    refine ao_sub [1, 2, 0] rfl ?_
    exact bX12_remember_122_139_11 hI hl0 X hr FU (0 : Int32) μ
def fX12_assize_122_b159 (p3 : Int32) (q0 : Int64) (μ : Mem) : Option (Int32 × Mem) :=
  bnd (fX12_tell_122 q0 μ) fun r21 m22 =>
  gd (inb (26 : Int32) 27) (bnd (fX12_tell_122 (Int32.toInt64 (gI m22 123 (ix (26 : Int32)))) m22) fun r23 m24 =>
  some (p3, m24))
set_option maxRecDepth 100000 in
set_option maxHeartbeats 4000000 in
theorem bX12_assize_122_159 {E : En} {l : Launch} {Z : Zt} (hI : Inj E) (hl0 : lZ l Z) (X : Cx E Z cX12_assize RX12 4 413) (hr : rtOf Z = some .int) (p3 : Int32) (q0 : Int64) (μ : Mem) : AO E Z 4 (QI E Z) 159 [(0, .ref (eAd E 122)), (3, .int p3)] [.long q0, .ref (eAd E 122)] μ (fX12_assize_122_b159 p3 q0 μ) := by
  unfold fX12_assize_122_b159
  refine ao_callVV (pc := 159) (As := [.long q0]) (st := []) X hl0 dX12_assize_159 yv_X12_tell so_122 ml_RX12_267 (mX12_tell_122 hI q0 μ) (Nat.le_of_ble_eq_true rfl) rfl rfl (Nat.le_of_ble_eq_true rfl) (fun r21 m22 => ?_)
  refine ao_aload_n (pc := 162) X dX12_assize_162 rfl ?_
  refine ao_aload_n (pc := 163) X dX12_assize_163 rfl ?_
  refine ao_getR (pc := 164) X dX12_assize_164 fl_RX12_9 sf_122_0 ?_
  refine ao_bipush (pc := 167) X dX12_assize_167 bp_26 ?_
  refine ao_iald (pc := 169) X dX12_assize_169 sa_123 ?_
  refine ao_i2l (pc := 170) X dX12_assize_170 ?_
  refine ao_callVV (pc := 171) (As := [.long (Int32.toInt64 (gI m22 123 (ix (26 : Int32))))]) (st := []) X hl0 dX12_assize_171 yv_X12_tell so_122 ml_RX12_267 (mX12_tell_122 hI (Int32.toInt64 (gI m22 123 (ix (26 : Int32)))) m22) (Nat.le_of_ble_eq_true rfl) rfl rfl (Nat.le_of_ble_eq_true rfl) (fun r23 m24 => ?_)
  refine ao_iload_n (pc := 174) X dX12_assize_174 rfl ?_
  exact ao_iret (pc := 175) X hr dX12_assize_175
def fX12_assize_122_b143 (p1 : Int32) (p3 : Int32) (μ : Mem) : Option (Int32 × Mem) :=
  lt (sI μ 122 16 (0 : Int32)) fun m20 =>
  if p1 ≤ p3 then (fX12_assize_122_b159 p3 (0 : Int64) m20)
  else fX12_assize_122_b159 p3 (1 : Int64) m20
set_option maxRecDepth 100000 in
set_option maxHeartbeats 4000000 in
theorem bX12_assize_122_143 {E : En} {l : Launch} {Z : Zt} (hI : Inj E) (hl0 : lZ l Z) (X : Cx E Z cX12_assize RX12 4 413) (hr : rtOf Z = some .int) (p1 : Int32) (p3 : Int32) (μ : Mem) : AO E Z 4 (QI E Z) 143 [(0, .ref (eAd E 122)), (1, .int p1), (3, .int p3)] [] μ (fX12_assize_122_b143 p1 p3 μ) := by
  unfold fX12_assize_122_b143
  refine ao_aload_n (pc := 143) X dX12_assize_143 rfl ?_
  refine ao_iconst (pc := 144) X dX12_assize_144 ic_0 ?_
  refine ao_putI (pc := 145) X dX12_assize_145 fp_RX12_98 sf_122_16 ?_
  refine ao_lt (fun m20 => ?_)
  refine ao_aload_n (pc := 148) X dX12_assize_148 rfl ?_
  refine ao_iload_n (pc := 149) X dX12_assize_149 rfl ?_
  refine ao_iload_n (pc := 150) X dX12_assize_150 rfl ?_
  refine ao_icmp_ge (pc := 151) (tgt := 158) X dX12_assize_151 (by decide) (fun _ => ?_) (fun _ => ?_)
  · refine ao_lconst (pc := 158) X dX12_assize_158 lc_0 ?_
    refine ao_sub [0, 2] rfl ?_
    exact bX12_assize_122_159 hI hl0 X hr p3 (0 : Int64) m20
  · refine ao_lconst (pc := 154) X dX12_assize_154 lc_1 ?_
    refine ao_goto (pc := 155) (tgt := 159) X dX12_assize_155 (by decide) ?_
    refine ao_sub [0, 2] rfl ?_
    exact bX12_assize_122_159 hI hl0 X hr p3 (1 : Int64) m20
def fX12_assize_122_b131 (p1 : Int32) (p3 : Int32) (μ : Mem) : Option (Int32 × Mem) :=
  if p3 ≤ 0 then (fX12_assize_122_b143 p1 p3 μ)
  else bnd (fX12_remember_122_139 μ) fun r18 m19 =>
    fX12_assize_122_b143 p1 p3 m19
set_option maxRecDepth 100000 in
set_option maxHeartbeats 4000000 in
theorem bX12_assize_122_131 {E : En} {l : Launch} {Z : Zt} (hI : Inj E) (hl0 : lZ l Z) (X : Cx E Z cX12_assize RX12 4 413) (hr : rtOf Z = some .int) (p1 : Int32) (p3 : Int32) (μ : Mem) : AO E Z 4 (QI E Z) 131 [(0, .ref (eAd E 122)), (1, .int p1), (3, .int p3)] [] μ (fX12_assize_122_b131 p1 p3 μ) := by
  unfold fX12_assize_122_b131
  refine ao_iload_n (pc := 131) X dX12_assize_131 rfl ?_
  refine ao_if_le (pc := 132) (tgt := 143) X dX12_assize_132 (by decide) (fun _ => ?_) (fun _ => ?_)
  · refine ao_sub [0, 1, 2] rfl ?_
    exact bX12_assize_122_143 hI hl0 X hr p1 p3 μ
  · refine ao_aload_n (pc := 135) X dX12_assize_135 rfl ?_
    refine ao_aload_n (pc := 136) X dX12_assize_136 rfl ?_
    refine ao_getR (pc := 137) X dX12_assize_137 fl_RX12_65 sf_122_30 ?_
    refine ao_callVV (pc := 140) (As := [.ref (eAd E 139)]) (st := []) X hl0 dX12_assize_140 yv_X12_remember so_122 ml_RX12_249 (mX12_remember_122_139 hI μ) (Nat.le_of_ble_eq_true rfl) rfl rfl (Nat.le_of_ble_eq_true rfl) (fun r18 m19 => ?_)
    refine ao_sub [0, 1, 2] rfl ?_
    exact bX12_assize_122_143 hI hl0 X hr p1 p3 m19
def fX12_assize_122_b85 : Nat → Int32 → Int32 → Mem → Option (Int32 × Mem)
  | 0, _, _, _ => none
  | n + 1, p1, p3, μ =>
  if p1 ≤ p3 then (fX12_assize_122_b131 p1 p3 μ)
  else gd (inb ((3 : Int32) * p3) 240) (gd (inb (((3 : Int32) * p3) + (1 : Int32)) 240) (gd (inb (((3 : Int32) * p3) + (2 : Int32)) 240) (bnd (fX12_act_122 (gI μ 141 (ix ((3 : Int32) * p3))) (gI μ 141 (ix (((3 : Int32) * p3) + (1 : Int32)))) (gI μ 141 (ix (((3 : Int32) * p3) + (2 : Int32)))) μ) fun r15 m16 =>
    if r15 = 0 then (fX12_assize_122_b131 p1 p3 m16)
    else fX12_assize_122_b85 n p1 (p3 + (1 : Int32)) m16)))
set_option maxRecDepth 100000 in
set_option maxHeartbeats 4000000 in
theorem bX12_assize_122_85 {E : En} {l : Launch} {Z : Zt} (hI : Inj E) (hl0 : lZ l Z) (X : Cx E Z cX12_assize RX12 4 413) (hr : rtOf Z = some .int) : ∀ (n : Nat) (p1 : Int32) (p3 : Int32) (μ : Mem), AO E Z 4 (QI E Z) 85 [(0, .ref (eAd E 122)), (1, .int p1), (3, .int p3)] [] μ (fX12_assize_122_b85 n p1 p3 μ) := by
  intro n
  induction n with
  | zero =>
    intros
    exact ao_none
  | succ n ih =>
    intro p1 p3 μ
    rw [fX12_assize_122_b85]
    refine ao_iload_n (pc := 85) X dX12_assize_85 rfl ?_
    refine ao_iload_n (pc := 86) X dX12_assize_86 rfl ?_
    refine ao_icmp_ge (pc := 87) (tgt := 131) X dX12_assize_87 (by decide) (fun _ => ?_) (fun _ => ?_)
    · refine ao_sub [0, 1, 2] rfl ?_
      exact bX12_assize_122_131 hI hl0 X hr p1 p3 μ
    · refine ao_aload_n (pc := 90) X dX12_assize_90 rfl ?_
      refine ao_aload_n (pc := 91) X dX12_assize_91 rfl ?_
      refine ao_getR (pc := 92) X dX12_assize_92 fl_RX12_71 sf_122_32 ?_
      refine ao_iconst (pc := 95) X dX12_assize_95 ic_3 ?_
      refine ao_iload_n (pc := 96) X dX12_assize_96 rfl ?_
      refine ao_imul (pc := 97) X dX12_assize_97 ?_
      refine ao_iald (pc := 98) X dX12_assize_98 sa_141 ?_
      refine ao_aload_n (pc := 99) X dX12_assize_99 rfl ?_
      refine ao_getR (pc := 100) X dX12_assize_100 fl_RX12_71 sf_122_32 ?_
      refine ao_iconst (pc := 103) X dX12_assize_103 ic_3 ?_
      refine ao_iload_n (pc := 104) X dX12_assize_104 rfl ?_
      refine ao_imul (pc := 105) X dX12_assize_105 ?_
      refine ao_iconst (pc := 106) X dX12_assize_106 ic_1 ?_
      refine ao_iadd (pc := 107) X dX12_assize_107 ?_
      refine ao_iald (pc := 108) X dX12_assize_108 sa_141 ?_
      refine ao_aload_n (pc := 109) X dX12_assize_109 rfl ?_
      refine ao_getR (pc := 110) X dX12_assize_110 fl_RX12_71 sf_122_32 ?_
      refine ao_iconst (pc := 113) X dX12_assize_113 ic_3 ?_
      refine ao_iload_n (pc := 114) X dX12_assize_114 rfl ?_
      refine ao_imul (pc := 115) X dX12_assize_115 ?_
      refine ao_iconst (pc := 116) X dX12_assize_116 ic_2 ?_
      refine ao_iadd (pc := 117) X dX12_assize_117 ?_
      refine ao_iald (pc := 118) X dX12_assize_118 sa_141 ?_
      refine ao_callVI (pc := 119) (As := [.int (gI μ 141 (ix ((3 : Int32) * p3))), .int (gI μ 141 (ix (((3 : Int32) * p3) + (1 : Int32)))), .int (gI μ 141 (ix (((3 : Int32) * p3) + (2 : Int32))))]) (st := []) X hl0 dX12_assize_119 yv_X12_act so_122 ml_RX12_280 (mX12_act_122 hI (gI μ 141 (ix ((3 : Int32) * p3))) (gI μ 141 (ix (((3 : Int32) * p3) + (1 : Int32)))) (gI μ 141 (ix (((3 : Int32) * p3) + (2 : Int32)))) μ) (Nat.le_of_ble_eq_true rfl) rfl rfl (Nat.le_of_ble_eq_true rfl) (fun r15 m16 => ?_)
      refine ao_if_eq (pc := 122) (tgt := 131) X dX12_assize_122 (by decide) (fun _ => ?_) (fun _ => ?_)
      · refine ao_sub [0, 1, 2] rfl ?_
        exact bX12_assize_122_131 hI hl0 X hr p1 p3 m16
      · refine ao_iinc (pc := 125) (k := 2) (v := p3 + (1 : Int32)) (lv' := [(3, .int (p3 + (1 : Int32))), (0, .ref (eAd E 122)), (1, .int p1)]) X dX12_assize_125 rfl (ii_ic ic_1) (by decide) rfl ?_
        refine ao_goto (pc := 128) (tgt := 85) X dX12_assize_128 (by decide) ?_
        refine ao_sub [1, 2, 0] rfl ?_
        exact ih p1 (p3 + (1 : Int32)) m16
def fX12_assize_122_b57 (p1 : Int32) (μ : Mem) : Option (Int32 × Mem) :=
  bnd (fX12_wasRight_122 μ) fun r11 m12 =>
  if r11 = 0 then (some (((-1 : Int32) - (gI m12 122 22)), m12))
  else bnd (fX12_lay_123_139 (0 : Int32) m12) fun r13 m14 =>
    fX12_assize_122_b85 FU p1 (0 : Int32) m14
set_option maxRecDepth 100000 in
set_option maxHeartbeats 4000000 in
theorem bX12_assize_122_57 {E : En} {l : Launch} {Z : Zt} (hI : Inj E) (hl0 : lZ l Z) (X : Cx E Z cX12_assize RX12 4 413) (hr : rtOf Z = some .int) (p1 : Int32) (μ : Mem) : AO E Z 4 (QI E Z) 57 [(0, .ref (eAd E 122)), (1, .int p1)] [] μ (fX12_assize_122_b57 p1 μ) := by
  unfold fX12_assize_122_b57
  refine ao_aload_n (pc := 57) X dX12_assize_57 rfl ?_
  refine ao_callVI (pc := 58) (As := []) (st := []) X hl0 dX12_assize_58 yv_X12_wasRight so_122 ml_RX12_172 (mX12_wasRight_122 hI μ) (Nat.le_of_ble_eq_true rfl) rfl rfl (Nat.le_of_ble_eq_true rfl) (fun r11 m12 => ?_)
  refine ao_if_ne (pc := 61) (tgt := 71) X dX12_assize_61 (by decide) (fun _ => ?_) (fun _ => ?_)
  · refine ao_aload_n (pc := 71) X dX12_assize_71 rfl ?_
    refine ao_getR (pc := 72) X dX12_assize_72 fl_RX12_9 sf_122_0 ?_
    refine ao_aload_n (pc := 75) X dX12_assize_75 rfl ?_
    refine ao_getR (pc := 76) X dX12_assize_76 fl_RX12_65 sf_122_30 ?_
    refine ao_iconst (pc := 79) X dX12_assize_79 ic_0 ?_
    refine ao_callSV (pc := 80) (As := [.ref (eAd E 123), .ref (eAd E 139), .int (0 : Int32)]) (st := []) X hl0 dX12_assize_80 yv_X12_lay ml_RX12_242 (mX12_lay_123_139 hI (0 : Int32) m12) (Nat.le_of_ble_eq_true rfl) rfl rfl (Nat.le_of_ble_eq_true rfl) (fun r13 m14 => ?_)
    refine ao_iconst (pc := 83) X dX12_assize_83 ic_0 ?_
    refine ao_istore_n (pc := 84) (lv' := [(3, .int (0 : Int32)), (0, .ref (eAd E 122)), (1, .int p1)]) X dX12_assize_84 rfl (by decide) rfl ?_
    refine ao_sub [1, 2, 0] rfl ?_
    exact bX12_assize_122_85 hI hl0 X hr FU p1 (0 : Int32) m14
  · refine ao_iconst (pc := 64) X dX12_assize_64 ic_m1 ?_
    refine ao_aload_n (pc := 65) X dX12_assize_65 rfl ?_
    refine ao_getI (pc := 66) X dX12_assize_66 fl_RX12_123 sf_122_22 ?_
    refine ao_isub (pc := 69) X dX12_assize_69 ?_
    exact ao_iret (pc := 70) X hr dX12_assize_70
def fX12_assize_122_b26 : Nat → Int32 → Int32 → Mem → Option (Int32 × Mem)
  | 0, _, _, _ => none
  | n + 1, p1, p2, μ =>
  if p2 = 0 then (fX12_assize_122_b57 p1 μ)
  else bnd (fX12_fine_122 μ) fun r4 m5 =>
    if r4 = 0 then (fX12_assize_122_b57 p1 m5)
    else bnd (fX12_readAct_122 ((3 : Int32) * p1) m5) fun r6 m7 =>
      bnd (fX12_passes_122 (59 : Int32) m7) fun r9 m10 =>
      fX12_assize_122_b26 n (p1 + (1 : Int32)) r9 m10
set_option maxRecDepth 100000 in
set_option maxHeartbeats 4000000 in
theorem bX12_assize_122_26 {E : En} {l : Launch} {Z : Zt} (hI : Inj E) (hl0 : lZ l Z) (X : Cx E Z cX12_assize RX12 4 413) (hr : rtOf Z = some .int) : ∀ (n : Nat) (p1 : Int32) (p2 : Int32) (μ : Mem), AO E Z 4 (QI E Z) 26 [(0, .ref (eAd E 122)), (1, .int p1), (2, .int p2)] [] μ (fX12_assize_122_b26 n p1 p2 μ) := by
  intro n
  induction n with
  | zero =>
    intros
    exact ao_none
  | succ n ih =>
    intro p1 p2 μ
    rw [fX12_assize_122_b26]
    refine ao_iload_n (pc := 26) X dX12_assize_26 rfl ?_
    refine ao_if_eq (pc := 27) (tgt := 57) X dX12_assize_27 (by decide) (fun _ => ?_) (fun _ => ?_)
    · refine ao_sub [0, 1] rfl ?_
      exact bX12_assize_122_57 hI hl0 X hr p1 μ
    · refine ao_aload_n (pc := 30) X dX12_assize_30 rfl ?_
      refine ao_callVI (pc := 31) (As := []) (st := []) X hl0 dX12_assize_31 yv_X12_fine so_122 ml_RX12_130 (mX12_fine_122 hI μ) (Nat.le_of_ble_eq_true rfl) rfl rfl (Nat.le_of_ble_eq_true rfl) (fun r4 m5 => ?_)
      refine ao_if_eq (pc := 34) (tgt := 57) X dX12_assize_34 (by decide) (fun _ => ?_) (fun _ => ?_)
      · refine ao_sub [0, 1] rfl ?_
        exact bX12_assize_122_57 hI hl0 X hr p1 m5
      · refine ao_aload_n (pc := 37) X dX12_assize_37 rfl ?_
        refine ao_iconst (pc := 38) X dX12_assize_38 ic_3 ?_
        refine ao_iload_n (pc := 39) X dX12_assize_39 rfl ?_
        refine ao_imul (pc := 40) X dX12_assize_40 ?_
        refine ao_callVV (pc := 41) (As := [.int ((3 : Int32) * p1)]) (st := []) X hl0 dX12_assize_41 yv_X12_readAct so_122 ml_RX12_277 (mX12_readAct_122 hI ((3 : Int32) * p1) m5) (Nat.le_of_ble_eq_true rfl) rfl rfl (Nat.le_of_ble_eq_true rfl) (fun r6 m7 => ?_)
        refine ao_iinc (pc := 44) (k := 1) (v := p1 + (1 : Int32)) (lv' := [(1, .int (p1 + (1 : Int32))), (0, .ref (eAd E 122)), (2, .int p2)]) X dX12_assize_44 rfl (ii_ic ic_1) (by decide) rfl ?_
        refine ao_aload_n (pc := 47) X dX12_assize_47 rfl ?_
        refine ao_bipush (pc := 48) X dX12_assize_48 bp_59 ?_
        refine ao_callVI (pc := 50) (As := [.int (59 : Int32)]) (st := []) X hl0 dX12_assize_50 yv_X12_passes so_122 ml_RX12_138 (mX12_passes_122 hI (59 : Int32) m7) (Nat.le_of_ble_eq_true rfl) rfl rfl (Nat.le_of_ble_eq_true rfl) (fun r9 m10 => ?_)
        refine ao_istore_n (pc := 53) (lv' := [(2, .int r9), (1, .int (p1 + (1 : Int32))), (0, .ref (eAd E 122))]) X dX12_assize_53 rfl (by decide) rfl ?_
        refine ao_goto (pc := 54) (tgt := 26) X dX12_assize_54 (by decide) ?_
        refine ao_sub [2, 1, 0] rfl ?_
        exact ih (p1 + (1 : Int32)) r9 m10
def fX12_assize_122 (μ : Mem) : Option (Int32 × Mem) :=
  lt (sI μ 122 17 (0 : Int32)) fun m1 =>
  bnd (fX12_beginText_122 (60 : Int32) m1) fun r2 m3 =>
  if (gI m3 122 19) ≤ 0 then (fX12_assize_122_b26 FU (0 : Int32) (0 : Int32) m3)
  else fX12_assize_122_b26 FU (0 : Int32) (1 : Int32) m3
set_option maxRecDepth 100000 in
set_option maxHeartbeats 4000000 in
theorem mX12_assize_122 {E : En} {l : Launch} (hI : Inj E) (μ : Mem) : MtI E l yX12_assize cX12_assize 4 (some .int) 413 [.ref (eAd E 122)] μ (fX12_assize_122 μ) := by
  refine mtI_of (own := RX12) [(0, .ref (eAd E 122))] hI rfl (by decide) (Nat.le_of_ble_eq_true rfl) (Nat.le_of_ble_eq_true rfl) rfl (fun Z hl0 X hr => ?_)
  unfold fX12_assize_122
  refine ao_aload_n (pc := 0) X dX12_assize_0 rfl ?_
  refine ao_iconst (pc := 1) X dX12_assize_1 ic_0 ?_
  refine ao_putI (pc := 2) X dX12_assize_2 fp_RX12_95 sf_122_17 ?_
  refine ao_lt (fun m1 => ?_)
  refine ao_aload_n (pc := 5) X dX12_assize_5 rfl ?_
  refine ao_bipush (pc := 6) X dX12_assize_6 bp_60 ?_
  refine ao_callVV (pc := 8) (As := [.int (60 : Int32)]) (st := []) X hl0 dX12_assize_8 yv_X12_beginText so_122 ml_RX12_162 (mX12_beginText_122 hI (60 : Int32) m1) (Nat.le_of_ble_eq_true rfl) rfl rfl (Nat.le_of_ble_eq_true rfl) (fun r2 m3 => ?_)
  refine ao_iconst (pc := 11) X dX12_assize_11 ic_0 ?_
  refine ao_istore_n (pc := 12) (lv' := [(1, .int (0 : Int32)), (0, .ref (eAd E 122))]) X dX12_assize_12 rfl (by decide) rfl ?_
  refine ao_aload_n (pc := 13) X dX12_assize_13 rfl ?_
  refine ao_getI (pc := 14) X dX12_assize_14 fl_RX12_114 sf_122_19 ?_
  refine ao_if_le (pc := 17) (tgt := 24) X dX12_assize_17 (by decide) (fun _ => ?_) (fun _ => ?_)
  · refine ao_iconst (pc := 24) X dX12_assize_24 ic_0 ?_
    refine ao_istore_n (pc := 25) (lv' := [(2, .int (0 : Int32)), (1, .int (0 : Int32)), (0, .ref (eAd E 122))]) X dX12_assize_25 rfl (by decide) rfl ?_
    refine ao_sub [2, 1, 0] rfl ?_
    exact bX12_assize_122_26 hI hl0 X hr FU (0 : Int32) (0 : Int32) m3
  · refine ao_iconst (pc := 20) X dX12_assize_20 ic_1 ?_
    refine ao_goto (pc := 21) (tgt := 25) X dX12_assize_21 (by decide) ?_
    refine ao_istore_n (pc := 25) (lv' := [(2, .int (1 : Int32)), (1, .int (0 : Int32)), (0, .ref (eAd E 122))]) X dX12_assize_25 rfl (by decide) rfl ?_
    refine ao_sub [2, 1, 0] rfl ?_
    exact bX12_assize_122_26 hI hl0 X hr FU (0 : Int32) (1 : Int32) m3
def fX4_take_33_103 (μ : Mem) : Option (Unit × Mem) :=
  gd (cpOK (0 : Int32) (0 : Int32) (6 : Int32) 6 6) (lt (sC μ 104 34 (ix (0 : Int32)) (ix (0 : Int32)) (ix (6 : Int32))) fun m1 =>
  gd (cpOK (0 : Int32) (0 : Int32) (6 : Int32) 6 6) (lt (sC m1 105 35 (ix (0 : Int32)) (ix (0 : Int32)) (ix (6 : Int32))) fun m2 =>
  gd (cpOK (0 : Int32) (0 : Int32) (6 : Int32) 6 6) (lt (sC m2 106 36 (ix (0 : Int32)) (ix (0 : Int32)) (ix (6 : Int32))) fun m3 =>
  gd (cpOK (0 : Int32) (0 : Int32) (8 : Int32) 8 8) (lt (sC m3 107 37 (ix (0 : Int32)) (ix (0 : Int32)) (ix (8 : Int32))) fun m4 =>
  lt (sI m4 33 4 (gI m4 103 4)) fun m5 =>
  lt (sI m5 33 5 (0 : Int32)) fun m6 =>
  some ((), m6)))))
set_option maxRecDepth 100000 in
set_option maxHeartbeats 4000000 in
theorem mX4_take_33_103 {E : En} {l : Launch} (hI : Inj E) (μ : Mem) : MtV E l yX4_take cX4_take 2 (none) 1 [.ref (eAd E 33), .ref (eAd E 103)] μ (fX4_take_33_103 μ) := by
  refine mtV_of (own := RX4) [(0, .ref (eAd E 33)), (1, .ref (eAd E 103))] hI rfl (by decide) (Nat.le_of_ble_eq_true rfl) (Nat.le_of_ble_eq_true rfl) rfl (fun Z hl0 X hr => ?_)
  unfold fX4_take_33_103
  refine ao_aload_n (pc := 0) X dX4_take_0 rfl ?_
  refine ao_getR (pc := 1) X dX4_take_1 fl_RX4_9 sf_103_0 ?_
  refine ao_iconst (pc := 4) X dX4_take_4 ic_0 ?_
  refine ao_aload_n (pc := 5) X dX4_take_5 rfl ?_
  refine ao_getR (pc := 6) X dX4_take_6 fl_RX4_9 sf_33_0 ?_
  refine ao_iconst (pc := 9) X dX4_take_9 ic_0 ?_
  refine ao_bipush (pc := 10) X dX4_take_10 bp_6 ?_
  refine ao_copy (pc := 12) X dX4_take_12 ml_RX4_43 CpyW_ok sa_104 sa_34 (Nat.le_of_ble_eq_true rfl) ?_
  refine ao_lt (fun m1 => ?_)
  refine ao_aload_n (pc := 15) X dX4_take_15 rfl ?_
  refine ao_getR (pc := 16) X dX4_take_16 fl_RX4_15 sf_103_1 ?_
  refine ao_iconst (pc := 19) X dX4_take_19 ic_0 ?_
  refine ao_aload_n (pc := 20) X dX4_take_20 rfl ?_
  refine ao_getR (pc := 21) X dX4_take_21 fl_RX4_15 sf_33_1 ?_
  refine ao_iconst (pc := 24) X dX4_take_24 ic_0 ?_
  refine ao_bipush (pc := 25) X dX4_take_25 bp_6 ?_
  refine ao_copy (pc := 27) X dX4_take_27 ml_RX4_43 CpyW_ok sa_105 sa_35 (Nat.le_of_ble_eq_true rfl) ?_
  refine ao_lt (fun m2 => ?_)
  refine ao_aload_n (pc := 30) X dX4_take_30 rfl ?_
  refine ao_getR (pc := 31) X dX4_take_31 fl_RX4_18 sf_103_2 ?_
  refine ao_iconst (pc := 34) X dX4_take_34 ic_0 ?_
  refine ao_aload_n (pc := 35) X dX4_take_35 rfl ?_
  refine ao_getR (pc := 36) X dX4_take_36 fl_RX4_18 sf_33_2 ?_
  refine ao_iconst (pc := 39) X dX4_take_39 ic_0 ?_
  refine ao_bipush (pc := 40) X dX4_take_40 bp_6 ?_
  refine ao_copy (pc := 42) X dX4_take_42 ml_RX4_43 CpyW_ok sa_106 sa_36 (Nat.le_of_ble_eq_true rfl) ?_
  refine ao_lt (fun m3 => ?_)
  refine ao_aload_n (pc := 45) X dX4_take_45 rfl ?_
  refine ao_getR (pc := 46) X dX4_take_46 fl_RX4_21 sf_103_3 ?_
  refine ao_iconst (pc := 49) X dX4_take_49 ic_0 ?_
  refine ao_aload_n (pc := 50) X dX4_take_50 rfl ?_
  refine ao_getR (pc := 51) X dX4_take_51 fl_RX4_21 sf_33_3 ?_
  refine ao_iconst (pc := 54) X dX4_take_54 ic_0 ?_
  refine ao_bipush (pc := 55) X dX4_take_55 bp_8 ?_
  refine ao_copy (pc := 57) X dX4_take_57 ml_RX4_43 CpyW_ok sa_107 sa_37 (Nat.le_of_ble_eq_true rfl) ?_
  refine ao_lt (fun m4 => ?_)
  refine ao_aload_n (pc := 60) X dX4_take_60 rfl ?_
  refine ao_aload_n (pc := 61) X dX4_take_61 rfl ?_
  refine ao_getI (pc := 62) X dX4_take_62 fl_RX4_24 sf_103_4 ?_
  refine ao_putI (pc := 65) X dX4_take_65 fp_RX4_24 sf_33_4 ?_
  refine ao_lt (fun m5 => ?_)
  refine ao_aload_n (pc := 68) X dX4_take_68 rfl ?_
  refine ao_iconst (pc := 69) X dX4_take_69 ic_0 ?_
  refine ao_putI (pc := 70) X dX4_take_70 fp_RX4_28 sf_33_5 ?_
  refine ao_lt (fun m6 => ?_)
  exact ao_vret (pc := 73) X hr dX4_take_73
def fX4_take_33_43 (μ : Mem) : Option (Unit × Mem) :=
  gd (cpOK (0 : Int32) (0 : Int32) (6 : Int32) 6 6) (lt (sC μ 44 34 (ix (0 : Int32)) (ix (0 : Int32)) (ix (6 : Int32))) fun m1 =>
  gd (cpOK (0 : Int32) (0 : Int32) (6 : Int32) 6 6) (lt (sC m1 45 35 (ix (0 : Int32)) (ix (0 : Int32)) (ix (6 : Int32))) fun m2 =>
  gd (cpOK (0 : Int32) (0 : Int32) (6 : Int32) 6 6) (lt (sC m2 46 36 (ix (0 : Int32)) (ix (0 : Int32)) (ix (6 : Int32))) fun m3 =>
  gd (cpOK (0 : Int32) (0 : Int32) (8 : Int32) 8 8) (lt (sC m3 47 37 (ix (0 : Int32)) (ix (0 : Int32)) (ix (8 : Int32))) fun m4 =>
  lt (sI m4 33 4 (gI m4 43 4)) fun m5 =>
  lt (sI m5 33 5 (0 : Int32)) fun m6 =>
  some ((), m6)))))
set_option maxRecDepth 100000 in
set_option maxHeartbeats 4000000 in
theorem mX4_take_33_43 {E : En} {l : Launch} (hI : Inj E) (μ : Mem) : MtV E l yX4_take cX4_take 2 (none) 1 [.ref (eAd E 33), .ref (eAd E 43)] μ (fX4_take_33_43 μ) := by
  refine mtV_of (own := RX4) [(0, .ref (eAd E 33)), (1, .ref (eAd E 43))] hI rfl (by decide) (Nat.le_of_ble_eq_true rfl) (Nat.le_of_ble_eq_true rfl) rfl (fun Z hl0 X hr => ?_)
  unfold fX4_take_33_43
  refine ao_aload_n (pc := 0) X dX4_take_0 rfl ?_
  refine ao_getR (pc := 1) X dX4_take_1 fl_RX4_9 sf_43_0 ?_
  refine ao_iconst (pc := 4) X dX4_take_4 ic_0 ?_
  refine ao_aload_n (pc := 5) X dX4_take_5 rfl ?_
  refine ao_getR (pc := 6) X dX4_take_6 fl_RX4_9 sf_33_0 ?_
  refine ao_iconst (pc := 9) X dX4_take_9 ic_0 ?_
  refine ao_bipush (pc := 10) X dX4_take_10 bp_6 ?_
  refine ao_copy (pc := 12) X dX4_take_12 ml_RX4_43 CpyW_ok sa_44 sa_34 (Nat.le_of_ble_eq_true rfl) ?_
  refine ao_lt (fun m1 => ?_)
  refine ao_aload_n (pc := 15) X dX4_take_15 rfl ?_
  refine ao_getR (pc := 16) X dX4_take_16 fl_RX4_15 sf_43_1 ?_
  refine ao_iconst (pc := 19) X dX4_take_19 ic_0 ?_
  refine ao_aload_n (pc := 20) X dX4_take_20 rfl ?_
  refine ao_getR (pc := 21) X dX4_take_21 fl_RX4_15 sf_33_1 ?_
  refine ao_iconst (pc := 24) X dX4_take_24 ic_0 ?_
  refine ao_bipush (pc := 25) X dX4_take_25 bp_6 ?_
  refine ao_copy (pc := 27) X dX4_take_27 ml_RX4_43 CpyW_ok sa_45 sa_35 (Nat.le_of_ble_eq_true rfl) ?_
  refine ao_lt (fun m2 => ?_)
  refine ao_aload_n (pc := 30) X dX4_take_30 rfl ?_
  refine ao_getR (pc := 31) X dX4_take_31 fl_RX4_18 sf_43_2 ?_
  refine ao_iconst (pc := 34) X dX4_take_34 ic_0 ?_
  refine ao_aload_n (pc := 35) X dX4_take_35 rfl ?_
  refine ao_getR (pc := 36) X dX4_take_36 fl_RX4_18 sf_33_2 ?_
  refine ao_iconst (pc := 39) X dX4_take_39 ic_0 ?_
  refine ao_bipush (pc := 40) X dX4_take_40 bp_6 ?_
  refine ao_copy (pc := 42) X dX4_take_42 ml_RX4_43 CpyW_ok sa_46 sa_36 (Nat.le_of_ble_eq_true rfl) ?_
  refine ao_lt (fun m3 => ?_)
  refine ao_aload_n (pc := 45) X dX4_take_45 rfl ?_
  refine ao_getR (pc := 46) X dX4_take_46 fl_RX4_21 sf_43_3 ?_
  refine ao_iconst (pc := 49) X dX4_take_49 ic_0 ?_
  refine ao_aload_n (pc := 50) X dX4_take_50 rfl ?_
  refine ao_getR (pc := 51) X dX4_take_51 fl_RX4_21 sf_33_3 ?_
  refine ao_iconst (pc := 54) X dX4_take_54 ic_0 ?_
  refine ao_bipush (pc := 55) X dX4_take_55 bp_8 ?_
  refine ao_copy (pc := 57) X dX4_take_57 ml_RX4_43 CpyW_ok sa_47 sa_37 (Nat.le_of_ble_eq_true rfl) ?_
  refine ao_lt (fun m4 => ?_)
  refine ao_aload_n (pc := 60) X dX4_take_60 rfl ?_
  refine ao_aload_n (pc := 61) X dX4_take_61 rfl ?_
  refine ao_getI (pc := 62) X dX4_take_62 fl_RX4_24 sf_43_4 ?_
  refine ao_putI (pc := 65) X dX4_take_65 fp_RX4_24 sf_33_4 ?_
  refine ao_lt (fun m5 => ?_)
  refine ao_aload_n (pc := 68) X dX4_take_68 rfl ?_
  refine ao_iconst (pc := 69) X dX4_take_69 ic_0 ?_
  refine ao_putI (pc := 70) X dX4_take_70 fp_RX4_28 sf_33_5 ?_
  refine ao_lt (fun m6 => ?_)
  exact ao_vret (pc := 73) X hr dX4_take_73
def fX4_take_33_48 (μ : Mem) : Option (Unit × Mem) :=
  gd (cpOK (0 : Int32) (0 : Int32) (6 : Int32) 6 6) (lt (sC μ 49 34 (ix (0 : Int32)) (ix (0 : Int32)) (ix (6 : Int32))) fun m1 =>
  gd (cpOK (0 : Int32) (0 : Int32) (6 : Int32) 6 6) (lt (sC m1 50 35 (ix (0 : Int32)) (ix (0 : Int32)) (ix (6 : Int32))) fun m2 =>
  gd (cpOK (0 : Int32) (0 : Int32) (6 : Int32) 6 6) (lt (sC m2 51 36 (ix (0 : Int32)) (ix (0 : Int32)) (ix (6 : Int32))) fun m3 =>
  gd (cpOK (0 : Int32) (0 : Int32) (8 : Int32) 8 8) (lt (sC m3 52 37 (ix (0 : Int32)) (ix (0 : Int32)) (ix (8 : Int32))) fun m4 =>
  lt (sI m4 33 4 (gI m4 48 4)) fun m5 =>
  lt (sI m5 33 5 (0 : Int32)) fun m6 =>
  some ((), m6)))))
set_option maxRecDepth 100000 in
set_option maxHeartbeats 4000000 in
theorem mX4_take_33_48 {E : En} {l : Launch} (hI : Inj E) (μ : Mem) : MtV E l yX4_take cX4_take 2 (none) 1 [.ref (eAd E 33), .ref (eAd E 48)] μ (fX4_take_33_48 μ) := by
  refine mtV_of (own := RX4) [(0, .ref (eAd E 33)), (1, .ref (eAd E 48))] hI rfl (by decide) (Nat.le_of_ble_eq_true rfl) (Nat.le_of_ble_eq_true rfl) rfl (fun Z hl0 X hr => ?_)
  unfold fX4_take_33_48
  refine ao_aload_n (pc := 0) X dX4_take_0 rfl ?_
  refine ao_getR (pc := 1) X dX4_take_1 fl_RX4_9 sf_48_0 ?_
  refine ao_iconst (pc := 4) X dX4_take_4 ic_0 ?_
  refine ao_aload_n (pc := 5) X dX4_take_5 rfl ?_
  refine ao_getR (pc := 6) X dX4_take_6 fl_RX4_9 sf_33_0 ?_
  refine ao_iconst (pc := 9) X dX4_take_9 ic_0 ?_
  refine ao_bipush (pc := 10) X dX4_take_10 bp_6 ?_
  refine ao_copy (pc := 12) X dX4_take_12 ml_RX4_43 CpyW_ok sa_49 sa_34 (Nat.le_of_ble_eq_true rfl) ?_
  refine ao_lt (fun m1 => ?_)
  refine ao_aload_n (pc := 15) X dX4_take_15 rfl ?_
  refine ao_getR (pc := 16) X dX4_take_16 fl_RX4_15 sf_48_1 ?_
  refine ao_iconst (pc := 19) X dX4_take_19 ic_0 ?_
  refine ao_aload_n (pc := 20) X dX4_take_20 rfl ?_
  refine ao_getR (pc := 21) X dX4_take_21 fl_RX4_15 sf_33_1 ?_
  refine ao_iconst (pc := 24) X dX4_take_24 ic_0 ?_
  refine ao_bipush (pc := 25) X dX4_take_25 bp_6 ?_
  refine ao_copy (pc := 27) X dX4_take_27 ml_RX4_43 CpyW_ok sa_50 sa_35 (Nat.le_of_ble_eq_true rfl) ?_
  refine ao_lt (fun m2 => ?_)
  refine ao_aload_n (pc := 30) X dX4_take_30 rfl ?_
  refine ao_getR (pc := 31) X dX4_take_31 fl_RX4_18 sf_48_2 ?_
  refine ao_iconst (pc := 34) X dX4_take_34 ic_0 ?_
  refine ao_aload_n (pc := 35) X dX4_take_35 rfl ?_
  refine ao_getR (pc := 36) X dX4_take_36 fl_RX4_18 sf_33_2 ?_
  refine ao_iconst (pc := 39) X dX4_take_39 ic_0 ?_
  refine ao_bipush (pc := 40) X dX4_take_40 bp_6 ?_
  refine ao_copy (pc := 42) X dX4_take_42 ml_RX4_43 CpyW_ok sa_51 sa_36 (Nat.le_of_ble_eq_true rfl) ?_
  refine ao_lt (fun m3 => ?_)
  refine ao_aload_n (pc := 45) X dX4_take_45 rfl ?_
  refine ao_getR (pc := 46) X dX4_take_46 fl_RX4_21 sf_48_3 ?_
  refine ao_iconst (pc := 49) X dX4_take_49 ic_0 ?_
  refine ao_aload_n (pc := 50) X dX4_take_50 rfl ?_
  refine ao_getR (pc := 51) X dX4_take_51 fl_RX4_21 sf_33_3 ?_
  refine ao_iconst (pc := 54) X dX4_take_54 ic_0 ?_
  refine ao_bipush (pc := 55) X dX4_take_55 bp_8 ?_
  refine ao_copy (pc := 57) X dX4_take_57 ml_RX4_43 CpyW_ok sa_52 sa_37 (Nat.le_of_ble_eq_true rfl) ?_
  refine ao_lt (fun m4 => ?_)
  refine ao_aload_n (pc := 60) X dX4_take_60 rfl ?_
  refine ao_aload_n (pc := 61) X dX4_take_61 rfl ?_
  refine ao_getI (pc := 62) X dX4_take_62 fl_RX4_24 sf_48_4 ?_
  refine ao_putI (pc := 65) X dX4_take_65 fp_RX4_24 sf_33_4 ?_
  refine ao_lt (fun m5 => ?_)
  refine ao_aload_n (pc := 68) X dX4_take_68 rfl ?_
  refine ao_iconst (pc := 69) X dX4_take_69 ic_0 ?_
  refine ao_putI (pc := 70) X dX4_take_70 fp_RX4_28 sf_33_5 ?_
  refine ao_lt (fun m6 => ?_)
  exact ao_vret (pc := 73) X hr dX4_take_73
def fX4_take_33_53 (μ : Mem) : Option (Unit × Mem) :=
  gd (cpOK (0 : Int32) (0 : Int32) (6 : Int32) 6 6) (lt (sC μ 54 34 (ix (0 : Int32)) (ix (0 : Int32)) (ix (6 : Int32))) fun m1 =>
  gd (cpOK (0 : Int32) (0 : Int32) (6 : Int32) 6 6) (lt (sC m1 55 35 (ix (0 : Int32)) (ix (0 : Int32)) (ix (6 : Int32))) fun m2 =>
  gd (cpOK (0 : Int32) (0 : Int32) (6 : Int32) 6 6) (lt (sC m2 56 36 (ix (0 : Int32)) (ix (0 : Int32)) (ix (6 : Int32))) fun m3 =>
  gd (cpOK (0 : Int32) (0 : Int32) (8 : Int32) 8 8) (lt (sC m3 57 37 (ix (0 : Int32)) (ix (0 : Int32)) (ix (8 : Int32))) fun m4 =>
  lt (sI m4 33 4 (gI m4 53 4)) fun m5 =>
  lt (sI m5 33 5 (0 : Int32)) fun m6 =>
  some ((), m6)))))
set_option maxRecDepth 100000 in
set_option maxHeartbeats 4000000 in
theorem mX4_take_33_53 {E : En} {l : Launch} (hI : Inj E) (μ : Mem) : MtV E l yX4_take cX4_take 2 (none) 1 [.ref (eAd E 33), .ref (eAd E 53)] μ (fX4_take_33_53 μ) := by
  refine mtV_of (own := RX4) [(0, .ref (eAd E 33)), (1, .ref (eAd E 53))] hI rfl (by decide) (Nat.le_of_ble_eq_true rfl) (Nat.le_of_ble_eq_true rfl) rfl (fun Z hl0 X hr => ?_)
  unfold fX4_take_33_53
  refine ao_aload_n (pc := 0) X dX4_take_0 rfl ?_
  refine ao_getR (pc := 1) X dX4_take_1 fl_RX4_9 sf_53_0 ?_
  refine ao_iconst (pc := 4) X dX4_take_4 ic_0 ?_
  refine ao_aload_n (pc := 5) X dX4_take_5 rfl ?_
  refine ao_getR (pc := 6) X dX4_take_6 fl_RX4_9 sf_33_0 ?_
  refine ao_iconst (pc := 9) X dX4_take_9 ic_0 ?_
  refine ao_bipush (pc := 10) X dX4_take_10 bp_6 ?_
  refine ao_copy (pc := 12) X dX4_take_12 ml_RX4_43 CpyW_ok sa_54 sa_34 (Nat.le_of_ble_eq_true rfl) ?_
  refine ao_lt (fun m1 => ?_)
  refine ao_aload_n (pc := 15) X dX4_take_15 rfl ?_
  refine ao_getR (pc := 16) X dX4_take_16 fl_RX4_15 sf_53_1 ?_
  refine ao_iconst (pc := 19) X dX4_take_19 ic_0 ?_
  refine ao_aload_n (pc := 20) X dX4_take_20 rfl ?_
  refine ao_getR (pc := 21) X dX4_take_21 fl_RX4_15 sf_33_1 ?_
  refine ao_iconst (pc := 24) X dX4_take_24 ic_0 ?_
  refine ao_bipush (pc := 25) X dX4_take_25 bp_6 ?_
  refine ao_copy (pc := 27) X dX4_take_27 ml_RX4_43 CpyW_ok sa_55 sa_35 (Nat.le_of_ble_eq_true rfl) ?_
  refine ao_lt (fun m2 => ?_)
  refine ao_aload_n (pc := 30) X dX4_take_30 rfl ?_
  refine ao_getR (pc := 31) X dX4_take_31 fl_RX4_18 sf_53_2 ?_
  refine ao_iconst (pc := 34) X dX4_take_34 ic_0 ?_
  refine ao_aload_n (pc := 35) X dX4_take_35 rfl ?_
  refine ao_getR (pc := 36) X dX4_take_36 fl_RX4_18 sf_33_2 ?_
  refine ao_iconst (pc := 39) X dX4_take_39 ic_0 ?_
  refine ao_bipush (pc := 40) X dX4_take_40 bp_6 ?_
  refine ao_copy (pc := 42) X dX4_take_42 ml_RX4_43 CpyW_ok sa_56 sa_36 (Nat.le_of_ble_eq_true rfl) ?_
  refine ao_lt (fun m3 => ?_)
  refine ao_aload_n (pc := 45) X dX4_take_45 rfl ?_
  refine ao_getR (pc := 46) X dX4_take_46 fl_RX4_21 sf_53_3 ?_
  refine ao_iconst (pc := 49) X dX4_take_49 ic_0 ?_
  refine ao_aload_n (pc := 50) X dX4_take_50 rfl ?_
  refine ao_getR (pc := 51) X dX4_take_51 fl_RX4_21 sf_33_3 ?_
  refine ao_iconst (pc := 54) X dX4_take_54 ic_0 ?_
  refine ao_bipush (pc := 55) X dX4_take_55 bp_8 ?_
  refine ao_copy (pc := 57) X dX4_take_57 ml_RX4_43 CpyW_ok sa_57 sa_37 (Nat.le_of_ble_eq_true rfl) ?_
  refine ao_lt (fun m4 => ?_)
  refine ao_aload_n (pc := 60) X dX4_take_60 rfl ?_
  refine ao_aload_n (pc := 61) X dX4_take_61 rfl ?_
  refine ao_getI (pc := 62) X dX4_take_62 fl_RX4_24 sf_53_4 ?_
  refine ao_putI (pc := 65) X dX4_take_65 fp_RX4_24 sf_33_4 ?_
  refine ao_lt (fun m5 => ?_)
  refine ao_aload_n (pc := 68) X dX4_take_68 rfl ?_
  refine ao_iconst (pc := 69) X dX4_take_69 ic_0 ?_
  refine ao_putI (pc := 70) X dX4_take_70 fp_RX4_28 sf_33_5 ?_
  refine ao_lt (fun m6 => ?_)
  exact ao_vret (pc := 73) X hr dX4_take_73
def fX4_take_33_58 (μ : Mem) : Option (Unit × Mem) :=
  gd (cpOK (0 : Int32) (0 : Int32) (6 : Int32) 6 6) (lt (sC μ 59 34 (ix (0 : Int32)) (ix (0 : Int32)) (ix (6 : Int32))) fun m1 =>
  gd (cpOK (0 : Int32) (0 : Int32) (6 : Int32) 6 6) (lt (sC m1 60 35 (ix (0 : Int32)) (ix (0 : Int32)) (ix (6 : Int32))) fun m2 =>
  gd (cpOK (0 : Int32) (0 : Int32) (6 : Int32) 6 6) (lt (sC m2 61 36 (ix (0 : Int32)) (ix (0 : Int32)) (ix (6 : Int32))) fun m3 =>
  gd (cpOK (0 : Int32) (0 : Int32) (8 : Int32) 8 8) (lt (sC m3 62 37 (ix (0 : Int32)) (ix (0 : Int32)) (ix (8 : Int32))) fun m4 =>
  lt (sI m4 33 4 (gI m4 58 4)) fun m5 =>
  lt (sI m5 33 5 (0 : Int32)) fun m6 =>
  some ((), m6)))))
set_option maxRecDepth 100000 in
set_option maxHeartbeats 4000000 in
theorem mX4_take_33_58 {E : En} {l : Launch} (hI : Inj E) (μ : Mem) : MtV E l yX4_take cX4_take 2 (none) 1 [.ref (eAd E 33), .ref (eAd E 58)] μ (fX4_take_33_58 μ) := by
  refine mtV_of (own := RX4) [(0, .ref (eAd E 33)), (1, .ref (eAd E 58))] hI rfl (by decide) (Nat.le_of_ble_eq_true rfl) (Nat.le_of_ble_eq_true rfl) rfl (fun Z hl0 X hr => ?_)
  unfold fX4_take_33_58
  refine ao_aload_n (pc := 0) X dX4_take_0 rfl ?_
  refine ao_getR (pc := 1) X dX4_take_1 fl_RX4_9 sf_58_0 ?_
  refine ao_iconst (pc := 4) X dX4_take_4 ic_0 ?_
  refine ao_aload_n (pc := 5) X dX4_take_5 rfl ?_
  refine ao_getR (pc := 6) X dX4_take_6 fl_RX4_9 sf_33_0 ?_
  refine ao_iconst (pc := 9) X dX4_take_9 ic_0 ?_
  refine ao_bipush (pc := 10) X dX4_take_10 bp_6 ?_
  refine ao_copy (pc := 12) X dX4_take_12 ml_RX4_43 CpyW_ok sa_59 sa_34 (Nat.le_of_ble_eq_true rfl) ?_
  refine ao_lt (fun m1 => ?_)
  refine ao_aload_n (pc := 15) X dX4_take_15 rfl ?_
  refine ao_getR (pc := 16) X dX4_take_16 fl_RX4_15 sf_58_1 ?_
  refine ao_iconst (pc := 19) X dX4_take_19 ic_0 ?_
  refine ao_aload_n (pc := 20) X dX4_take_20 rfl ?_
  refine ao_getR (pc := 21) X dX4_take_21 fl_RX4_15 sf_33_1 ?_
  refine ao_iconst (pc := 24) X dX4_take_24 ic_0 ?_
  refine ao_bipush (pc := 25) X dX4_take_25 bp_6 ?_
  refine ao_copy (pc := 27) X dX4_take_27 ml_RX4_43 CpyW_ok sa_60 sa_35 (Nat.le_of_ble_eq_true rfl) ?_
  refine ao_lt (fun m2 => ?_)
  refine ao_aload_n (pc := 30) X dX4_take_30 rfl ?_
  refine ao_getR (pc := 31) X dX4_take_31 fl_RX4_18 sf_58_2 ?_
  refine ao_iconst (pc := 34) X dX4_take_34 ic_0 ?_
  refine ao_aload_n (pc := 35) X dX4_take_35 rfl ?_
  refine ao_getR (pc := 36) X dX4_take_36 fl_RX4_18 sf_33_2 ?_
  refine ao_iconst (pc := 39) X dX4_take_39 ic_0 ?_
  refine ao_bipush (pc := 40) X dX4_take_40 bp_6 ?_
  refine ao_copy (pc := 42) X dX4_take_42 ml_RX4_43 CpyW_ok sa_61 sa_36 (Nat.le_of_ble_eq_true rfl) ?_
  refine ao_lt (fun m3 => ?_)
  refine ao_aload_n (pc := 45) X dX4_take_45 rfl ?_
  refine ao_getR (pc := 46) X dX4_take_46 fl_RX4_21 sf_58_3 ?_
  refine ao_iconst (pc := 49) X dX4_take_49 ic_0 ?_
  refine ao_aload_n (pc := 50) X dX4_take_50 rfl ?_
  refine ao_getR (pc := 51) X dX4_take_51 fl_RX4_21 sf_33_3 ?_
  refine ao_iconst (pc := 54) X dX4_take_54 ic_0 ?_
  refine ao_bipush (pc := 55) X dX4_take_55 bp_8 ?_
  refine ao_copy (pc := 57) X dX4_take_57 ml_RX4_43 CpyW_ok sa_62 sa_37 (Nat.le_of_ble_eq_true rfl) ?_
  refine ao_lt (fun m4 => ?_)
  refine ao_aload_n (pc := 60) X dX4_take_60 rfl ?_
  refine ao_aload_n (pc := 61) X dX4_take_61 rfl ?_
  refine ao_getI (pc := 62) X dX4_take_62 fl_RX4_24 sf_58_4 ?_
  refine ao_putI (pc := 65) X dX4_take_65 fp_RX4_24 sf_33_4 ?_
  refine ao_lt (fun m5 => ?_)
  refine ao_aload_n (pc := 68) X dX4_take_68 rfl ?_
  refine ao_iconst (pc := 69) X dX4_take_69 ic_0 ?_
  refine ao_putI (pc := 70) X dX4_take_70 fp_RX4_28 sf_33_5 ?_
  refine ao_lt (fun m6 => ?_)
  exact ao_vret (pc := 73) X hr dX4_take_73
def fX4_take_33_63 (μ : Mem) : Option (Unit × Mem) :=
  gd (cpOK (0 : Int32) (0 : Int32) (6 : Int32) 6 6) (lt (sC μ 64 34 (ix (0 : Int32)) (ix (0 : Int32)) (ix (6 : Int32))) fun m1 =>
  gd (cpOK (0 : Int32) (0 : Int32) (6 : Int32) 6 6) (lt (sC m1 65 35 (ix (0 : Int32)) (ix (0 : Int32)) (ix (6 : Int32))) fun m2 =>
  gd (cpOK (0 : Int32) (0 : Int32) (6 : Int32) 6 6) (lt (sC m2 66 36 (ix (0 : Int32)) (ix (0 : Int32)) (ix (6 : Int32))) fun m3 =>
  gd (cpOK (0 : Int32) (0 : Int32) (8 : Int32) 8 8) (lt (sC m3 67 37 (ix (0 : Int32)) (ix (0 : Int32)) (ix (8 : Int32))) fun m4 =>
  lt (sI m4 33 4 (gI m4 63 4)) fun m5 =>
  lt (sI m5 33 5 (0 : Int32)) fun m6 =>
  some ((), m6)))))
set_option maxRecDepth 100000 in
set_option maxHeartbeats 4000000 in
theorem mX4_take_33_63 {E : En} {l : Launch} (hI : Inj E) (μ : Mem) : MtV E l yX4_take cX4_take 2 (none) 1 [.ref (eAd E 33), .ref (eAd E 63)] μ (fX4_take_33_63 μ) := by
  refine mtV_of (own := RX4) [(0, .ref (eAd E 33)), (1, .ref (eAd E 63))] hI rfl (by decide) (Nat.le_of_ble_eq_true rfl) (Nat.le_of_ble_eq_true rfl) rfl (fun Z hl0 X hr => ?_)
  unfold fX4_take_33_63
  refine ao_aload_n (pc := 0) X dX4_take_0 rfl ?_
  refine ao_getR (pc := 1) X dX4_take_1 fl_RX4_9 sf_63_0 ?_
  refine ao_iconst (pc := 4) X dX4_take_4 ic_0 ?_
  refine ao_aload_n (pc := 5) X dX4_take_5 rfl ?_
  refine ao_getR (pc := 6) X dX4_take_6 fl_RX4_9 sf_33_0 ?_
  refine ao_iconst (pc := 9) X dX4_take_9 ic_0 ?_
  refine ao_bipush (pc := 10) X dX4_take_10 bp_6 ?_
  refine ao_copy (pc := 12) X dX4_take_12 ml_RX4_43 CpyW_ok sa_64 sa_34 (Nat.le_of_ble_eq_true rfl) ?_
  refine ao_lt (fun m1 => ?_)
  refine ao_aload_n (pc := 15) X dX4_take_15 rfl ?_
  refine ao_getR (pc := 16) X dX4_take_16 fl_RX4_15 sf_63_1 ?_
  refine ao_iconst (pc := 19) X dX4_take_19 ic_0 ?_
  refine ao_aload_n (pc := 20) X dX4_take_20 rfl ?_
  refine ao_getR (pc := 21) X dX4_take_21 fl_RX4_15 sf_33_1 ?_
  refine ao_iconst (pc := 24) X dX4_take_24 ic_0 ?_
  refine ao_bipush (pc := 25) X dX4_take_25 bp_6 ?_
  refine ao_copy (pc := 27) X dX4_take_27 ml_RX4_43 CpyW_ok sa_65 sa_35 (Nat.le_of_ble_eq_true rfl) ?_
  refine ao_lt (fun m2 => ?_)
  refine ao_aload_n (pc := 30) X dX4_take_30 rfl ?_
  refine ao_getR (pc := 31) X dX4_take_31 fl_RX4_18 sf_63_2 ?_
  refine ao_iconst (pc := 34) X dX4_take_34 ic_0 ?_
  refine ao_aload_n (pc := 35) X dX4_take_35 rfl ?_
  refine ao_getR (pc := 36) X dX4_take_36 fl_RX4_18 sf_33_2 ?_
  refine ao_iconst (pc := 39) X dX4_take_39 ic_0 ?_
  refine ao_bipush (pc := 40) X dX4_take_40 bp_6 ?_
  refine ao_copy (pc := 42) X dX4_take_42 ml_RX4_43 CpyW_ok sa_66 sa_36 (Nat.le_of_ble_eq_true rfl) ?_
  refine ao_lt (fun m3 => ?_)
  refine ao_aload_n (pc := 45) X dX4_take_45 rfl ?_
  refine ao_getR (pc := 46) X dX4_take_46 fl_RX4_21 sf_63_3 ?_
  refine ao_iconst (pc := 49) X dX4_take_49 ic_0 ?_
  refine ao_aload_n (pc := 50) X dX4_take_50 rfl ?_
  refine ao_getR (pc := 51) X dX4_take_51 fl_RX4_21 sf_33_3 ?_
  refine ao_iconst (pc := 54) X dX4_take_54 ic_0 ?_
  refine ao_bipush (pc := 55) X dX4_take_55 bp_8 ?_
  refine ao_copy (pc := 57) X dX4_take_57 ml_RX4_43 CpyW_ok sa_67 sa_37 (Nat.le_of_ble_eq_true rfl) ?_
  refine ao_lt (fun m4 => ?_)
  refine ao_aload_n (pc := 60) X dX4_take_60 rfl ?_
  refine ao_aload_n (pc := 61) X dX4_take_61 rfl ?_
  refine ao_getI (pc := 62) X dX4_take_62 fl_RX4_24 sf_63_4 ?_
  refine ao_putI (pc := 65) X dX4_take_65 fp_RX4_24 sf_33_4 ?_
  refine ao_lt (fun m5 => ?_)
  refine ao_aload_n (pc := 68) X dX4_take_68 rfl ?_
  refine ao_iconst (pc := 69) X dX4_take_69 ic_0 ?_
  refine ao_putI (pc := 70) X dX4_take_70 fp_RX4_28 sf_33_5 ?_
  refine ao_lt (fun m6 => ?_)
  exact ao_vret (pc := 73) X hr dX4_take_73
def fX4_take_33_68 (μ : Mem) : Option (Unit × Mem) :=
  gd (cpOK (0 : Int32) (0 : Int32) (6 : Int32) 6 6) (lt (sC μ 69 34 (ix (0 : Int32)) (ix (0 : Int32)) (ix (6 : Int32))) fun m1 =>
  gd (cpOK (0 : Int32) (0 : Int32) (6 : Int32) 6 6) (lt (sC m1 70 35 (ix (0 : Int32)) (ix (0 : Int32)) (ix (6 : Int32))) fun m2 =>
  gd (cpOK (0 : Int32) (0 : Int32) (6 : Int32) 6 6) (lt (sC m2 71 36 (ix (0 : Int32)) (ix (0 : Int32)) (ix (6 : Int32))) fun m3 =>
  gd (cpOK (0 : Int32) (0 : Int32) (8 : Int32) 8 8) (lt (sC m3 72 37 (ix (0 : Int32)) (ix (0 : Int32)) (ix (8 : Int32))) fun m4 =>
  lt (sI m4 33 4 (gI m4 68 4)) fun m5 =>
  lt (sI m5 33 5 (0 : Int32)) fun m6 =>
  some ((), m6)))))
set_option maxRecDepth 100000 in
set_option maxHeartbeats 4000000 in
theorem mX4_take_33_68 {E : En} {l : Launch} (hI : Inj E) (μ : Mem) : MtV E l yX4_take cX4_take 2 (none) 1 [.ref (eAd E 33), .ref (eAd E 68)] μ (fX4_take_33_68 μ) := by
  refine mtV_of (own := RX4) [(0, .ref (eAd E 33)), (1, .ref (eAd E 68))] hI rfl (by decide) (Nat.le_of_ble_eq_true rfl) (Nat.le_of_ble_eq_true rfl) rfl (fun Z hl0 X hr => ?_)
  unfold fX4_take_33_68
  refine ao_aload_n (pc := 0) X dX4_take_0 rfl ?_
  refine ao_getR (pc := 1) X dX4_take_1 fl_RX4_9 sf_68_0 ?_
  refine ao_iconst (pc := 4) X dX4_take_4 ic_0 ?_
  refine ao_aload_n (pc := 5) X dX4_take_5 rfl ?_
  refine ao_getR (pc := 6) X dX4_take_6 fl_RX4_9 sf_33_0 ?_
  refine ao_iconst (pc := 9) X dX4_take_9 ic_0 ?_
  refine ao_bipush (pc := 10) X dX4_take_10 bp_6 ?_
  refine ao_copy (pc := 12) X dX4_take_12 ml_RX4_43 CpyW_ok sa_69 sa_34 (Nat.le_of_ble_eq_true rfl) ?_
  refine ao_lt (fun m1 => ?_)
  refine ao_aload_n (pc := 15) X dX4_take_15 rfl ?_
  refine ao_getR (pc := 16) X dX4_take_16 fl_RX4_15 sf_68_1 ?_
  refine ao_iconst (pc := 19) X dX4_take_19 ic_0 ?_
  refine ao_aload_n (pc := 20) X dX4_take_20 rfl ?_
  refine ao_getR (pc := 21) X dX4_take_21 fl_RX4_15 sf_33_1 ?_
  refine ao_iconst (pc := 24) X dX4_take_24 ic_0 ?_
  refine ao_bipush (pc := 25) X dX4_take_25 bp_6 ?_
  refine ao_copy (pc := 27) X dX4_take_27 ml_RX4_43 CpyW_ok sa_70 sa_35 (Nat.le_of_ble_eq_true rfl) ?_
  refine ao_lt (fun m2 => ?_)
  refine ao_aload_n (pc := 30) X dX4_take_30 rfl ?_
  refine ao_getR (pc := 31) X dX4_take_31 fl_RX4_18 sf_68_2 ?_
  refine ao_iconst (pc := 34) X dX4_take_34 ic_0 ?_
  refine ao_aload_n (pc := 35) X dX4_take_35 rfl ?_
  refine ao_getR (pc := 36) X dX4_take_36 fl_RX4_18 sf_33_2 ?_
  refine ao_iconst (pc := 39) X dX4_take_39 ic_0 ?_
  refine ao_bipush (pc := 40) X dX4_take_40 bp_6 ?_
  refine ao_copy (pc := 42) X dX4_take_42 ml_RX4_43 CpyW_ok sa_71 sa_36 (Nat.le_of_ble_eq_true rfl) ?_
  refine ao_lt (fun m3 => ?_)
  refine ao_aload_n (pc := 45) X dX4_take_45 rfl ?_
  refine ao_getR (pc := 46) X dX4_take_46 fl_RX4_21 sf_68_3 ?_
  refine ao_iconst (pc := 49) X dX4_take_49 ic_0 ?_
  refine ao_aload_n (pc := 50) X dX4_take_50 rfl ?_
  refine ao_getR (pc := 51) X dX4_take_51 fl_RX4_21 sf_33_3 ?_
  refine ao_iconst (pc := 54) X dX4_take_54 ic_0 ?_
  refine ao_bipush (pc := 55) X dX4_take_55 bp_8 ?_
  refine ao_copy (pc := 57) X dX4_take_57 ml_RX4_43 CpyW_ok sa_72 sa_37 (Nat.le_of_ble_eq_true rfl) ?_
  refine ao_lt (fun m4 => ?_)
  refine ao_aload_n (pc := 60) X dX4_take_60 rfl ?_
  refine ao_aload_n (pc := 61) X dX4_take_61 rfl ?_
  refine ao_getI (pc := 62) X dX4_take_62 fl_RX4_24 sf_68_4 ?_
  refine ao_putI (pc := 65) X dX4_take_65 fp_RX4_24 sf_33_4 ?_
  refine ao_lt (fun m5 => ?_)
  refine ao_aload_n (pc := 68) X dX4_take_68 rfl ?_
  refine ao_iconst (pc := 69) X dX4_take_69 ic_0 ?_
  refine ao_putI (pc := 70) X dX4_take_70 fp_RX4_28 sf_33_5 ?_
  refine ao_lt (fun m6 => ?_)
  exact ao_vret (pc := 73) X hr dX4_take_73
def fX4_take_33_73 (μ : Mem) : Option (Unit × Mem) :=
  gd (cpOK (0 : Int32) (0 : Int32) (6 : Int32) 6 6) (lt (sC μ 74 34 (ix (0 : Int32)) (ix (0 : Int32)) (ix (6 : Int32))) fun m1 =>
  gd (cpOK (0 : Int32) (0 : Int32) (6 : Int32) 6 6) (lt (sC m1 75 35 (ix (0 : Int32)) (ix (0 : Int32)) (ix (6 : Int32))) fun m2 =>
  gd (cpOK (0 : Int32) (0 : Int32) (6 : Int32) 6 6) (lt (sC m2 76 36 (ix (0 : Int32)) (ix (0 : Int32)) (ix (6 : Int32))) fun m3 =>
  gd (cpOK (0 : Int32) (0 : Int32) (8 : Int32) 8 8) (lt (sC m3 77 37 (ix (0 : Int32)) (ix (0 : Int32)) (ix (8 : Int32))) fun m4 =>
  lt (sI m4 33 4 (gI m4 73 4)) fun m5 =>
  lt (sI m5 33 5 (0 : Int32)) fun m6 =>
  some ((), m6)))))
set_option maxRecDepth 100000 in
set_option maxHeartbeats 4000000 in
theorem mX4_take_33_73 {E : En} {l : Launch} (hI : Inj E) (μ : Mem) : MtV E l yX4_take cX4_take 2 (none) 1 [.ref (eAd E 33), .ref (eAd E 73)] μ (fX4_take_33_73 μ) := by
  refine mtV_of (own := RX4) [(0, .ref (eAd E 33)), (1, .ref (eAd E 73))] hI rfl (by decide) (Nat.le_of_ble_eq_true rfl) (Nat.le_of_ble_eq_true rfl) rfl (fun Z hl0 X hr => ?_)
  unfold fX4_take_33_73
  refine ao_aload_n (pc := 0) X dX4_take_0 rfl ?_
  refine ao_getR (pc := 1) X dX4_take_1 fl_RX4_9 sf_73_0 ?_
  refine ao_iconst (pc := 4) X dX4_take_4 ic_0 ?_
  refine ao_aload_n (pc := 5) X dX4_take_5 rfl ?_
  refine ao_getR (pc := 6) X dX4_take_6 fl_RX4_9 sf_33_0 ?_
  refine ao_iconst (pc := 9) X dX4_take_9 ic_0 ?_
  refine ao_bipush (pc := 10) X dX4_take_10 bp_6 ?_
  refine ao_copy (pc := 12) X dX4_take_12 ml_RX4_43 CpyW_ok sa_74 sa_34 (Nat.le_of_ble_eq_true rfl) ?_
  refine ao_lt (fun m1 => ?_)
  refine ao_aload_n (pc := 15) X dX4_take_15 rfl ?_
  refine ao_getR (pc := 16) X dX4_take_16 fl_RX4_15 sf_73_1 ?_
  refine ao_iconst (pc := 19) X dX4_take_19 ic_0 ?_
  refine ao_aload_n (pc := 20) X dX4_take_20 rfl ?_
  refine ao_getR (pc := 21) X dX4_take_21 fl_RX4_15 sf_33_1 ?_
  refine ao_iconst (pc := 24) X dX4_take_24 ic_0 ?_
  refine ao_bipush (pc := 25) X dX4_take_25 bp_6 ?_
  refine ao_copy (pc := 27) X dX4_take_27 ml_RX4_43 CpyW_ok sa_75 sa_35 (Nat.le_of_ble_eq_true rfl) ?_
  refine ao_lt (fun m2 => ?_)
  refine ao_aload_n (pc := 30) X dX4_take_30 rfl ?_
  refine ao_getR (pc := 31) X dX4_take_31 fl_RX4_18 sf_73_2 ?_
  refine ao_iconst (pc := 34) X dX4_take_34 ic_0 ?_
  refine ao_aload_n (pc := 35) X dX4_take_35 rfl ?_
  refine ao_getR (pc := 36) X dX4_take_36 fl_RX4_18 sf_33_2 ?_
  refine ao_iconst (pc := 39) X dX4_take_39 ic_0 ?_
  refine ao_bipush (pc := 40) X dX4_take_40 bp_6 ?_
  refine ao_copy (pc := 42) X dX4_take_42 ml_RX4_43 CpyW_ok sa_76 sa_36 (Nat.le_of_ble_eq_true rfl) ?_
  refine ao_lt (fun m3 => ?_)
  refine ao_aload_n (pc := 45) X dX4_take_45 rfl ?_
  refine ao_getR (pc := 46) X dX4_take_46 fl_RX4_21 sf_73_3 ?_
  refine ao_iconst (pc := 49) X dX4_take_49 ic_0 ?_
  refine ao_aload_n (pc := 50) X dX4_take_50 rfl ?_
  refine ao_getR (pc := 51) X dX4_take_51 fl_RX4_21 sf_33_3 ?_
  refine ao_iconst (pc := 54) X dX4_take_54 ic_0 ?_
  refine ao_bipush (pc := 55) X dX4_take_55 bp_8 ?_
  refine ao_copy (pc := 57) X dX4_take_57 ml_RX4_43 CpyW_ok sa_77 sa_37 (Nat.le_of_ble_eq_true rfl) ?_
  refine ao_lt (fun m4 => ?_)
  refine ao_aload_n (pc := 60) X dX4_take_60 rfl ?_
  refine ao_aload_n (pc := 61) X dX4_take_61 rfl ?_
  refine ao_getI (pc := 62) X dX4_take_62 fl_RX4_24 sf_73_4 ?_
  refine ao_putI (pc := 65) X dX4_take_65 fp_RX4_24 sf_33_4 ?_
  refine ao_lt (fun m5 => ?_)
  refine ao_aload_n (pc := 68) X dX4_take_68 rfl ?_
  refine ao_iconst (pc := 69) X dX4_take_69 ic_0 ?_
  refine ao_putI (pc := 70) X dX4_take_70 fp_RX4_28 sf_33_5 ?_
  refine ao_lt (fun m6 => ?_)
  exact ao_vret (pc := 73) X hr dX4_take_73
def fX4_take_33_78 (μ : Mem) : Option (Unit × Mem) :=
  gd (cpOK (0 : Int32) (0 : Int32) (6 : Int32) 6 6) (lt (sC μ 79 34 (ix (0 : Int32)) (ix (0 : Int32)) (ix (6 : Int32))) fun m1 =>
  gd (cpOK (0 : Int32) (0 : Int32) (6 : Int32) 6 6) (lt (sC m1 80 35 (ix (0 : Int32)) (ix (0 : Int32)) (ix (6 : Int32))) fun m2 =>
  gd (cpOK (0 : Int32) (0 : Int32) (6 : Int32) 6 6) (lt (sC m2 81 36 (ix (0 : Int32)) (ix (0 : Int32)) (ix (6 : Int32))) fun m3 =>
  gd (cpOK (0 : Int32) (0 : Int32) (8 : Int32) 8 8) (lt (sC m3 82 37 (ix (0 : Int32)) (ix (0 : Int32)) (ix (8 : Int32))) fun m4 =>
  lt (sI m4 33 4 (gI m4 78 4)) fun m5 =>
  lt (sI m5 33 5 (0 : Int32)) fun m6 =>
  some ((), m6)))))
set_option maxRecDepth 100000 in
set_option maxHeartbeats 4000000 in
theorem mX4_take_33_78 {E : En} {l : Launch} (hI : Inj E) (μ : Mem) : MtV E l yX4_take cX4_take 2 (none) 1 [.ref (eAd E 33), .ref (eAd E 78)] μ (fX4_take_33_78 μ) := by
  refine mtV_of (own := RX4) [(0, .ref (eAd E 33)), (1, .ref (eAd E 78))] hI rfl (by decide) (Nat.le_of_ble_eq_true rfl) (Nat.le_of_ble_eq_true rfl) rfl (fun Z hl0 X hr => ?_)
  unfold fX4_take_33_78
  refine ao_aload_n (pc := 0) X dX4_take_0 rfl ?_
  refine ao_getR (pc := 1) X dX4_take_1 fl_RX4_9 sf_78_0 ?_
  refine ao_iconst (pc := 4) X dX4_take_4 ic_0 ?_
  refine ao_aload_n (pc := 5) X dX4_take_5 rfl ?_
  refine ao_getR (pc := 6) X dX4_take_6 fl_RX4_9 sf_33_0 ?_
  refine ao_iconst (pc := 9) X dX4_take_9 ic_0 ?_
  refine ao_bipush (pc := 10) X dX4_take_10 bp_6 ?_
  refine ao_copy (pc := 12) X dX4_take_12 ml_RX4_43 CpyW_ok sa_79 sa_34 (Nat.le_of_ble_eq_true rfl) ?_
  refine ao_lt (fun m1 => ?_)
  refine ao_aload_n (pc := 15) X dX4_take_15 rfl ?_
  refine ao_getR (pc := 16) X dX4_take_16 fl_RX4_15 sf_78_1 ?_
  refine ao_iconst (pc := 19) X dX4_take_19 ic_0 ?_
  refine ao_aload_n (pc := 20) X dX4_take_20 rfl ?_
  refine ao_getR (pc := 21) X dX4_take_21 fl_RX4_15 sf_33_1 ?_
  refine ao_iconst (pc := 24) X dX4_take_24 ic_0 ?_
  refine ao_bipush (pc := 25) X dX4_take_25 bp_6 ?_
  refine ao_copy (pc := 27) X dX4_take_27 ml_RX4_43 CpyW_ok sa_80 sa_35 (Nat.le_of_ble_eq_true rfl) ?_
  refine ao_lt (fun m2 => ?_)
  refine ao_aload_n (pc := 30) X dX4_take_30 rfl ?_
  refine ao_getR (pc := 31) X dX4_take_31 fl_RX4_18 sf_78_2 ?_
  refine ao_iconst (pc := 34) X dX4_take_34 ic_0 ?_
  refine ao_aload_n (pc := 35) X dX4_take_35 rfl ?_
  refine ao_getR (pc := 36) X dX4_take_36 fl_RX4_18 sf_33_2 ?_
  refine ao_iconst (pc := 39) X dX4_take_39 ic_0 ?_
  refine ao_bipush (pc := 40) X dX4_take_40 bp_6 ?_
  refine ao_copy (pc := 42) X dX4_take_42 ml_RX4_43 CpyW_ok sa_81 sa_36 (Nat.le_of_ble_eq_true rfl) ?_
  refine ao_lt (fun m3 => ?_)
  refine ao_aload_n (pc := 45) X dX4_take_45 rfl ?_
  refine ao_getR (pc := 46) X dX4_take_46 fl_RX4_21 sf_78_3 ?_
  refine ao_iconst (pc := 49) X dX4_take_49 ic_0 ?_
  refine ao_aload_n (pc := 50) X dX4_take_50 rfl ?_
  refine ao_getR (pc := 51) X dX4_take_51 fl_RX4_21 sf_33_3 ?_
  refine ao_iconst (pc := 54) X dX4_take_54 ic_0 ?_
  refine ao_bipush (pc := 55) X dX4_take_55 bp_8 ?_
  refine ao_copy (pc := 57) X dX4_take_57 ml_RX4_43 CpyW_ok sa_82 sa_37 (Nat.le_of_ble_eq_true rfl) ?_
  refine ao_lt (fun m4 => ?_)
  refine ao_aload_n (pc := 60) X dX4_take_60 rfl ?_
  refine ao_aload_n (pc := 61) X dX4_take_61 rfl ?_
  refine ao_getI (pc := 62) X dX4_take_62 fl_RX4_24 sf_78_4 ?_
  refine ao_putI (pc := 65) X dX4_take_65 fp_RX4_24 sf_33_4 ?_
  refine ao_lt (fun m5 => ?_)
  refine ao_aload_n (pc := 68) X dX4_take_68 rfl ?_
  refine ao_iconst (pc := 69) X dX4_take_69 ic_0 ?_
  refine ao_putI (pc := 70) X dX4_take_70 fp_RX4_28 sf_33_5 ?_
  refine ao_lt (fun m6 => ?_)
  exact ao_vret (pc := 73) X hr dX4_take_73
def fX4_take_33_83 (μ : Mem) : Option (Unit × Mem) :=
  gd (cpOK (0 : Int32) (0 : Int32) (6 : Int32) 6 6) (lt (sC μ 84 34 (ix (0 : Int32)) (ix (0 : Int32)) (ix (6 : Int32))) fun m1 =>
  gd (cpOK (0 : Int32) (0 : Int32) (6 : Int32) 6 6) (lt (sC m1 85 35 (ix (0 : Int32)) (ix (0 : Int32)) (ix (6 : Int32))) fun m2 =>
  gd (cpOK (0 : Int32) (0 : Int32) (6 : Int32) 6 6) (lt (sC m2 86 36 (ix (0 : Int32)) (ix (0 : Int32)) (ix (6 : Int32))) fun m3 =>
  gd (cpOK (0 : Int32) (0 : Int32) (8 : Int32) 8 8) (lt (sC m3 87 37 (ix (0 : Int32)) (ix (0 : Int32)) (ix (8 : Int32))) fun m4 =>
  lt (sI m4 33 4 (gI m4 83 4)) fun m5 =>
  lt (sI m5 33 5 (0 : Int32)) fun m6 =>
  some ((), m6)))))
set_option maxRecDepth 100000 in
set_option maxHeartbeats 4000000 in
theorem mX4_take_33_83 {E : En} {l : Launch} (hI : Inj E) (μ : Mem) : MtV E l yX4_take cX4_take 2 (none) 1 [.ref (eAd E 33), .ref (eAd E 83)] μ (fX4_take_33_83 μ) := by
  refine mtV_of (own := RX4) [(0, .ref (eAd E 33)), (1, .ref (eAd E 83))] hI rfl (by decide) (Nat.le_of_ble_eq_true rfl) (Nat.le_of_ble_eq_true rfl) rfl (fun Z hl0 X hr => ?_)
  unfold fX4_take_33_83
  refine ao_aload_n (pc := 0) X dX4_take_0 rfl ?_
  refine ao_getR (pc := 1) X dX4_take_1 fl_RX4_9 sf_83_0 ?_
  refine ao_iconst (pc := 4) X dX4_take_4 ic_0 ?_
  refine ao_aload_n (pc := 5) X dX4_take_5 rfl ?_
  refine ao_getR (pc := 6) X dX4_take_6 fl_RX4_9 sf_33_0 ?_
  refine ao_iconst (pc := 9) X dX4_take_9 ic_0 ?_
  refine ao_bipush (pc := 10) X dX4_take_10 bp_6 ?_
  refine ao_copy (pc := 12) X dX4_take_12 ml_RX4_43 CpyW_ok sa_84 sa_34 (Nat.le_of_ble_eq_true rfl) ?_
  refine ao_lt (fun m1 => ?_)
  refine ao_aload_n (pc := 15) X dX4_take_15 rfl ?_
  refine ao_getR (pc := 16) X dX4_take_16 fl_RX4_15 sf_83_1 ?_
  refine ao_iconst (pc := 19) X dX4_take_19 ic_0 ?_
  refine ao_aload_n (pc := 20) X dX4_take_20 rfl ?_
  refine ao_getR (pc := 21) X dX4_take_21 fl_RX4_15 sf_33_1 ?_
  refine ao_iconst (pc := 24) X dX4_take_24 ic_0 ?_
  refine ao_bipush (pc := 25) X dX4_take_25 bp_6 ?_
  refine ao_copy (pc := 27) X dX4_take_27 ml_RX4_43 CpyW_ok sa_85 sa_35 (Nat.le_of_ble_eq_true rfl) ?_
  refine ao_lt (fun m2 => ?_)
  refine ao_aload_n (pc := 30) X dX4_take_30 rfl ?_
  refine ao_getR (pc := 31) X dX4_take_31 fl_RX4_18 sf_83_2 ?_
  refine ao_iconst (pc := 34) X dX4_take_34 ic_0 ?_
  refine ao_aload_n (pc := 35) X dX4_take_35 rfl ?_
  refine ao_getR (pc := 36) X dX4_take_36 fl_RX4_18 sf_33_2 ?_
  refine ao_iconst (pc := 39) X dX4_take_39 ic_0 ?_
  refine ao_bipush (pc := 40) X dX4_take_40 bp_6 ?_
  refine ao_copy (pc := 42) X dX4_take_42 ml_RX4_43 CpyW_ok sa_86 sa_36 (Nat.le_of_ble_eq_true rfl) ?_
  refine ao_lt (fun m3 => ?_)
  refine ao_aload_n (pc := 45) X dX4_take_45 rfl ?_
  refine ao_getR (pc := 46) X dX4_take_46 fl_RX4_21 sf_83_3 ?_
  refine ao_iconst (pc := 49) X dX4_take_49 ic_0 ?_
  refine ao_aload_n (pc := 50) X dX4_take_50 rfl ?_
  refine ao_getR (pc := 51) X dX4_take_51 fl_RX4_21 sf_33_3 ?_
  refine ao_iconst (pc := 54) X dX4_take_54 ic_0 ?_
  refine ao_bipush (pc := 55) X dX4_take_55 bp_8 ?_
  refine ao_copy (pc := 57) X dX4_take_57 ml_RX4_43 CpyW_ok sa_87 sa_37 (Nat.le_of_ble_eq_true rfl) ?_
  refine ao_lt (fun m4 => ?_)
  refine ao_aload_n (pc := 60) X dX4_take_60 rfl ?_
  refine ao_aload_n (pc := 61) X dX4_take_61 rfl ?_
  refine ao_getI (pc := 62) X dX4_take_62 fl_RX4_24 sf_83_4 ?_
  refine ao_putI (pc := 65) X dX4_take_65 fp_RX4_24 sf_33_4 ?_
  refine ao_lt (fun m5 => ?_)
  refine ao_aload_n (pc := 68) X dX4_take_68 rfl ?_
  refine ao_iconst (pc := 69) X dX4_take_69 ic_0 ?_
  refine ao_putI (pc := 70) X dX4_take_70 fp_RX4_28 sf_33_5 ?_
  refine ao_lt (fun m6 => ?_)
  exact ao_vret (pc := 73) X hr dX4_take_73
def fX4_take_33_88 (μ : Mem) : Option (Unit × Mem) :=
  gd (cpOK (0 : Int32) (0 : Int32) (6 : Int32) 6 6) (lt (sC μ 89 34 (ix (0 : Int32)) (ix (0 : Int32)) (ix (6 : Int32))) fun m1 =>
  gd (cpOK (0 : Int32) (0 : Int32) (6 : Int32) 6 6) (lt (sC m1 90 35 (ix (0 : Int32)) (ix (0 : Int32)) (ix (6 : Int32))) fun m2 =>
  gd (cpOK (0 : Int32) (0 : Int32) (6 : Int32) 6 6) (lt (sC m2 91 36 (ix (0 : Int32)) (ix (0 : Int32)) (ix (6 : Int32))) fun m3 =>
  gd (cpOK (0 : Int32) (0 : Int32) (8 : Int32) 8 8) (lt (sC m3 92 37 (ix (0 : Int32)) (ix (0 : Int32)) (ix (8 : Int32))) fun m4 =>
  lt (sI m4 33 4 (gI m4 88 4)) fun m5 =>
  lt (sI m5 33 5 (0 : Int32)) fun m6 =>
  some ((), m6)))))
set_option maxRecDepth 100000 in
set_option maxHeartbeats 4000000 in
theorem mX4_take_33_88 {E : En} {l : Launch} (hI : Inj E) (μ : Mem) : MtV E l yX4_take cX4_take 2 (none) 1 [.ref (eAd E 33), .ref (eAd E 88)] μ (fX4_take_33_88 μ) := by
  refine mtV_of (own := RX4) [(0, .ref (eAd E 33)), (1, .ref (eAd E 88))] hI rfl (by decide) (Nat.le_of_ble_eq_true rfl) (Nat.le_of_ble_eq_true rfl) rfl (fun Z hl0 X hr => ?_)
  unfold fX4_take_33_88
  refine ao_aload_n (pc := 0) X dX4_take_0 rfl ?_
  refine ao_getR (pc := 1) X dX4_take_1 fl_RX4_9 sf_88_0 ?_
  refine ao_iconst (pc := 4) X dX4_take_4 ic_0 ?_
  refine ao_aload_n (pc := 5) X dX4_take_5 rfl ?_
  refine ao_getR (pc := 6) X dX4_take_6 fl_RX4_9 sf_33_0 ?_
  refine ao_iconst (pc := 9) X dX4_take_9 ic_0 ?_
  refine ao_bipush (pc := 10) X dX4_take_10 bp_6 ?_
  refine ao_copy (pc := 12) X dX4_take_12 ml_RX4_43 CpyW_ok sa_89 sa_34 (Nat.le_of_ble_eq_true rfl) ?_
  refine ao_lt (fun m1 => ?_)
  refine ao_aload_n (pc := 15) X dX4_take_15 rfl ?_
  refine ao_getR (pc := 16) X dX4_take_16 fl_RX4_15 sf_88_1 ?_
  refine ao_iconst (pc := 19) X dX4_take_19 ic_0 ?_
  refine ao_aload_n (pc := 20) X dX4_take_20 rfl ?_
  refine ao_getR (pc := 21) X dX4_take_21 fl_RX4_15 sf_33_1 ?_
  refine ao_iconst (pc := 24) X dX4_take_24 ic_0 ?_
  refine ao_bipush (pc := 25) X dX4_take_25 bp_6 ?_
  refine ao_copy (pc := 27) X dX4_take_27 ml_RX4_43 CpyW_ok sa_90 sa_35 (Nat.le_of_ble_eq_true rfl) ?_
  refine ao_lt (fun m2 => ?_)
  refine ao_aload_n (pc := 30) X dX4_take_30 rfl ?_
  refine ao_getR (pc := 31) X dX4_take_31 fl_RX4_18 sf_88_2 ?_
  refine ao_iconst (pc := 34) X dX4_take_34 ic_0 ?_
  refine ao_aload_n (pc := 35) X dX4_take_35 rfl ?_
  refine ao_getR (pc := 36) X dX4_take_36 fl_RX4_18 sf_33_2 ?_
  refine ao_iconst (pc := 39) X dX4_take_39 ic_0 ?_
  refine ao_bipush (pc := 40) X dX4_take_40 bp_6 ?_
  refine ao_copy (pc := 42) X dX4_take_42 ml_RX4_43 CpyW_ok sa_91 sa_36 (Nat.le_of_ble_eq_true rfl) ?_
  refine ao_lt (fun m3 => ?_)
  refine ao_aload_n (pc := 45) X dX4_take_45 rfl ?_
  refine ao_getR (pc := 46) X dX4_take_46 fl_RX4_21 sf_88_3 ?_
  refine ao_iconst (pc := 49) X dX4_take_49 ic_0 ?_
  refine ao_aload_n (pc := 50) X dX4_take_50 rfl ?_
  refine ao_getR (pc := 51) X dX4_take_51 fl_RX4_21 sf_33_3 ?_
  refine ao_iconst (pc := 54) X dX4_take_54 ic_0 ?_
  refine ao_bipush (pc := 55) X dX4_take_55 bp_8 ?_
  refine ao_copy (pc := 57) X dX4_take_57 ml_RX4_43 CpyW_ok sa_92 sa_37 (Nat.le_of_ble_eq_true rfl) ?_
  refine ao_lt (fun m4 => ?_)
  refine ao_aload_n (pc := 60) X dX4_take_60 rfl ?_
  refine ao_aload_n (pc := 61) X dX4_take_61 rfl ?_
  refine ao_getI (pc := 62) X dX4_take_62 fl_RX4_24 sf_88_4 ?_
  refine ao_putI (pc := 65) X dX4_take_65 fp_RX4_24 sf_33_4 ?_
  refine ao_lt (fun m5 => ?_)
  refine ao_aload_n (pc := 68) X dX4_take_68 rfl ?_
  refine ao_iconst (pc := 69) X dX4_take_69 ic_0 ?_
  refine ao_putI (pc := 70) X dX4_take_70 fp_RX4_28 sf_33_5 ?_
  refine ao_lt (fun m6 => ?_)
  exact ao_vret (pc := 73) X hr dX4_take_73
def fX4_take_33_93 (μ : Mem) : Option (Unit × Mem) :=
  gd (cpOK (0 : Int32) (0 : Int32) (6 : Int32) 6 6) (lt (sC μ 94 34 (ix (0 : Int32)) (ix (0 : Int32)) (ix (6 : Int32))) fun m1 =>
  gd (cpOK (0 : Int32) (0 : Int32) (6 : Int32) 6 6) (lt (sC m1 95 35 (ix (0 : Int32)) (ix (0 : Int32)) (ix (6 : Int32))) fun m2 =>
  gd (cpOK (0 : Int32) (0 : Int32) (6 : Int32) 6 6) (lt (sC m2 96 36 (ix (0 : Int32)) (ix (0 : Int32)) (ix (6 : Int32))) fun m3 =>
  gd (cpOK (0 : Int32) (0 : Int32) (8 : Int32) 8 8) (lt (sC m3 97 37 (ix (0 : Int32)) (ix (0 : Int32)) (ix (8 : Int32))) fun m4 =>
  lt (sI m4 33 4 (gI m4 93 4)) fun m5 =>
  lt (sI m5 33 5 (0 : Int32)) fun m6 =>
  some ((), m6)))))
set_option maxRecDepth 100000 in
set_option maxHeartbeats 4000000 in
theorem mX4_take_33_93 {E : En} {l : Launch} (hI : Inj E) (μ : Mem) : MtV E l yX4_take cX4_take 2 (none) 1 [.ref (eAd E 33), .ref (eAd E 93)] μ (fX4_take_33_93 μ) := by
  refine mtV_of (own := RX4) [(0, .ref (eAd E 33)), (1, .ref (eAd E 93))] hI rfl (by decide) (Nat.le_of_ble_eq_true rfl) (Nat.le_of_ble_eq_true rfl) rfl (fun Z hl0 X hr => ?_)
  unfold fX4_take_33_93
  refine ao_aload_n (pc := 0) X dX4_take_0 rfl ?_
  refine ao_getR (pc := 1) X dX4_take_1 fl_RX4_9 sf_93_0 ?_
  refine ao_iconst (pc := 4) X dX4_take_4 ic_0 ?_
  refine ao_aload_n (pc := 5) X dX4_take_5 rfl ?_
  refine ao_getR (pc := 6) X dX4_take_6 fl_RX4_9 sf_33_0 ?_
  refine ao_iconst (pc := 9) X dX4_take_9 ic_0 ?_
  refine ao_bipush (pc := 10) X dX4_take_10 bp_6 ?_
  refine ao_copy (pc := 12) X dX4_take_12 ml_RX4_43 CpyW_ok sa_94 sa_34 (Nat.le_of_ble_eq_true rfl) ?_
  refine ao_lt (fun m1 => ?_)
  refine ao_aload_n (pc := 15) X dX4_take_15 rfl ?_
  refine ao_getR (pc := 16) X dX4_take_16 fl_RX4_15 sf_93_1 ?_
  refine ao_iconst (pc := 19) X dX4_take_19 ic_0 ?_
  refine ao_aload_n (pc := 20) X dX4_take_20 rfl ?_
  refine ao_getR (pc := 21) X dX4_take_21 fl_RX4_15 sf_33_1 ?_
  refine ao_iconst (pc := 24) X dX4_take_24 ic_0 ?_
  refine ao_bipush (pc := 25) X dX4_take_25 bp_6 ?_
  refine ao_copy (pc := 27) X dX4_take_27 ml_RX4_43 CpyW_ok sa_95 sa_35 (Nat.le_of_ble_eq_true rfl) ?_
  refine ao_lt (fun m2 => ?_)
  refine ao_aload_n (pc := 30) X dX4_take_30 rfl ?_
  refine ao_getR (pc := 31) X dX4_take_31 fl_RX4_18 sf_93_2 ?_
  refine ao_iconst (pc := 34) X dX4_take_34 ic_0 ?_
  refine ao_aload_n (pc := 35) X dX4_take_35 rfl ?_
  refine ao_getR (pc := 36) X dX4_take_36 fl_RX4_18 sf_33_2 ?_
  refine ao_iconst (pc := 39) X dX4_take_39 ic_0 ?_
  refine ao_bipush (pc := 40) X dX4_take_40 bp_6 ?_
  refine ao_copy (pc := 42) X dX4_take_42 ml_RX4_43 CpyW_ok sa_96 sa_36 (Nat.le_of_ble_eq_true rfl) ?_
  refine ao_lt (fun m3 => ?_)
  refine ao_aload_n (pc := 45) X dX4_take_45 rfl ?_
  refine ao_getR (pc := 46) X dX4_take_46 fl_RX4_21 sf_93_3 ?_
  refine ao_iconst (pc := 49) X dX4_take_49 ic_0 ?_
  refine ao_aload_n (pc := 50) X dX4_take_50 rfl ?_
  refine ao_getR (pc := 51) X dX4_take_51 fl_RX4_21 sf_33_3 ?_
  refine ao_iconst (pc := 54) X dX4_take_54 ic_0 ?_
  refine ao_bipush (pc := 55) X dX4_take_55 bp_8 ?_
  refine ao_copy (pc := 57) X dX4_take_57 ml_RX4_43 CpyW_ok sa_97 sa_37 (Nat.le_of_ble_eq_true rfl) ?_
  refine ao_lt (fun m4 => ?_)
  refine ao_aload_n (pc := 60) X dX4_take_60 rfl ?_
  refine ao_aload_n (pc := 61) X dX4_take_61 rfl ?_
  refine ao_getI (pc := 62) X dX4_take_62 fl_RX4_24 sf_93_4 ?_
  refine ao_putI (pc := 65) X dX4_take_65 fp_RX4_24 sf_33_4 ?_
  refine ao_lt (fun m5 => ?_)
  refine ao_aload_n (pc := 68) X dX4_take_68 rfl ?_
  refine ao_iconst (pc := 69) X dX4_take_69 ic_0 ?_
  refine ao_putI (pc := 70) X dX4_take_70 fp_RX4_28 sf_33_5 ?_
  refine ao_lt (fun m6 => ?_)
  exact ao_vret (pc := 73) X hr dX4_take_73
def fX4_take_33_98 (μ : Mem) : Option (Unit × Mem) :=
  gd (cpOK (0 : Int32) (0 : Int32) (6 : Int32) 6 6) (lt (sC μ 99 34 (ix (0 : Int32)) (ix (0 : Int32)) (ix (6 : Int32))) fun m1 =>
  gd (cpOK (0 : Int32) (0 : Int32) (6 : Int32) 6 6) (lt (sC m1 100 35 (ix (0 : Int32)) (ix (0 : Int32)) (ix (6 : Int32))) fun m2 =>
  gd (cpOK (0 : Int32) (0 : Int32) (6 : Int32) 6 6) (lt (sC m2 101 36 (ix (0 : Int32)) (ix (0 : Int32)) (ix (6 : Int32))) fun m3 =>
  gd (cpOK (0 : Int32) (0 : Int32) (8 : Int32) 8 8) (lt (sC m3 102 37 (ix (0 : Int32)) (ix (0 : Int32)) (ix (8 : Int32))) fun m4 =>
  lt (sI m4 33 4 (gI m4 98 4)) fun m5 =>
  lt (sI m5 33 5 (0 : Int32)) fun m6 =>
  some ((), m6)))))
set_option maxRecDepth 100000 in
set_option maxHeartbeats 4000000 in
theorem mX4_take_33_98 {E : En} {l : Launch} (hI : Inj E) (μ : Mem) : MtV E l yX4_take cX4_take 2 (none) 1 [.ref (eAd E 33), .ref (eAd E 98)] μ (fX4_take_33_98 μ) := by
  refine mtV_of (own := RX4) [(0, .ref (eAd E 33)), (1, .ref (eAd E 98))] hI rfl (by decide) (Nat.le_of_ble_eq_true rfl) (Nat.le_of_ble_eq_true rfl) rfl (fun Z hl0 X hr => ?_)
  unfold fX4_take_33_98
  refine ao_aload_n (pc := 0) X dX4_take_0 rfl ?_
  refine ao_getR (pc := 1) X dX4_take_1 fl_RX4_9 sf_98_0 ?_
  refine ao_iconst (pc := 4) X dX4_take_4 ic_0 ?_
  refine ao_aload_n (pc := 5) X dX4_take_5 rfl ?_
  refine ao_getR (pc := 6) X dX4_take_6 fl_RX4_9 sf_33_0 ?_
  refine ao_iconst (pc := 9) X dX4_take_9 ic_0 ?_
  refine ao_bipush (pc := 10) X dX4_take_10 bp_6 ?_
  refine ao_copy (pc := 12) X dX4_take_12 ml_RX4_43 CpyW_ok sa_99 sa_34 (Nat.le_of_ble_eq_true rfl) ?_
  refine ao_lt (fun m1 => ?_)
  refine ao_aload_n (pc := 15) X dX4_take_15 rfl ?_
  refine ao_getR (pc := 16) X dX4_take_16 fl_RX4_15 sf_98_1 ?_
  refine ao_iconst (pc := 19) X dX4_take_19 ic_0 ?_
  refine ao_aload_n (pc := 20) X dX4_take_20 rfl ?_
  refine ao_getR (pc := 21) X dX4_take_21 fl_RX4_15 sf_33_1 ?_
  refine ao_iconst (pc := 24) X dX4_take_24 ic_0 ?_
  refine ao_bipush (pc := 25) X dX4_take_25 bp_6 ?_
  refine ao_copy (pc := 27) X dX4_take_27 ml_RX4_43 CpyW_ok sa_100 sa_35 (Nat.le_of_ble_eq_true rfl) ?_
  refine ao_lt (fun m2 => ?_)
  refine ao_aload_n (pc := 30) X dX4_take_30 rfl ?_
  refine ao_getR (pc := 31) X dX4_take_31 fl_RX4_18 sf_98_2 ?_
  refine ao_iconst (pc := 34) X dX4_take_34 ic_0 ?_
  refine ao_aload_n (pc := 35) X dX4_take_35 rfl ?_
  refine ao_getR (pc := 36) X dX4_take_36 fl_RX4_18 sf_33_2 ?_
  refine ao_iconst (pc := 39) X dX4_take_39 ic_0 ?_
  refine ao_bipush (pc := 40) X dX4_take_40 bp_6 ?_
  refine ao_copy (pc := 42) X dX4_take_42 ml_RX4_43 CpyW_ok sa_101 sa_36 (Nat.le_of_ble_eq_true rfl) ?_
  refine ao_lt (fun m3 => ?_)
  refine ao_aload_n (pc := 45) X dX4_take_45 rfl ?_
  refine ao_getR (pc := 46) X dX4_take_46 fl_RX4_21 sf_98_3 ?_
  refine ao_iconst (pc := 49) X dX4_take_49 ic_0 ?_
  refine ao_aload_n (pc := 50) X dX4_take_50 rfl ?_
  refine ao_getR (pc := 51) X dX4_take_51 fl_RX4_21 sf_33_3 ?_
  refine ao_iconst (pc := 54) X dX4_take_54 ic_0 ?_
  refine ao_bipush (pc := 55) X dX4_take_55 bp_8 ?_
  refine ao_copy (pc := 57) X dX4_take_57 ml_RX4_43 CpyW_ok sa_102 sa_37 (Nat.le_of_ble_eq_true rfl) ?_
  refine ao_lt (fun m4 => ?_)
  refine ao_aload_n (pc := 60) X dX4_take_60 rfl ?_
  refine ao_aload_n (pc := 61) X dX4_take_61 rfl ?_
  refine ao_getI (pc := 62) X dX4_take_62 fl_RX4_24 sf_98_4 ?_
  refine ao_putI (pc := 65) X dX4_take_65 fp_RX4_24 sf_33_4 ?_
  refine ao_lt (fun m5 => ?_)
  refine ao_aload_n (pc := 68) X dX4_take_68 rfl ?_
  refine ao_iconst (pc := 69) X dX4_take_69 ic_0 ?_
  refine ao_putI (pc := 70) X dX4_take_70 fp_RX4_28 sf_33_5 ?_
  refine ao_lt (fun m6 => ?_)
  exact ao_vret (pc := 73) X hr dX4_take_73
