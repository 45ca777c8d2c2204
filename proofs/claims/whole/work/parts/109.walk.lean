def fX12_search_122_b69 (k36 : Int32 → Int32 → Int32 → Int32 → Int32 → Mem → Option (Int32 × Mem)) : Nat → Int32 → Int32 → Int32 → Int32 → Int32 → Int32 → Int32 → Int32 → Mem → Option (Int32 × Mem)
  | 0, _, _, _, _, _, _, _, _, _ => none
  | n + 1, p1, p2, p3, p4, p5, p6, p7, p8, μ =>
  gd (inb p1 6) (if (gI μ 128 (ix p1)) < p8 then (if (p6 + p7) = 0 then (some ((-2 : Int32), μ))
    else if (imax p6 p7) < p4 then (lt (imax p6 p7) fun x12 =>
        k36 p1 p2 p5 x12 (p5 + (1 : Int32)) μ)
      else k36 p1 p2 p3 p4 (p5 + (1 : Int32)) μ)
  else gd (inb p1 6) (if (p8 &&& ((gI μ 128 (ix p1)) ^^^ (-1 : Int32))) = 0 then (bnd (fX12_valuesOf_122 p8 μ) fun r16 m17 =>
      if r16 = p2 then (bnd (fX12_has p8 p5 m17) fun r18 m19 =>
        if r18 = 0 then (fX12_search_122_b69 k36 n p1 p2 p3 p4 p5 p6 (p7 + (1 : Int32)) (p8 + (1 : Int32)) m19)
        else fX12_search_122_b69 k36 n p1 p2 p3 p4 p5 (p6 + (1 : Int32)) p7 (p8 + (1 : Int32)) m19)
      else fX12_search_122_b69 k36 n p1 p2 p3 p4 p5 p6 p7 (p8 + (1 : Int32)) m17)
    else fX12_search_122_b69 k36 n p1 p2 p3 p4 p5 p6 p7 (p8 + (1 : Int32)) μ))
set_option maxRecDepth 100000 in
set_option maxHeartbeats 4000000 in
theorem bX12_search_122_69 {E : En} {l : Launch} {Z : Zt} (hI : Inj E) (hl0 : lZ l Z) (X : Cx E Z cX12_search RX12 9 3) (hr : rtOf Z = some .int) {k36 : Int32 → Int32 → Int32 → Int32 → Int32 → Mem → Option (Int32 × Mem)} (hk36 : ∀ (p1 : Int32) (p2 : Int32) (p3 : Int32) (p4 : Int32) (p5 : Int32) (m : Mem), AO E Z 9 (QI E Z) 36 [(0, .ref (eAd E 122)), (1, .int p1), (2, .int p2), (3, .int p3), (4, .int p4), (5, .int p5)] [] m (k36 p1 p2 p3 p4 p5 m)) : ∀ (n : Nat) (p1 : Int32) (p2 : Int32) (p3 : Int32) (p4 : Int32) (p5 : Int32) (p6 : Int32) (p7 : Int32) (p8 : Int32) (μ : Mem), AO E Z 9 (QI E Z) 69 [(0, .ref (eAd E 122)), (1, .int p1), (2, .int p2), (3, .int p3), (4, .int p4), (5, .int p5), (6, .int p6), (7, .int p7), (8, .int p8)] [] μ (fX12_search_122_b69 k36 n p1 p2 p3 p4 p5 p6 p7 p8 μ) := by
  intro n
  induction n with
  | zero =>
    intros
    exact ao_none
  | succ n ih =>
    intro p1 p2 p3 p4 p5 p6 p7 p8 μ
    rw [fX12_search_122_b69]
    refine ao_iload (pc := 69) X dX12_search_69 rfl ?_
    refine ao_aload_n (pc := 71) X dX12_search_71 rfl ?_
    refine ao_getR (pc := 72) X dX12_search_72 fl_RX12_26 sf_122_6 ?_
    refine ao_iload_n (pc := 75) X dX12_search_75 rfl ?_
    refine ao_iald (pc := 76) X dX12_search_76 sa_128 ?_
    refine ao_icmp_gt (pc := 77) (tgt := 132) X dX12_search_77 (by decide) (fun _ => ?_) (fun _ => ?_)
    · refine ao_iload (pc := 132) X dX12_search_132 rfl ?_
      refine ao_iload (pc := 134) X dX12_search_134 rfl ?_
      refine ao_iadd (pc := 136) X dX12_search_136 ?_
      refine ao_if_ne (pc := 137) (tgt := 143) X dX12_search_137 (by decide) (fun _ => ?_) (fun _ => ?_)
      · refine ao_iload (pc := 143) X dX12_search_143 rfl ?_
        refine ao_iload (pc := 145) X dX12_search_145 rfl ?_
        refine ao_max (pc := 147) X dX12_search_147 ml_RX12_217 MaxW_ok (Nat.le_of_ble_eq_true rfl) ?_
        refine ao_iload (pc := 150) X dX12_search_150 rfl ?_
        refine ao_icmp_lt (pc := 152) (tgt := 158) X dX12_search_152 (by decide) (fun _ => ?_) (fun _ => ?_)
        · refine ao_iload (pc := 158) X dX12_search_158 rfl ?_
          refine ao_istore_n (pc := 160) (lv' := [(3, .int p5), (0, .ref (eAd E 122)), (1, .int p1), (2, .int p2), (4, .int p4), (5, .int p5), (6, .int p6), (7, .int p7), (8, .int p8)]) X dX12_search_160 rfl (by decide) rfl ?_
          refine ao_iload (pc := 161) X dX12_search_161 rfl ?_
          refine ao_iload (pc := 163) X dX12_search_163 rfl ?_
          refine ao_max (pc := 165) X dX12_search_165 ml_RX12_217 MaxW_ok (Nat.le_of_ble_eq_true rfl) ?_
          refine ao_ltI (fun x12 => ?_)
          refine ao_istore (pc := 168) (lv' := [(4, .int x12), (3, .int p5), (0, .ref (eAd E 122)), (1, .int p1), (2, .int p2), (5, .int p5), (6, .int p6), (7, .int p7), (8, .int p8)]) X dX12_search_168 (by decide) rfl ?_
          refine ao_iinc (pc := 170) (k := 5) (v := p5 + (1 : Int32)) (lv' := [(5, .int (p5 + (1 : Int32))), (4, .int x12), (3, .int p5), (0, .ref (eAd E 122)), (1, .int p1), (2, .int p2), (6, .int p6), (7, .int p7), (8, .int p8)]) X dX12_search_170 rfl (ii_ic ic_1) (by decide) rfl ?_
          refine ao_goto (pc := 173) (tgt := 36) X dX12_search_173 (by decide) ?_
          refine ao_sub [3, 4, 5, 2, 1, 0] rfl ?_
          exact hk36 p1 p2 p5 x12 (p5 + (1 : Int32)) μ
        · refine ao_goto (pc := 155) (tgt := 170) X dX12_search_155 (by decide) ?_
          refine ao_iinc (pc := 170) (k := 5) (v := p5 + (1 : Int32)) (lv' := [(5, .int (p5 + (1 : Int32))), (0, .ref (eAd E 122)), (1, .int p1), (2, .int p2), (3, .int p3), (4, .int p4), (6, .int p6), (7, .int p7), (8, .int p8)]) X dX12_search_170 rfl (ii_ic ic_1) (by decide) rfl ?_
          refine ao_goto (pc := 173) (tgt := 36) X dX12_search_173 (by decide) ?_
          refine ao_sub [1, 2, 3, 4, 5, 0] rfl ?_
          exact hk36 p1 p2 p3 p4 (p5 + (1 : Int32)) μ
      · refine ao_bipush (pc := 140) X dX12_search_140 bp_m2 ?_
        exact ao_iret (pc := 142) X hr dX12_search_142
    · refine ao_iload (pc := 80) X dX12_search_80 rfl ?_
      refine ao_aload_n (pc := 82) X dX12_search_82 rfl ?_
      refine ao_getR (pc := 83) X dX12_search_83 fl_RX12_26 sf_122_6 ?_
      refine ao_iload_n (pc := 86) X dX12_search_86 rfl ?_
      refine ao_iald (pc := 87) X dX12_search_87 sa_128 ?_
      refine ao_iconst (pc := 88) X dX12_search_88 ic_m1 ?_
      refine ao_ixor (pc := 89) X dX12_search_89 ?_
      refine ao_iand (pc := 90) X dX12_search_90 ?_
      refine ao_if_ne (pc := 91) (tgt := 126) X dX12_search_91 (by decide) (fun _ => ?_) (fun _ => ?_)
      · refine ao_iinc (pc := 126) (k := 8) (v := p8 + (1 : Int32)) (lv' := [(8, .int (p8 + (1 : Int32))), (0, .ref (eAd E 122)), (1, .int p1), (2, .int p2), (3, .int p3), (4, .int p4), (5, .int p5), (6, .int p6), (7, .int p7)]) X dX12_search_126 rfl (ii_ic ic_1) (by decide) rfl ?_
        refine ao_goto (pc := 129) (tgt := 69) X dX12_search_129 (by decide) ?_
        refine ao_sub [1, 2, 3, 4, 5, 6, 7, 8, 0] rfl ?_
        exact ih p1 p2 p3 p4 p5 p6 p7 (p8 + (1 : Int32)) μ
      · refine ao_aload_n (pc := 94) X dX12_search_94 rfl ?_
        refine ao_iload (pc := 95) X dX12_search_95 rfl ?_
        refine ao_callVI (pc := 97) (As := [.int p8]) (st := []) X hl0 dX12_search_97 yv_X12_valuesOf so_122 ml_RX12_239 (mX12_valuesOf_122 hI p8 μ) (Nat.le_of_ble_eq_true rfl) rfl rfl (Nat.le_of_ble_eq_true rfl) (fun r16 m17 => ?_)
        refine ao_iload_n (pc := 100) X dX12_search_100 rfl ?_
        refine ao_icmp_eq (pc := 101) (tgt := 107) X dX12_search_101 (by decide) (fun _ => ?_) (fun _ => ?_)
        · refine ao_iload (pc := 107) X dX12_search_107 rfl ?_
          refine ao_iload (pc := 109) X dX12_search_109 rfl ?_
          refine ao_callSI (pc := 111) (As := [.int p8, .int p5]) (st := []) X hl0 dX12_search_111 yv_X12_has ml_RX12_158 (mX12_has hI p8 p5 m17) (Nat.le_of_ble_eq_true rfl) rfl rfl (Nat.le_of_ble_eq_true rfl) (fun r18 m19 => ?_)
          refine ao_if_eq (pc := 114) (tgt := 123) X dX12_search_114 (by decide) (fun _ => ?_) (fun _ => ?_)
          · refine ao_iinc (pc := 123) (k := 7) (v := p7 + (1 : Int32)) (lv' := [(7, .int (p7 + (1 : Int32))), (0, .ref (eAd E 122)), (1, .int p1), (2, .int p2), (3, .int p3), (4, .int p4), (5, .int p5), (6, .int p6), (8, .int p8)]) X dX12_search_123 rfl (ii_ic ic_1) (by decide) rfl ?_
            refine ao_iinc (pc := 126) (k := 8) (v := p8 + (1 : Int32)) (lv' := [(8, .int (p8 + (1 : Int32))), (7, .int (p7 + (1 : Int32))), (0, .ref (eAd E 122)), (1, .int p1), (2, .int p2), (3, .int p3), (4, .int p4), (5, .int p5), (6, .int p6)]) X dX12_search_126 rfl (ii_ic ic_1) (by decide) rfl ?_
            refine ao_goto (pc := 129) (tgt := 69) X dX12_search_129 (by decide) ?_
            refine ao_sub [2, 3, 4, 5, 6, 7, 8, 1, 0] rfl ?_
            exact ih p1 p2 p3 p4 p5 p6 (p7 + (1 : Int32)) (p8 + (1 : Int32)) m19
          · refine ao_iinc (pc := 117) (k := 6) (v := p6 + (1 : Int32)) (lv' := [(6, .int (p6 + (1 : Int32))), (0, .ref (eAd E 122)), (1, .int p1), (2, .int p2), (3, .int p3), (4, .int p4), (5, .int p5), (7, .int p7), (8, .int p8)]) X dX12_search_117 rfl (ii_ic ic_1) (by decide) rfl ?_
            refine ao_goto (pc := 120) (tgt := 126) X dX12_search_120 (by decide) ?_
            refine ao_iinc (pc := 126) (k := 8) (v := p8 + (1 : Int32)) (lv' := [(8, .int (p8 + (1 : Int32))), (6, .int (p6 + (1 : Int32))), (0, .ref (eAd E 122)), (1, .int p1), (2, .int p2), (3, .int p3), (4, .int p4), (5, .int p5), (7, .int p7)]) X dX12_search_126 rfl (ii_ic ic_1) (by decide) rfl ?_
            refine ao_goto (pc := 129) (tgt := 69) X dX12_search_129 (by decide) ?_
            refine ao_sub [2, 3, 4, 5, 6, 7, 1, 8, 0] rfl ?_
            exact ih p1 p2 p3 p4 p5 (p6 + (1 : Int32)) p7 (p8 + (1 : Int32)) m19
        · refine ao_goto (pc := 104) (tgt := 126) X dX12_search_104 (by decide) ?_
          refine ao_iinc (pc := 126) (k := 8) (v := p8 + (1 : Int32)) (lv' := [(8, .int (p8 + (1 : Int32))), (0, .ref (eAd E 122)), (1, .int p1), (2, .int p2), (3, .int p3), (4, .int p4), (5, .int p5), (6, .int p6), (7, .int p7)]) X dX12_search_126 rfl (ii_ic ic_1) (by decide) rfl ?_
          refine ao_goto (pc := 129) (tgt := 69) X dX12_search_129 (by decide) ?_
          refine ao_sub [1, 2, 3, 4, 5, 6, 7, 8, 0] rfl ?_
          exact ih p1 p2 p3 p4 p5 p6 p7 (p8 + (1 : Int32)) m17
def fX12_search_122_b36 : Nat → Int32 → Int32 → Int32 → Int32 → Int32 → Mem → Option (Int32 × Mem)
  | 0, _, _, _, _, _, _ => none
  | n + 1, p1, p2, p3, p4, p5, μ =>
  if (8 : Int32) ≤ p5 then (if p3 = (-1 : Int32) then (some ((-2 : Int32), μ))
    else lt (sI μ 122 16 (0 : Int32)) fun m6 =>
      bnd (fX12_tell_122 (Int32.toInt64 p4) m6) fun r7 m8 =>
      some (p3, m8))
  else gd (inb p1 6) (bnd (fX12_has (gI μ 128 (ix p1)) p5 μ) fun r9 m10 =>
    if r9 = 0 then (fX12_search_122_b36 n p1 p2 p3 p4 (p5 + (1 : Int32)) m10)
    else fX12_search_122_b69 (fun p1 p2 p3 p4 p5 m => fX12_search_122_b36 n p1 p2 p3 p4 p5 m) FU p1 p2 p3 p4 p5 (0 : Int32) (0 : Int32) (0 : Int32) m10)
set_option maxRecDepth 100000 in
set_option maxHeartbeats 4000000 in
theorem bX12_search_122_36 {E : En} {l : Launch} {Z : Zt} (hI : Inj E) (hl0 : lZ l Z) (X : Cx E Z cX12_search RX12 9 3) (hr : rtOf Z = some .int) : ∀ (n : Nat) (p1 : Int32) (p2 : Int32) (p3 : Int32) (p4 : Int32) (p5 : Int32) (μ : Mem), AO E Z 9 (QI E Z) 36 [(0, .ref (eAd E 122)), (1, .int p1), (2, .int p2), (3, .int p3), (4, .int p4), (5, .int p5)] [] μ (fX12_search_122_b36 n p1 p2 p3 p4 p5 μ) := by
  intro n
  induction n with
  | zero =>
    intros
    exact ao_none
  | succ n ih =>
    intro p1 p2 p3 p4 p5 μ
    rw [fX12_search_122_b36]
    refine ao_iload (pc := 36) X dX12_search_36 rfl ?_
    refine ao_bipush (pc := 38) X dX12_search_38 bp_8 ?_
    refine ao_icmp_ge (pc := 40) (tgt := 176) X dX12_search_40 (by decide) (fun _ => ?_) (fun _ => ?_)
    · refine ao_iload_n (pc := 176) X dX12_search_176 rfl ?_
      refine ao_iconst (pc := 177) X dX12_search_177 ic_m1 ?_
      refine ao_icmp_ne (pc := 178) (tgt := 184) X dX12_search_178 (by decide) (fun _ => ?_) (fun _ => ?_)
      · refine ao_aload_n (pc := 184) X dX12_search_184 rfl ?_
        refine ao_iconst (pc := 185) X dX12_search_185 ic_0 ?_
        refine ao_putI (pc := 186) X dX12_search_186 fp_RX12_98 sf_122_16 ?_
        refine ao_lt (fun m6 => ?_)
        refine ao_aload_n (pc := 189) X dX12_search_189 rfl ?_
        refine ao_iload (pc := 190) X dX12_search_190 rfl ?_
        refine ao_i2l (pc := 192) X dX12_search_192 ?_
        refine ao_callVV (pc := 193) (As := [.long (Int32.toInt64 p4)]) (st := []) X hl0 dX12_search_193 yv_X12_tell so_122 ml_RX12_267 (mX12_tell_122 hI (Int32.toInt64 p4) m6) (Nat.le_of_ble_eq_true rfl) rfl rfl (Nat.le_of_ble_eq_true rfl) (fun r7 m8 => ?_)
        refine ao_iload_n (pc := 196) X dX12_search_196 rfl ?_
        exact ao_iret (pc := 197) X hr dX12_search_197
      · refine ao_bipush (pc := 181) X dX12_search_181 bp_m2 ?_
        exact ao_iret (pc := 183) X hr dX12_search_183
    · refine ao_aload_n (pc := 43) X dX12_search_43 rfl ?_
      refine ao_getR (pc := 44) X dX12_search_44 fl_RX12_26 sf_122_6 ?_
      refine ao_iload_n (pc := 47) X dX12_search_47 rfl ?_
      refine ao_iald (pc := 48) X dX12_search_48 sa_128 ?_
      refine ao_iload (pc := 49) X dX12_search_49 rfl ?_
      refine ao_callSI (pc := 51) (As := [.int (gI μ 128 (ix p1)), .int p5]) (st := []) X hl0 dX12_search_51 yv_X12_has ml_RX12_158 (mX12_has hI (gI μ 128 (ix p1)) p5 μ) (Nat.le_of_ble_eq_true rfl) rfl rfl (Nat.le_of_ble_eq_true rfl) (fun r9 m10 => ?_)
      refine ao_if_ne (pc := 54) (tgt := 60) X dX12_search_54 (by decide) (fun _ => ?_) (fun _ => ?_)
      · refine ao_iconst (pc := 60) X dX12_search_60 ic_0 ?_
        refine ao_istore (pc := 61) (lv' := [(6, .int (0 : Int32)), (0, .ref (eAd E 122)), (1, .int p1), (2, .int p2), (3, .int p3), (4, .int p4), (5, .int p5)]) X dX12_search_61 (by decide) rfl ?_
        refine ao_iconst (pc := 63) X dX12_search_63 ic_0 ?_
        refine ao_istore (pc := 64) (lv' := [(7, .int (0 : Int32)), (6, .int (0 : Int32)), (0, .ref (eAd E 122)), (1, .int p1), (2, .int p2), (3, .int p3), (4, .int p4), (5, .int p5)]) X dX12_search_64 (by decide) rfl ?_
        refine ao_iconst (pc := 66) X dX12_search_66 ic_0 ?_
        refine ao_istore (pc := 67) (lv' := [(8, .int (0 : Int32)), (7, .int (0 : Int32)), (6, .int (0 : Int32)), (0, .ref (eAd E 122)), (1, .int p1), (2, .int p2), (3, .int p3), (4, .int p4), (5, .int p5)]) X dX12_search_67 (by decide) rfl ?_
        refine ao_sub [3, 4, 5, 6, 7, 8, 2, 1, 0] rfl ?_
        exact bX12_search_122_69 hI hl0 X hr ih FU p1 p2 p3 p4 p5 (0 : Int32) (0 : Int32) (0 : Int32) m10
      · refine ao_goto (pc := 57) (tgt := 170) X dX12_search_57 (by decide) ?_
        refine ao_iinc (pc := 170) (k := 5) (v := p5 + (1 : Int32)) (lv' := [(5, .int (p5 + (1 : Int32))), (0, .ref (eAd E 122)), (1, .int p1), (2, .int p2), (3, .int p3), (4, .int p4)]) X dX12_search_170 rfl (ii_ic ic_1) (by decide) rfl ?_
        refine ao_goto (pc := 173) (tgt := 36) X dX12_search_173 (by decide) ?_
        refine ao_sub [1, 2, 3, 4, 5, 0] rfl ?_
        exact ih p1 p2 p3 p4 (p5 + (1 : Int32)) m10
def fX12_search_122 (v1 : Int32) (v2 : Int32) (μ : Mem) : Option (Int32 × Mem) :=
  lt (sI μ 122 17 (0 : Int32)) fun m1 =>
  bnd (fX12_isMan_122 v1 m1) fun r2 m3 =>
  if r2 = 0 then (some ((-1 : Int32), m3))
  else bnd (fX12_in v2 (0 : Int32) (999 : Int32) m3) fun r4 m5 =>
    if r4 = 0 then (some ((-1 : Int32), m5))
    else fX12_search_122_b36 FU v1 v2 (-1 : Int32) (1000000 : Int32) (0 : Int32) m5
set_option maxRecDepth 100000 in
set_option maxHeartbeats 4000000 in
theorem mX12_search_122 {E : En} {l : Launch} (hI : Inj E) (v1 : Int32) (v2 : Int32) (μ : Mem) : MtI E l yX12_search cX12_search 9 (some .int) 3 [.ref (eAd E 122), .int v1, .int v2] μ (fX12_search_122 v1 v2 μ) := by
  refine mtI_of (own := RX12) [(0, .ref (eAd E 122)), (1, .int v1), (2, .int v2)] hI rfl (by decide) (Nat.le_of_ble_eq_true rfl) (Nat.le_of_ble_eq_true rfl) rfl (fun Z hl0 X hr => ?_)
  unfold fX12_search_122
  refine ao_aload_n (pc := 0) X dX12_search_0 rfl ?_
  refine ao_iconst (pc := 1) X dX12_search_1 ic_0 ?_
  refine ao_putI (pc := 2) X dX12_search_2 fp_RX12_95 sf_122_17 ?_
  refine ao_lt (fun m1 => ?_)
  refine ao_aload_n (pc := 5) X dX12_search_5 rfl ?_
  refine ao_iload_n (pc := 6) X dX12_search_6 rfl ?_
  refine ao_callVI (pc := 7) (As := [.int v1]) (st := []) X hl0 dX12_search_7 yv_X12_isMan so_122 ml_RX12_224 (mX12_isMan_122 hI v1 m1) (Nat.le_of_ble_eq_true rfl) rfl rfl (Nat.le_of_ble_eq_true rfl) (fun r2 m3 => ?_)
  refine ao_if_eq (pc := 10) (tgt := 24) X dX12_search_10 (by decide) (fun _ => ?_) (fun _ => ?_)
  · refine ao_iconst (pc := 24) X dX12_search_24 ic_m1 ?_
    exact ao_iret (pc := 25) X hr dX12_search_25
  · refine ao_iload_n (pc := 13) X dX12_search_13 rfl ?_
    refine ao_iconst (pc := 14) X dX12_search_14 ic_0 ?_
    refine ao_sipush (pc := 15) X dX12_search_15 sp_999 ?_
    refine ao_callSI (pc := 18) (As := [.int v2, .int (0 : Int32), .int (999 : Int32)]) (st := []) X hl0 dX12_search_18 yv_X12_in ml_RX12_104 (mX12_in hI v2 (0 : Int32) (999 : Int32) m3) (Nat.le_of_ble_eq_true rfl) rfl rfl (Nat.le_of_ble_eq_true rfl) (fun r4 m5 => ?_)
    refine ao_if_ne (pc := 21) (tgt := 26) X dX12_search_21 (by decide) (fun _ => ?_) (fun _ => ?_)
    · refine ao_iconst (pc := 26) X dX12_search_26 ic_m1 ?_
      refine ao_istore_n (pc := 27) (lv' := [(3, .int (-1 : Int32)), (0, .ref (eAd E 122)), (1, .int v1), (2, .int v2)]) X dX12_search_27 rfl (by decide) rfl ?_
      refine ao_ldcw (pc := 28) X dX12_search_28 kc_RX12_368 ?_
      refine ao_istore (pc := 31) (lv' := [(4, .int (1000000 : Int32)), (3, .int (-1 : Int32)), (0, .ref (eAd E 122)), (1, .int v1), (2, .int v2)]) X dX12_search_31 (by decide) rfl ?_
      refine ao_iconst (pc := 33) X dX12_search_33 ic_0 ?_
      refine ao_istore (pc := 34) (lv' := [(5, .int (0 : Int32)), (4, .int (1000000 : Int32)), (3, .int (-1 : Int32)), (0, .ref (eAd E 122)), (1, .int v1), (2, .int v2)]) X dX12_search_34 (by decide) rfl ?_
      refine ao_sub [3, 4, 5, 2, 1, 0] rfl ?_
      exact bX12_search_122_36 hI hl0 X hr FU v1 v2 (-1 : Int32) (1000000 : Int32) (0 : Int32) m5
    · refine ao_iconst (pc := 24) X dX12_search_24 ic_m1 ?_
      exact ao_iret (pc := 25) X hr dX12_search_25
def fX11_ofJudge (v0 : Int32) (v1 : Int32) (v2 : Int32) (v3 : Int32) (μ : Mem) : Option (Int32 × Mem) :=
  if v0 ≤ v1 then (some (((0 : Int32) - (v3 * v0)), μ))
  else some ((v2 - (v3 * v0)), μ)
set_option maxRecDepth 100000 in
set_option maxHeartbeats 4000000 in
theorem mX11_ofJudge {E : En} {l : Launch} (hI : Inj E) (v0 : Int32) (v1 : Int32) (v2 : Int32) (v3 : Int32) (μ : Mem) : MtI E l yX11_ofJudge cX11_ofJudge 4 (some .int) 1 [.int v0, .int v1, .int v2, .int v3] μ (fX11_ofJudge v0 v1 v2 v3 μ) := by
  refine mtI_of (own := RX11) [(0, .int v0), (1, .int v1), (2, .int v2), (3, .int v3)] hI rfl (by decide) (Nat.le_of_ble_eq_true rfl) (Nat.le_of_ble_eq_true rfl) rfl (fun Z hl0 X hr => ?_)
  unfold fX11_ofJudge
  refine ao_iload_n (pc := 0) X dX11_ofJudge_0 rfl ?_
  refine ao_iload_n (pc := 1) X dX11_ofJudge_1 rfl ?_
  refine ao_icmp_ge (pc := 2) (tgt := 9) X dX11_ofJudge_2 (by decide) (fun _ => ?_) (fun _ => ?_)
  · refine ao_iconst (pc := 9) X dX11_ofJudge_9 ic_0 ?_
    refine ao_iload_n (pc := 10) X dX11_ofJudge_10 rfl ?_
    refine ao_iload_n (pc := 11) X dX11_ofJudge_11 rfl ?_
    refine ao_imul (pc := 12) X dX11_ofJudge_12 ?_
    refine ao_isub (pc := 13) X dX11_ofJudge_13 ?_
    exact ao_iret (pc := 14) X hr dX11_ofJudge_14
  · refine ao_iload_n (pc := 5) X dX11_ofJudge_5 rfl ?_
    refine ao_goto (pc := 6) (tgt := 10) X dX11_ofJudge_6 (by decide) ?_
    refine ao_iload_n (pc := 10) X dX11_ofJudge_10 rfl ?_
    refine ao_iload_n (pc := 11) X dX11_ofJudge_11 rfl ?_
    refine ao_imul (pc := 12) X dX11_ofJudge_12 ?_
    refine ao_isub (pc := 13) X dX11_ofJudge_13 ?_
    exact ao_iret (pc := 14) X hr dX11_ofJudge_14
def fX11_ofPrisoner (v0 : Int32) (v1 : Int32) (v2 : Int32) (v3 : Int32) (μ : Mem) : Option (Int32 × Mem) :=
  if v1 < v0 then (some (((0 : Int32) - (v3 * v1)), μ))
  else some ((v2 - (v3 * v1)), μ)
set_option maxRecDepth 100000 in
set_option maxHeartbeats 4000000 in
theorem mX11_ofPrisoner {E : En} {l : Launch} (hI : Inj E) (v0 : Int32) (v1 : Int32) (v2 : Int32) (v3 : Int32) (μ : Mem) : MtI E l yX11_ofPrisoner cX11_ofPrisoner 4 (some .int) 1 [.int v0, .int v1, .int v2, .int v3] μ (fX11_ofPrisoner v0 v1 v2 v3 μ) := by
  refine mtI_of (own := RX11) [(0, .int v0), (1, .int v1), (2, .int v2), (3, .int v3)] hI rfl (by decide) (Nat.le_of_ble_eq_true rfl) (Nat.le_of_ble_eq_true rfl) rfl (fun Z hl0 X hr => ?_)
  unfold fX11_ofPrisoner
  refine ao_iload_n (pc := 0) X dX11_ofPrisoner_0 rfl ?_
  refine ao_iload_n (pc := 1) X dX11_ofPrisoner_1 rfl ?_
  refine ao_icmp_lt (pc := 2) (tgt := 9) X dX11_ofPrisoner_2 (by decide) (fun _ => ?_) (fun _ => ?_)
  · refine ao_iconst (pc := 9) X dX11_ofPrisoner_9 ic_0 ?_
    refine ao_iload_n (pc := 10) X dX11_ofPrisoner_10 rfl ?_
    refine ao_iload_n (pc := 11) X dX11_ofPrisoner_11 rfl ?_
    refine ao_imul (pc := 12) X dX11_ofPrisoner_12 ?_
    refine ao_isub (pc := 13) X dX11_ofPrisoner_13 ?_
    exact ao_iret (pc := 14) X hr dX11_ofPrisoner_14
  · refine ao_iload_n (pc := 5) X dX11_ofPrisoner_5 rfl ?_
    refine ao_goto (pc := 6) (tgt := 10) X dX11_ofPrisoner_6 (by decide) ?_
    refine ao_iload_n (pc := 10) X dX11_ofPrisoner_10 rfl ?_
    refine ao_iload_n (pc := 11) X dX11_ofPrisoner_11 rfl ?_
    refine ao_imul (pc := 12) X dX11_ofPrisoner_12 ?_
    refine ao_isub (pc := 13) X dX11_ofPrisoner_13 ?_
    exact ao_iret (pc := 14) X hr dX11_ofPrisoner_14
def fX11_isAtRest_b21 : Nat → Int32 → Int32 → Int32 → Int32 → Int32 → Int32 → Int32 → Mem → Option (Int32 × Mem)
  | 0, _, _, _, _, _, _, _, _ => none
  | n + 1, p0, p1, p2, p3, p4, p5, p6, μ =>
  if (10 : Int32) ≤ p6 then (some ((1 : Int32), μ))
  else bnd (fX11_ofJudge p6 p1 p2 p3 μ) fun r5 m6 =>
    if p4 < r5 then (some ((0 : Int32), m6))
    else bnd (fX11_ofPrisoner p0 p6 p2 p3 m6) fun r7 m8 =>
      if r7 ≤ p5 then (fX11_isAtRest_b21 n p0 p1 p2 p3 p4 p5 (p6 + (1 : Int32)) m8)
      else some ((0 : Int32), m8)
set_option maxRecDepth 100000 in
set_option maxHeartbeats 4000000 in
theorem bX11_isAtRest_21 {E : En} {l : Launch} {Z : Zt} (hI : Inj E) (hl0 : lZ l Z) (X : Cx E Z cX11_isAtRest RX11 7 2) (hr : rtOf Z = some .boolean) : ∀ (n : Nat) (p0 : Int32) (p1 : Int32) (p2 : Int32) (p3 : Int32) (p4 : Int32) (p5 : Int32) (p6 : Int32) (μ : Mem), AO E Z 7 (QI E Z) 21 [(0, .int p0), (1, .int p1), (2, .int p2), (3, .int p3), (4, .int p4), (5, .int p5), (6, .int p6)] [] μ (fX11_isAtRest_b21 n p0 p1 p2 p3 p4 p5 p6 μ) := by
  intro n
  induction n with
  | zero =>
    intros
    exact ao_none
  | succ n ih =>
    intro p0 p1 p2 p3 p4 p5 p6 μ
    rw [fX11_isAtRest_b21]
    refine ao_iload (pc := 21) X dX11_isAtRest_21 rfl ?_
    refine ao_bipush (pc := 23) X dX11_isAtRest_23 bp_10 ?_
    refine ao_icmp_ge (pc := 25) (tgt := 62) X dX11_isAtRest_25 (by decide) (fun _ => ?_) (fun _ => ?_)
    · refine ao_iconst (pc := 62) X dX11_isAtRest_62 ic_1 ?_
      exact ao_zret (pc := 63) X hr rfl dX11_isAtRest_63
    · refine ao_iload (pc := 28) X dX11_isAtRest_28 rfl ?_
      refine ao_iload_n (pc := 30) X dX11_isAtRest_30 rfl ?_
      refine ao_iload_n (pc := 31) X dX11_isAtRest_31 rfl ?_
      refine ao_iload_n (pc := 32) X dX11_isAtRest_32 rfl ?_
      refine ao_callSI (pc := 33) (As := [.int p6, .int p1, .int p2, .int p3]) (st := []) X hl0 dX11_isAtRest_33 yv_X11_ofJudge ml_RX11_430 (mX11_ofJudge hI p6 p1 p2 p3 μ) (Nat.le_of_ble_eq_true rfl) rfl rfl (Nat.le_of_ble_eq_true rfl) (fun r5 m6 => ?_)
      refine ao_iload (pc := 36) X dX11_isAtRest_36 rfl ?_
      refine ao_icmp_gt (pc := 38) (tgt := 54) X dX11_isAtRest_38 (by decide) (fun _ => ?_) (fun _ => ?_)
      · refine ao_iconst (pc := 54) X dX11_isAtRest_54 ic_0 ?_
        exact ao_zret (pc := 55) X hr rfl dX11_isAtRest_55
      · refine ao_iload_n (pc := 41) X dX11_isAtRest_41 rfl ?_
        refine ao_iload (pc := 42) X dX11_isAtRest_42 rfl ?_
        refine ao_iload_n (pc := 44) X dX11_isAtRest_44 rfl ?_
        refine ao_iload_n (pc := 45) X dX11_isAtRest_45 rfl ?_
        refine ao_callSI (pc := 46) (As := [.int p0, .int p6, .int p2, .int p3]) (st := []) X hl0 dX11_isAtRest_46 yv_X11_ofPrisoner ml_RX11_433 (mX11_ofPrisoner hI p0 p6 p2 p3 m6) (Nat.le_of_ble_eq_true rfl) rfl rfl (Nat.le_of_ble_eq_true rfl) (fun r7 m8 => ?_)
        refine ao_iload (pc := 49) X dX11_isAtRest_49 rfl ?_
        refine ao_icmp_le (pc := 51) (tgt := 56) X dX11_isAtRest_51 (by decide) (fun _ => ?_) (fun _ => ?_)
        · refine ao_iinc (pc := 56) (k := 6) (v := p6 + (1 : Int32)) (lv' := [(6, .int (p6 + (1 : Int32))), (0, .int p0), (1, .int p1), (2, .int p2), (3, .int p3), (4, .int p4), (5, .int p5)]) X dX11_isAtRest_56 rfl (ii_ic ic_1) (by decide) rfl ?_
          refine ao_goto (pc := 59) (tgt := 21) X dX11_isAtRest_59 (by decide) ?_
          refine ao_sub [1, 2, 3, 4, 5, 6, 0] rfl ?_
          exact ih p0 p1 p2 p3 p4 p5 (p6 + (1 : Int32)) m8
        · refine ao_iconst (pc := 54) X dX11_isAtRest_54 ic_0 ?_
          exact ao_zret (pc := 55) X hr rfl dX11_isAtRest_55
def fX11_isAtRest (v0 : Int32) (v1 : Int32) (v2 : Int32) (v3 : Int32) (μ : Mem) : Option (Int32 × Mem) :=
  bnd (fX11_ofJudge v0 v1 v2 v3 μ) fun r1 m2 =>
  bnd (fX11_ofPrisoner v0 v1 v2 v3 m2) fun r3 m4 =>
  fX11_isAtRest_b21 FU v0 v1 v2 v3 r1 r3 (0 : Int32) m4
set_option maxRecDepth 100000 in
set_option maxHeartbeats 4000000 in
theorem mX11_isAtRest {E : En} {l : Launch} (hI : Inj E) (v0 : Int32) (v1 : Int32) (v2 : Int32) (v3 : Int32) (μ : Mem) : MtI E l yX11_isAtRest cX11_isAtRest 7 (some .boolean) 2 [.int v0, .int v1, .int v2, .int v3] μ (fX11_isAtRest v0 v1 v2 v3 μ) := by
  refine mtI_of (own := RX11) [(0, .int v0), (1, .int v1), (2, .int v2), (3, .int v3)] hI rfl (by decide) (Nat.le_of_ble_eq_true rfl) (Nat.le_of_ble_eq_true rfl) rfl (fun Z hl0 X hr => ?_)
  unfold fX11_isAtRest
  refine ao_iload_n (pc := 0) X dX11_isAtRest_0 rfl ?_
  refine ao_iload_n (pc := 1) X dX11_isAtRest_1 rfl ?_
  refine ao_iload_n (pc := 2) X dX11_isAtRest_2 rfl ?_
  refine ao_iload_n (pc := 3) X dX11_isAtRest_3 rfl ?_
  refine ao_callSI (pc := 4) (As := [.int v0, .int v1, .int v2, .int v3]) (st := []) X hl0 dX11_isAtRest_4 yv_X11_ofJudge ml_RX11_430 (mX11_ofJudge hI v0 v1 v2 v3 μ) (Nat.le_of_ble_eq_true rfl) rfl rfl (Nat.le_of_ble_eq_true rfl) (fun r1 m2 => ?_)
  refine ao_istore (pc := 7) (lv' := [(4, .int r1), (0, .int v0), (1, .int v1), (2, .int v2), (3, .int v3)]) X dX11_isAtRest_7 (by decide) rfl ?_
  refine ao_iload_n (pc := 9) X dX11_isAtRest_9 rfl ?_
  refine ao_iload_n (pc := 10) X dX11_isAtRest_10 rfl ?_
  refine ao_iload_n (pc := 11) X dX11_isAtRest_11 rfl ?_
  refine ao_iload_n (pc := 12) X dX11_isAtRest_12 rfl ?_
  refine ao_callSI (pc := 13) (As := [.int v0, .int v1, .int v2, .int v3]) (st := []) X hl0 dX11_isAtRest_13 yv_X11_ofPrisoner ml_RX11_433 (mX11_ofPrisoner hI v0 v1 v2 v3 m2) (Nat.le_of_ble_eq_true rfl) rfl rfl (Nat.le_of_ble_eq_true rfl) (fun r3 m4 => ?_)
  refine ao_istore (pc := 16) (lv' := [(5, .int r3), (4, .int r1), (0, .int v0), (1, .int v1), (2, .int v2), (3, .int v3)]) X dX11_isAtRest_16 (by decide) rfl ?_
  refine ao_iconst (pc := 18) X dX11_isAtRest_18 ic_0 ?_
  refine ao_istore (pc := 19) (lv' := [(6, .int (0 : Int32)), (5, .int r3), (4, .int r1), (0, .int v0), (1, .int v1), (2, .int v2), (3, .int v3)]) X dX11_isAtRest_19 (by decide) rfl ?_
  refine ao_sub [3, 4, 5, 6, 2, 1, 0] rfl ?_
  exact bX11_isAtRest_21 hI hl0 X hr FU v0 v1 v2 v3 r1 r3 (0 : Int32) m4
def fX11_rests_0_b44 (k34 : Int32 → Int32 → Int32 → Int32 → Mem → Option (Int32 × Mem)) : Nat → Int32 → Int32 → Int32 → Int32 → Int32 → Mem → Option (Int32 × Mem)
  | 0, _, _, _, _, _, _ => none
  | n + 1, p1, p2, p3, p4, p5, μ =>
  if (10 : Int32) ≤ p5 then (k34 p1 p2 p3 (p4 + (1 : Int32)) μ)
  else bnd (fX11_isAtRest p4 p5 p1 p2 μ) fun r4 m5 =>
    if r4 = 0 then (fX11_rests_0_b44 k34 n p1 p2 p3 p4 (p5 + (1 : Int32)) m5)
    else if p3 = 0 then (bnd (fX7_tell__3 (Int32.toInt64 p4) (Int32.toInt64 p5) m5) fun r8 m9 =>
        fX11_rests_0_b44 k34 n p1 p2 (p3 + (1 : Int32)) p4 (p5 + (1 : Int32)) m9)
      else fX11_rests_0_b44 k34 n p1 p2 (p3 + (1 : Int32)) p4 (p5 + (1 : Int32)) m5
set_option maxRecDepth 100000 in
set_option maxHeartbeats 4000000 in
theorem bX11_rests_0_44 {E : En} {l : Launch} {Z : Zt} (hI : Inj E) (hl0 : lZ l Z) (X : Cx E Z cX11_rests RX11 6 4) (hr : rtOf Z = some .int) {k34 : Int32 → Int32 → Int32 → Int32 → Mem → Option (Int32 × Mem)} (hk34 : ∀ (p1 : Int32) (p2 : Int32) (p3 : Int32) (p4 : Int32) (m : Mem), AO E Z 6 (QI E Z) 34 [(0, .ref (eAd E 0)), (1, .int p1), (2, .int p2), (3, .int p3), (4, .int p4)] [] m (k34 p1 p2 p3 p4 m)) : ∀ (n : Nat) (p1 : Int32) (p2 : Int32) (p3 : Int32) (p4 : Int32) (p5 : Int32) (μ : Mem), AO E Z 6 (QI E Z) 44 [(0, .ref (eAd E 0)), (1, .int p1), (2, .int p2), (3, .int p3), (4, .int p4), (5, .int p5)] [] μ (fX11_rests_0_b44 k34 n p1 p2 p3 p4 p5 μ) := by
  intro n
  induction n with
  | zero =>
    intros
    exact ao_none
  | succ n ih =>
    intro p1 p2 p3 p4 p5 μ
    rw [fX11_rests_0_b44]
    refine ao_iload (pc := 44) X dX11_rests_44 rfl ?_
    refine ao_bipush (pc := 46) X dX11_rests_46 bp_10 ?_
    refine ao_icmp_ge (pc := 48) (tgt := 92) X dX11_rests_48 (by decide) (fun _ => ?_) (fun _ => ?_)
    · refine ao_iinc (pc := 92) (k := 4) (v := p4 + (1 : Int32)) (lv' := [(4, .int (p4 + (1 : Int32))), (0, .ref (eAd E 0)), (1, .int p1), (2, .int p2), (3, .int p3), (5, .int p5)]) X dX11_rests_92 rfl (ii_ic ic_1) (by decide) rfl ?_
      refine ao_goto (pc := 95) (tgt := 34) X dX11_rests_95 (by decide) ?_
      refine ao_sub [1, 2, 3, 4, 0] rfl ?_
      exact hk34 p1 p2 p3 (p4 + (1 : Int32)) μ
    · refine ao_iload (pc := 51) X dX11_rests_51 rfl ?_
      refine ao_iload (pc := 53) X dX11_rests_53 rfl ?_
      refine ao_iload_n (pc := 55) X dX11_rests_55 rfl ?_
      refine ao_iload_n (pc := 56) X dX11_rests_56 rfl ?_
      refine ao_callSI (pc := 57) (As := [.int p4, .int p5, .int p1, .int p2]) (st := []) X hl0 dX11_rests_57 yv_X11_isAtRest ml_RX11_383 (mX11_isAtRest hI p4 p5 p1 p2 μ) (Nat.le_of_ble_eq_true rfl) rfl rfl (Nat.le_of_ble_eq_true rfl) (fun r4 m5 => ?_)
      refine ao_if_ne (pc := 60) (tgt := 66) X dX11_rests_60 (by decide) (fun _ => ?_) (fun _ => ?_)
      · refine ao_iload_n (pc := 66) X dX11_rests_66 rfl ?_
        refine ao_if_ne (pc := 67) (tgt := 83) X dX11_rests_67 (by decide) (fun _ => ?_) (fun _ => ?_)
        · refine ao_iinc (pc := 83) (k := 3) (v := p3 + (1 : Int32)) (lv' := [(3, .int (p3 + (1 : Int32))), (0, .ref (eAd E 0)), (1, .int p1), (2, .int p2), (4, .int p4), (5, .int p5)]) X dX11_rests_83 rfl (ii_ic ic_1) (by decide) rfl ?_
          refine ao_iinc (pc := 86) (k := 5) (v := p5 + (1 : Int32)) (lv' := [(5, .int (p5 + (1 : Int32))), (3, .int (p3 + (1 : Int32))), (0, .ref (eAd E 0)), (1, .int p1), (2, .int p2), (4, .int p4)]) X dX11_rests_86 rfl (ii_ic ic_1) (by decide) rfl ?_
          refine ao_goto (pc := 89) (tgt := 44) X dX11_rests_89 (by decide) ?_
          refine ao_sub [2, 3, 4, 1, 5, 0] rfl ?_
          exact ih p1 p2 (p3 + (1 : Int32)) p4 (p5 + (1 : Int32)) m5
        · refine ao_aload_n (pc := 70) X dX11_rests_70 rfl ?_
          refine ao_getR (pc := 71) X dX11_rests_71 fl_RX11_19 sf_0_1 ?_
          refine ao_iload (pc := 74) X dX11_rests_74 rfl ?_
          refine ao_i2l (pc := 76) X dX11_rests_76 ?_
          refine ao_iload (pc := 77) X dX11_rests_77 rfl ?_
          refine ao_i2l (pc := 79) X dX11_rests_79 ?_
          refine ao_callVV (pc := 80) (As := [.long (Int32.toInt64 p4), .long (Int32.toInt64 p5)]) (st := []) X hl0 dX11_rests_80 yv_X7_tell_ so_3 ml_RX11_244 (mX7_tell__3 hI (Int32.toInt64 p4) (Int32.toInt64 p5) m5) (Nat.le_of_ble_eq_true rfl) rfl rfl (Nat.le_of_ble_eq_true rfl) (fun r8 m9 => ?_)
          refine ao_iinc (pc := 83) (k := 3) (v := p3 + (1 : Int32)) (lv' := [(3, .int (p3 + (1 : Int32))), (0, .ref (eAd E 0)), (1, .int p1), (2, .int p2), (4, .int p4), (5, .int p5)]) X dX11_rests_83 rfl (ii_ic ic_1) (by decide) rfl ?_
          refine ao_iinc (pc := 86) (k := 5) (v := p5 + (1 : Int32)) (lv' := [(5, .int (p5 + (1 : Int32))), (3, .int (p3 + (1 : Int32))), (0, .ref (eAd E 0)), (1, .int p1), (2, .int p2), (4, .int p4)]) X dX11_rests_86 rfl (ii_ic ic_1) (by decide) rfl ?_
          refine ao_goto (pc := 89) (tgt := 44) X dX11_rests_89 (by decide) ?_
          refine ao_sub [2, 3, 4, 1, 5, 0] rfl ?_
          exact ih p1 p2 (p3 + (1 : Int32)) p4 (p5 + (1 : Int32)) m9
      · refine ao_goto (pc := 63) (tgt := 86) X dX11_rests_63 (by decide) ?_
        refine ao_iinc (pc := 86) (k := 5) (v := p5 + (1 : Int32)) (lv' := [(5, .int (p5 + (1 : Int32))), (0, .ref (eAd E 0)), (1, .int p1), (2, .int p2), (3, .int p3), (4, .int p4)]) X dX11_rests_86 rfl (ii_ic ic_1) (by decide) rfl ?_
        refine ao_goto (pc := 89) (tgt := 44) X dX11_rests_89 (by decide) ?_
        refine ao_sub [1, 2, 3, 4, 5, 0] rfl ?_
        exact ih p1 p2 p3 p4 (p5 + (1 : Int32)) m5
def fX11_rests_0_b34 : Nat → Int32 → Int32 → Int32 → Int32 → Mem → Option (Int32 × Mem)
  | 0, _, _, _, _, _ => none
  | n + 1, p1, p2, p3, p4, μ =>
  if (10 : Int32) ≤ p4 then (some (p3, μ))
  else fX11_rests_0_b44 (fun p1 p2 p3 p4 m => fX11_rests_0_b34 n p1 p2 p3 p4 m) FU p1 p2 p3 p4 (0 : Int32) μ
set_option maxRecDepth 100000 in
set_option maxHeartbeats 4000000 in
theorem bX11_rests_0_34 {E : En} {l : Launch} {Z : Zt} (hI : Inj E) (hl0 : lZ l Z) (X : Cx E Z cX11_rests RX11 6 4) (hr : rtOf Z = some .int) : ∀ (n : Nat) (p1 : Int32) (p2 : Int32) (p3 : Int32) (p4 : Int32) (μ : Mem), AO E Z 6 (QI E Z) 34 [(0, .ref (eAd E 0)), (1, .int p1), (2, .int p2), (3, .int p3), (4, .int p4)] [] μ (fX11_rests_0_b34 n p1 p2 p3 p4 μ) := by
  intro n
  induction n with
  | zero =>
    intros
    exact ao_none
  | succ n ih =>
    intro p1 p2 p3 p4 μ
    rw [fX11_rests_0_b34]
    refine ao_iload (pc := 34) X dX11_rests_34 rfl ?_
    refine ao_bipush (pc := 36) X dX11_rests_36 bp_10 ?_
    refine ao_icmp_ge (pc := 38) (tgt := 98) X dX11_rests_38 (by decide) (fun _ => ?_) (fun _ => ?_)
    · refine ao_iload_n (pc := 98) X dX11_rests_98 rfl ?_
      exact ao_iret (pc := 99) X hr dX11_rests_99
    · refine ao_iconst (pc := 41) X dX11_rests_41 ic_0 ?_
      refine ao_istore (pc := 42) (lv' := [(5, .int (0 : Int32)), (0, .ref (eAd E 0)), (1, .int p1), (2, .int p2), (3, .int p3), (4, .int p4)]) X dX11_rests_42 (by decide) rfl ?_
      refine ao_sub [1, 2, 3, 4, 5, 0] rfl ?_
      exact bX11_rests_0_44 hI hl0 X hr ih FU p1 p2 p3 p4 (0 : Int32) μ
def fX11_rests_0 (v1 : Int32) (v2 : Int32) (μ : Mem) : Option (Int32 × Mem) :=
  if v1 < 0 then (some ((-1 : Int32), μ))
  else if (99 : Int32) < v1 then (some ((-1 : Int32), μ))
    else if v2 < 0 then (some ((-1 : Int32), μ))
      else if v2 ≤ (9 : Int32) then (bnd (fX7_clear_3 μ) fun r1 m2 =>
          fX11_rests_0_b34 FU v1 v2 (0 : Int32) (0 : Int32) m2)
        else some ((-1 : Int32), μ)
set_option maxRecDepth 100000 in
set_option maxHeartbeats 4000000 in
theorem mX11_rests_0 {E : En} {l : Launch} (hI : Inj E) (v1 : Int32) (v2 : Int32) (μ : Mem) : MtI E l yX11_rests cX11_rests 6 (some .int) 4 [.ref (eAd E 0), .int v1, .int v2] μ (fX11_rests_0 v1 v2 μ) := by
  refine mtI_of (own := RX11) [(0, .ref (eAd E 0)), (1, .int v1), (2, .int v2)] hI rfl (by decide) (Nat.le_of_ble_eq_true rfl) (Nat.le_of_ble_eq_true rfl) rfl (fun Z hl0 X hr => ?_)
  unfold fX11_rests_0
  refine ao_iload_n (pc := 0) X dX11_rests_0 rfl ?_
  refine ao_if_lt (pc := 1) (tgt := 20) X dX11_rests_1 (by decide) (fun _ => ?_) (fun _ => ?_)
  · refine ao_iconst (pc := 20) X dX11_rests_20 ic_m1 ?_
    exact ao_iret (pc := 21) X hr dX11_rests_21
  · refine ao_iload_n (pc := 4) X dX11_rests_4 rfl ?_
    refine ao_bipush (pc := 5) X dX11_rests_5 bp_99 ?_
    refine ao_icmp_gt (pc := 7) (tgt := 20) X dX11_rests_7 (by decide) (fun _ => ?_) (fun _ => ?_)
    · refine ao_iconst (pc := 20) X dX11_rests_20 ic_m1 ?_
      exact ao_iret (pc := 21) X hr dX11_rests_21
    · refine ao_iload_n (pc := 10) X dX11_rests_10 rfl ?_
      refine ao_if_lt (pc := 11) (tgt := 20) X dX11_rests_11 (by decide) (fun _ => ?_) (fun _ => ?_)
      · refine ao_iconst (pc := 20) X dX11_rests_20 ic_m1 ?_
        exact ao_iret (pc := 21) X hr dX11_rests_21
      · refine ao_iload_n (pc := 14) X dX11_rests_14 rfl ?_
        refine ao_bipush (pc := 15) X dX11_rests_15 bp_9 ?_
        refine ao_icmp_le (pc := 17) (tgt := 22) X dX11_rests_17 (by decide) (fun _ => ?_) (fun _ => ?_)
        · refine ao_iconst (pc := 22) X dX11_rests_22 ic_0 ?_
          refine ao_istore_n (pc := 23) (lv' := [(3, .int (0 : Int32)), (0, .ref (eAd E 0)), (1, .int v1), (2, .int v2)]) X dX11_rests_23 rfl (by decide) rfl ?_
          refine ao_aload_n (pc := 24) X dX11_rests_24 rfl ?_
          refine ao_getR (pc := 25) X dX11_rests_25 fl_RX11_19 sf_0_1 ?_
          refine ao_callVV (pc := 28) (As := []) (st := []) X hl0 dX11_rests_28 yv_X7_clear so_3 ml_RX11_284 (mX7_clear_3 hI μ) (Nat.le_of_ble_eq_true rfl) rfl rfl (Nat.le_of_ble_eq_true rfl) (fun r1 m2 => ?_)
          refine ao_iconst (pc := 31) X dX11_rests_31 ic_0 ?_
          refine ao_istore (pc := 32) (lv' := [(4, .int (0 : Int32)), (3, .int (0 : Int32)), (0, .ref (eAd E 0)), (1, .int v1), (2, .int v2)]) X dX11_rests_32 (by decide) rfl ?_
          refine ao_sub [2, 3, 4, 1, 0] rfl ?_
          exact bX11_rests_0_34 hI hl0 X hr FU v1 v2 (0 : Int32) (0 : Int32) m2
        · refine ao_iconst (pc := 20) X dX11_rests_20 ic_m1 ?_
          exact ao_iret (pc := 21) X hr dX11_rests_21
def fX12_judgeGets (v0 : Int32) (v1 : Int32) (v2 : Int32) (v3 : Int32) (μ : Mem) : Option (Int32 × Mem) :=
  if v1 < v0 then (some ((v2 - (v3 * v0)), μ))
  else some (((0 : Int32) - (v3 * v0)), μ)
set_option maxRecDepth 100000 in
set_option maxHeartbeats 4000000 in
theorem mX12_judgeGets {E : En} {l : Launch} (hI : Inj E) (v0 : Int32) (v1 : Int32) (v2 : Int32) (v3 : Int32) (μ : Mem) : MtI E l yX12_judgeGets cX12_judgeGets 4 (some .int) 1 [.int v0, .int v1, .int v2, .int v3] μ (fX12_judgeGets v0 v1 v2 v3 μ) := by
  refine mtI_of (own := RX12) [(0, .int v0), (1, .int v1), (2, .int v2), (3, .int v3)] hI rfl (by decide) (Nat.le_of_ble_eq_true rfl) (Nat.le_of_ble_eq_true rfl) rfl (fun Z hl0 X hr => ?_)
  unfold fX12_judgeGets
  refine ao_iload_n (pc := 0) X dX12_judgeGets_0 rfl ?_
  refine ao_iload_n (pc := 1) X dX12_judgeGets_1 rfl ?_
  refine ao_icmp_lt (pc := 2) (tgt := 9) X dX12_judgeGets_2 (by decide) (fun _ => ?_) (fun _ => ?_)
  · refine ao_iload_n (pc := 9) X dX12_judgeGets_9 rfl ?_
    refine ao_iload_n (pc := 10) X dX12_judgeGets_10 rfl ?_
    refine ao_iload_n (pc := 11) X dX12_judgeGets_11 rfl ?_
    refine ao_imul (pc := 12) X dX12_judgeGets_12 ?_
    refine ao_isub (pc := 13) X dX12_judgeGets_13 ?_
    exact ao_iret (pc := 14) X hr dX12_judgeGets_14
  · refine ao_iconst (pc := 5) X dX12_judgeGets_5 ic_0 ?_
    refine ao_goto (pc := 6) (tgt := 10) X dX12_judgeGets_6 (by decide) ?_
    refine ao_iload_n (pc := 10) X dX12_judgeGets_10 rfl ?_
    refine ao_iload_n (pc := 11) X dX12_judgeGets_11 rfl ?_
    refine ao_imul (pc := 12) X dX12_judgeGets_12 ?_
    refine ao_isub (pc := 13) X dX12_judgeGets_13 ?_
    exact ao_iret (pc := 14) X hr dX12_judgeGets_14
def fX12_manGets (v0 : Int32) (v1 : Int32) (v2 : Int32) (v3 : Int32) (μ : Mem) : Option (Int32 × Mem) :=
  if v1 < v0 then (some (((0 : Int32) - (v3 * v1)), μ))
  else some ((v2 - (v3 * v1)), μ)
set_option maxRecDepth 100000 in
set_option maxHeartbeats 4000000 in
theorem mX12_manGets {E : En} {l : Launch} (hI : Inj E) (v0 : Int32) (v1 : Int32) (v2 : Int32) (v3 : Int32) (μ : Mem) : MtI E l yX12_manGets cX12_manGets 4 (some .int) 1 [.int v0, .int v1, .int v2, .int v3] μ (fX12_manGets v0 v1 v2 v3 μ) := by
  refine mtI_of (own := RX12) [(0, .int v0), (1, .int v1), (2, .int v2), (3, .int v3)] hI rfl (by decide) (Nat.le_of_ble_eq_true rfl) (Nat.le_of_ble_eq_true rfl) rfl (fun Z hl0 X hr => ?_)
  unfold fX12_manGets
  refine ao_iload_n (pc := 0) X dX12_manGets_0 rfl ?_
  refine ao_iload_n (pc := 1) X dX12_manGets_1 rfl ?_
  refine ao_icmp_lt (pc := 2) (tgt := 9) X dX12_manGets_2 (by decide) (fun _ => ?_) (fun _ => ?_)
  · refine ao_iconst (pc := 9) X dX12_manGets_9 ic_0 ?_
    refine ao_iload_n (pc := 10) X dX12_manGets_10 rfl ?_
    refine ao_iload_n (pc := 11) X dX12_manGets_11 rfl ?_
    refine ao_imul (pc := 12) X dX12_manGets_12 ?_
    refine ao_isub (pc := 13) X dX12_manGets_13 ?_
    exact ao_iret (pc := 14) X hr dX12_manGets_14
  · refine ao_iload_n (pc := 5) X dX12_manGets_5 rfl ?_
    refine ao_goto (pc := 6) (tgt := 10) X dX12_manGets_6 (by decide) ?_
    refine ao_iload_n (pc := 10) X dX12_manGets_10 rfl ?_
    refine ao_iload_n (pc := 11) X dX12_manGets_11 rfl ?_
    refine ao_imul (pc := 12) X dX12_manGets_12 ?_
    refine ao_isub (pc := 13) X dX12_manGets_13 ?_
    exact ao_iret (pc := 14) X hr dX12_manGets_14
def fX12_isRest_b3 : Nat → Int32 → Int32 → Int32 → Int32 → Int32 → Mem → Option (Int32 × Mem)
  | 0, _, _, _, _, _, _ => none
  | n + 1, p0, p1, p2, p3, p4, μ =>
  if (9 : Int32) < p4 then (some ((1 : Int32), μ))
  else bnd (fX12_judgeGets p4 p1 p2 p3 μ) fun r1 m2 =>
    bnd (fX12_judgeGets p0 p1 p2 p3 m2) fun r3 m4 =>
    if r1 ≤ r3 then (bnd (fX12_manGets p0 p4 p2 p3 m4) fun r5 m6 =>
      bnd (fX12_manGets p0 p1 p2 p3 m6) fun r7 m8 =>
      if r5 ≤ r7 then (fX12_isRest_b3 n p0 p1 p2 p3 (p4 + (1 : Int32)) m8)
      else some ((0 : Int32), m8))
    else some ((0 : Int32), m4)
set_option maxRecDepth 100000 in
set_option maxHeartbeats 4000000 in
theorem bX12_isRest_3 {E : En} {l : Launch} {Z : Zt} (hI : Inj E) (hl0 : lZ l Z) (X : Cx E Z cX12_isRest RX12 5 2) (hr : rtOf Z = some .boolean) : ∀ (n : Nat) (p0 : Int32) (p1 : Int32) (p2 : Int32) (p3 : Int32) (p4 : Int32) (μ : Mem), AO E Z 5 (QI E Z) 3 [(0, .int p0), (1, .int p1), (2, .int p2), (3, .int p3), (4, .int p4)] [] μ (fX12_isRest_b3 n p0 p1 p2 p3 p4 μ) := by
  intro n
  induction n with
  | zero =>
    intros
    exact ao_none
  | succ n ih =>
    intro p0 p1 p2 p3 p4 μ
    rw [fX12_isRest_b3]
    refine ao_iload (pc := 3) X dX12_isRest_3 rfl ?_
    refine ao_bipush (pc := 5) X dX12_isRest_5 bp_9 ?_
    refine ao_icmp_gt (pc := 7) (tgt := 56) X dX12_isRest_7 (by decide) (fun _ => ?_) (fun _ => ?_)
    · refine ao_iconst (pc := 56) X dX12_isRest_56 ic_1 ?_
      exact ao_zret (pc := 57) X hr rfl dX12_isRest_57
    · refine ao_iload (pc := 10) X dX12_isRest_10 rfl ?_
      refine ao_iload_n (pc := 12) X dX12_isRest_12 rfl ?_
      refine ao_iload_n (pc := 13) X dX12_isRest_13 rfl ?_
      refine ao_iload_n (pc := 14) X dX12_isRest_14 rfl ?_
      refine ao_callSI (pc := 15) (As := [.int p4, .int p1, .int p2, .int p3]) (st := []) X hl0 dX12_isRest_15 yv_X12_judgeGets ml_RX12_369 (mX12_judgeGets hI p4 p1 p2 p3 μ) (Nat.le_of_ble_eq_true rfl) rfl rfl (Nat.le_of_ble_eq_true rfl) (fun r1 m2 => ?_)
      refine ao_iload_n (pc := 18) X dX12_isRest_18 rfl ?_
      refine ao_iload_n (pc := 19) X dX12_isRest_19 rfl ?_
      refine ao_iload_n (pc := 20) X dX12_isRest_20 rfl ?_
      refine ao_iload_n (pc := 21) X dX12_isRest_21 rfl ?_
      refine ao_callSI (pc := 22) (As := [.int p0, .int p1, .int p2, .int p3]) (st := [.int r1]) X hl0 dX12_isRest_22 yv_X12_judgeGets ml_RX12_369 (mX12_judgeGets hI p0 p1 p2 p3 m2) (Nat.le_of_ble_eq_true rfl) rfl rfl (Nat.le_of_ble_eq_true rfl) (fun r3 m4 => ?_)
      refine ao_icmp_le (pc := 25) (tgt := 30) X dX12_isRest_25 (by decide) (fun _ => ?_) (fun _ => ?_)
      · refine ao_iload_n (pc := 30) X dX12_isRest_30 rfl ?_
        refine ao_iload (pc := 31) X dX12_isRest_31 rfl ?_
        refine ao_iload_n (pc := 33) X dX12_isRest_33 rfl ?_
        refine ao_iload_n (pc := 34) X dX12_isRest_34 rfl ?_
        refine ao_callSI (pc := 35) (As := [.int p0, .int p4, .int p2, .int p3]) (st := []) X hl0 dX12_isRest_35 yv_X12_manGets ml_RX12_372 (mX12_manGets hI p0 p4 p2 p3 m4) (Nat.le_of_ble_eq_true rfl) rfl rfl (Nat.le_of_ble_eq_true rfl) (fun r5 m6 => ?_)
        refine ao_iload_n (pc := 38) X dX12_isRest_38 rfl ?_
        refine ao_iload_n (pc := 39) X dX12_isRest_39 rfl ?_
        refine ao_iload_n (pc := 40) X dX12_isRest_40 rfl ?_
        refine ao_iload_n (pc := 41) X dX12_isRest_41 rfl ?_
        refine ao_callSI (pc := 42) (As := [.int p0, .int p1, .int p2, .int p3]) (st := [.int r5]) X hl0 dX12_isRest_42 yv_X12_manGets ml_RX12_372 (mX12_manGets hI p0 p1 p2 p3 m6) (Nat.le_of_ble_eq_true rfl) rfl rfl (Nat.le_of_ble_eq_true rfl) (fun r7 m8 => ?_)
        refine ao_icmp_le (pc := 45) (tgt := 50) X dX12_isRest_45 (by decide) (fun _ => ?_) (fun _ => ?_)
        · refine ao_iinc (pc := 50) (k := 4) (v := p4 + (1 : Int32)) (lv' := [(4, .int (p4 + (1 : Int32))), (0, .int p0), (1, .int p1), (2, .int p2), (3, .int p3)]) X dX12_isRest_50 rfl (ii_ic ic_1) (by decide) rfl ?_
          refine ao_goto (pc := 53) (tgt := 3) X dX12_isRest_53 (by decide) ?_
          refine ao_sub [1, 2, 3, 4, 0] rfl ?_
          exact ih p0 p1 p2 p3 (p4 + (1 : Int32)) m8
        · refine ao_iconst (pc := 48) X dX12_isRest_48 ic_0 ?_
          exact ao_zret (pc := 49) X hr rfl dX12_isRest_49
      · refine ao_iconst (pc := 28) X dX12_isRest_28 ic_0 ?_
        exact ao_zret (pc := 29) X hr rfl dX12_isRest_29
def fX12_isRest (v0 : Int32) (v1 : Int32) (v2 : Int32) (v3 : Int32) (μ : Mem) : Option (Int32 × Mem) :=
  fX12_isRest_b3 FU v0 v1 v2 v3 (0 : Int32) μ
set_option maxRecDepth 100000 in
set_option maxHeartbeats 4000000 in
theorem mX12_isRest {E : En} {l : Launch} (hI : Inj E) (v0 : Int32) (v1 : Int32) (v2 : Int32) (v3 : Int32) (μ : Mem) : MtI E l yX12_isRest cX12_isRest 5 (some .boolean) 2 [.int v0, .int v1, .int v2, .int v3] μ (fX12_isRest v0 v1 v2 v3 μ) := by
  refine mtI_of (own := RX12) [(0, .int v0), (1, .int v1), (2, .int v2), (3, .int v3)] hI rfl (by decide) (Nat.le_of_ble_eq_true rfl) (Nat.le_of_ble_eq_true rfl) rfl (fun Z hl0 X hr => ?_)
  unfold fX12_isRest
  refine ao_iconst (pc := 0) X dX12_isRest_0 ic_0 ?_
  refine ao_istore (pc := 1) (lv' := [(4, .int (0 : Int32)), (0, .int v0), (1, .int v1), (2, .int v2), (3, .int v3)]) X dX12_isRest_1 (by decide) rfl ?_
  refine ao_sub [1, 2, 3, 4, 0] rfl ?_
  exact bX12_isRest_3 hI hl0 X hr FU v0 v1 v2 v3 (0 : Int32) μ
def fX12_rests_122_b47 (k37 : Int32 → Int32 → Int32 → Int32 → Mem → Option (Int32 × Mem)) : Nat → Int32 → Int32 → Int32 → Int32 → Int32 → Mem → Option (Int32 × Mem)
  | 0, _, _, _, _, _, _ => none
  | n + 1, p1, p2, p3, p4, p5, μ =>
  if (9 : Int32) < p5 then (k37 p1 p2 p3 (p4 + (1 : Int32)) μ)
  else bnd (fX12_isRest p4 p5 p1 p2 μ) fun r8 m9 =>
    if r8 = 0 then (fX12_rests_122_b47 k37 n p1 p2 p3 p4 (p5 + (1 : Int32)) m9)
    else if p3 = 0 then (bnd (fX12_tell_122 (Int32.toInt64 p4) m9) fun r12 m13 =>
        bnd (fX12_tell_122 (Int32.toInt64 p5) m13) fun r14 m15 =>
        fX12_rests_122_b47 k37 n p1 p2 (p3 + (1 : Int32)) p4 (p5 + (1 : Int32)) m15)
      else fX12_rests_122_b47 k37 n p1 p2 (p3 + (1 : Int32)) p4 (p5 + (1 : Int32)) m9
set_option maxRecDepth 100000 in
set_option maxHeartbeats 4000000 in
theorem bX12_rests_122_47 {E : En} {l : Launch} {Z : Zt} (hI : Inj E) (hl0 : lZ l Z) (X : Cx E Z cX12_rests RX12 6 3) (hr : rtOf Z = some .int) {k37 : Int32 → Int32 → Int32 → Int32 → Mem → Option (Int32 × Mem)} (hk37 : ∀ (p1 : Int32) (p2 : Int32) (p3 : Int32) (p4 : Int32) (m : Mem), AO E Z 6 (QI E Z) 37 [(0, .ref (eAd E 122)), (1, .int p1), (2, .int p2), (3, .int p3), (4, .int p4)] [] m (k37 p1 p2 p3 p4 m)) : ∀ (n : Nat) (p1 : Int32) (p2 : Int32) (p3 : Int32) (p4 : Int32) (p5 : Int32) (μ : Mem), AO E Z 6 (QI E Z) 47 [(0, .ref (eAd E 122)), (1, .int p1), (2, .int p2), (3, .int p3), (4, .int p4), (5, .int p5)] [] μ (fX12_rests_122_b47 k37 n p1 p2 p3 p4 p5 μ) := by
  intro n
  induction n with
  | zero =>
    intros
    exact ao_none
  | succ n ih =>
    intro p1 p2 p3 p4 p5 μ
    rw [fX12_rests_122_b47]
    refine ao_iload (pc := 47) X dX12_rests_47 rfl ?_
    refine ao_bipush (pc := 49) X dX12_rests_49 bp_9 ?_
    refine ao_icmp_gt (pc := 51) (tgt := 96) X dX12_rests_51 (by decide) (fun _ => ?_) (fun _ => ?_)
    · refine ao_iinc (pc := 96) (k := 4) (v := p4 + (1 : Int32)) (lv' := [(4, .int (p4 + (1 : Int32))), (0, .ref (eAd E 122)), (1, .int p1), (2, .int p2), (3, .int p3), (5, .int p5)]) X dX12_rests_96 rfl (ii_ic ic_1) (by decide) rfl ?_
      refine ao_goto (pc := 99) (tgt := 37) X dX12_rests_99 (by decide) ?_
      refine ao_sub [1, 2, 3, 4, 0] rfl ?_
      exact hk37 p1 p2 p3 (p4 + (1 : Int32)) μ
    · refine ao_iload (pc := 54) X dX12_rests_54 rfl ?_
      refine ao_iload (pc := 56) X dX12_rests_56 rfl ?_
      refine ao_iload_n (pc := 58) X dX12_rests_58 rfl ?_
      refine ao_iload_n (pc := 59) X dX12_rests_59 rfl ?_
      refine ao_callSI (pc := 60) (As := [.int p4, .int p5, .int p1, .int p2]) (st := []) X hl0 dX12_rests_60 yv_X12_isRest ml_RX12_375 (mX12_isRest hI p4 p5 p1 p2 μ) (Nat.le_of_ble_eq_true rfl) rfl rfl (Nat.le_of_ble_eq_true rfl) (fun r8 m9 => ?_)
      refine ao_if_ne (pc := 63) (tgt := 69) X dX12_rests_63 (by decide) (fun _ => ?_) (fun _ => ?_)
      · refine ao_iload_n (pc := 69) X dX12_rests_69 rfl ?_
        refine ao_if_ne (pc := 70) (tgt := 87) X dX12_rests_70 (by decide) (fun _ => ?_) (fun _ => ?_)
        · refine ao_iinc (pc := 87) (k := 3) (v := p3 + (1 : Int32)) (lv' := [(3, .int (p3 + (1 : Int32))), (0, .ref (eAd E 122)), (1, .int p1), (2, .int p2), (4, .int p4), (5, .int p5)]) X dX12_rests_87 rfl (ii_ic ic_1) (by decide) rfl ?_
          refine ao_iinc (pc := 90) (k := 5) (v := p5 + (1 : Int32)) (lv' := [(5, .int (p5 + (1 : Int32))), (3, .int (p3 + (1 : Int32))), (0, .ref (eAd E 122)), (1, .int p1), (2, .int p2), (4, .int p4)]) X dX12_rests_90 rfl (ii_ic ic_1) (by decide) rfl ?_
          refine ao_goto (pc := 93) (tgt := 47) X dX12_rests_93 (by decide) ?_
          refine ao_sub [2, 3, 4, 1, 5, 0] rfl ?_
          exact ih p1 p2 (p3 + (1 : Int32)) p4 (p5 + (1 : Int32)) m9
        · refine ao_aload_n (pc := 73) X dX12_rests_73 rfl ?_
          refine ao_iload (pc := 74) X dX12_rests_74 rfl ?_
          refine ao_i2l (pc := 76) X dX12_rests_76 ?_
          refine ao_callVV (pc := 77) (As := [.long (Int32.toInt64 p4)]) (st := []) X hl0 dX12_rests_77 yv_X12_tell so_122 ml_RX12_267 (mX12_tell_122 hI (Int32.toInt64 p4) m9) (Nat.le_of_ble_eq_true rfl) rfl rfl (Nat.le_of_ble_eq_true rfl) (fun r12 m13 => ?_)
          refine ao_aload_n (pc := 80) X dX12_rests_80 rfl ?_
          refine ao_iload (pc := 81) X dX12_rests_81 rfl ?_
          refine ao_i2l (pc := 83) X dX12_rests_83 ?_
          refine ao_callVV (pc := 84) (As := [.long (Int32.toInt64 p5)]) (st := []) X hl0 dX12_rests_84 yv_X12_tell so_122 ml_RX12_267 (mX12_tell_122 hI (Int32.toInt64 p5) m13) (Nat.le_of_ble_eq_true rfl) rfl rfl (Nat.le_of_ble_eq_true rfl) (fun r14 m15 => ?_)
          refine ao_iinc (pc := 87) (k := 3) (v := p3 + (1 : Int32)) (lv' := [(3, .int (p3 + (1 : Int32))), (0, .ref (eAd E 122)), (1, .int p1), (2, .int p2), (4, .int p4), (5, .int p5)]) X dX12_rests_87 rfl (ii_ic ic_1) (by decide) rfl ?_
          refine ao_iinc (pc := 90) (k := 5) (v := p5 + (1 : Int32)) (lv' := [(5, .int (p5 + (1 : Int32))), (3, .int (p3 + (1 : Int32))), (0, .ref (eAd E 122)), (1, .int p1), (2, .int p2), (4, .int p4)]) X dX12_rests_90 rfl (ii_ic ic_1) (by decide) rfl ?_
          refine ao_goto (pc := 93) (tgt := 47) X dX12_rests_93 (by decide) ?_
          refine ao_sub [2, 3, 4, 1, 5, 0] rfl ?_
          exact ih p1 p2 (p3 + (1 : Int32)) p4 (p5 + (1 : Int32)) m15
      · refine ao_goto (pc := 66) (tgt := 90) X dX12_rests_66 (by decide) ?_
        refine ao_iinc (pc := 90) (k := 5) (v := p5 + (1 : Int32)) (lv' := [(5, .int (p5 + (1 : Int32))), (0, .ref (eAd E 122)), (1, .int p1), (2, .int p2), (3, .int p3), (4, .int p4)]) X dX12_rests_90 rfl (ii_ic ic_1) (by decide) rfl ?_
        refine ao_goto (pc := 93) (tgt := 47) X dX12_rests_93 (by decide) ?_
        refine ao_sub [1, 2, 3, 4, 5, 0] rfl ?_
        exact ih p1 p2 p3 p4 (p5 + (1 : Int32)) m9
def fX12_rests_122_b37 : Nat → Int32 → Int32 → Int32 → Int32 → Mem → Option (Int32 × Mem)
  | 0, _, _, _, _, _ => none
  | n + 1, p1, p2, p3, p4, μ =>
  if (9 : Int32) < p4 then (some (p3, μ))
  else fX12_rests_122_b47 (fun p1 p2 p3 p4 m => fX12_rests_122_b37 n p1 p2 p3 p4 m) FU p1 p2 p3 p4 (0 : Int32) μ
set_option maxRecDepth 100000 in
set_option maxHeartbeats 4000000 in
theorem bX12_rests_122_37 {E : En} {l : Launch} {Z : Zt} (hI : Inj E) (hl0 : lZ l Z) (X : Cx E Z cX12_rests RX12 6 3) (hr : rtOf Z = some .int) : ∀ (n : Nat) (p1 : Int32) (p2 : Int32) (p3 : Int32) (p4 : Int32) (μ : Mem), AO E Z 6 (QI E Z) 37 [(0, .ref (eAd E 122)), (1, .int p1), (2, .int p2), (3, .int p3), (4, .int p4)] [] μ (fX12_rests_122_b37 n p1 p2 p3 p4 μ) := by
  intro n
  induction n with
  | zero =>
    intros
    exact ao_none
  | succ n ih =>
    intro p1 p2 p3 p4 μ
    rw [fX12_rests_122_b37]
    refine ao_iload (pc := 37) X dX12_rests_37 rfl ?_
    refine ao_bipush (pc := 39) X dX12_rests_39 bp_9 ?_
    refine ao_icmp_gt (pc := 41) (tgt := 102) X dX12_rests_41 (by decide) (fun _ => ?_) (fun _ => ?_)
    · refine ao_iload_n (pc := 102) X dX12_rests_102 rfl ?_
      exact ao_iret (pc := 103) X hr dX12_rests_103
    · refine ao_iconst (pc := 44) X dX12_rests_44 ic_0 ?_
      refine ao_istore (pc := 45) (lv' := [(5, .int (0 : Int32)), (0, .ref (eAd E 122)), (1, .int p1), (2, .int p2), (3, .int p3), (4, .int p4)]) X dX12_rests_45 (by decide) rfl ?_
      refine ao_sub [1, 2, 3, 4, 5, 0] rfl ?_
      exact bX12_rests_122_47 hI hl0 X hr ih FU p1 p2 p3 p4 (0 : Int32) μ
def fX12_rests_122 (v1 : Int32) (v2 : Int32) (μ : Mem) : Option (Int32 × Mem) :=
  lt (sI μ 122 17 (0 : Int32)) fun m1 =>
  bnd (fX12_in v1 (0 : Int32) (99 : Int32) m1) fun r2 m3 =>
  if r2 = 0 then (some ((-1 : Int32), m3))
  else bnd (fX12_in v2 (0 : Int32) (9 : Int32) m3) fun r4 m5 =>
    if r4 = 0 then (some ((-1 : Int32), m5))
    else lt (sI m5 122 16 (0 : Int32)) fun m6 =>
      fX12_rests_122_b37 FU v1 v2 (0 : Int32) (0 : Int32) m6
set_option maxRecDepth 100000 in
set_option maxHeartbeats 4000000 in
theorem mX12_rests_122 {E : En} {l : Launch} (hI : Inj E) (v1 : Int32) (v2 : Int32) (μ : Mem) : MtI E l yX12_rests cX12_rests 6 (some .int) 3 [.ref (eAd E 122), .int v1, .int v2] μ (fX12_rests_122 v1 v2 μ) := by
  refine mtI_of (own := RX12) [(0, .ref (eAd E 122)), (1, .int v1), (2, .int v2)] hI rfl (by decide) (Nat.le_of_ble_eq_true rfl) (Nat.le_of_ble_eq_true rfl) rfl (fun Z hl0 X hr => ?_)
  unfold fX12_rests_122
  refine ao_aload_n (pc := 0) X dX12_rests_0 rfl ?_
  refine ao_iconst (pc := 1) X dX12_rests_1 ic_0 ?_
  refine ao_putI (pc := 2) X dX12_rests_2 fp_RX12_95 sf_122_17 ?_
  refine ao_lt (fun m1 => ?_)
  refine ao_iload_n (pc := 5) X dX12_rests_5 rfl ?_
  refine ao_iconst (pc := 6) X dX12_rests_6 ic_0 ?_
  refine ao_bipush (pc := 7) X dX12_rests_7 bp_99 ?_
  refine ao_callSI (pc := 9) (As := [.int v1, .int (0 : Int32), .int (99 : Int32)]) (st := []) X hl0 dX12_rests_9 yv_X12_in ml_RX12_104 (mX12_in hI v1 (0 : Int32) (99 : Int32) m1) (Nat.le_of_ble_eq_true rfl) rfl rfl (Nat.le_of_ble_eq_true rfl) (fun r2 m3 => ?_)
  refine ao_if_eq (pc := 12) (tgt := 25) X dX12_rests_12 (by decide) (fun _ => ?_) (fun _ => ?_)
  · refine ao_iconst (pc := 25) X dX12_rests_25 ic_m1 ?_
    exact ao_iret (pc := 26) X hr dX12_rests_26
  · refine ao_iload_n (pc := 15) X dX12_rests_15 rfl ?_
    refine ao_iconst (pc := 16) X dX12_rests_16 ic_0 ?_
    refine ao_bipush (pc := 17) X dX12_rests_17 bp_9 ?_
    refine ao_callSI (pc := 19) (As := [.int v2, .int (0 : Int32), .int (9 : Int32)]) (st := []) X hl0 dX12_rests_19 yv_X12_in ml_RX12_104 (mX12_in hI v2 (0 : Int32) (9 : Int32) m3) (Nat.le_of_ble_eq_true rfl) rfl rfl (Nat.le_of_ble_eq_true rfl) (fun r4 m5 => ?_)
    refine ao_if_ne (pc := 22) (tgt := 27) X dX12_rests_22 (by decide) (fun _ => ?_) (fun _ => ?_)
    · refine ao_iconst (pc := 27) X dX12_rests_27 ic_0 ?_
      refine ao_istore_n (pc := 28) (lv' := [(3, .int (0 : Int32)), (0, .ref (eAd E 122)), (1, .int v1), (2, .int v2)]) X dX12_rests_28 rfl (by decide) rfl ?_
      refine ao_aload_n (pc := 29) X dX12_rests_29 rfl ?_
      refine ao_iconst (pc := 30) X dX12_rests_30 ic_0 ?_
      refine ao_putI (pc := 31) X dX12_rests_31 fp_RX12_98 sf_122_16 ?_
      refine ao_lt (fun m6 => ?_)
      refine ao_iconst (pc := 34) X dX12_rests_34 ic_0 ?_
      refine ao_istore (pc := 35) (lv' := [(4, .int (0 : Int32)), (3, .int (0 : Int32)), (0, .ref (eAd E 122)), (1, .int v1), (2, .int v2)]) X dX12_rests_35 (by decide) rfl ?_
      refine ao_sub [2, 3, 4, 1, 0] rfl ?_
      exact bX12_rests_122_37 hI hl0 X hr FU v1 v2 (0 : Int32) (0 : Int32) m6
    · refine ao_iconst (pc := 25) X dX12_rests_25 ic_m1 ?_
      exact ao_iret (pc := 26) X hr dX12_rests_26
def fX11_drawn (v0 : Int32) (v1 : Int32) (μ : Mem) : Option (Int32 × Mem) :=
  if (1 : Int32) ≤ v1 then (gd (!(v1 == 0)) (some (((ushr v0 (16 : Int32)) - (ushr v0 (16 : Int32)) / v1 * v1), μ)))
  else some ((0 : Int32), μ)
set_option maxRecDepth 100000 in
set_option maxHeartbeats 4000000 in
theorem mX11_drawn {E : En} {l : Launch} (hI : Inj E) (v0 : Int32) (v1 : Int32) (μ : Mem) : MtI E l yX11_drawn cX11_drawn 2 (some .int) 1 [.int v0, .int v1] μ (fX11_drawn v0 v1 μ) := by
  refine mtI_of (own := RX11) [(0, .int v0), (1, .int v1)] hI rfl (by decide) (Nat.le_of_ble_eq_true rfl) (Nat.le_of_ble_eq_true rfl) rfl (fun Z hl0 X hr => ?_)
  unfold fX11_drawn
  refine ao_iload_n (pc := 0) X dX11_drawn_0 rfl ?_
  refine ao_iconst (pc := 1) X dX11_drawn_1 ic_1 ?_
  refine ao_icmp_ge (pc := 2) (tgt := 9) X dX11_drawn_2 (by decide) (fun _ => ?_) (fun _ => ?_)
  · refine ao_iload_n (pc := 9) X dX11_drawn_9 rfl ?_
    refine ao_bipush (pc := 10) X dX11_drawn_10 bp_16 ?_
    refine ao_iushr (pc := 12) X dX11_drawn_12 ?_
    refine ao_iload_n (pc := 13) X dX11_drawn_13 rfl ?_
    refine ao_irem (pc := 14) X dX11_drawn_14 ?_
    exact ao_iret (pc := 15) X hr dX11_drawn_15
  · refine ao_iconst (pc := 5) X dX11_drawn_5 ic_0 ?_
    refine ao_goto (pc := 6) (tgt := 15) X dX11_drawn_6 (by decide) ?_
    exact ao_iret (pc := 15) X hr dX11_drawn_15
def fX11_stirred (v0 : Int32) (μ : Mem) : Option (Int32 × Mem) :=
  some (((v0 * (1103515245 : Int32)) + (12345 : Int32)), μ)
set_option maxRecDepth 100000 in
set_option maxHeartbeats 4000000 in
theorem mX11_stirred {E : En} {l : Launch} (hI : Inj E) (v0 : Int32) (μ : Mem) : MtI E l yX11_stirred cX11_stirred 1 (some .int) 1 [.int v0] μ (fX11_stirred v0 μ) := by
  refine mtI_of (own := RX11) [(0, .int v0)] hI rfl (by decide) (Nat.le_of_ble_eq_true rfl) (Nat.le_of_ble_eq_true rfl) rfl (fun Z hl0 X hr => ?_)
  unfold fX11_stirred
  refine ao_iload_n (pc := 0) X dX11_stirred_0 rfl ?_
  refine ao_ldcw (pc := 1) X dX11_stirred_1 kc_RX11_436 ?_
  refine ao_imul (pc := 4) X dX11_stirred_4 ?_
  refine ao_sipush (pc := 5) X dX11_stirred_5 sp_12345 ?_
  refine ao_iadd (pc := 8) X dX11_stirred_8 ?_
  exact ao_iret (pc := 9) X hr dX11_stirred_9
def fX4_has_38 (v1 : Int32) (μ : Mem) : Option (Int32 × Mem) :=
  if v1 < 0 then (some ((0 : Int32), μ))
  else if (gI μ 5 5) ≤ v1 then (some ((0 : Int32), μ))
    else some ((1 : Int32), μ)
set_option maxRecDepth 100000 in
set_option maxHeartbeats 4000000 in
theorem mX4_has_38 {E : En} {l : Launch} (hI : Inj E) (v1 : Int32) (μ : Mem) : MtI E l yX4_has cX4_has 2 (some .boolean) 1 [.ref (eAd E 38), .int v1] μ (fX4_has_38 v1 μ) := by
  refine mtI_of (own := RX4) [(0, .ref (eAd E 38)), (1, .int v1)] hI rfl (by decide) (Nat.le_of_ble_eq_true rfl) (Nat.le_of_ble_eq_true rfl) rfl (fun Z hl0 X hr => ?_)
  unfold fX4_has_38
  refine ao_iload_n (pc := 0) X dX4_has_0 rfl ?_
  refine ao_if_lt (pc := 1) (tgt := 19) X dX4_has_1 (by decide) (fun _ => ?_) (fun _ => ?_)
  · refine ao_iconst (pc := 19) X dX4_has_19 ic_0 ?_
    exact ao_zret (pc := 20) X hr rfl dX4_has_20
  · refine ao_iload_n (pc := 4) X dX4_has_4 rfl ?_
    refine ao_aload_n (pc := 5) X dX4_has_5 rfl ?_
    refine ao_getR (pc := 6) X dX4_has_6 fl_RX4_31 sf_38_6 ?_
    refine ao_getI (pc := 9) X dX4_has_9 fl_RX4_54 sf_5_5 ?_
    refine ao_icmp_ge (pc := 12) (tgt := 19) X dX4_has_12 (by decide) (fun _ => ?_) (fun _ => ?_)
    · refine ao_iconst (pc := 19) X dX4_has_19 ic_0 ?_
      exact ao_zret (pc := 20) X hr rfl dX4_has_20
    · refine ao_iconst (pc := 15) X dX4_has_15 ic_1 ?_
      refine ao_goto (pc := 16) (tgt := 20) X dX4_has_16 (by decide) ?_
      exact ao_zret (pc := 20) X hr rfl dX4_has_20
def fX4_leftNow_38 (v1 : Int32) (μ : Mem) : Option (Int32 × Mem) :=
  gd (inb v1 6) (gd (inb v1 6) (bnd (fX4_leftWith_38 v1 (gI μ 40 (ix v1)) (gI μ 41 (ix v1)) (gI μ 38 4) μ) fun r1 m2 =>
  some (r1, m2)))
set_option maxRecDepth 100000 in
set_option maxHeartbeats 4000000 in
theorem mX4_leftNow_38 {E : En} {l : Launch} (hI : Inj E) (v1 : Int32) (μ : Mem) : MtI E l yX4_leftNow cX4_leftNow 2 (some .int) 4 [.ref (eAd E 38), .int v1] μ (fX4_leftNow_38 v1 μ) := by
  refine mtI_of (own := RX4) [(0, .ref (eAd E 38)), (1, .int v1)] hI rfl (by decide) (Nat.le_of_ble_eq_true rfl) (Nat.le_of_ble_eq_true rfl) rfl (fun Z hl0 X hr => ?_)
  unfold fX4_leftNow_38
  refine ao_aload_n (pc := 0) X dX4_leftNow_0 rfl ?_
  refine ao_iload_n (pc := 1) X dX4_leftNow_1 rfl ?_
  refine ao_aload_n (pc := 2) X dX4_leftNow_2 rfl ?_
  refine ao_getR (pc := 3) X dX4_leftNow_3 fl_RX4_15 sf_38_1 ?_
  refine ao_iload_n (pc := 6) X dX4_leftNow_6 rfl ?_
  refine ao_iald (pc := 7) X dX4_leftNow_7 sa_40 ?_
  refine ao_aload_n (pc := 8) X dX4_leftNow_8 rfl ?_
  refine ao_getR (pc := 9) X dX4_leftNow_9 fl_RX4_18 sf_38_2 ?_
  refine ao_iload_n (pc := 12) X dX4_leftNow_12 rfl ?_
  refine ao_iald (pc := 13) X dX4_leftNow_13 sa_41 ?_
  refine ao_aload_n (pc := 14) X dX4_leftNow_14 rfl ?_
  refine ao_getI (pc := 15) X dX4_leftNow_15 fl_RX4_24 sf_38_4 ?_
  refine ao_callVI (pc := 18) (As := [.int v1, .int (gI μ 40 (ix v1)), .int (gI μ 41 (ix v1)), .int (gI μ 38 4)]) (st := []) X hl0 dX4_leftNow_18 yv_X4_leftWith so_38 ml_RX4_115 (mX4_leftWith_38 hI v1 (gI μ 40 (ix v1)) (gI μ 41 (ix v1)) (gI μ 38 4) μ) (Nat.le_of_ble_eq_true rfl) rfl rfl (Nat.le_of_ble_eq_true rfl) (fun r1 m2 => ?_)
  exact ao_iret (pc := 21) X hr dX4_leftNow_21
def fX4_askOf_38 (v1 : Int32) (μ : Mem) : Option (Int32 × Mem) :=
  bnd (fX4_has_38 v1 μ) fun r1 m2 =>
  if r1 = 0 then (some ((-1 : Int32), m2))
  else bnd (fX4_isSilent_38 v1 m2) fun r3 m4 =>
    if r3 = 0 then (some ((-2 : Int32), m4))
    else gd (inb v1 6) (if (gI m4 8 (ix v1)) = 0 then (bnd (fX4_leftNow_38 v1 m4) fun r5 m6 =>
        gd (inb v1 6) (if r5 ≤ (gI m6 7 (ix v1)) then (gd (inb v1 6) (lt (sI m6 39 (ix v1) (1 : Int32)) fun m7 =>
          gd (inb v1 6) (lt (sI m7 40 (ix v1) (0 : Int32)) fun m8 =>
          lt (sI m8 38 5 ((gI m8 38 5) + (1 : Int32))) fun m9 =>
          some ((1 : Int32), m9))))
        else some ((0 : Int32), m6)))
      else some ((0 : Int32), m4))
set_option maxRecDepth 100000 in
set_option maxHeartbeats 4000000 in
theorem mX4_askOf_38 {E : En} {l : Launch} (hI : Inj E) (v1 : Int32) (μ : Mem) : MtI E l yX4_askOf cX4_askOf 2 (some .int) 5 [.ref (eAd E 38), .int v1] μ (fX4_askOf_38 v1 μ) := by
  refine mtI_of (own := RX4) [(0, .ref (eAd E 38)), (1, .int v1)] hI rfl (by decide) (Nat.le_of_ble_eq_true rfl) (Nat.le_of_ble_eq_true rfl) rfl (fun Z hl0 X hr => ?_)
  unfold fX4_askOf_38
  refine ao_aload_n (pc := 0) X dX4_askOf_0 rfl ?_
  refine ao_iload_n (pc := 1) X dX4_askOf_1 rfl ?_
  refine ao_callVI (pc := 2) (As := [.int v1]) (st := []) X hl0 dX4_askOf_2 yv_X4_has so_38 ml_RX4_59 (mX4_has_38 hI v1 μ) (Nat.le_of_ble_eq_true rfl) rfl rfl (Nat.le_of_ble_eq_true rfl) (fun r1 m2 => ?_)
  refine ao_if_ne (pc := 5) (tgt := 10) X dX4_askOf_5 (by decide) (fun _ => ?_) (fun _ => ?_)
  · refine ao_aload_n (pc := 10) X dX4_askOf_10 rfl ?_
    refine ao_iload_n (pc := 11) X dX4_askOf_11 rfl ?_
    refine ao_callVI (pc := 12) (As := [.int v1]) (st := []) X hl0 dX4_askOf_12 yv_X4_isSilent so_38 ml_RX4_63 (mX4_isSilent_38 hI v1 m2) (Nat.le_of_ble_eq_true rfl) rfl rfl (Nat.le_of_ble_eq_true rfl) (fun r3 m4 => ?_)
    refine ao_if_ne (pc := 15) (tgt := 21) X dX4_askOf_15 (by decide) (fun _ => ?_) (fun _ => ?_)
    · refine ao_aload_n (pc := 21) X dX4_askOf_21 rfl ?_
      refine ao_getR (pc := 22) X dX4_askOf_22 fl_RX4_31 sf_38_6 ?_
      refine ao_getR (pc := 25) X dX4_askOf_25 fl_RX4_75 sf_5_2 ?_
      refine ao_iload_n (pc := 28) X dX4_askOf_28 rfl ?_
      refine ao_zald (pc := 29) X dX4_askOf_29 sa_8 ?_
      refine ao_if_ne (pc := 30) (tgt := 50) X dX4_askOf_30 (by decide) (fun _ => ?_) (fun _ => ?_)
      · refine ao_iconst (pc := 50) X dX4_askOf_50 ic_0 ?_
        exact ao_iret (pc := 51) X hr dX4_askOf_51
      · refine ao_aload_n (pc := 33) X dX4_askOf_33 rfl ?_
        refine ao_iload_n (pc := 34) X dX4_askOf_34 rfl ?_
        refine ao_callVI (pc := 35) (As := [.int v1]) (st := []) X hl0 dX4_askOf_35 yv_X4_leftNow so_38 ml_RX4_79 (mX4_leftNow_38 hI v1 m4) (Nat.le_of_ble_eq_true rfl) rfl rfl (Nat.le_of_ble_eq_true rfl) (fun r5 m6 => ?_)
        refine ao_aload_n (pc := 38) X dX4_askOf_38 rfl ?_
        refine ao_getR (pc := 39) X dX4_askOf_39 fl_RX4_31 sf_38_6 ?_
        refine ao_getR (pc := 42) X dX4_askOf_42 fl_RX4_83 sf_5_1 ?_
        refine ao_iload_n (pc := 45) X dX4_askOf_45 rfl ?_
        refine ao_iald (pc := 46) X dX4_askOf_46 sa_7 ?_
        refine ao_icmp_le (pc := 47) (tgt := 52) X dX4_askOf_47 (by decide) (fun _ => ?_) (fun _ => ?_)
        · refine ao_aload_n (pc := 52) X dX4_askOf_52 rfl ?_
          refine ao_getR (pc := 53) X dX4_askOf_53 fl_RX4_9 sf_38_0 ?_
          refine ao_iload_n (pc := 56) X dX4_askOf_56 rfl ?_
          refine ao_iconst (pc := 57) X dX4_askOf_57 ic_1 ?_
          refine ao_iast (pc := 58) X dX4_askOf_58 sa_39 ?_
          refine ao_lt (fun m7 => ?_)
          refine ao_aload_n (pc := 59) X dX4_askOf_59 rfl ?_
          refine ao_getR (pc := 60) X dX4_askOf_60 fl_RX4_15 sf_38_1 ?_
          refine ao_iload_n (pc := 63) X dX4_askOf_63 rfl ?_
          refine ao_iconst (pc := 64) X dX4_askOf_64 ic_0 ?_
          refine ao_iast (pc := 65) X dX4_askOf_65 sa_40 ?_
          refine ao_lt (fun m8 => ?_)
          refine ao_aload_n (pc := 66) X dX4_askOf_66 rfl ?_
          refine ao_dup (pc := 67) X dX4_askOf_67 rfl ?_
          refine ao_getI (pc := 68) X dX4_askOf_68 fl_RX4_28 sf_38_5 ?_
          refine ao_iconst (pc := 71) X dX4_askOf_71 ic_1 ?_
          refine ao_iadd (pc := 72) X dX4_askOf_72 ?_
          refine ao_putI (pc := 73) X dX4_askOf_73 fp_RX4_28 sf_38_5 ?_
          refine ao_lt (fun m9 => ?_)
          refine ao_iconst (pc := 76) X dX4_askOf_76 ic_1 ?_
          exact ao_iret (pc := 77) X hr dX4_askOf_77
        · refine ao_iconst (pc := 50) X dX4_askOf_50 ic_0 ?_
          exact ao_iret (pc := 51) X hr dX4_askOf_51
    · refine ao_bipush (pc := 18) X dX4_askOf_18 bp_m2 ?_
      exact ao_iret (pc := 20) X hr dX4_askOf_20
  · refine ao_iconst (pc := 8) X dX4_askOf_8 ic_m1 ?_
    exact ao_iret (pc := 9) X hr dX4_askOf_9
def fX4_layOn_38 (v1 : Int32) (v2 : Int32) (μ : Mem) : Option (Int32 × Mem) :=
  bnd (fX4_has_38 v1 μ) fun r1 m2 =>
  if r1 = 0 then (some ((-1 : Int32), m2))
  else if v2 = 0 then (some ((-1 : Int32), m2))
    else if v2 < (-50 : Int32) then (some ((-1 : Int32), m2))
      else if v2 ≤ (50 : Int32) then (bnd (fX4_isSilent_38 v1 m2) fun r3 m4 =>
          if r3 = 0 then (some ((-2 : Int32), m4))
          else gd (inb v1 6) (gd (inb v1 6) (lt (sI m4 40 (ix v1) (imax (0 : Int32) (imin (99 : Int32) ((gI m4 40 (ix v1)) + v2)))) fun m5 =>
            gd (inb v1 6) (some ((gI m5 40 (ix v1)), m5)))))
        else some ((-1 : Int32), m2)
set_option maxRecDepth 100000 in
set_option maxHeartbeats 4000000 in
theorem mX4_layOn_38 {E : En} {l : Launch} (hI : Inj E) (v1 : Int32) (v2 : Int32) (μ : Mem) : MtI E l yX4_layOn cX4_layOn 3 (some .int) 2 [.ref (eAd E 38), .int v1, .int v2] μ (fX4_layOn_38 v1 v2 μ) := by
  refine mtI_of (own := RX4) [(0, .ref (eAd E 38)), (1, .int v1), (2, .int v2)] hI rfl (by decide) (Nat.le_of_ble_eq_true rfl) (Nat.le_of_ble_eq_true rfl) rfl (fun Z hl0 X hr => ?_)
  unfold fX4_layOn_38
  refine ao_aload_n (pc := 0) X dX4_layOn_0 rfl ?_
  refine ao_iload_n (pc := 1) X dX4_layOn_1 rfl ?_
  refine ao_callVI (pc := 2) (As := [.int v1]) (st := []) X hl0 dX4_layOn_2 yv_X4_has so_38 ml_RX4_59 (mX4_has_38 hI v1 μ) (Nat.le_of_ble_eq_true rfl) rfl rfl (Nat.le_of_ble_eq_true rfl) (fun r1 m2 => ?_)
  refine ao_if_eq (pc := 5) (tgt := 24) X dX4_layOn_5 (by decide) (fun _ => ?_) (fun _ => ?_)
  · refine ao_iconst (pc := 24) X dX4_layOn_24 ic_m1 ?_
    exact ao_iret (pc := 25) X hr dX4_layOn_25
  · refine ao_iload_n (pc := 8) X dX4_layOn_8 rfl ?_
    refine ao_if_eq (pc := 9) (tgt := 24) X dX4_layOn_9 (by decide) (fun _ => ?_) (fun _ => ?_)
    · refine ao_iconst (pc := 24) X dX4_layOn_24 ic_m1 ?_
      exact ao_iret (pc := 25) X hr dX4_layOn_25
    · refine ao_iload_n (pc := 12) X dX4_layOn_12 rfl ?_
      refine ao_bipush (pc := 13) X dX4_layOn_13 bp_m50 ?_
      refine ao_icmp_lt (pc := 15) (tgt := 24) X dX4_layOn_15 (by decide) (fun _ => ?_) (fun _ => ?_)
      · refine ao_iconst (pc := 24) X dX4_layOn_24 ic_m1 ?_
        exact ao_iret (pc := 25) X hr dX4_layOn_25
      · refine ao_iload_n (pc := 18) X dX4_layOn_18 rfl ?_
        refine ao_bipush (pc := 19) X dX4_layOn_19 bp_50 ?_
        refine ao_icmp_le (pc := 21) (tgt := 26) X dX4_layOn_21 (by decide) (fun _ => ?_) (fun _ => ?_)
        · refine ao_aload_n (pc := 26) X dX4_layOn_26 rfl ?_
          refine ao_iload_n (pc := 27) X dX4_layOn_27 rfl ?_
          refine ao_callVI (pc := 28) (As := [.int v1]) (st := []) X hl0 dX4_layOn_28 yv_X4_isSilent so_38 ml_RX4_63 (mX4_isSilent_38 hI v1 m2) (Nat.le_of_ble_eq_true rfl) rfl rfl (Nat.le_of_ble_eq_true rfl) (fun r3 m4 => ?_)
          refine ao_if_ne (pc := 31) (tgt := 37) X dX4_layOn_31 (by decide) (fun _ => ?_) (fun _ => ?_)
          · refine ao_aload_n (pc := 37) X dX4_layOn_37 rfl ?_
            refine ao_getR (pc := 38) X dX4_layOn_38 fl_RX4_15 sf_38_1 ?_
            refine ao_iload_n (pc := 41) X dX4_layOn_41 rfl ?_
            refine ao_iconst (pc := 42) X dX4_layOn_42 ic_0 ?_
            refine ao_bipush (pc := 43) X dX4_layOn_43 bp_99 ?_
            refine ao_aload_n (pc := 45) X dX4_layOn_45 rfl ?_
            refine ao_getR (pc := 46) X dX4_layOn_46 fl_RX4_15 sf_38_1 ?_
            refine ao_iload_n (pc := 49) X dX4_layOn_49 rfl ?_
            refine ao_iald (pc := 50) X dX4_layOn_50 sa_40 ?_
            refine ao_iload_n (pc := 51) X dX4_layOn_51 rfl ?_
            refine ao_iadd (pc := 52) X dX4_layOn_52 ?_
            refine ao_min (pc := 53) X dX4_layOn_53 ml_RX4_66 MinW_ok (Nat.le_of_ble_eq_true rfl) ?_
            refine ao_max (pc := 56) X dX4_layOn_56 ml_RX4_72 MaxW_ok (Nat.le_of_ble_eq_true rfl) ?_
            refine ao_iast (pc := 59) X dX4_layOn_59 sa_40 ?_
            refine ao_lt (fun m5 => ?_)
            refine ao_aload_n (pc := 60) X dX4_layOn_60 rfl ?_
            refine ao_getR (pc := 61) X dX4_layOn_61 fl_RX4_15 sf_38_1 ?_
            refine ao_iload_n (pc := 64) X dX4_layOn_64 rfl ?_
            refine ao_iald (pc := 65) X dX4_layOn_65 sa_40 ?_
            exact ao_iret (pc := 66) X hr dX4_layOn_66
          · refine ao_bipush (pc := 34) X dX4_layOn_34 bp_m2 ?_
            exact ao_iret (pc := 36) X hr dX4_layOn_36
        · refine ao_iconst (pc := 24) X dX4_layOn_24 ic_m1 ?_
          exact ao_iret (pc := 25) X hr dX4_layOn_25
def fX4_wordIn_38 (v1 : Int32) (v2 : Int32) (μ : Mem) : Option (Int32 × Mem) :=
  gd (inb v1 8) (gd (inb v1 8) (some ((imax (0 : Int32) ((gI μ 42 (ix v1)) - ((gI μ 14 (ix v1)) * v2))), μ)))
set_option maxRecDepth 100000 in
set_option maxHeartbeats 4000000 in
theorem mX4_wordIn_38 {E : En} {l : Launch} (hI : Inj E) (v1 : Int32) (v2 : Int32) (μ : Mem) : MtI E l yX4_wordIn cX4_wordIn 3 (some .int) 1 [.ref (eAd E 38), .int v1, .int v2] μ (fX4_wordIn_38 v1 v2 μ) := by
  refine mtI_of (own := RX4) [(0, .ref (eAd E 38)), (1, .int v1), (2, .int v2)] hI rfl (by decide) (Nat.le_of_ble_eq_true rfl) (Nat.le_of_ble_eq_true rfl) rfl (fun Z hl0 X hr => ?_)
  unfold fX4_wordIn_38
  refine ao_iconst (pc := 0) X dX4_wordIn_0 ic_0 ?_
  refine ao_aload_n (pc := 1) X dX4_wordIn_1 rfl ?_
  refine ao_getR (pc := 2) X dX4_wordIn_2 fl_RX4_21 sf_38_3 ?_
  refine ao_iload_n (pc := 5) X dX4_wordIn_5 rfl ?_
  refine ao_iald (pc := 6) X dX4_wordIn_6 sa_42 ?_
  refine ao_aload_n (pc := 7) X dX4_wordIn_7 rfl ?_
  refine ao_getR (pc := 8) X dX4_wordIn_8 fl_RX4_35 sf_38_7 ?_
  refine ao_getR (pc := 11) X dX4_wordIn_11 fl_RX4_120 sf_11_2 ?_
  refine ao_iload_n (pc := 14) X dX4_wordIn_14 rfl ?_
  refine ao_iald (pc := 15) X dX4_wordIn_15 sa_14 ?_
  refine ao_iload_n (pc := 16) X dX4_wordIn_16 rfl ?_
  refine ao_imul (pc := 17) X dX4_wordIn_17 ?_
  refine ao_isub (pc := 18) X dX4_wordIn_18 ?_
  refine ao_max (pc := 19) X dX4_wordIn_19 ml_RX4_72 MaxW_ok (Nat.le_of_ble_eq_true rfl) ?_
  exact ao_iret (pc := 22) X hr dX4_wordIn_22
def fX4_proofIn_38_b5 : Nat → Int32 → Int32 → Int32 → Int32 → Mem → Option (Int32 × Mem)
  | 0, _, _, _, _, _ => none
  | n + 1, p1, p2, p3, p4, μ =>
  if (gI μ 11 3) ≤ p4 then (some (p3, μ))
  else gd (inb p4 8) (if (gI μ 12 (ix p4)) = p1 then (bnd (fX4_wordIn_38 p4 p2 μ) fun r3 m4 =>
      lt (p3 + r3) fun x5 =>
      fX4_proofIn_38_b5 n p1 p2 x5 (p4 + (1 : Int32)) m4)
    else lt (p3 + (0 : Int32)) fun x1 =>
      fX4_proofIn_38_b5 n p1 p2 x1 (p4 + (1 : Int32)) μ)
set_option maxRecDepth 100000 in
set_option maxHeartbeats 4000000 in
theorem bX4_proofIn_38_5 {E : En} {l : Launch} {Z : Zt} (hI : Inj E) (hl0 : lZ l Z) (X : Cx E Z cX4_proofIn RX4 5 2) (hr : rtOf Z = some .int) : ∀ (n : Nat) (p1 : Int32) (p2 : Int32) (p3 : Int32) (p4 : Int32) (μ : Mem), AO E Z 5 (QI E Z) 5 [(0, .ref (eAd E 38)), (1, .int p1), (2, .int p2), (3, .int p3), (4, .int p4)] [] μ (fX4_proofIn_38_b5 n p1 p2 p3 p4 μ) := by
  intro n
  induction n with
  | zero =>
    intros
    exact ao_none
  | succ n ih =>
    intro p1 p2 p3 p4 μ
    rw [fX4_proofIn_38_b5]
    refine ao_iload (pc := 5) X dX4_proofIn_5 rfl ?_
    refine ao_aload_n (pc := 7) X dX4_proofIn_7 rfl ?_
    refine ao_getR (pc := 8) X dX4_proofIn_8 fl_RX4_35 sf_38_7 ?_
    refine ao_getI (pc := 11) X dX4_proofIn_11 fl_RX4_119 sf_11_3 ?_
    refine ao_icmp_ge (pc := 14) (tgt := 51) X dX4_proofIn_14 (by decide) (fun _ => ?_) (fun _ => ?_)
    · refine ao_iload_n (pc := 51) X dX4_proofIn_51 rfl ?_
      exact ao_iret (pc := 52) X hr dX4_proofIn_52
    · refine ao_iload_n (pc := 17) X dX4_proofIn_17 rfl ?_
      refine ao_aload_n (pc := 18) X dX4_proofIn_18 rfl ?_
      refine ao_getR (pc := 19) X dX4_proofIn_19 fl_RX4_35 sf_38_7 ?_
      refine ao_getR (pc := 22) X dX4_proofIn_22 fl_RX4_143 sf_11_0 ?_
      refine ao_iload (pc := 25) X dX4_proofIn_25 rfl ?_
      refine ao_iald (pc := 27) X dX4_proofIn_27 sa_12 ?_
      refine ao_iload_n (pc := 28) X dX4_proofIn_28 rfl ?_
      refine ao_icmp_ne (pc := 29) (tgt := 42) X dX4_proofIn_29 (by decide) (fun _ => ?_) (fun _ => ?_)
      · refine ao_iconst (pc := 42) X dX4_proofIn_42 ic_0 ?_
        refine ao_iadd (pc := 43) X dX4_proofIn_43 ?_
        refine ao_ltI (fun x1 => ?_)
        refine ao_istore_n (pc := 44) (lv' := [(3, .int x1), (0, .ref (eAd E 38)), (1, .int p1), (2, .int p2), (4, .int p4)]) X dX4_proofIn_44 rfl (by decide) rfl ?_
        refine ao_iinc (pc := 45) (k := 4) (v := p4 + (1 : Int32)) (lv' := [(4, .int (p4 + (1 : Int32))), (3, .int x1), (0, .ref (eAd E 38)), (1, .int p1), (2, .int p2)]) X dX4_proofIn_45 rfl (ii_ic ic_1) (by decide) rfl ?_
        refine ao_goto (pc := 48) (tgt := 5) X dX4_proofIn_48 (by decide) ?_
        refine ao_sub [2, 3, 4, 1, 0] rfl ?_
        exact ih p1 p2 x1 (p4 + (1 : Int32)) μ
      · refine ao_aload_n (pc := 32) X dX4_proofIn_32 rfl ?_
        refine ao_iload (pc := 33) X dX4_proofIn_33 rfl ?_
        refine ao_iload_n (pc := 35) X dX4_proofIn_35 rfl ?_
        refine ao_callVI (pc := 36) (As := [.int p4, .int p2]) (st := [.int p3]) X hl0 dX4_proofIn_36 yv_X4_wordIn so_38 ml_RX4_146 (mX4_wordIn_38 hI p4 p2 μ) (Nat.le_of_ble_eq_true rfl) rfl rfl (Nat.le_of_ble_eq_true rfl) (fun r3 m4 => ?_)
        refine ao_goto (pc := 39) (tgt := 43) X dX4_proofIn_39 (by decide) ?_
        refine ao_iadd (pc := 43) X dX4_proofIn_43 ?_
        refine ao_ltI (fun x5 => ?_)
        refine ao_istore_n (pc := 44) (lv' := [(3, .int x5), (0, .ref (eAd E 38)), (1, .int p1), (2, .int p2), (4, .int p4)]) X dX4_proofIn_44 rfl (by decide) rfl ?_
        refine ao_iinc (pc := 45) (k := 4) (v := p4 + (1 : Int32)) (lv' := [(4, .int (p4 + (1 : Int32))), (3, .int x5), (0, .ref (eAd E 38)), (1, .int p1), (2, .int p2)]) X dX4_proofIn_45 rfl (ii_ic ic_1) (by decide) rfl ?_
        refine ao_goto (pc := 48) (tgt := 5) X dX4_proofIn_48 (by decide) ?_
        refine ao_sub [2, 3, 4, 1, 0] rfl ?_
        exact ih p1 p2 x5 (p4 + (1 : Int32)) m4
def fX4_proofIn_38 (v1 : Int32) (v2 : Int32) (μ : Mem) : Option (Int32 × Mem) :=
  fX4_proofIn_38_b5 FU v1 v2 (0 : Int32) (0 : Int32) μ
set_option maxRecDepth 100000 in
set_option maxHeartbeats 4000000 in
theorem mX4_proofIn_38 {E : En} {l : Launch} (hI : Inj E) (v1 : Int32) (v2 : Int32) (μ : Mem) : MtI E l yX4_proofIn cX4_proofIn 5 (some .int) 2 [.ref (eAd E 38), .int v1, .int v2] μ (fX4_proofIn_38 v1 v2 μ) := by
  refine mtI_of (own := RX4) [(0, .ref (eAd E 38)), (1, .int v1), (2, .int v2)] hI rfl (by decide) (Nat.le_of_ble_eq_true rfl) (Nat.le_of_ble_eq_true rfl) rfl (fun Z hl0 X hr => ?_)
  unfold fX4_proofIn_38
  refine ao_iconst (pc := 0) X dX4_proofIn_0 ic_0 ?_
  refine ao_istore_n (pc := 1) (lv' := [(3, .int (0 : Int32)), (0, .ref (eAd E 38)), (1, .int v1), (2, .int v2)]) X dX4_proofIn_1 rfl (by decide) rfl ?_
  refine ao_iconst (pc := 2) X dX4_proofIn_2 ic_0 ?_
  refine ao_istore (pc := 3) (lv' := [(4, .int (0 : Int32)), (3, .int (0 : Int32)), (0, .ref (eAd E 38)), (1, .int v1), (2, .int v2)]) X dX4_proofIn_3 (by decide) rfl ?_
  refine ao_sub [2, 3, 4, 1, 0] rfl ?_
  exact bX4_proofIn_38_5 hI hl0 X hr FU v1 v2 (0 : Int32) (0 : Int32) μ
def fX4_verdictIn_38 (v1 : Int32) (v2 : Int32) (μ : Mem) : Option (Int32 × Mem) :=
  bnd (fX4_proofIn_38 v1 v2 μ) fun r1 m2 =>
  if r1 < (100 : Int32) then (some ((3 : Int32), m2))
  else some ((4 : Int32), m2)
set_option maxRecDepth 100000 in
set_option maxHeartbeats 4000000 in
theorem mX4_verdictIn_38 {E : En} {l : Launch} (hI : Inj E) (v1 : Int32) (v2 : Int32) (μ : Mem) : MtI E l yX4_verdictIn cX4_verdictIn 3 (some .int) 3 [.ref (eAd E 38), .int v1, .int v2] μ (fX4_verdictIn_38 v1 v2 μ) := by
  refine mtI_of (own := RX4) [(0, .ref (eAd E 38)), (1, .int v1), (2, .int v2)] hI rfl (by decide) (Nat.le_of_ble_eq_true rfl) (Nat.le_of_ble_eq_true rfl) rfl (fun Z hl0 X hr => ?_)
  unfold fX4_verdictIn_38
  refine ao_aload_n (pc := 0) X dX4_verdictIn_0 rfl ?_
  refine ao_iload_n (pc := 1) X dX4_verdictIn_1 rfl ?_
  refine ao_iload_n (pc := 2) X dX4_verdictIn_2 rfl ?_
  refine ao_callVI (pc := 3) (As := [.int v1, .int v2]) (st := []) X hl0 dX4_verdictIn_3 yv_X4_proofIn so_38 ml_RX4_149 (mX4_proofIn_38 hI v1 v2 μ) (Nat.le_of_ble_eq_true rfl) rfl rfl (Nat.le_of_ble_eq_true rfl) (fun r1 m2 => ?_)
  refine ao_bipush (pc := 6) X dX4_verdictIn_6 bp_100 ?_
  refine ao_icmp_lt (pc := 8) (tgt := 15) X dX4_verdictIn_8 (by decide) (fun _ => ?_) (fun _ => ?_)
  · refine ao_iconst (pc := 15) X dX4_verdictIn_15 ic_3 ?_
    exact ao_iret (pc := 16) X hr dX4_verdictIn_16
  · refine ao_iconst (pc := 11) X dX4_verdictIn_11 ic_4 ?_
    refine ao_goto (pc := 12) (tgt := 16) X dX4_verdictIn_12 (by decide) ?_
    exact ao_iret (pc := 16) X hr dX4_verdictIn_16
def fX4_tryNow_38 (v1 : Int32) (μ : Mem) : Option (Int32 × Mem) :=
  bnd (fX4_has_38 v1 μ) fun r1 m2 =>
  if r1 = 0 then (some ((-1 : Int32), m2))
  else gd (inb v1 6) (if (gI m2 39 (ix v1)) = (1 : Int32) then (bnd (fX4_verdictIn_38 v1 (0 : Int32) m2) fun r3 m4 =>
      gd (inb v1 6) (lt (sI m4 39 (ix v1) r3) fun m5 =>
      gd (inb v1 6) (some ((gI m5 39 (ix v1)), m5))))
    else some ((-2 : Int32), m2))
set_option maxRecDepth 100000 in
set_option maxHeartbeats 4000000 in
theorem mX4_tryNow_38 {E : En} {l : Launch} (hI : Inj E) (v1 : Int32) (μ : Mem) : MtI E l yX4_tryNow cX4_tryNow 2 (some .int) 4 [.ref (eAd E 38), .int v1] μ (fX4_tryNow_38 v1 μ) := by
  refine mtI_of (own := RX4) [(0, .ref (eAd E 38)), (1, .int v1)] hI rfl (by decide) (Nat.le_of_ble_eq_true rfl) (Nat.le_of_ble_eq_true rfl) rfl (fun Z hl0 X hr => ?_)
  unfold fX4_tryNow_38
  refine ao_aload_n (pc := 0) X dX4_tryNow_0 rfl ?_
  refine ao_iload_n (pc := 1) X dX4_tryNow_1 rfl ?_
  refine ao_callVI (pc := 2) (As := [.int v1]) (st := []) X hl0 dX4_tryNow_2 yv_X4_has so_38 ml_RX4_59 (mX4_has_38 hI v1 μ) (Nat.le_of_ble_eq_true rfl) rfl rfl (Nat.le_of_ble_eq_true rfl) (fun r1 m2 => ?_)
  refine ao_if_ne (pc := 5) (tgt := 10) X dX4_tryNow_5 (by decide) (fun _ => ?_) (fun _ => ?_)
  · refine ao_aload_n (pc := 10) X dX4_tryNow_10 rfl ?_
    refine ao_getR (pc := 11) X dX4_tryNow_11 fl_RX4_9 sf_38_0 ?_
    refine ao_iload_n (pc := 14) X dX4_tryNow_14 rfl ?_
    refine ao_iald (pc := 15) X dX4_tryNow_15 sa_39 ?_
    refine ao_iconst (pc := 16) X dX4_tryNow_16 ic_1 ?_
    refine ao_icmp_eq (pc := 17) (tgt := 23) X dX4_tryNow_17 (by decide) (fun _ => ?_) (fun _ => ?_)
    · refine ao_aload_n (pc := 23) X dX4_tryNow_23 rfl ?_
      refine ao_getR (pc := 24) X dX4_tryNow_24 fl_RX4_9 sf_38_0 ?_
      refine ao_iload_n (pc := 27) X dX4_tryNow_27 rfl ?_
      refine ao_aload_n (pc := 28) X dX4_tryNow_28 rfl ?_
      refine ao_iload_n (pc := 29) X dX4_tryNow_29 rfl ?_
      refine ao_iconst (pc := 30) X dX4_tryNow_30 ic_0 ?_
      refine ao_callVI (pc := 31) (As := [.int v1, .int (0 : Int32)]) (st := [.int v1, .ref (eAd E 39)]) X hl0 dX4_tryNow_31 yv_X4_verdictIn so_38 ml_RX4_86 (mX4_verdictIn_38 hI v1 (0 : Int32) m2) (Nat.le_of_ble_eq_true rfl) rfl rfl (Nat.le_of_ble_eq_true rfl) (fun r3 m4 => ?_)
      refine ao_iast (pc := 34) X dX4_tryNow_34 sa_39 ?_
      refine ao_lt (fun m5 => ?_)
      refine ao_aload_n (pc := 35) X dX4_tryNow_35 rfl ?_
      refine ao_getR (pc := 36) X dX4_tryNow_36 fl_RX4_9 sf_38_0 ?_
      refine ao_iload_n (pc := 39) X dX4_tryNow_39 rfl ?_
      refine ao_iald (pc := 40) X dX4_tryNow_40 sa_39 ?_
      exact ao_iret (pc := 41) X hr dX4_tryNow_41
    · refine ao_bipush (pc := 20) X dX4_tryNow_20 bp_m2 ?_
      exact ao_iret (pc := 22) X hr dX4_tryNow_22
  · refine ao_iconst (pc := 8) X dX4_tryNow_8 ic_m1 ?_
    exact ao_iret (pc := 9) X hr dX4_tryNow_9
def fX4_performDrawn_38 (v1 : Int32) (v2 : Int32) (μ : Mem) : Option (Unit × Mem) :=
  if v2 = (0 : Int32) then (bnd (fX4_layOn_38 v1 (10 : Int32) μ) fun r2 m3 =>
    some ((), m3))
  else if v2 = (1 : Int32) then (bnd (fX4_layOn_38 v1 (-10 : Int32) μ) fun r5 m6 =>
    some ((), m6))
  else if v2 = (2 : Int32) then (bnd (fX4_askOf_38 v1 μ) fun r8 m9 =>
    some ((), m9))
  else bnd (fX4_tryNow_38 v1 μ) fun r10 m11 =>
  some ((), m11)
set_option maxRecDepth 100000 in
set_option maxHeartbeats 4000000 in
theorem mX4_performDrawn_38 {E : En} {l : Launch} (hI : Inj E) (v1 : Int32) (v2 : Int32) (μ : Mem) : MtV E l yX4_performDrawn cX4_performDrawn 3 (none) 6 [.ref (eAd E 38), .int v1, .int v2] μ (fX4_performDrawn_38 v1 v2 μ) := by
  refine mtV_of (own := RX4) [(0, .ref (eAd E 38)), (1, .int v1), (2, .int v2)] hI rfl (by decide) (Nat.le_of_ble_eq_true rfl) (Nat.le_of_ble_eq_true rfl) rfl (fun Z hl0 X hr => ?_)
  unfold fX4_performDrawn_38
  refine ao_iload_n (pc := 0) X dX4_performDrawn_0 rfl ?_
  refine ao_ite (cd := v2 = (0 : Int32)) (fun c => ao_tabIn (pc := 1) (k := (0 : Int32)) (tgt := 28) X dX4_performDrawn_1 c (by decide) (by decide) rfl (by decide) ?_) (fun n1 => ?_)
  · refine ao_aload_n (pc := 28) X dX4_performDrawn_28 rfl ?_
    refine ao_iload_n (pc := 29) X dX4_performDrawn_29 rfl ?_
    refine ao_bipush (pc := 30) X dX4_performDrawn_30 bp_10 ?_
    refine ao_callVI (pc := 32) (As := [.int v1, .int (10 : Int32)]) (st := []) X hl0 dX4_performDrawn_32 yv_X4_layOn so_38 ml_RX4_100 (mX4_layOn_38 hI v1 (10 : Int32) μ) (Nat.le_of_ble_eq_true rfl) rfl rfl (Nat.le_of_ble_eq_true rfl) (fun r2 m3 => ?_)
    refine ao_pop (pc := 35) X dX4_performDrawn_35 rfl ?_
    refine ao_goto (pc := 36) (tgt := 65) X dX4_performDrawn_36 (by decide) ?_
    exact ao_vret (pc := 65) X hr dX4_performDrawn_65
  refine ao_ite (cd := v2 = (1 : Int32)) (fun c => ao_tabIn (pc := 1) (k := (1 : Int32)) (tgt := 39) X dX4_performDrawn_1 c (by decide) (by decide) rfl (by decide) ?_) (fun n4 => ?_)
  · refine ao_aload_n (pc := 39) X dX4_performDrawn_39 rfl ?_
    refine ao_iload_n (pc := 40) X dX4_performDrawn_40 rfl ?_
    refine ao_bipush (pc := 41) X dX4_performDrawn_41 bp_m10 ?_
    refine ao_callVI (pc := 43) (As := [.int v1, .int (-10 : Int32)]) (st := []) X hl0 dX4_performDrawn_43 yv_X4_layOn so_38 ml_RX4_100 (mX4_layOn_38 hI v1 (-10 : Int32) μ) (Nat.le_of_ble_eq_true rfl) rfl rfl (Nat.le_of_ble_eq_true rfl) (fun r5 m6 => ?_)
    refine ao_pop (pc := 46) X dX4_performDrawn_46 rfl ?_
    refine ao_goto (pc := 47) (tgt := 65) X dX4_performDrawn_47 (by decide) ?_
    exact ao_vret (pc := 65) X hr dX4_performDrawn_65
  refine ao_ite (cd := v2 = (2 : Int32)) (fun c => ao_tabIn (pc := 1) (k := (2 : Int32)) (tgt := 50) X dX4_performDrawn_1 c (by decide) (by decide) rfl (by decide) ?_) (fun n7 => ?_)
  · refine ao_aload_n (pc := 50) X dX4_performDrawn_50 rfl ?_
    refine ao_iload_n (pc := 51) X dX4_performDrawn_51 rfl ?_
    refine ao_callVI (pc := 52) (As := [.int v1]) (st := []) X hl0 dX4_performDrawn_52 yv_X4_askOf so_38 ml_RX4_103 (mX4_askOf_38 hI v1 μ) (Nat.le_of_ble_eq_true rfl) rfl rfl (Nat.le_of_ble_eq_true rfl) (fun r8 m9 => ?_)
    refine ao_pop (pc := 55) X dX4_performDrawn_55 rfl ?_
    refine ao_goto (pc := 56) (tgt := 65) X dX4_performDrawn_56 (by decide) ?_
    exact ao_vret (pc := 65) X hr dX4_performDrawn_65
  refine ao_tabOut (pc := 1) (tgt := 59) X dX4_performDrawn_1 (by have := lv_neT (a := 0) n1 (by decide); have := lv_neT (a := 1) n4 (by decide); have := lv_neT (a := 2) n7 (by decide); omega) (by decide) ?_
  refine ao_aload_n (pc := 59) X dX4_performDrawn_59 rfl ?_
  refine ao_iload_n (pc := 60) X dX4_performDrawn_60 rfl ?_
  refine ao_callVI (pc := 61) (As := [.int v1]) (st := []) X hl0 dX4_performDrawn_61 yv_X4_tryNow so_38 ml_RX4_106 (mX4_tryNow_38 hI v1 μ) (Nat.le_of_ble_eq_true rfl) rfl rfl (Nat.le_of_ble_eq_true rfl) (fun r10 m11 => ?_)
  refine ao_pop (pc := 64) X dX4_performDrawn_64 rfl ?_
  exact ao_vret (pc := 65) X hr dX4_performDrawn_65
def fX4_thoseWho_33_b4 : Nat → Int32 → Int32 → Int32 → Mem → Option (Int32 × Mem)
  | 0, _, _, _, _ => none
  | n + 1, p1, p2, p3, μ =>
  if (gI μ 5 5) ≤ p3 then (some (p2, μ))
  else gd (inb p3 6) (if (gI μ 34 (ix p3)) = p1 then (lt (p2 ||| ((1 : Int32) <<< (p3 &&& 31))) fun x3 =>
      fX4_thoseWho_33_b4 n p1 x3 (p3 + (1 : Int32)) μ)
    else lt (p2 ||| (0 : Int32)) fun x1 =>
      fX4_thoseWho_33_b4 n p1 x1 (p3 + (1 : Int32)) μ)
set_option maxRecDepth 100000 in
set_option maxHeartbeats 4000000 in
theorem bX4_thoseWho_33_4 {E : En} {l : Launch} {Z : Zt} (hI : Inj E) (hl0 : lZ l Z) (X : Cx E Z cX4_thoseWho RX4 4 1) (hr : rtOf Z = some .int) : ∀ (n : Nat) (p1 : Int32) (p2 : Int32) (p3 : Int32) (μ : Mem), AO E Z 4 (QI E Z) 4 [(0, .ref (eAd E 33)), (1, .int p1), (2, .int p2), (3, .int p3)] [] μ (fX4_thoseWho_33_b4 n p1 p2 p3 μ) := by
  intro n
  induction n with
  | zero =>
    intros
    exact ao_none
  | succ n ih =>
    intro p1 p2 p3 μ
    rw [fX4_thoseWho_33_b4]
    refine ao_iload_n (pc := 4) X dX4_thoseWho_4 rfl ?_
    refine ao_aload_n (pc := 5) X dX4_thoseWho_5 rfl ?_
    refine ao_getR (pc := 6) X dX4_thoseWho_6 fl_RX4_31 sf_33_6 ?_
    refine ao_getI (pc := 9) X dX4_thoseWho_9 fl_RX4_54 sf_5_5 ?_
    refine ao_icmp_ge (pc := 12) (tgt := 41) X dX4_thoseWho_12 (by decide) (fun _ => ?_) (fun _ => ?_)
    · refine ao_iload_n (pc := 41) X dX4_thoseWho_41 rfl ?_
      exact ao_iret (pc := 42) X hr dX4_thoseWho_42
    · refine ao_iload_n (pc := 15) X dX4_thoseWho_15 rfl ?_
      refine ao_aload_n (pc := 16) X dX4_thoseWho_16 rfl ?_
      refine ao_getR (pc := 17) X dX4_thoseWho_17 fl_RX4_9 sf_33_0 ?_
      refine ao_iload_n (pc := 20) X dX4_thoseWho_20 rfl ?_
      refine ao_iald (pc := 21) X dX4_thoseWho_21 sa_34 ?_
      refine ao_iload_n (pc := 22) X dX4_thoseWho_22 rfl ?_
      refine ao_icmp_ne (pc := 23) (tgt := 32) X dX4_thoseWho_23 (by decide) (fun _ => ?_) (fun _ => ?_)
      · refine ao_iconst (pc := 32) X dX4_thoseWho_32 ic_0 ?_
        refine ao_ior (pc := 33) X dX4_thoseWho_33 ?_
        refine ao_ltI (fun x1 => ?_)
        refine ao_istore_n (pc := 34) (lv' := [(2, .int x1), (0, .ref (eAd E 33)), (1, .int p1), (3, .int p3)]) X dX4_thoseWho_34 rfl (by decide) rfl ?_
        refine ao_iinc (pc := 35) (k := 3) (v := p3 + (1 : Int32)) (lv' := [(3, .int (p3 + (1 : Int32))), (2, .int x1), (0, .ref (eAd E 33)), (1, .int p1)]) X dX4_thoseWho_35 rfl (ii_ic ic_1) (by decide) rfl ?_
        refine ao_goto (pc := 38) (tgt := 4) X dX4_thoseWho_38 (by decide) ?_
        refine ao_sub [2, 3, 1, 0] rfl ?_
        exact ih p1 x1 (p3 + (1 : Int32)) μ
      · refine ao_iconst (pc := 26) X dX4_thoseWho_26 ic_1 ?_
        refine ao_iload_n (pc := 27) X dX4_thoseWho_27 rfl ?_
        refine ao_ishl (pc := 28) X dX4_thoseWho_28 ?_
        refine ao_goto (pc := 29) (tgt := 33) X dX4_thoseWho_29 (by decide) ?_
        refine ao_ior (pc := 33) X dX4_thoseWho_33 ?_
        refine ao_ltI (fun x3 => ?_)
        refine ao_istore_n (pc := 34) (lv' := [(2, .int x3), (0, .ref (eAd E 33)), (1, .int p1), (3, .int p3)]) X dX4_thoseWho_34 rfl (by decide) rfl ?_
        refine ao_iinc (pc := 35) (k := 3) (v := p3 + (1 : Int32)) (lv' := [(3, .int (p3 + (1 : Int32))), (2, .int x3), (0, .ref (eAd E 33)), (1, .int p1)]) X dX4_thoseWho_35 rfl (ii_ic ic_1) (by decide) rfl ?_
        refine ao_goto (pc := 38) (tgt := 4) X dX4_thoseWho_38 (by decide) ?_
        refine ao_sub [2, 3, 1, 0] rfl ?_
        exact ih p1 x3 (p3 + (1 : Int32)) μ
def fX4_thoseWho_33 (v1 : Int32) (μ : Mem) : Option (Int32 × Mem) :=
  fX4_thoseWho_33_b4 FU v1 (0 : Int32) (0 : Int32) μ
set_option maxRecDepth 100000 in
set_option maxHeartbeats 4000000 in
theorem mX4_thoseWho_33 {E : En} {l : Launch} (hI : Inj E) (v1 : Int32) (μ : Mem) : MtI E l yX4_thoseWho cX4_thoseWho 4 (some .int) 1 [.ref (eAd E 33), .int v1] μ (fX4_thoseWho_33 v1 μ) := by
  refine mtI_of (own := RX4) [(0, .ref (eAd E 33)), (1, .int v1)] hI rfl (by decide) (Nat.le_of_ble_eq_true rfl) (Nat.le_of_ble_eq_true rfl) rfl (fun Z hl0 X hr => ?_)
  unfold fX4_thoseWho_33
  refine ao_iconst (pc := 0) X dX4_thoseWho_0 ic_0 ?_
  refine ao_istore_n (pc := 1) (lv' := [(2, .int (0 : Int32)), (0, .ref (eAd E 33)), (1, .int v1)]) X dX4_thoseWho_1 rfl (by decide) rfl ?_
  refine ao_iconst (pc := 2) X dX4_thoseWho_2 ic_0 ?_
  refine ao_istore_n (pc := 3) (lv' := [(3, .int (0 : Int32)), (2, .int (0 : Int32)), (0, .ref (eAd E 33)), (1, .int v1)]) X dX4_thoseWho_3 rfl (by decide) rfl ?_
  refine ao_sub [2, 3, 1, 0] rfl ?_
  exact bX4_thoseWho_33_4 hI hl0 X hr FU v1 (0 : Int32) (0 : Int32) μ
def fX11_years_0_b42 : Nat → Int32 → Int32 → Int32 → Mem → Option (Int32 × Mem)
  | 0, _, _, _, _ => none
  | n + 1, p2, p3, p4, μ =>
  if p2 ≤ p4 then (bnd (fX4_thoseWho_38 (2 : Int32) μ) fun r3 m4 =>
    bnd (fX4_thoseWho_33 (2 : Int32) m4) fun r5 m6 =>
    lt (r3 &&& (r5 ^^^ (-1 : Int32))) fun x7 =>
    bnd (fX4_thoseWho_38 (4 : Int32) m6) fun r8 m9 =>
    bnd (fX4_thoseWho_33 (4 : Int32) m9) fun r10 m11 =>
    lt (r8 &&& (r10 ^^^ (-1 : Int32))) fun x12 =>
    bnd (fJ6_bitCount_0f7a4 x7 m11) fun r13 m14 =>
    bnd (fJ6_bitCount_0f7a4 x12 m14) fun r15 m16 =>
    bnd (fX7_tell__3 (Int32.toInt64 r13) (Int32.toInt64 r15) m16) fun r17 m18 =>
    some ((gI m18 38 5), m18))
  else bnd (fX11_stirred p3 μ) fun r19 m20 =>
    bnd (fX11_drawn r19 (gI m20 5 5) m20) fun r21 m22 =>
    bnd (fX11_stirred r19 m22) fun r23 m24 =>
    bnd (fX11_drawn r23 (4 : Int32) m24) fun r25 m26 =>
    bnd (fX4_performDrawn_38 r21 r25 m26) fun r27 m28 =>
    bnd (fX4_night_38 (gI m28 0 14) m28) fun r29 m30 =>
    fX11_years_0_b42 n p2 r23 (p4 + (1 : Int32)) m30
set_option maxRecDepth 100000 in
set_option maxHeartbeats 4000000 in
theorem bX11_years_0_42 {E : En} {l : Launch} {Z : Zt} (hI : Inj E) (hl0 : lZ l Z) (X : Cx E Z cX11_years RX11 6 7) (hr : rtOf Z = some .int) : ∀ (n : Nat) (p2 : Int32) (p3 : Int32) (p4 : Int32) (μ : Mem), AO E Z 6 (QI E Z) 42 [(0, .ref (eAd E 0)), (2, .int p2), (3, .int p3), (4, .int p4)] [] μ (fX11_years_0_b42 n p2 p3 p4 μ) := by
  intro n
  induction n with
  | zero =>
    intros
    exact ao_none
  | succ n ih =>
    intro p2 p3 p4 μ
    rw [fX11_years_0_b42]
    refine ao_iload (pc := 42) X dX11_years_42 rfl ?_
    refine ao_iload_n (pc := 44) X dX11_years_44 rfl ?_
    refine ao_icmp_ge (pc := 45) (tgt := 103) X dX11_years_45 (by decide) (fun _ => ?_) (fun _ => ?_)
    · refine ao_aload_n (pc := 103) X dX11_years_103 rfl ?_
      refine ao_getR (pc := 104) X dX11_years_104 fl_RX11_69 sf_0_8 ?_
      refine ao_iconst (pc := 107) X dX11_years_107 ic_2 ?_
      refine ao_callVI (pc := 108) (As := [.int (2 : Int32)]) (st := []) X hl0 dX11_years_108 yv_X4_thoseWho so_38 ml_RX11_300 (mX4_thoseWho_38 hI (2 : Int32) μ) (Nat.le_of_ble_eq_true rfl) rfl rfl (Nat.le_of_ble_eq_true rfl) (fun r3 m4 => ?_)
      refine ao_aload_n (pc := 111) X dX11_years_111 rfl ?_
      refine ao_getR (pc := 112) X dX11_years_112 fl_RX11_65 sf_0_7 ?_
      refine ao_iconst (pc := 115) X dX11_years_115 ic_2 ?_
      refine ao_callVI (pc := 116) (As := [.int (2 : Int32)]) (st := [.int r3]) X hl0 dX11_years_116 yv_X4_thoseWho so_33 ml_RX11_300 (mX4_thoseWho_33 hI (2 : Int32) m4) (Nat.le_of_ble_eq_true rfl) rfl rfl (Nat.le_of_ble_eq_true rfl) (fun r5 m6 => ?_)
      refine ao_iconst (pc := 119) X dX11_years_119 ic_m1 ?_
      refine ao_ixor (pc := 120) X dX11_years_120 ?_
      refine ao_iand (pc := 121) X dX11_years_121 ?_
      refine ao_ltI (fun x7 => ?_)
      refine ao_istore (pc := 122) (lv' := [(4, .int x7), (0, .ref (eAd E 0)), (2, .int p2), (3, .int p3)]) X dX11_years_122 (by decide) rfl ?_
      refine ao_aload_n (pc := 124) X dX11_years_124 rfl ?_
      refine ao_getR (pc := 125) X dX11_years_125 fl_RX11_69 sf_0_8 ?_
      refine ao_iconst (pc := 128) X dX11_years_128 ic_4 ?_
      refine ao_callVI (pc := 129) (As := [.int (4 : Int32)]) (st := []) X hl0 dX11_years_129 yv_X4_thoseWho so_38 ml_RX11_300 (mX4_thoseWho_38 hI (4 : Int32) m6) (Nat.le_of_ble_eq_true rfl) rfl rfl (Nat.le_of_ble_eq_true rfl) (fun r8 m9 => ?_)
      refine ao_aload_n (pc := 132) X dX11_years_132 rfl ?_
      refine ao_getR (pc := 133) X dX11_years_133 fl_RX11_65 sf_0_7 ?_
      refine ao_iconst (pc := 136) X dX11_years_136 ic_4 ?_
      refine ao_callVI (pc := 137) (As := [.int (4 : Int32)]) (st := [.int r8]) X hl0 dX11_years_137 yv_X4_thoseWho so_33 ml_RX11_300 (mX4_thoseWho_33 hI (4 : Int32) m9) (Nat.le_of_ble_eq_true rfl) rfl rfl (Nat.le_of_ble_eq_true rfl) (fun r10 m11 => ?_)
      refine ao_iconst (pc := 140) X dX11_years_140 ic_m1 ?_
      refine ao_ixor (pc := 141) X dX11_years_141 ?_
      refine ao_iand (pc := 142) X dX11_years_142 ?_
      refine ao_ltI (fun x12 => ?_)
      refine ao_istore (pc := 143) (lv' := [(5, .int x12), (4, .int x7), (0, .ref (eAd E 0)), (2, .int p2), (3, .int p3)]) X dX11_years_143 (by decide) rfl ?_
      refine ao_aload_n (pc := 145) X dX11_years_145 rfl ?_
      refine ao_getR (pc := 146) X dX11_years_146 fl_RX11_19 sf_0_1 ?_
      refine ao_iload (pc := 149) X dX11_years_149 rfl ?_
      refine ao_callSI (pc := 151) (As := [.int x7]) (st := [.ref (eAd E 3)]) X hl0 dX11_years_151 yv_J6_bitCount_0f7a4 ml_RX11_292 (mJ6_bitCount_0f7a4 hI x7 m11) (Nat.le_of_ble_eq_true rfl) rfl rfl (Nat.le_of_ble_eq_true rfl) (fun r13 m14 => ?_)
      refine ao_i2l (pc := 154) X dX11_years_154 ?_
      refine ao_iload (pc := 155) X dX11_years_155 rfl ?_
      refine ao_callSI (pc := 157) (As := [.int x12]) (st := [.long (Int32.toInt64 r13), .ref (eAd E 3)]) X hl0 dX11_years_157 yv_J6_bitCount_0f7a4 ml_RX11_292 (mJ6_bitCount_0f7a4 hI x12 m14) (Nat.le_of_ble_eq_true rfl) rfl rfl (Nat.le_of_ble_eq_true rfl) (fun r15 m16 => ?_)
      refine ao_i2l (pc := 160) X dX11_years_160 ?_
      refine ao_callVV (pc := 161) (As := [.long (Int32.toInt64 r13), .long (Int32.toInt64 r15)]) (st := []) X hl0 dX11_years_161 yv_X7_tell_ so_3 ml_RX11_244 (mX7_tell__3 hI (Int32.toInt64 r13) (Int32.toInt64 r15) m16) (Nat.le_of_ble_eq_true rfl) rfl rfl (Nat.le_of_ble_eq_true rfl) (fun r17 m18 => ?_)
      refine ao_aload_n (pc := 164) X dX11_years_164 rfl ?_
      refine ao_getR (pc := 165) X dX11_years_165 fl_RX11_69 sf_0_8 ?_
      refine ao_getI (pc := 168) X dX11_years_168 fl_RX11_399 sf_38_5 ?_
      exact ao_iret (pc := 171) X hr dX11_years_171
    · refine ao_iload_n (pc := 48) X dX11_years_48 rfl ?_
      refine ao_callSI (pc := 49) (As := [.int p3]) (st := []) X hl0 dX11_years_49 yv_X11_stirred ml_RX11_387 (mX11_stirred hI p3 μ) (Nat.le_of_ble_eq_true rfl) rfl rfl (Nat.le_of_ble_eq_true rfl) (fun r19 m20 => ?_)
      refine ao_istore_n (pc := 52) (lv' := [(3, .int r19), (0, .ref (eAd E 0)), (2, .int p2), (4, .int p4)]) X dX11_years_52 rfl (by decide) rfl ?_
      refine ao_iload_n (pc := 53) X dX11_years_53 rfl ?_
      refine ao_aload_n (pc := 54) X dX11_years_54 rfl ?_
      refine ao_getR (pc := 55) X dX11_years_55 fl_RX11_26 sf_0_2 ?_
      refine ao_getI (pc := 58) X dX11_years_58 fl_RX11_119 sf_5_5 ?_
      refine ao_callSI (pc := 61) (As := [.int r19, .int (gI m20 5 5)]) (st := []) X hl0 dX11_years_61 yv_X11_drawn ml_RX11_390 (mX11_drawn hI r19 (gI m20 5 5) m20) (Nat.le_of_ble_eq_true rfl) rfl rfl (Nat.le_of_ble_eq_true rfl) (fun r21 m22 => ?_)
      refine ao_istore (pc := 64) (lv' := [(5, .int r21), (3, .int r19), (0, .ref (eAd E 0)), (2, .int p2), (4, .int p4)]) X dX11_years_64 (by decide) rfl ?_
      refine ao_iload_n (pc := 66) X dX11_years_66 rfl ?_
      refine ao_callSI (pc := 67) (As := [.int r19]) (st := []) X hl0 dX11_years_67 yv_X11_stirred ml_RX11_387 (mX11_stirred hI r19 m22) (Nat.le_of_ble_eq_true rfl) rfl rfl (Nat.le_of_ble_eq_true rfl) (fun r23 m24 => ?_)
      refine ao_istore_n (pc := 70) (lv' := [(3, .int r23), (5, .int r21), (0, .ref (eAd E 0)), (2, .int p2), (4, .int p4)]) X dX11_years_70 rfl (by decide) rfl ?_
      refine ao_aload_n (pc := 71) X dX11_years_71 rfl ?_
      refine ao_getR (pc := 72) X dX11_years_72 fl_RX11_69 sf_0_8 ?_
      refine ao_iload (pc := 75) X dX11_years_75 rfl ?_
      refine ao_iload_n (pc := 77) X dX11_years_77 rfl ?_
      refine ao_iconst (pc := 78) X dX11_years_78 ic_4 ?_
      refine ao_callSI (pc := 79) (As := [.int r23, .int (4 : Int32)]) (st := [.int r21, .ref (eAd E 38)]) X hl0 dX11_years_79 yv_X11_drawn ml_RX11_390 (mX11_drawn hI r23 (4 : Int32) m24) (Nat.le_of_ble_eq_true rfl) rfl rfl (Nat.le_of_ble_eq_true rfl) (fun r25 m26 => ?_)
      refine ao_callVV (pc := 82) (As := [.int r21, .int r25]) (st := []) X hl0 dX11_years_82 yv_X4_performDrawn so_38 ml_RX11_393 (mX4_performDrawn_38 hI r21 r25 m26) (Nat.le_of_ble_eq_true rfl) rfl rfl (Nat.le_of_ble_eq_true rfl) (fun r27 m28 => ?_)
      refine ao_aload_n (pc := 85) X dX11_years_85 rfl ?_
      refine ao_getR (pc := 86) X dX11_years_86 fl_RX11_69 sf_0_8 ?_
      refine ao_aload_n (pc := 89) X dX11_years_89 rfl ?_
      refine ao_getI (pc := 90) X dX11_years_90 fl_RX11_100 sf_0_14 ?_
      refine ao_callVI (pc := 93) (As := [.int (gI m28 0 14)]) (st := []) X hl0 dX11_years_93 yv_X4_night so_38 ml_RX11_396 (mX4_night_38 hI (gI m28 0 14) m28) (Nat.le_of_ble_eq_true rfl) rfl rfl (Nat.le_of_ble_eq_true rfl) (fun r29 m30 => ?_)
      refine ao_pop (pc := 96) X dX11_years_96 rfl ?_
      refine ao_iinc (pc := 97) (k := 4) (v := p4 + (1 : Int32)) (lv' := [(4, .int (p4 + (1 : Int32))), (3, .int r23), (5, .int r21), (0, .ref (eAd E 0)), (2, .int p2)]) X dX11_years_97 rfl (ii_ic ic_1) (by decide) rfl ?_
      refine ao_goto (pc := 100) (tgt := 42) X dX11_years_100 (by decide) ?_
      refine ao_sub [3, 4, 1, 0] rfl ?_
      exact ih p2 r23 (p4 + (1 : Int32)) m30
def fX11_years_0 (v1 : Int32) (v2 : Int32) (μ : Mem) : Option (Int32 × Mem) :=
  if (gI μ 5 5) = 0 then (some ((-2 : Int32), μ))
  else if v2 < (1 : Int32) then (some ((-1 : Int32), μ))
    else if v2 ≤ (60 : Int32) then (bnd (fX4_take_38_33 μ) fun r1 m2 =>
        fX11_years_0_b42 FU v2 v1 (0 : Int32) m2)
      else some ((-1 : Int32), μ)
set_option maxRecDepth 100000 in
set_option maxHeartbeats 4000000 in
theorem mX11_years_0 {E : En} {l : Launch} (hI : Inj E) (v1 : Int32) (v2 : Int32) (μ : Mem) : MtI E l yX11_years cX11_years 6 (some .int) 7 [.ref (eAd E 0), .int v1, .int v2] μ (fX11_years_0 v1 v2 μ) := by
  refine mtI_of (own := RX11) [(0, .ref (eAd E 0)), (1, .int v1), (2, .int v2)] hI rfl (by decide) (Nat.le_of_ble_eq_true rfl) (Nat.le_of_ble_eq_true rfl) rfl (fun Z hl0 X hr => ?_)
  unfold fX11_years_0
  refine ao_aload_n (pc := 0) X dX11_years_0 rfl ?_
  refine ao_getR (pc := 1) X dX11_years_1 fl_RX11_26 sf_0_2 ?_
  refine ao_getI (pc := 4) X dX11_years_4 fl_RX11_119 sf_5_5 ?_
  refine ao_if_ne (pc := 7) (tgt := 13) X dX11_years_7 (by decide) (fun _ => ?_) (fun _ => ?_)
  · refine ao_iload_n (pc := 13) X dX11_years_13 rfl ?_
    refine ao_iconst (pc := 14) X dX11_years_14 ic_1 ?_
    refine ao_icmp_lt (pc := 15) (tgt := 24) X dX11_years_15 (by decide) (fun _ => ?_) (fun _ => ?_)
    · refine ao_iconst (pc := 24) X dX11_years_24 ic_m1 ?_
      exact ao_iret (pc := 25) X hr dX11_years_25
    · refine ao_iload_n (pc := 18) X dX11_years_18 rfl ?_
      refine ao_bipush (pc := 19) X dX11_years_19 bp_60 ?_
      refine ao_icmp_le (pc := 21) (tgt := 26) X dX11_years_21 (by decide) (fun _ => ?_) (fun _ => ?_)
      · refine ao_aload_n (pc := 26) X dX11_years_26 rfl ?_
        refine ao_getR (pc := 27) X dX11_years_27 fl_RX11_69 sf_0_8 ?_
        refine ao_aload_n (pc := 30) X dX11_years_30 rfl ?_
        refine ao_getR (pc := 31) X dX11_years_31 fl_RX11_65 sf_0_7 ?_
        refine ao_callVV (pc := 34) (As := [.ref (eAd E 33)]) (st := []) X hl0 dX11_years_34 yv_X4_take so_38 ml_RX11_297 (mX4_take_38_33 hI μ) (Nat.le_of_ble_eq_true rfl) rfl rfl (Nat.le_of_ble_eq_true rfl) (fun r1 m2 => ?_)
        refine ao_iload_n (pc := 37) X dX11_years_37 rfl ?_
        refine ao_istore_n (pc := 38) (lv' := [(3, .int v1), (0, .ref (eAd E 0)), (1, .int v1), (2, .int v2)]) X dX11_years_38 rfl (by decide) rfl ?_
        refine ao_iconst (pc := 39) X dX11_years_39 ic_0 ?_
        refine ao_istore (pc := 40) (lv' := [(4, .int (0 : Int32)), (3, .int v1), (0, .ref (eAd E 0)), (1, .int v1), (2, .int v2)]) X dX11_years_40 (by decide) rfl ?_
        refine ao_sub [2, 4, 1, 0] rfl ?_
        exact bX11_years_0_42 hI hl0 X hr FU v2 v1 (0 : Int32) m2
      · refine ao_iconst (pc := 24) X dX11_years_24 ic_m1 ?_
        exact ao_iret (pc := 25) X hr dX11_years_25
  · refine ao_bipush (pc := 10) X dX11_years_10 bp_m2 ?_
    exact ao_iret (pc := 12) X hr dX11_years_12
def fX12_draw_122 (v1 : Int32) (μ : Mem) : Option (Int32 × Mem) :=
  lt (sI μ 122 40 (((gI μ 122 40) * (1103515245 : Int32)) + (12345 : Int32))) fun m1 =>
  gd (!(v1 == 0)) (some (((ushr (gI m1 122 40) (16 : Int32)) - (ushr (gI m1 122 40) (16 : Int32)) / v1 * v1), m1))
set_option maxRecDepth 100000 in
set_option maxHeartbeats 4000000 in
theorem mX12_draw_122 {E : En} {l : Launch} (hI : Inj E) (v1 : Int32) (μ : Mem) : MtI E l yX12_draw cX12_draw 2 (some .int) 1 [.ref (eAd E 122), .int v1] μ (fX12_draw_122 v1 μ) := by
  refine mtI_of (own := RX12) [(0, .ref (eAd E 122)), (1, .int v1)] hI rfl (by decide) (Nat.le_of_ble_eq_true rfl) (Nat.le_of_ble_eq_true rfl) rfl (fun Z hl0 X hr => ?_)
  unfold fX12_draw_122
  refine ao_aload_n (pc := 0) X dX12_draw_0 rfl ?_
  refine ao_aload_n (pc := 1) X dX12_draw_1 rfl ?_
  refine ao_getI (pc := 2) X dX12_draw_2 fl_RX12_379 sf_122_40 ?_
  refine ao_ldcw (pc := 5) X dX12_draw_5 kc_RX12_382 ?_
  refine ao_imul (pc := 8) X dX12_draw_8 ?_
  refine ao_sipush (pc := 9) X dX12_draw_9 sp_12345 ?_
  refine ao_iadd (pc := 12) X dX12_draw_12 ?_
  refine ao_putI (pc := 13) X dX12_draw_13 fp_RX12_379 sf_122_40 ?_
  refine ao_lt (fun m1 => ?_)
  refine ao_aload_n (pc := 16) X dX12_draw_16 rfl ?_
  refine ao_getI (pc := 17) X dX12_draw_17 fl_RX12_379 sf_122_40 ?_
  refine ao_bipush (pc := 20) X dX12_draw_20 bp_16 ?_
  refine ao_iushr (pc := 22) X dX12_draw_22 ?_
  refine ao_iload_n (pc := 23) X dX12_draw_23 rfl ?_
  refine ao_irem (pc := 24) X dX12_draw_24 ?_
  exact ao_iret (pc := 25) X hr dX12_draw_25
def fX12_goLay_140 (v1 : Int32) (v2 : Int32) (μ : Mem) : Option (Unit × Mem) :=
  gd (inb ((6 : Int32) + v1) 27) (gd (inb ((6 : Int32) + v1) 27) (lt (sI μ 140 (ix ((6 : Int32) + v1)) (imax (0 : Int32) (imin (99 : Int32) ((gI μ 140 (ix ((6 : Int32) + v1))) + v2)))) fun m1 =>
  some ((), m1)))
set_option maxRecDepth 100000 in
set_option maxHeartbeats 4000000 in
theorem mX12_goLay_140 {E : En} {l : Launch} (hI : Inj E) (v1 : Int32) (v2 : Int32) (μ : Mem) : MtV E l yX12_goLay cX12_goLay 3 (none) 1 [.ref (eAd E 140), .int v1, .int v2] μ (fX12_goLay_140 v1 v2 μ) := by
  refine mtV_of (own := RX12) [(0, .ref (eAd E 140)), (1, .int v1), (2, .int v2)] hI rfl (by decide) (Nat.le_of_ble_eq_true rfl) (Nat.le_of_ble_eq_true rfl) rfl (fun Z hl0 X hr => ?_)
  unfold fX12_goLay_140
  refine ao_aload_n (pc := 0) X dX12_goLay_0 rfl ?_
  refine ao_bipush (pc := 1) X dX12_goLay_1 bp_6 ?_
  refine ao_iload_n (pc := 3) X dX12_goLay_3 rfl ?_
  refine ao_iadd (pc := 4) X dX12_goLay_4 ?_
  refine ao_iconst (pc := 5) X dX12_goLay_5 ic_0 ?_
  refine ao_bipush (pc := 6) X dX12_goLay_6 bp_99 ?_
  refine ao_aload_n (pc := 8) X dX12_goLay_8 rfl ?_
  refine ao_bipush (pc := 9) X dX12_goLay_9 bp_6 ?_
  refine ao_iload_n (pc := 11) X dX12_goLay_11 rfl ?_
  refine ao_iadd (pc := 12) X dX12_goLay_12 ?_
  refine ao_iald (pc := 13) X dX12_goLay_13 sa_140 ?_
  refine ao_iload_n (pc := 14) X dX12_goLay_14 rfl ?_
  refine ao_iadd (pc := 15) X dX12_goLay_15 ?_
  refine ao_min (pc := 16) X dX12_goLay_16 ml_RX12_212 MinW_ok (Nat.le_of_ble_eq_true rfl) ?_
  refine ao_max (pc := 19) X dX12_goLay_19 ml_RX12_217 MaxW_ok (Nat.le_of_ble_eq_true rfl) ?_
  refine ao_iast (pc := 22) X dX12_goLay_22 sa_140 ?_
  refine ao_lt (fun m1 => ?_)
  exact ao_vret (pc := 23) X hr dX12_goLay_23
def fX12_goPlead_140 (v1 : Int32) (μ : Mem) : Option (Unit × Mem) :=
  gd (inb v1 27) (lt (sI μ 140 (ix v1) (1 : Int32)) fun m1 =>
  gd (inb ((6 : Int32) + v1) 27) (lt (sI m1 140 (ix ((6 : Int32) + v1)) (0 : Int32)) fun m2 =>
  some ((), m2)))
set_option maxRecDepth 100000 in
set_option maxHeartbeats 4000000 in
theorem mX12_goPlead_140 {E : En} {l : Launch} (hI : Inj E) (v1 : Int32) (μ : Mem) : MtV E l yX12_goPlead cX12_goPlead 2 (none) 1 [.ref (eAd E 140), .int v1] μ (fX12_goPlead_140 v1 μ) := by
  refine mtV_of (own := RX12) [(0, .ref (eAd E 140)), (1, .int v1)] hI rfl (by decide) (Nat.le_of_ble_eq_true rfl) (Nat.le_of_ble_eq_true rfl) rfl (fun Z hl0 X hr => ?_)
  unfold fX12_goPlead_140
  refine ao_aload_n (pc := 0) X dX12_goPlead_0 rfl ?_
  refine ao_iload_n (pc := 1) X dX12_goPlead_1 rfl ?_
  refine ao_iconst (pc := 2) X dX12_goPlead_2 ic_1 ?_
  refine ao_iast (pc := 3) X dX12_goPlead_3 sa_140 ?_
  refine ao_lt (fun m1 => ?_)
  refine ao_aload_n (pc := 4) X dX12_goPlead_4 rfl ?_
  refine ao_bipush (pc := 5) X dX12_goPlead_5 bp_6 ?_
  refine ao_iload_n (pc := 7) X dX12_goPlead_7 rfl ?_
  refine ao_iadd (pc := 8) X dX12_goPlead_8 ?_
  refine ao_iconst (pc := 9) X dX12_goPlead_9 ic_0 ?_
  refine ao_iast (pc := 10) X dX12_goPlead_10 sa_140 ?_
  refine ao_lt (fun m2 => ?_)
  exact ao_vret (pc := 11) X hr dX12_goPlead_11
def fX12_proofIn_122_140_b6 : Nat → Int32 → Int32 → Int32 → Int32 → Mem → Option (Int32 × Mem)
  | 0, _, _, _, _, _ => none
  | n + 1, p2, p3, p4, p5, μ =>
  if (gI μ 122 8) ≤ p5 then (some (p4, μ))
  else gd (inb p5 8) (if (gI μ 130 (ix p5)) = p2 then (gd (inb ((18 : Int32) + p5) 27) (gd (inb p5 8) (lt (p4 + (imax (0 : Int32) ((gI μ 140 (ix ((18 : Int32) + p5))) - (p3 * (gI μ 131 (ix p5)))))) fun x3 =>
      fX12_proofIn_122_140_b6 n p2 p3 x3 (p5 + (1 : Int32)) μ)))
    else lt (p4 + (0 : Int32)) fun x1 =>
      fX12_proofIn_122_140_b6 n p2 p3 x1 (p5 + (1 : Int32)) μ)
set_option maxRecDepth 100000 in
set_option maxHeartbeats 4000000 in
theorem bX12_proofIn_122_140_6 {E : En} {l : Launch} {Z : Zt} (hI : Inj E) (hl0 : lZ l Z) (X : Cx E Z cX12_proofIn RX12 6 1) (hr : rtOf Z = some .int) : ∀ (n : Nat) (p2 : Int32) (p3 : Int32) (p4 : Int32) (p5 : Int32) (μ : Mem), AO E Z 6 (QI E Z) 6 [(0, .ref (eAd E 122)), (1, .ref (eAd E 140)), (2, .int p2), (3, .int p3), (4, .int p4), (5, .int p5)] [] μ (fX12_proofIn_122_140_b6 n p2 p3 p4 p5 μ) := by
  intro n
  induction n with
  | zero =>
    intros
    exact ao_none
  | succ n ih =>
    intro p2 p3 p4 p5 μ
    rw [fX12_proofIn_122_140_b6]
    refine ao_iload (pc := 6) X dX12_proofIn_6 rfl ?_
    refine ao_aload_n (pc := 8) X dX12_proofIn_8 rfl ?_
    refine ao_getI (pc := 9) X dX12_proofIn_9 fl_RX12_181 sf_122_8 ?_
    refine ao_icmp_ge (pc := 12) (tgt := 62) X dX12_proofIn_12 (by decide) (fun _ => ?_) (fun _ => ?_)
    · refine ao_iload (pc := 62) X dX12_proofIn_62 rfl ?_
      exact ao_iret (pc := 64) X hr dX12_proofIn_64
    · refine ao_iload (pc := 15) X dX12_proofIn_15 rfl ?_
      refine ao_aload_n (pc := 17) X dX12_proofIn_17 rfl ?_
      refine ao_getR (pc := 18) X dX12_proofIn_18 fl_RX12_32 sf_122_9 ?_
      refine ao_iload (pc := 21) X dX12_proofIn_21 rfl ?_
      refine ao_iald (pc := 23) X dX12_proofIn_23 sa_130 ?_
      refine ao_iload_n (pc := 24) X dX12_proofIn_24 rfl ?_
      refine ao_icmp_ne (pc := 25) (tgt := 52) X dX12_proofIn_25 (by decide) (fun _ => ?_) (fun _ => ?_)
      · refine ao_iconst (pc := 52) X dX12_proofIn_52 ic_0 ?_
        refine ao_iadd (pc := 53) X dX12_proofIn_53 ?_
        refine ao_ltI (fun x1 => ?_)
        refine ao_istore (pc := 54) (lv' := [(4, .int x1), (0, .ref (eAd E 122)), (1, .ref (eAd E 140)), (2, .int p2), (3, .int p3), (5, .int p5)]) X dX12_proofIn_54 (by decide) rfl ?_
        refine ao_iinc (pc := 56) (k := 5) (v := p5 + (1 : Int32)) (lv' := [(5, .int (p5 + (1 : Int32))), (4, .int x1), (0, .ref (eAd E 122)), (1, .ref (eAd E 140)), (2, .int p2), (3, .int p3)]) X dX12_proofIn_56 rfl (ii_ic ic_1) (by decide) rfl ?_
        refine ao_goto (pc := 59) (tgt := 6) X dX12_proofIn_59 (by decide) ?_
        refine ao_sub [2, 3, 4, 5, 1, 0] rfl ?_
        exact ih p2 p3 x1 (p5 + (1 : Int32)) μ
      · refine ao_iconst (pc := 28) X dX12_proofIn_28 ic_0 ?_
        refine ao_aload_n (pc := 29) X dX12_proofIn_29 rfl ?_
        refine ao_bipush (pc := 30) X dX12_proofIn_30 bp_18 ?_
        refine ao_iload (pc := 32) X dX12_proofIn_32 rfl ?_
        refine ao_iadd (pc := 34) X dX12_proofIn_34 ?_
        refine ao_iald (pc := 35) X dX12_proofIn_35 sa_140 ?_
        refine ao_iload_n (pc := 36) X dX12_proofIn_36 rfl ?_
        refine ao_aload_n (pc := 37) X dX12_proofIn_37 rfl ?_
        refine ao_getR (pc := 38) X dX12_proofIn_38 fl_RX12_35 sf_122_10 ?_
        refine ao_iload (pc := 41) X dX12_proofIn_41 rfl ?_
        refine ao_iald (pc := 43) X dX12_proofIn_43 sa_131 ?_
        refine ao_imul (pc := 44) X dX12_proofIn_44 ?_
        refine ao_isub (pc := 45) X dX12_proofIn_45 ?_
        refine ao_max (pc := 46) X dX12_proofIn_46 ml_RX12_217 MaxW_ok (Nat.le_of_ble_eq_true rfl) ?_
        refine ao_goto (pc := 49) (tgt := 53) X dX12_proofIn_49 (by decide) ?_
        refine ao_iadd (pc := 53) X dX12_proofIn_53 ?_
        refine ao_ltI (fun x3 => ?_)
        refine ao_istore (pc := 54) (lv' := [(4, .int x3), (0, .ref (eAd E 122)), (1, .ref (eAd E 140)), (2, .int p2), (3, .int p3), (5, .int p5)]) X dX12_proofIn_54 (by decide) rfl ?_
        refine ao_iinc (pc := 56) (k := 5) (v := p5 + (1 : Int32)) (lv' := [(5, .int (p5 + (1 : Int32))), (4, .int x3), (0, .ref (eAd E 122)), (1, .ref (eAd E 140)), (2, .int p2), (3, .int p3)]) X dX12_proofIn_56 rfl (ii_ic ic_1) (by decide) rfl ?_
        refine ao_goto (pc := 59) (tgt := 6) X dX12_proofIn_59 (by decide) ?_
        refine ao_sub [2, 3, 4, 5, 1, 0] rfl ?_
        exact ih p2 p3 x3 (p5 + (1 : Int32)) μ
def fX12_proofIn_122_140 (v2 : Int32) (v3 : Int32) (μ : Mem) : Option (Int32 × Mem) :=
  fX12_proofIn_122_140_b6 FU v2 v3 (0 : Int32) (0 : Int32) μ
set_option maxRecDepth 100000 in
set_option maxHeartbeats 4000000 in
theorem mX12_proofIn_122_140 {E : En} {l : Launch} (hI : Inj E) (v2 : Int32) (v3 : Int32) (μ : Mem) : MtI E l yX12_proofIn cX12_proofIn 6 (some .int) 1 [.ref (eAd E 122), .ref (eAd E 140), .int v2, .int v3] μ (fX12_proofIn_122_140 v2 v3 μ) := by
  refine mtI_of (own := RX12) [(0, .ref (eAd E 122)), (1, .ref (eAd E 140)), (2, .int v2), (3, .int v3)] hI rfl (by decide) (Nat.le_of_ble_eq_true rfl) (Nat.le_of_ble_eq_true rfl) rfl (fun Z hl0 X hr => ?_)
  unfold fX12_proofIn_122_140
  refine ao_iconst (pc := 0) X dX12_proofIn_0 ic_0 ?_
  refine ao_istore (pc := 1) (lv' := [(4, .int (0 : Int32)), (0, .ref (eAd E 122)), (1, .ref (eAd E 140)), (2, .int v2), (3, .int v3)]) X dX12_proofIn_1 (by decide) rfl ?_
  refine ao_iconst (pc := 3) X dX12_proofIn_3 ic_0 ?_
  refine ao_istore (pc := 4) (lv' := [(5, .int (0 : Int32)), (4, .int (0 : Int32)), (0, .ref (eAd E 122)), (1, .ref (eAd E 140)), (2, .int v2), (3, .int v3)]) X dX12_proofIn_4 (by decide) rfl ?_
  refine ao_sub [2, 3, 4, 5, 1, 0] rfl ?_
  exact bX12_proofIn_122_140_6 hI hl0 X hr FU v2 v3 (0 : Int32) (0 : Int32) μ
def fX12_years_122_b195 (k49 : Int32 → Int32 → Int32 → Mem → Option (Int32 × Mem)) (p2 : Int32) (p3 : Int32) (p4 : Int32) (μ : Mem) : Option (Int32 × Mem) :=
  bnd (fX12_goNight_122_140 μ) fun r42 m43 =>
  k49 p2 p3 (p4 + (1 : Int32)) m43
set_option maxRecDepth 100000 in
set_option maxHeartbeats 4000000 in
theorem bX12_years_122_195 {E : En} {l : Launch} {Z : Zt} (hI : Inj E) (hl0 : lZ l Z) (X : Cx E Z cX12_years RX12 7 412) (hr : rtOf Z = some .int) {k49 : Int32 → Int32 → Int32 → Mem → Option (Int32 × Mem)} (hk49 : ∀ (p2 : Int32) (p3 : Int32) (p4 : Int32) (m : Mem), AO E Z 7 (QI E Z) 49 [(0, .ref (eAd E 122)), (2, .int p2), (3, .int p3), (4, .int p4)] [] m (k49 p2 p3 p4 m)) (p2 : Int32) (p3 : Int32) (p4 : Int32) (μ : Mem) : AO E Z 7 (QI E Z) 195 [(0, .ref (eAd E 122)), (2, .int p2), (3, .int p3), (4, .int p4)] [] μ (fX12_years_122_b195 k49 p2 p3 p4 μ) := by
  unfold fX12_years_122_b195
  refine ao_aload_n (pc := 195) X dX12_years_195 rfl ?_
  refine ao_aload_n (pc := 196) X dX12_years_196 rfl ?_
  refine ao_getR (pc := 197) X dX12_years_197 fl_RX12_68 sf_122_31 ?_
  refine ao_callVV (pc := 200) (As := [.ref (eAd E 140)]) (st := []) X hl0 dX12_years_200 yv_X12_goNight so_122 ml_RX12_274 (mX12_goNight_122_140 hI μ) (Nat.le_of_ble_eq_true rfl) rfl rfl (Nat.le_of_ble_eq_true rfl) (fun r42 m43 => ?_)
  refine ao_iinc (pc := 203) (k := 3) (v := p4 + (1 : Int32)) (lv' := [(4, .int (p4 + (1 : Int32))), (0, .ref (eAd E 122)), (2, .int p2), (3, .int p3)]) X dX12_years_203 rfl (ii_ic ic_1) (by decide) rfl ?_
  refine ao_goto (pc := 206) (tgt := 49) X dX12_years_206 (by decide) ?_
  refine ao_sub [1, 2, 3, 0] rfl ?_
  exact hk49 p2 p3 (p4 + (1 : Int32)) m43
def fX12_years_122_b156 (k49 : Int32 → Int32 → Int32 → Mem → Option (Int32 × Mem)) (p2 : Int32) (p3 : Int32) (p4 : Int32) (p5 : Int32) (p6 : Int32) (μ : Mem) : Option (Int32 × Mem) :=
  if p6 = (3 : Int32) then (gd (inb p5 27) (if (gI μ 140 (ix p5)) = (1 : Int32) then (bnd (fX12_proofIn_122_140 p5 (0 : Int32) μ) fun r37 m38 =>
      bnd (fX12_ending_122 r37 m38) fun r39 m40 =>
      gd (inb p5 27) (lt (sI m40 140 (ix p5) r39) fun m41 =>
      fX12_years_122_b195 k49 p2 p3 p4 m41))
    else fX12_years_122_b195 k49 p2 p3 p4 μ))
  else fX12_years_122_b195 k49 p2 p3 p4 μ
set_option maxRecDepth 100000 in
set_option maxHeartbeats 4000000 in
theorem bX12_years_122_156 {E : En} {l : Launch} {Z : Zt} (hI : Inj E) (hl0 : lZ l Z) (X : Cx E Z cX12_years RX12 7 412) (hr : rtOf Z = some .int) {k49 : Int32 → Int32 → Int32 → Mem → Option (Int32 × Mem)} (hk49 : ∀ (p2 : Int32) (p3 : Int32) (p4 : Int32) (m : Mem), AO E Z 7 (QI E Z) 49 [(0, .ref (eAd E 122)), (2, .int p2), (3, .int p3), (4, .int p4)] [] m (k49 p2 p3 p4 m)) (p2 : Int32) (p3 : Int32) (p4 : Int32) (p5 : Int32) (p6 : Int32) (μ : Mem) : AO E Z 7 (QI E Z) 156 [(0, .ref (eAd E 122)), (2, .int p2), (3, .int p3), (4, .int p4), (5, .int p5), (6, .int p6)] [] μ (fX12_years_122_b156 k49 p2 p3 p4 p5 p6 μ) := by
  unfold fX12_years_122_b156
  refine ao_iload (pc := 156) X dX12_years_156 rfl ?_
  refine ao_iconst (pc := 158) X dX12_years_158 ic_3 ?_
  refine ao_icmp_ne (pc := 159) (tgt := 195) X dX12_years_159 (by decide) (fun _ => ?_) (fun _ => ?_)
  · refine ao_sub [0, 1, 2, 3] rfl ?_
    exact bX12_years_122_195 hI hl0 X hr hk49 p2 p3 p4 μ
  · refine ao_aload_n (pc := 162) X dX12_years_162 rfl ?_
    refine ao_getR (pc := 163) X dX12_years_163 fl_RX12_68 sf_122_31 ?_
    refine ao_iload (pc := 166) X dX12_years_166 rfl ?_
    refine ao_iald (pc := 168) X dX12_years_168 sa_140 ?_
    refine ao_iconst (pc := 169) X dX12_years_169 ic_1 ?_
    refine ao_icmp_ne (pc := 170) (tgt := 195) X dX12_years_170 (by decide) (fun _ => ?_) (fun _ => ?_)
    · refine ao_sub [0, 1, 2, 3] rfl ?_
      exact bX12_years_122_195 hI hl0 X hr hk49 p2 p3 p4 μ
    · refine ao_aload_n (pc := 173) X dX12_years_173 rfl ?_
      refine ao_getR (pc := 174) X dX12_years_174 fl_RX12_68 sf_122_31 ?_
      refine ao_iload (pc := 177) X dX12_years_177 rfl ?_
      refine ao_aload_n (pc := 179) X dX12_years_179 rfl ?_
      refine ao_aload_n (pc := 180) X dX12_years_180 rfl ?_
      refine ao_aload_n (pc := 181) X dX12_years_181 rfl ?_
      refine ao_getR (pc := 182) X dX12_years_182 fl_RX12_68 sf_122_31 ?_
      refine ao_iload (pc := 185) X dX12_years_185 rfl ?_
      refine ao_iconst (pc := 187) X dX12_years_187 ic_0 ?_
      refine ao_callVI (pc := 188) (As := [.ref (eAd E 140), .int p5, .int (0 : Int32)]) (st := [.ref (eAd E 122), .int p5, .ref (eAd E 140)]) X hl0 dX12_years_188 yv_X12_proofIn so_122 ml_RX12_235 (mX12_proofIn_122_140 hI p5 (0 : Int32) μ) (Nat.le_of_ble_eq_true rfl) rfl rfl (Nat.le_of_ble_eq_true rfl) (fun r37 m38 => ?_)
      refine ao_callVI (pc := 191) (As := [.int r37]) (st := [.int p5, .ref (eAd E 140)]) X hl0 dX12_years_191 yv_X12_ending so_122 ml_RX12_264 (mX12_ending_122 hI r37 m38) (Nat.le_of_ble_eq_true rfl) rfl rfl (Nat.le_of_ble_eq_true rfl) (fun r39 m40 => ?_)
      refine ao_iast (pc := 194) X dX12_years_194 sa_140 ?_
      refine ao_lt (fun m41 => ?_)
      refine ao_sub [0, 1, 2, 3] rfl ?_
      exact bX12_years_122_195 hI hl0 X hr hk49 p2 p3 p4 m41
def fX12_years_122_b109 (k49 : Int32 → Int32 → Int32 → Mem → Option (Int32 × Mem)) (p2 : Int32) (p3 : Int32) (p4 : Int32) (p5 : Int32) (p6 : Int32) (μ : Mem) : Option (Int32 × Mem) :=
  if p6 = (2 : Int32) then (gd (inb p5 27) (if (gI μ 140 (ix p5)) = 0 then (bnd (fX12_leftNow_122_140 p5 μ) fun r28 m29 =>
      bnd (fX12_doesSpeak_122 p5 r28 m29) fun r30 m31 =>
      if r30 = 0 then (fX12_years_122_b156 k49 p2 p3 p4 p5 p6 m31)
      else bnd (fX12_goPlead_140 p5 m31) fun r32 m33 =>
        fX12_years_122_b156 k49 p2 (p3 + (1 : Int32)) p4 p5 p6 m33)
    else fX12_years_122_b156 k49 p2 p3 p4 p5 p6 μ))
  else fX12_years_122_b156 k49 p2 p3 p4 p5 p6 μ
set_option maxRecDepth 100000 in
set_option maxHeartbeats 4000000 in
theorem bX12_years_122_109 {E : En} {l : Launch} {Z : Zt} (hI : Inj E) (hl0 : lZ l Z) (X : Cx E Z cX12_years RX12 7 412) (hr : rtOf Z = some .int) {k49 : Int32 → Int32 → Int32 → Mem → Option (Int32 × Mem)} (hk49 : ∀ (p2 : Int32) (p3 : Int32) (p4 : Int32) (m : Mem), AO E Z 7 (QI E Z) 49 [(0, .ref (eAd E 122)), (2, .int p2), (3, .int p3), (4, .int p4)] [] m (k49 p2 p3 p4 m)) (p2 : Int32) (p3 : Int32) (p4 : Int32) (p5 : Int32) (p6 : Int32) (μ : Mem) : AO E Z 7 (QI E Z) 109 [(0, .ref (eAd E 122)), (2, .int p2), (3, .int p3), (4, .int p4), (5, .int p5), (6, .int p6)] [] μ (fX12_years_122_b109 k49 p2 p3 p4 p5 p6 μ) := by
  unfold fX12_years_122_b109
  refine ao_iload (pc := 109) X dX12_years_109 rfl ?_
  refine ao_iconst (pc := 111) X dX12_years_111 ic_2 ?_
  refine ao_icmp_ne (pc := 112) (tgt := 156) X dX12_years_112 (by decide) (fun _ => ?_) (fun _ => ?_)
  · refine ao_sub [0, 1, 2, 3, 4, 5] rfl ?_
    exact bX12_years_122_156 hI hl0 X hr hk49 p2 p3 p4 p5 p6 μ
  · refine ao_aload_n (pc := 115) X dX12_years_115 rfl ?_
    refine ao_getR (pc := 116) X dX12_years_116 fl_RX12_68 sf_122_31 ?_
    refine ao_iload (pc := 119) X dX12_years_119 rfl ?_
    refine ao_iald (pc := 121) X dX12_years_121 sa_140 ?_
    refine ao_if_ne (pc := 122) (tgt := 156) X dX12_years_122 (by decide) (fun _ => ?_) (fun _ => ?_)
    · refine ao_sub [0, 1, 2, 3, 4, 5] rfl ?_
      exact bX12_years_122_156 hI hl0 X hr hk49 p2 p3 p4 p5 p6 μ
    · refine ao_aload_n (pc := 125) X dX12_years_125 rfl ?_
      refine ao_iload (pc := 126) X dX12_years_126 rfl ?_
      refine ao_aload_n (pc := 128) X dX12_years_128 rfl ?_
      refine ao_aload_n (pc := 129) X dX12_years_129 rfl ?_
      refine ao_getR (pc := 130) X dX12_years_130 fl_RX12_68 sf_122_31 ?_
      refine ao_iload (pc := 133) X dX12_years_133 rfl ?_
      refine ao_callVI (pc := 135) (As := [.ref (eAd E 140), .int p5]) (st := [.int p5, .ref (eAd E 122)]) X hl0 dX12_years_135 yv_X12_leftNow so_122 ml_RX12_231 (mX12_leftNow_122_140 hI p5 μ) (Nat.le_of_ble_eq_true rfl) rfl rfl (Nat.le_of_ble_eq_true rfl) (fun r28 m29 => ?_)
      refine ao_callVI (pc := 138) (As := [.int p5, .int r28]) (st := []) X hl0 dX12_years_138 yv_X12_doesSpeak so_122 ml_RX12_257 (mX12_doesSpeak_122 hI p5 r28 m29) (Nat.le_of_ble_eq_true rfl) rfl rfl (Nat.le_of_ble_eq_true rfl) (fun r30 m31 => ?_)
      refine ao_if_eq (pc := 141) (tgt := 156) X dX12_years_141 (by decide) (fun _ => ?_) (fun _ => ?_)
      · refine ao_sub [0, 1, 2, 3, 4, 5] rfl ?_
        exact bX12_years_122_156 hI hl0 X hr hk49 p2 p3 p4 p5 p6 m31
      · refine ao_aload_n (pc := 144) X dX12_years_144 rfl ?_
        refine ao_getR (pc := 145) X dX12_years_145 fl_RX12_68 sf_122_31 ?_
        refine ao_iload (pc := 148) X dX12_years_148 rfl ?_
        refine ao_callSV (pc := 150) (As := [.ref (eAd E 140), .int p5]) (st := []) X hl0 dX12_years_150 yv_X12_goPlead ml_RX12_260 (mX12_goPlead_140 hI p5 m31) (Nat.le_of_ble_eq_true rfl) rfl rfl (Nat.le_of_ble_eq_true rfl) (fun r32 m33 => ?_)
        refine ao_iinc (pc := 153) (k := 2) (v := p3 + (1 : Int32)) (lv' := [(3, .int (p3 + (1 : Int32))), (0, .ref (eAd E 122)), (2, .int p2), (4, .int p4), (5, .int p5), (6, .int p6)]) X dX12_years_153 rfl (ii_ic ic_1) (by decide) rfl ?_
        refine ao_sub [1, 2, 0, 3, 4, 5] rfl ?_
        exact bX12_years_122_156 hI hl0 X hr hk49 p2 (p3 + (1 : Int32)) p4 p5 p6 m33
def fX12_years_122_b106 (k49 : Int32 → Int32 → Int32 → Mem → Option (Int32 × Mem)) (p2 : Int32) (p3 : Int32) (p4 : Int32) (p5 : Int32) (p6 : Int32) (q0 : Int32) (q1 : Int32) (μ : Mem) : Option (Int32 × Mem) :=
  bnd (fX12_goLay_140 q1 q0 μ) fun r35 m36 =>
  fX12_years_122_b109 k49 p2 p3 p4 p5 p6 m36
set_option maxRecDepth 100000 in
set_option maxHeartbeats 4000000 in
theorem bX12_years_122_106 {E : En} {l : Launch} {Z : Zt} (hI : Inj E) (hl0 : lZ l Z) (X : Cx E Z cX12_years RX12 7 412) (hr : rtOf Z = some .int) {k49 : Int32 → Int32 → Int32 → Mem → Option (Int32 × Mem)} (hk49 : ∀ (p2 : Int32) (p3 : Int32) (p4 : Int32) (m : Mem), AO E Z 7 (QI E Z) 49 [(0, .ref (eAd E 122)), (2, .int p2), (3, .int p3), (4, .int p4)] [] m (k49 p2 p3 p4 m)) (p2 : Int32) (p3 : Int32) (p4 : Int32) (p5 : Int32) (p6 : Int32) (q0 : Int32) (q1 : Int32) (μ : Mem) : AO E Z 7 (QI E Z) 106 [(0, .ref (eAd E 122)), (2, .int p2), (3, .int p3), (4, .int p4), (5, .int p5), (6, .int p6)] [.int q0, .int q1, .ref (eAd E 140)] μ (fX12_years_122_b106 k49 p2 p3 p4 p5 p6 q0 q1 μ) := by
  unfold fX12_years_122_b106
  refine ao_callSV (pc := 106) (As := [.ref (eAd E 140), .int q1, .int q0]) (st := []) X hl0 dX12_years_106 yv_X12_goLay ml_RX12_253 (mX12_goLay_140 hI q1 q0 μ) (Nat.le_of_ble_eq_true rfl) rfl rfl (Nat.le_of_ble_eq_true rfl) (fun r35 m36 => ?_)
  refine ao_sub [0, 1, 2, 3, 4, 5] rfl ?_
  exact bX12_years_122_109 hI hl0 X hr hk49 p2 p3 p4 p5 p6 m36
def fX12_years_122_b49 : Nat → Int32 → Int32 → Int32 → Mem → Option (Int32 × Mem)
  | 0, _, _, _, _ => none
  | n + 1, p2, p3, p4, μ =>
  if p2 ≤ p4 then (lt (sI μ 122 16 (0 : Int32)) fun m7 =>
    bnd (fX12_ofKind_122_140 (2 : Int32) m7) fun r8 m9 =>
    bnd (fX12_ofKind_122_123 (2 : Int32) m9) fun r10 m11 =>
    bnd (fJ6_bitCount_0f7a4 (r8 &&& (r10 ^^^ (-1 : Int32))) m11) fun r12 m13 =>
    bnd (fX12_tell_122 (Int32.toInt64 r12) m13) fun r14 m15 =>
    bnd (fX12_ofKind_122_140 (4 : Int32) m15) fun r16 m17 =>
    bnd (fX12_ofKind_122_123 (4 : Int32) m17) fun r18 m19 =>
    bnd (fJ6_bitCount_0f7a4 (r16 &&& (r18 ^^^ (-1 : Int32))) m19) fun r20 m21 =>
    bnd (fX12_tell_122 (Int32.toInt64 r20) m21) fun r22 m23 =>
    some (p3, m23))
  else bnd (fX12_draw_122 (gI μ 122 1) μ) fun r24 m25 =>
    bnd (fX12_draw_122 (4 : Int32) m25) fun r26 m27 =>
    if (2 : Int32) ≤ r26 then (fX12_years_122_b109 (fun p2 p3 p4 m => fX12_years_122_b49 n p2 p3 p4 m) p2 p3 p4 r24 r26 m27)
    else gd (inb r24 27) (if (gI m27 140 (ix r24)) = 0 then (if r26 = 0 then (fX12_years_122_b106 (fun p2 p3 p4 m => fX12_years_122_b49 n p2 p3 p4 m) p2 p3 p4 r24 r26 (10 : Int32) r24 m27)
        else fX12_years_122_b106 (fun p2 p3 p4 m => fX12_years_122_b49 n p2 p3 p4 m) p2 p3 p4 r24 r26 (-10 : Int32) r24 m27)
      else fX12_years_122_b109 (fun p2 p3 p4 m => fX12_years_122_b49 n p2 p3 p4 m) p2 p3 p4 r24 r26 m27)
set_option maxRecDepth 100000 in
set_option maxHeartbeats 4000000 in
theorem bX12_years_122_49 {E : En} {l : Launch} {Z : Zt} (hI : Inj E) (hl0 : lZ l Z) (X : Cx E Z cX12_years RX12 7 412) (hr : rtOf Z = some .int) : ∀ (n : Nat) (p2 : Int32) (p3 : Int32) (p4 : Int32) (μ : Mem), AO E Z 7 (QI E Z) 49 [(0, .ref (eAd E 122)), (2, .int p2), (3, .int p3), (4, .int p4)] [] μ (fX12_years_122_b49 n p2 p3 p4 μ) := by
  intro n
  induction n with
  | zero =>
    intros
    exact ao_none
  | succ n ih =>
    intro p2 p3 p4 μ
    rw [fX12_years_122_b49]
    refine ao_iload (pc := 49) X dX12_years_49 rfl ?_
    refine ao_iload_n (pc := 51) X dX12_years_51 rfl ?_
    refine ao_icmp_ge (pc := 52) (tgt := 209) X dX12_years_52 (by decide) (fun _ => ?_) (fun _ => ?_)
    · refine ao_aload_n (pc := 209) X dX12_years_209 rfl ?_
      refine ao_iconst (pc := 210) X dX12_years_210 ic_0 ?_
      refine ao_putI (pc := 211) X dX12_years_211 fp_RX12_98 sf_122_16 ?_
      refine ao_lt (fun m7 => ?_)
      refine ao_aload_n (pc := 214) X dX12_years_214 rfl ?_
      refine ao_aload_n (pc := 215) X dX12_years_215 rfl ?_
      refine ao_aload_n (pc := 216) X dX12_years_216 rfl ?_
      refine ao_getR (pc := 217) X dX12_years_217 fl_RX12_68 sf_122_31 ?_
      refine ao_iconst (pc := 220) X dX12_years_220 ic_2 ?_
      refine ao_callVI (pc := 221) (As := [.ref (eAd E 140), .int (2 : Int32)]) (st := [.ref (eAd E 122)]) X hl0 dX12_years_221 yv_X12_ofKind so_122 ml_RX12_271 (mX12_ofKind_122_140 hI (2 : Int32) m7) (Nat.le_of_ble_eq_true rfl) rfl rfl (Nat.le_of_ble_eq_true rfl) (fun r8 m9 => ?_)
      refine ao_aload_n (pc := 224) X dX12_years_224 rfl ?_
      refine ao_aload_n (pc := 225) X dX12_years_225 rfl ?_
      refine ao_getR (pc := 226) X dX12_years_226 fl_RX12_9 sf_122_0 ?_
      refine ao_iconst (pc := 229) X dX12_years_229 ic_2 ?_
      refine ao_callVI (pc := 230) (As := [.ref (eAd E 123), .int (2 : Int32)]) (st := [.int r8, .ref (eAd E 122)]) X hl0 dX12_years_230 yv_X12_ofKind so_122 ml_RX12_271 (mX12_ofKind_122_123 hI (2 : Int32) m9) (Nat.le_of_ble_eq_true rfl) rfl rfl (Nat.le_of_ble_eq_true rfl) (fun r10 m11 => ?_)
      refine ao_iconst (pc := 233) X dX12_years_233 ic_m1 ?_
      refine ao_ixor (pc := 234) X dX12_years_234 ?_
      refine ao_iand (pc := 235) X dX12_years_235 ?_
      refine ao_callSI (pc := 236) (As := [.int (r8 &&& (r10 ^^^ (-1 : Int32)))]) (st := [.ref (eAd E 122)]) X hl0 dX12_years_236 yv_J6_bitCount_0f7a4 ml_RX12_296 (mJ6_bitCount_0f7a4 hI (r8 &&& (r10 ^^^ (-1 : Int32))) m11) (Nat.le_of_ble_eq_true rfl) rfl rfl (Nat.le_of_ble_eq_true rfl) (fun r12 m13 => ?_)
      refine ao_i2l (pc := 239) X dX12_years_239 ?_
      refine ao_callVV (pc := 240) (As := [.long (Int32.toInt64 r12)]) (st := []) X hl0 dX12_years_240 yv_X12_tell so_122 ml_RX12_267 (mX12_tell_122 hI (Int32.toInt64 r12) m13) (Nat.le_of_ble_eq_true rfl) rfl rfl (Nat.le_of_ble_eq_true rfl) (fun r14 m15 => ?_)
      refine ao_aload_n (pc := 243) X dX12_years_243 rfl ?_
      refine ao_aload_n (pc := 244) X dX12_years_244 rfl ?_
      refine ao_aload_n (pc := 245) X dX12_years_245 rfl ?_
      refine ao_getR (pc := 246) X dX12_years_246 fl_RX12_68 sf_122_31 ?_
      refine ao_iconst (pc := 249) X dX12_years_249 ic_4 ?_
      refine ao_callVI (pc := 250) (As := [.ref (eAd E 140), .int (4 : Int32)]) (st := [.ref (eAd E 122)]) X hl0 dX12_years_250 yv_X12_ofKind so_122 ml_RX12_271 (mX12_ofKind_122_140 hI (4 : Int32) m15) (Nat.le_of_ble_eq_true rfl) rfl rfl (Nat.le_of_ble_eq_true rfl) (fun r16 m17 => ?_)
      refine ao_aload_n (pc := 253) X dX12_years_253 rfl ?_
      refine ao_aload_n (pc := 254) X dX12_years_254 rfl ?_
      refine ao_getR (pc := 255) X dX12_years_255 fl_RX12_9 sf_122_0 ?_
      refine ao_iconst (pc := 258) X dX12_years_258 ic_4 ?_
      refine ao_callVI (pc := 259) (As := [.ref (eAd E 123), .int (4 : Int32)]) (st := [.int r16, .ref (eAd E 122)]) X hl0 dX12_years_259 yv_X12_ofKind so_122 ml_RX12_271 (mX12_ofKind_122_123 hI (4 : Int32) m17) (Nat.le_of_ble_eq_true rfl) rfl rfl (Nat.le_of_ble_eq_true rfl) (fun r18 m19 => ?_)
      refine ao_iconst (pc := 262) X dX12_years_262 ic_m1 ?_
      refine ao_ixor (pc := 263) X dX12_years_263 ?_
      refine ao_iand (pc := 264) X dX12_years_264 ?_
      refine ao_callSI (pc := 265) (As := [.int (r16 &&& (r18 ^^^ (-1 : Int32)))]) (st := [.ref (eAd E 122)]) X hl0 dX12_years_265 yv_J6_bitCount_0f7a4 ml_RX12_296 (mJ6_bitCount_0f7a4 hI (r16 &&& (r18 ^^^ (-1 : Int32))) m19) (Nat.le_of_ble_eq_true rfl) rfl rfl (Nat.le_of_ble_eq_true rfl) (fun r20 m21 => ?_)
      refine ao_i2l (pc := 268) X dX12_years_268 ?_
      refine ao_callVV (pc := 269) (As := [.long (Int32.toInt64 r20)]) (st := []) X hl0 dX12_years_269 yv_X12_tell so_122 ml_RX12_267 (mX12_tell_122 hI (Int32.toInt64 r20) m21) (Nat.le_of_ble_eq_true rfl) rfl rfl (Nat.le_of_ble_eq_true rfl) (fun r22 m23 => ?_)
      refine ao_iload_n (pc := 272) X dX12_years_272 rfl ?_
      exact ao_iret (pc := 273) X hr dX12_years_273
    · refine ao_aload_n (pc := 55) X dX12_years_55 rfl ?_
      refine ao_aload_n (pc := 56) X dX12_years_56 rfl ?_
      refine ao_getI (pc := 57) X dX12_years_57 fl_RX12_101 sf_122_1 ?_
      refine ao_callVI (pc := 60) (As := [.int (gI μ 122 1)]) (st := []) X hl0 dX12_years_60 yv_X12_draw so_122 ml_RX12_383 (mX12_draw_122 hI (gI μ 122 1) μ) (Nat.le_of_ble_eq_true rfl) rfl rfl (Nat.le_of_ble_eq_true rfl) (fun r24 m25 => ?_)
      refine ao_istore (pc := 63) (lv' := [(5, .int r24), (0, .ref (eAd E 122)), (2, .int p2), (3, .int p3), (4, .int p4)]) X dX12_years_63 (by decide) rfl ?_
      refine ao_aload_n (pc := 65) X dX12_years_65 rfl ?_
      refine ao_iconst (pc := 66) X dX12_years_66 ic_4 ?_
      refine ao_callVI (pc := 67) (As := [.int (4 : Int32)]) (st := []) X hl0 dX12_years_67 yv_X12_draw so_122 ml_RX12_383 (mX12_draw_122 hI (4 : Int32) m25) (Nat.le_of_ble_eq_true rfl) rfl rfl (Nat.le_of_ble_eq_true rfl) (fun r26 m27 => ?_)
      refine ao_istore (pc := 70) (lv' := [(6, .int r26), (5, .int r24), (0, .ref (eAd E 122)), (2, .int p2), (3, .int p3), (4, .int p4)]) X dX12_years_70 (by decide) rfl ?_
      refine ao_iload (pc := 72) X dX12_years_72 rfl ?_
      refine ao_iconst (pc := 74) X dX12_years_74 ic_2 ?_
      refine ao_icmp_ge (pc := 75) (tgt := 109) X dX12_years_75 (by decide) (fun _ => ?_) (fun _ => ?_)
      · refine ao_sub [2, 3, 4, 5, 1, 0] rfl ?_
        exact bX12_years_122_109 hI hl0 X hr ih p2 p3 p4 r24 r26 m27
      · refine ao_aload_n (pc := 78) X dX12_years_78 rfl ?_
        refine ao_getR (pc := 79) X dX12_years_79 fl_RX12_68 sf_122_31 ?_
        refine ao_iload (pc := 82) X dX12_years_82 rfl ?_
        refine ao_iald (pc := 84) X dX12_years_84 sa_140 ?_
        refine ao_if_ne (pc := 85) (tgt := 109) X dX12_years_85 (by decide) (fun _ => ?_) (fun _ => ?_)
        · refine ao_sub [2, 3, 4, 5, 1, 0] rfl ?_
          exact bX12_years_122_109 hI hl0 X hr ih p2 p3 p4 r24 r26 m27
        · refine ao_aload_n (pc := 88) X dX12_years_88 rfl ?_
          refine ao_getR (pc := 89) X dX12_years_89 fl_RX12_68 sf_122_31 ?_
          refine ao_iload (pc := 92) X dX12_years_92 rfl ?_
          refine ao_iload (pc := 94) X dX12_years_94 rfl ?_
          refine ao_if_ne (pc := 96) (tgt := 104) X dX12_years_96 (by decide) (fun _ => ?_) (fun _ => ?_)
          · refine ao_bipush (pc := 104) X dX12_years_104 bp_m10 ?_
            refine ao_sub [2, 3, 4, 5, 1, 0] rfl ?_
            exact bX12_years_122_106 hI hl0 X hr ih p2 p3 p4 r24 r26 (-10 : Int32) r24 m27
          · refine ao_bipush (pc := 99) X dX12_years_99 bp_10 ?_
            refine ao_goto (pc := 101) (tgt := 106) X dX12_years_101 (by decide) ?_
            refine ao_sub [2, 3, 4, 5, 1, 0] rfl ?_
            exact bX12_years_122_106 hI hl0 X hr ih p2 p3 p4 r24 r26 (10 : Int32) r24 m27
def fX12_years_122 (v1 : Int32) (v2 : Int32) (μ : Mem) : Option (Int32 × Mem) :=
  lt (sI μ 122 17 (0 : Int32)) fun m1 =>
  if (gI m1 122 1) = 0 then (some ((-2 : Int32), m1))
  else bnd (fX12_in v2 (1 : Int32) (60 : Int32) m1) fun r2 m3 =>
    if r2 = 0 then (some ((-1 : Int32), m3))
    else lt (sI m3 122 40 v1) fun m4 =>
      bnd (fX12_lay_123_140 (0 : Int32) m4) fun r5 m6 =>
      fX12_years_122_b49 FU v2 (0 : Int32) (0 : Int32) m6
set_option maxRecDepth 100000 in
set_option maxHeartbeats 4000000 in
theorem mX12_years_122 {E : En} {l : Launch} (hI : Inj E) (v1 : Int32) (v2 : Int32) (μ : Mem) : MtI E l yX12_years cX12_years 7 (some .int) 412 [.ref (eAd E 122), .int v1, .int v2] μ (fX12_years_122 v1 v2 μ) := by
  refine mtI_of (own := RX12) [(0, .ref (eAd E 122)), (1, .int v1), (2, .int v2)] hI rfl (by decide) (Nat.le_of_ble_eq_true rfl) (Nat.le_of_ble_eq_true rfl) rfl (fun Z hl0 X hr => ?_)
  unfold fX12_years_122
  refine ao_aload_n (pc := 0) X dX12_years_0 rfl ?_
  refine ao_iconst (pc := 1) X dX12_years_1 ic_0 ?_
  refine ao_putI (pc := 2) X dX12_years_2 fp_RX12_95 sf_122_17 ?_
  refine ao_lt (fun m1 => ?_)
  refine ao_aload_n (pc := 5) X dX12_years_5 rfl ?_
  refine ao_getI (pc := 6) X dX12_years_6 fl_RX12_101 sf_122_1 ?_
  refine ao_if_ne (pc := 9) (tgt := 15) X dX12_years_9 (by decide) (fun _ => ?_) (fun _ => ?_)
  · refine ao_iload_n (pc := 15) X dX12_years_15 rfl ?_
    refine ao_iconst (pc := 16) X dX12_years_16 ic_1 ?_
    refine ao_bipush (pc := 17) X dX12_years_17 bp_60 ?_
    refine ao_callSI (pc := 19) (As := [.int v2, .int (1 : Int32), .int (60 : Int32)]) (st := []) X hl0 dX12_years_19 yv_X12_in ml_RX12_104 (mX12_in hI v2 (1 : Int32) (60 : Int32) m1) (Nat.le_of_ble_eq_true rfl) rfl rfl (Nat.le_of_ble_eq_true rfl) (fun r2 m3 => ?_)
    refine ao_if_ne (pc := 22) (tgt := 27) X dX12_years_22 (by decide) (fun _ => ?_) (fun _ => ?_)
    · refine ao_aload_n (pc := 27) X dX12_years_27 rfl ?_
      refine ao_iload_n (pc := 28) X dX12_years_28 rfl ?_
      refine ao_putI (pc := 29) X dX12_years_29 fp_RX12_379 sf_122_40 ?_
      refine ao_lt (fun m4 => ?_)
      refine ao_iconst (pc := 32) X dX12_years_32 ic_0 ?_
      refine ao_istore_n (pc := 33) (lv' := [(3, .int (0 : Int32)), (0, .ref (eAd E 122)), (1, .int v1), (2, .int v2)]) X dX12_years_33 rfl (by decide) rfl ?_
      refine ao_aload_n (pc := 34) X dX12_years_34 rfl ?_
      refine ao_getR (pc := 35) X dX12_years_35 fl_RX12_9 sf_122_0 ?_
      refine ao_aload_n (pc := 38) X dX12_years_38 rfl ?_
      refine ao_getR (pc := 39) X dX12_years_39 fl_RX12_68 sf_122_31 ?_
      refine ao_iconst (pc := 42) X dX12_years_42 ic_0 ?_
      refine ao_callSV (pc := 43) (As := [.ref (eAd E 123), .ref (eAd E 140), .int (0 : Int32)]) (st := []) X hl0 dX12_years_43 yv_X12_lay ml_RX12_242 (mX12_lay_123_140 hI (0 : Int32) m4) (Nat.le_of_ble_eq_true rfl) rfl rfl (Nat.le_of_ble_eq_true rfl) (fun r5 m6 => ?_)
      refine ao_iconst (pc := 46) X dX12_years_46 ic_0 ?_
      refine ao_istore (pc := 47) (lv' := [(4, .int (0 : Int32)), (3, .int (0 : Int32)), (0, .ref (eAd E 122)), (1, .int v1), (2, .int v2)]) X dX12_years_47 (by decide) rfl ?_
      refine ao_sub [2, 4, 1, 0] rfl ?_
      exact bX12_years_122_49 hI hl0 X hr FU v2 (0 : Int32) (0 : Int32) m6
    · refine ao_iconst (pc := 25) X dX12_years_25 ic_m1 ?_
      exact ao_iret (pc := 26) X hr dX12_years_26
  · refine ao_bipush (pc := 12) X dX12_years_12 bp_m2 ?_
    exact ao_iret (pc := 14) X hr dX12_years_14
def fX4_take_108_33 (μ : Mem) : Option (Unit × Mem) :=
  gd (cpOK (0 : Int32) (0 : Int32) (6 : Int32) 6 6) (lt (sC μ 34 109 (ix (0 : Int32)) (ix (0 : Int32)) (ix (6 : Int32))) fun m1 =>
  gd (cpOK (0 : Int32) (0 : Int32) (6 : Int32) 6 6) (lt (sC m1 35 110 (ix (0 : Int32)) (ix (0 : Int32)) (ix (6 : Int32))) fun m2 =>
  gd (cpOK (0 : Int32) (0 : Int32) (6 : Int32) 6 6) (lt (sC m2 36 111 (ix (0 : Int32)) (ix (0 : Int32)) (ix (6 : Int32))) fun m3 =>
  gd (cpOK (0 : Int32) (0 : Int32) (8 : Int32) 8 8) (lt (sC m3 37 112 (ix (0 : Int32)) (ix (0 : Int32)) (ix (8 : Int32))) fun m4 =>
  lt (sI m4 108 4 (gI m4 33 4)) fun m5 =>
  lt (sI m5 108 5 (0 : Int32)) fun m6 =>
  some ((), m6)))))
set_option maxRecDepth 100000 in
set_option maxHeartbeats 4000000 in
theorem mX4_take_108_33 {E : En} {l : Launch} (hI : Inj E) (μ : Mem) : MtV E l yX4_take cX4_take 2 (none) 1 [.ref (eAd E 108), .ref (eAd E 33)] μ (fX4_take_108_33 μ) := by
  refine mtV_of (own := RX4) [(0, .ref (eAd E 108)), (1, .ref (eAd E 33))] hI rfl (by decide) (Nat.le_of_ble_eq_true rfl) (Nat.le_of_ble_eq_true rfl) rfl (fun Z hl0 X hr => ?_)
  unfold fX4_take_108_33
  refine ao_aload_n (pc := 0) X dX4_take_0 rfl ?_
  refine ao_getR (pc := 1) X dX4_take_1 fl_RX4_9 sf_33_0 ?_
  refine ao_iconst (pc := 4) X dX4_take_4 ic_0 ?_
  refine ao_aload_n (pc := 5) X dX4_take_5 rfl ?_
  refine ao_getR (pc := 6) X dX4_take_6 fl_RX4_9 sf_108_0 ?_
  refine ao_iconst (pc := 9) X dX4_take_9 ic_0 ?_
  refine ao_bipush (pc := 10) X dX4_take_10 bp_6 ?_
  refine ao_copy (pc := 12) X dX4_take_12 ml_RX4_43 CpyW_ok sa_34 sa_109 (Nat.le_of_ble_eq_true rfl) ?_
  refine ao_lt (fun m1 => ?_)
  refine ao_aload_n (pc := 15) X dX4_take_15 rfl ?_
  refine ao_getR (pc := 16) X dX4_take_16 fl_RX4_15 sf_33_1 ?_
  refine ao_iconst (pc := 19) X dX4_take_19 ic_0 ?_
  refine ao_aload_n (pc := 20) X dX4_take_20 rfl ?_
  refine ao_getR (pc := 21) X dX4_take_21 fl_RX4_15 sf_108_1 ?_
  refine ao_iconst (pc := 24) X dX4_take_24 ic_0 ?_
  refine ao_bipush (pc := 25) X dX4_take_25 bp_6 ?_
  refine ao_copy (pc := 27) X dX4_take_27 ml_RX4_43 CpyW_ok sa_35 sa_110 (Nat.le_of_ble_eq_true rfl) ?_
  refine ao_lt (fun m2 => ?_)
  refine ao_aload_n (pc := 30) X dX4_take_30 rfl ?_
  refine ao_getR (pc := 31) X dX4_take_31 fl_RX4_18 sf_33_2 ?_
  refine ao_iconst (pc := 34) X dX4_take_34 ic_0 ?_
  refine ao_aload_n (pc := 35) X dX4_take_35 rfl ?_
  refine ao_getR (pc := 36) X dX4_take_36 fl_RX4_18 sf_108_2 ?_
  refine ao_iconst (pc := 39) X dX4_take_39 ic_0 ?_
  refine ao_bipush (pc := 40) X dX4_take_40 bp_6 ?_
  refine ao_copy (pc := 42) X dX4_take_42 ml_RX4_43 CpyW_ok sa_36 sa_111 (Nat.le_of_ble_eq_true rfl) ?_
  refine ao_lt (fun m3 => ?_)
  refine ao_aload_n (pc := 45) X dX4_take_45 rfl ?_
  refine ao_getR (pc := 46) X dX4_take_46 fl_RX4_21 sf_33_3 ?_
  refine ao_iconst (pc := 49) X dX4_take_49 ic_0 ?_
  refine ao_aload_n (pc := 50) X dX4_take_50 rfl ?_
  refine ao_getR (pc := 51) X dX4_take_51 fl_RX4_21 sf_108_3 ?_
  refine ao_iconst (pc := 54) X dX4_take_54 ic_0 ?_
  refine ao_bipush (pc := 55) X dX4_take_55 bp_8 ?_
  refine ao_copy (pc := 57) X dX4_take_57 ml_RX4_43 CpyW_ok sa_37 sa_112 (Nat.le_of_ble_eq_true rfl) ?_
  refine ao_lt (fun m4 => ?_)
  refine ao_aload_n (pc := 60) X dX4_take_60 rfl ?_
  refine ao_aload_n (pc := 61) X dX4_take_61 rfl ?_
  refine ao_getI (pc := 62) X dX4_take_62 fl_RX4_24 sf_33_4 ?_
  refine ao_putI (pc := 65) X dX4_take_65 fp_RX4_24 sf_108_4 ?_
  refine ao_lt (fun m5 => ?_)
  refine ao_aload_n (pc := 68) X dX4_take_68 rfl ?_
  refine ao_iconst (pc := 69) X dX4_take_69 ic_0 ?_
  refine ao_putI (pc := 70) X dX4_take_70 fp_RX4_28 sf_108_5 ?_
  refine ao_lt (fun m6 => ?_)
  exact ao_vret (pc := 73) X hr dX4_take_73
def fX4_take_113_33 (μ : Mem) : Option (Unit × Mem) :=
  gd (cpOK (0 : Int32) (0 : Int32) (6 : Int32) 6 6) (lt (sC μ 34 114 (ix (0 : Int32)) (ix (0 : Int32)) (ix (6 : Int32))) fun m1 =>
  gd (cpOK (0 : Int32) (0 : Int32) (6 : Int32) 6 6) (lt (sC m1 35 115 (ix (0 : Int32)) (ix (0 : Int32)) (ix (6 : Int32))) fun m2 =>
  gd (cpOK (0 : Int32) (0 : Int32) (6 : Int32) 6 6) (lt (sC m2 36 116 (ix (0 : Int32)) (ix (0 : Int32)) (ix (6 : Int32))) fun m3 =>
  gd (cpOK (0 : Int32) (0 : Int32) (8 : Int32) 8 8) (lt (sC m3 37 117 (ix (0 : Int32)) (ix (0 : Int32)) (ix (8 : Int32))) fun m4 =>
  lt (sI m4 113 4 (gI m4 33 4)) fun m5 =>
  lt (sI m5 113 5 (0 : Int32)) fun m6 =>
  some ((), m6)))))
set_option maxRecDepth 100000 in
set_option maxHeartbeats 4000000 in
theorem mX4_take_113_33 {E : En} {l : Launch} (hI : Inj E) (μ : Mem) : MtV E l yX4_take cX4_take 2 (none) 1 [.ref (eAd E 113), .ref (eAd E 33)] μ (fX4_take_113_33 μ) := by
  refine mtV_of (own := RX4) [(0, .ref (eAd E 113)), (1, .ref (eAd E 33))] hI rfl (by decide) (Nat.le_of_ble_eq_true rfl) (Nat.le_of_ble_eq_true rfl) rfl (fun Z hl0 X hr => ?_)
  unfold fX4_take_113_33
  refine ao_aload_n (pc := 0) X dX4_take_0 rfl ?_
  refine ao_getR (pc := 1) X dX4_take_1 fl_RX4_9 sf_33_0 ?_
  refine ao_iconst (pc := 4) X dX4_take_4 ic_0 ?_
  refine ao_aload_n (pc := 5) X dX4_take_5 rfl ?_
  refine ao_getR (pc := 6) X dX4_take_6 fl_RX4_9 sf_113_0 ?_
  refine ao_iconst (pc := 9) X dX4_take_9 ic_0 ?_
  refine ao_bipush (pc := 10) X dX4_take_10 bp_6 ?_
  refine ao_copy (pc := 12) X dX4_take_12 ml_RX4_43 CpyW_ok sa_34 sa_114 (Nat.le_of_ble_eq_true rfl) ?_
  refine ao_lt (fun m1 => ?_)
  refine ao_aload_n (pc := 15) X dX4_take_15 rfl ?_
  refine ao_getR (pc := 16) X dX4_take_16 fl_RX4_15 sf_33_1 ?_
  refine ao_iconst (pc := 19) X dX4_take_19 ic_0 ?_
  refine ao_aload_n (pc := 20) X dX4_take_20 rfl ?_
  refine ao_getR (pc := 21) X dX4_take_21 fl_RX4_15 sf_113_1 ?_
  refine ao_iconst (pc := 24) X dX4_take_24 ic_0 ?_
  refine ao_bipush (pc := 25) X dX4_take_25 bp_6 ?_
  refine ao_copy (pc := 27) X dX4_take_27 ml_RX4_43 CpyW_ok sa_35 sa_115 (Nat.le_of_ble_eq_true rfl) ?_
  refine ao_lt (fun m2 => ?_)
  refine ao_aload_n (pc := 30) X dX4_take_30 rfl ?_
  refine ao_getR (pc := 31) X dX4_take_31 fl_RX4_18 sf_33_2 ?_
  refine ao_iconst (pc := 34) X dX4_take_34 ic_0 ?_
  refine ao_aload_n (pc := 35) X dX4_take_35 rfl ?_
  refine ao_getR (pc := 36) X dX4_take_36 fl_RX4_18 sf_113_2 ?_
  refine ao_iconst (pc := 39) X dX4_take_39 ic_0 ?_
  refine ao_bipush (pc := 40) X dX4_take_40 bp_6 ?_
  refine ao_copy (pc := 42) X dX4_take_42 ml_RX4_43 CpyW_ok sa_36 sa_116 (Nat.le_of_ble_eq_true rfl) ?_
  refine ao_lt (fun m3 => ?_)
  refine ao_aload_n (pc := 45) X dX4_take_45 rfl ?_
  refine ao_getR (pc := 46) X dX4_take_46 fl_RX4_21 sf_33_3 ?_
  refine ao_iconst (pc := 49) X dX4_take_49 ic_0 ?_
  refine ao_aload_n (pc := 50) X dX4_take_50 rfl ?_
  refine ao_getR (pc := 51) X dX4_take_51 fl_RX4_21 sf_113_3 ?_
  refine ao_iconst (pc := 54) X dX4_take_54 ic_0 ?_
  refine ao_bipush (pc := 55) X dX4_take_55 bp_8 ?_
  refine ao_copy (pc := 57) X dX4_take_57 ml_RX4_43 CpyW_ok sa_37 sa_117 (Nat.le_of_ble_eq_true rfl) ?_
  refine ao_lt (fun m4 => ?_)
  refine ao_aload_n (pc := 60) X dX4_take_60 rfl ?_
  refine ao_aload_n (pc := 61) X dX4_take_61 rfl ?_
  refine ao_getI (pc := 62) X dX4_take_62 fl_RX4_24 sf_33_4 ?_
  refine ao_putI (pc := 65) X dX4_take_65 fp_RX4_24 sf_113_4 ?_
  refine ao_lt (fun m5 => ?_)
  refine ao_aload_n (pc := 68) X dX4_take_68 rfl ?_
  refine ao_iconst (pc := 69) X dX4_take_69 ic_0 ?_
  refine ao_putI (pc := 70) X dX4_take_70 fp_RX4_28 sf_113_5 ?_
  refine ao_lt (fun m6 => ?_)
  exact ao_vret (pc := 73) X hr dX4_take_73
def fX11_keep_0 (v1 : Int32) (μ : Mem) : Option (Int32 × Mem) :=
  if v1 < 0 then (some ((0 : Int32), μ))
  else if v1 < (2 : Int32) then (if v1 = (0 : Int32) then (bnd (fX4_take_108_33 μ) fun r1 m2 =>
        gd (inb v1 2) (lt (sI m2 120 (ix v1) (vp_nar .boolean (1 : Int32))) fun m3 =>
        some ((1 : Int32), m3)))
      else if v1 = (1 : Int32) then (bnd (fX4_take_113_33 μ) fun r4 m5 =>
        gd (inb v1 2) (lt (sI m5 120 (ix v1) (vp_nar .boolean (1 : Int32))) fun m6 =>
        some ((1 : Int32), m6)))
      else none)
    else some ((0 : Int32), μ)
set_option maxRecDepth 100000 in
set_option maxHeartbeats 4000000 in
theorem mX11_keep_0 {E : En} {l : Launch} (hI : Inj E) (v1 : Int32) (μ : Mem) : MtI E l yX11_keep cX11_keep 2 (some .boolean) 2 [.ref (eAd E 0), .int v1] μ (fX11_keep_0 v1 μ) := by
  refine mtI_of (own := RX11) [(0, .ref (eAd E 0)), (1, .int v1)] hI rfl (by decide) (Nat.le_of_ble_eq_true rfl) (Nat.le_of_ble_eq_true rfl) rfl (fun Z hl0 X hr => ?_)
  unfold fX11_keep_0
  refine ao_iload_n (pc := 0) X dX11_keep_0 rfl ?_
  refine ao_if_lt (pc := 1) (tgt := 9) X dX11_keep_1 (by decide) (fun _ => ?_) (fun _ => ?_)
  · refine ao_iconst (pc := 9) X dX11_keep_9 ic_0 ?_
    exact ao_zret (pc := 10) X hr rfl dX11_keep_10
  · refine ao_iload_n (pc := 4) X dX11_keep_4 rfl ?_
    refine ao_iconst (pc := 5) X dX11_keep_5 ic_2 ?_
    refine ao_icmp_lt (pc := 6) (tgt := 11) X dX11_keep_6 (by decide) (fun _ => ?_) (fun _ => ?_)
    · refine ao_aload_n (pc := 11) X dX11_keep_11 rfl ?_
      refine ao_getR (pc := 12) X dX11_keep_12 fl_RX11_88 sf_0_11 ?_
      refine ao_iload_n (pc := 15) X dX11_keep_15 rfl ?_
      refine ao_ite (cd := v1 = (0 : Int32)) (fun c => ao_aald (n := 0) (pc := 16) (t := 108) (iv := (0 : Int32)) X dX11_keep_16 (by decide) sh_32 c (by decide) rfl ?_) (fun _ => ?_)
      · refine ao_aload_n (pc := 17) X dX11_keep_17 rfl ?_
        refine ao_getR (pc := 18) X dX11_keep_18 fl_RX11_65 sf_0_7 ?_
        refine ao_callVV (pc := 21) (As := [.ref (eAd E 33)]) (st := []) X hl0 dX11_keep_21 yv_X4_take so_108 ml_RX11_297 (mX4_take_108_33 hI μ) (Nat.le_of_ble_eq_true rfl) rfl rfl (Nat.le_of_ble_eq_true rfl) (fun r1 m2 => ?_)
        refine ao_aload_n (pc := 24) X dX11_keep_24 rfl ?_
        refine ao_getR (pc := 25) X dX11_keep_25 fl_RX11_92 sf_0_12 ?_
        refine ao_iload_n (pc := 28) X dX11_keep_28 rfl ?_
        refine ao_iconst (pc := 29) X dX11_keep_29 ic_1 ?_
        refine ao_zast (pc := 30) X dX11_keep_30 sa_120 ?_
        refine ao_lt (fun m3 => ?_)
        refine ao_iconst (pc := 31) X dX11_keep_31 ic_1 ?_
        exact ao_zret (pc := 32) X hr rfl dX11_keep_32
      refine ao_ite (cd := v1 = (1 : Int32)) (fun c => ao_aald (n := 0) (pc := 16) (t := 113) (iv := (1 : Int32)) X dX11_keep_16 (by decide) sh_32 c (by decide) rfl ?_) (fun _ => ?_)
      · refine ao_aload_n (pc := 17) X dX11_keep_17 rfl ?_
        refine ao_getR (pc := 18) X dX11_keep_18 fl_RX11_65 sf_0_7 ?_
        refine ao_callVV (pc := 21) (As := [.ref (eAd E 33)]) (st := []) X hl0 dX11_keep_21 yv_X4_take so_113 ml_RX11_297 (mX4_take_113_33 hI μ) (Nat.le_of_ble_eq_true rfl) rfl rfl (Nat.le_of_ble_eq_true rfl) (fun r4 m5 => ?_)
        refine ao_aload_n (pc := 24) X dX11_keep_24 rfl ?_
        refine ao_getR (pc := 25) X dX11_keep_25 fl_RX11_92 sf_0_12 ?_
        refine ao_iload_n (pc := 28) X dX11_keep_28 rfl ?_
        refine ao_iconst (pc := 29) X dX11_keep_29 ic_1 ?_
        refine ao_zast (pc := 30) X dX11_keep_30 sa_120 ?_
        refine ao_lt (fun m6 => ?_)
        refine ao_iconst (pc := 31) X dX11_keep_31 ic_1 ?_
        exact ao_zret (pc := 32) X hr rfl dX11_keep_32
      exact ao_none
    · refine ao_iconst (pc := 9) X dX11_keep_9 ic_0 ?_
      exact ao_zret (pc := 10) X hr rfl dX11_keep_10
def fX12_lay_123_146_b2 : Nat → Int32 → Int32 → Mem → Option (Unit × Mem)
  | 0, _, _, _ => none
  | n + 1, p2, p3, μ =>
  if (27 : Int32) ≤ p3 then (some ((), μ))
  else gd (inb p3 27) (gd (inb (p2 + p3) 54) (lt (sI μ 146 (ix (p2 + p3)) (gI μ 123 (ix p3))) fun m1 =>
    fX12_lay_123_146_b2 n p2 (p3 + (1 : Int32)) m1))
set_option maxRecDepth 100000 in
set_option maxHeartbeats 4000000 in
theorem bX12_lay_123_146_2 {E : En} {l : Launch} {Z : Zt} (hI : Inj E) (hl0 : lZ l Z) (X : Cx E Z cX12_lay RX12 4 1) (hr : rtOf Z = none) : ∀ (n : Nat) (p2 : Int32) (p3 : Int32) (μ : Mem), AO E Z 4 (QV E Z) 2 [(0, .ref (eAd E 123)), (1, .ref (eAd E 146)), (2, .int p2), (3, .int p3)] [] μ (fX12_lay_123_146_b2 n p2 p3 μ) := by
  intro n
  induction n with
  | zero =>
    intros
    exact ao_none
  | succ n ih =>
    intro p2 p3 μ
    rw [fX12_lay_123_146_b2]
    refine ao_iload_n (pc := 2) X dX12_lay_2 rfl ?_
    refine ao_bipush (pc := 3) X dX12_lay_3 bp_27 ?_
    refine ao_icmp_ge (pc := 5) (tgt := 22) X dX12_lay_5 (by decide) (fun _ => ?_) (fun _ => ?_)
    · exact ao_vret (pc := 22) X hr dX12_lay_22
    · refine ao_aload_n (pc := 8) X dX12_lay_8 rfl ?_
      refine ao_iload_n (pc := 9) X dX12_lay_9 rfl ?_
      refine ao_iload_n (pc := 10) X dX12_lay_10 rfl ?_
      refine ao_iadd (pc := 11) X dX12_lay_11 ?_
      refine ao_aload_n (pc := 12) X dX12_lay_12 rfl ?_
      refine ao_iload_n (pc := 13) X dX12_lay_13 rfl ?_
      refine ao_iald (pc := 14) X dX12_lay_14 sa_123 ?_
      refine ao_iast (pc := 15) X dX12_lay_15 sa_146 ?_
      refine ao_lt (fun m1 => ?_)
      refine ao_iinc (pc := 16) (k := 3) (v := p3 + (1 : Int32)) (lv' := [(3, .int (p3 + (1 : Int32))), (0, .ref (eAd E 123)), (1, .ref (eAd E 146)), (2, .int p2)]) X dX12_lay_16 rfl (ii_ic ic_1) (by decide) rfl ?_
      refine ao_goto (pc := 19) (tgt := 2) X dX12_lay_19 (by decide) ?_
      refine ao_sub [1, 2, 3, 0] rfl ?_
      exact ih p2 (p3 + (1 : Int32)) m1
def fX12_lay_123_146 (v2 : Int32) (μ : Mem) : Option (Unit × Mem) :=
  fX12_lay_123_146_b2 FU v2 (0 : Int32) μ
set_option maxRecDepth 100000 in
set_option maxHeartbeats 4000000 in
theorem mX12_lay_123_146 {E : En} {l : Launch} (hI : Inj E) (v2 : Int32) (μ : Mem) : MtV E l yX12_lay cX12_lay 4 (none) 1 [.ref (eAd E 123), .ref (eAd E 146), .int v2] μ (fX12_lay_123_146 v2 μ) := by
  refine mtV_of (own := RX12) [(0, .ref (eAd E 123)), (1, .ref (eAd E 146)), (2, .int v2)] hI rfl (by decide) (Nat.le_of_ble_eq_true rfl) (Nat.le_of_ble_eq_true rfl) rfl (fun Z hl0 X hr => ?_)
  unfold fX12_lay_123_146
  refine ao_iconst (pc := 0) X dX12_lay_0 ic_0 ?_
  refine ao_istore_n (pc := 1) (lv' := [(3, .int (0 : Int32)), (0, .ref (eAd E 123)), (1, .ref (eAd E 146)), (2, .int v2)]) X dX12_lay_1 rfl (by decide) rfl ?_
  refine ao_sub [1, 2, 3, 0] rfl ?_
  exact bX12_lay_123_146_2 hI hl0 X hr FU v2 (0 : Int32) μ
def fX12_keep_122 (v1 : Int32) (μ : Mem) : Option (Int32 × Mem) :=
  lt (sI μ 122 17 (0 : Int32)) fun m1 =>
  bnd (fX12_in v1 (0 : Int32) (1 : Int32) m1) fun r2 m3 =>
  if r2 = 0 then (some ((0 : Int32), m3))
  else gd (inb v1 2) (lt (sI m3 147 (ix v1) (vp_nar .boolean (1 : Int32))) fun m4 =>
    gd (inb v1 2) (lt (sI m4 148 (ix v1) (gI m4 122 41)) fun m5 =>
    bnd (fX12_lay_123_146 ((27 : Int32) * v1) m5) fun r6 m7 =>
    some ((1 : Int32), m7)))
set_option maxRecDepth 100000 in
set_option maxHeartbeats 4000000 in
theorem mX12_keep_122 {E : En} {l : Launch} (hI : Inj E) (v1 : Int32) (μ : Mem) : MtI E l yX12_keep cX12_keep 2 (some .boolean) 2 [.ref (eAd E 122), .int v1] μ (fX12_keep_122 v1 μ) := by
  refine mtI_of (own := RX12) [(0, .ref (eAd E 122)), (1, .int v1)] hI rfl (by decide) (Nat.le_of_ble_eq_true rfl) (Nat.le_of_ble_eq_true rfl) rfl (fun Z hl0 X hr => ?_)
  unfold fX12_keep_122
  refine ao_aload_n (pc := 0) X dX12_keep_0 rfl ?_
  refine ao_iconst (pc := 1) X dX12_keep_1 ic_0 ?_
  refine ao_putI (pc := 2) X dX12_keep_2 fp_RX12_95 sf_122_17 ?_
  refine ao_lt (fun m1 => ?_)
  refine ao_iload_n (pc := 5) X dX12_keep_5 rfl ?_
  refine ao_iconst (pc := 6) X dX12_keep_6 ic_0 ?_
  refine ao_iconst (pc := 7) X dX12_keep_7 ic_1 ?_
  refine ao_callSI (pc := 8) (As := [.int v1, .int (0 : Int32), .int (1 : Int32)]) (st := []) X hl0 dX12_keep_8 yv_X12_in ml_RX12_104 (mX12_in hI v1 (0 : Int32) (1 : Int32) m1) (Nat.le_of_ble_eq_true rfl) rfl rfl (Nat.le_of_ble_eq_true rfl) (fun r2 m3 => ?_)
  refine ao_if_ne (pc := 11) (tgt := 16) X dX12_keep_11 (by decide) (fun _ => ?_) (fun _ => ?_)
  · refine ao_aload_n (pc := 16) X dX12_keep_16 rfl ?_
    refine ao_getR (pc := 17) X dX12_keep_17 fl_RX12_89 sf_122_43 ?_
    refine ao_iload_n (pc := 20) X dX12_keep_20 rfl ?_
    refine ao_iconst (pc := 21) X dX12_keep_21 ic_1 ?_
    refine ao_zast (pc := 22) X dX12_keep_22 sa_147 ?_
    refine ao_lt (fun m4 => ?_)
    refine ao_aload_n (pc := 23) X dX12_keep_23 rfl ?_
    refine ao_getR (pc := 24) X dX12_keep_24 fl_RX12_92 sf_122_44 ?_
    refine ao_iload_n (pc := 27) X dX12_keep_27 rfl ?_
    refine ao_aload_n (pc := 28) X dX12_keep_28 rfl ?_
    refine ao_getI (pc := 29) X dX12_keep_29 fl_RX12_178 sf_122_41 ?_
    refine ao_iast (pc := 32) X dX12_keep_32 sa_148 ?_
    refine ao_lt (fun m5 => ?_)
    refine ao_aload_n (pc := 33) X dX12_keep_33 rfl ?_
    refine ao_getR (pc := 34) X dX12_keep_34 fl_RX12_9 sf_122_0 ?_
    refine ao_aload_n (pc := 37) X dX12_keep_37 rfl ?_
    refine ao_getR (pc := 38) X dX12_keep_38 fl_RX12_86 sf_122_42 ?_
    refine ao_bipush (pc := 41) X dX12_keep_41 bp_27 ?_
    refine ao_iload_n (pc := 43) X dX12_keep_43 rfl ?_
    refine ao_imul (pc := 44) X dX12_keep_44 ?_
    refine ao_callSV (pc := 45) (As := [.ref (eAd E 123), .ref (eAd E 146), .int ((27 : Int32) * v1)]) (st := []) X hl0 dX12_keep_45 yv_X12_lay ml_RX12_242 (mX12_lay_123_146 hI ((27 : Int32) * v1) m5) (Nat.le_of_ble_eq_true rfl) rfl rfl (Nat.le_of_ble_eq_true rfl) (fun r6 m7 => ?_)
    refine ao_iconst (pc := 48) X dX12_keep_48 ic_1 ?_
    exact ao_zret (pc := 49) X hr rfl dX12_keep_49
  · refine ao_iconst (pc := 14) X dX12_keep_14 ic_0 ?_
    exact ao_zret (pc := 15) X hr rfl dX12_keep_15
def fX4_take_33_108 (μ : Mem) : Option (Unit × Mem) :=
  gd (cpOK (0 : Int32) (0 : Int32) (6 : Int32) 6 6) (lt (sC μ 109 34 (ix (0 : Int32)) (ix (0 : Int32)) (ix (6 : Int32))) fun m1 =>
  gd (cpOK (0 : Int32) (0 : Int32) (6 : Int32) 6 6) (lt (sC m1 110 35 (ix (0 : Int32)) (ix (0 : Int32)) (ix (6 : Int32))) fun m2 =>
  gd (cpOK (0 : Int32) (0 : Int32) (6 : Int32) 6 6) (lt (sC m2 111 36 (ix (0 : Int32)) (ix (0 : Int32)) (ix (6 : Int32))) fun m3 =>
  gd (cpOK (0 : Int32) (0 : Int32) (8 : Int32) 8 8) (lt (sC m3 112 37 (ix (0 : Int32)) (ix (0 : Int32)) (ix (8 : Int32))) fun m4 =>
  lt (sI m4 33 4 (gI m4 108 4)) fun m5 =>
  lt (sI m5 33 5 (0 : Int32)) fun m6 =>
  some ((), m6)))))
set_option maxRecDepth 100000 in
set_option maxHeartbeats 4000000 in
theorem mX4_take_33_108 {E : En} {l : Launch} (hI : Inj E) (μ : Mem) : MtV E l yX4_take cX4_take 2 (none) 1 [.ref (eAd E 33), .ref (eAd E 108)] μ (fX4_take_33_108 μ) := by
  refine mtV_of (own := RX4) [(0, .ref (eAd E 33)), (1, .ref (eAd E 108))] hI rfl (by decide) (Nat.le_of_ble_eq_true rfl) (Nat.le_of_ble_eq_true rfl) rfl (fun Z hl0 X hr => ?_)
  unfold fX4_take_33_108
  refine ao_aload_n (pc := 0) X dX4_take_0 rfl ?_
  refine ao_getR (pc := 1) X dX4_take_1 fl_RX4_9 sf_108_0 ?_
  refine ao_iconst (pc := 4) X dX4_take_4 ic_0 ?_
  refine ao_aload_n (pc := 5) X dX4_take_5 rfl ?_
  refine ao_getR (pc := 6) X dX4_take_6 fl_RX4_9 sf_33_0 ?_
  refine ao_iconst (pc := 9) X dX4_take_9 ic_0 ?_
  refine ao_bipush (pc := 10) X dX4_take_10 bp_6 ?_
  refine ao_copy (pc := 12) X dX4_take_12 ml_RX4_43 CpyW_ok sa_109 sa_34 (Nat.le_of_ble_eq_true rfl) ?_
  refine ao_lt (fun m1 => ?_)
  refine ao_aload_n (pc := 15) X dX4_take_15 rfl ?_
  refine ao_getR (pc := 16) X dX4_take_16 fl_RX4_15 sf_108_1 ?_
  refine ao_iconst (pc := 19) X dX4_take_19 ic_0 ?_
  refine ao_aload_n (pc := 20) X dX4_take_20 rfl ?_
  refine ao_getR (pc := 21) X dX4_take_21 fl_RX4_15 sf_33_1 ?_
  refine ao_iconst (pc := 24) X dX4_take_24 ic_0 ?_
  refine ao_bipush (pc := 25) X dX4_take_25 bp_6 ?_
  refine ao_copy (pc := 27) X dX4_take_27 ml_RX4_43 CpyW_ok sa_110 sa_35 (Nat.le_of_ble_eq_true rfl) ?_
  refine ao_lt (fun m2 => ?_)
  refine ao_aload_n (pc := 30) X dX4_take_30 rfl ?_
  refine ao_getR (pc := 31) X dX4_take_31 fl_RX4_18 sf_108_2 ?_
  refine ao_iconst (pc := 34) X dX4_take_34 ic_0 ?_
  refine ao_aload_n (pc := 35) X dX4_take_35 rfl ?_
  refine ao_getR (pc := 36) X dX4_take_36 fl_RX4_18 sf_33_2 ?_
  refine ao_iconst (pc := 39) X dX4_take_39 ic_0 ?_
  refine ao_bipush (pc := 40) X dX4_take_40 bp_6 ?_
  refine ao_copy (pc := 42) X dX4_take_42 ml_RX4_43 CpyW_ok sa_111 sa_36 (Nat.le_of_ble_eq_true rfl) ?_
  refine ao_lt (fun m3 => ?_)
  refine ao_aload_n (pc := 45) X dX4_take_45 rfl ?_
  refine ao_getR (pc := 46) X dX4_take_46 fl_RX4_21 sf_108_3 ?_
  refine ao_iconst (pc := 49) X dX4_take_49 ic_0 ?_
  refine ao_aload_n (pc := 50) X dX4_take_50 rfl ?_
  refine ao_getR (pc := 51) X dX4_take_51 fl_RX4_21 sf_33_3 ?_
  refine ao_iconst (pc := 54) X dX4_take_54 ic_0 ?_
  refine ao_bipush (pc := 55) X dX4_take_55 bp_8 ?_
  refine ao_copy (pc := 57) X dX4_take_57 ml_RX4_43 CpyW_ok sa_112 sa_37 (Nat.le_of_ble_eq_true rfl) ?_
  refine ao_lt (fun m4 => ?_)
  refine ao_aload_n (pc := 60) X dX4_take_60 rfl ?_
  refine ao_aload_n (pc := 61) X dX4_take_61 rfl ?_
  refine ao_getI (pc := 62) X dX4_take_62 fl_RX4_24 sf_108_4 ?_
  refine ao_putI (pc := 65) X dX4_take_65 fp_RX4_24 sf_33_4 ?_
  refine ao_lt (fun m5 => ?_)
  refine ao_aload_n (pc := 68) X dX4_take_68 rfl ?_
  refine ao_iconst (pc := 69) X dX4_take_69 ic_0 ?_
  refine ao_putI (pc := 70) X dX4_take_70 fp_RX4_28 sf_33_5 ?_
  refine ao_lt (fun m6 => ?_)
  exact ao_vret (pc := 73) X hr dX4_take_73
def fX4_take_33_113 (μ : Mem) : Option (Unit × Mem) :=
  gd (cpOK (0 : Int32) (0 : Int32) (6 : Int32) 6 6) (lt (sC μ 114 34 (ix (0 : Int32)) (ix (0 : Int32)) (ix (6 : Int32))) fun m1 =>
  gd (cpOK (0 : Int32) (0 : Int32) (6 : Int32) 6 6) (lt (sC m1 115 35 (ix (0 : Int32)) (ix (0 : Int32)) (ix (6 : Int32))) fun m2 =>
  gd (cpOK (0 : Int32) (0 : Int32) (6 : Int32) 6 6) (lt (sC m2 116 36 (ix (0 : Int32)) (ix (0 : Int32)) (ix (6 : Int32))) fun m3 =>
  gd (cpOK (0 : Int32) (0 : Int32) (8 : Int32) 8 8) (lt (sC m3 117 37 (ix (0 : Int32)) (ix (0 : Int32)) (ix (8 : Int32))) fun m4 =>
  lt (sI m4 33 4 (gI m4 113 4)) fun m5 =>
  lt (sI m5 33 5 (0 : Int32)) fun m6 =>
  some ((), m6)))))
set_option maxRecDepth 100000 in
set_option maxHeartbeats 4000000 in
theorem mX4_take_33_113 {E : En} {l : Launch} (hI : Inj E) (μ : Mem) : MtV E l yX4_take cX4_take 2 (none) 1 [.ref (eAd E 33), .ref (eAd E 113)] μ (fX4_take_33_113 μ) := by
  refine mtV_of (own := RX4) [(0, .ref (eAd E 33)), (1, .ref (eAd E 113))] hI rfl (by decide) (Nat.le_of_ble_eq_true rfl) (Nat.le_of_ble_eq_true rfl) rfl (fun Z hl0 X hr => ?_)
  unfold fX4_take_33_113
  refine ao_aload_n (pc := 0) X dX4_take_0 rfl ?_
  refine ao_getR (pc := 1) X dX4_take_1 fl_RX4_9 sf_113_0 ?_
  refine ao_iconst (pc := 4) X dX4_take_4 ic_0 ?_
  refine ao_aload_n (pc := 5) X dX4_take_5 rfl ?_
  refine ao_getR (pc := 6) X dX4_take_6 fl_RX4_9 sf_33_0 ?_
  refine ao_iconst (pc := 9) X dX4_take_9 ic_0 ?_
  refine ao_bipush (pc := 10) X dX4_take_10 bp_6 ?_
  refine ao_copy (pc := 12) X dX4_take_12 ml_RX4_43 CpyW_ok sa_114 sa_34 (Nat.le_of_ble_eq_true rfl) ?_
  refine ao_lt (fun m1 => ?_)
  refine ao_aload_n (pc := 15) X dX4_take_15 rfl ?_
  refine ao_getR (pc := 16) X dX4_take_16 fl_RX4_15 sf_113_1 ?_
  refine ao_iconst (pc := 19) X dX4_take_19 ic_0 ?_
  refine ao_aload_n (pc := 20) X dX4_take_20 rfl ?_
  refine ao_getR (pc := 21) X dX4_take_21 fl_RX4_15 sf_33_1 ?_
  refine ao_iconst (pc := 24) X dX4_take_24 ic_0 ?_
  refine ao_bipush (pc := 25) X dX4_take_25 bp_6 ?_
  refine ao_copy (pc := 27) X dX4_take_27 ml_RX4_43 CpyW_ok sa_115 sa_35 (Nat.le_of_ble_eq_true rfl) ?_
  refine ao_lt (fun m2 => ?_)
  refine ao_aload_n (pc := 30) X dX4_take_30 rfl ?_
  refine ao_getR (pc := 31) X dX4_take_31 fl_RX4_18 sf_113_2 ?_
  refine ao_iconst (pc := 34) X dX4_take_34 ic_0 ?_
  refine ao_aload_n (pc := 35) X dX4_take_35 rfl ?_
  refine ao_getR (pc := 36) X dX4_take_36 fl_RX4_18 sf_33_2 ?_
  refine ao_iconst (pc := 39) X dX4_take_39 ic_0 ?_
  refine ao_bipush (pc := 40) X dX4_take_40 bp_6 ?_
  refine ao_copy (pc := 42) X dX4_take_42 ml_RX4_43 CpyW_ok sa_116 sa_36 (Nat.le_of_ble_eq_true rfl) ?_
  refine ao_lt (fun m3 => ?_)
  refine ao_aload_n (pc := 45) X dX4_take_45 rfl ?_
  refine ao_getR (pc := 46) X dX4_take_46 fl_RX4_21 sf_113_3 ?_
  refine ao_iconst (pc := 49) X dX4_take_49 ic_0 ?_
  refine ao_aload_n (pc := 50) X dX4_take_50 rfl ?_
  refine ao_getR (pc := 51) X dX4_take_51 fl_RX4_21 sf_33_3 ?_
  refine ao_iconst (pc := 54) X dX4_take_54 ic_0 ?_
  refine ao_bipush (pc := 55) X dX4_take_55 bp_8 ?_
  refine ao_copy (pc := 57) X dX4_take_57 ml_RX4_43 CpyW_ok sa_117 sa_37 (Nat.le_of_ble_eq_true rfl) ?_
  refine ao_lt (fun m4 => ?_)
  refine ao_aload_n (pc := 60) X dX4_take_60 rfl ?_
  refine ao_aload_n (pc := 61) X dX4_take_61 rfl ?_
  refine ao_getI (pc := 62) X dX4_take_62 fl_RX4_24 sf_113_4 ?_
  refine ao_putI (pc := 65) X dX4_take_65 fp_RX4_24 sf_33_4 ?_
  refine ao_lt (fun m5 => ?_)
  refine ao_aload_n (pc := 68) X dX4_take_68 rfl ?_
  refine ao_iconst (pc := 69) X dX4_take_69 ic_0 ?_
  refine ao_putI (pc := 70) X dX4_take_70 fp_RX4_28 sf_33_5 ?_
  refine ao_lt (fun m6 => ?_)
  exact ao_vret (pc := 73) X hr dX4_take_73
def fX11_again_0 (v1 : Int32) (μ : Mem) : Option (Int32 × Mem) :=
  if v1 < 0 then (some ((0 : Int32), μ))
  else if (2 : Int32) ≤ v1 then (some ((0 : Int32), μ))
    else gd (inb v1 2) (if (gI μ 120 (ix v1)) = 0 then (some ((0 : Int32), μ))
      else if v1 = (0 : Int32) then (bnd (fX4_take_33_108 μ) fun r1 m2 =>
          bnd (fX6_forget_29 m2) fun r3 m4 =>
          some ((1 : Int32), m4))
        else if v1 = (1 : Int32) then (bnd (fX4_take_33_113 μ) fun r5 m6 =>
          bnd (fX6_forget_29 m6) fun r7 m8 =>
          some ((1 : Int32), m8))
        else none)
set_option maxRecDepth 100000 in
set_option maxHeartbeats 4000000 in
theorem mX11_again_0 {E : En} {l : Launch} (hI : Inj E) (v1 : Int32) (μ : Mem) : MtI E l yX11_again cX11_again 2 (some .boolean) 2 [.ref (eAd E 0), .int v1] μ (fX11_again_0 v1 μ) := by
  refine mtI_of (own := RX11) [(0, .ref (eAd E 0)), (1, .int v1)] hI rfl (by decide) (Nat.le_of_ble_eq_true rfl) (Nat.le_of_ble_eq_true rfl) rfl (fun Z hl0 X hr => ?_)
  unfold fX11_again_0
  refine ao_iload_n (pc := 0) X dX11_again_0 rfl ?_
  refine ao_if_lt (pc := 1) (tgt := 18) X dX11_again_1 (by decide) (fun _ => ?_) (fun _ => ?_)
  · refine ao_iconst (pc := 18) X dX11_again_18 ic_0 ?_
    exact ao_zret (pc := 19) X hr rfl dX11_again_19
  · refine ao_iload_n (pc := 4) X dX11_again_4 rfl ?_
    refine ao_iconst (pc := 5) X dX11_again_5 ic_2 ?_
    refine ao_icmp_ge (pc := 6) (tgt := 18) X dX11_again_6 (by decide) (fun _ => ?_) (fun _ => ?_)
    · refine ao_iconst (pc := 18) X dX11_again_18 ic_0 ?_
      exact ao_zret (pc := 19) X hr rfl dX11_again_19
    · refine ao_aload_n (pc := 9) X dX11_again_9 rfl ?_
      refine ao_getR (pc := 10) X dX11_again_10 fl_RX11_92 sf_0_12 ?_
      refine ao_iload_n (pc := 13) X dX11_again_13 rfl ?_
      refine ao_zald (pc := 14) X dX11_again_14 sa_120 ?_
      refine ao_if_ne (pc := 15) (tgt := 20) X dX11_again_15 (by decide) (fun _ => ?_) (fun _ => ?_)
      · refine ao_aload_n (pc := 20) X dX11_again_20 rfl ?_
        refine ao_getR (pc := 21) X dX11_again_21 fl_RX11_65 sf_0_7 ?_
        refine ao_aload_n (pc := 24) X dX11_again_24 rfl ?_
        refine ao_getR (pc := 25) X dX11_again_25 fl_RX11_88 sf_0_11 ?_
        refine ao_iload_n (pc := 28) X dX11_again_28 rfl ?_
        refine ao_ite (cd := v1 = (0 : Int32)) (fun c => ao_aald (n := 0) (pc := 29) (t := 108) (iv := (0 : Int32)) X dX11_again_29 (by decide) sh_32 c (by decide) rfl ?_) (fun _ => ?_)
        · refine ao_callVV (pc := 30) (As := [.ref (eAd E 108)]) (st := []) X hl0 dX11_again_30 yv_X4_take so_33 ml_RX11_297 (mX4_take_33_108 hI μ) (Nat.le_of_ble_eq_true rfl) rfl rfl (Nat.le_of_ble_eq_true rfl) (fun r1 m2 => ?_)
          refine ao_aload_n (pc := 33) X dX11_again_33 rfl ?_
          refine ao_getR (pc := 34) X dX11_again_34 fl_RX11_75 sf_0_9 ?_
          refine ao_callVV (pc := 37) (As := []) (st := []) X hl0 dX11_again_37 yv_X6_forget so_29 ml_RX11_402 (mX6_forget_29 hI m2) (Nat.le_of_ble_eq_true rfl) rfl rfl (Nat.le_of_ble_eq_true rfl) (fun r3 m4 => ?_)
          refine ao_iconst (pc := 40) X dX11_again_40 ic_1 ?_
          exact ao_zret (pc := 41) X hr rfl dX11_again_41
        refine ao_ite (cd := v1 = (1 : Int32)) (fun c => ao_aald (n := 0) (pc := 29) (t := 113) (iv := (1 : Int32)) X dX11_again_29 (by decide) sh_32 c (by decide) rfl ?_) (fun _ => ?_)
        · refine ao_callVV (pc := 30) (As := [.ref (eAd E 113)]) (st := []) X hl0 dX11_again_30 yv_X4_take so_33 ml_RX11_297 (mX4_take_33_113 hI μ) (Nat.le_of_ble_eq_true rfl) rfl rfl (Nat.le_of_ble_eq_true rfl) (fun r5 m6 => ?_)
          refine ao_aload_n (pc := 33) X dX11_again_33 rfl ?_
          refine ao_getR (pc := 34) X dX11_again_34 fl_RX11_75 sf_0_9 ?_
          refine ao_callVV (pc := 37) (As := []) (st := []) X hl0 dX11_again_37 yv_X6_forget so_29 ml_RX11_402 (mX6_forget_29 hI m6) (Nat.le_of_ble_eq_true rfl) rfl rfl (Nat.le_of_ble_eq_true rfl) (fun r7 m8 => ?_)
          refine ao_iconst (pc := 40) X dX11_again_40 ic_1 ?_
          exact ao_zret (pc := 41) X hr rfl dX11_again_41
        exact ao_none
      · refine ao_iconst (pc := 18) X dX11_again_18 ic_0 ?_
        exact ao_zret (pc := 19) X hr rfl dX11_again_19
def fX12_again_122_b40 : Nat → Int32 → Int32 → Mem → Option (Int32 × Mem)
  | 0, _, _, _ => none
  | n + 1, p1, p2, μ =>
  if (27 : Int32) ≤ p2 then (lt (sI μ 122 29 (0 : Int32)) fun m4 =>
    some ((1 : Int32), m4))
  else gd (inb (((27 : Int32) * p1) + p2) 54) (gd (inb p2 27) (lt (sI μ 123 (ix p2) (gI μ 146 (ix (((27 : Int32) * p1) + p2)))) fun m5 =>
    fX12_again_122_b40 n p1 (p2 + (1 : Int32)) m5))
set_option maxRecDepth 100000 in
set_option maxHeartbeats 4000000 in
theorem bX12_again_122_40 {E : En} {l : Launch} {Z : Zt} (hI : Inj E) (hl0 : lZ l Z) (X : Cx E Z cX12_again RX12 3 2) (hr : rtOf Z = some .boolean) : ∀ (n : Nat) (p1 : Int32) (p2 : Int32) (μ : Mem), AO E Z 3 (QI E Z) 40 [(0, .ref (eAd E 122)), (1, .int p1), (2, .int p2)] [] μ (fX12_again_122_b40 n p1 p2 μ) := by
  intro n
  induction n with
  | zero =>
    intros
    exact ao_none
  | succ n ih =>
    intro p1 p2 μ
    rw [fX12_again_122_b40]
    refine ao_iload_n (pc := 40) X dX12_again_40 rfl ?_
    refine ao_bipush (pc := 41) X dX12_again_41 bp_27 ?_
    refine ao_icmp_ge (pc := 43) (tgt := 69) X dX12_again_43 (by decide) (fun _ => ?_) (fun _ => ?_)
    · refine ao_aload_n (pc := 69) X dX12_again_69 rfl ?_
      refine ao_iconst (pc := 70) X dX12_again_70 ic_0 ?_
      refine ao_putI (pc := 71) X dX12_again_71 fp_RX12_175 sf_122_29 ?_
      refine ao_lt (fun m4 => ?_)
      refine ao_iconst (pc := 74) X dX12_again_74 ic_1 ?_
      exact ao_zret (pc := 75) X hr rfl dX12_again_75
    · refine ao_aload_n (pc := 46) X dX12_again_46 rfl ?_
      refine ao_getR (pc := 47) X dX12_again_47 fl_RX12_9 sf_122_0 ?_
      refine ao_iload_n (pc := 50) X dX12_again_50 rfl ?_
      refine ao_aload_n (pc := 51) X dX12_again_51 rfl ?_
      refine ao_getR (pc := 52) X dX12_again_52 fl_RX12_86 sf_122_42 ?_
      refine ao_bipush (pc := 55) X dX12_again_55 bp_27 ?_
      refine ao_iload_n (pc := 57) X dX12_again_57 rfl ?_
      refine ao_imul (pc := 58) X dX12_again_58 ?_
      refine ao_iload_n (pc := 59) X dX12_again_59 rfl ?_
      refine ao_iadd (pc := 60) X dX12_again_60 ?_
      refine ao_iald (pc := 61) X dX12_again_61 sa_146 ?_
      refine ao_iast (pc := 62) X dX12_again_62 sa_123 ?_
      refine ao_lt (fun m5 => ?_)
      refine ao_iinc (pc := 63) (k := 2) (v := p2 + (1 : Int32)) (lv' := [(2, .int (p2 + (1 : Int32))), (0, .ref (eAd E 122)), (1, .int p1)]) X dX12_again_63 rfl (ii_ic ic_1) (by decide) rfl ?_
      refine ao_goto (pc := 66) (tgt := 40) X dX12_again_66 (by decide) ?_
      refine ao_sub [1, 2, 0] rfl ?_
      exact ih p1 (p2 + (1 : Int32)) m5
def fX12_again_122 (v1 : Int32) (μ : Mem) : Option (Int32 × Mem) :=
  lt (sI μ 122 17 (0 : Int32)) fun m1 =>
  bnd (fX12_in v1 (0 : Int32) (1 : Int32) m1) fun r2 m3 =>
  if r2 = 0 then (some ((0 : Int32), m3))
  else gd (inb v1 2) (if (gI m3 147 (ix v1)) = 0 then (some ((0 : Int32), m3))
    else gd (inb v1 2) (if (gI m3 148 (ix v1)) = (gI m3 122 41) then (fX12_again_122_b40 FU v1 (0 : Int32) m3)
      else some ((0 : Int32), m3)))
set_option maxRecDepth 100000 in
set_option maxHeartbeats 4000000 in
theorem mX12_again_122 {E : En} {l : Launch} (hI : Inj E) (v1 : Int32) (μ : Mem) : MtI E l yX12_again cX12_again 3 (some .boolean) 2 [.ref (eAd E 122), .int v1] μ (fX12_again_122 v1 μ) := by
  refine mtI_of (own := RX12) [(0, .ref (eAd E 122)), (1, .int v1)] hI rfl (by decide) (Nat.le_of_ble_eq_true rfl) (Nat.le_of_ble_eq_true rfl) rfl (fun Z hl0 X hr => ?_)
  unfold fX12_again_122
  refine ao_aload_n (pc := 0) X dX12_again_0 rfl ?_
  refine ao_iconst (pc := 1) X dX12_again_1 ic_0 ?_
  refine ao_putI (pc := 2) X dX12_again_2 fp_RX12_95 sf_122_17 ?_
  refine ao_lt (fun m1 => ?_)
  refine ao_iload_n (pc := 5) X dX12_again_5 rfl ?_
  refine ao_iconst (pc := 6) X dX12_again_6 ic_0 ?_
  refine ao_iconst (pc := 7) X dX12_again_7 ic_1 ?_
  refine ao_callSI (pc := 8) (As := [.int v1, .int (0 : Int32), .int (1 : Int32)]) (st := []) X hl0 dX12_again_8 yv_X12_in ml_RX12_104 (mX12_in hI v1 (0 : Int32) (1 : Int32) m1) (Nat.le_of_ble_eq_true rfl) rfl rfl (Nat.le_of_ble_eq_true rfl) (fun r2 m3 => ?_)
  refine ao_if_eq (pc := 11) (tgt := 36) X dX12_again_11 (by decide) (fun _ => ?_) (fun _ => ?_)
  · refine ao_iconst (pc := 36) X dX12_again_36 ic_0 ?_
    exact ao_zret (pc := 37) X hr rfl dX12_again_37
  · refine ao_aload_n (pc := 14) X dX12_again_14 rfl ?_
    refine ao_getR (pc := 15) X dX12_again_15 fl_RX12_89 sf_122_43 ?_
    refine ao_iload_n (pc := 18) X dX12_again_18 rfl ?_
    refine ao_zald (pc := 19) X dX12_again_19 sa_147 ?_
    refine ao_if_eq (pc := 20) (tgt := 36) X dX12_again_20 (by decide) (fun _ => ?_) (fun _ => ?_)
    · refine ao_iconst (pc := 36) X dX12_again_36 ic_0 ?_
      exact ao_zret (pc := 37) X hr rfl dX12_again_37
    · refine ao_aload_n (pc := 23) X dX12_again_23 rfl ?_
      refine ao_getR (pc := 24) X dX12_again_24 fl_RX12_92 sf_122_44 ?_
      refine ao_iload_n (pc := 27) X dX12_again_27 rfl ?_
      refine ao_iald (pc := 28) X dX12_again_28 sa_148 ?_
      refine ao_aload_n (pc := 29) X dX12_again_29 rfl ?_
      refine ao_getI (pc := 30) X dX12_again_30 fl_RX12_178 sf_122_41 ?_
      refine ao_icmp_eq (pc := 33) (tgt := 38) X dX12_again_33 (by decide) (fun _ => ?_) (fun _ => ?_)
      · refine ao_iconst (pc := 38) X dX12_again_38 ic_0 ?_
        refine ao_istore_n (pc := 39) (lv' := [(2, .int (0 : Int32)), (0, .ref (eAd E 122)), (1, .int v1)]) X dX12_again_39 rfl (by decide) rfl ?_
        refine ao_sub [1, 2, 0] rfl ?_
        exact bX12_again_122_40 hI hl0 X hr FU v1 (0 : Int32) m3
      · refine ao_iconst (pc := 36) X dX12_again_36 ic_0 ?_
        exact ao_zret (pc := 37) X hr rfl dX12_again_37
def fX11_count_0 (v1 : Int32) (μ : Mem) : Option (Int32 × Mem) :=
  if v1 = (0 : Int32) then (some ((gI μ 5 5), μ))
  else if v1 = (1 : Int32) then (some ((gI μ 11 3), μ))
  else if v1 = (2 : Int32) then (some ((gI μ 33 4), μ))
  else if v1 = (3 : Int32) then (some ((gI μ 0 14), μ))
  else if v1 = (4 : Int32) then (bnd (fX4_thoseWho_33 (0 : Int32) μ) fun r6 m7 =>
    some (r6, m7))
  else if v1 = (5 : Int32) then (bnd (fX4_thoseWho_33 (1 : Int32) μ) fun r9 m10 =>
    some (r9, m10))
  else if v1 = (6 : Int32) then (bnd (fX4_thoseWho_33 (2 : Int32) μ) fun r12 m13 =>
    some (r12, m13))
  else if v1 = (7 : Int32) then (bnd (fX4_thoseWho_33 (3 : Int32) μ) fun r15 m16 =>
    some (r15, m16))
  else if v1 = (8 : Int32) then (bnd (fX4_thoseWho_33 (4 : Int32) μ) fun r18 m19 =>
    some (r18, m19))
  else if v1 = (9 : Int32) then (bnd (fX4_thoseWho_33 (5 : Int32) μ) fun r21 m22 =>
    some (r21, m22))
  else if v1 = (10 : Int32) then (bnd (fX3_allGoods_5 μ) fun r24 m25 =>
    some (r24, m25))
  else if v1 = (11 : Int32) then (some ((gI μ 29 2), μ))
  else if v1 = (12 : Int32) then (some ((gI μ 3 1), μ))
  else if v1 = (13 : Int32) then (some ((gI μ 1 1), μ))
  else some ((-1 : Int32), μ)
set_option maxRecDepth 100000 in
set_option maxHeartbeats 4000000 in
theorem mX11_count_0 {E : En} {l : Launch} (hI : Inj E) (v1 : Int32) (μ : Mem) : MtI E l yX11_count cX11_count 2 (some .int) 2 [.ref (eAd E 0), .int v1] μ (fX11_count_0 v1 μ) := by
  refine mtI_of (own := RX11) [(0, .ref (eAd E 0)), (1, .int v1)] hI rfl (by decide) (Nat.le_of_ble_eq_true rfl) (Nat.le_of_ble_eq_true rfl) rfl (fun Z hl0 X hr => ?_)
  unfold fX11_count_0
  refine ao_iload_n (pc := 0) X dX11_count_0 rfl ?_
  refine ao_ite (cd := v1 = (0 : Int32)) (fun c => ao_tabIn (pc := 1) (k := (0 : Int32)) (tgt := 72) X dX11_count_1 c (by decide) (by decide) rfl (by decide) ?_) (fun n1 => ?_)
  · refine ao_aload_n (pc := 72) X dX11_count_72 rfl ?_
    refine ao_getR (pc := 73) X dX11_count_73 fl_RX11_26 sf_0_2 ?_
    refine ao_getI (pc := 76) X dX11_count_76 fl_RX11_119 sf_5_5 ?_
    exact ao_iret (pc := 79) X hr dX11_count_79
  refine ao_ite (cd := v1 = (1 : Int32)) (fun c => ao_tabIn (pc := 1) (k := (1 : Int32)) (tgt := 80) X dX11_count_1 c (by decide) (by decide) rfl (by decide) ?_) (fun n2 => ?_)
  · refine ao_aload_n (pc := 80) X dX11_count_80 rfl ?_
    refine ao_getR (pc := 81) X dX11_count_81 fl_RX11_35 sf_0_3 ?_
    refine ao_getI (pc := 84) X dX11_count_84 fl_RX11_134 sf_11_3 ?_
    exact ao_iret (pc := 87) X hr dX11_count_87
  refine ao_ite (cd := v1 = (2 : Int32)) (fun c => ao_tabIn (pc := 1) (k := (2 : Int32)) (tgt := 88) X dX11_count_1 c (by decide) (by decide) rfl (by decide) ?_) (fun n3 => ?_)
  · refine ao_aload_n (pc := 88) X dX11_count_88 rfl ?_
    refine ao_getR (pc := 89) X dX11_count_89 fl_RX11_65 sf_0_7 ?_
    refine ao_getI (pc := 92) X dX11_count_92 fl_RX11_206 sf_33_4 ?_
    exact ao_iret (pc := 95) X hr dX11_count_95
  refine ao_ite (cd := v1 = (3 : Int32)) (fun c => ao_tabIn (pc := 1) (k := (3 : Int32)) (tgt := 96) X dX11_count_1 c (by decide) (by decide) rfl (by decide) ?_) (fun n4 => ?_)
  · refine ao_aload_n (pc := 96) X dX11_count_96 rfl ?_
    refine ao_getI (pc := 97) X dX11_count_97 fl_RX11_100 sf_0_14 ?_
    exact ao_iret (pc := 100) X hr dX11_count_100
  refine ao_ite (cd := v1 = (4 : Int32)) (fun c => ao_tabIn (pc := 1) (k := (4 : Int32)) (tgt := 101) X dX11_count_1 c (by decide) (by decide) rfl (by decide) ?_) (fun n5 => ?_)
  · refine ao_aload_n (pc := 101) X dX11_count_101 rfl ?_
    refine ao_getR (pc := 102) X dX11_count_102 fl_RX11_65 sf_0_7 ?_
    refine ao_iconst (pc := 105) X dX11_count_105 ic_0 ?_
    refine ao_callVI (pc := 106) (As := [.int (0 : Int32)]) (st := []) X hl0 dX11_count_106 yv_X4_thoseWho so_33 ml_RX11_300 (mX4_thoseWho_33 hI (0 : Int32) μ) (Nat.le_of_ble_eq_true rfl) rfl rfl (Nat.le_of_ble_eq_true rfl) (fun r6 m7 => ?_)
    exact ao_iret (pc := 109) X hr dX11_count_109
  refine ao_ite (cd := v1 = (5 : Int32)) (fun c => ao_tabIn (pc := 1) (k := (5 : Int32)) (tgt := 110) X dX11_count_1 c (by decide) (by decide) rfl (by decide) ?_) (fun n8 => ?_)
  · refine ao_aload_n (pc := 110) X dX11_count_110 rfl ?_
    refine ao_getR (pc := 111) X dX11_count_111 fl_RX11_65 sf_0_7 ?_
    refine ao_iconst (pc := 114) X dX11_count_114 ic_1 ?_
    refine ao_callVI (pc := 115) (As := [.int (1 : Int32)]) (st := []) X hl0 dX11_count_115 yv_X4_thoseWho so_33 ml_RX11_300 (mX4_thoseWho_33 hI (1 : Int32) μ) (Nat.le_of_ble_eq_true rfl) rfl rfl (Nat.le_of_ble_eq_true rfl) (fun r9 m10 => ?_)
    exact ao_iret (pc := 118) X hr dX11_count_118
  refine ao_ite (cd := v1 = (6 : Int32)) (fun c => ao_tabIn (pc := 1) (k := (6 : Int32)) (tgt := 119) X dX11_count_1 c (by decide) (by decide) rfl (by decide) ?_) (fun n11 => ?_)
  · refine ao_aload_n (pc := 119) X dX11_count_119 rfl ?_
    refine ao_getR (pc := 120) X dX11_count_120 fl_RX11_65 sf_0_7 ?_
    refine ao_iconst (pc := 123) X dX11_count_123 ic_2 ?_
    refine ao_callVI (pc := 124) (As := [.int (2 : Int32)]) (st := []) X hl0 dX11_count_124 yv_X4_thoseWho so_33 ml_RX11_300 (mX4_thoseWho_33 hI (2 : Int32) μ) (Nat.le_of_ble_eq_true rfl) rfl rfl (Nat.le_of_ble_eq_true rfl) (fun r12 m13 => ?_)
    exact ao_iret (pc := 127) X hr dX11_count_127
  refine ao_ite (cd := v1 = (7 : Int32)) (fun c => ao_tabIn (pc := 1) (k := (7 : Int32)) (tgt := 128) X dX11_count_1 c (by decide) (by decide) rfl (by decide) ?_) (fun n14 => ?_)
  · refine ao_aload_n (pc := 128) X dX11_count_128 rfl ?_
    refine ao_getR (pc := 129) X dX11_count_129 fl_RX11_65 sf_0_7 ?_
    refine ao_iconst (pc := 132) X dX11_count_132 ic_3 ?_
    refine ao_callVI (pc := 133) (As := [.int (3 : Int32)]) (st := []) X hl0 dX11_count_133 yv_X4_thoseWho so_33 ml_RX11_300 (mX4_thoseWho_33 hI (3 : Int32) μ) (Nat.le_of_ble_eq_true rfl) rfl rfl (Nat.le_of_ble_eq_true rfl) (fun r15 m16 => ?_)
    exact ao_iret (pc := 136) X hr dX11_count_136
  refine ao_ite (cd := v1 = (8 : Int32)) (fun c => ao_tabIn (pc := 1) (k := (8 : Int32)) (tgt := 137) X dX11_count_1 c (by decide) (by decide) rfl (by decide) ?_) (fun n17 => ?_)
  · refine ao_aload_n (pc := 137) X dX11_count_137 rfl ?_
    refine ao_getR (pc := 138) X dX11_count_138 fl_RX11_65 sf_0_7 ?_
    refine ao_iconst (pc := 141) X dX11_count_141 ic_4 ?_
    refine ao_callVI (pc := 142) (As := [.int (4 : Int32)]) (st := []) X hl0 dX11_count_142 yv_X4_thoseWho so_33 ml_RX11_300 (mX4_thoseWho_33 hI (4 : Int32) μ) (Nat.le_of_ble_eq_true rfl) rfl rfl (Nat.le_of_ble_eq_true rfl) (fun r18 m19 => ?_)
    exact ao_iret (pc := 145) X hr dX11_count_145
  refine ao_ite (cd := v1 = (9 : Int32)) (fun c => ao_tabIn (pc := 1) (k := (9 : Int32)) (tgt := 146) X dX11_count_1 c (by decide) (by decide) rfl (by decide) ?_) (fun n20 => ?_)
  · refine ao_aload_n (pc := 146) X dX11_count_146 rfl ?_
    refine ao_getR (pc := 147) X dX11_count_147 fl_RX11_65 sf_0_7 ?_
    refine ao_iconst (pc := 150) X dX11_count_150 ic_5 ?_
    refine ao_callVI (pc := 151) (As := [.int (5 : Int32)]) (st := []) X hl0 dX11_count_151 yv_X4_thoseWho so_33 ml_RX11_300 (mX4_thoseWho_33 hI (5 : Int32) μ) (Nat.le_of_ble_eq_true rfl) rfl rfl (Nat.le_of_ble_eq_true rfl) (fun r21 m22 => ?_)
    exact ao_iret (pc := 154) X hr dX11_count_154
  refine ao_ite (cd := v1 = (10 : Int32)) (fun c => ao_tabIn (pc := 1) (k := (10 : Int32)) (tgt := 155) X dX11_count_1 c (by decide) (by decide) rfl (by decide) ?_) (fun n23 => ?_)
  · refine ao_aload_n (pc := 155) X dX11_count_155 rfl ?_
    refine ao_getR (pc := 156) X dX11_count_156 fl_RX11_26 sf_0_2 ?_
    refine ao_callVI (pc := 159) (As := []) (st := []) X hl0 dX11_count_159 yv_X3_allGoods so_5 ml_RX11_405 (mX3_allGoods_5 hI μ) (Nat.le_of_ble_eq_true rfl) rfl rfl (Nat.le_of_ble_eq_true rfl) (fun r24 m25 => ?_)
    exact ao_iret (pc := 162) X hr dX11_count_162
  refine ao_ite (cd := v1 = (11 : Int32)) (fun c => ao_tabIn (pc := 1) (k := (11 : Int32)) (tgt := 163) X dX11_count_1 c (by decide) (by decide) rfl (by decide) ?_) (fun n26 => ?_)
  · refine ao_aload_n (pc := 163) X dX11_count_163 rfl ?_
    refine ao_getR (pc := 164) X dX11_count_164 fl_RX11_75 sf_0_9 ?_
    refine ao_getI (pc := 167) X dX11_count_167 fl_RX11_256 sf_29_2 ?_
    exact ao_iret (pc := 170) X hr dX11_count_170
  refine ao_ite (cd := v1 = (12 : Int32)) (fun c => ao_tabIn (pc := 1) (k := (12 : Int32)) (tgt := 171) X dX11_count_1 c (by decide) (by decide) rfl (by decide) ?_) (fun n27 => ?_)
  · refine ao_aload_n (pc := 171) X dX11_count_171 rfl ?_
    refine ao_getR (pc := 172) X dX11_count_172 fl_RX11_19 sf_0_1 ?_
    refine ao_getI (pc := 175) X dX11_count_175 fl_RX11_408 sf_3_1 ?_
    exact ao_iret (pc := 178) X hr dX11_count_178
  refine ao_ite (cd := v1 = (13 : Int32)) (fun c => ao_tabIn (pc := 1) (k := (13 : Int32)) (tgt := 179) X dX11_count_1 c (by decide) (by decide) rfl (by decide) ?_) (fun n28 => ?_)
  · refine ao_aload_n (pc := 179) X dX11_count_179 rfl ?_
    refine ao_getR (pc := 180) X dX11_count_180 fl_RX11_10 sf_0_0 ?_
    refine ao_getI (pc := 183) X dX11_count_183 fl_RX11_409 sf_1_1 ?_
    exact ao_iret (pc := 186) X hr dX11_count_186
  refine ao_tabOut (pc := 1) (tgt := 187) X dX11_count_1 (by have := lv_neT (a := 0) n1 (by decide); have := lv_neT (a := 1) n2 (by decide); have := lv_neT (a := 2) n3 (by decide); have := lv_neT (a := 3) n4 (by decide); have := lv_neT (a := 4) n5 (by decide); have := lv_neT (a := 5) n8 (by decide); have := lv_neT (a := 6) n11 (by decide); have := lv_neT (a := 7) n14 (by decide); have := lv_neT (a := 8) n17 (by decide); have := lv_neT (a := 9) n20 (by decide); have := lv_neT (a := 10) n23 (by decide); have := lv_neT (a := 11) n26 (by decide); have := lv_neT (a := 12) n27 (by decide); have := lv_neT (a := 13) n28 (by decide); omega) (by decide) ?_
  refine ao_iconst (pc := 187) X dX11_count_187 ic_m1 ?_
  exact ao_iret (pc := 188) X hr dX11_count_188
