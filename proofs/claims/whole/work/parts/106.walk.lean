def fX12_isLessRow_122_b48 (k2 : Int32 → Int32 → Int32 → Mem → Option (Int32 × Mem)) (p1 : Int32) (p2 : Int32) (p3 : Int32) (p4 : Int32) (q0 : Int32) (μ : Mem) : Option (Int32 × Mem) :=
  if p4 = q0 then (k2 p1 p2 (p3 + (1 : Int32)) μ)
  else if q0 ≤ p4 then (some ((0 : Int32), μ))
    else some ((1 : Int32), μ)
set_option maxRecDepth 100000 in
set_option maxHeartbeats 4000000 in
theorem bX12_isLessRow_122_48 {E : En} {l : Launch} {Z : Zt} (hI : Inj E) (hl0 : lZ l Z) (X : Cx E Z cX12_isLessRow RX12 6 2) (hr : rtOf Z = some .boolean) {k2 : Int32 → Int32 → Int32 → Mem → Option (Int32 × Mem)} (hk2 : ∀ (p1 : Int32) (p2 : Int32) (p3 : Int32) (m : Mem), AO E Z 6 (QI E Z) 2 [(0, .ref (eAd E 122)), (1, .int p1), (2, .int p2), (3, .int p3)] [] m (k2 p1 p2 p3 m)) (p1 : Int32) (p2 : Int32) (p3 : Int32) (p4 : Int32) (q0 : Int32) (μ : Mem) : AO E Z 6 (QI E Z) 48 [(0, .ref (eAd E 122)), (1, .int p1), (2, .int p2), (3, .int p3), (4, .int p4)] [.int q0] μ (fX12_isLessRow_122_b48 k2 p1 p2 p3 p4 q0 μ) := by
  unfold fX12_isLessRow_122_b48
  refine ao_istore (pc := 48) (lv' := [(5, .int q0), (0, .ref (eAd E 122)), (1, .int p1), (2, .int p2), (3, .int p3), (4, .int p4)]) X dX12_isLessRow_48 (by decide) rfl ?_
  refine ao_iload (pc := 50) X dX12_isLessRow_50 rfl ?_
  refine ao_iload (pc := 52) X dX12_isLessRow_52 rfl ?_
  refine ao_icmp_eq (pc := 54) (tgt := 70) X dX12_isLessRow_54 (by decide) (fun _ => ?_) (fun _ => ?_)
  · refine ao_iinc (pc := 70) (k := 4) (v := p3 + (1 : Int32)) (lv' := [(3, .int (p3 + (1 : Int32))), (5, .int q0), (0, .ref (eAd E 122)), (1, .int p1), (2, .int p2), (4, .int p4)]) X dX12_isLessRow_70 rfl (ii_ic ic_1) (by decide) rfl ?_
    refine ao_goto (pc := 73) (tgt := 2) X dX12_isLessRow_73 (by decide) ?_
    refine ao_sub [2, 3, 4, 0] rfl ?_
    exact hk2 p1 p2 (p3 + (1 : Int32)) μ
  · refine ao_iload (pc := 57) X dX12_isLessRow_57 rfl ?_
    refine ao_iload (pc := 59) X dX12_isLessRow_59 rfl ?_
    refine ao_icmp_ge (pc := 61) (tgt := 68) X dX12_isLessRow_61 (by decide) (fun _ => ?_) (fun _ => ?_)
    · refine ao_iconst (pc := 68) X dX12_isLessRow_68 ic_0 ?_
      exact ao_zret (pc := 69) X hr rfl dX12_isLessRow_69
    · refine ao_iconst (pc := 64) X dX12_isLessRow_64 ic_1 ?_
      refine ao_goto (pc := 65) (tgt := 69) X dX12_isLessRow_65 (by decide) ?_
      exact ao_zret (pc := 69) X hr rfl dX12_isLessRow_69
def fX12_isLessRow_122_b28 (k2 : Int32 → Int32 → Int32 → Mem → Option (Int32 × Mem)) (p1 : Int32) (p2 : Int32) (p3 : Int32) (q0 : Int32) (μ : Mem) : Option (Int32 × Mem) :=
  bnd (fX12_has p2 p3 μ) fun r3 m4 =>
  if r3 = 0 then (fX12_isLessRow_122_b48 k2 p1 p2 p3 q0 (0 : Int32) m4)
  else gd (inb p3 6) (fX12_isLessRow_122_b48 k2 p1 p2 p3 q0 (gI m4 142 (ix p3)) m4)
set_option maxRecDepth 100000 in
set_option maxHeartbeats 4000000 in
theorem bX12_isLessRow_122_28 {E : En} {l : Launch} {Z : Zt} (hI : Inj E) (hl0 : lZ l Z) (X : Cx E Z cX12_isLessRow RX12 6 2) (hr : rtOf Z = some .boolean) {k2 : Int32 → Int32 → Int32 → Mem → Option (Int32 × Mem)} (hk2 : ∀ (p1 : Int32) (p2 : Int32) (p3 : Int32) (m : Mem), AO E Z 6 (QI E Z) 2 [(0, .ref (eAd E 122)), (1, .int p1), (2, .int p2), (3, .int p3)] [] m (k2 p1 p2 p3 m)) (p1 : Int32) (p2 : Int32) (p3 : Int32) (q0 : Int32) (μ : Mem) : AO E Z 6 (QI E Z) 28 [(0, .ref (eAd E 122)), (1, .int p1), (2, .int p2), (3, .int p3)] [.int q0] μ (fX12_isLessRow_122_b28 k2 p1 p2 p3 q0 μ) := by
  unfold fX12_isLessRow_122_b28
  refine ao_istore (pc := 28) (lv' := [(4, .int q0), (0, .ref (eAd E 122)), (1, .int p1), (2, .int p2), (3, .int p3)]) X dX12_isLessRow_28 (by decide) rfl ?_
  refine ao_iload_n (pc := 30) X dX12_isLessRow_30 rfl ?_
  refine ao_iload_n (pc := 31) X dX12_isLessRow_31 rfl ?_
  refine ao_callSI (pc := 32) (As := [.int p2, .int p3]) (st := []) X hl0 dX12_isLessRow_32 yv_X12_has ml_RX12_158 (mX12_has hI p2 p3 μ) (Nat.le_of_ble_eq_true rfl) rfl rfl (Nat.le_of_ble_eq_true rfl) (fun r3 m4 => ?_)
  refine ao_if_eq (pc := 35) (tgt := 47) X dX12_isLessRow_35 (by decide) (fun _ => ?_) (fun _ => ?_)
  · refine ao_iconst (pc := 47) X dX12_isLessRow_47 ic_0 ?_
    refine ao_sub [1, 2, 3, 4, 0] rfl ?_
    exact bX12_isLessRow_122_48 hI hl0 X hr hk2 p1 p2 p3 q0 (0 : Int32) m4
  · refine ao_aload_n (pc := 38) X dX12_isLessRow_38 rfl ?_
    refine ao_getR (pc := 39) X dX12_isLessRow_39 fl_RX12_74 sf_122_34 ?_
    refine ao_iload_n (pc := 42) X dX12_isLessRow_42 rfl ?_
    refine ao_iald (pc := 43) X dX12_isLessRow_43 sa_142 ?_
    refine ao_goto (pc := 44) (tgt := 48) X dX12_isLessRow_44 (by decide) ?_
    refine ao_sub [1, 2, 3, 4, 0] rfl ?_
    exact bX12_isLessRow_122_48 hI hl0 X hr hk2 p1 p2 p3 q0 (gI m4 142 (ix p3)) m4
def fX12_isLessRow_122_b2 : Nat → Int32 → Int32 → Int32 → Mem → Option (Int32 × Mem)
  | 0, _, _, _, _ => none
  | n + 1, p1, p2, p3, μ =>
  if (gI μ 122 1) ≤ p3 then (some ((0 : Int32), μ))
  else bnd (fX12_has p1 p3 μ) fun r1 m2 =>
    if r1 = 0 then (fX12_isLessRow_122_b28 (fun p1 p2 p3 m => fX12_isLessRow_122_b2 n p1 p2 p3 m) p1 p2 p3 (0 : Int32) m2)
    else gd (inb p3 6) (fX12_isLessRow_122_b28 (fun p1 p2 p3 m => fX12_isLessRow_122_b2 n p1 p2 p3 m) p1 p2 p3 (gI m2 142 (ix p3)) m2)
set_option maxRecDepth 100000 in
set_option maxHeartbeats 4000000 in
theorem bX12_isLessRow_122_2 {E : En} {l : Launch} {Z : Zt} (hI : Inj E) (hl0 : lZ l Z) (X : Cx E Z cX12_isLessRow RX12 6 2) (hr : rtOf Z = some .boolean) : ∀ (n : Nat) (p1 : Int32) (p2 : Int32) (p3 : Int32) (μ : Mem), AO E Z 6 (QI E Z) 2 [(0, .ref (eAd E 122)), (1, .int p1), (2, .int p2), (3, .int p3)] [] μ (fX12_isLessRow_122_b2 n p1 p2 p3 μ) := by
  intro n
  induction n with
  | zero =>
    intros
    exact ao_none
  | succ n ih =>
    intro p1 p2 p3 μ
    rw [fX12_isLessRow_122_b2]
    refine ao_iload_n (pc := 2) X dX12_isLessRow_2 rfl ?_
    refine ao_aload_n (pc := 3) X dX12_isLessRow_3 rfl ?_
    refine ao_getI (pc := 4) X dX12_isLessRow_4 fl_RX12_101 sf_122_1 ?_
    refine ao_icmp_ge (pc := 7) (tgt := 76) X dX12_isLessRow_7 (by decide) (fun _ => ?_) (fun _ => ?_)
    · refine ao_iconst (pc := 76) X dX12_isLessRow_76 ic_0 ?_
      exact ao_zret (pc := 77) X hr rfl dX12_isLessRow_77
    · refine ao_iload_n (pc := 10) X dX12_isLessRow_10 rfl ?_
      refine ao_iload_n (pc := 11) X dX12_isLessRow_11 rfl ?_
      refine ao_callSI (pc := 12) (As := [.int p1, .int p3]) (st := []) X hl0 dX12_isLessRow_12 yv_X12_has ml_RX12_158 (mX12_has hI p1 p3 μ) (Nat.le_of_ble_eq_true rfl) rfl rfl (Nat.le_of_ble_eq_true rfl) (fun r1 m2 => ?_)
      refine ao_if_eq (pc := 15) (tgt := 27) X dX12_isLessRow_15 (by decide) (fun _ => ?_) (fun _ => ?_)
      · refine ao_iconst (pc := 27) X dX12_isLessRow_27 ic_0 ?_
        refine ao_sub [0, 1, 2, 3] rfl ?_
        exact bX12_isLessRow_122_28 hI hl0 X hr ih p1 p2 p3 (0 : Int32) m2
      · refine ao_aload_n (pc := 18) X dX12_isLessRow_18 rfl ?_
        refine ao_getR (pc := 19) X dX12_isLessRow_19 fl_RX12_74 sf_122_34 ?_
        refine ao_iload_n (pc := 22) X dX12_isLessRow_22 rfl ?_
        refine ao_iald (pc := 23) X dX12_isLessRow_23 sa_142 ?_
        refine ao_goto (pc := 24) (tgt := 28) X dX12_isLessRow_24 (by decide) ?_
        refine ao_sub [0, 1, 2, 3] rfl ?_
        exact bX12_isLessRow_122_28 hI hl0 X hr ih p1 p2 p3 (gI m2 142 (ix p3)) m2
def fX12_isLessRow_122 (v1 : Int32) (v2 : Int32) (μ : Mem) : Option (Int32 × Mem) :=
  fX12_isLessRow_122_b2 FU v1 v2 (0 : Int32) μ
set_option maxRecDepth 100000 in
set_option maxHeartbeats 4000000 in
theorem mX12_isLessRow_122 {E : En} {l : Launch} (hI : Inj E) (v1 : Int32) (v2 : Int32) (μ : Mem) : MtI E l yX12_isLessRow cX12_isLessRow 6 (some .boolean) 2 [.ref (eAd E 122), .int v1, .int v2] μ (fX12_isLessRow_122 v1 v2 μ) := by
  refine mtI_of (own := RX12) [(0, .ref (eAd E 122)), (1, .int v1), (2, .int v2)] hI rfl (by decide) (Nat.le_of_ble_eq_true rfl) (Nat.le_of_ble_eq_true rfl) rfl (fun Z hl0 X hr => ?_)
  unfold fX12_isLessRow_122
  refine ao_iconst (pc := 0) X dX12_isLessRow_0 ic_0 ?_
  refine ao_istore_n (pc := 1) (lv' := [(3, .int (0 : Int32)), (0, .ref (eAd E 122)), (1, .int v1), (2, .int v2)]) X dX12_isLessRow_1 rfl (by decide) rfl ?_
  refine ao_sub [1, 2, 3, 0] rfl ?_
  exact bX12_isLessRow_122_2 hI hl0 X hr FU v1 v2 (0 : Int32) μ
def fX12_stonesOf_122_b4 : Nat → Int32 → Int32 → Int32 → Mem → Option (Int32 × Mem)
  | 0, _, _, _, _ => none
  | n + 1, p1, p2, p3, μ =>
  if (gI μ 122 1) ≤ p3 then (some (p2, μ))
  else bnd (fX12_has p1 p3 μ) fun r1 m2 =>
    if r1 = 0 then (lt (p2 + (0 : Int32)) fun x3 =>
      fX12_stonesOf_122_b4 n p1 x3 (p3 + (1 : Int32)) m2)
    else gd (inb p3 6) (lt (p2 + (gI m2 142 (ix p3))) fun x5 =>
      fX12_stonesOf_122_b4 n p1 x5 (p3 + (1 : Int32)) m2)
set_option maxRecDepth 100000 in
set_option maxHeartbeats 4000000 in
theorem bX12_stonesOf_122_4 {E : En} {l : Launch} {Z : Zt} (hI : Inj E) (hl0 : lZ l Z) (X : Cx E Z cX12_stonesOf RX12 4 2) (hr : rtOf Z = some .int) : ∀ (n : Nat) (p1 : Int32) (p2 : Int32) (p3 : Int32) (μ : Mem), AO E Z 4 (QI E Z) 4 [(0, .ref (eAd E 122)), (1, .int p1), (2, .int p2), (3, .int p3)] [] μ (fX12_stonesOf_122_b4 n p1 p2 p3 μ) := by
  intro n
  induction n with
  | zero =>
    intros
    exact ao_none
  | succ n ih =>
    intro p1 p2 p3 μ
    rw [fX12_stonesOf_122_b4]
    refine ao_iload_n (pc := 4) X dX12_stonesOf_4 rfl ?_
    refine ao_aload_n (pc := 5) X dX12_stonesOf_5 rfl ?_
    refine ao_getI (pc := 6) X dX12_stonesOf_6 fl_RX12_101 sf_122_1 ?_
    refine ao_icmp_ge (pc := 9) (tgt := 39) X dX12_stonesOf_9 (by decide) (fun _ => ?_) (fun _ => ?_)
    · refine ao_iload_n (pc := 39) X dX12_stonesOf_39 rfl ?_
      exact ao_iret (pc := 40) X hr dX12_stonesOf_40
    · refine ao_iload_n (pc := 12) X dX12_stonesOf_12 rfl ?_
      refine ao_iload_n (pc := 13) X dX12_stonesOf_13 rfl ?_
      refine ao_iload_n (pc := 14) X dX12_stonesOf_14 rfl ?_
      refine ao_callSI (pc := 15) (As := [.int p1, .int p3]) (st := [.int p2]) X hl0 dX12_stonesOf_15 yv_X12_has ml_RX12_158 (mX12_has hI p1 p3 μ) (Nat.le_of_ble_eq_true rfl) rfl rfl (Nat.le_of_ble_eq_true rfl) (fun r1 m2 => ?_)
      refine ao_if_eq (pc := 18) (tgt := 30) X dX12_stonesOf_18 (by decide) (fun _ => ?_) (fun _ => ?_)
      · refine ao_iconst (pc := 30) X dX12_stonesOf_30 ic_0 ?_
        refine ao_iadd (pc := 31) X dX12_stonesOf_31 ?_
        refine ao_ltI (fun x3 => ?_)
        refine ao_istore_n (pc := 32) (lv' := [(2, .int x3), (0, .ref (eAd E 122)), (1, .int p1), (3, .int p3)]) X dX12_stonesOf_32 rfl (by decide) rfl ?_
        refine ao_iinc (pc := 33) (k := 3) (v := p3 + (1 : Int32)) (lv' := [(3, .int (p3 + (1 : Int32))), (2, .int x3), (0, .ref (eAd E 122)), (1, .int p1)]) X dX12_stonesOf_33 rfl (ii_ic ic_1) (by decide) rfl ?_
        refine ao_goto (pc := 36) (tgt := 4) X dX12_stonesOf_36 (by decide) ?_
        refine ao_sub [2, 3, 1, 0] rfl ?_
        exact ih p1 x3 (p3 + (1 : Int32)) m2
      · refine ao_aload_n (pc := 21) X dX12_stonesOf_21 rfl ?_
        refine ao_getR (pc := 22) X dX12_stonesOf_22 fl_RX12_74 sf_122_34 ?_
        refine ao_iload_n (pc := 25) X dX12_stonesOf_25 rfl ?_
        refine ao_iald (pc := 26) X dX12_stonesOf_26 sa_142 ?_
        refine ao_goto (pc := 27) (tgt := 31) X dX12_stonesOf_27 (by decide) ?_
        refine ao_iadd (pc := 31) X dX12_stonesOf_31 ?_
        refine ao_ltI (fun x5 => ?_)
        refine ao_istore_n (pc := 32) (lv' := [(2, .int x5), (0, .ref (eAd E 122)), (1, .int p1), (3, .int p3)]) X dX12_stonesOf_32 rfl (by decide) rfl ?_
        refine ao_iinc (pc := 33) (k := 3) (v := p3 + (1 : Int32)) (lv' := [(3, .int (p3 + (1 : Int32))), (2, .int x5), (0, .ref (eAd E 122)), (1, .int p1)]) X dX12_stonesOf_33 rfl (ii_ic ic_1) (by decide) rfl ?_
        refine ao_goto (pc := 36) (tgt := 4) X dX12_stonesOf_36 (by decide) ?_
        refine ao_sub [2, 3, 1, 0] rfl ?_
        exact ih p1 x5 (p3 + (1 : Int32)) m2
def fX12_stonesOf_122 (v1 : Int32) (μ : Mem) : Option (Int32 × Mem) :=
  fX12_stonesOf_122_b4 FU v1 (0 : Int32) (0 : Int32) μ
set_option maxRecDepth 100000 in
set_option maxHeartbeats 4000000 in
theorem mX12_stonesOf_122 {E : En} {l : Launch} (hI : Inj E) (v1 : Int32) (μ : Mem) : MtI E l yX12_stonesOf cX12_stonesOf 4 (some .int) 2 [.ref (eAd E 122), .int v1] μ (fX12_stonesOf_122 v1 μ) := by
  refine mtI_of (own := RX12) [(0, .ref (eAd E 122)), (1, .int v1)] hI rfl (by decide) (Nat.le_of_ble_eq_true rfl) (Nat.le_of_ble_eq_true rfl) rfl (fun Z hl0 X hr => ?_)
  unfold fX12_stonesOf_122
  refine ao_iconst (pc := 0) X dX12_stonesOf_0 ic_0 ?_
  refine ao_istore_n (pc := 1) (lv' := [(2, .int (0 : Int32)), (0, .ref (eAd E 122)), (1, .int v1)]) X dX12_stonesOf_1 rfl (by decide) rfl ?_
  refine ao_iconst (pc := 2) X dX12_stonesOf_2 ic_0 ?_
  refine ao_istore_n (pc := 3) (lv' := [(3, .int (0 : Int32)), (2, .int (0 : Int32)), (0, .ref (eAd E 122)), (1, .int v1)]) X dX12_stonesOf_3 rfl (by decide) rfl ?_
  refine ao_sub [2, 3, 1, 0] rfl ?_
  exact bX12_stonesOf_122_4 hI hl0 X hr FU v1 (0 : Int32) (0 : Int32) μ
def fX12_stones_122_b242 (k211 : Int32 → Int32 → Mem → Option (Int32 × Mem)) (p3 : Int32) (p4 : Int32) (q0 : Int64) (μ : Mem) : Option (Int32 × Mem) :=
  bnd (fX12_tell_122 q0 μ) fun r42 m43 =>
  k211 p3 (p4 + (1 : Int32)) m43
set_option maxRecDepth 100000 in
set_option maxHeartbeats 4000000 in
theorem bX12_stones_122_242 {E : En} {l : Launch} {Z : Zt} (hI : Inj E) (hl0 : lZ l Z) (X : Cx E Z cX12_stones RX12 7 411) (hr : rtOf Z = some .int) {k211 : Int32 → Int32 → Mem → Option (Int32 × Mem)} (hk211 : ∀ (p3 : Int32) (p4 : Int32) (m : Mem), AO E Z 7 (QI E Z) 211 [(0, .ref (eAd E 122)), (3, .int p3), (4, .int p4)] [] m (k211 p3 p4 m)) (p3 : Int32) (p4 : Int32) (q0 : Int64) (μ : Mem) : AO E Z 7 (QI E Z) 242 [(0, .ref (eAd E 122)), (3, .int p3), (4, .int p4)] [.long q0, .ref (eAd E 122)] μ (fX12_stones_122_b242 k211 p3 p4 q0 μ) := by
  unfold fX12_stones_122_b242
  refine ao_callVV (pc := 242) (As := [.long q0]) (st := []) X hl0 dX12_stones_242 yv_X12_tell so_122 ml_RX12_267 (mX12_tell_122 hI q0 μ) (Nat.le_of_ble_eq_true rfl) rfl rfl (Nat.le_of_ble_eq_true rfl) (fun r42 m43 => ?_)
  refine ao_iinc (pc := 245) (k := 2) (v := p4 + (1 : Int32)) (lv' := [(4, .int (p4 + (1 : Int32))), (0, .ref (eAd E 122)), (3, .int p3)]) X dX12_stones_245 rfl (ii_ic ic_1) (by decide) rfl ?_
  refine ao_goto (pc := 248) (tgt := 211) X dX12_stones_248 (by decide) ?_
  refine ao_sub [1, 2, 0] rfl ?_
  exact hk211 p3 (p4 + (1 : Int32)) m43
def fX12_stones_122_b211 : Nat → Int32 → Int32 → Mem → Option (Int32 × Mem)
  | 0, _, _, _ => none
  | n + 1, p3, p4, μ =>
  if (gI μ 122 1) ≤ p4 then (bnd (fJ6_bitCount_0f7a4 p3 μ) fun r38 m39 =>
    some (r38, m39))
  else bnd (fX12_has p3 p4 μ) fun r40 m41 =>
    if r40 = 0 then (fX12_stones_122_b242 (fun p3 p4 m => fX12_stones_122_b211 n p3 p4 m) p3 p4 (0 : Int64) m41)
    else gd (inb p4 6) (fX12_stones_122_b242 (fun p3 p4 m => fX12_stones_122_b211 n p3 p4 m) p3 p4 (Int32.toInt64 (gI m41 142 (ix p4))) m41)
set_option maxRecDepth 100000 in
set_option maxHeartbeats 4000000 in
theorem bX12_stones_122_211 {E : En} {l : Launch} {Z : Zt} (hI : Inj E) (hl0 : lZ l Z) (X : Cx E Z cX12_stones RX12 7 411) (hr : rtOf Z = some .int) : ∀ (n : Nat) (p3 : Int32) (p4 : Int32) (μ : Mem), AO E Z 7 (QI E Z) 211 [(0, .ref (eAd E 122)), (3, .int p3), (4, .int p4)] [] μ (fX12_stones_122_b211 n p3 p4 μ) := by
  intro n
  induction n with
  | zero =>
    intros
    exact ao_none
  | succ n ih =>
    intro p3 p4 μ
    rw [fX12_stones_122_b211]
    refine ao_iload (pc := 211) X dX12_stones_211 rfl ?_
    refine ao_aload_n (pc := 213) X dX12_stones_213 rfl ?_
    refine ao_getI (pc := 214) X dX12_stones_214 fl_RX12_101 sf_122_1 ?_
    refine ao_icmp_ge (pc := 217) (tgt := 251) X dX12_stones_217 (by decide) (fun _ => ?_) (fun _ => ?_)
    · refine ao_iload_n (pc := 251) X dX12_stones_251 rfl ?_
      refine ao_callSI (pc := 252) (As := [.int p3]) (st := []) X hl0 dX12_stones_252 yv_J6_bitCount_0f7a4 ml_RX12_296 (mJ6_bitCount_0f7a4 hI p3 μ) (Nat.le_of_ble_eq_true rfl) rfl rfl (Nat.le_of_ble_eq_true rfl) (fun r38 m39 => ?_)
      exact ao_iret (pc := 255) X hr dX12_stones_255
    · refine ao_aload_n (pc := 220) X dX12_stones_220 rfl ?_
      refine ao_iload_n (pc := 221) X dX12_stones_221 rfl ?_
      refine ao_iload (pc := 222) X dX12_stones_222 rfl ?_
      refine ao_callSI (pc := 224) (As := [.int p3, .int p4]) (st := [.ref (eAd E 122)]) X hl0 dX12_stones_224 yv_X12_has ml_RX12_158 (mX12_has hI p3 p4 μ) (Nat.le_of_ble_eq_true rfl) rfl rfl (Nat.le_of_ble_eq_true rfl) (fun r40 m41 => ?_)
      refine ao_if_eq (pc := 227) (tgt := 241) X dX12_stones_227 (by decide) (fun _ => ?_) (fun _ => ?_)
      · refine ao_lconst (pc := 241) X dX12_stones_241 lc_0 ?_
        refine ao_sub [0, 1, 2] rfl ?_
        exact bX12_stones_122_242 hI hl0 X hr ih p3 p4 (0 : Int64) m41
      · refine ao_aload_n (pc := 230) X dX12_stones_230 rfl ?_
        refine ao_getR (pc := 231) X dX12_stones_231 fl_RX12_74 sf_122_34 ?_
        refine ao_iload (pc := 234) X dX12_stones_234 rfl ?_
        refine ao_iald (pc := 236) X dX12_stones_236 sa_142 ?_
        refine ao_i2l (pc := 237) X dX12_stones_237 ?_
        refine ao_goto (pc := 238) (tgt := 242) X dX12_stones_238 (by decide) ?_
        refine ao_sub [0, 1, 2] rfl ?_
        exact bX12_stones_122_242 hI hl0 X hr ih p3 p4 (Int32.toInt64 (gI m41 142 (ix p4))) m41
def fX12_stones_122_b110 : Nat → Int32 → Int32 → Int32 → Int32 → Mem → Option (Int32 × Mem)
  | 0, _, _, _, _, _ => none
  | n + 1, p1, p2, p3, p4, μ =>
  if p2 < p4 then (lt (sI μ 122 16 (0 : Int32)) fun m5 =>
    fX12_stones_122_b211 FU p3 (0 : Int32) m5)
  else if (p4 &&& (p2 ^^^ (-1 : Int32))) = 0 then (bnd (fX12_stonesOf_122 p4 μ) fun r7 m8 =>
      if r7 ≤ p1 then (bnd (fJ6_bitCount_0f7a4 p4 m8) fun r9 m10 =>
        bnd (fJ6_bitCount_0f7a4 p3 m10) fun r11 m12 =>
        lt (r9 - r11) fun x13 =>
        bnd (fX12_stonesOf_122 p4 m12) fun r14 m15 =>
        bnd (fX12_stonesOf_122 p3 m15) fun r16 m17 =>
        lt (r14 - r16) fun x18 =>
        if 0 < x13 then (fX12_stones_122_b110 n p1 p2 p4 (p4 + (1 : Int32)) m17)
        else if x13 = 0 then (if x18 < 0 then (fX12_stones_122_b110 n p1 p2 p4 (p4 + (1 : Int32)) m17)
            else if x18 = 0 then (bnd (fX12_isLessRow_122 p4 p3 m17) fun r23 m24 =>
                if r23 = 0 then (fX12_stones_122_b110 n p1 p2 p3 (p4 + (1 : Int32)) m24)
                else fX12_stones_122_b110 n p1 p2 p4 (p4 + (1 : Int32)) m24)
              else fX12_stones_122_b110 n p1 p2 p3 (p4 + (1 : Int32)) m17)
          else fX12_stones_122_b110 n p1 p2 p3 (p4 + (1 : Int32)) m17)
      else fX12_stones_122_b110 n p1 p2 p3 (p4 + (1 : Int32)) m8)
    else fX12_stones_122_b110 n p1 p2 p3 (p4 + (1 : Int32)) μ
set_option maxRecDepth 100000 in
set_option maxHeartbeats 4000000 in
theorem bX12_stones_122_110 {E : En} {l : Launch} {Z : Zt} (hI : Inj E) (hl0 : lZ l Z) (X : Cx E Z cX12_stones RX12 7 411) (hr : rtOf Z = some .int) : ∀ (n : Nat) (p1 : Int32) (p2 : Int32) (p3 : Int32) (p4 : Int32) (μ : Mem), AO E Z 7 (QI E Z) 110 [(0, .ref (eAd E 122)), (1, .int p1), (2, .int p2), (3, .int p3), (4, .int p4)] [] μ (fX12_stones_122_b110 n p1 p2 p3 p4 μ) := by
  intro n
  induction n with
  | zero =>
    intros
    exact ao_none
  | succ n ih =>
    intro p1 p2 p3 p4 μ
    rw [fX12_stones_122_b110]
    refine ao_iload (pc := 110) X dX12_stones_110 rfl ?_
    refine ao_iload_n (pc := 112) X dX12_stones_112 rfl ?_
    refine ao_icmp_gt (pc := 113) (tgt := 203) X dX12_stones_113 (by decide) (fun _ => ?_) (fun _ => ?_)
    · refine ao_aload_n (pc := 203) X dX12_stones_203 rfl ?_
      refine ao_iconst (pc := 204) X dX12_stones_204 ic_0 ?_
      refine ao_putI (pc := 205) X dX12_stones_205 fp_RX12_98 sf_122_16 ?_
      refine ao_lt (fun m5 => ?_)
      refine ao_iconst (pc := 208) X dX12_stones_208 ic_0 ?_
      refine ao_istore (pc := 209) (lv' := [(4, .int (0 : Int32)), (0, .ref (eAd E 122)), (1, .int p1), (2, .int p2), (3, .int p3)]) X dX12_stones_209 (by decide) rfl ?_
      refine ao_sub [1, 4, 0] rfl ?_
      exact bX12_stones_122_211 hI hl0 X hr FU p3 (0 : Int32) m5
    · refine ao_iload (pc := 116) X dX12_stones_116 rfl ?_
      refine ao_iload_n (pc := 118) X dX12_stones_118 rfl ?_
      refine ao_iconst (pc := 119) X dX12_stones_119 ic_m1 ?_
      refine ao_ixor (pc := 120) X dX12_stones_120 ?_
      refine ao_iand (pc := 121) X dX12_stones_121 ?_
      refine ao_if_ne (pc := 122) (tgt := 197) X dX12_stones_122 (by decide) (fun _ => ?_) (fun _ => ?_)
      · refine ao_iinc (pc := 197) (k := 4) (v := p4 + (1 : Int32)) (lv' := [(4, .int (p4 + (1 : Int32))), (0, .ref (eAd E 122)), (1, .int p1), (2, .int p2), (3, .int p3)]) X dX12_stones_197 rfl (ii_ic ic_1) (by decide) rfl ?_
        refine ao_goto (pc := 200) (tgt := 110) X dX12_stones_200 (by decide) ?_
        refine ao_sub [1, 2, 3, 4, 0] rfl ?_
        exact ih p1 p2 p3 (p4 + (1 : Int32)) μ
      · refine ao_aload_n (pc := 125) X dX12_stones_125 rfl ?_
        refine ao_iload (pc := 126) X dX12_stones_126 rfl ?_
        refine ao_callVI (pc := 128) (As := [.int p4]) (st := []) X hl0 dX12_stones_128 yv_X12_stonesOf so_122 ml_RX12_293 (mX12_stonesOf_122 hI p4 μ) (Nat.le_of_ble_eq_true rfl) rfl rfl (Nat.le_of_ble_eq_true rfl) (fun r7 m8 => ?_)
        refine ao_iload_n (pc := 131) X dX12_stones_131 rfl ?_
        refine ao_icmp_le (pc := 132) (tgt := 138) X dX12_stones_132 (by decide) (fun _ => ?_) (fun _ => ?_)
        · refine ao_iload (pc := 138) X dX12_stones_138 rfl ?_
          refine ao_callSI (pc := 140) (As := [.int p4]) (st := []) X hl0 dX12_stones_140 yv_J6_bitCount_0f7a4 ml_RX12_296 (mJ6_bitCount_0f7a4 hI p4 m8) (Nat.le_of_ble_eq_true rfl) rfl rfl (Nat.le_of_ble_eq_true rfl) (fun r9 m10 => ?_)
          refine ao_iload_n (pc := 143) X dX12_stones_143 rfl ?_
          refine ao_callSI (pc := 144) (As := [.int p3]) (st := [.int r9]) X hl0 dX12_stones_144 yv_J6_bitCount_0f7a4 ml_RX12_296 (mJ6_bitCount_0f7a4 hI p3 m10) (Nat.le_of_ble_eq_true rfl) rfl rfl (Nat.le_of_ble_eq_true rfl) (fun r11 m12 => ?_)
          refine ao_isub (pc := 147) X dX12_stones_147 ?_
          refine ao_ltI (fun x13 => ?_)
          refine ao_istore (pc := 148) (lv' := [(5, .int x13), (0, .ref (eAd E 122)), (1, .int p1), (2, .int p2), (3, .int p3), (4, .int p4)]) X dX12_stones_148 (by decide) rfl ?_
          refine ao_aload_n (pc := 150) X dX12_stones_150 rfl ?_
          refine ao_iload (pc := 151) X dX12_stones_151 rfl ?_
          refine ao_callVI (pc := 153) (As := [.int p4]) (st := []) X hl0 dX12_stones_153 yv_X12_stonesOf so_122 ml_RX12_293 (mX12_stonesOf_122 hI p4 m12) (Nat.le_of_ble_eq_true rfl) rfl rfl (Nat.le_of_ble_eq_true rfl) (fun r14 m15 => ?_)
          refine ao_aload_n (pc := 156) X dX12_stones_156 rfl ?_
          refine ao_iload_n (pc := 157) X dX12_stones_157 rfl ?_
          refine ao_callVI (pc := 158) (As := [.int p3]) (st := [.int r14]) X hl0 dX12_stones_158 yv_X12_stonesOf so_122 ml_RX12_293 (mX12_stonesOf_122 hI p3 m15) (Nat.le_of_ble_eq_true rfl) rfl rfl (Nat.le_of_ble_eq_true rfl) (fun r16 m17 => ?_)
          refine ao_isub (pc := 161) X dX12_stones_161 ?_
          refine ao_ltI (fun x18 => ?_)
          refine ao_istore (pc := 162) (lv' := [(6, .int x18), (5, .int x13), (0, .ref (eAd E 122)), (1, .int p1), (2, .int p2), (3, .int p3), (4, .int p4)]) X dX12_stones_162 (by decide) rfl ?_
          refine ao_iload (pc := 164) X dX12_stones_164 rfl ?_
          refine ao_if_gt (pc := 166) (tgt := 194) X dX12_stones_166 (by decide) (fun _ => ?_) (fun _ => ?_)
          · refine ao_iload (pc := 194) X dX12_stones_194 rfl ?_
            refine ao_istore_n (pc := 196) (lv' := [(3, .int p4), (6, .int x18), (5, .int x13), (0, .ref (eAd E 122)), (1, .int p1), (2, .int p2), (4, .int p4)]) X dX12_stones_196 rfl (by decide) rfl ?_
            refine ao_iinc (pc := 197) (k := 6) (v := p4 + (1 : Int32)) (lv' := [(4, .int (p4 + (1 : Int32))), (3, .int p4), (6, .int x18), (5, .int x13), (0, .ref (eAd E 122)), (1, .int p1), (2, .int p2)]) X dX12_stones_197 rfl (ii_ic ic_1) (by decide) rfl ?_
            refine ao_goto (pc := 200) (tgt := 110) X dX12_stones_200 (by decide) ?_
            refine ao_sub [4, 5, 6, 1, 0] rfl ?_
            exact ih p1 p2 p4 (p4 + (1 : Int32)) m17
          · refine ao_iload (pc := 169) X dX12_stones_169 rfl ?_
            refine ao_if_ne (pc := 171) (tgt := 197) X dX12_stones_171 (by decide) (fun _ => ?_) (fun _ => ?_)
            · refine ao_iinc (pc := 197) (k := 6) (v := p4 + (1 : Int32)) (lv' := [(4, .int (p4 + (1 : Int32))), (6, .int x18), (5, .int x13), (0, .ref (eAd E 122)), (1, .int p1), (2, .int p2), (3, .int p3)]) X dX12_stones_197 rfl (ii_ic ic_1) (by decide) rfl ?_
              refine ao_goto (pc := 200) (tgt := 110) X dX12_stones_200 (by decide) ?_
              refine ao_sub [3, 4, 5, 6, 0] rfl ?_
              exact ih p1 p2 p3 (p4 + (1 : Int32)) m17
            · refine ao_iload (pc := 174) X dX12_stones_174 rfl ?_
              refine ao_if_lt (pc := 176) (tgt := 194) X dX12_stones_176 (by decide) (fun _ => ?_) (fun _ => ?_)
              · refine ao_iload (pc := 194) X dX12_stones_194 rfl ?_
                refine ao_istore_n (pc := 196) (lv' := [(3, .int p4), (6, .int x18), (5, .int x13), (0, .ref (eAd E 122)), (1, .int p1), (2, .int p2), (4, .int p4)]) X dX12_stones_196 rfl (by decide) rfl ?_
                refine ao_iinc (pc := 197) (k := 6) (v := p4 + (1 : Int32)) (lv' := [(4, .int (p4 + (1 : Int32))), (3, .int p4), (6, .int x18), (5, .int x13), (0, .ref (eAd E 122)), (1, .int p1), (2, .int p2)]) X dX12_stones_197 rfl (ii_ic ic_1) (by decide) rfl ?_
                refine ao_goto (pc := 200) (tgt := 110) X dX12_stones_200 (by decide) ?_
                refine ao_sub [4, 5, 6, 1, 0] rfl ?_
                exact ih p1 p2 p4 (p4 + (1 : Int32)) m17
              · refine ao_iload (pc := 179) X dX12_stones_179 rfl ?_
                refine ao_if_ne (pc := 181) (tgt := 197) X dX12_stones_181 (by decide) (fun _ => ?_) (fun _ => ?_)
                · refine ao_iinc (pc := 197) (k := 6) (v := p4 + (1 : Int32)) (lv' := [(4, .int (p4 + (1 : Int32))), (6, .int x18), (5, .int x13), (0, .ref (eAd E 122)), (1, .int p1), (2, .int p2), (3, .int p3)]) X dX12_stones_197 rfl (ii_ic ic_1) (by decide) rfl ?_
                  refine ao_goto (pc := 200) (tgt := 110) X dX12_stones_200 (by decide) ?_
                  refine ao_sub [3, 4, 5, 6, 0] rfl ?_
                  exact ih p1 p2 p3 (p4 + (1 : Int32)) m17
                · refine ao_aload_n (pc := 184) X dX12_stones_184 rfl ?_
                  refine ao_iload (pc := 185) X dX12_stones_185 rfl ?_
                  refine ao_iload_n (pc := 187) X dX12_stones_187 rfl ?_
                  refine ao_callVI (pc := 188) (As := [.int p4, .int p3]) (st := []) X hl0 dX12_stones_188 yv_X12_isLessRow so_122 ml_RX12_301 (mX12_isLessRow_122 hI p4 p3 m17) (Nat.le_of_ble_eq_true rfl) rfl rfl (Nat.le_of_ble_eq_true rfl) (fun r23 m24 => ?_)
                  refine ao_if_eq (pc := 191) (tgt := 197) X dX12_stones_191 (by decide) (fun _ => ?_) (fun _ => ?_)
                  · refine ao_iinc (pc := 197) (k := 6) (v := p4 + (1 : Int32)) (lv' := [(4, .int (p4 + (1 : Int32))), (6, .int x18), (5, .int x13), (0, .ref (eAd E 122)), (1, .int p1), (2, .int p2), (3, .int p3)]) X dX12_stones_197 rfl (ii_ic ic_1) (by decide) rfl ?_
                    refine ao_goto (pc := 200) (tgt := 110) X dX12_stones_200 (by decide) ?_
                    refine ao_sub [3, 4, 5, 6, 0] rfl ?_
                    exact ih p1 p2 p3 (p4 + (1 : Int32)) m24
                  · refine ao_iload (pc := 194) X dX12_stones_194 rfl ?_
                    refine ao_istore_n (pc := 196) (lv' := [(3, .int p4), (6, .int x18), (5, .int x13), (0, .ref (eAd E 122)), (1, .int p1), (2, .int p2), (4, .int p4)]) X dX12_stones_196 rfl (by decide) rfl ?_
                    refine ao_iinc (pc := 197) (k := 6) (v := p4 + (1 : Int32)) (lv' := [(4, .int (p4 + (1 : Int32))), (3, .int p4), (6, .int x18), (5, .int x13), (0, .ref (eAd E 122)), (1, .int p1), (2, .int p2)]) X dX12_stones_197 rfl (ii_ic ic_1) (by decide) rfl ?_
                    refine ao_goto (pc := 200) (tgt := 110) X dX12_stones_200 (by decide) ?_
                    refine ao_sub [4, 5, 6, 1, 0] rfl ?_
                    exact ih p1 p2 p4 (p4 + (1 : Int32)) m24
        · refine ao_goto (pc := 135) (tgt := 197) X dX12_stones_135 (by decide) ?_
          refine ao_iinc (pc := 197) (k := 4) (v := p4 + (1 : Int32)) (lv' := [(4, .int (p4 + (1 : Int32))), (0, .ref (eAd E 122)), (1, .int p1), (2, .int p2), (3, .int p3)]) X dX12_stones_197 rfl (ii_ic ic_1) (by decide) rfl ?_
          refine ao_goto (pc := 200) (tgt := 110) X dX12_stones_200 (by decide) ?_
          refine ao_sub [1, 2, 3, 4, 0] rfl ?_
          exact ih p1 p2 p3 (p4 + (1 : Int32)) m8
def fX12_stones_122_b41 (k22 : Int32 → Int32 → Int32 → Mem → Option (Int32 × Mem)) : Nat → Int32 → Int32 → Int32 → Int32 → Mem → Option (Int32 × Mem)
  | 0, _, _, _, _, _ => none
  | n + 1, p1, p2, p3, p4, μ =>
  if p4 < 0 then (gd (inb p3 6) (if (gI μ 142 (ix p3)) = (-1 : Int32) then (lt (p2 ||| (0 : Int32)) fun x30 =>
      k22 p1 x30 (p3 + (1 : Int32)) μ)
    else lt (p2 ||| ((1 : Int32) <<< (p3 &&& 31))) fun x28 =>
      k22 p1 x28 (p3 + (1 : Int32)) μ))
  else gd (inb p3 27) (if (gI μ 123 (ix p3)) = 0 then (bnd (fX12_speakNight_122 p3 p4 μ) fun r33 m34 =>
      if r33 < 0 then (fX12_stones_122_b41 k22 n p1 p2 p3 (p4 + (-10 : Int32)) m34)
      else gd (inb p3 6) (lt (sI m34 142 (ix p3) p4) fun m36 =>
        fX12_stones_122_b41 k22 n p1 p2 p3 (p4 + (-10 : Int32)) m36))
    else fX12_stones_122_b41 k22 n p1 p2 p3 (p4 + (-10 : Int32)) μ)
set_option maxRecDepth 100000 in
set_option maxHeartbeats 4000000 in
theorem bX12_stones_122_41 {E : En} {l : Launch} {Z : Zt} (hI : Inj E) (hl0 : lZ l Z) (X : Cx E Z cX12_stones RX12 7 411) (hr : rtOf Z = some .int) {k22 : Int32 → Int32 → Int32 → Mem → Option (Int32 × Mem)} (hk22 : ∀ (p1 : Int32) (p2 : Int32) (p3 : Int32) (m : Mem), AO E Z 7 (QI E Z) 22 [(0, .ref (eAd E 122)), (1, .int p1), (2, .int p2), (3, .int p3)] [] m (k22 p1 p2 p3 m)) : ∀ (n : Nat) (p1 : Int32) (p2 : Int32) (p3 : Int32) (p4 : Int32) (μ : Mem), AO E Z 7 (QI E Z) 41 [(0, .ref (eAd E 122)), (1, .int p1), (2, .int p2), (3, .int p3), (4, .int p4)] [] μ (fX12_stones_122_b41 k22 n p1 p2 p3 p4 μ) := by
  intro n
  induction n with
  | zero =>
    intros
    exact ao_none
  | succ n ih =>
    intro p1 p2 p3 p4 μ
    rw [fX12_stones_122_b41]
    refine ao_iload (pc := 41) X dX12_stones_41 rfl ?_
    refine ao_if_lt (pc := 43) (tgt := 79) X dX12_stones_43 (by decide) (fun _ => ?_) (fun _ => ?_)
    · refine ao_iload_n (pc := 79) X dX12_stones_79 rfl ?_
      refine ao_aload_n (pc := 80) X dX12_stones_80 rfl ?_
      refine ao_getR (pc := 81) X dX12_stones_81 fl_RX12_74 sf_122_34 ?_
      refine ao_iload_n (pc := 84) X dX12_stones_84 rfl ?_
      refine ao_iald (pc := 85) X dX12_stones_85 sa_142 ?_
      refine ao_iconst (pc := 86) X dX12_stones_86 ic_m1 ?_
      refine ao_icmp_ne (pc := 87) (tgt := 94) X dX12_stones_87 (by decide) (fun _ => ?_) (fun _ => ?_)
      · refine ao_iconst (pc := 94) X dX12_stones_94 ic_1 ?_
        refine ao_iload_n (pc := 95) X dX12_stones_95 rfl ?_
        refine ao_ishl (pc := 96) X dX12_stones_96 ?_
        refine ao_ior (pc := 97) X dX12_stones_97 ?_
        refine ao_ltI (fun x28 => ?_)
        refine ao_istore_n (pc := 98) (lv' := [(2, .int x28), (0, .ref (eAd E 122)), (1, .int p1), (3, .int p3), (4, .int p4)]) X dX12_stones_98 rfl (by decide) rfl ?_
        refine ao_iinc (pc := 99) (k := 3) (v := p3 + (1 : Int32)) (lv' := [(3, .int (p3 + (1 : Int32))), (2, .int x28), (0, .ref (eAd E 122)), (1, .int p1), (4, .int p4)]) X dX12_stones_99 rfl (ii_ic ic_1) (by decide) rfl ?_
        refine ao_goto (pc := 102) (tgt := 22) X dX12_stones_102 (by decide) ?_
        refine ao_sub [2, 3, 1, 0] rfl ?_
        exact hk22 p1 x28 (p3 + (1 : Int32)) μ
      · refine ao_iconst (pc := 90) X dX12_stones_90 ic_0 ?_
        refine ao_goto (pc := 91) (tgt := 97) X dX12_stones_91 (by decide) ?_
        refine ao_ior (pc := 97) X dX12_stones_97 ?_
        refine ao_ltI (fun x30 => ?_)
        refine ao_istore_n (pc := 98) (lv' := [(2, .int x30), (0, .ref (eAd E 122)), (1, .int p1), (3, .int p3), (4, .int p4)]) X dX12_stones_98 rfl (by decide) rfl ?_
        refine ao_iinc (pc := 99) (k := 3) (v := p3 + (1 : Int32)) (lv' := [(3, .int (p3 + (1 : Int32))), (2, .int x30), (0, .ref (eAd E 122)), (1, .int p1), (4, .int p4)]) X dX12_stones_99 rfl (ii_ic ic_1) (by decide) rfl ?_
        refine ao_goto (pc := 102) (tgt := 22) X dX12_stones_102 (by decide) ?_
        refine ao_sub [2, 3, 1, 0] rfl ?_
        exact hk22 p1 x30 (p3 + (1 : Int32)) μ
    · refine ao_aload_n (pc := 46) X dX12_stones_46 rfl ?_
      refine ao_getR (pc := 47) X dX12_stones_47 fl_RX12_9 sf_122_0 ?_
      refine ao_iload_n (pc := 50) X dX12_stones_50 rfl ?_
      refine ao_iald (pc := 51) X dX12_stones_51 sa_123 ?_
      refine ao_if_ne (pc := 52) (tgt := 73) X dX12_stones_52 (by decide) (fun _ => ?_) (fun _ => ?_)
      · refine ao_iinc (pc := 73) (k := 4) (v := p4 + (-10 : Int32)) (lv' := [(4, .int (p4 + (-10 : Int32))), (0, .ref (eAd E 122)), (1, .int p1), (2, .int p2), (3, .int p3)]) X dX12_stones_73 rfl (ii_ic ic_m10) (by decide) rfl ?_
        refine ao_goto (pc := 76) (tgt := 41) X dX12_stones_76 (by decide) ?_
        refine ao_sub [1, 2, 3, 4, 0] rfl ?_
        exact ih p1 p2 p3 (p4 + (-10 : Int32)) μ
      · refine ao_aload_n (pc := 55) X dX12_stones_55 rfl ?_
        refine ao_iload_n (pc := 56) X dX12_stones_56 rfl ?_
        refine ao_iload (pc := 57) X dX12_stones_57 rfl ?_
        refine ao_callVI (pc := 59) (As := [.int p3, .int p4]) (st := []) X hl0 dX12_stones_59 yv_X12_speakNight so_122 ml_RX12_290 (mX12_speakNight_122 hI p3 p4 μ) (Nat.le_of_ble_eq_true rfl) rfl rfl (Nat.le_of_ble_eq_true rfl) (fun r33 m34 => ?_)
        refine ao_if_lt (pc := 62) (tgt := 73) X dX12_stones_62 (by decide) (fun _ => ?_) (fun _ => ?_)
        · refine ao_iinc (pc := 73) (k := 4) (v := p4 + (-10 : Int32)) (lv' := [(4, .int (p4 + (-10 : Int32))), (0, .ref (eAd E 122)), (1, .int p1), (2, .int p2), (3, .int p3)]) X dX12_stones_73 rfl (ii_ic ic_m10) (by decide) rfl ?_
          refine ao_goto (pc := 76) (tgt := 41) X dX12_stones_76 (by decide) ?_
          refine ao_sub [1, 2, 3, 4, 0] rfl ?_
          exact ih p1 p2 p3 (p4 + (-10 : Int32)) m34
        · refine ao_aload_n (pc := 65) X dX12_stones_65 rfl ?_
          refine ao_getR (pc := 66) X dX12_stones_66 fl_RX12_74 sf_122_34 ?_
          refine ao_iload_n (pc := 69) X dX12_stones_69 rfl ?_
          refine ao_iload (pc := 70) X dX12_stones_70 rfl ?_
          refine ao_iast (pc := 72) X dX12_stones_72 sa_142 ?_
          refine ao_lt (fun m36 => ?_)
          refine ao_iinc (pc := 73) (k := 4) (v := p4 + (-10 : Int32)) (lv' := [(4, .int (p4 + (-10 : Int32))), (0, .ref (eAd E 122)), (1, .int p1), (2, .int p2), (3, .int p3)]) X dX12_stones_73 rfl (ii_ic ic_m10) (by decide) rfl ?_
          refine ao_goto (pc := 76) (tgt := 41) X dX12_stones_76 (by decide) ?_
          refine ao_sub [1, 2, 3, 4, 0] rfl ?_
          exact ih p1 p2 p3 (p4 + (-10 : Int32)) m36
def fX12_stones_122_b22 : Nat → Int32 → Int32 → Int32 → Mem → Option (Int32 × Mem)
  | 0, _, _, _, _ => none
  | n + 1, p1, p2, p3, μ =>
  if (gI μ 122 1) ≤ p3 then (fX12_stones_122_b110 FU p1 p2 (0 : Int32) (1 : Int32) μ)
  else gd (inb p3 6) (lt (sI μ 142 (ix p3) (-1 : Int32)) fun m4 =>
    fX12_stones_122_b41 (fun p1 p2 p3 m => fX12_stones_122_b22 n p1 p2 p3 m) FU p1 p2 p3 (90 : Int32) m4)
set_option maxRecDepth 100000 in
set_option maxHeartbeats 4000000 in
theorem bX12_stones_122_22 {E : En} {l : Launch} {Z : Zt} (hI : Inj E) (hl0 : lZ l Z) (X : Cx E Z cX12_stones RX12 7 411) (hr : rtOf Z = some .int) : ∀ (n : Nat) (p1 : Int32) (p2 : Int32) (p3 : Int32) (μ : Mem), AO E Z 7 (QI E Z) 22 [(0, .ref (eAd E 122)), (1, .int p1), (2, .int p2), (3, .int p3)] [] μ (fX12_stones_122_b22 n p1 p2 p3 μ) := by
  intro n
  induction n with
  | zero =>
    intros
    exact ao_none
  | succ n ih =>
    intro p1 p2 p3 μ
    rw [fX12_stones_122_b22]
    refine ao_iload_n (pc := 22) X dX12_stones_22 rfl ?_
    refine ao_aload_n (pc := 23) X dX12_stones_23 rfl ?_
    refine ao_getI (pc := 24) X dX12_stones_24 fl_RX12_101 sf_122_1 ?_
    refine ao_icmp_ge (pc := 27) (tgt := 105) X dX12_stones_27 (by decide) (fun _ => ?_) (fun _ => ?_)
    · refine ao_iconst (pc := 105) X dX12_stones_105 ic_0 ?_
      refine ao_istore_n (pc := 106) (lv' := [(3, .int (0 : Int32)), (0, .ref (eAd E 122)), (1, .int p1), (2, .int p2)]) X dX12_stones_106 rfl (by decide) rfl ?_
      refine ao_iconst (pc := 107) X dX12_stones_107 ic_1 ?_
      refine ao_istore (pc := 108) (lv' := [(4, .int (1 : Int32)), (3, .int (0 : Int32)), (0, .ref (eAd E 122)), (1, .int p1), (2, .int p2)]) X dX12_stones_108 (by decide) rfl ?_
      refine ao_sub [2, 3, 4, 1, 0] rfl ?_
      exact bX12_stones_122_110 hI hl0 X hr FU p1 p2 (0 : Int32) (1 : Int32) μ
    · refine ao_aload_n (pc := 30) X dX12_stones_30 rfl ?_
      refine ao_getR (pc := 31) X dX12_stones_31 fl_RX12_74 sf_122_34 ?_
      refine ao_iload_n (pc := 34) X dX12_stones_34 rfl ?_
      refine ao_iconst (pc := 35) X dX12_stones_35 ic_m1 ?_
      refine ao_iast (pc := 36) X dX12_stones_36 sa_142 ?_
      refine ao_lt (fun m4 => ?_)
      refine ao_bipush (pc := 37) X dX12_stones_37 bp_90 ?_
      refine ao_istore (pc := 39) (lv' := [(4, .int (90 : Int32)), (0, .ref (eAd E 122)), (1, .int p1), (2, .int p2), (3, .int p3)]) X dX12_stones_39 (by decide) rfl ?_
      refine ao_sub [1, 2, 3, 4, 0] rfl ?_
      exact bX12_stones_122_41 hI hl0 X hr ih FU p1 p2 p3 (90 : Int32) m4
def fX12_stones_122 (v1 : Int32) (μ : Mem) : Option (Int32 × Mem) :=
  lt (sI μ 122 17 (0 : Int32)) fun m1 =>
  bnd (fX12_in v1 (0 : Int32) (400 : Int32) m1) fun r2 m3 =>
  if r2 = 0 then (some ((-1 : Int32), m3))
  else fX12_stones_122_b22 FU v1 (0 : Int32) (0 : Int32) m3
set_option maxRecDepth 100000 in
set_option maxHeartbeats 4000000 in
theorem mX12_stones_122 {E : En} {l : Launch} (hI : Inj E) (v1 : Int32) (μ : Mem) : MtI E l yX12_stones cX12_stones 7 (some .int) 411 [.ref (eAd E 122), .int v1] μ (fX12_stones_122 v1 μ) := by
  refine mtI_of (own := RX12) [(0, .ref (eAd E 122)), (1, .int v1)] hI rfl (by decide) (Nat.le_of_ble_eq_true rfl) (Nat.le_of_ble_eq_true rfl) rfl (fun Z hl0 X hr => ?_)
  unfold fX12_stones_122
  refine ao_aload_n (pc := 0) X dX12_stones_0 rfl ?_
  refine ao_iconst (pc := 1) X dX12_stones_1 ic_0 ?_
  refine ao_putI (pc := 2) X dX12_stones_2 fp_RX12_95 sf_122_17 ?_
  refine ao_lt (fun m1 => ?_)
  refine ao_iload_n (pc := 5) X dX12_stones_5 rfl ?_
  refine ao_iconst (pc := 6) X dX12_stones_6 ic_0 ?_
  refine ao_sipush (pc := 7) X dX12_stones_7 sp_400 ?_
  refine ao_callSI (pc := 10) (As := [.int v1, .int (0 : Int32), .int (400 : Int32)]) (st := []) X hl0 dX12_stones_10 yv_X12_in ml_RX12_104 (mX12_in hI v1 (0 : Int32) (400 : Int32) m1) (Nat.le_of_ble_eq_true rfl) rfl rfl (Nat.le_of_ble_eq_true rfl) (fun r2 m3 => ?_)
  refine ao_if_ne (pc := 13) (tgt := 18) X dX12_stones_13 (by decide) (fun _ => ?_) (fun _ => ?_)
  · refine ao_iconst (pc := 18) X dX12_stones_18 ic_0 ?_
    refine ao_istore_n (pc := 19) (lv' := [(2, .int (0 : Int32)), (0, .ref (eAd E 122)), (1, .int v1)]) X dX12_stones_19 rfl (by decide) rfl ?_
    refine ao_iconst (pc := 20) X dX12_stones_20 ic_0 ?_
    refine ao_istore_n (pc := 21) (lv' := [(3, .int (0 : Int32)), (2, .int (0 : Int32)), (0, .ref (eAd E 122)), (1, .int v1)]) X dX12_stones_21 rfl (by decide) rfl ?_
    refine ao_sub [2, 3, 1, 0] rfl ?_
    exact bX12_stones_122_22 hI hl0 X hr FU v1 (0 : Int32) (0 : Int32) m3
  · refine ao_iconst (pc := 16) X dX12_stones_16 ic_m1 ?_
    exact ao_iret (pc := 17) X hr dX12_stones_17
def fX4_isSilent_38 (v1 : Int32) (μ : Mem) : Option (Int32 × Mem) :=
  gd (inb v1 6) (if (gI μ 39 (ix v1)) = 0 then (some ((1 : Int32), μ))
  else some ((0 : Int32), μ))
set_option maxRecDepth 100000 in
set_option maxHeartbeats 4000000 in
theorem mX4_isSilent_38 {E : En} {l : Launch} (hI : Inj E) (v1 : Int32) (μ : Mem) : MtI E l yX4_isSilent cX4_isSilent 2 (some .boolean) 1 [.ref (eAd E 38), .int v1] μ (fX4_isSilent_38 v1 μ) := by
  refine mtI_of (own := RX4) [(0, .ref (eAd E 38)), (1, .int v1)] hI rfl (by decide) (Nat.le_of_ble_eq_true rfl) (Nat.le_of_ble_eq_true rfl) rfl (fun Z hl0 X hr => ?_)
  unfold fX4_isSilent_38
  refine ao_aload_n (pc := 0) X dX4_isSilent_0 rfl ?_
  refine ao_getR (pc := 1) X dX4_isSilent_1 fl_RX4_9 sf_38_0 ?_
  refine ao_iload_n (pc := 4) X dX4_isSilent_4 rfl ?_
  refine ao_iald (pc := 5) X dX4_isSilent_5 sa_39 ?_
  refine ao_if_ne (pc := 6) (tgt := 13) X dX4_isSilent_6 (by decide) (fun _ => ?_) (fun _ => ?_)
  · refine ao_iconst (pc := 13) X dX4_isSilent_13 ic_0 ?_
    exact ao_zret (pc := 14) X hr rfl dX4_isSilent_14
  · refine ao_iconst (pc := 9) X dX4_isSilent_9 ic_1 ?_
    refine ao_goto (pc := 10) (tgt := 14) X dX4_isSilent_10 (by decide) ?_
    exact ao_zret (pc := 14) X hr rfl dX4_isSilent_14
def fX4_leaveOver_38_b34 (k4 : Int32 → Int32 → Mem → Option (Int32 × Mem)) (p1 : Int32) (p2 : Int32) (μ : Mem) : Option (Int32 × Mem) :=
  gd (inb p2 6) (lt (sI μ 39 (ix p2) (5 : Int32)) fun m2 =>
  lt (p1 ||| ((1 : Int32) <<< (p2 &&& 31))) fun x3 =>
  k4 x3 (p2 + (1 : Int32)) m2)
set_option maxRecDepth 100000 in
set_option maxHeartbeats 4000000 in
theorem bX4_leaveOver_38_34 {E : En} {l : Launch} {Z : Zt} (hI : Inj E) (hl0 : lZ l Z) (X : Cx E Z cX4_leaveOver RX4 3 1) (hr : rtOf Z = some .int) {k4 : Int32 → Int32 → Mem → Option (Int32 × Mem)} (hk4 : ∀ (p1 : Int32) (p2 : Int32) (m : Mem), AO E Z 3 (QI E Z) 4 [(0, .ref (eAd E 38)), (1, .int p1), (2, .int p2)] [] m (k4 p1 p2 m)) (p1 : Int32) (p2 : Int32) (μ : Mem) : AO E Z 3 (QI E Z) 34 [(0, .ref (eAd E 38)), (1, .int p1), (2, .int p2)] [] μ (fX4_leaveOver_38_b34 k4 p1 p2 μ) := by
  unfold fX4_leaveOver_38_b34
  refine ao_aload_n (pc := 34) X dX4_leaveOver_34 rfl ?_
  refine ao_getR (pc := 35) X dX4_leaveOver_35 fl_RX4_9 sf_38_0 ?_
  refine ao_iload_n (pc := 38) X dX4_leaveOver_38 rfl ?_
  refine ao_iconst (pc := 39) X dX4_leaveOver_39 ic_5 ?_
  refine ao_iast (pc := 40) X dX4_leaveOver_40 sa_39 ?_
  refine ao_lt (fun m2 => ?_)
  refine ao_iload_n (pc := 41) X dX4_leaveOver_41 rfl ?_
  refine ao_iconst (pc := 42) X dX4_leaveOver_42 ic_1 ?_
  refine ao_iload_n (pc := 43) X dX4_leaveOver_43 rfl ?_
  refine ao_ishl (pc := 44) X dX4_leaveOver_44 ?_
  refine ao_ior (pc := 45) X dX4_leaveOver_45 ?_
  refine ao_ltI (fun x3 => ?_)
  refine ao_istore_n (pc := 46) (lv' := [(1, .int x3), (0, .ref (eAd E 38)), (2, .int p2)]) X dX4_leaveOver_46 rfl (by decide) rfl ?_
  refine ao_iinc (pc := 47) (k := 2) (v := p2 + (1 : Int32)) (lv' := [(2, .int (p2 + (1 : Int32))), (1, .int x3), (0, .ref (eAd E 38))]) X dX4_leaveOver_47 rfl (ii_ic ic_1) (by decide) rfl ?_
  refine ao_goto (pc := 50) (tgt := 4) X dX4_leaveOver_50 (by decide) ?_
  refine ao_sub [2, 1, 0] rfl ?_
  exact hk4 x3 (p2 + (1 : Int32)) m2
def fX4_leaveOver_38_b4 : Nat → Int32 → Int32 → Mem → Option (Int32 × Mem)
  | 0, _, _, _ => none
  | n + 1, p1, p2, μ =>
  if (gI μ 5 5) ≤ p2 then (some (p1, μ))
  else gd (inb p2 6) (if (gI μ 39 (ix p2)) = 0 then (fX4_leaveOver_38_b34 (fun p1 p2 m => fX4_leaveOver_38_b4 n p1 p2 m) p1 p2 μ)
    else gd (inb p2 6) (if (gI μ 39 (ix p2)) = (1 : Int32) then (fX4_leaveOver_38_b34 (fun p1 p2 m => fX4_leaveOver_38_b4 n p1 p2 m) p1 p2 μ)
      else fX4_leaveOver_38_b4 n p1 (p2 + (1 : Int32)) μ))
set_option maxRecDepth 100000 in
set_option maxHeartbeats 4000000 in
theorem bX4_leaveOver_38_4 {E : En} {l : Launch} {Z : Zt} (hI : Inj E) (hl0 : lZ l Z) (X : Cx E Z cX4_leaveOver RX4 3 1) (hr : rtOf Z = some .int) : ∀ (n : Nat) (p1 : Int32) (p2 : Int32) (μ : Mem), AO E Z 3 (QI E Z) 4 [(0, .ref (eAd E 38)), (1, .int p1), (2, .int p2)] [] μ (fX4_leaveOver_38_b4 n p1 p2 μ) := by
  intro n
  induction n with
  | zero =>
    intros
    exact ao_none
  | succ n ih =>
    intro p1 p2 μ
    rw [fX4_leaveOver_38_b4]
    refine ao_iload_n (pc := 4) X dX4_leaveOver_4 rfl ?_
    refine ao_aload_n (pc := 5) X dX4_leaveOver_5 rfl ?_
    refine ao_getR (pc := 6) X dX4_leaveOver_6 fl_RX4_31 sf_38_6 ?_
    refine ao_getI (pc := 9) X dX4_leaveOver_9 fl_RX4_54 sf_5_5 ?_
    refine ao_icmp_ge (pc := 12) (tgt := 53) X dX4_leaveOver_12 (by decide) (fun _ => ?_) (fun _ => ?_)
    · refine ao_iload_n (pc := 53) X dX4_leaveOver_53 rfl ?_
      exact ao_iret (pc := 54) X hr dX4_leaveOver_54
    · refine ao_aload_n (pc := 15) X dX4_leaveOver_15 rfl ?_
      refine ao_getR (pc := 16) X dX4_leaveOver_16 fl_RX4_9 sf_38_0 ?_
      refine ao_iload_n (pc := 19) X dX4_leaveOver_19 rfl ?_
      refine ao_iald (pc := 20) X dX4_leaveOver_20 sa_39 ?_
      refine ao_if_eq (pc := 21) (tgt := 34) X dX4_leaveOver_21 (by decide) (fun _ => ?_) (fun _ => ?_)
      · refine ao_sub [0, 1, 2] rfl ?_
        exact bX4_leaveOver_38_34 hI hl0 X hr ih p1 p2 μ
      · refine ao_aload_n (pc := 24) X dX4_leaveOver_24 rfl ?_
        refine ao_getR (pc := 25) X dX4_leaveOver_25 fl_RX4_9 sf_38_0 ?_
        refine ao_iload_n (pc := 28) X dX4_leaveOver_28 rfl ?_
        refine ao_iald (pc := 29) X dX4_leaveOver_29 sa_39 ?_
        refine ao_iconst (pc := 30) X dX4_leaveOver_30 ic_1 ?_
        refine ao_icmp_ne (pc := 31) (tgt := 47) X dX4_leaveOver_31 (by decide) (fun _ => ?_) (fun _ => ?_)
        · refine ao_iinc (pc := 47) (k := 2) (v := p2 + (1 : Int32)) (lv' := [(2, .int (p2 + (1 : Int32))), (0, .ref (eAd E 38)), (1, .int p1)]) X dX4_leaveOver_47 rfl (ii_ic ic_1) (by decide) rfl ?_
          refine ao_goto (pc := 50) (tgt := 4) X dX4_leaveOver_50 (by decide) ?_
          refine ao_sub [1, 2, 0] rfl ?_
          exact ih p1 (p2 + (1 : Int32)) μ
        · refine ao_sub [0, 1, 2] rfl ?_
          exact bX4_leaveOver_38_34 hI hl0 X hr ih p1 p2 μ
def fX4_leaveOver_38 (μ : Mem) : Option (Int32 × Mem) :=
  fX4_leaveOver_38_b4 FU (0 : Int32) (0 : Int32) μ
set_option maxRecDepth 100000 in
set_option maxHeartbeats 4000000 in
theorem mX4_leaveOver_38 {E : En} {l : Launch} (hI : Inj E) (μ : Mem) : MtI E l yX4_leaveOver cX4_leaveOver 3 (some .int) 1 [.ref (eAd E 38)] μ (fX4_leaveOver_38 μ) := by
  refine mtI_of (own := RX4) [(0, .ref (eAd E 38))] hI rfl (by decide) (Nat.le_of_ble_eq_true rfl) (Nat.le_of_ble_eq_true rfl) rfl (fun Z hl0 X hr => ?_)
  unfold fX4_leaveOver_38
  refine ao_iconst (pc := 0) X dX4_leaveOver_0 ic_0 ?_
  refine ao_istore_n (pc := 1) (lv' := [(1, .int (0 : Int32)), (0, .ref (eAd E 38))]) X dX4_leaveOver_1 rfl (by decide) rfl ?_
  refine ao_iconst (pc := 2) X dX4_leaveOver_2 ic_0 ?_
  refine ao_istore_n (pc := 3) (lv' := [(2, .int (0 : Int32)), (1, .int (0 : Int32)), (0, .ref (eAd E 38))]) X dX4_leaveOver_3 rfl (by decide) rfl ?_
  refine ao_sub [2, 1, 0] rfl ?_
  exact bX4_leaveOver_38_4 hI hl0 X hr FU (0 : Int32) (0 : Int32) μ
def fX4_leftWith_38 (v1 : Int32) (v2 : Int32) (v3 : Int32) (v4 : Int32) (μ : Mem) : Option (Int32 × Mem) :=
  gd (inb v1 6) (gd (inb v1 6) (bnd (fX8_worth_19 (gI μ 6 (ix v1)) v2 v3 (v4 &&& (1 : Int32)) (gI μ 7 (ix v1)) v1 μ) fun r1 m2 =>
  some ((imax (-999 : Int32) (imin (999 : Int32) r1)), m2)))
set_option maxRecDepth 100000 in
set_option maxHeartbeats 4000000 in
theorem mX4_leftWith_38 {E : En} {l : Launch} (hI : Inj E) (v1 : Int32) (v2 : Int32) (v3 : Int32) (v4 : Int32) (μ : Mem) : MtI E l yX4_leftWith cX4_leftWith 6 (some .int) 3 [.ref (eAd E 38), .int v1, .int v2, .int v3, .int v4] μ (fX4_leftWith_38 v1 v2 v3 v4 μ) := by
  refine mtI_of (own := RX4) [(0, .ref (eAd E 38)), (1, .int v1), (2, .int v2), (3, .int v3), (4, .int v4)] hI rfl (by decide) (Nat.le_of_ble_eq_true rfl) (Nat.le_of_ble_eq_true rfl) rfl (fun Z hl0 X hr => ?_)
  unfold fX4_leftWith_38
  refine ao_aload_n (pc := 0) X dX4_leftWith_0 rfl ?_
  refine ao_getR (pc := 1) X dX4_leftWith_1 fl_RX4_39 sf_38_8 ?_
  refine ao_aload_n (pc := 4) X dX4_leftWith_4 rfl ?_
  refine ao_getR (pc := 5) X dX4_leftWith_5 fl_RX4_31 sf_38_6 ?_
  refine ao_getR (pc := 8) X dX4_leftWith_8 fl_RX4_127 sf_5_0 ?_
  refine ao_iload_n (pc := 11) X dX4_leftWith_11 rfl ?_
  refine ao_iald (pc := 12) X dX4_leftWith_12 sa_6 ?_
  refine ao_iload_n (pc := 13) X dX4_leftWith_13 rfl ?_
  refine ao_iload_n (pc := 14) X dX4_leftWith_14 rfl ?_
  refine ao_iload (pc := 15) X dX4_leftWith_15 rfl ?_
  refine ao_iconst (pc := 17) X dX4_leftWith_17 ic_1 ?_
  refine ao_iand (pc := 18) X dX4_leftWith_18 ?_
  refine ao_aload_n (pc := 19) X dX4_leftWith_19 rfl ?_
  refine ao_getR (pc := 20) X dX4_leftWith_20 fl_RX4_31 sf_38_6 ?_
  refine ao_getR (pc := 23) X dX4_leftWith_23 fl_RX4_83 sf_5_1 ?_
  refine ao_iload_n (pc := 26) X dX4_leftWith_26 rfl ?_
  refine ao_iald (pc := 27) X dX4_leftWith_27 sa_7 ?_
  refine ao_iload_n (pc := 28) X dX4_leftWith_28 rfl ?_
  refine ao_callVI (pc := 29) (As := [.int (gI μ 6 (ix v1)), .int v2, .int v3, .int (v4 &&& (1 : Int32)), .int (gI μ 7 (ix v1)), .int v1]) (st := []) X hl0 dX4_leftWith_29 yv_X8_worth so_19 ml_RX4_130 (mX8_worth_19 hI (gI μ 6 (ix v1)) v2 v3 (v4 &&& (1 : Int32)) (gI μ 7 (ix v1)) v1 μ) (Nat.le_of_ble_eq_true rfl) rfl rfl (Nat.le_of_ble_eq_true rfl) (fun r1 m2 => ?_)
  refine ao_istore (pc := 32) (lv' := [(5, .int r1), (0, .ref (eAd E 38)), (1, .int v1), (2, .int v2), (3, .int v3), (4, .int v4)]) X dX4_leftWith_32 (by decide) rfl ?_
  refine ao_sipush (pc := 34) X dX4_leftWith_34 sp_m999 ?_
  refine ao_sipush (pc := 37) X dX4_leftWith_37 sp_999 ?_
  refine ao_iload (pc := 40) X dX4_leftWith_40 rfl ?_
  refine ao_min (pc := 42) X dX4_leftWith_42 ml_RX4_66 MinW_ok (Nat.le_of_ble_eq_true rfl) ?_
  refine ao_max (pc := 45) X dX4_leftWith_45 ml_RX4_72 MaxW_ok (Nat.le_of_ble_eq_true rfl) ?_
  exact ao_iret (pc := 48) X hr dX4_leftWith_48
def fX4_night_38_b87 : Nat → Int32 → Int32 → Int32 → Mem → Option (Int32 × Mem)
  | 0, _, _, _, _ => none
  | n + 1, p1, p2, p3, μ =>
  if (gI μ 11 3) ≤ p3 then (lt (sI μ 38 4 ((gI μ 38 4) + (1 : Int32))) fun m12 =>
    if (gI m12 38 4) = p1 then (bnd (fX4_leaveOver_38 m12) fun r13 m14 =>
      some ((p2 ||| (r13 <<< ((8 : Int32) &&& 31))), m14))
    else some (p2, m12))
  else gd (inb p3 8) (gd (inb p3 8) (gd (inb p3 8) (lt (sI μ 42 (ix p3) (imax (0 : Int32) ((gI μ 42 (ix p3)) - (gI μ 14 (ix p3))))) fun m15 =>
    fX4_night_38_b87 n p1 p2 (p3 + (1 : Int32)) m15)))
set_option maxRecDepth 100000 in
set_option maxHeartbeats 4000000 in
theorem bX4_night_38_87 {E : En} {l : Launch} {Z : Zt} (hI : Inj E) (hl0 : lZ l Z) (X : Cx E Z cX4_night RX4 4 4) (hr : rtOf Z = some .int) : ∀ (n : Nat) (p1 : Int32) (p2 : Int32) (p3 : Int32) (μ : Mem), AO E Z 4 (QI E Z) 87 [(0, .ref (eAd E 38)), (1, .int p1), (2, .int p2), (3, .int p3)] [] μ (fX4_night_38_b87 n p1 p2 p3 μ) := by
  intro n
  induction n with
  | zero =>
    intros
    exact ao_none
  | succ n ih =>
    intro p1 p2 p3 μ
    rw [fX4_night_38_b87]
    refine ao_iload_n (pc := 87) X dX4_night_87 rfl ?_
    refine ao_aload_n (pc := 88) X dX4_night_88 rfl ?_
    refine ao_getR (pc := 89) X dX4_night_89 fl_RX4_35 sf_38_7 ?_
    refine ao_getI (pc := 92) X dX4_night_92 fl_RX4_119 sf_11_3 ?_
    refine ao_icmp_ge (pc := 95) (tgt := 130) X dX4_night_95 (by decide) (fun _ => ?_) (fun _ => ?_)
    · refine ao_aload_n (pc := 130) X dX4_night_130 rfl ?_
      refine ao_dup (pc := 131) X dX4_night_131 rfl ?_
      refine ao_getI (pc := 132) X dX4_night_132 fl_RX4_24 sf_38_4 ?_
      refine ao_iconst (pc := 135) X dX4_night_135 ic_1 ?_
      refine ao_iadd (pc := 136) X dX4_night_136 ?_
      refine ao_putI (pc := 137) X dX4_night_137 fp_RX4_24 sf_38_4 ?_
      refine ao_lt (fun m12 => ?_)
      refine ao_aload_n (pc := 140) X dX4_night_140 rfl ?_
      refine ao_getI (pc := 141) X dX4_night_141 fl_RX4_24 sf_38_4 ?_
      refine ao_iload_n (pc := 144) X dX4_night_144 rfl ?_
      refine ao_icmp_ne (pc := 145) (tgt := 160) X dX4_night_145 (by decide) (fun _ => ?_) (fun _ => ?_)
      · refine ao_iload_n (pc := 160) X dX4_night_160 rfl ?_
        exact ao_iret (pc := 161) X hr dX4_night_161
      · refine ao_iload_n (pc := 148) X dX4_night_148 rfl ?_
        refine ao_aload_n (pc := 149) X dX4_night_149 rfl ?_
        refine ao_callVI (pc := 150) (As := []) (st := [.int p2]) X hl0 dX4_night_150 yv_X4_leaveOver so_38 ml_RX4_123 (mX4_leaveOver_38 hI m12) (Nat.le_of_ble_eq_true rfl) rfl rfl (Nat.le_of_ble_eq_true rfl) (fun r13 m14 => ?_)
        refine ao_bipush (pc := 153) X dX4_night_153 bp_8 ?_
        refine ao_ishl (pc := 155) X dX4_night_155 ?_
        refine ao_ior (pc := 156) X dX4_night_156 ?_
        refine ao_goto (pc := 157) (tgt := 161) X dX4_night_157 (by decide) ?_
        exact ao_iret (pc := 161) X hr dX4_night_161
    · refine ao_aload_n (pc := 98) X dX4_night_98 rfl ?_
      refine ao_getR (pc := 99) X dX4_night_99 fl_RX4_21 sf_38_3 ?_
      refine ao_iload_n (pc := 102) X dX4_night_102 rfl ?_
      refine ao_iconst (pc := 103) X dX4_night_103 ic_0 ?_
      refine ao_aload_n (pc := 104) X dX4_night_104 rfl ?_
      refine ao_getR (pc := 105) X dX4_night_105 fl_RX4_21 sf_38_3 ?_
      refine ao_iload_n (pc := 108) X dX4_night_108 rfl ?_
      refine ao_iald (pc := 109) X dX4_night_109 sa_42 ?_
      refine ao_aload_n (pc := 110) X dX4_night_110 rfl ?_
      refine ao_getR (pc := 111) X dX4_night_111 fl_RX4_35 sf_38_7 ?_
      refine ao_getR (pc := 114) X dX4_night_114 fl_RX4_120 sf_11_2 ?_
      refine ao_iload_n (pc := 117) X dX4_night_117 rfl ?_
      refine ao_iald (pc := 118) X dX4_night_118 sa_14 ?_
      refine ao_isub (pc := 119) X dX4_night_119 ?_
      refine ao_max (pc := 120) X dX4_night_120 ml_RX4_72 MaxW_ok (Nat.le_of_ble_eq_true rfl) ?_
      refine ao_iast (pc := 123) X dX4_night_123 sa_42 ?_
      refine ao_lt (fun m15 => ?_)
      refine ao_iinc (pc := 124) (k := 3) (v := p3 + (1 : Int32)) (lv' := [(3, .int (p3 + (1 : Int32))), (0, .ref (eAd E 38)), (1, .int p1), (2, .int p2)]) X dX4_night_124 rfl (ii_ic ic_1) (by decide) rfl ?_
      refine ao_goto (pc := 127) (tgt := 87) X dX4_night_127 (by decide) ?_
      refine ao_sub [1, 2, 3, 0] rfl ?_
      exact ih p1 p2 (p3 + (1 : Int32)) m15
def fX4_night_38_b4 : Nat → Int32 → Int32 → Int32 → Mem → Option (Int32 × Mem)
  | 0, _, _, _, _ => none
  | n + 1, p1, p2, p3, μ =>
  if (gI μ 5 5) ≤ p3 then (fX4_night_38_b87 FU p1 p2 (0 : Int32) μ)
  else bnd (fX4_isSilent_38 p3 μ) fun r1 m2 =>
    if r1 = 0 then (fX4_night_38_b4 n p1 p2 (p3 + (1 : Int32)) m2)
    else gd (inb p3 6) (if (gI m2 40 (ix p3)) ≤ 0 then (fX4_night_38_b4 n p1 p2 (p3 + (1 : Int32)) m2)
      else gd (inb p3 6) (gd (inb p3 6) (lt (sI m2 41 (ix p3) ((gI m2 41 (ix p3)) + (1 : Int32))) fun m5 =>
        gd (inb p3 6) (gd (inb p3 6) (bnd (fX4_leftWith_38 p3 (gI m5 40 (ix p3)) (gI m5 41 (ix p3)) (gI m5 38 4) m5) fun r6 m7 =>
        if 0 < r6 then (fX4_night_38_b4 n p1 p2 (p3 + (1 : Int32)) m7)
        else gd (inb p3 6) (lt (sI m7 39 (ix p3) (2 : Int32)) fun m9 =>
          lt (p2 ||| ((1 : Int32) <<< (p3 &&& 31))) fun x10 =>
          fX4_night_38_b4 n p1 x10 (p3 + (1 : Int32)) m9))))))
set_option maxRecDepth 100000 in
set_option maxHeartbeats 4000000 in
theorem bX4_night_38_4 {E : En} {l : Launch} {Z : Zt} (hI : Inj E) (hl0 : lZ l Z) (X : Cx E Z cX4_night RX4 4 4) (hr : rtOf Z = some .int) : ∀ (n : Nat) (p1 : Int32) (p2 : Int32) (p3 : Int32) (μ : Mem), AO E Z 4 (QI E Z) 4 [(0, .ref (eAd E 38)), (1, .int p1), (2, .int p2), (3, .int p3)] [] μ (fX4_night_38_b4 n p1 p2 p3 μ) := by
  intro n
  induction n with
  | zero =>
    intros
    exact ao_none
  | succ n ih =>
    intro p1 p2 p3 μ
    rw [fX4_night_38_b4]
    refine ao_iload_n (pc := 4) X dX4_night_4 rfl ?_
    refine ao_aload_n (pc := 5) X dX4_night_5 rfl ?_
    refine ao_getR (pc := 6) X dX4_night_6 fl_RX4_31 sf_38_6 ?_
    refine ao_getI (pc := 9) X dX4_night_9 fl_RX4_54 sf_5_5 ?_
    refine ao_icmp_ge (pc := 12) (tgt := 85) X dX4_night_12 (by decide) (fun _ => ?_) (fun _ => ?_)
    · refine ao_iconst (pc := 85) X dX4_night_85 ic_0 ?_
      refine ao_istore_n (pc := 86) (lv' := [(3, .int (0 : Int32)), (0, .ref (eAd E 38)), (1, .int p1), (2, .int p2)]) X dX4_night_86 rfl (by decide) rfl ?_
      refine ao_sub [1, 2, 3, 0] rfl ?_
      exact bX4_night_38_87 hI hl0 X hr FU p1 p2 (0 : Int32) μ
    · refine ao_aload_n (pc := 15) X dX4_night_15 rfl ?_
      refine ao_iload_n (pc := 16) X dX4_night_16 rfl ?_
      refine ao_callVI (pc := 17) (As := [.int p3]) (st := []) X hl0 dX4_night_17 yv_X4_isSilent so_38 ml_RX4_63 (mX4_isSilent_38 hI p3 μ) (Nat.le_of_ble_eq_true rfl) rfl rfl (Nat.le_of_ble_eq_true rfl) (fun r1 m2 => ?_)
      refine ao_if_eq (pc := 20) (tgt := 79) X dX4_night_20 (by decide) (fun _ => ?_) (fun _ => ?_)
      · refine ao_iinc (pc := 79) (k := 3) (v := p3 + (1 : Int32)) (lv' := [(3, .int (p3 + (1 : Int32))), (0, .ref (eAd E 38)), (1, .int p1), (2, .int p2)]) X dX4_night_79 rfl (ii_ic ic_1) (by decide) rfl ?_
        refine ao_goto (pc := 82) (tgt := 4) X dX4_night_82 (by decide) ?_
        refine ao_sub [1, 2, 3, 0] rfl ?_
        exact ih p1 p2 (p3 + (1 : Int32)) m2
      · refine ao_aload_n (pc := 23) X dX4_night_23 rfl ?_
        refine ao_getR (pc := 24) X dX4_night_24 fl_RX4_15 sf_38_1 ?_
        refine ao_iload_n (pc := 27) X dX4_night_27 rfl ?_
        refine ao_iald (pc := 28) X dX4_night_28 sa_40 ?_
        refine ao_if_le (pc := 29) (tgt := 79) X dX4_night_29 (by decide) (fun _ => ?_) (fun _ => ?_)
        · refine ao_iinc (pc := 79) (k := 3) (v := p3 + (1 : Int32)) (lv' := [(3, .int (p3 + (1 : Int32))), (0, .ref (eAd E 38)), (1, .int p1), (2, .int p2)]) X dX4_night_79 rfl (ii_ic ic_1) (by decide) rfl ?_
          refine ao_goto (pc := 82) (tgt := 4) X dX4_night_82 (by decide) ?_
          refine ao_sub [1, 2, 3, 0] rfl ?_
          exact ih p1 p2 (p3 + (1 : Int32)) m2
        · refine ao_aload_n (pc := 32) X dX4_night_32 rfl ?_
          refine ao_getR (pc := 33) X dX4_night_33 fl_RX4_18 sf_38_2 ?_
          refine ao_iload_n (pc := 36) X dX4_night_36 rfl ?_
          refine ao_dup2 (pc := 37) X dX4_night_37 rfl rfl ?_
          refine ao_iald (pc := 38) X dX4_night_38 sa_41 ?_
          refine ao_iconst (pc := 39) X dX4_night_39 ic_1 ?_
          refine ao_iadd (pc := 40) X dX4_night_40 ?_
          refine ao_iast (pc := 41) X dX4_night_41 sa_41 ?_
          refine ao_lt (fun m5 => ?_)
          refine ao_aload_n (pc := 42) X dX4_night_42 rfl ?_
          refine ao_iload_n (pc := 43) X dX4_night_43 rfl ?_
          refine ao_aload_n (pc := 44) X dX4_night_44 rfl ?_
          refine ao_getR (pc := 45) X dX4_night_45 fl_RX4_15 sf_38_1 ?_
          refine ao_iload_n (pc := 48) X dX4_night_48 rfl ?_
          refine ao_iald (pc := 49) X dX4_night_49 sa_40 ?_
          refine ao_aload_n (pc := 50) X dX4_night_50 rfl ?_
          refine ao_getR (pc := 51) X dX4_night_51 fl_RX4_18 sf_38_2 ?_
          refine ao_iload_n (pc := 54) X dX4_night_54 rfl ?_
          refine ao_iald (pc := 55) X dX4_night_55 sa_41 ?_
          refine ao_aload_n (pc := 56) X dX4_night_56 rfl ?_
          refine ao_getI (pc := 57) X dX4_night_57 fl_RX4_24 sf_38_4 ?_
          refine ao_callVI (pc := 60) (As := [.int p3, .int (gI m5 40 (ix p3)), .int (gI m5 41 (ix p3)), .int (gI m5 38 4)]) (st := []) X hl0 dX4_night_60 yv_X4_leftWith so_38 ml_RX4_115 (mX4_leftWith_38 hI p3 (gI m5 40 (ix p3)) (gI m5 41 (ix p3)) (gI m5 38 4) m5) (Nat.le_of_ble_eq_true rfl) rfl rfl (Nat.le_of_ble_eq_true rfl) (fun r6 m7 => ?_)
          refine ao_if_gt (pc := 63) (tgt := 79) X dX4_night_63 (by decide) (fun _ => ?_) (fun _ => ?_)
          · refine ao_iinc (pc := 79) (k := 3) (v := p3 + (1 : Int32)) (lv' := [(3, .int (p3 + (1 : Int32))), (0, .ref (eAd E 38)), (1, .int p1), (2, .int p2)]) X dX4_night_79 rfl (ii_ic ic_1) (by decide) rfl ?_
            refine ao_goto (pc := 82) (tgt := 4) X dX4_night_82 (by decide) ?_
            refine ao_sub [1, 2, 3, 0] rfl ?_
            exact ih p1 p2 (p3 + (1 : Int32)) m7
          · refine ao_aload_n (pc := 66) X dX4_night_66 rfl ?_
            refine ao_getR (pc := 67) X dX4_night_67 fl_RX4_9 sf_38_0 ?_
            refine ao_iload_n (pc := 70) X dX4_night_70 rfl ?_
            refine ao_iconst (pc := 71) X dX4_night_71 ic_2 ?_
            refine ao_iast (pc := 72) X dX4_night_72 sa_39 ?_
            refine ao_lt (fun m9 => ?_)
            refine ao_iload_n (pc := 73) X dX4_night_73 rfl ?_
            refine ao_iconst (pc := 74) X dX4_night_74 ic_1 ?_
            refine ao_iload_n (pc := 75) X dX4_night_75 rfl ?_
            refine ao_ishl (pc := 76) X dX4_night_76 ?_
            refine ao_ior (pc := 77) X dX4_night_77 ?_
            refine ao_ltI (fun x10 => ?_)
            refine ao_istore_n (pc := 78) (lv' := [(2, .int x10), (0, .ref (eAd E 38)), (1, .int p1), (3, .int p3)]) X dX4_night_78 rfl (by decide) rfl ?_
            refine ao_iinc (pc := 79) (k := 3) (v := p3 + (1 : Int32)) (lv' := [(3, .int (p3 + (1 : Int32))), (2, .int x10), (0, .ref (eAd E 38)), (1, .int p1)]) X dX4_night_79 rfl (ii_ic ic_1) (by decide) rfl ?_
            refine ao_goto (pc := 82) (tgt := 4) X dX4_night_82 (by decide) ?_
            refine ao_sub [2, 3, 1, 0] rfl ?_
            exact ih p1 x10 (p3 + (1 : Int32)) m9
def fX4_night_38 (v1 : Int32) (μ : Mem) : Option (Int32 × Mem) :=
  fX4_night_38_b4 FU v1 (0 : Int32) (0 : Int32) μ
set_option maxRecDepth 100000 in
set_option maxHeartbeats 4000000 in
theorem mX4_night_38 {E : En} {l : Launch} (hI : Inj E) (v1 : Int32) (μ : Mem) : MtI E l yX4_night cX4_night 4 (some .int) 4 [.ref (eAd E 38), .int v1] μ (fX4_night_38 v1 μ) := by
  refine mtI_of (own := RX4) [(0, .ref (eAd E 38)), (1, .int v1)] hI rfl (by decide) (Nat.le_of_ble_eq_true rfl) (Nat.le_of_ble_eq_true rfl) rfl (fun Z hl0 X hr => ?_)
  unfold fX4_night_38
  refine ao_iconst (pc := 0) X dX4_night_0 ic_0 ?_
  refine ao_istore_n (pc := 1) (lv' := [(2, .int (0 : Int32)), (0, .ref (eAd E 38)), (1, .int v1)]) X dX4_night_1 rfl (by decide) rfl ?_
  refine ao_iconst (pc := 2) X dX4_night_2 ic_0 ?_
  refine ao_istore_n (pc := 3) (lv' := [(3, .int (0 : Int32)), (2, .int (0 : Int32)), (0, .ref (eAd E 38)), (1, .int v1)]) X dX4_night_3 rfl (by decide) rfl ?_
  refine ao_sub [2, 3, 1, 0] rfl ?_
  exact bX4_night_38_4 hI hl0 X hr FU v1 (0 : Int32) (0 : Int32) μ
def fX4_pass_38_b5 : Nat → Int32 → Int32 → Int32 → Int32 → Mem → Option (Int32 × Mem)
  | 0, _, _, _, _, _ => none
  | n + 1, p1, p2, p3, p4, μ =>
  if p1 ≤ p4 then (some (p3, μ))
  else bnd (fX4_night_38 p2 μ) fun r1 m2 =>
    lt (p3 ||| r1) fun x3 =>
    fX4_pass_38_b5 n p1 p2 x3 (p4 + (1 : Int32)) m2
set_option maxRecDepth 100000 in
set_option maxHeartbeats 4000000 in
theorem bX4_pass_38_5 {E : En} {l : Launch} {Z : Zt} (hI : Inj E) (hl0 : lZ l Z) (X : Cx E Z cX4_pass RX4 5 5) (hr : rtOf Z = some .int) : ∀ (n : Nat) (p1 : Int32) (p2 : Int32) (p3 : Int32) (p4 : Int32) (μ : Mem), AO E Z 5 (QI E Z) 5 [(0, .ref (eAd E 38)), (1, .int p1), (2, .int p2), (3, .int p3), (4, .int p4)] [] μ (fX4_pass_38_b5 n p1 p2 p3 p4 μ) := by
  intro n
  induction n with
  | zero =>
    intros
    exact ao_none
  | succ n ih =>
    intro p1 p2 p3 p4 μ
    rw [fX4_pass_38_b5]
    refine ao_iload (pc := 5) X dX4_pass_5 rfl ?_
    refine ao_iload_n (pc := 7) X dX4_pass_7 rfl ?_
    refine ao_icmp_ge (pc := 8) (tgt := 25) X dX4_pass_8 (by decide) (fun _ => ?_) (fun _ => ?_)
    · refine ao_iload_n (pc := 25) X dX4_pass_25 rfl ?_
      exact ao_iret (pc := 26) X hr dX4_pass_26
    · refine ao_iload_n (pc := 11) X dX4_pass_11 rfl ?_
      refine ao_aload_n (pc := 12) X dX4_pass_12 rfl ?_
      refine ao_iload_n (pc := 13) X dX4_pass_13 rfl ?_
      refine ao_callVI (pc := 14) (As := [.int p2]) (st := [.int p3]) X hl0 dX4_pass_14 yv_X4_night so_38 ml_RX4_112 (mX4_night_38 hI p2 μ) (Nat.le_of_ble_eq_true rfl) rfl rfl (Nat.le_of_ble_eq_true rfl) (fun r1 m2 => ?_)
      refine ao_ior (pc := 17) X dX4_pass_17 ?_
      refine ao_ltI (fun x3 => ?_)
      refine ao_istore_n (pc := 18) (lv' := [(3, .int x3), (0, .ref (eAd E 38)), (1, .int p1), (2, .int p2), (4, .int p4)]) X dX4_pass_18 rfl (by decide) rfl ?_
      refine ao_iinc (pc := 19) (k := 4) (v := p4 + (1 : Int32)) (lv' := [(4, .int (p4 + (1 : Int32))), (3, .int x3), (0, .ref (eAd E 38)), (1, .int p1), (2, .int p2)]) X dX4_pass_19 rfl (ii_ic ic_1) (by decide) rfl ?_
      refine ao_goto (pc := 22) (tgt := 5) X dX4_pass_22 (by decide) ?_
      refine ao_sub [2, 3, 4, 1, 0] rfl ?_
      exact ih p1 p2 x3 (p4 + (1 : Int32)) m2
def fX4_pass_38 (v1 : Int32) (v2 : Int32) (μ : Mem) : Option (Int32 × Mem) :=
  fX4_pass_38_b5 FU v1 v2 (0 : Int32) (0 : Int32) μ
set_option maxRecDepth 100000 in
set_option maxHeartbeats 4000000 in
theorem mX4_pass_38 {E : En} {l : Launch} (hI : Inj E) (v1 : Int32) (v2 : Int32) (μ : Mem) : MtI E l yX4_pass cX4_pass 5 (some .int) 5 [.ref (eAd E 38), .int v1, .int v2] μ (fX4_pass_38 v1 v2 μ) := by
  refine mtI_of (own := RX4) [(0, .ref (eAd E 38)), (1, .int v1), (2, .int v2)] hI rfl (by decide) (Nat.le_of_ble_eq_true rfl) (Nat.le_of_ble_eq_true rfl) rfl (fun Z hl0 X hr => ?_)
  unfold fX4_pass_38
  refine ao_iconst (pc := 0) X dX4_pass_0 ic_0 ?_
  refine ao_istore_n (pc := 1) (lv' := [(3, .int (0 : Int32)), (0, .ref (eAd E 38)), (1, .int v1), (2, .int v2)]) X dX4_pass_1 rfl (by decide) rfl ?_
  refine ao_iconst (pc := 2) X dX4_pass_2 ic_0 ?_
  refine ao_istore (pc := 3) (lv' := [(4, .int (0 : Int32)), (3, .int (0 : Int32)), (0, .ref (eAd E 38)), (1, .int v1), (2, .int v2)]) X dX4_pass_3 (by decide) rfl ?_
  refine ao_sub [2, 3, 4, 1, 0] rfl ?_
  exact bX4_pass_38_5 hI hl0 X hr FU v1 v2 (0 : Int32) (0 : Int32) μ
def fX4_take_38_33 (μ : Mem) : Option (Unit × Mem) :=
  gd (cpOK (0 : Int32) (0 : Int32) (6 : Int32) 6 6) (lt (sC μ 34 39 (ix (0 : Int32)) (ix (0 : Int32)) (ix (6 : Int32))) fun m1 =>
  gd (cpOK (0 : Int32) (0 : Int32) (6 : Int32) 6 6) (lt (sC m1 35 40 (ix (0 : Int32)) (ix (0 : Int32)) (ix (6 : Int32))) fun m2 =>
  gd (cpOK (0 : Int32) (0 : Int32) (6 : Int32) 6 6) (lt (sC m2 36 41 (ix (0 : Int32)) (ix (0 : Int32)) (ix (6 : Int32))) fun m3 =>
  gd (cpOK (0 : Int32) (0 : Int32) (8 : Int32) 8 8) (lt (sC m3 37 42 (ix (0 : Int32)) (ix (0 : Int32)) (ix (8 : Int32))) fun m4 =>
  lt (sI m4 38 4 (gI m4 33 4)) fun m5 =>
  lt (sI m5 38 5 (0 : Int32)) fun m6 =>
  some ((), m6)))))
set_option maxRecDepth 100000 in
set_option maxHeartbeats 4000000 in
theorem mX4_take_38_33 {E : En} {l : Launch} (hI : Inj E) (μ : Mem) : MtV E l yX4_take cX4_take 2 (none) 1 [.ref (eAd E 38), .ref (eAd E 33)] μ (fX4_take_38_33 μ) := by
  refine mtV_of (own := RX4) [(0, .ref (eAd E 38)), (1, .ref (eAd E 33))] hI rfl (by decide) (Nat.le_of_ble_eq_true rfl) (Nat.le_of_ble_eq_true rfl) rfl (fun Z hl0 X hr => ?_)
  unfold fX4_take_38_33
  refine ao_aload_n (pc := 0) X dX4_take_0 rfl ?_
  refine ao_getR (pc := 1) X dX4_take_1 fl_RX4_9 sf_33_0 ?_
  refine ao_iconst (pc := 4) X dX4_take_4 ic_0 ?_
  refine ao_aload_n (pc := 5) X dX4_take_5 rfl ?_
  refine ao_getR (pc := 6) X dX4_take_6 fl_RX4_9 sf_38_0 ?_
  refine ao_iconst (pc := 9) X dX4_take_9 ic_0 ?_
  refine ao_bipush (pc := 10) X dX4_take_10 bp_6 ?_
  refine ao_copy (pc := 12) X dX4_take_12 ml_RX4_43 CpyW_ok sa_34 sa_39 (Nat.le_of_ble_eq_true rfl) ?_
  refine ao_lt (fun m1 => ?_)
  refine ao_aload_n (pc := 15) X dX4_take_15 rfl ?_
  refine ao_getR (pc := 16) X dX4_take_16 fl_RX4_15 sf_33_1 ?_
  refine ao_iconst (pc := 19) X dX4_take_19 ic_0 ?_
  refine ao_aload_n (pc := 20) X dX4_take_20 rfl ?_
  refine ao_getR (pc := 21) X dX4_take_21 fl_RX4_15 sf_38_1 ?_
  refine ao_iconst (pc := 24) X dX4_take_24 ic_0 ?_
  refine ao_bipush (pc := 25) X dX4_take_25 bp_6 ?_
  refine ao_copy (pc := 27) X dX4_take_27 ml_RX4_43 CpyW_ok sa_35 sa_40 (Nat.le_of_ble_eq_true rfl) ?_
  refine ao_lt (fun m2 => ?_)
  refine ao_aload_n (pc := 30) X dX4_take_30 rfl ?_
  refine ao_getR (pc := 31) X dX4_take_31 fl_RX4_18 sf_33_2 ?_
  refine ao_iconst (pc := 34) X dX4_take_34 ic_0 ?_
  refine ao_aload_n (pc := 35) X dX4_take_35 rfl ?_
  refine ao_getR (pc := 36) X dX4_take_36 fl_RX4_18 sf_38_2 ?_
  refine ao_iconst (pc := 39) X dX4_take_39 ic_0 ?_
  refine ao_bipush (pc := 40) X dX4_take_40 bp_6 ?_
  refine ao_copy (pc := 42) X dX4_take_42 ml_RX4_43 CpyW_ok sa_36 sa_41 (Nat.le_of_ble_eq_true rfl) ?_
  refine ao_lt (fun m3 => ?_)
  refine ao_aload_n (pc := 45) X dX4_take_45 rfl ?_
  refine ao_getR (pc := 46) X dX4_take_46 fl_RX4_21 sf_33_3 ?_
  refine ao_iconst (pc := 49) X dX4_take_49 ic_0 ?_
  refine ao_aload_n (pc := 50) X dX4_take_50 rfl ?_
  refine ao_getR (pc := 51) X dX4_take_51 fl_RX4_21 sf_38_3 ?_
  refine ao_iconst (pc := 54) X dX4_take_54 ic_0 ?_
  refine ao_bipush (pc := 55) X dX4_take_55 bp_8 ?_
  refine ao_copy (pc := 57) X dX4_take_57 ml_RX4_43 CpyW_ok sa_37 sa_42 (Nat.le_of_ble_eq_true rfl) ?_
  refine ao_lt (fun m4 => ?_)
  refine ao_aload_n (pc := 60) X dX4_take_60 rfl ?_
  refine ao_aload_n (pc := 61) X dX4_take_61 rfl ?_
  refine ao_getI (pc := 62) X dX4_take_62 fl_RX4_24 sf_33_4 ?_
  refine ao_putI (pc := 65) X dX4_take_65 fp_RX4_24 sf_38_4 ?_
  refine ao_lt (fun m5 => ?_)
  refine ao_aload_n (pc := 68) X dX4_take_68 rfl ?_
  refine ao_iconst (pc := 69) X dX4_take_69 ic_0 ?_
  refine ao_putI (pc := 70) X dX4_take_70 fp_RX4_28 sf_38_5 ?_
  refine ao_lt (fun m6 => ?_)
  exact ao_vret (pc := 73) X hr dX4_take_73
def fX4_thoseWho_38_b4 : Nat → Int32 → Int32 → Int32 → Mem → Option (Int32 × Mem)
  | 0, _, _, _, _ => none
  | n + 1, p1, p2, p3, μ =>
  if (gI μ 5 5) ≤ p3 then (some (p2, μ))
  else gd (inb p3 6) (if (gI μ 39 (ix p3)) = p1 then (lt (p2 ||| ((1 : Int32) <<< (p3 &&& 31))) fun x3 =>
      fX4_thoseWho_38_b4 n p1 x3 (p3 + (1 : Int32)) μ)
    else lt (p2 ||| (0 : Int32)) fun x1 =>
      fX4_thoseWho_38_b4 n p1 x1 (p3 + (1 : Int32)) μ)
set_option maxRecDepth 100000 in
set_option maxHeartbeats 4000000 in
theorem bX4_thoseWho_38_4 {E : En} {l : Launch} {Z : Zt} (hI : Inj E) (hl0 : lZ l Z) (X : Cx E Z cX4_thoseWho RX4 4 1) (hr : rtOf Z = some .int) : ∀ (n : Nat) (p1 : Int32) (p2 : Int32) (p3 : Int32) (μ : Mem), AO E Z 4 (QI E Z) 4 [(0, .ref (eAd E 38)), (1, .int p1), (2, .int p2), (3, .int p3)] [] μ (fX4_thoseWho_38_b4 n p1 p2 p3 μ) := by
  intro n
  induction n with
  | zero =>
    intros
    exact ao_none
  | succ n ih =>
    intro p1 p2 p3 μ
    rw [fX4_thoseWho_38_b4]
    refine ao_iload_n (pc := 4) X dX4_thoseWho_4 rfl ?_
    refine ao_aload_n (pc := 5) X dX4_thoseWho_5 rfl ?_
    refine ao_getR (pc := 6) X dX4_thoseWho_6 fl_RX4_31 sf_38_6 ?_
    refine ao_getI (pc := 9) X dX4_thoseWho_9 fl_RX4_54 sf_5_5 ?_
    refine ao_icmp_ge (pc := 12) (tgt := 41) X dX4_thoseWho_12 (by decide) (fun _ => ?_) (fun _ => ?_)
    · refine ao_iload_n (pc := 41) X dX4_thoseWho_41 rfl ?_
      exact ao_iret (pc := 42) X hr dX4_thoseWho_42
    · refine ao_iload_n (pc := 15) X dX4_thoseWho_15 rfl ?_
      refine ao_aload_n (pc := 16) X dX4_thoseWho_16 rfl ?_
      refine ao_getR (pc := 17) X dX4_thoseWho_17 fl_RX4_9 sf_38_0 ?_
      refine ao_iload_n (pc := 20) X dX4_thoseWho_20 rfl ?_
      refine ao_iald (pc := 21) X dX4_thoseWho_21 sa_39 ?_
      refine ao_iload_n (pc := 22) X dX4_thoseWho_22 rfl ?_
      refine ao_icmp_ne (pc := 23) (tgt := 32) X dX4_thoseWho_23 (by decide) (fun _ => ?_) (fun _ => ?_)
      · refine ao_iconst (pc := 32) X dX4_thoseWho_32 ic_0 ?_
        refine ao_ior (pc := 33) X dX4_thoseWho_33 ?_
        refine ao_ltI (fun x1 => ?_)
        refine ao_istore_n (pc := 34) (lv' := [(2, .int x1), (0, .ref (eAd E 38)), (1, .int p1), (3, .int p3)]) X dX4_thoseWho_34 rfl (by decide) rfl ?_
        refine ao_iinc (pc := 35) (k := 3) (v := p3 + (1 : Int32)) (lv' := [(3, .int (p3 + (1 : Int32))), (2, .int x1), (0, .ref (eAd E 38)), (1, .int p1)]) X dX4_thoseWho_35 rfl (ii_ic ic_1) (by decide) rfl ?_
        refine ao_goto (pc := 38) (tgt := 4) X dX4_thoseWho_38 (by decide) ?_
        refine ao_sub [2, 3, 1, 0] rfl ?_
        exact ih p1 x1 (p3 + (1 : Int32)) μ
      · refine ao_iconst (pc := 26) X dX4_thoseWho_26 ic_1 ?_
        refine ao_iload_n (pc := 27) X dX4_thoseWho_27 rfl ?_
        refine ao_ishl (pc := 28) X dX4_thoseWho_28 ?_
        refine ao_goto (pc := 29) (tgt := 33) X dX4_thoseWho_29 (by decide) ?_
        refine ao_ior (pc := 33) X dX4_thoseWho_33 ?_
        refine ao_ltI (fun x3 => ?_)
        refine ao_istore_n (pc := 34) (lv' := [(2, .int x3), (0, .ref (eAd E 38)), (1, .int p1), (3, .int p3)]) X dX4_thoseWho_34 rfl (by decide) rfl ?_
        refine ao_iinc (pc := 35) (k := 3) (v := p3 + (1 : Int32)) (lv' := [(3, .int (p3 + (1 : Int32))), (2, .int x3), (0, .ref (eAd E 38)), (1, .int p1)]) X dX4_thoseWho_35 rfl (ii_ic ic_1) (by decide) rfl ?_
        refine ao_goto (pc := 38) (tgt := 4) X dX4_thoseWho_38 (by decide) ?_
        refine ao_sub [2, 3, 1, 0] rfl ?_
        exact ih p1 x3 (p3 + (1 : Int32)) μ
def fX4_thoseWho_38 (v1 : Int32) (μ : Mem) : Option (Int32 × Mem) :=
  fX4_thoseWho_38_b4 FU v1 (0 : Int32) (0 : Int32) μ
set_option maxRecDepth 100000 in
set_option maxHeartbeats 4000000 in
theorem mX4_thoseWho_38 {E : En} {l : Launch} (hI : Inj E) (v1 : Int32) (μ : Mem) : MtI E l yX4_thoseWho cX4_thoseWho 4 (some .int) 1 [.ref (eAd E 38), .int v1] μ (fX4_thoseWho_38 v1 μ) := by
  refine mtI_of (own := RX4) [(0, .ref (eAd E 38)), (1, .int v1)] hI rfl (by decide) (Nat.le_of_ble_eq_true rfl) (Nat.le_of_ble_eq_true rfl) rfl (fun Z hl0 X hr => ?_)
  unfold fX4_thoseWho_38
  refine ao_iconst (pc := 0) X dX4_thoseWho_0 ic_0 ?_
  refine ao_istore_n (pc := 1) (lv' := [(2, .int (0 : Int32)), (0, .ref (eAd E 38)), (1, .int v1)]) X dX4_thoseWho_1 rfl (by decide) rfl ?_
  refine ao_iconst (pc := 2) X dX4_thoseWho_2 ic_0 ?_
  refine ao_istore_n (pc := 3) (lv' := [(3, .int (0 : Int32)), (2, .int (0 : Int32)), (0, .ref (eAd E 38)), (1, .int v1)]) X dX4_thoseWho_3 rfl (by decide) rfl ?_
  refine ao_sub [2, 3, 1, 0] rfl ?_
  exact bX4_thoseWho_38_4 hI hl0 X hr FU v1 (0 : Int32) (0 : Int32) μ
def fX11_silent_0 (v1 : Int32) (μ : Mem) : Option (Int32 × Mem) :=
  if v1 < 0 then (some ((-1 : Int32), μ))
  else if v1 ≤ (60 : Int32) then (bnd (fX4_take_38_33 μ) fun r1 m2 =>
      bnd (fX4_pass_38 v1 (gI m2 0 14) m2) fun r3 m4 =>
      bnd (fX11_diedOf r3 m4) fun r5 m6 =>
      bnd (fJ6_bitCount_0f7a4 r5 m6) fun r7 m8 =>
      bnd (fX11_overOf r3 m8) fun r9 m10 =>
      bnd (fJ6_bitCount_0f7a4 r9 m10) fun r11 m12 =>
      bnd (fX7_tell__3 (Int32.toInt64 r7) (Int32.toInt64 r11) m12) fun r13 m14 =>
      bnd (fX4_thoseWho_38 (0 : Int32) m14) fun r15 m16 =>
      some (r15, m16))
    else some ((-1 : Int32), μ)
set_option maxRecDepth 100000 in
set_option maxHeartbeats 4000000 in
theorem mX11_silent_0 {E : En} {l : Launch} (hI : Inj E) (v1 : Int32) (μ : Mem) : MtI E l yX11_silent cX11_silent 3 (some .int) 6 [.ref (eAd E 0), .int v1] μ (fX11_silent_0 v1 μ) := by
  refine mtI_of (own := RX11) [(0, .ref (eAd E 0)), (1, .int v1)] hI rfl (by decide) (Nat.le_of_ble_eq_true rfl) (Nat.le_of_ble_eq_true rfl) rfl (fun Z hl0 X hr => ?_)
  unfold fX11_silent_0
  refine ao_iload_n (pc := 0) X dX11_silent_0 rfl ?_
  refine ao_if_lt (pc := 1) (tgt := 10) X dX11_silent_1 (by decide) (fun _ => ?_) (fun _ => ?_)
  · refine ao_iconst (pc := 10) X dX11_silent_10 ic_m1 ?_
    exact ao_iret (pc := 11) X hr dX11_silent_11
  · refine ao_iload_n (pc := 4) X dX11_silent_4 rfl ?_
    refine ao_bipush (pc := 5) X dX11_silent_5 bp_60 ?_
    refine ao_icmp_le (pc := 7) (tgt := 12) X dX11_silent_7 (by decide) (fun _ => ?_) (fun _ => ?_)
    · refine ao_aload_n (pc := 12) X dX11_silent_12 rfl ?_
      refine ao_getR (pc := 13) X dX11_silent_13 fl_RX11_69 sf_0_8 ?_
      refine ao_aload_n (pc := 16) X dX11_silent_16 rfl ?_
      refine ao_getR (pc := 17) X dX11_silent_17 fl_RX11_65 sf_0_7 ?_
      refine ao_callVV (pc := 20) (As := [.ref (eAd E 33)]) (st := []) X hl0 dX11_silent_20 yv_X4_take so_38 ml_RX11_297 (mX4_take_38_33 hI μ) (Nat.le_of_ble_eq_true rfl) rfl rfl (Nat.le_of_ble_eq_true rfl) (fun r1 m2 => ?_)
      refine ao_aload_n (pc := 23) X dX11_silent_23 rfl ?_
      refine ao_getR (pc := 24) X dX11_silent_24 fl_RX11_69 sf_0_8 ?_
      refine ao_iload_n (pc := 27) X dX11_silent_27 rfl ?_
      refine ao_aload_n (pc := 28) X dX11_silent_28 rfl ?_
      refine ao_getI (pc := 29) X dX11_silent_29 fl_RX11_100 sf_0_14 ?_
      refine ao_callVI (pc := 32) (As := [.int v1, .int (gI m2 0 14)]) (st := []) X hl0 dX11_silent_32 yv_X4_pass so_38 ml_RX11_232 (mX4_pass_38 hI v1 (gI m2 0 14) m2) (Nat.le_of_ble_eq_true rfl) rfl rfl (Nat.le_of_ble_eq_true rfl) (fun r3 m4 => ?_)
      refine ao_istore_n (pc := 35) (lv' := [(2, .int r3), (0, .ref (eAd E 0)), (1, .int v1)]) X dX11_silent_35 rfl (by decide) rfl ?_
      refine ao_aload_n (pc := 36) X dX11_silent_36 rfl ?_
      refine ao_getR (pc := 37) X dX11_silent_37 fl_RX11_19 sf_0_1 ?_
      refine ao_iload_n (pc := 40) X dX11_silent_40 rfl ?_
      refine ao_callSI (pc := 41) (As := [.int r3]) (st := [.ref (eAd E 3)]) X hl0 dX11_silent_41 yv_X11_diedOf ml_RX11_238 (mX11_diedOf hI r3 m4) (Nat.le_of_ble_eq_true rfl) rfl rfl (Nat.le_of_ble_eq_true rfl) (fun r5 m6 => ?_)
      refine ao_callSI (pc := 44) (As := [.int r5]) (st := [.ref (eAd E 3)]) X hl0 dX11_silent_44 yv_J6_bitCount_0f7a4 ml_RX11_292 (mJ6_bitCount_0f7a4 hI r5 m6) (Nat.le_of_ble_eq_true rfl) rfl rfl (Nat.le_of_ble_eq_true rfl) (fun r7 m8 => ?_)
      refine ao_i2l (pc := 47) X dX11_silent_47 ?_
      refine ao_iload_n (pc := 48) X dX11_silent_48 rfl ?_
      refine ao_callSI (pc := 49) (As := [.int r3]) (st := [.long (Int32.toInt64 r7), .ref (eAd E 3)]) X hl0 dX11_silent_49 yv_X11_overOf ml_RX11_241 (mX11_overOf hI r3 m8) (Nat.le_of_ble_eq_true rfl) rfl rfl (Nat.le_of_ble_eq_true rfl) (fun r9 m10 => ?_)
      refine ao_callSI (pc := 52) (As := [.int r9]) (st := [.long (Int32.toInt64 r7), .ref (eAd E 3)]) X hl0 dX11_silent_52 yv_J6_bitCount_0f7a4 ml_RX11_292 (mJ6_bitCount_0f7a4 hI r9 m10) (Nat.le_of_ble_eq_true rfl) rfl rfl (Nat.le_of_ble_eq_true rfl) (fun r11 m12 => ?_)
      refine ao_i2l (pc := 55) X dX11_silent_55 ?_
      refine ao_callVV (pc := 56) (As := [.long (Int32.toInt64 r7), .long (Int32.toInt64 r11)]) (st := []) X hl0 dX11_silent_56 yv_X7_tell_ so_3 ml_RX11_244 (mX7_tell__3 hI (Int32.toInt64 r7) (Int32.toInt64 r11) m12) (Nat.le_of_ble_eq_true rfl) rfl rfl (Nat.le_of_ble_eq_true rfl) (fun r13 m14 => ?_)
      refine ao_aload_n (pc := 59) X dX11_silent_59 rfl ?_
      refine ao_getR (pc := 60) X dX11_silent_60 fl_RX11_69 sf_0_8 ?_
      refine ao_iconst (pc := 63) X dX11_silent_63 ic_0 ?_
      refine ao_callVI (pc := 64) (As := [.int (0 : Int32)]) (st := []) X hl0 dX11_silent_64 yv_X4_thoseWho so_38 ml_RX11_300 (mX4_thoseWho_38 hI (0 : Int32) m14) (Nat.le_of_ble_eq_true rfl) rfl rfl (Nat.le_of_ble_eq_true rfl) (fun r15 m16 => ?_)
      exact ao_iret (pc := 67) X hr dX11_silent_67
    · refine ao_iconst (pc := 10) X dX11_silent_10 ic_m1 ?_
      exact ao_iret (pc := 11) X hr dX11_silent_11
def fX12_leftNow_122_140 (v2 : Int32) (μ : Mem) : Option (Int32 × Mem) :=
  gd (inb ((6 : Int32) + v2) 27) (gd (inb ((12 : Int32) + v2) 27) (gd (inb (26 : Int32) 27) (bnd (fX12_leftOf_122 v2 (gI μ 140 (ix ((6 : Int32) + v2))) (gI μ 140 (ix ((12 : Int32) + v2))) (gI μ 140 (ix (26 : Int32))) μ) fun r1 m2 =>
  some (r1, m2))))
set_option maxRecDepth 100000 in
set_option maxHeartbeats 4000000 in
theorem mX12_leftNow_122_140 {E : En} {l : Launch} (hI : Inj E) (v2 : Int32) (μ : Mem) : MtI E l yX12_leftNow cX12_leftNow 3 (some .int) 410 [.ref (eAd E 122), .ref (eAd E 140), .int v2] μ (fX12_leftNow_122_140 v2 μ) := by
  refine mtI_of (own := RX12) [(0, .ref (eAd E 122)), (1, .ref (eAd E 140)), (2, .int v2)] hI rfl (by decide) (Nat.le_of_ble_eq_true rfl) (Nat.le_of_ble_eq_true rfl) rfl (fun Z hl0 X hr => ?_)
  unfold fX12_leftNow_122_140
  refine ao_aload_n (pc := 0) X dX12_leftNow_0 rfl ?_
  refine ao_iload_n (pc := 1) X dX12_leftNow_1 rfl ?_
  refine ao_aload_n (pc := 2) X dX12_leftNow_2 rfl ?_
  refine ao_bipush (pc := 3) X dX12_leftNow_3 bp_6 ?_
  refine ao_iload_n (pc := 5) X dX12_leftNow_5 rfl ?_
  refine ao_iadd (pc := 6) X dX12_leftNow_6 ?_
  refine ao_iald (pc := 7) X dX12_leftNow_7 sa_140 ?_
  refine ao_aload_n (pc := 8) X dX12_leftNow_8 rfl ?_
  refine ao_bipush (pc := 9) X dX12_leftNow_9 bp_12 ?_
  refine ao_iload_n (pc := 11) X dX12_leftNow_11 rfl ?_
  refine ao_iadd (pc := 12) X dX12_leftNow_12 ?_
  refine ao_iald (pc := 13) X dX12_leftNow_13 sa_140 ?_
  refine ao_aload_n (pc := 14) X dX12_leftNow_14 rfl ?_
  refine ao_bipush (pc := 15) X dX12_leftNow_15 bp_26 ?_
  refine ao_iald (pc := 17) X dX12_leftNow_17 sa_140 ?_
  refine ao_callVI (pc := 18) (As := [.int v2, .int (gI μ 140 (ix ((6 : Int32) + v2))), .int (gI μ 140 (ix ((12 : Int32) + v2))), .int (gI μ 140 (ix (26 : Int32)))]) (st := []) X hl0 dX12_leftNow_18 yv_X12_leftOf so_122 ml_RX12_220 (mX12_leftOf_122 hI v2 (gI μ 140 (ix ((6 : Int32) + v2))) (gI μ 140 (ix ((12 : Int32) + v2))) (gI μ 140 (ix (26 : Int32))) μ) (Nat.le_of_ble_eq_true rfl) rfl rfl (Nat.le_of_ble_eq_true rfl) (fun r1 m2 => ?_)
  exact ao_iret (pc := 21) X hr dX12_leftNow_21
def fX12_goNight_122_140_b139 (k118 : Int32 → Mem → Option (Unit × Mem)) (p2 : Int32) (μ : Mem) : Option (Unit × Mem) :=
  gd (inb p2 27) (lt (sI μ 140 (ix p2) (5 : Int32)) fun m13 =>
  k118 (p2 + (1 : Int32)) m13)
set_option maxRecDepth 100000 in
set_option maxHeartbeats 4000000 in
theorem bX12_goNight_122_140_139 {E : En} {l : Launch} {Z : Zt} (hI : Inj E) (hl0 : lZ l Z) (X : Cx E Z cX12_goNight RX12 3 411) (hr : rtOf Z = none) {k118 : Int32 → Mem → Option (Unit × Mem)} (hk118 : ∀ (p2 : Int32) (m : Mem), AO E Z 3 (QV E Z) 118 [(0, .ref (eAd E 122)), (1, .ref (eAd E 140)), (2, .int p2)] [] m (k118 p2 m)) (p2 : Int32) (μ : Mem) : AO E Z 3 (QV E Z) 139 [(0, .ref (eAd E 122)), (1, .ref (eAd E 140)), (2, .int p2)] [] μ (fX12_goNight_122_140_b139 k118 p2 μ) := by
  unfold fX12_goNight_122_140_b139
  refine ao_aload_n (pc := 139) X dX12_goNight_139 rfl ?_
  refine ao_iload_n (pc := 140) X dX12_goNight_140 rfl ?_
  refine ao_iconst (pc := 141) X dX12_goNight_141 ic_5 ?_
  refine ao_iast (pc := 142) X dX12_goNight_142 sa_140 ?_
  refine ao_lt (fun m13 => ?_)
  refine ao_iinc (pc := 143) (k := 2) (v := p2 + (1 : Int32)) (lv' := [(2, .int (p2 + (1 : Int32))), (0, .ref (eAd E 122)), (1, .ref (eAd E 140))]) X dX12_goNight_143 rfl (ii_ic ic_1) (by decide) rfl ?_
  refine ao_goto (pc := 146) (tgt := 118) X dX12_goNight_146 (by decide) ?_
  refine ao_sub [1, 2, 0] rfl ?_
  exact hk118 (p2 + (1 : Int32)) m13
def fX12_goNight_122_140_b118 : Nat → Int32 → Mem → Option (Unit × Mem)
  | 0, _, _ => none
  | n + 1, p2, μ =>
  if (gI μ 122 1) ≤ p2 then (some ((), μ))
  else gd (inb p2 27) (if (gI μ 140 (ix p2)) = 0 then (fX12_goNight_122_140_b139 (fun p2 m => fX12_goNight_122_140_b118 n p2 m) p2 μ)
    else gd (inb p2 27) (if (gI μ 140 (ix p2)) = (1 : Int32) then (fX12_goNight_122_140_b139 (fun p2 m => fX12_goNight_122_140_b118 n p2 m) p2 μ)
      else fX12_goNight_122_140_b118 n (p2 + (1 : Int32)) μ))
set_option maxRecDepth 100000 in
set_option maxHeartbeats 4000000 in
theorem bX12_goNight_122_140_118 {E : En} {l : Launch} {Z : Zt} (hI : Inj E) (hl0 : lZ l Z) (X : Cx E Z cX12_goNight RX12 3 411) (hr : rtOf Z = none) : ∀ (n : Nat) (p2 : Int32) (μ : Mem), AO E Z 3 (QV E Z) 118 [(0, .ref (eAd E 122)), (1, .ref (eAd E 140)), (2, .int p2)] [] μ (fX12_goNight_122_140_b118 n p2 μ) := by
  intro n
  induction n with
  | zero =>
    intros
    exact ao_none
  | succ n ih =>
    intro p2 μ
    rw [fX12_goNight_122_140_b118]
    refine ao_iload_n (pc := 118) X dX12_goNight_118 rfl ?_
    refine ao_aload_n (pc := 119) X dX12_goNight_119 rfl ?_
    refine ao_getI (pc := 120) X dX12_goNight_120 fl_RX12_101 sf_122_1 ?_
    refine ao_icmp_ge (pc := 123) (tgt := 149) X dX12_goNight_123 (by decide) (fun _ => ?_) (fun _ => ?_)
    · exact ao_vret (pc := 149) X hr dX12_goNight_149
    · refine ao_aload_n (pc := 126) X dX12_goNight_126 rfl ?_
      refine ao_iload_n (pc := 127) X dX12_goNight_127 rfl ?_
      refine ao_iald (pc := 128) X dX12_goNight_128 sa_140 ?_
      refine ao_if_eq (pc := 129) (tgt := 139) X dX12_goNight_129 (by decide) (fun _ => ?_) (fun _ => ?_)
      · refine ao_sub [0, 1, 2] rfl ?_
        exact bX12_goNight_122_140_139 hI hl0 X hr ih p2 μ
      · refine ao_aload_n (pc := 132) X dX12_goNight_132 rfl ?_
        refine ao_iload_n (pc := 133) X dX12_goNight_133 rfl ?_
        refine ao_iald (pc := 134) X dX12_goNight_134 sa_140 ?_
        refine ao_iconst (pc := 135) X dX12_goNight_135 ic_1 ?_
        refine ao_icmp_ne (pc := 136) (tgt := 143) X dX12_goNight_136 (by decide) (fun _ => ?_) (fun _ => ?_)
        · refine ao_iinc (pc := 143) (k := 2) (v := p2 + (1 : Int32)) (lv' := [(2, .int (p2 + (1 : Int32))), (0, .ref (eAd E 122)), (1, .ref (eAd E 140))]) X dX12_goNight_143 rfl (ii_ic ic_1) (by decide) rfl ?_
          refine ao_goto (pc := 146) (tgt := 118) X dX12_goNight_146 (by decide) ?_
          refine ao_sub [1, 2, 0] rfl ?_
          exact ih (p2 + (1 : Int32)) μ
        · refine ao_sub [0, 1, 2] rfl ?_
          exact bX12_goNight_122_140_139 hI hl0 X hr ih p2 μ
def fX12_goNight_122_140_b59 : Nat → Int32 → Mem → Option (Unit × Mem)
  | 0, _, _ => none
  | n + 1, p2, μ =>
  if (gI μ 122 8) ≤ p2 then (gd (inb (26 : Int32) 27) (gd (inb (26 : Int32) 27) (lt (sI μ 140 (ix (26 : Int32)) ((gI μ 140 (ix (26 : Int32))) + (1 : Int32))) fun m9 =>
    gd (inb (26 : Int32) 27) (if (gI m9 140 (ix (26 : Int32))) = (gI m9 122 12) then (fX12_goNight_122_140_b118 FU (0 : Int32) m9)
    else some ((), m9)))))
  else gd (inb ((18 : Int32) + p2) 27) (gd (inb p2 8) (gd (inb ((18 : Int32) + p2) 27) (lt (sI μ 140 (ix ((18 : Int32) + p2)) (imax (0 : Int32) ((gI μ 140 (ix ((18 : Int32) + p2))) - (gI μ 131 (ix p2))))) fun m10 =>
    fX12_goNight_122_140_b59 n (p2 + (1 : Int32)) m10)))
set_option maxRecDepth 100000 in
set_option maxHeartbeats 4000000 in
theorem bX12_goNight_122_140_59 {E : En} {l : Launch} {Z : Zt} (hI : Inj E) (hl0 : lZ l Z) (X : Cx E Z cX12_goNight RX12 3 411) (hr : rtOf Z = none) : ∀ (n : Nat) (p2 : Int32) (μ : Mem), AO E Z 3 (QV E Z) 59 [(0, .ref (eAd E 122)), (1, .ref (eAd E 140)), (2, .int p2)] [] μ (fX12_goNight_122_140_b59 n p2 μ) := by
  intro n
  induction n with
  | zero =>
    intros
    exact ao_none
  | succ n ih =>
    intro p2 μ
    rw [fX12_goNight_122_140_b59]
    refine ao_iload_n (pc := 59) X dX12_goNight_59 rfl ?_
    refine ao_aload_n (pc := 60) X dX12_goNight_60 rfl ?_
    refine ao_getI (pc := 61) X dX12_goNight_61 fl_RX12_181 sf_122_8 ?_
    refine ao_icmp_ge (pc := 64) (tgt := 96) X dX12_goNight_64 (by decide) (fun _ => ?_) (fun _ => ?_)
    · refine ao_aload_n (pc := 96) X dX12_goNight_96 rfl ?_
      refine ao_bipush (pc := 97) X dX12_goNight_97 bp_26 ?_
      refine ao_dup2 (pc := 99) X dX12_goNight_99 rfl rfl ?_
      refine ao_iald (pc := 100) X dX12_goNight_100 sa_140 ?_
      refine ao_iconst (pc := 101) X dX12_goNight_101 ic_1 ?_
      refine ao_iadd (pc := 102) X dX12_goNight_102 ?_
      refine ao_iast (pc := 103) X dX12_goNight_103 sa_140 ?_
      refine ao_lt (fun m9 => ?_)
      refine ao_aload_n (pc := 104) X dX12_goNight_104 rfl ?_
      refine ao_bipush (pc := 105) X dX12_goNight_105 bp_26 ?_
      refine ao_iald (pc := 107) X dX12_goNight_107 sa_140 ?_
      refine ao_aload_n (pc := 108) X dX12_goNight_108 rfl ?_
      refine ao_getI (pc := 109) X dX12_goNight_109 fl_RX12_41 sf_122_12 ?_
      refine ao_icmp_eq (pc := 112) (tgt := 116) X dX12_goNight_112 (by decide) (fun _ => ?_) (fun _ => ?_)
      · refine ao_iconst (pc := 116) X dX12_goNight_116 ic_0 ?_
        refine ao_istore_n (pc := 117) (lv' := [(2, .int (0 : Int32)), (0, .ref (eAd E 122)), (1, .ref (eAd E 140))]) X dX12_goNight_117 rfl (by decide) rfl ?_
        refine ao_sub [1, 2, 0] rfl ?_
        exact bX12_goNight_122_140_118 hI hl0 X hr FU (0 : Int32) m9
      · exact ao_vret (pc := 115) X hr dX12_goNight_115
    · refine ao_aload_n (pc := 67) X dX12_goNight_67 rfl ?_
      refine ao_bipush (pc := 68) X dX12_goNight_68 bp_18 ?_
      refine ao_iload_n (pc := 70) X dX12_goNight_70 rfl ?_
      refine ao_iadd (pc := 71) X dX12_goNight_71 ?_
      refine ao_iconst (pc := 72) X dX12_goNight_72 ic_0 ?_
      refine ao_aload_n (pc := 73) X dX12_goNight_73 rfl ?_
      refine ao_bipush (pc := 74) X dX12_goNight_74 bp_18 ?_
      refine ao_iload_n (pc := 76) X dX12_goNight_76 rfl ?_
      refine ao_iadd (pc := 77) X dX12_goNight_77 ?_
      refine ao_iald (pc := 78) X dX12_goNight_78 sa_140 ?_
      refine ao_aload_n (pc := 79) X dX12_goNight_79 rfl ?_
      refine ao_getR (pc := 80) X dX12_goNight_80 fl_RX12_35 sf_122_10 ?_
      refine ao_iload_n (pc := 83) X dX12_goNight_83 rfl ?_
      refine ao_iald (pc := 84) X dX12_goNight_84 sa_131 ?_
      refine ao_isub (pc := 85) X dX12_goNight_85 ?_
      refine ao_max (pc := 86) X dX12_goNight_86 ml_RX12_217 MaxW_ok (Nat.le_of_ble_eq_true rfl) ?_
      refine ao_iast (pc := 89) X dX12_goNight_89 sa_140 ?_
      refine ao_lt (fun m10 => ?_)
      refine ao_iinc (pc := 90) (k := 2) (v := p2 + (1 : Int32)) (lv' := [(2, .int (p2 + (1 : Int32))), (0, .ref (eAd E 122)), (1, .ref (eAd E 140))]) X dX12_goNight_90 rfl (ii_ic ic_1) (by decide) rfl ?_
      refine ao_goto (pc := 93) (tgt := 59) X dX12_goNight_93 (by decide) ?_
      refine ao_sub [1, 2, 0] rfl ?_
      exact ih (p2 + (1 : Int32)) m10
def fX12_goNight_122_140_b2 : Nat → Int32 → Mem → Option (Unit × Mem)
  | 0, _, _ => none
  | n + 1, p2, μ =>
  if (gI μ 122 1) ≤ p2 then (fX12_goNight_122_140_b59 FU (0 : Int32) μ)
  else gd (inb p2 27) (if (gI μ 140 (ix p2)) = 0 then (gd (inb ((6 : Int32) + p2) 27) (if (gI μ 140 (ix ((6 : Int32) + p2))) = 0 then (fX12_goNight_122_140_b2 n (p2 + (1 : Int32)) μ)
      else gd (inb ((12 : Int32) + p2) 27) (gd (inb ((12 : Int32) + p2) 27) (lt (sI μ 140 (ix ((12 : Int32) + p2)) ((gI μ 140 (ix ((12 : Int32) + p2))) + (1 : Int32))) fun m2 =>
        bnd (fX12_leftNow_122_140 p2 m2) fun r3 m4 =>
        if 0 < r3 then (fX12_goNight_122_140_b2 n (p2 + (1 : Int32)) m4)
        else gd (inb p2 27) (lt (sI m4 140 (ix p2) (2 : Int32)) fun m6 =>
          fX12_goNight_122_140_b2 n (p2 + (1 : Int32)) m6)))))
    else fX12_goNight_122_140_b2 n (p2 + (1 : Int32)) μ)
set_option maxRecDepth 100000 in
set_option maxHeartbeats 4000000 in
theorem bX12_goNight_122_140_2 {E : En} {l : Launch} {Z : Zt} (hI : Inj E) (hl0 : lZ l Z) (X : Cx E Z cX12_goNight RX12 3 411) (hr : rtOf Z = none) : ∀ (n : Nat) (p2 : Int32) (μ : Mem), AO E Z 3 (QV E Z) 2 [(0, .ref (eAd E 122)), (1, .ref (eAd E 140)), (2, .int p2)] [] μ (fX12_goNight_122_140_b2 n p2 μ) := by
  intro n
  induction n with
  | zero =>
    intros
    exact ao_none
  | succ n ih =>
    intro p2 μ
    rw [fX12_goNight_122_140_b2]
    refine ao_iload_n (pc := 2) X dX12_goNight_2 rfl ?_
    refine ao_aload_n (pc := 3) X dX12_goNight_3 rfl ?_
    refine ao_getI (pc := 4) X dX12_goNight_4 fl_RX12_101 sf_122_1 ?_
    refine ao_icmp_ge (pc := 7) (tgt := 57) X dX12_goNight_7 (by decide) (fun _ => ?_) (fun _ => ?_)
    · refine ao_iconst (pc := 57) X dX12_goNight_57 ic_0 ?_
      refine ao_istore_n (pc := 58) (lv' := [(2, .int (0 : Int32)), (0, .ref (eAd E 122)), (1, .ref (eAd E 140))]) X dX12_goNight_58 rfl (by decide) rfl ?_
      refine ao_sub [1, 2, 0] rfl ?_
      exact bX12_goNight_122_140_59 hI hl0 X hr FU (0 : Int32) μ
    · refine ao_aload_n (pc := 10) X dX12_goNight_10 rfl ?_
      refine ao_iload_n (pc := 11) X dX12_goNight_11 rfl ?_
      refine ao_iald (pc := 12) X dX12_goNight_12 sa_140 ?_
      refine ao_if_ne (pc := 13) (tgt := 51) X dX12_goNight_13 (by decide) (fun _ => ?_) (fun _ => ?_)
      · refine ao_iinc (pc := 51) (k := 2) (v := p2 + (1 : Int32)) (lv' := [(2, .int (p2 + (1 : Int32))), (0, .ref (eAd E 122)), (1, .ref (eAd E 140))]) X dX12_goNight_51 rfl (ii_ic ic_1) (by decide) rfl ?_
        refine ao_goto (pc := 54) (tgt := 2) X dX12_goNight_54 (by decide) ?_
        refine ao_sub [1, 2, 0] rfl ?_
        exact ih (p2 + (1 : Int32)) μ
      · refine ao_aload_n (pc := 16) X dX12_goNight_16 rfl ?_
        refine ao_bipush (pc := 17) X dX12_goNight_17 bp_6 ?_
        refine ao_iload_n (pc := 19) X dX12_goNight_19 rfl ?_
        refine ao_iadd (pc := 20) X dX12_goNight_20 ?_
        refine ao_iald (pc := 21) X dX12_goNight_21 sa_140 ?_
        refine ao_if_ne (pc := 22) (tgt := 28) X dX12_goNight_22 (by decide) (fun _ => ?_) (fun _ => ?_)
        · refine ao_aload_n (pc := 28) X dX12_goNight_28 rfl ?_
          refine ao_bipush (pc := 29) X dX12_goNight_29 bp_12 ?_
          refine ao_iload_n (pc := 31) X dX12_goNight_31 rfl ?_
          refine ao_iadd (pc := 32) X dX12_goNight_32 ?_
          refine ao_dup2 (pc := 33) X dX12_goNight_33 rfl rfl ?_
          refine ao_iald (pc := 34) X dX12_goNight_34 sa_140 ?_
          refine ao_iconst (pc := 35) X dX12_goNight_35 ic_1 ?_
          refine ao_iadd (pc := 36) X dX12_goNight_36 ?_
          refine ao_iast (pc := 37) X dX12_goNight_37 sa_140 ?_
          refine ao_lt (fun m2 => ?_)
          refine ao_aload_n (pc := 38) X dX12_goNight_38 rfl ?_
          refine ao_aload_n (pc := 39) X dX12_goNight_39 rfl ?_
          refine ao_iload_n (pc := 40) X dX12_goNight_40 rfl ?_
          refine ao_callVI (pc := 41) (As := [.ref (eAd E 140), .int p2]) (st := []) X hl0 dX12_goNight_41 yv_X12_leftNow so_122 ml_RX12_231 (mX12_leftNow_122_140 hI p2 m2) (Nat.le_of_ble_eq_true rfl) rfl rfl (Nat.le_of_ble_eq_true rfl) (fun r3 m4 => ?_)
          refine ao_if_gt (pc := 44) (tgt := 51) X dX12_goNight_44 (by decide) (fun _ => ?_) (fun _ => ?_)
          · refine ao_iinc (pc := 51) (k := 2) (v := p2 + (1 : Int32)) (lv' := [(2, .int (p2 + (1 : Int32))), (0, .ref (eAd E 122)), (1, .ref (eAd E 140))]) X dX12_goNight_51 rfl (ii_ic ic_1) (by decide) rfl ?_
            refine ao_goto (pc := 54) (tgt := 2) X dX12_goNight_54 (by decide) ?_
            refine ao_sub [1, 2, 0] rfl ?_
            exact ih (p2 + (1 : Int32)) m4
          · refine ao_aload_n (pc := 47) X dX12_goNight_47 rfl ?_
            refine ao_iload_n (pc := 48) X dX12_goNight_48 rfl ?_
            refine ao_iconst (pc := 49) X dX12_goNight_49 ic_2 ?_
            refine ao_iast (pc := 50) X dX12_goNight_50 sa_140 ?_
            refine ao_lt (fun m6 => ?_)
            refine ao_iinc (pc := 51) (k := 2) (v := p2 + (1 : Int32)) (lv' := [(2, .int (p2 + (1 : Int32))), (0, .ref (eAd E 122)), (1, .ref (eAd E 140))]) X dX12_goNight_51 rfl (ii_ic ic_1) (by decide) rfl ?_
            refine ao_goto (pc := 54) (tgt := 2) X dX12_goNight_54 (by decide) ?_
            refine ao_sub [1, 2, 0] rfl ?_
            exact ih (p2 + (1 : Int32)) m6
        · refine ao_goto (pc := 25) (tgt := 51) X dX12_goNight_25 (by decide) ?_
          refine ao_iinc (pc := 51) (k := 2) (v := p2 + (1 : Int32)) (lv' := [(2, .int (p2 + (1 : Int32))), (0, .ref (eAd E 122)), (1, .ref (eAd E 140))]) X dX12_goNight_51 rfl (ii_ic ic_1) (by decide) rfl ?_
          refine ao_goto (pc := 54) (tgt := 2) X dX12_goNight_54 (by decide) ?_
          refine ao_sub [1, 2, 0] rfl ?_
          exact ih (p2 + (1 : Int32)) μ
def fX12_goNight_122_140 (μ : Mem) : Option (Unit × Mem) :=
  fX12_goNight_122_140_b2 FU (0 : Int32) μ
set_option maxRecDepth 100000 in
set_option maxHeartbeats 4000000 in
theorem mX12_goNight_122_140 {E : En} {l : Launch} (hI : Inj E) (μ : Mem) : MtV E l yX12_goNight cX12_goNight 3 (none) 411 [.ref (eAd E 122), .ref (eAd E 140)] μ (fX12_goNight_122_140 μ) := by
  refine mtV_of (own := RX12) [(0, .ref (eAd E 122)), (1, .ref (eAd E 140))] hI rfl (by decide) (Nat.le_of_ble_eq_true rfl) (Nat.le_of_ble_eq_true rfl) rfl (fun Z hl0 X hr => ?_)
  unfold fX12_goNight_122_140
  refine ao_iconst (pc := 0) X dX12_goNight_0 ic_0 ?_
  refine ao_istore_n (pc := 1) (lv' := [(2, .int (0 : Int32)), (0, .ref (eAd E 122)), (1, .ref (eAd E 140))]) X dX12_goNight_1 rfl (by decide) rfl ?_
  refine ao_sub [1, 2, 0] rfl ?_
  exact bX12_goNight_122_140_2 hI hl0 X hr FU (0 : Int32) μ
def fX12_lay_123_140_b2 : Nat → Int32 → Int32 → Mem → Option (Unit × Mem)
  | 0, _, _, _ => none
  | n + 1, p2, p3, μ =>
  if (27 : Int32) ≤ p3 then (some ((), μ))
  else gd (inb p3 27) (gd (inb (p2 + p3) 27) (lt (sI μ 140 (ix (p2 + p3)) (gI μ 123 (ix p3))) fun m1 =>
    fX12_lay_123_140_b2 n p2 (p3 + (1 : Int32)) m1))
set_option maxRecDepth 100000 in
set_option maxHeartbeats 4000000 in
theorem bX12_lay_123_140_2 {E : En} {l : Launch} {Z : Zt} (hI : Inj E) (hl0 : lZ l Z) (X : Cx E Z cX12_lay RX12 4 1) (hr : rtOf Z = none) : ∀ (n : Nat) (p2 : Int32) (p3 : Int32) (μ : Mem), AO E Z 4 (QV E Z) 2 [(0, .ref (eAd E 123)), (1, .ref (eAd E 140)), (2, .int p2), (3, .int p3)] [] μ (fX12_lay_123_140_b2 n p2 p3 μ) := by
  intro n
  induction n with
  | zero =>
    intros
    exact ao_none
  | succ n ih =>
    intro p2 p3 μ
    rw [fX12_lay_123_140_b2]
    refine ao_iload_n (pc := 2) X dX12_lay_2 rfl ?_
    refine ao_bipush (pc := 3) X dX12_lay_3 bp_27 ?_
    refine ao_icmp_ge (pc := 5) (tgt := 22) X dX12_lay_5 (by decide) (fun _ => ?_) (fun _ => ?_)
    · exact ao_vret (pc := 22) X hr dX12_lay_22
    · refine ao_aload_n (pc := 8) X dX12_lay_8 rfl ?_
      refine ao_iload_n (pc := 9) X dX12_lay_9 rfl ?_
      refine ao_iload_n (pc := 10) X dX12_lay_10 rfl ?_
      refine ao_iadd (pc := 11) X dX12_lay_11 ?_
      refine ao_aload_n (pc := 12) X dX12_lay_12 rfl ?_
      refine ao_iload_n (pc := 13) X dX12_lay_13 rfl ?_
      refine ao_iald (pc := 14) X dX12_lay_14 sa_123 ?_
      refine ao_iast (pc := 15) X dX12_lay_15 sa_140 ?_
      refine ao_lt (fun m1 => ?_)
      refine ao_iinc (pc := 16) (k := 3) (v := p3 + (1 : Int32)) (lv' := [(3, .int (p3 + (1 : Int32))), (0, .ref (eAd E 123)), (1, .ref (eAd E 140)), (2, .int p2)]) X dX12_lay_16 rfl (ii_ic ic_1) (by decide) rfl ?_
      refine ao_goto (pc := 19) (tgt := 2) X dX12_lay_19 (by decide) ?_
      refine ao_sub [1, 2, 3, 0] rfl ?_
      exact ih p2 (p3 + (1 : Int32)) m1
def fX12_lay_123_140 (v2 : Int32) (μ : Mem) : Option (Unit × Mem) :=
  fX12_lay_123_140_b2 FU v2 (0 : Int32) μ
set_option maxRecDepth 100000 in
set_option maxHeartbeats 4000000 in
theorem mX12_lay_123_140 {E : En} {l : Launch} (hI : Inj E) (v2 : Int32) (μ : Mem) : MtV E l yX12_lay cX12_lay 4 (none) 1 [.ref (eAd E 123), .ref (eAd E 140), .int v2] μ (fX12_lay_123_140 v2 μ) := by
  refine mtV_of (own := RX12) [(0, .ref (eAd E 123)), (1, .ref (eAd E 140)), (2, .int v2)] hI rfl (by decide) (Nat.le_of_ble_eq_true rfl) (Nat.le_of_ble_eq_true rfl) rfl (fun Z hl0 X hr => ?_)
  unfold fX12_lay_123_140
  refine ao_iconst (pc := 0) X dX12_lay_0 ic_0 ?_
  refine ao_istore_n (pc := 1) (lv' := [(3, .int (0 : Int32)), (0, .ref (eAd E 123)), (1, .ref (eAd E 140)), (2, .int v2)]) X dX12_lay_1 rfl (by decide) rfl ?_
  refine ao_sub [1, 2, 3, 0] rfl ?_
  exact bX12_lay_123_140_2 hI hl0 X hr FU v2 (0 : Int32) μ
def fX12_ofKind_122_140_b5 : Nat → Int32 → Int32 → Int32 → Mem → Option (Int32 × Mem)
  | 0, _, _, _, _ => none
  | n + 1, p2, p3, p4, μ =>
  if (gI μ 122 1) ≤ p4 then (some (p3, μ))
  else gd (inb p4 27) (if (gI μ 140 (ix p4)) = p2 then (lt (p3 ||| ((1 : Int32) <<< (p4 &&& 31))) fun x3 =>
      fX12_ofKind_122_140_b5 n p2 x3 (p4 + (1 : Int32)) μ)
    else lt (p3 ||| (0 : Int32)) fun x1 =>
      fX12_ofKind_122_140_b5 n p2 x1 (p4 + (1 : Int32)) μ)
set_option maxRecDepth 100000 in
set_option maxHeartbeats 4000000 in
theorem bX12_ofKind_122_140_5 {E : En} {l : Launch} {Z : Zt} (hI : Inj E) (hl0 : lZ l Z) (X : Cx E Z cX12_ofKind RX12 5 1) (hr : rtOf Z = some .int) : ∀ (n : Nat) (p2 : Int32) (p3 : Int32) (p4 : Int32) (μ : Mem), AO E Z 5 (QI E Z) 5 [(0, .ref (eAd E 122)), (1, .ref (eAd E 140)), (2, .int p2), (3, .int p3), (4, .int p4)] [] μ (fX12_ofKind_122_140_b5 n p2 p3 p4 μ) := by
  intro n
  induction n with
  | zero =>
    intros
    exact ao_none
  | succ n ih =>
    intro p2 p3 p4 μ
    rw [fX12_ofKind_122_140_b5]
    refine ao_iload (pc := 5) X dX12_ofKind_5 rfl ?_
    refine ao_aload_n (pc := 7) X dX12_ofKind_7 rfl ?_
    refine ao_getI (pc := 8) X dX12_ofKind_8 fl_RX12_101 sf_122_1 ?_
    refine ao_icmp_ge (pc := 11) (tgt := 39) X dX12_ofKind_11 (by decide) (fun _ => ?_) (fun _ => ?_)
    · refine ao_iload_n (pc := 39) X dX12_ofKind_39 rfl ?_
      exact ao_iret (pc := 40) X hr dX12_ofKind_40
    · refine ao_iload_n (pc := 14) X dX12_ofKind_14 rfl ?_
      refine ao_aload_n (pc := 15) X dX12_ofKind_15 rfl ?_
      refine ao_iload (pc := 16) X dX12_ofKind_16 rfl ?_
      refine ao_iald (pc := 18) X dX12_ofKind_18 sa_140 ?_
      refine ao_iload_n (pc := 19) X dX12_ofKind_19 rfl ?_
      refine ao_icmp_ne (pc := 20) (tgt := 30) X dX12_ofKind_20 (by decide) (fun _ => ?_) (fun _ => ?_)
      · refine ao_iconst (pc := 30) X dX12_ofKind_30 ic_0 ?_
        refine ao_ior (pc := 31) X dX12_ofKind_31 ?_
        refine ao_ltI (fun x1 => ?_)
        refine ao_istore_n (pc := 32) (lv' := [(3, .int x1), (0, .ref (eAd E 122)), (1, .ref (eAd E 140)), (2, .int p2), (4, .int p4)]) X dX12_ofKind_32 rfl (by decide) rfl ?_
        refine ao_iinc (pc := 33) (k := 4) (v := p4 + (1 : Int32)) (lv' := [(4, .int (p4 + (1 : Int32))), (3, .int x1), (0, .ref (eAd E 122)), (1, .ref (eAd E 140)), (2, .int p2)]) X dX12_ofKind_33 rfl (ii_ic ic_1) (by decide) rfl ?_
        refine ao_goto (pc := 36) (tgt := 5) X dX12_ofKind_36 (by decide) ?_
        refine ao_sub [2, 3, 4, 1, 0] rfl ?_
        exact ih p2 x1 (p4 + (1 : Int32)) μ
      · refine ao_iconst (pc := 23) X dX12_ofKind_23 ic_1 ?_
        refine ao_iload (pc := 24) X dX12_ofKind_24 rfl ?_
        refine ao_ishl (pc := 26) X dX12_ofKind_26 ?_
        refine ao_goto (pc := 27) (tgt := 31) X dX12_ofKind_27 (by decide) ?_
        refine ao_ior (pc := 31) X dX12_ofKind_31 ?_
        refine ao_ltI (fun x3 => ?_)
        refine ao_istore_n (pc := 32) (lv' := [(3, .int x3), (0, .ref (eAd E 122)), (1, .ref (eAd E 140)), (2, .int p2), (4, .int p4)]) X dX12_ofKind_32 rfl (by decide) rfl ?_
        refine ao_iinc (pc := 33) (k := 4) (v := p4 + (1 : Int32)) (lv' := [(4, .int (p4 + (1 : Int32))), (3, .int x3), (0, .ref (eAd E 122)), (1, .ref (eAd E 140)), (2, .int p2)]) X dX12_ofKind_33 rfl (ii_ic ic_1) (by decide) rfl ?_
        refine ao_goto (pc := 36) (tgt := 5) X dX12_ofKind_36 (by decide) ?_
        refine ao_sub [2, 3, 4, 1, 0] rfl ?_
        exact ih p2 x3 (p4 + (1 : Int32)) μ
def fX12_ofKind_122_140 (v2 : Int32) (μ : Mem) : Option (Int32 × Mem) :=
  fX12_ofKind_122_140_b5 FU v2 (0 : Int32) (0 : Int32) μ
set_option maxRecDepth 100000 in
set_option maxHeartbeats 4000000 in
theorem mX12_ofKind_122_140 {E : En} {l : Launch} (hI : Inj E) (v2 : Int32) (μ : Mem) : MtI E l yX12_ofKind cX12_ofKind 5 (some .int) 1 [.ref (eAd E 122), .ref (eAd E 140), .int v2] μ (fX12_ofKind_122_140 v2 μ) := by
  refine mtI_of (own := RX12) [(0, .ref (eAd E 122)), (1, .ref (eAd E 140)), (2, .int v2)] hI rfl (by decide) (Nat.le_of_ble_eq_true rfl) (Nat.le_of_ble_eq_true rfl) rfl (fun Z hl0 X hr => ?_)
  unfold fX12_ofKind_122_140
  refine ao_iconst (pc := 0) X dX12_ofKind_0 ic_0 ?_
  refine ao_istore_n (pc := 1) (lv' := [(3, .int (0 : Int32)), (0, .ref (eAd E 122)), (1, .ref (eAd E 140)), (2, .int v2)]) X dX12_ofKind_1 rfl (by decide) rfl ?_
  refine ao_iconst (pc := 2) X dX12_ofKind_2 ic_0 ?_
  refine ao_istore (pc := 3) (lv' := [(4, .int (0 : Int32)), (3, .int (0 : Int32)), (0, .ref (eAd E 122)), (1, .ref (eAd E 140)), (2, .int v2)]) X dX12_ofKind_3 (by decide) rfl ?_
  refine ao_sub [2, 3, 4, 1, 0] rfl ?_
  exact bX12_ofKind_122_140_5 hI hl0 X hr FU v2 (0 : Int32) (0 : Int32) μ
def fX12_silent_122_b31 : Nat → Int32 → Int32 → Mem → Option (Int32 × Mem)
  | 0, _, _, _ => none
  | n + 1, p1, p2, μ =>
  if p1 ≤ p2 then (lt (sI μ 122 16 (0 : Int32)) fun m6 =>
    bnd (fX12_ofKind_122_140 (2 : Int32) m6) fun r7 m8 =>
    bnd (fX12_ofKind_122_123 (2 : Int32) m8) fun r9 m10 =>
    bnd (fJ6_bitCount_0f7a4 (r7 &&& (r9 ^^^ (-1 : Int32))) m10) fun r11 m12 =>
    bnd (fX12_tell_122 (Int32.toInt64 r11) m12) fun r13 m14 =>
    bnd (fX12_ofKind_122_140 (5 : Int32) m14) fun r15 m16 =>
    bnd (fX12_ofKind_122_123 (5 : Int32) m16) fun r17 m18 =>
    bnd (fJ6_bitCount_0f7a4 (r15 &&& (r17 ^^^ (-1 : Int32))) m18) fun r19 m20 =>
    bnd (fX12_tell_122 (Int32.toInt64 r19) m20) fun r21 m22 =>
    bnd (fX12_ofKind_122_140 (0 : Int32) m22) fun r23 m24 =>
    some (r23, m24))
  else bnd (fX12_goNight_122_140 μ) fun r25 m26 =>
    fX12_silent_122_b31 n p1 (p2 + (1 : Int32)) m26
set_option maxRecDepth 100000 in
set_option maxHeartbeats 4000000 in
theorem bX12_silent_122_31 {E : En} {l : Launch} {Z : Zt} (hI : Inj E) (hl0 : lZ l Z) (X : Cx E Z cX12_silent RX12 3 412) (hr : rtOf Z = some .int) : ∀ (n : Nat) (p1 : Int32) (p2 : Int32) (μ : Mem), AO E Z 3 (QI E Z) 31 [(0, .ref (eAd E 122)), (1, .int p1), (2, .int p2)] [] μ (fX12_silent_122_b31 n p1 p2 μ) := by
  intro n
  induction n with
  | zero =>
    intros
    exact ao_none
  | succ n ih =>
    intro p1 p2 μ
    rw [fX12_silent_122_b31]
    refine ao_iload_n (pc := 31) X dX12_silent_31 rfl ?_
    refine ao_iload_n (pc := 32) X dX12_silent_32 rfl ?_
    refine ao_icmp_ge (pc := 33) (tgt := 50) X dX12_silent_33 (by decide) (fun _ => ?_) (fun _ => ?_)
    · refine ao_aload_n (pc := 50) X dX12_silent_50 rfl ?_
      refine ao_iconst (pc := 51) X dX12_silent_51 ic_0 ?_
      refine ao_putI (pc := 52) X dX12_silent_52 fp_RX12_98 sf_122_16 ?_
      refine ao_lt (fun m6 => ?_)
      refine ao_aload_n (pc := 55) X dX12_silent_55 rfl ?_
      refine ao_aload_n (pc := 56) X dX12_silent_56 rfl ?_
      refine ao_aload_n (pc := 57) X dX12_silent_57 rfl ?_
      refine ao_getR (pc := 58) X dX12_silent_58 fl_RX12_68 sf_122_31 ?_
      refine ao_iconst (pc := 61) X dX12_silent_61 ic_2 ?_
      refine ao_callVI (pc := 62) (As := [.ref (eAd E 140), .int (2 : Int32)]) (st := [.ref (eAd E 122)]) X hl0 dX12_silent_62 yv_X12_ofKind so_122 ml_RX12_271 (mX12_ofKind_122_140 hI (2 : Int32) m6) (Nat.le_of_ble_eq_true rfl) rfl rfl (Nat.le_of_ble_eq_true rfl) (fun r7 m8 => ?_)
      refine ao_aload_n (pc := 65) X dX12_silent_65 rfl ?_
      refine ao_aload_n (pc := 66) X dX12_silent_66 rfl ?_
      refine ao_getR (pc := 67) X dX12_silent_67 fl_RX12_9 sf_122_0 ?_
      refine ao_iconst (pc := 70) X dX12_silent_70 ic_2 ?_
      refine ao_callVI (pc := 71) (As := [.ref (eAd E 123), .int (2 : Int32)]) (st := [.int r7, .ref (eAd E 122)]) X hl0 dX12_silent_71 yv_X12_ofKind so_122 ml_RX12_271 (mX12_ofKind_122_123 hI (2 : Int32) m8) (Nat.le_of_ble_eq_true rfl) rfl rfl (Nat.le_of_ble_eq_true rfl) (fun r9 m10 => ?_)
      refine ao_iconst (pc := 74) X dX12_silent_74 ic_m1 ?_
      refine ao_ixor (pc := 75) X dX12_silent_75 ?_
      refine ao_iand (pc := 76) X dX12_silent_76 ?_
      refine ao_callSI (pc := 77) (As := [.int (r7 &&& (r9 ^^^ (-1 : Int32)))]) (st := [.ref (eAd E 122)]) X hl0 dX12_silent_77 yv_J6_bitCount_0f7a4 ml_RX12_296 (mJ6_bitCount_0f7a4 hI (r7 &&& (r9 ^^^ (-1 : Int32))) m10) (Nat.le_of_ble_eq_true rfl) rfl rfl (Nat.le_of_ble_eq_true rfl) (fun r11 m12 => ?_)
      refine ao_i2l (pc := 80) X dX12_silent_80 ?_
      refine ao_callVV (pc := 81) (As := [.long (Int32.toInt64 r11)]) (st := []) X hl0 dX12_silent_81 yv_X12_tell so_122 ml_RX12_267 (mX12_tell_122 hI (Int32.toInt64 r11) m12) (Nat.le_of_ble_eq_true rfl) rfl rfl (Nat.le_of_ble_eq_true rfl) (fun r13 m14 => ?_)
      refine ao_aload_n (pc := 84) X dX12_silent_84 rfl ?_
      refine ao_aload_n (pc := 85) X dX12_silent_85 rfl ?_
      refine ao_aload_n (pc := 86) X dX12_silent_86 rfl ?_
      refine ao_getR (pc := 87) X dX12_silent_87 fl_RX12_68 sf_122_31 ?_
      refine ao_iconst (pc := 90) X dX12_silent_90 ic_5 ?_
      refine ao_callVI (pc := 91) (As := [.ref (eAd E 140), .int (5 : Int32)]) (st := [.ref (eAd E 122)]) X hl0 dX12_silent_91 yv_X12_ofKind so_122 ml_RX12_271 (mX12_ofKind_122_140 hI (5 : Int32) m14) (Nat.le_of_ble_eq_true rfl) rfl rfl (Nat.le_of_ble_eq_true rfl) (fun r15 m16 => ?_)
      refine ao_aload_n (pc := 94) X dX12_silent_94 rfl ?_
      refine ao_aload_n (pc := 95) X dX12_silent_95 rfl ?_
      refine ao_getR (pc := 96) X dX12_silent_96 fl_RX12_9 sf_122_0 ?_
      refine ao_iconst (pc := 99) X dX12_silent_99 ic_5 ?_
      refine ao_callVI (pc := 100) (As := [.ref (eAd E 123), .int (5 : Int32)]) (st := [.int r15, .ref (eAd E 122)]) X hl0 dX12_silent_100 yv_X12_ofKind so_122 ml_RX12_271 (mX12_ofKind_122_123 hI (5 : Int32) m16) (Nat.le_of_ble_eq_true rfl) rfl rfl (Nat.le_of_ble_eq_true rfl) (fun r17 m18 => ?_)
      refine ao_iconst (pc := 103) X dX12_silent_103 ic_m1 ?_
      refine ao_ixor (pc := 104) X dX12_silent_104 ?_
      refine ao_iand (pc := 105) X dX12_silent_105 ?_
      refine ao_callSI (pc := 106) (As := [.int (r15 &&& (r17 ^^^ (-1 : Int32)))]) (st := [.ref (eAd E 122)]) X hl0 dX12_silent_106 yv_J6_bitCount_0f7a4 ml_RX12_296 (mJ6_bitCount_0f7a4 hI (r15 &&& (r17 ^^^ (-1 : Int32))) m18) (Nat.le_of_ble_eq_true rfl) rfl rfl (Nat.le_of_ble_eq_true rfl) (fun r19 m20 => ?_)
      refine ao_i2l (pc := 109) X dX12_silent_109 ?_
      refine ao_callVV (pc := 110) (As := [.long (Int32.toInt64 r19)]) (st := []) X hl0 dX12_silent_110 yv_X12_tell so_122 ml_RX12_267 (mX12_tell_122 hI (Int32.toInt64 r19) m20) (Nat.le_of_ble_eq_true rfl) rfl rfl (Nat.le_of_ble_eq_true rfl) (fun r21 m22 => ?_)
      refine ao_aload_n (pc := 113) X dX12_silent_113 rfl ?_
      refine ao_aload_n (pc := 114) X dX12_silent_114 rfl ?_
      refine ao_getR (pc := 115) X dX12_silent_115 fl_RX12_68 sf_122_31 ?_
      refine ao_iconst (pc := 118) X dX12_silent_118 ic_0 ?_
      refine ao_callVI (pc := 119) (As := [.ref (eAd E 140), .int (0 : Int32)]) (st := []) X hl0 dX12_silent_119 yv_X12_ofKind so_122 ml_RX12_271 (mX12_ofKind_122_140 hI (0 : Int32) m22) (Nat.le_of_ble_eq_true rfl) rfl rfl (Nat.le_of_ble_eq_true rfl) (fun r23 m24 => ?_)
      exact ao_iret (pc := 122) X hr dX12_silent_122
    · refine ao_aload_n (pc := 36) X dX12_silent_36 rfl ?_
      refine ao_aload_n (pc := 37) X dX12_silent_37 rfl ?_
      refine ao_getR (pc := 38) X dX12_silent_38 fl_RX12_68 sf_122_31 ?_
      refine ao_callVV (pc := 41) (As := [.ref (eAd E 140)]) (st := []) X hl0 dX12_silent_41 yv_X12_goNight so_122 ml_RX12_274 (mX12_goNight_122_140 hI μ) (Nat.le_of_ble_eq_true rfl) rfl rfl (Nat.le_of_ble_eq_true rfl) (fun r25 m26 => ?_)
      refine ao_iinc (pc := 44) (k := 2) (v := p2 + (1 : Int32)) (lv' := [(2, .int (p2 + (1 : Int32))), (0, .ref (eAd E 122)), (1, .int p1)]) X dX12_silent_44 rfl (ii_ic ic_1) (by decide) rfl ?_
      refine ao_goto (pc := 47) (tgt := 31) X dX12_silent_47 (by decide) ?_
      refine ao_sub [1, 2, 0] rfl ?_
      exact ih p1 (p2 + (1 : Int32)) m26
def fX12_silent_122 (v1 : Int32) (μ : Mem) : Option (Int32 × Mem) :=
  lt (sI μ 122 17 (0 : Int32)) fun m1 =>
  bnd (fX12_in v1 (0 : Int32) (60 : Int32) m1) fun r2 m3 =>
  if r2 = 0 then (some ((-1 : Int32), m3))
  else bnd (fX12_lay_123_140 (0 : Int32) m3) fun r4 m5 =>
    fX12_silent_122_b31 FU v1 (0 : Int32) m5
set_option maxRecDepth 100000 in
set_option maxHeartbeats 4000000 in
theorem mX12_silent_122 {E : En} {l : Launch} (hI : Inj E) (v1 : Int32) (μ : Mem) : MtI E l yX12_silent cX12_silent 3 (some .int) 412 [.ref (eAd E 122), .int v1] μ (fX12_silent_122 v1 μ) := by
  refine mtI_of (own := RX12) [(0, .ref (eAd E 122)), (1, .int v1)] hI rfl (by decide) (Nat.le_of_ble_eq_true rfl) (Nat.le_of_ble_eq_true rfl) rfl (fun Z hl0 X hr => ?_)
  unfold fX12_silent_122
  refine ao_aload_n (pc := 0) X dX12_silent_0 rfl ?_
  refine ao_iconst (pc := 1) X dX12_silent_1 ic_0 ?_
  refine ao_putI (pc := 2) X dX12_silent_2 fp_RX12_95 sf_122_17 ?_
  refine ao_lt (fun m1 => ?_)
  refine ao_iload_n (pc := 5) X dX12_silent_5 rfl ?_
  refine ao_iconst (pc := 6) X dX12_silent_6 ic_0 ?_
  refine ao_bipush (pc := 7) X dX12_silent_7 bp_60 ?_
  refine ao_callSI (pc := 9) (As := [.int v1, .int (0 : Int32), .int (60 : Int32)]) (st := []) X hl0 dX12_silent_9 yv_X12_in ml_RX12_104 (mX12_in hI v1 (0 : Int32) (60 : Int32) m1) (Nat.le_of_ble_eq_true rfl) rfl rfl (Nat.le_of_ble_eq_true rfl) (fun r2 m3 => ?_)
  refine ao_if_ne (pc := 12) (tgt := 17) X dX12_silent_12 (by decide) (fun _ => ?_) (fun _ => ?_)
  · refine ao_aload_n (pc := 17) X dX12_silent_17 rfl ?_
    refine ao_getR (pc := 18) X dX12_silent_18 fl_RX12_9 sf_122_0 ?_
    refine ao_aload_n (pc := 21) X dX12_silent_21 rfl ?_
    refine ao_getR (pc := 22) X dX12_silent_22 fl_RX12_68 sf_122_31 ?_
    refine ao_iconst (pc := 25) X dX12_silent_25 ic_0 ?_
    refine ao_callSV (pc := 26) (As := [.ref (eAd E 123), .ref (eAd E 140), .int (0 : Int32)]) (st := []) X hl0 dX12_silent_26 yv_X12_lay ml_RX12_242 (mX12_lay_123_140 hI (0 : Int32) m3) (Nat.le_of_ble_eq_true rfl) rfl rfl (Nat.le_of_ble_eq_true rfl) (fun r4 m5 => ?_)
    refine ao_iconst (pc := 29) X dX12_silent_29 ic_0 ?_
    refine ao_istore_n (pc := 30) (lv' := [(2, .int (0 : Int32)), (0, .ref (eAd E 122)), (1, .int v1)]) X dX12_silent_30 rfl (by decide) rfl ?_
    refine ao_sub [1, 2, 0] rfl ?_
    exact bX12_silent_122_31 hI hl0 X hr FU v1 (0 : Int32) m5
  · refine ao_iconst (pc := 15) X dX12_silent_15 ic_m1 ?_
    exact ao_iret (pc := 16) X hr dX12_silent_16
def fX4_speakersIn_33_b5 : Nat → Int32 → Int32 → Int32 → Int32 → Mem → Option (Int32 × Mem)
  | 0, _, _, _, _, _ => none
  | n + 1, p1, p2, p3, p4, μ =>
  if (gI μ 11 3) ≤ p4 then (some (p3, μ))
  else gd (inb p4 8) (if (gI μ 12 (ix p4)) = p1 then (bnd (fX4_wordIn_33 p4 p2 μ) fun r3 m4 =>
      if r3 ≤ 0 then (lt (p3 + (0 : Int32)) fun x5 =>
        fX4_speakersIn_33_b5 n p1 p2 x5 (p4 + (1 : Int32)) m4)
      else lt (p3 + (1 : Int32)) fun x7 =>
        fX4_speakersIn_33_b5 n p1 p2 x7 (p4 + (1 : Int32)) m4)
    else lt (p3 + (0 : Int32)) fun x1 =>
      fX4_speakersIn_33_b5 n p1 p2 x1 (p4 + (1 : Int32)) μ)
set_option maxRecDepth 100000 in
set_option maxHeartbeats 4000000 in
theorem bX4_speakersIn_33_5 {E : En} {l : Launch} {Z : Zt} (hI : Inj E) (hl0 : lZ l Z) (X : Cx E Z cX4_speakersIn RX4 5 2) (hr : rtOf Z = some .int) : ∀ (n : Nat) (p1 : Int32) (p2 : Int32) (p3 : Int32) (p4 : Int32) (μ : Mem), AO E Z 5 (QI E Z) 5 [(0, .ref (eAd E 33)), (1, .int p1), (2, .int p2), (3, .int p3), (4, .int p4)] [] μ (fX4_speakersIn_33_b5 n p1 p2 p3 p4 μ) := by
  intro n
  induction n with
  | zero =>
    intros
    exact ao_none
  | succ n ih =>
    intro p1 p2 p3 p4 μ
    rw [fX4_speakersIn_33_b5]
    refine ao_iload (pc := 5) X dX4_speakersIn_5 rfl ?_
    refine ao_aload_n (pc := 7) X dX4_speakersIn_7 rfl ?_
    refine ao_getR (pc := 8) X dX4_speakersIn_8 fl_RX4_35 sf_33_7 ?_
    refine ao_getI (pc := 11) X dX4_speakersIn_11 fl_RX4_119 sf_11_3 ?_
    refine ao_icmp_ge (pc := 14) (tgt := 55) X dX4_speakersIn_14 (by decide) (fun _ => ?_) (fun _ => ?_)
    · refine ao_iload_n (pc := 55) X dX4_speakersIn_55 rfl ?_
      exact ao_iret (pc := 56) X hr dX4_speakersIn_56
    · refine ao_iload_n (pc := 17) X dX4_speakersIn_17 rfl ?_
      refine ao_aload_n (pc := 18) X dX4_speakersIn_18 rfl ?_
      refine ao_getR (pc := 19) X dX4_speakersIn_19 fl_RX4_35 sf_33_7 ?_
      refine ao_getR (pc := 22) X dX4_speakersIn_22 fl_RX4_143 sf_11_0 ?_
      refine ao_iload (pc := 25) X dX4_speakersIn_25 rfl ?_
      refine ao_iald (pc := 27) X dX4_speakersIn_27 sa_12 ?_
      refine ao_iload_n (pc := 28) X dX4_speakersIn_28 rfl ?_
      refine ao_icmp_ne (pc := 29) (tgt := 46) X dX4_speakersIn_29 (by decide) (fun _ => ?_) (fun _ => ?_)
      · refine ao_iconst (pc := 46) X dX4_speakersIn_46 ic_0 ?_
        refine ao_iadd (pc := 47) X dX4_speakersIn_47 ?_
        refine ao_ltI (fun x1 => ?_)
        refine ao_istore_n (pc := 48) (lv' := [(3, .int x1), (0, .ref (eAd E 33)), (1, .int p1), (2, .int p2), (4, .int p4)]) X dX4_speakersIn_48 rfl (by decide) rfl ?_
        refine ao_iinc (pc := 49) (k := 4) (v := p4 + (1 : Int32)) (lv' := [(4, .int (p4 + (1 : Int32))), (3, .int x1), (0, .ref (eAd E 33)), (1, .int p1), (2, .int p2)]) X dX4_speakersIn_49 rfl (ii_ic ic_1) (by decide) rfl ?_
        refine ao_goto (pc := 52) (tgt := 5) X dX4_speakersIn_52 (by decide) ?_
        refine ao_sub [2, 3, 4, 1, 0] rfl ?_
        exact ih p1 p2 x1 (p4 + (1 : Int32)) μ
      · refine ao_aload_n (pc := 32) X dX4_speakersIn_32 rfl ?_
        refine ao_iload (pc := 33) X dX4_speakersIn_33 rfl ?_
        refine ao_iload_n (pc := 35) X dX4_speakersIn_35 rfl ?_
        refine ao_callVI (pc := 36) (As := [.int p4, .int p2]) (st := [.int p3]) X hl0 dX4_speakersIn_36 yv_X4_wordIn so_33 ml_RX4_146 (mX4_wordIn_33 hI p4 p2 μ) (Nat.le_of_ble_eq_true rfl) rfl rfl (Nat.le_of_ble_eq_true rfl) (fun r3 m4 => ?_)
        refine ao_if_le (pc := 39) (tgt := 46) X dX4_speakersIn_39 (by decide) (fun _ => ?_) (fun _ => ?_)
        · refine ao_iconst (pc := 46) X dX4_speakersIn_46 ic_0 ?_
          refine ao_iadd (pc := 47) X dX4_speakersIn_47 ?_
          refine ao_ltI (fun x5 => ?_)
          refine ao_istore_n (pc := 48) (lv' := [(3, .int x5), (0, .ref (eAd E 33)), (1, .int p1), (2, .int p2), (4, .int p4)]) X dX4_speakersIn_48 rfl (by decide) rfl ?_
          refine ao_iinc (pc := 49) (k := 4) (v := p4 + (1 : Int32)) (lv' := [(4, .int (p4 + (1 : Int32))), (3, .int x5), (0, .ref (eAd E 33)), (1, .int p1), (2, .int p2)]) X dX4_speakersIn_49 rfl (ii_ic ic_1) (by decide) rfl ?_
          refine ao_goto (pc := 52) (tgt := 5) X dX4_speakersIn_52 (by decide) ?_
          refine ao_sub [2, 3, 4, 1, 0] rfl ?_
          exact ih p1 p2 x5 (p4 + (1 : Int32)) m4
        · refine ao_iconst (pc := 42) X dX4_speakersIn_42 ic_1 ?_
          refine ao_goto (pc := 43) (tgt := 47) X dX4_speakersIn_43 (by decide) ?_
          refine ao_iadd (pc := 47) X dX4_speakersIn_47 ?_
          refine ao_ltI (fun x7 => ?_)
          refine ao_istore_n (pc := 48) (lv' := [(3, .int x7), (0, .ref (eAd E 33)), (1, .int p1), (2, .int p2), (4, .int p4)]) X dX4_speakersIn_48 rfl (by decide) rfl ?_
          refine ao_iinc (pc := 49) (k := 4) (v := p4 + (1 : Int32)) (lv' := [(4, .int (p4 + (1 : Int32))), (3, .int x7), (0, .ref (eAd E 33)), (1, .int p1), (2, .int p2)]) X dX4_speakersIn_49 rfl (ii_ic ic_1) (by decide) rfl ?_
          refine ao_goto (pc := 52) (tgt := 5) X dX4_speakersIn_52 (by decide) ?_
          refine ao_sub [2, 3, 4, 1, 0] rfl ?_
          exact ih p1 p2 x7 (p4 + (1 : Int32)) m4
def fX4_speakersIn_33 (v1 : Int32) (v2 : Int32) (μ : Mem) : Option (Int32 × Mem) :=
  fX4_speakersIn_33_b5 FU v1 v2 (0 : Int32) (0 : Int32) μ
set_option maxRecDepth 100000 in
set_option maxHeartbeats 4000000 in
theorem mX4_speakersIn_33 {E : En} {l : Launch} (hI : Inj E) (v1 : Int32) (v2 : Int32) (μ : Mem) : MtI E l yX4_speakersIn cX4_speakersIn 5 (some .int) 2 [.ref (eAd E 33), .int v1, .int v2] μ (fX4_speakersIn_33 v1 v2 μ) := by
  refine mtI_of (own := RX4) [(0, .ref (eAd E 33)), (1, .int v1), (2, .int v2)] hI rfl (by decide) (Nat.le_of_ble_eq_true rfl) (Nat.le_of_ble_eq_true rfl) rfl (fun Z hl0 X hr => ?_)
  unfold fX4_speakersIn_33
  refine ao_iconst (pc := 0) X dX4_speakersIn_0 ic_0 ?_
  refine ao_istore_n (pc := 1) (lv' := [(3, .int (0 : Int32)), (0, .ref (eAd E 33)), (1, .int v1), (2, .int v2)]) X dX4_speakersIn_1 rfl (by decide) rfl ?_
  refine ao_iconst (pc := 2) X dX4_speakersIn_2 ic_0 ?_
  refine ao_istore (pc := 3) (lv' := [(4, .int (0 : Int32)), (3, .int (0 : Int32)), (0, .ref (eAd E 33)), (1, .int v1), (2, .int v2)]) X dX4_speakersIn_3 (by decide) rfl ?_
  refine ao_sub [2, 3, 4, 1, 0] rfl ?_
  exact bX4_speakersIn_33_5 hI hl0 X hr FU v1 v2 (0 : Int32) (0 : Int32) μ
def fX11_proof_0_b45 (p1 : Int32) (p2 : Int32) (p3 : Int32) (q0 : Int64) (μ : Mem) : Option (Int32 × Mem) :=
  bnd (fX4_speakersIn_33 p1 p2 μ) fun r5 m6 =>
  bnd (fX7_tell__3 q0 (Int32.toInt64 r5) m6) fun r7 m8 =>
  some (p3, m8)
set_option maxRecDepth 100000 in
set_option maxHeartbeats 4000000 in
theorem bX11_proof_0_45 {E : En} {l : Launch} {Z : Zt} (hI : Inj E) (hl0 : lZ l Z) (X : Cx E Z cX11_proof RX11 4 4) (hr : rtOf Z = some .int) (p1 : Int32) (p2 : Int32) (p3 : Int32) (q0 : Int64) (μ : Mem) : AO E Z 4 (QI E Z) 45 [(0, .ref (eAd E 0)), (1, .int p1), (2, .int p2), (3, .int p3)] [.long q0, .ref (eAd E 3)] μ (fX11_proof_0_b45 p1 p2 p3 q0 μ) := by
  unfold fX11_proof_0_b45
  refine ao_aload_n (pc := 45) X dX11_proof_45 rfl ?_
  refine ao_getR (pc := 46) X dX11_proof_46 fl_RX11_65 sf_0_7 ?_
  refine ao_iload_n (pc := 49) X dX11_proof_49 rfl ?_
  refine ao_iload_n (pc := 50) X dX11_proof_50 rfl ?_
  refine ao_callVI (pc := 51) (As := [.int p1, .int p2]) (st := [.long q0, .ref (eAd E 3)]) X hl0 dX11_proof_51 yv_X4_speakersIn so_33 ml_RX11_303 (mX4_speakersIn_33 hI p1 p2 μ) (Nat.le_of_ble_eq_true rfl) rfl rfl (Nat.le_of_ble_eq_true rfl) (fun r5 m6 => ?_)
  refine ao_i2l (pc := 54) X dX11_proof_54 ?_
  refine ao_callVV (pc := 55) (As := [.long q0, .long (Int32.toInt64 r5)]) (st := []) X hl0 dX11_proof_55 yv_X7_tell_ so_3 ml_RX11_244 (mX7_tell__3 hI q0 (Int32.toInt64 r5) m6) (Nat.le_of_ble_eq_true rfl) rfl rfl (Nat.le_of_ble_eq_true rfl) (fun r7 m8 => ?_)
  refine ao_iload_n (pc := 58) X dX11_proof_58 rfl ?_
  exact ao_iret (pc := 59) X hr dX11_proof_59
def fX11_proof_0 (v1 : Int32) (v2 : Int32) (μ : Mem) : Option (Int32 × Mem) :=
  bnd (fX11_isThere_0 v1 μ) fun r1 m2 =>
  if r1 = 0 then (some ((-1 : Int32), m2))
  else if v2 < 0 then (some ((-1 : Int32), m2))
    else if v2 ≤ (99 : Int32) then (bnd (fX4_proofIn_33 v1 v2 m2) fun r3 m4 =>
        if r3 < (100 : Int32) then (fX11_proof_0_b45 v1 v2 r3 (0 : Int64) m4)
        else fX11_proof_0_b45 v1 v2 r3 (1 : Int64) m4)
      else some ((-1 : Int32), m2)
set_option maxRecDepth 100000 in
set_option maxHeartbeats 4000000 in
theorem mX11_proof_0 {E : En} {l : Launch} (hI : Inj E) (v1 : Int32) (v2 : Int32) (μ : Mem) : MtI E l yX11_proof cX11_proof 4 (some .int) 4 [.ref (eAd E 0), .int v1, .int v2] μ (fX11_proof_0 v1 v2 μ) := by
  refine mtI_of (own := RX11) [(0, .ref (eAd E 0)), (1, .int v1), (2, .int v2)] hI rfl (by decide) (Nat.le_of_ble_eq_true rfl) (Nat.le_of_ble_eq_true rfl) rfl (fun Z hl0 X hr => ?_)
  unfold fX11_proof_0
  refine ao_aload_n (pc := 0) X dX11_proof_0 rfl ?_
  refine ao_iload_n (pc := 1) X dX11_proof_1 rfl ?_
  refine ao_callVI (pc := 2) (As := [.int v1]) (st := []) X hl0 dX11_proof_2 yv_X11_isThere so_0 ml_RX11_147 (mX11_isThere_0 hI v1 μ) (Nat.le_of_ble_eq_true rfl) rfl rfl (Nat.le_of_ble_eq_true rfl) (fun r1 m2 => ?_)
  refine ao_if_eq (pc := 5) (tgt := 18) X dX11_proof_5 (by decide) (fun _ => ?_) (fun _ => ?_)
  · refine ao_iconst (pc := 18) X dX11_proof_18 ic_m1 ?_
    exact ao_iret (pc := 19) X hr dX11_proof_19
  · refine ao_iload_n (pc := 8) X dX11_proof_8 rfl ?_
    refine ao_if_lt (pc := 9) (tgt := 18) X dX11_proof_9 (by decide) (fun _ => ?_) (fun _ => ?_)
    · refine ao_iconst (pc := 18) X dX11_proof_18 ic_m1 ?_
      exact ao_iret (pc := 19) X hr dX11_proof_19
    · refine ao_iload_n (pc := 12) X dX11_proof_12 rfl ?_
      refine ao_bipush (pc := 13) X dX11_proof_13 bp_99 ?_
      refine ao_icmp_le (pc := 15) (tgt := 20) X dX11_proof_15 (by decide) (fun _ => ?_) (fun _ => ?_)
      · refine ao_aload_n (pc := 20) X dX11_proof_20 rfl ?_
        refine ao_getR (pc := 21) X dX11_proof_21 fl_RX11_65 sf_0_7 ?_
        refine ao_iload_n (pc := 24) X dX11_proof_24 rfl ?_
        refine ao_iload_n (pc := 25) X dX11_proof_25 rfl ?_
        refine ao_callVI (pc := 26) (As := [.int v1, .int v2]) (st := []) X hl0 dX11_proof_26 yv_X4_proofIn so_33 ml_RX11_184 (mX4_proofIn_33 hI v1 v2 m2) (Nat.le_of_ble_eq_true rfl) rfl rfl (Nat.le_of_ble_eq_true rfl) (fun r3 m4 => ?_)
        refine ao_istore_n (pc := 29) (lv' := [(3, .int r3), (0, .ref (eAd E 0)), (1, .int v1), (2, .int v2)]) X dX11_proof_29 rfl (by decide) rfl ?_
        refine ao_aload_n (pc := 30) X dX11_proof_30 rfl ?_
        refine ao_getR (pc := 31) X dX11_proof_31 fl_RX11_19 sf_0_1 ?_
        refine ao_iload_n (pc := 34) X dX11_proof_34 rfl ?_
        refine ao_bipush (pc := 35) X dX11_proof_35 bp_100 ?_
        refine ao_icmp_lt (pc := 37) (tgt := 44) X dX11_proof_37 (by decide) (fun _ => ?_) (fun _ => ?_)
        · refine ao_lconst (pc := 44) X dX11_proof_44 lc_0 ?_
          refine ao_sub [1, 2, 3, 0] rfl ?_
          exact bX11_proof_0_45 hI hl0 X hr v1 v2 r3 (0 : Int64) m4
        · refine ao_lconst (pc := 40) X dX11_proof_40 lc_1 ?_
          refine ao_goto (pc := 41) (tgt := 45) X dX11_proof_41 (by decide) ?_
          refine ao_sub [1, 2, 3, 0] rfl ?_
          exact bX11_proof_0_45 hI hl0 X hr v1 v2 r3 (1 : Int64) m4
      · refine ao_iconst (pc := 18) X dX11_proof_18 ic_m1 ?_
        exact ao_iret (pc := 19) X hr dX11_proof_19
def fX12_proof_122_b116 (p3 : Int32) (p4 : Int32) (q0 : Int64) (μ : Mem) : Option (Int32 × Mem) :=
  bnd (fX12_tell_122 q0 μ) fun r15 m16 =>
  bnd (fX12_tell_122 (Int32.toInt64 p3) m16) fun r17 m18 =>
  some (p4, m18)
set_option maxRecDepth 100000 in
set_option maxHeartbeats 4000000 in
theorem bX12_proof_122_116 {E : En} {l : Launch} {Z : Zt} (hI : Inj E) (hl0 : lZ l Z) (X : Cx E Z cX12_proof RX12 5 3) (hr : rtOf Z = some .int) (p3 : Int32) (p4 : Int32) (q0 : Int64) (μ : Mem) : AO E Z 5 (QI E Z) 116 [(0, .ref (eAd E 122)), (3, .int p3), (4, .int p4)] [.long q0, .ref (eAd E 122)] μ (fX12_proof_122_b116 p3 p4 q0 μ) := by
  unfold fX12_proof_122_b116
  refine ao_callVV (pc := 116) (As := [.long q0]) (st := []) X hl0 dX12_proof_116 yv_X12_tell so_122 ml_RX12_267 (mX12_tell_122 hI q0 μ) (Nat.le_of_ble_eq_true rfl) rfl rfl (Nat.le_of_ble_eq_true rfl) (fun r15 m16 => ?_)
  refine ao_aload_n (pc := 119) X dX12_proof_119 rfl ?_
  refine ao_iload_n (pc := 120) X dX12_proof_120 rfl ?_
  refine ao_i2l (pc := 121) X dX12_proof_121 ?_
  refine ao_callVV (pc := 122) (As := [.long (Int32.toInt64 p3)]) (st := []) X hl0 dX12_proof_122 yv_X12_tell so_122 ml_RX12_267 (mX12_tell_122 hI (Int32.toInt64 p3) m16) (Nat.le_of_ble_eq_true rfl) rfl rfl (Nat.le_of_ble_eq_true rfl) (fun r17 m18 => ?_)
  refine ao_iload (pc := 125) X dX12_proof_125 rfl ?_
  exact ao_iret (pc := 127) X hr dX12_proof_127
def fX12_proof_122_b30 : Nat → Int32 → Int32 → Int32 → Int32 → Mem → Option (Int32 × Mem)
  | 0, _, _, _, _, _ => none
  | n + 1, p1, p2, p3, p4, μ =>
  if (gI μ 122 8) ≤ p4 then (bnd (fX12_proofIn_122_123 p1 p2 μ) fun r6 m7 =>
    lt (sI m7 122 16 (0 : Int32)) fun m8 =>
    if r6 < (100 : Int32) then (fX12_proof_122_b116 p3 r6 (0 : Int64) m8)
    else fX12_proof_122_b116 p3 r6 (1 : Int64) m8)
  else gd (inb p4 8) (if (gI μ 130 (ix p4)) = p1 then (gd (inb ((18 : Int32) + p4) 27) (gd (inb p4 8) (if (gI μ 123 (ix ((18 : Int32) + p4))) ≤ (p2 * (gI μ 131 (ix p4))) then (lt (p3 + (0 : Int32)) fun x11 =>
        fX12_proof_122_b30 n p1 p2 x11 (p4 + (1 : Int32)) μ)
      else lt (p3 + (1 : Int32)) fun x13 =>
        fX12_proof_122_b30 n p1 p2 x13 (p4 + (1 : Int32)) μ)))
    else lt (p3 + (0 : Int32)) fun x9 =>
      fX12_proof_122_b30 n p1 p2 x9 (p4 + (1 : Int32)) μ)
set_option maxRecDepth 100000 in
set_option maxHeartbeats 4000000 in
theorem bX12_proof_122_30 {E : En} {l : Launch} {Z : Zt} (hI : Inj E) (hl0 : lZ l Z) (X : Cx E Z cX12_proof RX12 5 3) (hr : rtOf Z = some .int) : ∀ (n : Nat) (p1 : Int32) (p2 : Int32) (p3 : Int32) (p4 : Int32) (μ : Mem), AO E Z 5 (QI E Z) 30 [(0, .ref (eAd E 122)), (1, .int p1), (2, .int p2), (3, .int p3), (4, .int p4)] [] μ (fX12_proof_122_b30 n p1 p2 p3 p4 μ) := by
  intro n
  induction n with
  | zero =>
    intros
    exact ao_none
  | succ n ih =>
    intro p1 p2 p3 p4 μ
    rw [fX12_proof_122_b30]
    refine ao_iload (pc := 30) X dX12_proof_30 rfl ?_
    refine ao_aload_n (pc := 32) X dX12_proof_32 rfl ?_
    refine ao_getI (pc := 33) X dX12_proof_33 fl_RX12_181 sf_122_8 ?_
    refine ao_icmp_ge (pc := 36) (tgt := 86) X dX12_proof_36 (by decide) (fun _ => ?_) (fun _ => ?_)
    · refine ao_aload_n (pc := 86) X dX12_proof_86 rfl ?_
      refine ao_aload_n (pc := 87) X dX12_proof_87 rfl ?_
      refine ao_getR (pc := 88) X dX12_proof_88 fl_RX12_9 sf_122_0 ?_
      refine ao_iload_n (pc := 91) X dX12_proof_91 rfl ?_
      refine ao_iload_n (pc := 92) X dX12_proof_92 rfl ?_
      refine ao_callVI (pc := 93) (As := [.ref (eAd E 123), .int p1, .int p2]) (st := []) X hl0 dX12_proof_93 yv_X12_proofIn so_122 ml_RX12_235 (mX12_proofIn_122_123 hI p1 p2 μ) (Nat.le_of_ble_eq_true rfl) rfl rfl (Nat.le_of_ble_eq_true rfl) (fun r6 m7 => ?_)
      refine ao_istore (pc := 96) (lv' := [(4, .int r6), (0, .ref (eAd E 122)), (1, .int p1), (2, .int p2), (3, .int p3)]) X dX12_proof_96 (by decide) rfl ?_
      refine ao_aload_n (pc := 98) X dX12_proof_98 rfl ?_
      refine ao_iconst (pc := 99) X dX12_proof_99 ic_0 ?_
      refine ao_putI (pc := 100) X dX12_proof_100 fp_RX12_98 sf_122_16 ?_
      refine ao_lt (fun m8 => ?_)
      refine ao_aload_n (pc := 103) X dX12_proof_103 rfl ?_
      refine ao_iload (pc := 104) X dX12_proof_104 rfl ?_
      refine ao_bipush (pc := 106) X dX12_proof_106 bp_100 ?_
      refine ao_icmp_lt (pc := 108) (tgt := 115) X dX12_proof_108 (by decide) (fun _ => ?_) (fun _ => ?_)
      · refine ao_lconst (pc := 115) X dX12_proof_115 lc_0 ?_
        refine ao_sub [1, 4, 0] rfl ?_
        exact bX12_proof_122_116 hI hl0 X hr p3 r6 (0 : Int64) m8
      · refine ao_lconst (pc := 111) X dX12_proof_111 lc_1 ?_
        refine ao_goto (pc := 112) (tgt := 116) X dX12_proof_112 (by decide) ?_
        refine ao_sub [1, 4, 0] rfl ?_
        exact bX12_proof_122_116 hI hl0 X hr p3 r6 (1 : Int64) m8
    · refine ao_iload_n (pc := 39) X dX12_proof_39 rfl ?_
      refine ao_aload_n (pc := 40) X dX12_proof_40 rfl ?_
      refine ao_getR (pc := 41) X dX12_proof_41 fl_RX12_32 sf_122_9 ?_
      refine ao_iload (pc := 44) X dX12_proof_44 rfl ?_
      refine ao_iald (pc := 46) X dX12_proof_46 sa_130 ?_
      refine ao_iload_n (pc := 47) X dX12_proof_47 rfl ?_
      refine ao_icmp_ne (pc := 48) (tgt := 77) X dX12_proof_48 (by decide) (fun _ => ?_) (fun _ => ?_)
      · refine ao_iconst (pc := 77) X dX12_proof_77 ic_0 ?_
        refine ao_iadd (pc := 78) X dX12_proof_78 ?_
        refine ao_ltI (fun x9 => ?_)
        refine ao_istore_n (pc := 79) (lv' := [(3, .int x9), (0, .ref (eAd E 122)), (1, .int p1), (2, .int p2), (4, .int p4)]) X dX12_proof_79 rfl (by decide) rfl ?_
        refine ao_iinc (pc := 80) (k := 4) (v := p4 + (1 : Int32)) (lv' := [(4, .int (p4 + (1 : Int32))), (3, .int x9), (0, .ref (eAd E 122)), (1, .int p1), (2, .int p2)]) X dX12_proof_80 rfl (ii_ic ic_1) (by decide) rfl ?_
        refine ao_goto (pc := 83) (tgt := 30) X dX12_proof_83 (by decide) ?_
        refine ao_sub [2, 3, 4, 1, 0] rfl ?_
        exact ih p1 p2 x9 (p4 + (1 : Int32)) μ
      · refine ao_aload_n (pc := 51) X dX12_proof_51 rfl ?_
        refine ao_getR (pc := 52) X dX12_proof_52 fl_RX12_9 sf_122_0 ?_
        refine ao_bipush (pc := 55) X dX12_proof_55 bp_18 ?_
        refine ao_iload (pc := 57) X dX12_proof_57 rfl ?_
        refine ao_iadd (pc := 59) X dX12_proof_59 ?_
        refine ao_iald (pc := 60) X dX12_proof_60 sa_123 ?_
        refine ao_iload_n (pc := 61) X dX12_proof_61 rfl ?_
        refine ao_aload_n (pc := 62) X dX12_proof_62 rfl ?_
        refine ao_getR (pc := 63) X dX12_proof_63 fl_RX12_35 sf_122_10 ?_
        refine ao_iload (pc := 66) X dX12_proof_66 rfl ?_
        refine ao_iald (pc := 68) X dX12_proof_68 sa_131 ?_
        refine ao_imul (pc := 69) X dX12_proof_69 ?_
        refine ao_icmp_le (pc := 70) (tgt := 77) X dX12_proof_70 (by decide) (fun _ => ?_) (fun _ => ?_)
        · refine ao_iconst (pc := 77) X dX12_proof_77 ic_0 ?_
          refine ao_iadd (pc := 78) X dX12_proof_78 ?_
          refine ao_ltI (fun x11 => ?_)
          refine ao_istore_n (pc := 79) (lv' := [(3, .int x11), (0, .ref (eAd E 122)), (1, .int p1), (2, .int p2), (4, .int p4)]) X dX12_proof_79 rfl (by decide) rfl ?_
          refine ao_iinc (pc := 80) (k := 4) (v := p4 + (1 : Int32)) (lv' := [(4, .int (p4 + (1 : Int32))), (3, .int x11), (0, .ref (eAd E 122)), (1, .int p1), (2, .int p2)]) X dX12_proof_80 rfl (ii_ic ic_1) (by decide) rfl ?_
          refine ao_goto (pc := 83) (tgt := 30) X dX12_proof_83 (by decide) ?_
          refine ao_sub [2, 3, 4, 1, 0] rfl ?_
          exact ih p1 p2 x11 (p4 + (1 : Int32)) μ
        · refine ao_iconst (pc := 73) X dX12_proof_73 ic_1 ?_
          refine ao_goto (pc := 74) (tgt := 78) X dX12_proof_74 (by decide) ?_
          refine ao_iadd (pc := 78) X dX12_proof_78 ?_
          refine ao_ltI (fun x13 => ?_)
          refine ao_istore_n (pc := 79) (lv' := [(3, .int x13), (0, .ref (eAd E 122)), (1, .int p1), (2, .int p2), (4, .int p4)]) X dX12_proof_79 rfl (by decide) rfl ?_
          refine ao_iinc (pc := 80) (k := 4) (v := p4 + (1 : Int32)) (lv' := [(4, .int (p4 + (1 : Int32))), (3, .int x13), (0, .ref (eAd E 122)), (1, .int p1), (2, .int p2)]) X dX12_proof_80 rfl (ii_ic ic_1) (by decide) rfl ?_
          refine ao_goto (pc := 83) (tgt := 30) X dX12_proof_83 (by decide) ?_
          refine ao_sub [2, 3, 4, 1, 0] rfl ?_
          exact ih p1 p2 x13 (p4 + (1 : Int32)) μ
def fX12_proof_122 (v1 : Int32) (v2 : Int32) (μ : Mem) : Option (Int32 × Mem) :=
  lt (sI μ 122 17 (0 : Int32)) fun m1 =>
  bnd (fX12_isMan_122 v1 m1) fun r2 m3 =>
  if r2 = 0 then (some ((-1 : Int32), m3))
  else bnd (fX12_in v2 (0 : Int32) (99 : Int32) m3) fun r4 m5 =>
    if r4 = 0 then (some ((-1 : Int32), m5))
    else fX12_proof_122_b30 FU v1 v2 (0 : Int32) (0 : Int32) m5
set_option maxRecDepth 100000 in
set_option maxHeartbeats 4000000 in
theorem mX12_proof_122 {E : En} {l : Launch} (hI : Inj E) (v1 : Int32) (v2 : Int32) (μ : Mem) : MtI E l yX12_proof cX12_proof 5 (some .int) 3 [.ref (eAd E 122), .int v1, .int v2] μ (fX12_proof_122 v1 v2 μ) := by
  refine mtI_of (own := RX12) [(0, .ref (eAd E 122)), (1, .int v1), (2, .int v2)] hI rfl (by decide) (Nat.le_of_ble_eq_true rfl) (Nat.le_of_ble_eq_true rfl) rfl (fun Z hl0 X hr => ?_)
  unfold fX12_proof_122
  refine ao_aload_n (pc := 0) X dX12_proof_0 rfl ?_
  refine ao_iconst (pc := 1) X dX12_proof_1 ic_0 ?_
  refine ao_putI (pc := 2) X dX12_proof_2 fp_RX12_95 sf_122_17 ?_
  refine ao_lt (fun m1 => ?_)
  refine ao_aload_n (pc := 5) X dX12_proof_5 rfl ?_
  refine ao_iload_n (pc := 6) X dX12_proof_6 rfl ?_
  refine ao_callVI (pc := 7) (As := [.int v1]) (st := []) X hl0 dX12_proof_7 yv_X12_isMan so_122 ml_RX12_224 (mX12_isMan_122 hI v1 m1) (Nat.le_of_ble_eq_true rfl) rfl rfl (Nat.le_of_ble_eq_true rfl) (fun r2 m3 => ?_)
  refine ao_if_eq (pc := 10) (tgt := 23) X dX12_proof_10 (by decide) (fun _ => ?_) (fun _ => ?_)
  · refine ao_iconst (pc := 23) X dX12_proof_23 ic_m1 ?_
    exact ao_iret (pc := 24) X hr dX12_proof_24
  · refine ao_iload_n (pc := 13) X dX12_proof_13 rfl ?_
    refine ao_iconst (pc := 14) X dX12_proof_14 ic_0 ?_
    refine ao_bipush (pc := 15) X dX12_proof_15 bp_99 ?_
    refine ao_callSI (pc := 17) (As := [.int v2, .int (0 : Int32), .int (99 : Int32)]) (st := []) X hl0 dX12_proof_17 yv_X12_in ml_RX12_104 (mX12_in hI v2 (0 : Int32) (99 : Int32) m3) (Nat.le_of_ble_eq_true rfl) rfl rfl (Nat.le_of_ble_eq_true rfl) (fun r4 m5 => ?_)
    refine ao_if_ne (pc := 20) (tgt := 25) X dX12_proof_20 (by decide) (fun _ => ?_) (fun _ => ?_)
    · refine ao_iconst (pc := 25) X dX12_proof_25 ic_0 ?_
      refine ao_istore_n (pc := 26) (lv' := [(3, .int (0 : Int32)), (0, .ref (eAd E 122)), (1, .int v1), (2, .int v2)]) X dX12_proof_26 rfl (by decide) rfl ?_
      refine ao_iconst (pc := 27) X dX12_proof_27 ic_0 ?_
      refine ao_istore (pc := 28) (lv' := [(4, .int (0 : Int32)), (3, .int (0 : Int32)), (0, .ref (eAd E 122)), (1, .int v1), (2, .int v2)]) X dX12_proof_28 (by decide) rfl ?_
      refine ao_sub [2, 3, 4, 1, 0] rfl ?_
      exact bX12_proof_122_30 hI hl0 X hr FU v1 v2 (0 : Int32) (0 : Int32) m5
    · refine ao_iconst (pc := 23) X dX12_proof_23 ic_m1 ?_
      exact ao_iret (pc := 24) X hr dX12_proof_24
def fX11_till_0_b33 : Nat → Int32 → Int32 → Int32 → Mem → Option (Int32 × Mem)
  | 0, _, _, _, _ => none
  | n + 1, p1, p2, p3, μ =>
  if (99 : Int32) < p3 then (some (p2, μ))
  else bnd (fX4_proofIn_33 p1 p3 μ) fun r5 m6 =>
    if r5 < (100 : Int32) then (fX11_till_0_b33 n p1 p2 (p3 + (1 : Int32)) m6)
    else fX11_till_0_b33 n p1 p3 (p3 + (1 : Int32)) m6
set_option maxRecDepth 100000 in
set_option maxHeartbeats 4000000 in
theorem bX11_till_0_33 {E : En} {l : Launch} {Z : Zt} (hI : Inj E) (hl0 : lZ l Z) (X : Cx E Z cX11_till RX11 4 3) (hr : rtOf Z = some .int) : ∀ (n : Nat) (p1 : Int32) (p2 : Int32) (p3 : Int32) (μ : Mem), AO E Z 4 (QI E Z) 33 [(0, .ref (eAd E 0)), (1, .int p1), (2, .int p2), (3, .int p3)] [] μ (fX11_till_0_b33 n p1 p2 p3 μ) := by
  intro n
  induction n with
  | zero =>
    intros
    exact ao_none
  | succ n ih =>
    intro p1 p2 p3 μ
    rw [fX11_till_0_b33]
    refine ao_iload_n (pc := 33) X dX11_till_33 rfl ?_
    refine ao_bipush (pc := 34) X dX11_till_34 bp_99 ?_
    refine ao_icmp_gt (pc := 36) (tgt := 61) X dX11_till_36 (by decide) (fun _ => ?_) (fun _ => ?_)
    · refine ao_iload_n (pc := 61) X dX11_till_61 rfl ?_
      exact ao_iret (pc := 62) X hr dX11_till_62
    · refine ao_aload_n (pc := 39) X dX11_till_39 rfl ?_
      refine ao_getR (pc := 40) X dX11_till_40 fl_RX11_65 sf_0_7 ?_
      refine ao_iload_n (pc := 43) X dX11_till_43 rfl ?_
      refine ao_iload_n (pc := 44) X dX11_till_44 rfl ?_
      refine ao_callVI (pc := 45) (As := [.int p1, .int p3]) (st := []) X hl0 dX11_till_45 yv_X4_proofIn so_33 ml_RX11_184 (mX4_proofIn_33 hI p1 p3 μ) (Nat.le_of_ble_eq_true rfl) rfl rfl (Nat.le_of_ble_eq_true rfl) (fun r5 m6 => ?_)
      refine ao_bipush (pc := 48) X dX11_till_48 bp_100 ?_
      refine ao_icmp_lt (pc := 50) (tgt := 55) X dX11_till_50 (by decide) (fun _ => ?_) (fun _ => ?_)
      · refine ao_iinc (pc := 55) (k := 3) (v := p3 + (1 : Int32)) (lv' := [(3, .int (p3 + (1 : Int32))), (0, .ref (eAd E 0)), (1, .int p1), (2, .int p2)]) X dX11_till_55 rfl (ii_ic ic_1) (by decide) rfl ?_
        refine ao_goto (pc := 58) (tgt := 33) X dX11_till_58 (by decide) ?_
        refine ao_sub [1, 2, 3, 0] rfl ?_
        exact ih p1 p2 (p3 + (1 : Int32)) m6
      · refine ao_iload_n (pc := 53) X dX11_till_53 rfl ?_
        refine ao_istore_n (pc := 54) (lv' := [(2, .int p3), (0, .ref (eAd E 0)), (1, .int p1), (3, .int p3)]) X dX11_till_54 rfl (by decide) rfl ?_
        refine ao_iinc (pc := 55) (k := 3) (v := p3 + (1 : Int32)) (lv' := [(3, .int (p3 + (1 : Int32))), (2, .int p3), (0, .ref (eAd E 0)), (1, .int p1)]) X dX11_till_55 rfl (ii_ic ic_1) (by decide) rfl ?_
        refine ao_goto (pc := 58) (tgt := 33) X dX11_till_58 (by decide) ?_
        refine ao_sub [2, 3, 1, 0] rfl ?_
        exact ih p1 p3 (p3 + (1 : Int32)) m6
def fX11_till_0 (v1 : Int32) (μ : Mem) : Option (Int32 × Mem) :=
  bnd (fX11_isThere_0 v1 μ) fun r1 m2 =>
  if r1 = 0 then (some ((-1 : Int32), m2))
  else bnd (fX4_proofIn_33 v1 (99 : Int32) m2) fun r3 m4 =>
    if r3 < (100 : Int32) then (fX11_till_0_b33 FU v1 (-2 : Int32) (0 : Int32) m4)
    else some ((-3 : Int32), m4)
set_option maxRecDepth 100000 in
set_option maxHeartbeats 4000000 in
theorem mX11_till_0 {E : En} {l : Launch} (hI : Inj E) (v1 : Int32) (μ : Mem) : MtI E l yX11_till cX11_till 4 (some .int) 3 [.ref (eAd E 0), .int v1] μ (fX11_till_0 v1 μ) := by
  refine mtI_of (own := RX11) [(0, .ref (eAd E 0)), (1, .int v1)] hI rfl (by decide) (Nat.le_of_ble_eq_true rfl) (Nat.le_of_ble_eq_true rfl) rfl (fun Z hl0 X hr => ?_)
  unfold fX11_till_0
  refine ao_aload_n (pc := 0) X dX11_till_0 rfl ?_
  refine ao_iload_n (pc := 1) X dX11_till_1 rfl ?_
  refine ao_callVI (pc := 2) (As := [.int v1]) (st := []) X hl0 dX11_till_2 yv_X11_isThere so_0 ml_RX11_147 (mX11_isThere_0 hI v1 μ) (Nat.le_of_ble_eq_true rfl) rfl rfl (Nat.le_of_ble_eq_true rfl) (fun r1 m2 => ?_)
  refine ao_if_ne (pc := 5) (tgt := 10) X dX11_till_5 (by decide) (fun _ => ?_) (fun _ => ?_)
  · refine ao_aload_n (pc := 10) X dX11_till_10 rfl ?_
    refine ao_getR (pc := 11) X dX11_till_11 fl_RX11_65 sf_0_7 ?_
    refine ao_iload_n (pc := 14) X dX11_till_14 rfl ?_
    refine ao_bipush (pc := 15) X dX11_till_15 bp_99 ?_
    refine ao_callVI (pc := 17) (As := [.int v1, .int (99 : Int32)]) (st := []) X hl0 dX11_till_17 yv_X4_proofIn so_33 ml_RX11_184 (mX4_proofIn_33 hI v1 (99 : Int32) m2) (Nat.le_of_ble_eq_true rfl) rfl rfl (Nat.le_of_ble_eq_true rfl) (fun r3 m4 => ?_)
    refine ao_bipush (pc := 20) X dX11_till_20 bp_100 ?_
    refine ao_icmp_lt (pc := 22) (tgt := 28) X dX11_till_22 (by decide) (fun _ => ?_) (fun _ => ?_)
    · refine ao_bipush (pc := 28) X dX11_till_28 bp_m2 ?_
      refine ao_istore_n (pc := 30) (lv' := [(2, .int (-2 : Int32)), (0, .ref (eAd E 0)), (1, .int v1)]) X dX11_till_30 rfl (by decide) rfl ?_
      refine ao_iconst (pc := 31) X dX11_till_31 ic_0 ?_
      refine ao_istore_n (pc := 32) (lv' := [(3, .int (0 : Int32)), (2, .int (-2 : Int32)), (0, .ref (eAd E 0)), (1, .int v1)]) X dX11_till_32 rfl (by decide) rfl ?_
      refine ao_sub [2, 3, 1, 0] rfl ?_
      exact bX11_till_0_33 hI hl0 X hr FU v1 (-2 : Int32) (0 : Int32) m4
    · refine ao_bipush (pc := 25) X dX11_till_25 bp_m3 ?_
      exact ao_iret (pc := 27) X hr dX11_till_27
  · refine ao_iconst (pc := 8) X dX11_till_8 ic_m1 ?_
    exact ao_iret (pc := 9) X hr dX11_till_9
def fX12_till_122_b54 : Nat → Int32 → Int32 → Mem → Option (Int32 × Mem)
  | 0, _, _, _ => none
  | n + 1, p1, p2, μ =>
  bnd (fX12_proofIn_122_123 p1 (p2 + (1 : Int32)) μ) fun r8 m9 =>
  if r8 < (100 : Int32) then (some (p2, m9))
  else fX12_till_122_b54 n p1 (p2 + (1 : Int32)) m9
set_option maxRecDepth 100000 in
set_option maxHeartbeats 4000000 in
theorem bX12_till_122_54 {E : En} {l : Launch} {Z : Zt} (hI : Inj E) (hl0 : lZ l Z) (X : Cx E Z cX12_till RX12 3 3) (hr : rtOf Z = some .int) : ∀ (n : Nat) (p1 : Int32) (p2 : Int32) (μ : Mem), AO E Z 3 (QI E Z) 54 [(0, .ref (eAd E 122)), (1, .int p1), (2, .int p2)] [] μ (fX12_till_122_b54 n p1 p2 μ) := by
  intro n
  induction n with
  | zero =>
    intros
    exact ao_none
  | succ n ih =>
    intro p1 p2 μ
    rw [fX12_till_122_b54]
    refine ao_aload_n (pc := 54) X dX12_till_54 rfl ?_
    refine ao_aload_n (pc := 55) X dX12_till_55 rfl ?_
    refine ao_getR (pc := 56) X dX12_till_56 fl_RX12_9 sf_122_0 ?_
    refine ao_iload_n (pc := 59) X dX12_till_59 rfl ?_
    refine ao_iload_n (pc := 60) X dX12_till_60 rfl ?_
    refine ao_iconst (pc := 61) X dX12_till_61 ic_1 ?_
    refine ao_iadd (pc := 62) X dX12_till_62 ?_
    refine ao_callVI (pc := 63) (As := [.ref (eAd E 123), .int p1, .int (p2 + (1 : Int32))]) (st := []) X hl0 dX12_till_63 yv_X12_proofIn so_122 ml_RX12_235 (mX12_proofIn_122_123 hI p1 (p2 + (1 : Int32)) μ) (Nat.le_of_ble_eq_true rfl) rfl rfl (Nat.le_of_ble_eq_true rfl) (fun r8 m9 => ?_)
    refine ao_bipush (pc := 66) X dX12_till_66 bp_100 ?_
    refine ao_icmp_lt (pc := 68) (tgt := 77) X dX12_till_68 (by decide) (fun _ => ?_) (fun _ => ?_)
    · refine ao_iload_n (pc := 77) X dX12_till_77 rfl ?_
      exact ao_iret (pc := 78) X hr dX12_till_78
    · refine ao_iinc (pc := 71) (k := 2) (v := p2 + (1 : Int32)) (lv' := [(2, .int (p2 + (1 : Int32))), (0, .ref (eAd E 122)), (1, .int p1)]) X dX12_till_71 rfl (ii_ic ic_1) (by decide) rfl ?_
      refine ao_goto (pc := 74) (tgt := 54) X dX12_till_74 (by decide) ?_
      refine ao_sub [1, 2, 0] rfl ?_
      exact ih p1 (p2 + (1 : Int32)) m9
def fX12_till_122 (v1 : Int32) (μ : Mem) : Option (Int32 × Mem) :=
  lt (sI μ 122 17 (0 : Int32)) fun m1 =>
  bnd (fX12_isMan_122 v1 m1) fun r2 m3 =>
  if r2 = 0 then (some ((-1 : Int32), m3))
  else bnd (fX12_proofIn_122_123 v1 (0 : Int32) m3) fun r4 m5 =>
    if (100 : Int32) ≤ r4 then (bnd (fX12_proofIn_122_123 v1 (100 : Int32) m5) fun r6 m7 =>
      if r6 < (100 : Int32) then (fX12_till_122_b54 FU v1 (0 : Int32) m7)
      else some ((-3 : Int32), m7))
    else some ((-2 : Int32), m5)
set_option maxRecDepth 100000 in
set_option maxHeartbeats 4000000 in
theorem mX12_till_122 {E : En} {l : Launch} (hI : Inj E) (v1 : Int32) (μ : Mem) : MtI E l yX12_till cX12_till 3 (some .int) 3 [.ref (eAd E 122), .int v1] μ (fX12_till_122 v1 μ) := by
  refine mtI_of (own := RX12) [(0, .ref (eAd E 122)), (1, .int v1)] hI rfl (by decide) (Nat.le_of_ble_eq_true rfl) (Nat.le_of_ble_eq_true rfl) rfl (fun Z hl0 X hr => ?_)
  unfold fX12_till_122
  refine ao_aload_n (pc := 0) X dX12_till_0 rfl ?_
  refine ao_iconst (pc := 1) X dX12_till_1 ic_0 ?_
  refine ao_putI (pc := 2) X dX12_till_2 fp_RX12_95 sf_122_17 ?_
  refine ao_lt (fun m1 => ?_)
  refine ao_aload_n (pc := 5) X dX12_till_5 rfl ?_
  refine ao_iload_n (pc := 6) X dX12_till_6 rfl ?_
  refine ao_callVI (pc := 7) (As := [.int v1]) (st := []) X hl0 dX12_till_7 yv_X12_isMan so_122 ml_RX12_224 (mX12_isMan_122 hI v1 m1) (Nat.le_of_ble_eq_true rfl) rfl rfl (Nat.le_of_ble_eq_true rfl) (fun r2 m3 => ?_)
  refine ao_if_ne (pc := 10) (tgt := 15) X dX12_till_10 (by decide) (fun _ => ?_) (fun _ => ?_)
  · refine ao_aload_n (pc := 15) X dX12_till_15 rfl ?_
    refine ao_aload_n (pc := 16) X dX12_till_16 rfl ?_
    refine ao_getR (pc := 17) X dX12_till_17 fl_RX12_9 sf_122_0 ?_
    refine ao_iload_n (pc := 20) X dX12_till_20 rfl ?_
    refine ao_iconst (pc := 21) X dX12_till_21 ic_0 ?_
    refine ao_callVI (pc := 22) (As := [.ref (eAd E 123), .int v1, .int (0 : Int32)]) (st := []) X hl0 dX12_till_22 yv_X12_proofIn so_122 ml_RX12_235 (mX12_proofIn_122_123 hI v1 (0 : Int32) m3) (Nat.le_of_ble_eq_true rfl) rfl rfl (Nat.le_of_ble_eq_true rfl) (fun r4 m5 => ?_)
    refine ao_bipush (pc := 25) X dX12_till_25 bp_100 ?_
    refine ao_icmp_ge (pc := 27) (tgt := 33) X dX12_till_27 (by decide) (fun _ => ?_) (fun _ => ?_)
    · refine ao_aload_n (pc := 33) X dX12_till_33 rfl ?_
      refine ao_aload_n (pc := 34) X dX12_till_34 rfl ?_
      refine ao_getR (pc := 35) X dX12_till_35 fl_RX12_9 sf_122_0 ?_
      refine ao_iload_n (pc := 38) X dX12_till_38 rfl ?_
      refine ao_bipush (pc := 39) X dX12_till_39 bp_100 ?_
      refine ao_callVI (pc := 41) (As := [.ref (eAd E 123), .int v1, .int (100 : Int32)]) (st := []) X hl0 dX12_till_41 yv_X12_proofIn so_122 ml_RX12_235 (mX12_proofIn_122_123 hI v1 (100 : Int32) m5) (Nat.le_of_ble_eq_true rfl) rfl rfl (Nat.le_of_ble_eq_true rfl) (fun r6 m7 => ?_)
      refine ao_bipush (pc := 44) X dX12_till_44 bp_100 ?_
      refine ao_icmp_lt (pc := 46) (tgt := 52) X dX12_till_46 (by decide) (fun _ => ?_) (fun _ => ?_)
      · refine ao_iconst (pc := 52) X dX12_till_52 ic_0 ?_
        refine ao_istore_n (pc := 53) (lv' := [(2, .int (0 : Int32)), (0, .ref (eAd E 122)), (1, .int v1)]) X dX12_till_53 rfl (by decide) rfl ?_
        refine ao_sub [1, 2, 0] rfl ?_
        exact bX12_till_122_54 hI hl0 X hr FU v1 (0 : Int32) m7
      · refine ao_bipush (pc := 49) X dX12_till_49 bp_m3 ?_
        exact ao_iret (pc := 51) X hr dX12_till_51
    · refine ao_bipush (pc := 30) X dX12_till_30 bp_m2 ?_
      exact ao_iret (pc := 32) X hr dX12_till_32
  · refine ao_iconst (pc := 13) X dX12_till_13 ic_m1 ?_
    exact ao_iret (pc := 14) X hr dX12_till_14
def fX2_worthOf_24_b4 : Nat → Int32 → Int32 → Int32 → Mem → Option (Int32 × Mem)
  | 0, _, _, _, _ => none
  | n + 1, p1, p2, p3, μ =>
  if (8 : Int32) ≤ p3 then (some (p2, μ))
  else if ((p1 >>> (p3 &&& 31)) &&& (1 : Int32)) = 0 then (lt (p2 + (0 : Int32)) fun x3 =>
      fX2_worthOf_24_b4 n p1 x3 (p3 + (1 : Int32)) μ)
    else gd (inb p3 8) (lt (p2 + (gI μ 27 (ix p3))) fun x1 =>
      fX2_worthOf_24_b4 n p1 x1 (p3 + (1 : Int32)) μ)
set_option maxRecDepth 100000 in
set_option maxHeartbeats 4000000 in
theorem bX2_worthOf_24_4 {E : En} {l : Launch} {Z : Zt} (hI : Inj E) (hl0 : lZ l Z) (X : Cx E Z cX2_worthOf RX2 4 1) (hr : rtOf Z = some .int) : ∀ (n : Nat) (p1 : Int32) (p2 : Int32) (p3 : Int32) (μ : Mem), AO E Z 4 (QI E Z) 4 [(0, .ref (eAd E 24)), (1, .int p1), (2, .int p2), (3, .int p3)] [] μ (fX2_worthOf_24_b4 n p1 p2 p3 μ) := by
  intro n
  induction n with
  | zero =>
    intros
    exact ao_none
  | succ n ih =>
    intro p1 p2 p3 μ
    rw [fX2_worthOf_24_b4]
    refine ao_iload_n (pc := 4) X dX2_worthOf_4 rfl ?_
    refine ao_bipush (pc := 5) X dX2_worthOf_5 bp_8 ?_
    refine ao_icmp_ge (pc := 7) (tgt := 37) X dX2_worthOf_7 (by decide) (fun _ => ?_) (fun _ => ?_)
    · refine ao_iload_n (pc := 37) X dX2_worthOf_37 rfl ?_
      exact ao_iret (pc := 38) X hr dX2_worthOf_38
    · refine ao_iload_n (pc := 10) X dX2_worthOf_10 rfl ?_
      refine ao_iload_n (pc := 11) X dX2_worthOf_11 rfl ?_
      refine ao_iload_n (pc := 12) X dX2_worthOf_12 rfl ?_
      refine ao_ishr (pc := 13) X dX2_worthOf_13 ?_
      refine ao_iconst (pc := 14) X dX2_worthOf_14 ic_1 ?_
      refine ao_iand (pc := 15) X dX2_worthOf_15 ?_
      refine ao_if_ne (pc := 16) (tgt := 23) X dX2_worthOf_16 (by decide) (fun _ => ?_) (fun _ => ?_)
      · refine ao_aload_n (pc := 23) X dX2_worthOf_23 rfl ?_
        refine ao_getR (pc := 24) X dX2_worthOf_24 fl_RX2_18 sf_24_2 ?_
        refine ao_iload_n (pc := 27) X dX2_worthOf_27 rfl ?_
        refine ao_iald (pc := 28) X dX2_worthOf_28 sa_27 ?_
        refine ao_iadd (pc := 29) X dX2_worthOf_29 ?_
        refine ao_ltI (fun x1 => ?_)
        refine ao_istore_n (pc := 30) (lv' := [(2, .int x1), (0, .ref (eAd E 24)), (1, .int p1), (3, .int p3)]) X dX2_worthOf_30 rfl (by decide) rfl ?_
        refine ao_iinc (pc := 31) (k := 3) (v := p3 + (1 : Int32)) (lv' := [(3, .int (p3 + (1 : Int32))), (2, .int x1), (0, .ref (eAd E 24)), (1, .int p1)]) X dX2_worthOf_31 rfl (ii_ic ic_1) (by decide) rfl ?_
        refine ao_goto (pc := 34) (tgt := 4) X dX2_worthOf_34 (by decide) ?_
        refine ao_sub [2, 3, 1, 0] rfl ?_
        exact ih p1 x1 (p3 + (1 : Int32)) μ
      · refine ao_iconst (pc := 19) X dX2_worthOf_19 ic_0 ?_
        refine ao_goto (pc := 20) (tgt := 29) X dX2_worthOf_20 (by decide) ?_
        refine ao_iadd (pc := 29) X dX2_worthOf_29 ?_
        refine ao_ltI (fun x3 => ?_)
        refine ao_istore_n (pc := 30) (lv' := [(2, .int x3), (0, .ref (eAd E 24)), (1, .int p1), (3, .int p3)]) X dX2_worthOf_30 rfl (by decide) rfl ?_
        refine ao_iinc (pc := 31) (k := 3) (v := p3 + (1 : Int32)) (lv' := [(3, .int (p3 + (1 : Int32))), (2, .int x3), (0, .ref (eAd E 24)), (1, .int p1)]) X dX2_worthOf_31 rfl (ii_ic ic_1) (by decide) rfl ?_
        refine ao_goto (pc := 34) (tgt := 4) X dX2_worthOf_34 (by decide) ?_
        refine ao_sub [2, 3, 1, 0] rfl ?_
        exact ih p1 x3 (p3 + (1 : Int32)) μ
def fX2_worthOf_24 (v1 : Int32) (μ : Mem) : Option (Int32 × Mem) :=
  fX2_worthOf_24_b4 FU v1 (0 : Int32) (0 : Int32) μ
set_option maxRecDepth 100000 in
set_option maxHeartbeats 4000000 in
theorem mX2_worthOf_24 {E : En} {l : Launch} (hI : Inj E) (v1 : Int32) (μ : Mem) : MtI E l yX2_worthOf cX2_worthOf 4 (some .int) 1 [.ref (eAd E 24), .int v1] μ (fX2_worthOf_24 v1 μ) := by
  refine mtI_of (own := RX2) [(0, .ref (eAd E 24)), (1, .int v1)] hI rfl (by decide) (Nat.le_of_ble_eq_true rfl) (Nat.le_of_ble_eq_true rfl) rfl (fun Z hl0 X hr => ?_)
  unfold fX2_worthOf_24
  refine ao_iconst (pc := 0) X dX2_worthOf_0 ic_0 ?_
  refine ao_istore_n (pc := 1) (lv' := [(2, .int (0 : Int32)), (0, .ref (eAd E 24)), (1, .int v1)]) X dX2_worthOf_1 rfl (by decide) rfl ?_
  refine ao_iconst (pc := 2) X dX2_worthOf_2 ic_0 ?_
  refine ao_istore_n (pc := 3) (lv' := [(3, .int (0 : Int32)), (2, .int (0 : Int32)), (0, .ref (eAd E 24)), (1, .int v1)]) X dX2_worthOf_3 rfl (by decide) rfl ?_
  refine ao_sub [2, 3, 1, 0] rfl ?_
  exact bX2_worthOf_24_4 hI hl0 X hr FU v1 (0 : Int32) (0 : Int32) μ
def fX2_has_24_b32 (p1 : Int32) (q0 : Int32) (μ : Mem) : Option (Int32 × Mem) :=
  if q0 = 0 then (some ((0 : Int32), μ))
  else gd (inb p1 6) (bnd (fX2_worthOf_24 (gI μ 10 (ix p1)) μ) fun r2 m3 =>
    some (r2, m3))
set_option maxRecDepth 100000 in
set_option maxHeartbeats 4000000 in
theorem bX2_has_24_32 {E : En} {l : Launch} {Z : Zt} (hI : Inj E) (hl0 : lZ l Z) (X : Cx E Z cX2_has RX2 6 2) (hr : rtOf Z = some .int) (p1 : Int32) (q0 : Int32) (μ : Mem) : AO E Z 6 (QI E Z) 32 [(0, .ref (eAd E 24)), (1, .int p1)] [.int q0] μ (fX2_has_24_b32 p1 q0 μ) := by
  unfold fX2_has_24_b32
  refine ao_istore (pc := 32) (lv' := [(5, .int q0), (0, .ref (eAd E 24)), (1, .int p1)]) X dX2_has_32 (by decide) rfl ?_
  refine ao_iload (pc := 34) X dX2_has_34 rfl ?_
  refine ao_if_eq (pc := 36) (tgt := 55) X dX2_has_36 (by decide) (fun _ => ?_) (fun _ => ?_)
  · refine ao_iconst (pc := 55) X dX2_has_55 ic_0 ?_
    exact ao_iret (pc := 56) X hr dX2_has_56
  · refine ao_aload_n (pc := 39) X dX2_has_39 rfl ?_
    refine ao_aload_n (pc := 40) X dX2_has_40 rfl ?_
    refine ao_getR (pc := 41) X dX2_has_41 fl_RX2_24 sf_24_4 ?_
    refine ao_getR (pc := 44) X dX2_has_44 fl_RX2_62 sf_5_4 ?_
    refine ao_iload_n (pc := 47) X dX2_has_47 rfl ?_
    refine ao_iald (pc := 48) X dX2_has_48 sa_10 ?_
    refine ao_callVI (pc := 49) (As := [.int (gI μ 10 (ix p1))]) (st := []) X hl0 dX2_has_49 yv_X2_worthOf so_24 ml_RX2_67 (mX2_worthOf_24 hI (gI μ 10 (ix p1)) μ) (Nat.le_of_ble_eq_true rfl) rfl rfl (Nat.le_of_ble_eq_true rfl) (fun r2 m3 => ?_)
    refine ao_goto (pc := 52) (tgt := 56) X dX2_has_52 (by decide) ?_
    exact ao_iret (pc := 56) X hr dX2_has_56
def fX2_has_24_b31 (p1 : Int32) (μ : Mem) : Option (Int32 × Mem) :=
  fX2_has_24_b32 p1 (0 : Int32) μ
set_option maxRecDepth 100000 in
set_option maxHeartbeats 4000000 in
theorem bX2_has_24_31 {E : En} {l : Launch} {Z : Zt} (hI : Inj E) (hl0 : lZ l Z) (X : Cx E Z cX2_has RX2 6 2) (hr : rtOf Z = some .int) (p1 : Int32) (μ : Mem) : AO E Z 6 (QI E Z) 31 [(0, .ref (eAd E 24)), (1, .int p1)] [] μ (fX2_has_24_b31 p1 μ) := by
  unfold fX2_has_24_b31
  refine ao_iconst (pc := 31) X dX2_has_31 ic_0 ?_
  refine ao_sub [0, 1] rfl ?_
  exact bX2_has_24_32 hI hl0 X hr p1 (0 : Int32) μ
def fX2_has_24 (v1 : Int32) (v2 : Int32) (v3 : Int32) (μ : Mem) : Option (Int32 × Mem) :=
  lt (v2 - (2 : Int32)) fun x1 =>
  if x1 < 0 then (fX2_has_24_b31 v1 μ)
  else if (4 : Int32) ≤ x1 then (fX2_has_24_b31 v1 μ)
    else gd (inb x1 4) (if (gI μ 25 (ix x1)) = v3 then (fX2_has_24_b32 v1 (1 : Int32) μ)
      else fX2_has_24_b31 v1 μ)
set_option maxRecDepth 100000 in
set_option maxHeartbeats 4000000 in
theorem mX2_has_24 {E : En} {l : Launch} (hI : Inj E) (v1 : Int32) (v2 : Int32) (v3 : Int32) (μ : Mem) : MtI E l yX2_has cX2_has 6 (some .int) 2 [.ref (eAd E 24), .int v1, .int v2, .int v3] μ (fX2_has_24 v1 v2 v3 μ) := by
  refine mtI_of (own := RX2) [(0, .ref (eAd E 24)), (1, .int v1), (2, .int v2), (3, .int v3)] hI rfl (by decide) (Nat.le_of_ble_eq_true rfl) (Nat.le_of_ble_eq_true rfl) rfl (fun Z hl0 X hr => ?_)
  unfold fX2_has_24
  refine ao_iload_n (pc := 0) X dX2_has_0 rfl ?_
  refine ao_iconst (pc := 1) X dX2_has_1 ic_2 ?_
  refine ao_isub (pc := 2) X dX2_has_2 ?_
  refine ao_ltI (fun x1 => ?_)
  refine ao_istore (pc := 3) (lv' := [(4, .int x1), (0, .ref (eAd E 24)), (1, .int v1), (2, .int v2), (3, .int v3)]) X dX2_has_3 (by decide) rfl ?_
  refine ao_iload (pc := 5) X dX2_has_5 rfl ?_
  refine ao_if_lt (pc := 7) (tgt := 31) X dX2_has_7 (by decide) (fun _ => ?_) (fun _ => ?_)
  · refine ao_sub [1, 2] rfl ?_
    exact bX2_has_24_31 hI hl0 X hr v1 μ
  · refine ao_iload (pc := 10) X dX2_has_10 rfl ?_
    refine ao_iconst (pc := 12) X dX2_has_12 ic_4 ?_
    refine ao_icmp_ge (pc := 13) (tgt := 31) X dX2_has_13 (by decide) (fun _ => ?_) (fun _ => ?_)
    · refine ao_sub [1, 2] rfl ?_
      exact bX2_has_24_31 hI hl0 X hr v1 μ
    · refine ao_aload_n (pc := 16) X dX2_has_16 rfl ?_
      refine ao_getR (pc := 17) X dX2_has_17 fl_RX2_9 sf_24_0 ?_
      refine ao_iload (pc := 20) X dX2_has_20 rfl ?_
      refine ao_iald (pc := 22) X dX2_has_22 sa_25 ?_
      refine ao_iload_n (pc := 23) X dX2_has_23 rfl ?_
      refine ao_icmp_ne (pc := 24) (tgt := 31) X dX2_has_24 (by decide) (fun _ => ?_) (fun _ => ?_)
      · refine ao_sub [1, 2] rfl ?_
        exact bX2_has_24_31 hI hl0 X hr v1 μ
      · refine ao_iconst (pc := 27) X dX2_has_27 ic_1 ?_
        refine ao_goto (pc := 28) (tgt := 32) X dX2_has_28 (by decide) ?_
        refine ao_sub [1, 2] rfl ?_
        exact bX2_has_24_32 hI hl0 X hr v1 (1 : Int32) μ
def fX2_heAndHeir_24 (v1 : Int32) (v2 : Int32) (μ : Mem) : Option (Int32 × Mem) :=
  bnd (fX2_has_24 v1 v2 (0 : Int32) μ) fun r1 m2 =>
  bnd (fX2_has_24 v1 v2 (2 : Int32) m2) fun r3 m4 =>
  some ((r1 + r3), m4)
set_option maxRecDepth 100000 in
set_option maxHeartbeats 4000000 in
theorem mX2_heAndHeir_24 {E : En} {l : Launch} (hI : Inj E) (v1 : Int32) (v2 : Int32) (μ : Mem) : MtI E l yX2_heAndHeir cX2_heAndHeir 3 (some .int) 3 [.ref (eAd E 24), .int v1, .int v2] μ (fX2_heAndHeir_24 v1 v2 μ) := by
  refine mtI_of (own := RX2) [(0, .ref (eAd E 24)), (1, .int v1), (2, .int v2)] hI rfl (by decide) (Nat.le_of_ble_eq_true rfl) (Nat.le_of_ble_eq_true rfl) rfl (fun Z hl0 X hr => ?_)
  unfold fX2_heAndHeir_24
  refine ao_aload_n (pc := 0) X dX2_heAndHeir_0 rfl ?_
  refine ao_iload_n (pc := 1) X dX2_heAndHeir_1 rfl ?_
  refine ao_iload_n (pc := 2) X dX2_heAndHeir_2 rfl ?_
  refine ao_iconst (pc := 3) X dX2_heAndHeir_3 ic_0 ?_
  refine ao_callVI (pc := 4) (As := [.int v1, .int v2, .int (0 : Int32)]) (st := []) X hl0 dX2_heAndHeir_4 yv_X2_has so_24 ml_RX2_70 (mX2_has_24 hI v1 v2 (0 : Int32) μ) (Nat.le_of_ble_eq_true rfl) rfl rfl (Nat.le_of_ble_eq_true rfl) (fun r1 m2 => ?_)
  refine ao_aload_n (pc := 7) X dX2_heAndHeir_7 rfl ?_
  refine ao_iload_n (pc := 8) X dX2_heAndHeir_8 rfl ?_
  refine ao_iload_n (pc := 9) X dX2_heAndHeir_9 rfl ?_
  refine ao_iconst (pc := 10) X dX2_heAndHeir_10 ic_2 ?_
  refine ao_callVI (pc := 11) (As := [.int v1, .int v2, .int (2 : Int32)]) (st := [.int r1]) X hl0 dX2_heAndHeir_11 yv_X2_has so_24 ml_RX2_70 (mX2_has_24 hI v1 v2 (2 : Int32) m2) (Nat.le_of_ble_eq_true rfl) rfl rfl (Nat.le_of_ble_eq_true rfl) (fun r3 m4 => ?_)
  refine ao_iadd (pc := 14) X dX2_heAndHeir_14 ?_
  exact ao_iret (pc := 15) X hr dX2_heAndHeir_15
def fX11_gains_0 (v1 : Int32) (v2 : Int32) (μ : Mem) : Option (Int32 × Mem) :=
  bnd (fX11_isThere_0 v1 μ) fun r1 m2 =>
  if r1 = 0 then (some ((-1 : Int32), m2))
  else if v2 < 0 then (some ((-1 : Int32), m2))
    else if v2 ≤ (60 : Int32) then (bnd (fX4_isSilent_33 v1 m2) fun r3 m4 =>
        if r3 = 0 then (some ((-2 : Int32), m4))
        else bnd (fX4_verdictIn_33 v1 v2 m4) fun r5 m6 =>
          bnd (fX2_heAndHeir_24 v1 r5 m6) fun r7 m8 =>
          bnd (fX2_heAndHeir_24 v1 (5 : Int32) m8) fun r9 m10 =>
          bnd (fX7_tell__3 (Int32.toInt64 r7) (Int32.toInt64 r9) m10) fun r11 m12 =>
          some ((((1000 : Int32) + r7) - r9), m12))
      else some ((-1 : Int32), m2)
set_option maxRecDepth 100000 in
set_option maxHeartbeats 4000000 in
theorem mX11_gains_0 {E : En} {l : Launch} (hI : Inj E) (v1 : Int32) (v2 : Int32) (μ : Mem) : MtI E l yX11_gains cX11_gains 5 (some .int) 4 [.ref (eAd E 0), .int v1, .int v2] μ (fX11_gains_0 v1 v2 μ) := by
  refine mtI_of (own := RX11) [(0, .ref (eAd E 0)), (1, .int v1), (2, .int v2)] hI rfl (by decide) (Nat.le_of_ble_eq_true rfl) (Nat.le_of_ble_eq_true rfl) rfl (fun Z hl0 X hr => ?_)
  unfold fX11_gains_0
  refine ao_aload_n (pc := 0) X dX11_gains_0 rfl ?_
  refine ao_iload_n (pc := 1) X dX11_gains_1 rfl ?_
  refine ao_callVI (pc := 2) (As := [.int v1]) (st := []) X hl0 dX11_gains_2 yv_X11_isThere so_0 ml_RX11_147 (mX11_isThere_0 hI v1 μ) (Nat.le_of_ble_eq_true rfl) rfl rfl (Nat.le_of_ble_eq_true rfl) (fun r1 m2 => ?_)
  refine ao_if_eq (pc := 5) (tgt := 18) X dX11_gains_5 (by decide) (fun _ => ?_) (fun _ => ?_)
  · refine ao_iconst (pc := 18) X dX11_gains_18 ic_m1 ?_
    exact ao_iret (pc := 19) X hr dX11_gains_19
  · refine ao_iload_n (pc := 8) X dX11_gains_8 rfl ?_
    refine ao_if_lt (pc := 9) (tgt := 18) X dX11_gains_9 (by decide) (fun _ => ?_) (fun _ => ?_)
    · refine ao_iconst (pc := 18) X dX11_gains_18 ic_m1 ?_
      exact ao_iret (pc := 19) X hr dX11_gains_19
    · refine ao_iload_n (pc := 12) X dX11_gains_12 rfl ?_
      refine ao_bipush (pc := 13) X dX11_gains_13 bp_60 ?_
      refine ao_icmp_le (pc := 15) (tgt := 20) X dX11_gains_15 (by decide) (fun _ => ?_) (fun _ => ?_)
      · refine ao_aload_n (pc := 20) X dX11_gains_20 rfl ?_
        refine ao_getR (pc := 21) X dX11_gains_21 fl_RX11_65 sf_0_7 ?_
        refine ao_iload_n (pc := 24) X dX11_gains_24 rfl ?_
        refine ao_callVI (pc := 25) (As := [.int v1]) (st := []) X hl0 dX11_gains_25 yv_X4_isSilent so_33 ml_RX11_261 (mX4_isSilent_33 hI v1 m2) (Nat.le_of_ble_eq_true rfl) rfl rfl (Nat.le_of_ble_eq_true rfl) (fun r3 m4 => ?_)
        refine ao_if_ne (pc := 28) (tgt := 34) X dX11_gains_28 (by decide) (fun _ => ?_) (fun _ => ?_)
        · refine ao_aload_n (pc := 34) X dX11_gains_34 rfl ?_
          refine ao_getR (pc := 35) X dX11_gains_35 fl_RX11_56 sf_0_6 ?_
          refine ao_iload_n (pc := 38) X dX11_gains_38 rfl ?_
          refine ao_aload_n (pc := 39) X dX11_gains_39 rfl ?_
          refine ao_getR (pc := 40) X dX11_gains_40 fl_RX11_65 sf_0_7 ?_
          refine ao_iload_n (pc := 43) X dX11_gains_43 rfl ?_
          refine ao_iload_n (pc := 44) X dX11_gains_44 rfl ?_
          refine ao_callVI (pc := 45) (As := [.int v1, .int v2]) (st := [.int v1, .ref (eAd E 24)]) X hl0 dX11_gains_45 yv_X4_verdictIn so_33 ml_RX11_306 (mX4_verdictIn_33 hI v1 v2 m4) (Nat.le_of_ble_eq_true rfl) rfl rfl (Nat.le_of_ble_eq_true rfl) (fun r5 m6 => ?_)
          refine ao_callVI (pc := 48) (As := [.int v1, .int r5]) (st := []) X hl0 dX11_gains_48 yv_X2_heAndHeir so_24 ml_RX11_309 (mX2_heAndHeir_24 hI v1 r5 m6) (Nat.le_of_ble_eq_true rfl) rfl rfl (Nat.le_of_ble_eq_true rfl) (fun r7 m8 => ?_)
          refine ao_istore_n (pc := 51) (lv' := [(3, .int r7), (0, .ref (eAd E 0)), (1, .int v1), (2, .int v2)]) X dX11_gains_51 rfl (by decide) rfl ?_
          refine ao_aload_n (pc := 52) X dX11_gains_52 rfl ?_
          refine ao_getR (pc := 53) X dX11_gains_53 fl_RX11_56 sf_0_6 ?_
          refine ao_iload_n (pc := 56) X dX11_gains_56 rfl ?_
          refine ao_iconst (pc := 57) X dX11_gains_57 ic_5 ?_
          refine ao_callVI (pc := 58) (As := [.int v1, .int (5 : Int32)]) (st := []) X hl0 dX11_gains_58 yv_X2_heAndHeir so_24 ml_RX11_309 (mX2_heAndHeir_24 hI v1 (5 : Int32) m8) (Nat.le_of_ble_eq_true rfl) rfl rfl (Nat.le_of_ble_eq_true rfl) (fun r9 m10 => ?_)
          refine ao_istore (pc := 61) (lv' := [(4, .int r9), (3, .int r7), (0, .ref (eAd E 0)), (1, .int v1), (2, .int v2)]) X dX11_gains_61 (by decide) rfl ?_
          refine ao_aload_n (pc := 63) X dX11_gains_63 rfl ?_
          refine ao_getR (pc := 64) X dX11_gains_64 fl_RX11_19 sf_0_1 ?_
          refine ao_iload_n (pc := 67) X dX11_gains_67 rfl ?_
          refine ao_i2l (pc := 68) X dX11_gains_68 ?_
          refine ao_iload (pc := 69) X dX11_gains_69 rfl ?_
          refine ao_i2l (pc := 71) X dX11_gains_71 ?_
          refine ao_callVV (pc := 72) (As := [.long (Int32.toInt64 r7), .long (Int32.toInt64 r9)]) (st := []) X hl0 dX11_gains_72 yv_X7_tell_ so_3 ml_RX11_244 (mX7_tell__3 hI (Int32.toInt64 r7) (Int32.toInt64 r9) m10) (Nat.le_of_ble_eq_true rfl) rfl rfl (Nat.le_of_ble_eq_true rfl) (fun r11 m12 => ?_)
          refine ao_sipush (pc := 75) X dX11_gains_75 sp_1000 ?_
          refine ao_iload_n (pc := 78) X dX11_gains_78 rfl ?_
          refine ao_iadd (pc := 79) X dX11_gains_79 ?_
          refine ao_iload (pc := 80) X dX11_gains_80 rfl ?_
          refine ao_isub (pc := 82) X dX11_gains_82 ?_
          exact ao_iret (pc := 83) X hr dX11_gains_83
        · refine ao_bipush (pc := 31) X dX11_gains_31 bp_m2 ?_
          exact ao_iret (pc := 33) X hr dX11_gains_33
      · refine ao_iconst (pc := 18) X dX11_gains_18 ic_m1 ?_
        exact ao_iret (pc := 19) X hr dX11_gains_19
def fX12_whose_122 (v1 : Int32) (μ : Mem) : Option (Int32 × Mem) :=
  gd (inb (v1 - (2 : Int32)) 4) (some ((gI μ 132 (ix (v1 - (2 : Int32)))), μ))
set_option maxRecDepth 100000 in
set_option maxHeartbeats 4000000 in
theorem mX12_whose_122 {E : En} {l : Launch} (hI : Inj E) (v1 : Int32) (μ : Mem) : MtI E l yX12_whose cX12_whose 2 (some .int) 1 [.ref (eAd E 122), .int v1] μ (fX12_whose_122 v1 μ) := by
  refine mtI_of (own := RX12) [(0, .ref (eAd E 122)), (1, .int v1)] hI rfl (by decide) (Nat.le_of_ble_eq_true rfl) (Nat.le_of_ble_eq_true rfl) rfl (fun Z hl0 X hr => ?_)
  unfold fX12_whose_122
  refine ao_aload_n (pc := 0) X dX12_whose_0 rfl ?_
  refine ao_getR (pc := 1) X dX12_whose_1 fl_RX12_38 sf_122_11 ?_
  refine ao_iload_n (pc := 4) X dX12_whose_4 rfl ?_
  refine ao_iconst (pc := 5) X dX12_whose_5 ic_2 ?_
  refine ao_isub (pc := 6) X dX12_whose_6 ?_
  refine ao_iald (pc := 7) X dX12_whose_7 sa_132 ?_
  exact ao_iret (pc := 8) X hr dX12_whose_8
def fX12_theirs_122 (v1 : Int32) (v2 : Int32) (μ : Mem) : Option (Int32 × Mem) :=
  bnd (fX12_whose_122 v2 μ) fun r1 m2 =>
  if r1 = (1 : Int32) then (some ((0 : Int32), m2))
  else gd (inb v1 6) (bnd (fX12_valuesOf_122 (gI m2 128 (ix v1)) m2) fun r3 m4 =>
    some (r3, m4))
set_option maxRecDepth 100000 in
set_option maxHeartbeats 4000000 in
theorem mX12_theirs_122 {E : En} {l : Launch} (hI : Inj E) (v1 : Int32) (v2 : Int32) (μ : Mem) : MtI E l yX12_theirs cX12_theirs 3 (some .int) 3 [.ref (eAd E 122), .int v1, .int v2] μ (fX12_theirs_122 v1 v2 μ) := by
  refine mtI_of (own := RX12) [(0, .ref (eAd E 122)), (1, .int v1), (2, .int v2)] hI rfl (by decide) (Nat.le_of_ble_eq_true rfl) (Nat.le_of_ble_eq_true rfl) rfl (fun Z hl0 X hr => ?_)
  unfold fX12_theirs_122
  refine ao_aload_n (pc := 0) X dX12_theirs_0 rfl ?_
  refine ao_iload_n (pc := 1) X dX12_theirs_1 rfl ?_
  refine ao_callVI (pc := 2) (As := [.int v2]) (st := []) X hl0 dX12_theirs_2 yv_X12_whose so_122 ml_RX12_304 (mX12_whose_122 hI v2 μ) (Nat.le_of_ble_eq_true rfl) rfl rfl (Nat.le_of_ble_eq_true rfl) (fun r1 m2 => ?_)
  refine ao_iconst (pc := 5) X dX12_theirs_5 ic_1 ?_
  refine ao_icmp_ne (pc := 6) (tgt := 13) X dX12_theirs_6 (by decide) (fun _ => ?_) (fun _ => ?_)
  · refine ao_aload_n (pc := 13) X dX12_theirs_13 rfl ?_
    refine ao_aload_n (pc := 14) X dX12_theirs_14 rfl ?_
    refine ao_getR (pc := 15) X dX12_theirs_15 fl_RX12_26 sf_122_6 ?_
    refine ao_iload_n (pc := 18) X dX12_theirs_18 rfl ?_
    refine ao_iald (pc := 19) X dX12_theirs_19 sa_128 ?_
    refine ao_callVI (pc := 20) (As := [.int (gI m2 128 (ix v1))]) (st := []) X hl0 dX12_theirs_20 yv_X12_valuesOf so_122 ml_RX12_239 (mX12_valuesOf_122 hI (gI m2 128 (ix v1)) m2) (Nat.le_of_ble_eq_true rfl) rfl rfl (Nat.le_of_ble_eq_true rfl) (fun r3 m4 => ?_)
    exact ao_iret (pc := 23) X hr dX12_theirs_23
  · refine ao_iconst (pc := 9) X dX12_theirs_9 ic_0 ?_
    refine ao_goto (pc := 10) (tgt := 23) X dX12_theirs_10 (by decide) ?_
    exact ao_iret (pc := 23) X hr dX12_theirs_23
def fX12_gains_122 (v1 : Int32) (v2 : Int32) (μ : Mem) : Option (Int32 × Mem) :=
  lt (sI μ 122 17 (0 : Int32)) fun m1 =>
  bnd (fX12_isMan_122 v1 m1) fun r2 m3 =>
  if r2 = 0 then (some ((-1 : Int32), m3))
  else bnd (fX12_in v2 (0 : Int32) (60 : Int32) m3) fun r4 m5 =>
    if r4 = 0 then (some ((-1 : Int32), m5))
    else gd (inb v1 27) (if (gI m5 123 (ix v1)) = 0 then (bnd (fX12_proofIn_122_123 v1 v2 m5) fun r6 m7 =>
        bnd (fX12_ending_122 r6 m7) fun r8 m9 =>
        bnd (fX12_theirs_122 v1 r8 m9) fun r10 m11 =>
        bnd (fX12_theirs_122 v1 (5 : Int32) m11) fun r12 m13 =>
        lt (sI m13 122 16 (0 : Int32)) fun m14 =>
        bnd (fX12_tell_122 (Int32.toInt64 r10) m14) fun r15 m16 =>
        bnd (fX12_tell_122 (Int32.toInt64 r12) m16) fun r17 m18 =>
        some ((((1000 : Int32) + r10) - r12), m18))
      else some ((-2 : Int32), m5))
set_option maxRecDepth 100000 in
set_option maxHeartbeats 4000000 in
theorem mX12_gains_122 {E : En} {l : Launch} (hI : Inj E) (v1 : Int32) (v2 : Int32) (μ : Mem) : MtI E l yX12_gains cX12_gains 5 (some .int) 4 [.ref (eAd E 122), .int v1, .int v2] μ (fX12_gains_122 v1 v2 μ) := by
  refine mtI_of (own := RX12) [(0, .ref (eAd E 122)), (1, .int v1), (2, .int v2)] hI rfl (by decide) (Nat.le_of_ble_eq_true rfl) (Nat.le_of_ble_eq_true rfl) rfl (fun Z hl0 X hr => ?_)
  unfold fX12_gains_122
  refine ao_aload_n (pc := 0) X dX12_gains_0 rfl ?_
  refine ao_iconst (pc := 1) X dX12_gains_1 ic_0 ?_
  refine ao_putI (pc := 2) X dX12_gains_2 fp_RX12_95 sf_122_17 ?_
  refine ao_lt (fun m1 => ?_)
  refine ao_aload_n (pc := 5) X dX12_gains_5 rfl ?_
  refine ao_iload_n (pc := 6) X dX12_gains_6 rfl ?_
  refine ao_callVI (pc := 7) (As := [.int v1]) (st := []) X hl0 dX12_gains_7 yv_X12_isMan so_122 ml_RX12_224 (mX12_isMan_122 hI v1 m1) (Nat.le_of_ble_eq_true rfl) rfl rfl (Nat.le_of_ble_eq_true rfl) (fun r2 m3 => ?_)
  refine ao_if_eq (pc := 10) (tgt := 23) X dX12_gains_10 (by decide) (fun _ => ?_) (fun _ => ?_)
  · refine ao_iconst (pc := 23) X dX12_gains_23 ic_m1 ?_
    exact ao_iret (pc := 24) X hr dX12_gains_24
  · refine ao_iload_n (pc := 13) X dX12_gains_13 rfl ?_
    refine ao_iconst (pc := 14) X dX12_gains_14 ic_0 ?_
    refine ao_bipush (pc := 15) X dX12_gains_15 bp_60 ?_
    refine ao_callSI (pc := 17) (As := [.int v2, .int (0 : Int32), .int (60 : Int32)]) (st := []) X hl0 dX12_gains_17 yv_X12_in ml_RX12_104 (mX12_in hI v2 (0 : Int32) (60 : Int32) m3) (Nat.le_of_ble_eq_true rfl) rfl rfl (Nat.le_of_ble_eq_true rfl) (fun r4 m5 => ?_)
    refine ao_if_ne (pc := 20) (tgt := 25) X dX12_gains_20 (by decide) (fun _ => ?_) (fun _ => ?_)
    · refine ao_aload_n (pc := 25) X dX12_gains_25 rfl ?_
      refine ao_getR (pc := 26) X dX12_gains_26 fl_RX12_9 sf_122_0 ?_
      refine ao_iload_n (pc := 29) X dX12_gains_29 rfl ?_
      refine ao_iald (pc := 30) X dX12_gains_30 sa_123 ?_
      refine ao_if_eq (pc := 31) (tgt := 37) X dX12_gains_31 (by decide) (fun _ => ?_) (fun _ => ?_)
      · refine ao_aload_n (pc := 37) X dX12_gains_37 rfl ?_
        refine ao_iload_n (pc := 38) X dX12_gains_38 rfl ?_
        refine ao_aload_n (pc := 39) X dX12_gains_39 rfl ?_
        refine ao_aload_n (pc := 40) X dX12_gains_40 rfl ?_
        refine ao_aload_n (pc := 41) X dX12_gains_41 rfl ?_
        refine ao_getR (pc := 42) X dX12_gains_42 fl_RX12_9 sf_122_0 ?_
        refine ao_iload_n (pc := 45) X dX12_gains_45 rfl ?_
        refine ao_iload_n (pc := 46) X dX12_gains_46 rfl ?_
        refine ao_callVI (pc := 47) (As := [.ref (eAd E 123), .int v1, .int v2]) (st := [.ref (eAd E 122), .int v1, .ref (eAd E 122)]) X hl0 dX12_gains_47 yv_X12_proofIn so_122 ml_RX12_235 (mX12_proofIn_122_123 hI v1 v2 m5) (Nat.le_of_ble_eq_true rfl) rfl rfl (Nat.le_of_ble_eq_true rfl) (fun r6 m7 => ?_)
        refine ao_callVI (pc := 50) (As := [.int r6]) (st := [.int v1, .ref (eAd E 122)]) X hl0 dX12_gains_50 yv_X12_ending so_122 ml_RX12_264 (mX12_ending_122 hI r6 m7) (Nat.le_of_ble_eq_true rfl) rfl rfl (Nat.le_of_ble_eq_true rfl) (fun r8 m9 => ?_)
        refine ao_callVI (pc := 53) (As := [.int v1, .int r8]) (st := []) X hl0 dX12_gains_53 yv_X12_theirs so_122 ml_RX12_307 (mX12_theirs_122 hI v1 r8 m9) (Nat.le_of_ble_eq_true rfl) rfl rfl (Nat.le_of_ble_eq_true rfl) (fun r10 m11 => ?_)
        refine ao_istore_n (pc := 56) (lv' := [(3, .int r10), (0, .ref (eAd E 122)), (1, .int v1), (2, .int v2)]) X dX12_gains_56 rfl (by decide) rfl ?_
        refine ao_aload_n (pc := 57) X dX12_gains_57 rfl ?_
        refine ao_iload_n (pc := 58) X dX12_gains_58 rfl ?_
        refine ao_iconst (pc := 59) X dX12_gains_59 ic_5 ?_
        refine ao_callVI (pc := 60) (As := [.int v1, .int (5 : Int32)]) (st := []) X hl0 dX12_gains_60 yv_X12_theirs so_122 ml_RX12_307 (mX12_theirs_122 hI v1 (5 : Int32) m11) (Nat.le_of_ble_eq_true rfl) rfl rfl (Nat.le_of_ble_eq_true rfl) (fun r12 m13 => ?_)
        refine ao_istore (pc := 63) (lv' := [(4, .int r12), (3, .int r10), (0, .ref (eAd E 122)), (1, .int v1), (2, .int v2)]) X dX12_gains_63 (by decide) rfl ?_
        refine ao_aload_n (pc := 65) X dX12_gains_65 rfl ?_
        refine ao_iconst (pc := 66) X dX12_gains_66 ic_0 ?_
        refine ao_putI (pc := 67) X dX12_gains_67 fp_RX12_98 sf_122_16 ?_
        refine ao_lt (fun m14 => ?_)
        refine ao_aload_n (pc := 70) X dX12_gains_70 rfl ?_
        refine ao_iload_n (pc := 71) X dX12_gains_71 rfl ?_
        refine ao_i2l (pc := 72) X dX12_gains_72 ?_
        refine ao_callVV (pc := 73) (As := [.long (Int32.toInt64 r10)]) (st := []) X hl0 dX12_gains_73 yv_X12_tell so_122 ml_RX12_267 (mX12_tell_122 hI (Int32.toInt64 r10) m14) (Nat.le_of_ble_eq_true rfl) rfl rfl (Nat.le_of_ble_eq_true rfl) (fun r15 m16 => ?_)
        refine ao_aload_n (pc := 76) X dX12_gains_76 rfl ?_
        refine ao_iload (pc := 77) X dX12_gains_77 rfl ?_
        refine ao_i2l (pc := 79) X dX12_gains_79 ?_
        refine ao_callVV (pc := 80) (As := [.long (Int32.toInt64 r12)]) (st := []) X hl0 dX12_gains_80 yv_X12_tell so_122 ml_RX12_267 (mX12_tell_122 hI (Int32.toInt64 r12) m16) (Nat.le_of_ble_eq_true rfl) rfl rfl (Nat.le_of_ble_eq_true rfl) (fun r17 m18 => ?_)
        refine ao_sipush (pc := 83) X dX12_gains_83 sp_1000 ?_
        refine ao_iload_n (pc := 86) X dX12_gains_86 rfl ?_
        refine ao_iadd (pc := 87) X dX12_gains_87 ?_
        refine ao_iload (pc := 88) X dX12_gains_88 rfl ?_
        refine ao_isub (pc := 90) X dX12_gains_90 ?_
        exact ao_iret (pc := 91) X hr dX12_gains_91
      · refine ao_bipush (pc := 34) X dX12_gains_34 bp_m2 ?_
        exact ao_iret (pc := 36) X hr dX12_gains_36
    · refine ao_iconst (pc := 23) X dX12_gains_23 ic_m1 ?_
      exact ao_iret (pc := 24) X hr dX12_gains_24
def fX4_lackIn_33 (v1 : Int32) (v2 : Int32) (μ : Mem) : Option (Int32 × Mem) :=
  bnd (fX4_proofIn_33 v1 v2 μ) fun r1 m2 =>
  some ((imax (0 : Int32) ((100 : Int32) - r1)), m2)
set_option maxRecDepth 100000 in
set_option maxHeartbeats 4000000 in
theorem mX4_lackIn_33 {E : En} {l : Launch} (hI : Inj E) (v1 : Int32) (v2 : Int32) (μ : Mem) : MtI E l yX4_lackIn cX4_lackIn 3 (some .int) 3 [.ref (eAd E 33), .int v1, .int v2] μ (fX4_lackIn_33 v1 v2 μ) := by
  refine mtI_of (own := RX4) [(0, .ref (eAd E 33)), (1, .int v1), (2, .int v2)] hI rfl (by decide) (Nat.le_of_ble_eq_true rfl) (Nat.le_of_ble_eq_true rfl) rfl (fun Z hl0 X hr => ?_)
  unfold fX4_lackIn_33
  refine ao_iconst (pc := 0) X dX4_lackIn_0 ic_0 ?_
  refine ao_bipush (pc := 1) X dX4_lackIn_1 bp_100 ?_
  refine ao_aload_n (pc := 3) X dX4_lackIn_3 rfl ?_
  refine ao_iload_n (pc := 4) X dX4_lackIn_4 rfl ?_
  refine ao_iload_n (pc := 5) X dX4_lackIn_5 rfl ?_
  refine ao_callVI (pc := 6) (As := [.int v1, .int v2]) (st := [.int (100 : Int32), .int (0 : Int32)]) X hl0 dX4_lackIn_6 yv_X4_proofIn so_33 ml_RX4_149 (mX4_proofIn_33 hI v1 v2 μ) (Nat.le_of_ble_eq_true rfl) rfl rfl (Nat.le_of_ble_eq_true rfl) (fun r1 m2 => ?_)
  refine ao_isub (pc := 9) X dX4_lackIn_9 ?_
  refine ao_max (pc := 10) X dX4_lackIn_10 ml_RX4_72 MaxW_ok (Nat.le_of_ble_eq_true rfl) ?_
  exact ao_iret (pc := 13) X hr dX4_lackIn_13
