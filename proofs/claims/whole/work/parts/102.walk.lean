def fX8_readsProduct_19_1_b65 (rc : Int32 → Mem → Option (Int32 × Mem)) (k26 : Int32 → Int32 → Int32 → Int32 → Mem → Option (Int32 × Mem)) (p2 : Int32) (p5 : Int32) (q0 : Int32) (μ : Mem) : Option (Int32 × Mem) :=
  if q0 = 0 then (k26 p2 q0 (-1 : Int32) (p5 + (1 : Int32)) μ)
  else bnd (fX9_takesOneOf_1_s4 μ) fun r10 m11 =>
    k26 p2 q0 r10 (p5 + (1 : Int32)) m11
set_option maxRecDepth 100000 in
set_option maxHeartbeats 4000000 in
theorem bX8_readsProduct_19_1_65 {E : En} {l : Launch} {Z : Zt} (hI : Inj E) (hl0 : lZ l Z) {dT : Nat} (X : Cx E Z cX8_readsProduct RX8 6 (dT + 2)) (hr : rtOf Z = some .boolean) (hB : 6 ≤ dT) {rc : Int32 → Mem → Option (Int32 × Mem)} (hrc : ∀ (v2 : Int32) (m : Mem), MtI E l yX8_readsThing cX8_readsThing 5 (some .boolean) dT [.ref (eAd E 19), .ref (eAd E 1), .int v2] m (rc v2 m)) {k26 : Int32 → Int32 → Int32 → Int32 → Mem → Option (Int32 × Mem)} (hk26 : ∀ (p2 : Int32) (p3 : Int32) (p4 : Int32) (p5 : Int32) (m : Mem), AO E Z 6 (QI E Z) 26 [(0, .ref (eAd E 19)), (1, .ref (eAd E 1)), (2, .int p2), (3, .int p3), (4, .int p4), (5, .int p5)] [] m (k26 p2 p3 p4 p5 m)) (p2 : Int32) (p5 : Int32) (q0 : Int32) (μ : Mem) : AO E Z 6 (QI E Z) 65 [(0, .ref (eAd E 19)), (1, .ref (eAd E 1)), (2, .int p2), (5, .int p5)] [.int q0] μ (fX8_readsProduct_19_1_b65 rc k26 p2 p5 q0 μ) := by
  unfold fX8_readsProduct_19_1_b65
  refine ao_istore_n (pc := 65) (lv' := [(3, .int q0), (0, .ref (eAd E 19)), (1, .ref (eAd E 1)), (2, .int p2), (5, .int p5)]) X dX8_readsProduct_65 rfl (by decide) rfl ?_
  refine ao_iload_n (pc := 66) X dX8_readsProduct_66 rfl ?_
  refine ao_if_eq (pc := 67) (tgt := 79) X dX8_readsProduct_67 (by decide) (fun _ => ?_) (fun _ => ?_)
  · refine ao_iconst (pc := 79) X dX8_readsProduct_79 ic_m1 ?_
    refine ao_istore (pc := 80) (lv' := [(4, .int (-1 : Int32)), (3, .int q0), (0, .ref (eAd E 19)), (1, .ref (eAd E 1)), (2, .int p2), (5, .int p5)]) X dX8_readsProduct_80 (by decide) rfl ?_
    refine ao_iinc (pc := 82) (k := 5) (v := p5 + (1 : Int32)) (lv' := [(5, .int (p5 + (1 : Int32))), (4, .int (-1 : Int32)), (3, .int q0), (0, .ref (eAd E 19)), (1, .ref (eAd E 1)), (2, .int p2)]) X dX8_readsProduct_82 rfl (ii_ic ic_1) (by decide) rfl ?_
    refine ao_goto (pc := 85) (tgt := 26) X dX8_readsProduct_85 (by decide) ?_
    refine ao_sub [3, 4, 5, 2, 1, 0] rfl ?_
    exact hk26 p2 q0 (-1 : Int32) (p5 + (1 : Int32)) μ
  · refine ao_aload_n (pc := 70) X dX8_readsProduct_70 rfl ?_
    refine ao_ldcS (pc := 71) (tx := "*/") (i := 4) X dX8_readsProduct_71 (List.mem_of_getElem? (i := 4) rfl) ?_
    refine ao_callVI (pc := 73) (As := [.ref (eSk E 4)]) (st := []) X hl0 dX8_readsProduct_73 yv_X9_takesOneOf so_1 ml_RX8_66 (mX9_takesOneOf_1_s4 hI μ) (by omega) rfl rfl (Nat.le_of_ble_eq_true rfl) (fun r10 m11 => ?_)
    refine ao_goto (pc := 76) (tgt := 80) X dX8_readsProduct_76 (by decide) ?_
    refine ao_istore (pc := 80) (lv' := [(4, .int r10), (3, .int q0), (0, .ref (eAd E 19)), (1, .ref (eAd E 1)), (2, .int p2), (5, .int p5)]) X dX8_readsProduct_80 (by decide) rfl ?_
    refine ao_iinc (pc := 82) (k := 5) (v := p5 + (1 : Int32)) (lv' := [(5, .int (p5 + (1 : Int32))), (4, .int r10), (3, .int q0), (0, .ref (eAd E 19)), (1, .ref (eAd E 1)), (2, .int p2)]) X dX8_readsProduct_82 rfl (ii_ic ic_1) (by decide) rfl ?_
    refine ao_goto (pc := 85) (tgt := 26) X dX8_readsProduct_85 (by decide) ?_
    refine ao_sub [3, 4, 5, 2, 1, 0] rfl ?_
    exact hk26 p2 q0 r10 (p5 + (1 : Int32)) m11
def fX8_readsProduct_19_1_b64 (rc : Int32 → Mem → Option (Int32 × Mem)) (k26 : Int32 → Int32 → Int32 → Int32 → Mem → Option (Int32 × Mem)) (p2 : Int32) (p5 : Int32) (μ : Mem) : Option (Int32 × Mem) :=
  fX8_readsProduct_19_1_b65 rc k26 p2 p5 (0 : Int32) μ
set_option maxRecDepth 100000 in
set_option maxHeartbeats 4000000 in
theorem bX8_readsProduct_19_1_64 {E : En} {l : Launch} {Z : Zt} (hI : Inj E) (hl0 : lZ l Z) {dT : Nat} (X : Cx E Z cX8_readsProduct RX8 6 (dT + 2)) (hr : rtOf Z = some .boolean) (hB : 6 ≤ dT) {rc : Int32 → Mem → Option (Int32 × Mem)} (hrc : ∀ (v2 : Int32) (m : Mem), MtI E l yX8_readsThing cX8_readsThing 5 (some .boolean) dT [.ref (eAd E 19), .ref (eAd E 1), .int v2] m (rc v2 m)) {k26 : Int32 → Int32 → Int32 → Int32 → Mem → Option (Int32 × Mem)} (hk26 : ∀ (p2 : Int32) (p3 : Int32) (p4 : Int32) (p5 : Int32) (m : Mem), AO E Z 6 (QI E Z) 26 [(0, .ref (eAd E 19)), (1, .ref (eAd E 1)), (2, .int p2), (3, .int p3), (4, .int p4), (5, .int p5)] [] m (k26 p2 p3 p4 p5 m)) (p2 : Int32) (p5 : Int32) (μ : Mem) : AO E Z 6 (QI E Z) 64 [(0, .ref (eAd E 19)), (1, .ref (eAd E 1)), (2, .int p2), (5, .int p5)] [] μ (fX8_readsProduct_19_1_b64 rc k26 p2 p5 μ) := by
  unfold fX8_readsProduct_19_1_b64
  refine ao_iconst (pc := 64) X dX8_readsProduct_64 ic_0 ?_
  refine ao_sub [0, 1, 2, 3] rfl ?_
  exact bX8_readsProduct_19_1_65 hI hl0 X hr hB hrc hk26 p2 p5 (0 : Int32) μ
def fX8_readsProduct_19_1_b26 (rc : Int32 → Mem → Option (Int32 × Mem)) : Nat → Int32 → Int32 → Int32 → Int32 → Mem → Option (Int32 × Mem)
  | 0, _, _, _, _, _ => none
  | n + 1, p2, p3, p4, p5, μ =>
  if (40 : Int32) ≤ p5 then (gd (isZ p3) (some (p3, μ)))
  else if p4 < 0 then (gd (isZ p3) (some (p3, μ)))
    else bnd (fX8_readsSigned_19_1 rc p2 μ) fun r5 m6 =>
      if r5 = 0 then (fX8_readsProduct_19_1_b64 rc (fun p2 p3 p4 p5 m => fX8_readsProduct_19_1_b26 rc n p2 p3 p4 p5 m) p2 p5 m6)
      else bnd (fX8_drafts_19 ((2005 : Int32) + p4) m6) fun r7 m8 =>
        if r7 = 0 then (fX8_readsProduct_19_1_b64 rc (fun p2 p3 p4 p5 m => fX8_readsProduct_19_1_b26 rc n p2 p3 p4 p5 m) p2 p5 m8)
        else fX8_readsProduct_19_1_b65 rc (fun p2 p3 p4 p5 m => fX8_readsProduct_19_1_b26 rc n p2 p3 p4 p5 m) p2 p5 (1 : Int32) m8
set_option maxRecDepth 100000 in
set_option maxHeartbeats 4000000 in
theorem bX8_readsProduct_19_1_26 {E : En} {l : Launch} {Z : Zt} (hI : Inj E) (hl0 : lZ l Z) {dT : Nat} (X : Cx E Z cX8_readsProduct RX8 6 (dT + 2)) (hr : rtOf Z = some .boolean) (hB : 6 ≤ dT) {rc : Int32 → Mem → Option (Int32 × Mem)} (hrc : ∀ (v2 : Int32) (m : Mem), MtI E l yX8_readsThing cX8_readsThing 5 (some .boolean) dT [.ref (eAd E 19), .ref (eAd E 1), .int v2] m (rc v2 m)) : ∀ (n : Nat) (p2 : Int32) (p3 : Int32) (p4 : Int32) (p5 : Int32) (μ : Mem), AO E Z 6 (QI E Z) 26 [(0, .ref (eAd E 19)), (1, .ref (eAd E 1)), (2, .int p2), (3, .int p3), (4, .int p4), (5, .int p5)] [] μ (fX8_readsProduct_19_1_b26 rc n p2 p3 p4 p5 μ) := by
  intro n
  induction n with
  | zero =>
    intros
    exact ao_none
  | succ n ih =>
    intro p2 p3 p4 p5 μ
    rw [fX8_readsProduct_19_1_b26]
    refine ao_iload (pc := 26) X dX8_readsProduct_26 rfl ?_
    refine ao_bipush (pc := 28) X dX8_readsProduct_28 bp_40 ?_
    refine ao_icmp_ge (pc := 30) (tgt := 88) X dX8_readsProduct_30 (by decide) (fun _ => ?_) (fun _ => ?_)
    · refine ao_iload_n (pc := 88) X dX8_readsProduct_88 rfl ?_
      exact ao_zretG (pc := 89) X hr dX8_readsProduct_89
    · refine ao_iload (pc := 33) X dX8_readsProduct_33 rfl ?_
      refine ao_if_lt (pc := 35) (tgt := 88) X dX8_readsProduct_35 (by decide) (fun _ => ?_) (fun _ => ?_)
      · refine ao_iload_n (pc := 88) X dX8_readsProduct_88 rfl ?_
        exact ao_zretG (pc := 89) X hr dX8_readsProduct_89
      · refine ao_aload_n (pc := 38) X dX8_readsProduct_38 rfl ?_
        refine ao_aload_n (pc := 39) X dX8_readsProduct_39 rfl ?_
        refine ao_iload_n (pc := 40) X dX8_readsProduct_40 rfl ?_
        refine ao_callVI (pc := 41) (As := [.ref (eAd E 1), .int p2]) (st := []) X hl0 dX8_readsProduct_41 yv_X8_readsSigned so_19 ml_RX8_79 (mX8_readsSigned_19_1 hI hB hrc p2 μ) (by omega) rfl rfl (Nat.le_of_ble_eq_true rfl) (fun r5 m6 => ?_)
        refine ao_if_eq (pc := 44) (tgt := 64) X dX8_readsProduct_44 (by decide) (fun _ => ?_) (fun _ => ?_)
        · refine ao_sub [0, 1, 2, 5] rfl ?_
          exact bX8_readsProduct_19_1_64 hI hl0 X hr hB hrc ih p2 p5 m6
        · refine ao_aload_n (pc := 47) X dX8_readsProduct_47 rfl ?_
          refine ao_sipush (pc := 48) X dX8_readsProduct_48 sp_2005 ?_
          refine ao_iload (pc := 51) X dX8_readsProduct_51 rfl ?_
          refine ao_iadd (pc := 53) X dX8_readsProduct_53 ?_
          refine ao_callVI (pc := 54) (As := [.int ((2005 : Int32) + p4)]) (st := []) X hl0 dX8_readsProduct_54 yv_X8_drafts so_19 ml_RX8_70 (mX8_drafts_19 hI ((2005 : Int32) + p4) m6) (by omega) rfl rfl (Nat.le_of_ble_eq_true rfl) (fun r7 m8 => ?_)
          refine ao_if_eq (pc := 57) (tgt := 64) X dX8_readsProduct_57 (by decide) (fun _ => ?_) (fun _ => ?_)
          · refine ao_sub [0, 1, 2, 5] rfl ?_
            exact bX8_readsProduct_19_1_64 hI hl0 X hr hB hrc ih p2 p5 m8
          · refine ao_iconst (pc := 60) X dX8_readsProduct_60 ic_1 ?_
            refine ao_goto (pc := 61) (tgt := 65) X dX8_readsProduct_61 (by decide) ?_
            refine ao_sub [0, 1, 2, 5] rfl ?_
            exact bX8_readsProduct_19_1_65 hI hl0 X hr hB hrc ih p2 p5 (1 : Int32) m8
def fX8_readsProduct_19_1 (rc : Int32 → Mem → Option (Int32 × Mem)) (v2 : Int32) (μ : Mem) : Option (Int32 × Mem) :=
  bnd (fX8_readsSigned_19_1 rc v2 μ) fun r1 m2 =>
  if r1 = 0 then (fX8_readsProduct_19_1_b26 rc FU v2 r1 (-1 : Int32) (0 : Int32) m2)
  else bnd (fX9_takesOneOf_1_s4 m2) fun r3 m4 =>
    fX8_readsProduct_19_1_b26 rc FU v2 r1 r3 (0 : Int32) m4
set_option maxRecDepth 100000 in
set_option maxHeartbeats 4000000 in
theorem mX8_readsProduct_19_1 {E : En} {l : Launch} (hI : Inj E) {dT : Nat} (hB : 6 ≤ dT) {rc : Int32 → Mem → Option (Int32 × Mem)} (hrc : ∀ (v2 : Int32) (m : Mem), MtI E l yX8_readsThing cX8_readsThing 5 (some .boolean) dT [.ref (eAd E 19), .ref (eAd E 1), .int v2] m (rc v2 m)) (v2 : Int32) (μ : Mem) : MtI E l yX8_readsProduct cX8_readsProduct 6 (some .boolean) (dT + 2) [.ref (eAd E 19), .ref (eAd E 1), .int v2] μ (fX8_readsProduct_19_1 rc v2 μ) := by
  refine mtI_of (own := RX8) [(0, .ref (eAd E 19)), (1, .ref (eAd E 1)), (2, .int v2)] hI rfl (by decide) (by omega) (Nat.le_of_ble_eq_true rfl) rfl (fun Z hl0 X hr => ?_)
  unfold fX8_readsProduct_19_1
  refine ao_aload_n (pc := 0) X dX8_readsProduct_0 rfl ?_
  refine ao_aload_n (pc := 1) X dX8_readsProduct_1 rfl ?_
  refine ao_iload_n (pc := 2) X dX8_readsProduct_2 rfl ?_
  refine ao_callVI (pc := 3) (As := [.ref (eAd E 1), .int v2]) (st := []) X hl0 dX8_readsProduct_3 yv_X8_readsSigned so_19 ml_RX8_79 (mX8_readsSigned_19_1 hI hB hrc v2 μ) (by omega) rfl rfl (Nat.le_of_ble_eq_true rfl) (fun r1 m2 => ?_)
  refine ao_istore_n (pc := 6) (lv' := [(3, .int r1), (0, .ref (eAd E 19)), (1, .ref (eAd E 1)), (2, .int v2)]) X dX8_readsProduct_6 rfl (by decide) rfl ?_
  refine ao_iload_n (pc := 7) X dX8_readsProduct_7 rfl ?_
  refine ao_if_eq (pc := 8) (tgt := 20) X dX8_readsProduct_8 (by decide) (fun _ => ?_) (fun _ => ?_)
  · refine ao_iconst (pc := 20) X dX8_readsProduct_20 ic_m1 ?_
    refine ao_istore (pc := 21) (lv' := [(4, .int (-1 : Int32)), (3, .int r1), (0, .ref (eAd E 19)), (1, .ref (eAd E 1)), (2, .int v2)]) X dX8_readsProduct_21 (by decide) rfl ?_
    refine ao_iconst (pc := 23) X dX8_readsProduct_23 ic_0 ?_
    refine ao_istore (pc := 24) (lv' := [(5, .int (0 : Int32)), (4, .int (-1 : Int32)), (3, .int r1), (0, .ref (eAd E 19)), (1, .ref (eAd E 1)), (2, .int v2)]) X dX8_readsProduct_24 (by decide) rfl ?_
    refine ao_sub [3, 4, 5, 2, 1, 0] rfl ?_
    exact bX8_readsProduct_19_1_26 hI hl0 X hr hB hrc FU v2 r1 (-1 : Int32) (0 : Int32) m2
  · refine ao_aload_n (pc := 11) X dX8_readsProduct_11 rfl ?_
    refine ao_ldcS (pc := 12) (tx := "*/") (i := 4) X dX8_readsProduct_12 (List.mem_of_getElem? (i := 4) rfl) ?_
    refine ao_callVI (pc := 14) (As := [.ref (eSk E 4)]) (st := []) X hl0 dX8_readsProduct_14 yv_X9_takesOneOf so_1 ml_RX8_66 (mX9_takesOneOf_1_s4 hI m2) (by omega) rfl rfl (Nat.le_of_ble_eq_true rfl) (fun r3 m4 => ?_)
    refine ao_goto (pc := 17) (tgt := 21) X dX8_readsProduct_17 (by decide) ?_
    refine ao_istore (pc := 21) (lv' := [(4, .int r3), (3, .int r1), (0, .ref (eAd E 19)), (1, .ref (eAd E 1)), (2, .int v2)]) X dX8_readsProduct_21 (by decide) rfl ?_
    refine ao_iconst (pc := 23) X dX8_readsProduct_23 ic_0 ?_
    refine ao_istore (pc := 24) (lv' := [(5, .int (0 : Int32)), (4, .int r3), (3, .int r1), (0, .ref (eAd E 19)), (1, .ref (eAd E 1)), (2, .int v2)]) X dX8_readsProduct_24 (by decide) rfl ?_
    refine ao_sub [3, 4, 5, 2, 1, 0] rfl ?_
    exact bX8_readsProduct_19_1_26 hI hl0 X hr hB hrc FU v2 r1 r3 (0 : Int32) m4
def fX8_readsSum_19_1_b65 (rc : Int32 → Mem → Option (Int32 × Mem)) (k26 : Int32 → Int32 → Int32 → Int32 → Mem → Option (Int32 × Mem)) (p2 : Int32) (p5 : Int32) (q0 : Int32) (μ : Mem) : Option (Int32 × Mem) :=
  if q0 = 0 then (k26 p2 q0 (-1 : Int32) (p5 + (1 : Int32)) μ)
  else bnd (fX9_takesOneOf_1_s5 μ) fun r10 m11 =>
    k26 p2 q0 r10 (p5 + (1 : Int32)) m11
set_option maxRecDepth 100000 in
set_option maxHeartbeats 4000000 in
theorem bX8_readsSum_19_1_65 {E : En} {l : Launch} {Z : Zt} (hI : Inj E) (hl0 : lZ l Z) {dT : Nat} (X : Cx E Z cX8_readsSum RX8 6 (dT + 3)) (hr : rtOf Z = some .boolean) (hB : 6 ≤ dT) {rc : Int32 → Mem → Option (Int32 × Mem)} (hrc : ∀ (v2 : Int32) (m : Mem), MtI E l yX8_readsThing cX8_readsThing 5 (some .boolean) dT [.ref (eAd E 19), .ref (eAd E 1), .int v2] m (rc v2 m)) {k26 : Int32 → Int32 → Int32 → Int32 → Mem → Option (Int32 × Mem)} (hk26 : ∀ (p2 : Int32) (p3 : Int32) (p4 : Int32) (p5 : Int32) (m : Mem), AO E Z 6 (QI E Z) 26 [(0, .ref (eAd E 19)), (1, .ref (eAd E 1)), (2, .int p2), (3, .int p3), (4, .int p4), (5, .int p5)] [] m (k26 p2 p3 p4 p5 m)) (p2 : Int32) (p5 : Int32) (q0 : Int32) (μ : Mem) : AO E Z 6 (QI E Z) 65 [(0, .ref (eAd E 19)), (1, .ref (eAd E 1)), (2, .int p2), (5, .int p5)] [.int q0] μ (fX8_readsSum_19_1_b65 rc k26 p2 p5 q0 μ) := by
  unfold fX8_readsSum_19_1_b65
  refine ao_istore_n (pc := 65) (lv' := [(3, .int q0), (0, .ref (eAd E 19)), (1, .ref (eAd E 1)), (2, .int p2), (5, .int p5)]) X dX8_readsSum_65 rfl (by decide) rfl ?_
  refine ao_iload_n (pc := 66) X dX8_readsSum_66 rfl ?_
  refine ao_if_eq (pc := 67) (tgt := 79) X dX8_readsSum_67 (by decide) (fun _ => ?_) (fun _ => ?_)
  · refine ao_iconst (pc := 79) X dX8_readsSum_79 ic_m1 ?_
    refine ao_istore (pc := 80) (lv' := [(4, .int (-1 : Int32)), (3, .int q0), (0, .ref (eAd E 19)), (1, .ref (eAd E 1)), (2, .int p2), (5, .int p5)]) X dX8_readsSum_80 (by decide) rfl ?_
    refine ao_iinc (pc := 82) (k := 5) (v := p5 + (1 : Int32)) (lv' := [(5, .int (p5 + (1 : Int32))), (4, .int (-1 : Int32)), (3, .int q0), (0, .ref (eAd E 19)), (1, .ref (eAd E 1)), (2, .int p2)]) X dX8_readsSum_82 rfl (ii_ic ic_1) (by decide) rfl ?_
    refine ao_goto (pc := 85) (tgt := 26) X dX8_readsSum_85 (by decide) ?_
    refine ao_sub [3, 4, 5, 2, 1, 0] rfl ?_
    exact hk26 p2 q0 (-1 : Int32) (p5 + (1 : Int32)) μ
  · refine ao_aload_n (pc := 70) X dX8_readsSum_70 rfl ?_
    refine ao_ldcS (pc := 71) (tx := "+-") (i := 5) X dX8_readsSum_71 (List.mem_of_getElem? (i := 5) rfl) ?_
    refine ao_callVI (pc := 73) (As := [.ref (eSk E 5)]) (st := []) X hl0 dX8_readsSum_73 yv_X9_takesOneOf so_1 ml_RX8_66 (mX9_takesOneOf_1_s5 hI μ) (by omega) rfl rfl (Nat.le_of_ble_eq_true rfl) (fun r10 m11 => ?_)
    refine ao_goto (pc := 76) (tgt := 80) X dX8_readsSum_76 (by decide) ?_
    refine ao_istore (pc := 80) (lv' := [(4, .int r10), (3, .int q0), (0, .ref (eAd E 19)), (1, .ref (eAd E 1)), (2, .int p2), (5, .int p5)]) X dX8_readsSum_80 (by decide) rfl ?_
    refine ao_iinc (pc := 82) (k := 5) (v := p5 + (1 : Int32)) (lv' := [(5, .int (p5 + (1 : Int32))), (4, .int r10), (3, .int q0), (0, .ref (eAd E 19)), (1, .ref (eAd E 1)), (2, .int p2)]) X dX8_readsSum_82 rfl (ii_ic ic_1) (by decide) rfl ?_
    refine ao_goto (pc := 85) (tgt := 26) X dX8_readsSum_85 (by decide) ?_
    refine ao_sub [3, 4, 5, 2, 1, 0] rfl ?_
    exact hk26 p2 q0 r10 (p5 + (1 : Int32)) m11
def fX8_readsSum_19_1_b64 (rc : Int32 → Mem → Option (Int32 × Mem)) (k26 : Int32 → Int32 → Int32 → Int32 → Mem → Option (Int32 × Mem)) (p2 : Int32) (p5 : Int32) (μ : Mem) : Option (Int32 × Mem) :=
  fX8_readsSum_19_1_b65 rc k26 p2 p5 (0 : Int32) μ
set_option maxRecDepth 100000 in
set_option maxHeartbeats 4000000 in
theorem bX8_readsSum_19_1_64 {E : En} {l : Launch} {Z : Zt} (hI : Inj E) (hl0 : lZ l Z) {dT : Nat} (X : Cx E Z cX8_readsSum RX8 6 (dT + 3)) (hr : rtOf Z = some .boolean) (hB : 6 ≤ dT) {rc : Int32 → Mem → Option (Int32 × Mem)} (hrc : ∀ (v2 : Int32) (m : Mem), MtI E l yX8_readsThing cX8_readsThing 5 (some .boolean) dT [.ref (eAd E 19), .ref (eAd E 1), .int v2] m (rc v2 m)) {k26 : Int32 → Int32 → Int32 → Int32 → Mem → Option (Int32 × Mem)} (hk26 : ∀ (p2 : Int32) (p3 : Int32) (p4 : Int32) (p5 : Int32) (m : Mem), AO E Z 6 (QI E Z) 26 [(0, .ref (eAd E 19)), (1, .ref (eAd E 1)), (2, .int p2), (3, .int p3), (4, .int p4), (5, .int p5)] [] m (k26 p2 p3 p4 p5 m)) (p2 : Int32) (p5 : Int32) (μ : Mem) : AO E Z 6 (QI E Z) 64 [(0, .ref (eAd E 19)), (1, .ref (eAd E 1)), (2, .int p2), (5, .int p5)] [] μ (fX8_readsSum_19_1_b64 rc k26 p2 p5 μ) := by
  unfold fX8_readsSum_19_1_b64
  refine ao_iconst (pc := 64) X dX8_readsSum_64 ic_0 ?_
  refine ao_sub [0, 1, 2, 3] rfl ?_
  exact bX8_readsSum_19_1_65 hI hl0 X hr hB hrc hk26 p2 p5 (0 : Int32) μ
def fX8_readsSum_19_1_b26 (rc : Int32 → Mem → Option (Int32 × Mem)) : Nat → Int32 → Int32 → Int32 → Int32 → Mem → Option (Int32 × Mem)
  | 0, _, _, _, _, _ => none
  | n + 1, p2, p3, p4, p5, μ =>
  if (40 : Int32) ≤ p5 then (gd (isZ p3) (some (p3, μ)))
  else if p4 < 0 then (gd (isZ p3) (some (p3, μ)))
    else bnd (fX8_readsProduct_19_1 rc p2 μ) fun r5 m6 =>
      if r5 = 0 then (fX8_readsSum_19_1_b64 rc (fun p2 p3 p4 p5 m => fX8_readsSum_19_1_b26 rc n p2 p3 p4 p5 m) p2 p5 m6)
      else bnd (fX8_drafts_19 ((2003 : Int32) + p4) m6) fun r7 m8 =>
        if r7 = 0 then (fX8_readsSum_19_1_b64 rc (fun p2 p3 p4 p5 m => fX8_readsSum_19_1_b26 rc n p2 p3 p4 p5 m) p2 p5 m8)
        else fX8_readsSum_19_1_b65 rc (fun p2 p3 p4 p5 m => fX8_readsSum_19_1_b26 rc n p2 p3 p4 p5 m) p2 p5 (1 : Int32) m8
set_option maxRecDepth 100000 in
set_option maxHeartbeats 4000000 in
theorem bX8_readsSum_19_1_26 {E : En} {l : Launch} {Z : Zt} (hI : Inj E) (hl0 : lZ l Z) {dT : Nat} (X : Cx E Z cX8_readsSum RX8 6 (dT + 3)) (hr : rtOf Z = some .boolean) (hB : 6 ≤ dT) {rc : Int32 → Mem → Option (Int32 × Mem)} (hrc : ∀ (v2 : Int32) (m : Mem), MtI E l yX8_readsThing cX8_readsThing 5 (some .boolean) dT [.ref (eAd E 19), .ref (eAd E 1), .int v2] m (rc v2 m)) : ∀ (n : Nat) (p2 : Int32) (p3 : Int32) (p4 : Int32) (p5 : Int32) (μ : Mem), AO E Z 6 (QI E Z) 26 [(0, .ref (eAd E 19)), (1, .ref (eAd E 1)), (2, .int p2), (3, .int p3), (4, .int p4), (5, .int p5)] [] μ (fX8_readsSum_19_1_b26 rc n p2 p3 p4 p5 μ) := by
  intro n
  induction n with
  | zero =>
    intros
    exact ao_none
  | succ n ih =>
    intro p2 p3 p4 p5 μ
    rw [fX8_readsSum_19_1_b26]
    refine ao_iload (pc := 26) X dX8_readsSum_26 rfl ?_
    refine ao_bipush (pc := 28) X dX8_readsSum_28 bp_40 ?_
    refine ao_icmp_ge (pc := 30) (tgt := 88) X dX8_readsSum_30 (by decide) (fun _ => ?_) (fun _ => ?_)
    · refine ao_iload_n (pc := 88) X dX8_readsSum_88 rfl ?_
      exact ao_zretG (pc := 89) X hr dX8_readsSum_89
    · refine ao_iload (pc := 33) X dX8_readsSum_33 rfl ?_
      refine ao_if_lt (pc := 35) (tgt := 88) X dX8_readsSum_35 (by decide) (fun _ => ?_) (fun _ => ?_)
      · refine ao_iload_n (pc := 88) X dX8_readsSum_88 rfl ?_
        exact ao_zretG (pc := 89) X hr dX8_readsSum_89
      · refine ao_aload_n (pc := 38) X dX8_readsSum_38 rfl ?_
        refine ao_aload_n (pc := 39) X dX8_readsSum_39 rfl ?_
        refine ao_iload_n (pc := 40) X dX8_readsSum_40 rfl ?_
        refine ao_callVI (pc := 41) (As := [.ref (eAd E 1), .int p2]) (st := []) X hl0 dX8_readsSum_41 yv_X8_readsProduct so_19 ml_RX8_74 (mX8_readsProduct_19_1 hI hB hrc p2 μ) (by omega) rfl rfl (Nat.le_of_ble_eq_true rfl) (fun r5 m6 => ?_)
        refine ao_if_eq (pc := 44) (tgt := 64) X dX8_readsSum_44 (by decide) (fun _ => ?_) (fun _ => ?_)
        · refine ao_sub [0, 1, 2, 5] rfl ?_
          exact bX8_readsSum_19_1_64 hI hl0 X hr hB hrc ih p2 p5 m6
        · refine ao_aload_n (pc := 47) X dX8_readsSum_47 rfl ?_
          refine ao_sipush (pc := 48) X dX8_readsSum_48 sp_2003 ?_
          refine ao_iload (pc := 51) X dX8_readsSum_51 rfl ?_
          refine ao_iadd (pc := 53) X dX8_readsSum_53 ?_
          refine ao_callVI (pc := 54) (As := [.int ((2003 : Int32) + p4)]) (st := []) X hl0 dX8_readsSum_54 yv_X8_drafts so_19 ml_RX8_70 (mX8_drafts_19 hI ((2003 : Int32) + p4) m6) (by omega) rfl rfl (Nat.le_of_ble_eq_true rfl) (fun r7 m8 => ?_)
          refine ao_if_eq (pc := 57) (tgt := 64) X dX8_readsSum_57 (by decide) (fun _ => ?_) (fun _ => ?_)
          · refine ao_sub [0, 1, 2, 5] rfl ?_
            exact bX8_readsSum_19_1_64 hI hl0 X hr hB hrc ih p2 p5 m8
          · refine ao_iconst (pc := 60) X dX8_readsSum_60 ic_1 ?_
            refine ao_goto (pc := 61) (tgt := 65) X dX8_readsSum_61 (by decide) ?_
            refine ao_sub [0, 1, 2, 5] rfl ?_
            exact bX8_readsSum_19_1_65 hI hl0 X hr hB hrc ih p2 p5 (1 : Int32) m8
def fX8_readsSum_19_1 (rc : Int32 → Mem → Option (Int32 × Mem)) (v2 : Int32) (μ : Mem) : Option (Int32 × Mem) :=
  bnd (fX8_readsProduct_19_1 rc v2 μ) fun r1 m2 =>
  if r1 = 0 then (fX8_readsSum_19_1_b26 rc FU v2 r1 (-1 : Int32) (0 : Int32) m2)
  else bnd (fX9_takesOneOf_1_s5 m2) fun r3 m4 =>
    fX8_readsSum_19_1_b26 rc FU v2 r1 r3 (0 : Int32) m4
set_option maxRecDepth 100000 in
set_option maxHeartbeats 4000000 in
theorem mX8_readsSum_19_1 {E : En} {l : Launch} (hI : Inj E) {dT : Nat} (hB : 6 ≤ dT) {rc : Int32 → Mem → Option (Int32 × Mem)} (hrc : ∀ (v2 : Int32) (m : Mem), MtI E l yX8_readsThing cX8_readsThing 5 (some .boolean) dT [.ref (eAd E 19), .ref (eAd E 1), .int v2] m (rc v2 m)) (v2 : Int32) (μ : Mem) : MtI E l yX8_readsSum cX8_readsSum 6 (some .boolean) (dT + 3) [.ref (eAd E 19), .ref (eAd E 1), .int v2] μ (fX8_readsSum_19_1 rc v2 μ) := by
  refine mtI_of (own := RX8) [(0, .ref (eAd E 19)), (1, .ref (eAd E 1)), (2, .int v2)] hI rfl (by decide) (by omega) (Nat.le_of_ble_eq_true rfl) rfl (fun Z hl0 X hr => ?_)
  unfold fX8_readsSum_19_1
  refine ao_aload_n (pc := 0) X dX8_readsSum_0 rfl ?_
  refine ao_aload_n (pc := 1) X dX8_readsSum_1 rfl ?_
  refine ao_iload_n (pc := 2) X dX8_readsSum_2 rfl ?_
  refine ao_callVI (pc := 3) (As := [.ref (eAd E 1), .int v2]) (st := []) X hl0 dX8_readsSum_3 yv_X8_readsProduct so_19 ml_RX8_74 (mX8_readsProduct_19_1 hI hB hrc v2 μ) (by omega) rfl rfl (Nat.le_of_ble_eq_true rfl) (fun r1 m2 => ?_)
  refine ao_istore_n (pc := 6) (lv' := [(3, .int r1), (0, .ref (eAd E 19)), (1, .ref (eAd E 1)), (2, .int v2)]) X dX8_readsSum_6 rfl (by decide) rfl ?_
  refine ao_iload_n (pc := 7) X dX8_readsSum_7 rfl ?_
  refine ao_if_eq (pc := 8) (tgt := 20) X dX8_readsSum_8 (by decide) (fun _ => ?_) (fun _ => ?_)
  · refine ao_iconst (pc := 20) X dX8_readsSum_20 ic_m1 ?_
    refine ao_istore (pc := 21) (lv' := [(4, .int (-1 : Int32)), (3, .int r1), (0, .ref (eAd E 19)), (1, .ref (eAd E 1)), (2, .int v2)]) X dX8_readsSum_21 (by decide) rfl ?_
    refine ao_iconst (pc := 23) X dX8_readsSum_23 ic_0 ?_
    refine ao_istore (pc := 24) (lv' := [(5, .int (0 : Int32)), (4, .int (-1 : Int32)), (3, .int r1), (0, .ref (eAd E 19)), (1, .ref (eAd E 1)), (2, .int v2)]) X dX8_readsSum_24 (by decide) rfl ?_
    refine ao_sub [3, 4, 5, 2, 1, 0] rfl ?_
    exact bX8_readsSum_19_1_26 hI hl0 X hr hB hrc FU v2 r1 (-1 : Int32) (0 : Int32) m2
  · refine ao_aload_n (pc := 11) X dX8_readsSum_11 rfl ?_
    refine ao_ldcS (pc := 12) (tx := "+-") (i := 5) X dX8_readsSum_12 (List.mem_of_getElem? (i := 5) rfl) ?_
    refine ao_callVI (pc := 14) (As := [.ref (eSk E 5)]) (st := []) X hl0 dX8_readsSum_14 yv_X9_takesOneOf so_1 ml_RX8_66 (mX9_takesOneOf_1_s5 hI m2) (by omega) rfl rfl (Nat.le_of_ble_eq_true rfl) (fun r3 m4 => ?_)
    refine ao_goto (pc := 17) (tgt := 21) X dX8_readsSum_17 (by decide) ?_
    refine ao_istore (pc := 21) (lv' := [(4, .int r3), (3, .int r1), (0, .ref (eAd E 19)), (1, .ref (eAd E 1)), (2, .int v2)]) X dX8_readsSum_21 (by decide) rfl ?_
    refine ao_iconst (pc := 23) X dX8_readsSum_23 ic_0 ?_
    refine ao_istore (pc := 24) (lv' := [(5, .int (0 : Int32)), (4, .int r3), (3, .int r1), (0, .ref (eAd E 19)), (1, .ref (eAd E 1)), (2, .int v2)]) X dX8_readsSum_24 (by decide) rfl ?_
    refine ao_sub [3, 4, 5, 2, 1, 0] rfl ?_
    exact bX8_readsSum_19_1_26 hI hl0 X hr hB hrc FU v2 r1 r3 (0 : Int32) m4
def fX8_readsExpression_19_1 (rc : Int32 → Mem → Option (Int32 × Mem)) (v2 : Int32) (μ : Mem) : Option (Int32 × Mem) :=
  bnd (fX8_readsSum_19_1 rc v2 μ) fun r1 m2 =>
  if r1 = 0 then (some ((0 : Int32), m2))
  else bnd (fX9_takesOneOf_1_s6 m2) fun r3 m4 =>
    if 0 ≤ r3 then (bnd (fX8_readsSum_19_1 rc v2 m4) fun r5 m6 =>
      if r5 = 0 then (some ((0 : Int32), m6))
      else bnd (fX8_drafts_19 ((2000 : Int32) + r3) m6) fun r7 m8 =>
        if r7 = 0 then (some ((0 : Int32), m8))
        else some ((1 : Int32), m8))
    else some ((1 : Int32), m4)
set_option maxRecDepth 100000 in
set_option maxHeartbeats 4000000 in
theorem mX8_readsExpression_19_1 {E : En} {l : Launch} (hI : Inj E) {dT : Nat} (hB : 6 ≤ dT) {rc : Int32 → Mem → Option (Int32 × Mem)} (hrc : ∀ (v2 : Int32) (m : Mem), MtI E l yX8_readsThing cX8_readsThing 5 (some .boolean) dT [.ref (eAd E 19), .ref (eAd E 1), .int v2] m (rc v2 m)) (v2 : Int32) (μ : Mem) : MtI E l yX8_readsExpression cX8_readsExpression 4 (some .boolean) (dT + 4) [.ref (eAd E 19), .ref (eAd E 1), .int v2] μ (fX8_readsExpression_19_1 rc v2 μ) := by
  refine mtI_of (own := RX8) [(0, .ref (eAd E 19)), (1, .ref (eAd E 1)), (2, .int v2)] hI rfl (by decide) (by omega) (Nat.le_of_ble_eq_true rfl) rfl (fun Z hl0 X hr => ?_)
  unfold fX8_readsExpression_19_1
  refine ao_aload_n (pc := 0) X dX8_readsExpression_0 rfl ?_
  refine ao_aload_n (pc := 1) X dX8_readsExpression_1 rfl ?_
  refine ao_iload_n (pc := 2) X dX8_readsExpression_2 rfl ?_
  refine ao_callVI (pc := 3) (As := [.ref (eAd E 1), .int v2]) (st := []) X hl0 dX8_readsExpression_3 yv_X8_readsSum so_19 ml_RX8_61 (mX8_readsSum_19_1 hI hB hrc v2 μ) (by omega) rfl rfl (Nat.le_of_ble_eq_true rfl) (fun r1 m2 => ?_)
  refine ao_if_ne (pc := 6) (tgt := 11) X dX8_readsExpression_6 (by decide) (fun _ => ?_) (fun _ => ?_)
  · refine ao_aload_n (pc := 11) X dX8_readsExpression_11 rfl ?_
    refine ao_ldcS (pc := 12) (tx := "<>=") (i := 6) X dX8_readsExpression_12 (List.mem_of_getElem? (i := 6) rfl) ?_
    refine ao_callVI (pc := 14) (As := [.ref (eSk E 6)]) (st := []) X hl0 dX8_readsExpression_14 yv_X9_takesOneOf so_1 ml_RX8_66 (mX9_takesOneOf_1_s6 hI m2) (by omega) rfl rfl (Nat.le_of_ble_eq_true rfl) (fun r3 m4 => ?_)
    refine ao_istore_n (pc := 17) (lv' := [(3, .int r3), (0, .ref (eAd E 19)), (1, .ref (eAd E 1)), (2, .int v2)]) X dX8_readsExpression_17 rfl (by decide) rfl ?_
    refine ao_iload_n (pc := 18) X dX8_readsExpression_18 rfl ?_
    refine ao_if_ge (pc := 19) (tgt := 24) X dX8_readsExpression_19 (by decide) (fun _ => ?_) (fun _ => ?_)
    · refine ao_aload_n (pc := 24) X dX8_readsExpression_24 rfl ?_
      refine ao_aload_n (pc := 25) X dX8_readsExpression_25 rfl ?_
      refine ao_iload_n (pc := 26) X dX8_readsExpression_26 rfl ?_
      refine ao_callVI (pc := 27) (As := [.ref (eAd E 1), .int v2]) (st := []) X hl0 dX8_readsExpression_27 yv_X8_readsSum so_19 ml_RX8_61 (mX8_readsSum_19_1 hI hB hrc v2 m4) (by omega) rfl rfl (Nat.le_of_ble_eq_true rfl) (fun r5 m6 => ?_)
      refine ao_if_eq (pc := 30) (tgt := 49) X dX8_readsExpression_30 (by decide) (fun _ => ?_) (fun _ => ?_)
      · refine ao_iconst (pc := 49) X dX8_readsExpression_49 ic_0 ?_
        exact ao_zret (pc := 50) X hr rfl dX8_readsExpression_50
      · refine ao_aload_n (pc := 33) X dX8_readsExpression_33 rfl ?_
        refine ao_sipush (pc := 34) X dX8_readsExpression_34 sp_2000 ?_
        refine ao_iload_n (pc := 37) X dX8_readsExpression_37 rfl ?_
        refine ao_iadd (pc := 38) X dX8_readsExpression_38 ?_
        refine ao_callVI (pc := 39) (As := [.int ((2000 : Int32) + r3)]) (st := []) X hl0 dX8_readsExpression_39 yv_X8_drafts so_19 ml_RX8_70 (mX8_drafts_19 hI ((2000 : Int32) + r3) m6) (by omega) rfl rfl (Nat.le_of_ble_eq_true rfl) (fun r7 m8 => ?_)
        refine ao_if_eq (pc := 42) (tgt := 49) X dX8_readsExpression_42 (by decide) (fun _ => ?_) (fun _ => ?_)
        · refine ao_iconst (pc := 49) X dX8_readsExpression_49 ic_0 ?_
          exact ao_zret (pc := 50) X hr rfl dX8_readsExpression_50
        · refine ao_iconst (pc := 45) X dX8_readsExpression_45 ic_1 ?_
          refine ao_goto (pc := 46) (tgt := 50) X dX8_readsExpression_46 (by decide) ?_
          exact ao_zret (pc := 50) X hr rfl dX8_readsExpression_50
    · refine ao_iconst (pc := 22) X dX8_readsExpression_22 ic_1 ?_
      exact ao_zret (pc := 23) X hr rfl dX8_readsExpression_23
  · refine ao_iconst (pc := 9) X dX8_readsExpression_9 ic_0 ?_
    exact ao_zret (pc := 10) X hr rfl dX8_readsExpression_10
def fX8_readsThing_19_1_r (rc : Int32 → Mem → Option (Int32 × Mem)) (v2 : Int32) (μ : Mem) : Option (Int32 × Mem) :=
  bnd (fX9_number_1 (3 : Int32) μ) fun r1 m2 =>
  if r1 < 0 then (bnd (fX9_takesOneOf_1_s0 m2) fun r3 m4 =>
    if r3 < 0 then (if (4 : Int32) ≤ v2 then (some ((0 : Int32), m4))
      else bnd (fX9_takes_1 (40 : Int32) m4) fun r5 m6 =>
        if r5 = 0 then (some ((0 : Int32), m6))
        else bnd (fX8_readsExpression_19_1 rc (v2 + (1 : Int32)) m6) fun r7 m8 =>
          if r7 = 0 then (some ((0 : Int32), m8))
          else bnd (fX9_takes_1 (41 : Int32) m8) fun r9 m10 =>
            if r9 = 0 then (some ((0 : Int32), m10))
            else some ((1 : Int32), m10))
    else bnd (fX8_drafts_19 ((1000 : Int32) + r3) m4) fun r11 m12 =>
      gd (isZ r11) (some (r11, m12)))
  else bnd (fX8_drafts_19 r1 m2) fun r13 m14 =>
    gd (isZ r13) (some (r13, m14))
set_option maxRecDepth 100000 in
set_option maxHeartbeats 4000000 in
theorem mX8_readsThing_19_1_r {E : En} {l : Launch} (hI : Inj E) {dT : Nat} (hB : 6 ≤ dT) {rc : Int32 → Mem → Option (Int32 × Mem)} (hrc : ∀ (v2 : Int32) (m : Mem), MtI E l yX8_readsThing cX8_readsThing 5 (some .boolean) dT [.ref (eAd E 19), .ref (eAd E 1), .int v2] m (rc v2 m)) (v2 : Int32) (μ : Mem) : MtI E l yX8_readsThing cX8_readsThing 5 (some .boolean) (dT + 5) [.ref (eAd E 19), .ref (eAd E 1), .int v2] μ (fX8_readsThing_19_1_r rc v2 μ) := by
  refine mtI_of (own := RX8) [(0, .ref (eAd E 19)), (1, .ref (eAd E 1)), (2, .int v2)] hI rfl (by decide) (by omega) (Nat.le_of_ble_eq_true rfl) rfl (fun Z hl0 X hr => ?_)
  unfold fX8_readsThing_19_1_r
  refine ao_aload_n (pc := 0) X dX8_readsThing_0 rfl ?_
  refine ao_iconst (pc := 1) X dX8_readsThing_1 ic_3 ?_
  refine ao_callVI (pc := 2) (As := [.int (3 : Int32)]) (st := []) X hl0 dX8_readsThing_2 yv_X9_number so_1 ml_RX8_91 (mX9_number_1 hI (3 : Int32) μ) (by omega) rfl rfl (Nat.le_of_ble_eq_true rfl) (fun r1 m2 => ?_)
  refine ao_istore_n (pc := 5) (lv' := [(3, .int r1), (0, .ref (eAd E 19)), (1, .ref (eAd E 1)), (2, .int v2)]) X dX8_readsThing_5 rfl (by decide) rfl ?_
  refine ao_iload_n (pc := 6) X dX8_readsThing_6 rfl ?_
  refine ao_if_lt (pc := 7) (tgt := 16) X dX8_readsThing_7 (by decide) (fun _ => ?_) (fun _ => ?_)
  · refine ao_aload_n (pc := 16) X dX8_readsThing_16 rfl ?_
    refine ao_ldcS (pc := 17) (tx := "bwdnfi") (i := 0) X dX8_readsThing_17 (List.mem_of_getElem? (i := 0) rfl) ?_
    refine ao_callVI (pc := 19) (As := [.ref (eSk E 0)]) (st := []) X hl0 dX8_readsThing_19 yv_X9_takesOneOf so_1 ml_RX8_66 (mX9_takesOneOf_1_s0 hI m2) (by omega) rfl rfl (Nat.le_of_ble_eq_true rfl) (fun r3 m4 => ?_)
    refine ao_istore (pc := 22) (lv' := [(4, .int r3), (3, .int r1), (0, .ref (eAd E 19)), (1, .ref (eAd E 1)), (2, .int v2)]) X dX8_readsThing_22 (by decide) rfl ?_
    refine ao_iload (pc := 24) X dX8_readsThing_24 rfl ?_
    refine ao_if_lt (pc := 26) (tgt := 40) X dX8_readsThing_26 (by decide) (fun _ => ?_) (fun _ => ?_)
    · refine ao_iload_n (pc := 40) X dX8_readsThing_40 rfl ?_
      refine ao_iconst (pc := 41) X dX8_readsThing_41 ic_4 ?_
      refine ao_icmp_ge (pc := 42) (tgt := 54) X dX8_readsThing_42 (by decide) (fun _ => ?_) (fun _ => ?_)
      · refine ao_iconst (pc := 54) X dX8_readsThing_54 ic_0 ?_
        exact ao_zret (pc := 55) X hr rfl dX8_readsThing_55
      · refine ao_aload_n (pc := 45) X dX8_readsThing_45 rfl ?_
        refine ao_bipush (pc := 46) X dX8_readsThing_46 bp_40 ?_
        refine ao_callVI (pc := 48) (As := [.int (40 : Int32)]) (st := []) X hl0 dX8_readsThing_48 yv_X9_takes so_1 ml_RX8_84 (mX9_takes_1 hI (40 : Int32) m4) (by omega) rfl rfl (Nat.le_of_ble_eq_true rfl) (fun r5 m6 => ?_)
        refine ao_if_ne (pc := 51) (tgt := 56) X dX8_readsThing_51 (by decide) (fun _ => ?_) (fun _ => ?_)
        · refine ao_aload_n (pc := 56) X dX8_readsThing_56 rfl ?_
          refine ao_aload_n (pc := 57) X dX8_readsThing_57 rfl ?_
          refine ao_iload_n (pc := 58) X dX8_readsThing_58 rfl ?_
          refine ao_iconst (pc := 59) X dX8_readsThing_59 ic_1 ?_
          refine ao_iadd (pc := 60) X dX8_readsThing_60 ?_
          refine ao_callVI (pc := 61) (As := [.ref (eAd E 1), .int (v2 + (1 : Int32))]) (st := []) X hl0 dX8_readsThing_61 yv_X8_readsExpression so_19 ml_RX8_48 (mX8_readsExpression_19_1 hI hB hrc (v2 + (1 : Int32)) m6) (by omega) rfl rfl (Nat.le_of_ble_eq_true rfl) (fun r7 m8 => ?_)
          refine ao_if_eq (pc := 64) (tgt := 80) X dX8_readsThing_64 (by decide) (fun _ => ?_) (fun _ => ?_)
          · refine ao_iconst (pc := 80) X dX8_readsThing_80 ic_0 ?_
            exact ao_zret (pc := 81) X hr rfl dX8_readsThing_81
          · refine ao_aload_n (pc := 67) X dX8_readsThing_67 rfl ?_
            refine ao_bipush (pc := 68) X dX8_readsThing_68 bp_41 ?_
            refine ao_callVI (pc := 70) (As := [.int (41 : Int32)]) (st := []) X hl0 dX8_readsThing_70 yv_X9_takes so_1 ml_RX8_84 (mX9_takes_1 hI (41 : Int32) m8) (by omega) rfl rfl (Nat.le_of_ble_eq_true rfl) (fun r9 m10 => ?_)
            refine ao_if_eq (pc := 73) (tgt := 80) X dX8_readsThing_73 (by decide) (fun _ => ?_) (fun _ => ?_)
            · refine ao_iconst (pc := 80) X dX8_readsThing_80 ic_0 ?_
              exact ao_zret (pc := 81) X hr rfl dX8_readsThing_81
            · refine ao_iconst (pc := 76) X dX8_readsThing_76 ic_1 ?_
              refine ao_goto (pc := 77) (tgt := 81) X dX8_readsThing_77 (by decide) ?_
              exact ao_zret (pc := 81) X hr rfl dX8_readsThing_81
        · refine ao_iconst (pc := 54) X dX8_readsThing_54 ic_0 ?_
          exact ao_zret (pc := 55) X hr rfl dX8_readsThing_55
    · refine ao_aload_n (pc := 29) X dX8_readsThing_29 rfl ?_
      refine ao_sipush (pc := 30) X dX8_readsThing_30 sp_1000 ?_
      refine ao_iload (pc := 33) X dX8_readsThing_33 rfl ?_
      refine ao_iadd (pc := 35) X dX8_readsThing_35 ?_
      refine ao_callVI (pc := 36) (As := [.int ((1000 : Int32) + r3)]) (st := []) X hl0 dX8_readsThing_36 yv_X8_drafts so_19 ml_RX8_70 (mX8_drafts_19 hI ((1000 : Int32) + r3) m4) (by omega) rfl rfl (Nat.le_of_ble_eq_true rfl) (fun r11 m12 => ?_)
      exact ao_zretG (pc := 39) X hr dX8_readsThing_39
  · refine ao_aload_n (pc := 10) X dX8_readsThing_10 rfl ?_
    refine ao_iload_n (pc := 11) X dX8_readsThing_11 rfl ?_
    refine ao_callVI (pc := 12) (As := [.int r1]) (st := []) X hl0 dX8_readsThing_12 yv_X8_drafts so_19 ml_RX8_70 (mX8_drafts_19 hI r1 m2) (by omega) rfl rfl (Nat.le_of_ble_eq_true rfl) (fun r13 m14 => ?_)
    exact ao_zretG (pc := 15) X hr dX8_readsThing_15
def fX8_readsThing_19_1 : Nat → Int32 → Mem → Option (Int32 × Mem)
  | 0, _, _ => none
  | n + 1, v2, μ => fX8_readsThing_19_1_r (fun v2 m => fX8_readsThing_19_1 n v2 m) v2 μ
theorem dBX8_readsThing_19_1 (n : Nat) : 6 ≤ 6 + 5 * n := Nat.le_add_right _ _
theorem mX8_readsThing_19_1 {E : En} {l : Launch} (hI : Inj E) : ∀ (n : Nat) (v2 : Int32) (μ : Mem), MtI E l yX8_readsThing cX8_readsThing 5 (some .boolean) (6 + 5 * n) [.ref (eAd E 19), .ref (eAd E 1), .int v2] μ (fX8_readsThing_19_1 n v2 μ) := by
  intro n
  induction n with
  | zero =>
    intro v2 μ r μ' h
    cases h
  | succ n ih =>
    intro v2 μ
    exact mX8_readsThing_19_1_r hI (dBX8_readsThing_19_1 n) ih v2 μ
def fX8_read_19_1_b39 (μ : Mem) : Option (Int32 × Mem) :=
  gd (cpOK (0 : Int32) (0 : Int32) (gI μ 19 3) 40 40) (lt (sC μ 21 20 (ix (0 : Int32)) (ix (0 : Int32)) (ix (gI μ 19 3))) fun m10 =>
  lt (sI m10 19 1 (gI m10 19 3)) fun m11 =>
  some ((0 : Int32), m11))
set_option maxRecDepth 100000 in
set_option maxHeartbeats 4000000 in
theorem bX8_read_19_1_39 {E : En} {l : Launch} {Z : Zt} (hI : Inj E) (hl0 : lZ l Z) (X : Cx E Z cX8_read RX8 2 511) (hr : rtOf Z = some .int) (μ : Mem) : AO E Z 2 (QI E Z) 39 [(0, .ref (eAd E 19))] [] μ (fX8_read_19_1_b39 μ) := by
  unfold fX8_read_19_1_b39
  refine ao_aload_n (pc := 39) X dX8_read_39 rfl ?_
  refine ao_getR (pc := 40) X dX8_read_40 fl_RX8_19 sf_19_2 ?_
  refine ao_iconst (pc := 43) X dX8_read_43 ic_0 ?_
  refine ao_aload_n (pc := 44) X dX8_read_44 rfl ?_
  refine ao_getR (pc := 45) X dX8_read_45 fl_RX8_11 sf_19_0 ?_
  refine ao_iconst (pc := 48) X dX8_read_48 ic_0 ?_
  refine ao_aload_n (pc := 49) X dX8_read_49 rfl ?_
  refine ao_getI (pc := 50) X dX8_read_50 fl_RX8_22 sf_19_3 ?_
  refine ao_copy (pc := 53) X dX8_read_53 ml_RX8_55 CpyW_ok sa_21 sa_20 (Nat.le_of_ble_eq_true rfl) ?_
  refine ao_lt (fun m10 => ?_)
  refine ao_aload_n (pc := 56) X dX8_read_56 rfl ?_
  refine ao_aload_n (pc := 57) X dX8_read_57 rfl ?_
  refine ao_getI (pc := 58) X dX8_read_58 fl_RX8_22 sf_19_3 ?_
  refine ao_putI (pc := 61) X dX8_read_61 fp_RX8_15 sf_19_1 ?_
  refine ao_lt (fun m11 => ?_)
  refine ao_iconst (pc := 64) X dX8_read_64 ic_0 ?_
  exact ao_iret (pc := 65) X hr dX8_read_65
def fX8_read_19_1_b34 (μ : Mem) : Option (Int32 × Mem) :=
  bnd (fX9_wrong_1 μ) fun r12 m13 =>
  some (r12, m13)
set_option maxRecDepth 100000 in
set_option maxHeartbeats 4000000 in
theorem bX8_read_19_1_34 {E : En} {l : Launch} {Z : Zt} (hI : Inj E) (hl0 : lZ l Z) (X : Cx E Z cX8_read RX8 2 511) (hr : rtOf Z = some .int) (μ : Mem) : AO E Z 2 (QI E Z) 34 [(1, .ref (eAd E 1))] [] μ (fX8_read_19_1_b34 μ) := by
  unfold fX8_read_19_1_b34
  refine ao_aload_n (pc := 34) X dX8_read_34 rfl ?_
  refine ao_callVI (pc := 35) (As := []) (st := []) X hl0 dX8_read_35 yv_X9_wrong so_1 ml_RX8_52 (mX9_wrong_1 hI μ) (Nat.le_of_ble_eq_true rfl) rfl rfl (Nat.le_of_ble_eq_true rfl) (fun r12 m13 => ?_)
  exact ao_iret (pc := 38) X hr dX8_read_38
def fX8_read_19_1 (μ : Mem) : Option (Int32 × Mem) :=
  bnd (fX9_open_1 (40 : Int32) μ) fun r1 m2 =>
  lt (sI m2 19 3 (0 : Int32)) fun m3 =>
  bnd (fX9_isRead_1 m3) fun r4 m5 =>
  if r4 = 0 then (bnd (fX8_readsExpression_19_1 (fX8_readsThing_19_1 FR) (0 : Int32) m5) fun r6 m7 =>
    if r6 = 0 then (fX8_read_19_1_b34 m7)
    else bnd (fX9_isRead_1 m7) fun r8 m9 =>
      if r8 = 0 then (fX8_read_19_1_b34 m9)
      else fX8_read_19_1_b39 m9)
  else fX8_read_19_1_b39 m5
set_option maxRecDepth 100000 in
set_option maxHeartbeats 4000000 in
theorem mX8_read_19_1 {E : En} {l : Launch} (hI : Inj E) (μ : Mem) : MtI E l yX8_read cX8_read 2 (some .int) 511 [.ref (eAd E 19), .ref (eAd E 1)] μ (fX8_read_19_1 μ) := by
  refine mtI_of (own := RX8) [(0, .ref (eAd E 19)), (1, .ref (eAd E 1))] hI rfl (by decide) (Nat.le_of_ble_eq_true rfl) (Nat.le_of_ble_eq_true rfl) rfl (fun Z hl0 X hr => ?_)
  unfold fX8_read_19_1
  refine ao_aload_n (pc := 0) X dX8_read_0 rfl ?_
  refine ao_bipush (pc := 1) X dX8_read_1 bp_40 ?_
  refine ao_callVV (pc := 3) (As := [.int (40 : Int32)]) (st := []) X hl0 dX8_read_3 yv_X9_open so_1 ml_RX8_38 (mX9_open_1 hI (40 : Int32) μ) (Nat.le_of_ble_eq_true rfl) rfl rfl (Nat.le_of_ble_eq_true rfl) (fun r1 m2 => ?_)
  refine ao_aload_n (pc := 6) X dX8_read_6 rfl ?_
  refine ao_iconst (pc := 7) X dX8_read_7 ic_0 ?_
  refine ao_putI (pc := 8) X dX8_read_8 fp_RX8_22 sf_19_3 ?_
  refine ao_lt (fun m3 => ?_)
  refine ao_aload_n (pc := 11) X dX8_read_11 rfl ?_
  refine ao_callVI (pc := 12) (As := []) (st := []) X hl0 dX8_read_12 yv_X9_isRead so_1 ml_RX8_44 (mX9_isRead_1 hI m3) (Nat.le_of_ble_eq_true rfl) rfl rfl (Nat.le_of_ble_eq_true rfl) (fun r4 m5 => ?_)
  refine ao_if_ne (pc := 15) (tgt := 39) X dX8_read_15 (by decide) (fun _ => ?_) (fun _ => ?_)
  · refine ao_sub [0] rfl ?_
    exact bX8_read_19_1_39 hI hl0 X hr m5
  · refine ao_aload_n (pc := 18) X dX8_read_18 rfl ?_
    refine ao_aload_n (pc := 19) X dX8_read_19 rfl ?_
    refine ao_iconst (pc := 20) X dX8_read_20 ic_0 ?_
    refine ao_callVI (pc := 21) (As := [.ref (eAd E 1), .int (0 : Int32)]) (st := []) X hl0 dX8_read_21 yv_X8_readsExpression so_19 ml_RX8_48 (mX8_readsExpression_19_1 hI (dBX8_readsThing_19_1 FR) (mX8_readsThing_19_1 hI FR) (0 : Int32) m5) (by decide) rfl rfl (Nat.le_of_ble_eq_true rfl) (fun r6 m7 => ?_)
    refine ao_if_eq (pc := 24) (tgt := 34) X dX8_read_24 (by decide) (fun _ => ?_) (fun _ => ?_)
    · refine ao_sub [1] rfl ?_
      exact bX8_read_19_1_34 hI hl0 X hr m7
    · refine ao_aload_n (pc := 27) X dX8_read_27 rfl ?_
      refine ao_callVI (pc := 28) (As := []) (st := []) X hl0 dX8_read_28 yv_X9_isRead so_1 ml_RX8_44 (mX9_isRead_1 hI m7) (Nat.le_of_ble_eq_true rfl) rfl rfl (Nat.le_of_ble_eq_true rfl) (fun r8 m9 => ?_)
      refine ao_if_ne (pc := 31) (tgt := 39) X dX8_read_31 (by decide) (fun _ => ?_) (fun _ => ?_)
      · refine ao_sub [0] rfl ?_
        exact bX8_read_19_1_39 hI hl0 X hr m9
      · refine ao_sub [1] rfl ?_
        exact bX8_read_19_1_34 hI hl0 X hr m9
def fX11_rule_0 (μ : Mem) : Option (Int32 × Mem) :=
  bnd (fX8_read_19_1 μ) fun r1 m2 =>
  bnd (fX9_empty_1 m2) fun r3 m4 =>
  some (r1, m4)
set_option maxRecDepth 100000 in
set_option maxHeartbeats 4000000 in
theorem mX11_rule_0 {E : En} {l : Launch} (hI : Inj E) (μ : Mem) : MtI E l yX11_rule cX11_rule 2 (some .int) 512 [.ref (eAd E 0)] μ (fX11_rule_0 μ) := by
  refine mtI_of (own := RX11) [(0, .ref (eAd E 0))] hI rfl (by decide) (Nat.le_of_ble_eq_true rfl) (Nat.le_of_ble_eq_true rfl) rfl (fun Z hl0 X hr => ?_)
  unfold fX11_rule_0
  refine ao_aload_n (pc := 0) X dX11_rule_0 rfl ?_
  refine ao_getR (pc := 1) X dX11_rule_1 fl_RX11_49 sf_0_5 ?_
  refine ao_aload_n (pc := 4) X dX11_rule_4 rfl ?_
  refine ao_getR (pc := 5) X dX11_rule_5 fl_RX11_10 sf_0_0 ?_
  refine ao_callVI (pc := 8) (As := [.ref (eAd E 1)]) (st := []) X hl0 dX11_rule_8 yv_X8_read so_19 ml_RX11_144 (mX8_read_19_1 hI μ) (Nat.le_of_ble_eq_true rfl) rfl rfl (Nat.le_of_ble_eq_true rfl) (fun r1 m2 => ?_)
  refine ao_istore_n (pc := 11) (lv' := [(1, .int r1), (0, .ref (eAd E 0))]) X dX11_rule_11 rfl (by decide) rfl ?_
  refine ao_aload_n (pc := 12) X dX11_rule_12 rfl ?_
  refine ao_getR (pc := 13) X dX11_rule_13 fl_RX11_10 sf_0_0 ?_
  refine ao_callVV (pc := 16) (As := []) (st := []) X hl0 dX11_rule_16 yv_X9_empty so_1 ml_RX11_116 (mX9_empty_1 hI m2) (Nat.le_of_ble_eq_true rfl) rfl rfl (Nat.le_of_ble_eq_true rfl) (fun r3 m4 => ?_)
  refine ao_iload_n (pc := 19) X dX11_rule_19 rfl ?_
  exact ao_iret (pc := 20) X hr dX11_rule_20
def fX12_letterOf (v0 : Int32) (μ : Mem) : Option (Int32 × Mem) :=
  if v0 = (98 : Int32) then (some ((0 : Int32), μ))
  else if v0 = (119 : Int32) then (some ((1 : Int32), μ))
    else if v0 = (100 : Int32) then (some ((2 : Int32), μ))
      else if v0 = (110 : Int32) then (some ((3 : Int32), μ))
        else if v0 = (102 : Int32) then (some ((4 : Int32), μ))
          else if v0 = (105 : Int32) then (some ((5 : Int32), μ))
            else some ((-1 : Int32), μ)
set_option maxRecDepth 100000 in
set_option maxHeartbeats 4000000 in
theorem mX12_letterOf {E : En} {l : Launch} (hI : Inj E) (v0 : Int32) (μ : Mem) : MtI E l yX12_letterOf cX12_letterOf 1 (some .int) 1 [.int v0] μ (fX12_letterOf v0 μ) := by
  refine mtI_of (own := RX12) [(0, .int v0)] hI rfl (by decide) (Nat.le_of_ble_eq_true rfl) (Nat.le_of_ble_eq_true rfl) rfl (fun Z hl0 X hr => ?_)
  unfold fX12_letterOf
  refine ao_iload_n (pc := 0) X dX12_letterOf_0 rfl ?_
  refine ao_bipush (pc := 1) X dX12_letterOf_1 bp_98 ?_
  refine ao_icmp_ne (pc := 3) (tgt := 10) X dX12_letterOf_3 (by decide) (fun _ => ?_) (fun _ => ?_)
  · refine ao_iload_n (pc := 10) X dX12_letterOf_10 rfl ?_
    refine ao_bipush (pc := 11) X dX12_letterOf_11 bp_119 ?_
    refine ao_icmp_ne (pc := 13) (tgt := 20) X dX12_letterOf_13 (by decide) (fun _ => ?_) (fun _ => ?_)
    · refine ao_iload_n (pc := 20) X dX12_letterOf_20 rfl ?_
      refine ao_bipush (pc := 21) X dX12_letterOf_21 bp_100 ?_
      refine ao_icmp_ne (pc := 23) (tgt := 30) X dX12_letterOf_23 (by decide) (fun _ => ?_) (fun _ => ?_)
      · refine ao_iload_n (pc := 30) X dX12_letterOf_30 rfl ?_
        refine ao_bipush (pc := 31) X dX12_letterOf_31 bp_110 ?_
        refine ao_icmp_ne (pc := 33) (tgt := 40) X dX12_letterOf_33 (by decide) (fun _ => ?_) (fun _ => ?_)
        · refine ao_iload_n (pc := 40) X dX12_letterOf_40 rfl ?_
          refine ao_bipush (pc := 41) X dX12_letterOf_41 bp_102 ?_
          refine ao_icmp_ne (pc := 43) (tgt := 50) X dX12_letterOf_43 (by decide) (fun _ => ?_) (fun _ => ?_)
          · refine ao_iload_n (pc := 50) X dX12_letterOf_50 rfl ?_
            refine ao_bipush (pc := 51) X dX12_letterOf_51 bp_105 ?_
            refine ao_icmp_ne (pc := 53) (tgt := 60) X dX12_letterOf_53 (by decide) (fun _ => ?_) (fun _ => ?_)
            · refine ao_iconst (pc := 60) X dX12_letterOf_60 ic_m1 ?_
              exact ao_iret (pc := 61) X hr dX12_letterOf_61
            · refine ao_iconst (pc := 56) X dX12_letterOf_56 ic_5 ?_
              refine ao_goto (pc := 57) (tgt := 61) X dX12_letterOf_57 (by decide) ?_
              exact ao_iret (pc := 61) X hr dX12_letterOf_61
          · refine ao_iconst (pc := 46) X dX12_letterOf_46 ic_4 ?_
            refine ao_goto (pc := 47) (tgt := 61) X dX12_letterOf_47 (by decide) ?_
            exact ao_iret (pc := 61) X hr dX12_letterOf_61
        · refine ao_iconst (pc := 36) X dX12_letterOf_36 ic_3 ?_
          refine ao_goto (pc := 37) (tgt := 61) X dX12_letterOf_37 (by decide) ?_
          exact ao_iret (pc := 61) X hr dX12_letterOf_61
      · refine ao_iconst (pc := 26) X dX12_letterOf_26 ic_2 ?_
        refine ao_goto (pc := 27) (tgt := 61) X dX12_letterOf_27 (by decide) ?_
        exact ao_iret (pc := 61) X hr dX12_letterOf_61
    · refine ao_iconst (pc := 16) X dX12_letterOf_16 ic_1 ?_
      refine ao_goto (pc := 17) (tgt := 61) X dX12_letterOf_17 (by decide) ?_
      exact ao_iret (pc := 61) X hr dX12_letterOf_61
  · refine ao_iconst (pc := 6) X dX12_letterOf_6 ic_0 ?_
    refine ao_goto (pc := 7) (tgt := 61) X dX12_letterOf_7 (by decide) ?_
    exact ao_iret (pc := 61) X hr dX12_letterOf_61
def fX12_product_122_b45 (rc : Int32 → Mem → Option (Int32 × Mem)) (k6 : Int32 → Int32 → Mem → Option (Int32 × Mem)) (p1 : Int32) (p2 : Int32) (q0 : Int32) (μ : Mem) : Option (Int32 × Mem) :=
  lt (sI μ 122 21 ((gI μ 122 21) + (1 : Int32))) fun m11 =>
  bnd (rc p1 m11) fun r12 m13 =>
  if q0 = 0 then (if r12 = 0 then (k6 p1 (0 : Int32) m13)
    else gd (!(r12 == 0)) (lt (p2 / r12) fun x14 =>
      k6 p1 x14 m13))
  else lt (p2 * r12) fun x15 =>
    k6 p1 x15 m13
set_option maxRecDepth 100000 in
set_option maxHeartbeats 4000000 in
theorem bX12_product_122_45 {E : En} {l : Launch} {Z : Zt} (hI : Inj E) (hl0 : lZ l Z) {dT : Nat} (X : Cx E Z cX12_product RX12 5 (dT + 1)) (hr : rtOf Z = some .int) (hB : 5 ≤ dT) {rc : Int32 → Mem → Option (Int32 × Mem)} (hrc : ∀ (v1 : Int32) (m : Mem), MtI E l yX12_thing cX12_thing 4 (some .int) dT [.ref (eAd E 122), .int v1] m (rc v1 m)) {k6 : Int32 → Int32 → Mem → Option (Int32 × Mem)} (hk6 : ∀ (p1 : Int32) (p2 : Int32) (m : Mem), AO E Z 5 (QI E Z) 6 [(0, .ref (eAd E 122)), (1, .int p1), (2, .int p2)] [] m (k6 p1 p2 m)) (p1 : Int32) (p2 : Int32) (q0 : Int32) (μ : Mem) : AO E Z 5 (QI E Z) 45 [(0, .ref (eAd E 122)), (1, .int p1), (2, .int p2)] [.int q0] μ (fX12_product_122_b45 rc k6 p1 p2 q0 μ) := by
  unfold fX12_product_122_b45
  refine ao_istore_n (pc := 45) (lv' := [(3, .int q0), (0, .ref (eAd E 122)), (1, .int p1), (2, .int p2)]) X dX12_product_45 rfl (by decide) rfl ?_
  refine ao_aload_n (pc := 46) X dX12_product_46 rfl ?_
  refine ao_dup (pc := 47) X dX12_product_47 rfl ?_
  refine ao_getI (pc := 48) X dX12_product_48 fl_RX12_120 sf_122_21 ?_
  refine ao_iconst (pc := 51) X dX12_product_51 ic_1 ?_
  refine ao_iadd (pc := 52) X dX12_product_52 ?_
  refine ao_putI (pc := 53) X dX12_product_53 fp_RX12_120 sf_122_21 ?_
  refine ao_lt (fun m11 => ?_)
  refine ao_aload_n (pc := 56) X dX12_product_56 rfl ?_
  refine ao_iload_n (pc := 57) X dX12_product_57 rfl ?_
  refine ao_callVI (pc := 58) (As := [.int p1]) (st := []) X hl0 dX12_product_58 yv_X12_thing so_122 ml_RX12_196 (hrc p1 m11) (by omega) rfl rfl (Nat.le_of_ble_eq_true rfl) (fun r12 m13 => ?_)
  refine ao_istore (pc := 61) (lv' := [(4, .int r12), (3, .int q0), (0, .ref (eAd E 122)), (1, .int p1), (2, .int p2)]) X dX12_product_61 (by decide) rfl ?_
  refine ao_iload_n (pc := 63) X dX12_product_63 rfl ?_
  refine ao_if_eq (pc := 64) (tgt := 74) X dX12_product_64 (by decide) (fun _ => ?_) (fun _ => ?_)
  · refine ao_iload (pc := 74) X dX12_product_74 rfl ?_
    refine ao_if_ne (pc := 76) (tgt := 83) X dX12_product_76 (by decide) (fun _ => ?_) (fun _ => ?_)
    · refine ao_iload_n (pc := 83) X dX12_product_83 rfl ?_
      refine ao_iload (pc := 84) X dX12_product_84 rfl ?_
      refine ao_idiv (pc := 86) X dX12_product_86 ?_
      refine ao_ltI (fun x14 => ?_)
      refine ao_istore_n (pc := 87) (lv' := [(2, .int x14), (4, .int r12), (3, .int q0), (0, .ref (eAd E 122)), (1, .int p1)]) X dX12_product_87 rfl (by decide) rfl ?_
      refine ao_goto (pc := 88) (tgt := 6) X dX12_product_88 (by decide) ?_
      refine ao_sub [3, 4, 0] rfl ?_
      exact hk6 p1 x14 m13
    · refine ao_iconst (pc := 79) X dX12_product_79 ic_0 ?_
      refine ao_goto (pc := 80) (tgt := 87) X dX12_product_80 (by decide) ?_
      refine ao_istore_n (pc := 87) (lv' := [(2, .int (0 : Int32)), (4, .int r12), (3, .int q0), (0, .ref (eAd E 122)), (1, .int p1)]) X dX12_product_87 rfl (by decide) rfl ?_
      refine ao_goto (pc := 88) (tgt := 6) X dX12_product_88 (by decide) ?_
      refine ao_sub [3, 4, 0] rfl ?_
      exact hk6 p1 (0 : Int32) m13
  · refine ao_iload_n (pc := 67) X dX12_product_67 rfl ?_
    refine ao_iload (pc := 68) X dX12_product_68 rfl ?_
    refine ao_imul (pc := 70) X dX12_product_70 ?_
    refine ao_goto (pc := 71) (tgt := 87) X dX12_product_71 (by decide) ?_
    refine ao_ltI (fun x15 => ?_)
    refine ao_istore_n (pc := 87) (lv' := [(2, .int x15), (4, .int r12), (3, .int q0), (0, .ref (eAd E 122)), (1, .int p1)]) X dX12_product_87 rfl (by decide) rfl ?_
    refine ao_goto (pc := 88) (tgt := 6) X dX12_product_88 (by decide) ?_
    refine ao_sub [3, 4, 0] rfl ?_
    exact hk6 p1 x15 m13
def fX12_product_122_b31 (rc : Int32 → Mem → Option (Int32 × Mem)) (k6 : Int32 → Int32 → Mem → Option (Int32 × Mem)) (p1 : Int32) (p2 : Int32) (μ : Mem) : Option (Int32 × Mem) :=
  bnd (fX12_here_122 μ) fun r9 m10 =>
  if r9 = (42 : Int32) then (fX12_product_122_b45 rc k6 p1 p2 (1 : Int32) m10)
  else fX12_product_122_b45 rc k6 p1 p2 (0 : Int32) m10
set_option maxRecDepth 100000 in
set_option maxHeartbeats 4000000 in
theorem bX12_product_122_31 {E : En} {l : Launch} {Z : Zt} (hI : Inj E) (hl0 : lZ l Z) {dT : Nat} (X : Cx E Z cX12_product RX12 5 (dT + 1)) (hr : rtOf Z = some .int) (hB : 5 ≤ dT) {rc : Int32 → Mem → Option (Int32 × Mem)} (hrc : ∀ (v1 : Int32) (m : Mem), MtI E l yX12_thing cX12_thing 4 (some .int) dT [.ref (eAd E 122), .int v1] m (rc v1 m)) {k6 : Int32 → Int32 → Mem → Option (Int32 × Mem)} (hk6 : ∀ (p1 : Int32) (p2 : Int32) (m : Mem), AO E Z 5 (QI E Z) 6 [(0, .ref (eAd E 122)), (1, .int p1), (2, .int p2)] [] m (k6 p1 p2 m)) (p1 : Int32) (p2 : Int32) (μ : Mem) : AO E Z 5 (QI E Z) 31 [(0, .ref (eAd E 122)), (1, .int p1), (2, .int p2)] [] μ (fX12_product_122_b31 rc k6 p1 p2 μ) := by
  unfold fX12_product_122_b31
  refine ao_aload_n (pc := 31) X dX12_product_31 rfl ?_
  refine ao_callVI (pc := 32) (As := []) (st := []) X hl0 dX12_product_32 yv_X12_here so_122 ml_RX12_134 (mX12_here_122 hI μ) (by omega) rfl rfl (Nat.le_of_ble_eq_true rfl) (fun r9 m10 => ?_)
  refine ao_bipush (pc := 35) X dX12_product_35 bp_42 ?_
  refine ao_icmp_ne (pc := 37) (tgt := 44) X dX12_product_37 (by decide) (fun _ => ?_) (fun _ => ?_)
  · refine ao_iconst (pc := 44) X dX12_product_44 ic_0 ?_
    refine ao_sub [0, 1, 2] rfl ?_
    exact bX12_product_122_45 hI hl0 X hr hB hrc hk6 p1 p2 (0 : Int32) m10
  · refine ao_iconst (pc := 40) X dX12_product_40 ic_1 ?_
    refine ao_goto (pc := 41) (tgt := 45) X dX12_product_41 (by decide) ?_
    refine ao_sub [0, 1, 2] rfl ?_
    exact bX12_product_122_45 hI hl0 X hr hB hrc hk6 p1 p2 (1 : Int32) m10
def fX12_product_122_b6 (rc : Int32 → Mem → Option (Int32 × Mem)) : Nat → Int32 → Int32 → Mem → Option (Int32 × Mem)
  | 0, _, _, _ => none
  | n + 1, p1, p2, μ =>
  bnd (fX12_fine_122 μ) fun r3 m4 =>
  if r3 = 0 then (some (p2, m4))
  else bnd (fX12_here_122 m4) fun r5 m6 =>
    if r5 = (42 : Int32) then (fX12_product_122_b31 rc (fun p1 p2 m => fX12_product_122_b6 rc n p1 p2 m) p1 p2 m6)
    else bnd (fX12_here_122 m6) fun r7 m8 =>
      if r7 = (47 : Int32) then (fX12_product_122_b31 rc (fun p1 p2 m => fX12_product_122_b6 rc n p1 p2 m) p1 p2 m8)
      else some (p2, m8)
set_option maxRecDepth 100000 in
set_option maxHeartbeats 4000000 in
theorem bX12_product_122_6 {E : En} {l : Launch} {Z : Zt} (hI : Inj E) (hl0 : lZ l Z) {dT : Nat} (X : Cx E Z cX12_product RX12 5 (dT + 1)) (hr : rtOf Z = some .int) (hB : 5 ≤ dT) {rc : Int32 → Mem → Option (Int32 × Mem)} (hrc : ∀ (v1 : Int32) (m : Mem), MtI E l yX12_thing cX12_thing 4 (some .int) dT [.ref (eAd E 122), .int v1] m (rc v1 m)) : ∀ (n : Nat) (p1 : Int32) (p2 : Int32) (μ : Mem), AO E Z 5 (QI E Z) 6 [(0, .ref (eAd E 122)), (1, .int p1), (2, .int p2)] [] μ (fX12_product_122_b6 rc n p1 p2 μ) := by
  intro n
  induction n with
  | zero =>
    intros
    exact ao_none
  | succ n ih =>
    intro p1 p2 μ
    rw [fX12_product_122_b6]
    refine ao_aload_n (pc := 6) X dX12_product_6 rfl ?_
    refine ao_callVI (pc := 7) (As := []) (st := []) X hl0 dX12_product_7 yv_X12_fine so_122 ml_RX12_130 (mX12_fine_122 hI μ) (by omega) rfl rfl (Nat.le_of_ble_eq_true rfl) (fun r3 m4 => ?_)
    refine ao_if_eq (pc := 10) (tgt := 91) X dX12_product_10 (by decide) (fun _ => ?_) (fun _ => ?_)
    · refine ao_iload_n (pc := 91) X dX12_product_91 rfl ?_
      exact ao_iret (pc := 92) X hr dX12_product_92
    · refine ao_aload_n (pc := 13) X dX12_product_13 rfl ?_
      refine ao_callVI (pc := 14) (As := []) (st := []) X hl0 dX12_product_14 yv_X12_here so_122 ml_RX12_134 (mX12_here_122 hI m4) (by omega) rfl rfl (Nat.le_of_ble_eq_true rfl) (fun r5 m6 => ?_)
      refine ao_bipush (pc := 17) X dX12_product_17 bp_42 ?_
      refine ao_icmp_eq (pc := 19) (tgt := 31) X dX12_product_19 (by decide) (fun _ => ?_) (fun _ => ?_)
      · refine ao_sub [0, 1, 2] rfl ?_
        exact bX12_product_122_31 hI hl0 X hr hB hrc ih p1 p2 m6
      · refine ao_aload_n (pc := 22) X dX12_product_22 rfl ?_
        refine ao_callVI (pc := 23) (As := []) (st := []) X hl0 dX12_product_23 yv_X12_here so_122 ml_RX12_134 (mX12_here_122 hI m6) (by omega) rfl rfl (Nat.le_of_ble_eq_true rfl) (fun r7 m8 => ?_)
        refine ao_bipush (pc := 26) X dX12_product_26 bp_47 ?_
        refine ao_icmp_ne (pc := 28) (tgt := 91) X dX12_product_28 (by decide) (fun _ => ?_) (fun _ => ?_)
        · refine ao_iload_n (pc := 91) X dX12_product_91 rfl ?_
          exact ao_iret (pc := 92) X hr dX12_product_92
        · refine ao_sub [0, 1, 2] rfl ?_
          exact bX12_product_122_31 hI hl0 X hr hB hrc ih p1 p2 m8
def fX12_product_122 (rc : Int32 → Mem → Option (Int32 × Mem)) (v1 : Int32) (μ : Mem) : Option (Int32 × Mem) :=
  bnd (rc v1 μ) fun r1 m2 =>
  fX12_product_122_b6 rc FU v1 r1 m2
set_option maxRecDepth 100000 in
set_option maxHeartbeats 4000000 in
theorem mX12_product_122 {E : En} {l : Launch} (hI : Inj E) {dT : Nat} (hB : 5 ≤ dT) {rc : Int32 → Mem → Option (Int32 × Mem)} (hrc : ∀ (v1 : Int32) (m : Mem), MtI E l yX12_thing cX12_thing 4 (some .int) dT [.ref (eAd E 122), .int v1] m (rc v1 m)) (v1 : Int32) (μ : Mem) : MtI E l yX12_product cX12_product 5 (some .int) (dT + 1) [.ref (eAd E 122), .int v1] μ (fX12_product_122 rc v1 μ) := by
  refine mtI_of (own := RX12) [(0, .ref (eAd E 122)), (1, .int v1)] hI rfl (by decide) (by omega) (Nat.le_of_ble_eq_true rfl) rfl (fun Z hl0 X hr => ?_)
  unfold fX12_product_122
  refine ao_aload_n (pc := 0) X dX12_product_0 rfl ?_
  refine ao_iload_n (pc := 1) X dX12_product_1 rfl ?_
  refine ao_callVI (pc := 2) (As := [.int v1]) (st := []) X hl0 dX12_product_2 yv_X12_thing so_122 ml_RX12_196 (hrc v1 μ) (by omega) rfl rfl (Nat.le_of_ble_eq_true rfl) (fun r1 m2 => ?_)
  refine ao_istore_n (pc := 5) (lv' := [(2, .int r1), (0, .ref (eAd E 122)), (1, .int v1)]) X dX12_product_5 rfl (by decide) rfl ?_
  refine ao_sub [1, 2, 0] rfl ?_
  exact bX12_product_122_6 hI hl0 X hr hB hrc FU v1 r1 m2
def fX12_sum_122_b45 (rc : Int32 → Mem → Option (Int32 × Mem)) (k6 : Int32 → Int32 → Mem → Option (Int32 × Mem)) (p1 : Int32) (p2 : Int32) (q0 : Int32) (μ : Mem) : Option (Int32 × Mem) :=
  lt (sI μ 122 21 ((gI μ 122 21) + (1 : Int32))) fun m11 =>
  bnd (fX12_product_122 rc p1 m11) fun r12 m13 =>
  if q0 = 0 then (lt (p2 - r12) fun x14 =>
    k6 p1 x14 m13)
  else lt (p2 + r12) fun x15 =>
    k6 p1 x15 m13
set_option maxRecDepth 100000 in
set_option maxHeartbeats 4000000 in
theorem bX12_sum_122_45 {E : En} {l : Launch} {Z : Zt} (hI : Inj E) (hl0 : lZ l Z) {dT : Nat} (X : Cx E Z cX12_sum RX12 5 (dT + 2)) (hr : rtOf Z = some .int) (hB : 5 ≤ dT) {rc : Int32 → Mem → Option (Int32 × Mem)} (hrc : ∀ (v1 : Int32) (m : Mem), MtI E l yX12_thing cX12_thing 4 (some .int) dT [.ref (eAd E 122), .int v1] m (rc v1 m)) {k6 : Int32 → Int32 → Mem → Option (Int32 × Mem)} (hk6 : ∀ (p1 : Int32) (p2 : Int32) (m : Mem), AO E Z 5 (QI E Z) 6 [(0, .ref (eAd E 122)), (1, .int p1), (2, .int p2)] [] m (k6 p1 p2 m)) (p1 : Int32) (p2 : Int32) (q0 : Int32) (μ : Mem) : AO E Z 5 (QI E Z) 45 [(0, .ref (eAd E 122)), (1, .int p1), (2, .int p2)] [.int q0] μ (fX12_sum_122_b45 rc k6 p1 p2 q0 μ) := by
  unfold fX12_sum_122_b45
  refine ao_istore_n (pc := 45) (lv' := [(3, .int q0), (0, .ref (eAd E 122)), (1, .int p1), (2, .int p2)]) X dX12_sum_45 rfl (by decide) rfl ?_
  refine ao_aload_n (pc := 46) X dX12_sum_46 rfl ?_
  refine ao_dup (pc := 47) X dX12_sum_47 rfl ?_
  refine ao_getI (pc := 48) X dX12_sum_48 fl_RX12_120 sf_122_21 ?_
  refine ao_iconst (pc := 51) X dX12_sum_51 ic_1 ?_
  refine ao_iadd (pc := 52) X dX12_sum_52 ?_
  refine ao_putI (pc := 53) X dX12_sum_53 fp_RX12_120 sf_122_21 ?_
  refine ao_lt (fun m11 => ?_)
  refine ao_aload_n (pc := 56) X dX12_sum_56 rfl ?_
  refine ao_iload_n (pc := 57) X dX12_sum_57 rfl ?_
  refine ao_callVI (pc := 58) (As := [.int p1]) (st := []) X hl0 dX12_sum_58 yv_X12_product so_122 ml_RX12_193 (mX12_product_122 hI hB hrc p1 m11) (by omega) rfl rfl (Nat.le_of_ble_eq_true rfl) (fun r12 m13 => ?_)
  refine ao_istore (pc := 61) (lv' := [(4, .int r12), (3, .int q0), (0, .ref (eAd E 122)), (1, .int p1), (2, .int p2)]) X dX12_sum_61 (by decide) rfl ?_
  refine ao_iload_n (pc := 63) X dX12_sum_63 rfl ?_
  refine ao_if_eq (pc := 64) (tgt := 74) X dX12_sum_64 (by decide) (fun _ => ?_) (fun _ => ?_)
  · refine ao_iload_n (pc := 74) X dX12_sum_74 rfl ?_
    refine ao_iload (pc := 75) X dX12_sum_75 rfl ?_
    refine ao_isub (pc := 77) X dX12_sum_77 ?_
    refine ao_ltI (fun x14 => ?_)
    refine ao_istore_n (pc := 78) (lv' := [(2, .int x14), (4, .int r12), (3, .int q0), (0, .ref (eAd E 122)), (1, .int p1)]) X dX12_sum_78 rfl (by decide) rfl ?_
    refine ao_goto (pc := 79) (tgt := 6) X dX12_sum_79 (by decide) ?_
    refine ao_sub [3, 4, 0] rfl ?_
    exact hk6 p1 x14 m13
  · refine ao_iload_n (pc := 67) X dX12_sum_67 rfl ?_
    refine ao_iload (pc := 68) X dX12_sum_68 rfl ?_
    refine ao_iadd (pc := 70) X dX12_sum_70 ?_
    refine ao_goto (pc := 71) (tgt := 78) X dX12_sum_71 (by decide) ?_
    refine ao_ltI (fun x15 => ?_)
    refine ao_istore_n (pc := 78) (lv' := [(2, .int x15), (4, .int r12), (3, .int q0), (0, .ref (eAd E 122)), (1, .int p1)]) X dX12_sum_78 rfl (by decide) rfl ?_
    refine ao_goto (pc := 79) (tgt := 6) X dX12_sum_79 (by decide) ?_
    refine ao_sub [3, 4, 0] rfl ?_
    exact hk6 p1 x15 m13
def fX12_sum_122_b31 (rc : Int32 → Mem → Option (Int32 × Mem)) (k6 : Int32 → Int32 → Mem → Option (Int32 × Mem)) (p1 : Int32) (p2 : Int32) (μ : Mem) : Option (Int32 × Mem) :=
  bnd (fX12_here_122 μ) fun r9 m10 =>
  if r9 = (43 : Int32) then (fX12_sum_122_b45 rc k6 p1 p2 (1 : Int32) m10)
  else fX12_sum_122_b45 rc k6 p1 p2 (0 : Int32) m10
set_option maxRecDepth 100000 in
set_option maxHeartbeats 4000000 in
theorem bX12_sum_122_31 {E : En} {l : Launch} {Z : Zt} (hI : Inj E) (hl0 : lZ l Z) {dT : Nat} (X : Cx E Z cX12_sum RX12 5 (dT + 2)) (hr : rtOf Z = some .int) (hB : 5 ≤ dT) {rc : Int32 → Mem → Option (Int32 × Mem)} (hrc : ∀ (v1 : Int32) (m : Mem), MtI E l yX12_thing cX12_thing 4 (some .int) dT [.ref (eAd E 122), .int v1] m (rc v1 m)) {k6 : Int32 → Int32 → Mem → Option (Int32 × Mem)} (hk6 : ∀ (p1 : Int32) (p2 : Int32) (m : Mem), AO E Z 5 (QI E Z) 6 [(0, .ref (eAd E 122)), (1, .int p1), (2, .int p2)] [] m (k6 p1 p2 m)) (p1 : Int32) (p2 : Int32) (μ : Mem) : AO E Z 5 (QI E Z) 31 [(0, .ref (eAd E 122)), (1, .int p1), (2, .int p2)] [] μ (fX12_sum_122_b31 rc k6 p1 p2 μ) := by
  unfold fX12_sum_122_b31
  refine ao_aload_n (pc := 31) X dX12_sum_31 rfl ?_
  refine ao_callVI (pc := 32) (As := []) (st := []) X hl0 dX12_sum_32 yv_X12_here so_122 ml_RX12_134 (mX12_here_122 hI μ) (by omega) rfl rfl (Nat.le_of_ble_eq_true rfl) (fun r9 m10 => ?_)
  refine ao_bipush (pc := 35) X dX12_sum_35 bp_43 ?_
  refine ao_icmp_ne (pc := 37) (tgt := 44) X dX12_sum_37 (by decide) (fun _ => ?_) (fun _ => ?_)
  · refine ao_iconst (pc := 44) X dX12_sum_44 ic_0 ?_
    refine ao_sub [0, 1, 2] rfl ?_
    exact bX12_sum_122_45 hI hl0 X hr hB hrc hk6 p1 p2 (0 : Int32) m10
  · refine ao_iconst (pc := 40) X dX12_sum_40 ic_1 ?_
    refine ao_goto (pc := 41) (tgt := 45) X dX12_sum_41 (by decide) ?_
    refine ao_sub [0, 1, 2] rfl ?_
    exact bX12_sum_122_45 hI hl0 X hr hB hrc hk6 p1 p2 (1 : Int32) m10
def fX12_sum_122_b6 (rc : Int32 → Mem → Option (Int32 × Mem)) : Nat → Int32 → Int32 → Mem → Option (Int32 × Mem)
  | 0, _, _, _ => none
  | n + 1, p1, p2, μ =>
  bnd (fX12_fine_122 μ) fun r3 m4 =>
  if r3 = 0 then (some (p2, m4))
  else bnd (fX12_here_122 m4) fun r5 m6 =>
    if r5 = (43 : Int32) then (fX12_sum_122_b31 rc (fun p1 p2 m => fX12_sum_122_b6 rc n p1 p2 m) p1 p2 m6)
    else bnd (fX12_here_122 m6) fun r7 m8 =>
      if r7 = (45 : Int32) then (fX12_sum_122_b31 rc (fun p1 p2 m => fX12_sum_122_b6 rc n p1 p2 m) p1 p2 m8)
      else some (p2, m8)
set_option maxRecDepth 100000 in
set_option maxHeartbeats 4000000 in
theorem bX12_sum_122_6 {E : En} {l : Launch} {Z : Zt} (hI : Inj E) (hl0 : lZ l Z) {dT : Nat} (X : Cx E Z cX12_sum RX12 5 (dT + 2)) (hr : rtOf Z = some .int) (hB : 5 ≤ dT) {rc : Int32 → Mem → Option (Int32 × Mem)} (hrc : ∀ (v1 : Int32) (m : Mem), MtI E l yX12_thing cX12_thing 4 (some .int) dT [.ref (eAd E 122), .int v1] m (rc v1 m)) : ∀ (n : Nat) (p1 : Int32) (p2 : Int32) (μ : Mem), AO E Z 5 (QI E Z) 6 [(0, .ref (eAd E 122)), (1, .int p1), (2, .int p2)] [] μ (fX12_sum_122_b6 rc n p1 p2 μ) := by
  intro n
  induction n with
  | zero =>
    intros
    exact ao_none
  | succ n ih =>
    intro p1 p2 μ
    rw [fX12_sum_122_b6]
    refine ao_aload_n (pc := 6) X dX12_sum_6 rfl ?_
    refine ao_callVI (pc := 7) (As := []) (st := []) X hl0 dX12_sum_7 yv_X12_fine so_122 ml_RX12_130 (mX12_fine_122 hI μ) (by omega) rfl rfl (Nat.le_of_ble_eq_true rfl) (fun r3 m4 => ?_)
    refine ao_if_eq (pc := 10) (tgt := 82) X dX12_sum_10 (by decide) (fun _ => ?_) (fun _ => ?_)
    · refine ao_iload_n (pc := 82) X dX12_sum_82 rfl ?_
      exact ao_iret (pc := 83) X hr dX12_sum_83
    · refine ao_aload_n (pc := 13) X dX12_sum_13 rfl ?_
      refine ao_callVI (pc := 14) (As := []) (st := []) X hl0 dX12_sum_14 yv_X12_here so_122 ml_RX12_134 (mX12_here_122 hI m4) (by omega) rfl rfl (Nat.le_of_ble_eq_true rfl) (fun r5 m6 => ?_)
      refine ao_bipush (pc := 17) X dX12_sum_17 bp_43 ?_
      refine ao_icmp_eq (pc := 19) (tgt := 31) X dX12_sum_19 (by decide) (fun _ => ?_) (fun _ => ?_)
      · refine ao_sub [0, 1, 2] rfl ?_
        exact bX12_sum_122_31 hI hl0 X hr hB hrc ih p1 p2 m6
      · refine ao_aload_n (pc := 22) X dX12_sum_22 rfl ?_
        refine ao_callVI (pc := 23) (As := []) (st := []) X hl0 dX12_sum_23 yv_X12_here so_122 ml_RX12_134 (mX12_here_122 hI m6) (by omega) rfl rfl (Nat.le_of_ble_eq_true rfl) (fun r7 m8 => ?_)
        refine ao_bipush (pc := 26) X dX12_sum_26 bp_45 ?_
        refine ao_icmp_ne (pc := 28) (tgt := 82) X dX12_sum_28 (by decide) (fun _ => ?_) (fun _ => ?_)
        · refine ao_iload_n (pc := 82) X dX12_sum_82 rfl ?_
          exact ao_iret (pc := 83) X hr dX12_sum_83
        · refine ao_sub [0, 1, 2] rfl ?_
          exact bX12_sum_122_31 hI hl0 X hr hB hrc ih p1 p2 m8
def fX12_sum_122 (rc : Int32 → Mem → Option (Int32 × Mem)) (v1 : Int32) (μ : Mem) : Option (Int32 × Mem) :=
  bnd (fX12_product_122 rc v1 μ) fun r1 m2 =>
  fX12_sum_122_b6 rc FU v1 r1 m2
set_option maxRecDepth 100000 in
set_option maxHeartbeats 4000000 in
theorem mX12_sum_122 {E : En} {l : Launch} (hI : Inj E) {dT : Nat} (hB : 5 ≤ dT) {rc : Int32 → Mem → Option (Int32 × Mem)} (hrc : ∀ (v1 : Int32) (m : Mem), MtI E l yX12_thing cX12_thing 4 (some .int) dT [.ref (eAd E 122), .int v1] m (rc v1 m)) (v1 : Int32) (μ : Mem) : MtI E l yX12_sum cX12_sum 5 (some .int) (dT + 2) [.ref (eAd E 122), .int v1] μ (fX12_sum_122 rc v1 μ) := by
  refine mtI_of (own := RX12) [(0, .ref (eAd E 122)), (1, .int v1)] hI rfl (by decide) (by omega) (Nat.le_of_ble_eq_true rfl) rfl (fun Z hl0 X hr => ?_)
  unfold fX12_sum_122
  refine ao_aload_n (pc := 0) X dX12_sum_0 rfl ?_
  refine ao_iload_n (pc := 1) X dX12_sum_1 rfl ?_
  refine ao_callVI (pc := 2) (As := [.int v1]) (st := []) X hl0 dX12_sum_2 yv_X12_product so_122 ml_RX12_193 (mX12_product_122 hI hB hrc v1 μ) (by omega) rfl rfl (Nat.le_of_ble_eq_true rfl) (fun r1 m2 => ?_)
  refine ao_istore_n (pc := 5) (lv' := [(2, .int r1), (0, .ref (eAd E 122)), (1, .int v1)]) X dX12_sum_5 rfl (by decide) rfl ?_
  refine ao_sub [1, 2, 0] rfl ?_
  exact bX12_sum_122_6 hI hl0 X hr hB hrc FU v1 r1 m2
def fX12_held_122 (rc : Int32 → Mem → Option (Int32 × Mem)) (v1 : Int32) (μ : Mem) : Option (Int32 × Mem) :=
  bnd (fX12_sum_122 rc v1 μ) fun r1 m2 =>
  bnd (fX12_passes_122 (60 : Int32) m2) fun r3 m4 =>
  if r3 = 0 then (bnd (fX12_passes_122 (62 : Int32) m4) fun r5 m6 =>
    if r5 = 0 then (bnd (fX12_passes_122 (61 : Int32) m6) fun r7 m8 =>
      if r7 = 0 then (some (r1, m8))
      else bnd (fX12_sum_122 rc v1 m8) fun r9 m10 =>
        if r1 = r9 then (some ((1 : Int32), m10))
        else some ((0 : Int32), m10))
    else bnd (fX12_sum_122 rc v1 m6) fun r11 m12 =>
      if r1 ≤ r11 then (some ((0 : Int32), m12))
      else some ((1 : Int32), m12))
  else bnd (fX12_sum_122 rc v1 m4) fun r13 m14 =>
    if r13 ≤ r1 then (some ((0 : Int32), m14))
    else some ((1 : Int32), m14)
set_option maxRecDepth 100000 in
set_option maxHeartbeats 4000000 in
theorem mX12_held_122 {E : En} {l : Launch} (hI : Inj E) {dT : Nat} (hB : 5 ≤ dT) {rc : Int32 → Mem → Option (Int32 × Mem)} (hrc : ∀ (v1 : Int32) (m : Mem), MtI E l yX12_thing cX12_thing 4 (some .int) dT [.ref (eAd E 122), .int v1] m (rc v1 m)) (v1 : Int32) (μ : Mem) : MtI E l yX12_held cX12_held 3 (some .int) (dT + 3) [.ref (eAd E 122), .int v1] μ (fX12_held_122 rc v1 μ) := by
  refine mtI_of (own := RX12) [(0, .ref (eAd E 122)), (1, .int v1)] hI rfl (by decide) (by omega) (Nat.le_of_ble_eq_true rfl) rfl (fun Z hl0 X hr => ?_)
  unfold fX12_held_122
  refine ao_aload_n (pc := 0) X dX12_held_0 rfl ?_
  refine ao_iload_n (pc := 1) X dX12_held_1 rfl ?_
  refine ao_callVI (pc := 2) (As := [.int v1]) (st := []) X hl0 dX12_held_2 yv_X12_sum so_122 ml_RX12_190 (mX12_sum_122 hI hB hrc v1 μ) (by omega) rfl rfl (Nat.le_of_ble_eq_true rfl) (fun r1 m2 => ?_)
  refine ao_istore_n (pc := 5) (lv' := [(2, .int r1), (0, .ref (eAd E 122)), (1, .int v1)]) X dX12_held_5 rfl (by decide) rfl ?_
  refine ao_aload_n (pc := 6) X dX12_held_6 rfl ?_
  refine ao_bipush (pc := 7) X dX12_held_7 bp_60 ?_
  refine ao_callVI (pc := 9) (As := [.int (60 : Int32)]) (st := []) X hl0 dX12_held_9 yv_X12_passes so_122 ml_RX12_138 (mX12_passes_122 hI (60 : Int32) m2) (by omega) rfl rfl (Nat.le_of_ble_eq_true rfl) (fun r3 m4 => ?_)
  refine ao_if_eq (pc := 12) (tgt := 30) X dX12_held_12 (by decide) (fun _ => ?_) (fun _ => ?_)
  · refine ao_aload_n (pc := 30) X dX12_held_30 rfl ?_
    refine ao_bipush (pc := 31) X dX12_held_31 bp_62 ?_
    refine ao_callVI (pc := 33) (As := [.int (62 : Int32)]) (st := []) X hl0 dX12_held_33 yv_X12_passes so_122 ml_RX12_138 (mX12_passes_122 hI (62 : Int32) m4) (by omega) rfl rfl (Nat.le_of_ble_eq_true rfl) (fun r5 m6 => ?_)
    refine ao_if_eq (pc := 36) (tgt := 54) X dX12_held_36 (by decide) (fun _ => ?_) (fun _ => ?_)
    · refine ao_aload_n (pc := 54) X dX12_held_54 rfl ?_
      refine ao_bipush (pc := 55) X dX12_held_55 bp_61 ?_
      refine ao_callVI (pc := 57) (As := [.int (61 : Int32)]) (st := []) X hl0 dX12_held_57 yv_X12_passes so_122 ml_RX12_138 (mX12_passes_122 hI (61 : Int32) m6) (by omega) rfl rfl (Nat.le_of_ble_eq_true rfl) (fun r7 m8 => ?_)
      refine ao_if_eq (pc := 60) (tgt := 78) X dX12_held_60 (by decide) (fun _ => ?_) (fun _ => ?_)
      · refine ao_iload_n (pc := 78) X dX12_held_78 rfl ?_
        exact ao_iret (pc := 79) X hr dX12_held_79
      · refine ao_iload_n (pc := 63) X dX12_held_63 rfl ?_
        refine ao_aload_n (pc := 64) X dX12_held_64 rfl ?_
        refine ao_iload_n (pc := 65) X dX12_held_65 rfl ?_
        refine ao_callVI (pc := 66) (As := [.int v1]) (st := [.int r1]) X hl0 dX12_held_66 yv_X12_sum so_122 ml_RX12_190 (mX12_sum_122 hI hB hrc v1 m8) (by omega) rfl rfl (Nat.le_of_ble_eq_true rfl) (fun r9 m10 => ?_)
        refine ao_icmp_ne (pc := 69) (tgt := 76) X dX12_held_69 (by decide) (fun _ => ?_) (fun _ => ?_)
        · refine ao_iconst (pc := 76) X dX12_held_76 ic_0 ?_
          exact ao_iret (pc := 77) X hr dX12_held_77
        · refine ao_iconst (pc := 72) X dX12_held_72 ic_1 ?_
          refine ao_goto (pc := 73) (tgt := 77) X dX12_held_73 (by decide) ?_
          exact ao_iret (pc := 77) X hr dX12_held_77
    · refine ao_iload_n (pc := 39) X dX12_held_39 rfl ?_
      refine ao_aload_n (pc := 40) X dX12_held_40 rfl ?_
      refine ao_iload_n (pc := 41) X dX12_held_41 rfl ?_
      refine ao_callVI (pc := 42) (As := [.int v1]) (st := [.int r1]) X hl0 dX12_held_42 yv_X12_sum so_122 ml_RX12_190 (mX12_sum_122 hI hB hrc v1 m6) (by omega) rfl rfl (Nat.le_of_ble_eq_true rfl) (fun r11 m12 => ?_)
      refine ao_icmp_le (pc := 45) (tgt := 52) X dX12_held_45 (by decide) (fun _ => ?_) (fun _ => ?_)
      · refine ao_iconst (pc := 52) X dX12_held_52 ic_0 ?_
        exact ao_iret (pc := 53) X hr dX12_held_53
      · refine ao_iconst (pc := 48) X dX12_held_48 ic_1 ?_
        refine ao_goto (pc := 49) (tgt := 53) X dX12_held_49 (by decide) ?_
        exact ao_iret (pc := 53) X hr dX12_held_53
  · refine ao_iload_n (pc := 15) X dX12_held_15 rfl ?_
    refine ao_aload_n (pc := 16) X dX12_held_16 rfl ?_
    refine ao_iload_n (pc := 17) X dX12_held_17 rfl ?_
    refine ao_callVI (pc := 18) (As := [.int v1]) (st := [.int r1]) X hl0 dX12_held_18 yv_X12_sum so_122 ml_RX12_190 (mX12_sum_122 hI hB hrc v1 m4) (by omega) rfl rfl (Nat.le_of_ble_eq_true rfl) (fun r13 m14 => ?_)
    refine ao_icmp_ge (pc := 21) (tgt := 28) X dX12_held_21 (by decide) (fun _ => ?_) (fun _ => ?_)
    · refine ao_iconst (pc := 28) X dX12_held_28 ic_0 ?_
      exact ao_iret (pc := 29) X hr dX12_held_29
    · refine ao_iconst (pc := 24) X dX12_held_24 ic_1 ?_
      refine ao_goto (pc := 25) (tgt := 29) X dX12_held_25 (by decide) ?_
      exact ao_iret (pc := 29) X hr dX12_held_29
def fX12_thing_122_b67 (rc : Int32 → Mem → Option (Int32 × Mem)) (p2 : Int32) (μ : Mem) : Option (Int32 × Mem) :=
  bnd (fX12_in p2 (48 : Int32) (57 : Int32) μ) fun r14 m15 =>
  if r14 = 0 then (bnd (fX12_letterOf p2 m15) fun r16 m17 =>
    if r16 = (-1 : Int32) then (bnd (fX12_fault_122 (gI m17 122 21) m17) fun r21 m22 =>
      some ((0 : Int32), m22))
    else lt (sI m17 122 21 ((gI m17 122 21) + (1 : Int32))) fun m18 =>
      if (gI m18 122 26) = 0 then (some ((0 : Int32), m18))
      else bnd (fX12_letterOf p2 m18) fun r19 m20 =>
        gd (inb r19 6) (some ((gI m20 137 (ix r19)), m20)))
  else bnd (fX12_number_122 (3 : Int32) m15) fun r23 m24 =>
    some (r23, m24)
set_option maxRecDepth 100000 in
set_option maxHeartbeats 4000000 in
theorem bX12_thing_122_67 {E : En} {l : Launch} {Z : Zt} (hI : Inj E) (hl0 : lZ l Z) {dT : Nat} (X : Cx E Z cX12_thing RX12 4 (dT + 4)) (hr : rtOf Z = some .int) (hB : 5 ≤ dT) {rc : Int32 → Mem → Option (Int32 × Mem)} (hrc : ∀ (v1 : Int32) (m : Mem), MtI E l yX12_thing cX12_thing 4 (some .int) dT [.ref (eAd E 122), .int v1] m (rc v1 m)) (p2 : Int32) (μ : Mem) : AO E Z 4 (QI E Z) 67 [(0, .ref (eAd E 122)), (2, .int p2)] [] μ (fX12_thing_122_b67 rc p2 μ) := by
  unfold fX12_thing_122_b67
  refine ao_iload_n (pc := 67) X dX12_thing_67 rfl ?_
  refine ao_bipush (pc := 68) X dX12_thing_68 bp_48 ?_
  refine ao_bipush (pc := 70) X dX12_thing_70 bp_57 ?_
  refine ao_callSI (pc := 72) (As := [.int p2, .int (48 : Int32), .int (57 : Int32)]) (st := []) X hl0 dX12_thing_72 yv_X12_in ml_RX12_104 (mX12_in hI p2 (48 : Int32) (57 : Int32) μ) (by omega) rfl rfl (Nat.le_of_ble_eq_true rfl) (fun r14 m15 => ?_)
  refine ao_if_eq (pc := 75) (tgt := 84) X dX12_thing_75 (by decide) (fun _ => ?_) (fun _ => ?_)
  · refine ao_iload_n (pc := 84) X dX12_thing_84 rfl ?_
    refine ao_callSI (pc := 85) (As := [.int p2]) (st := []) X hl0 dX12_thing_85 yv_X12_letterOf ml_RX12_202 (mX12_letterOf hI p2 m15) (by omega) rfl rfl (Nat.le_of_ble_eq_true rfl) (fun r16 m17 => ?_)
    refine ao_iconst (pc := 88) X dX12_thing_88 ic_m1 ?_
    refine ao_icmp_ne (pc := 89) (tgt := 102) X dX12_thing_89 (by decide) (fun _ => ?_) (fun _ => ?_)
    · refine ao_aload_n (pc := 102) X dX12_thing_102 rfl ?_
      refine ao_dup (pc := 103) X dX12_thing_103 rfl ?_
      refine ao_getI (pc := 104) X dX12_thing_104 fl_RX12_120 sf_122_21 ?_
      refine ao_iconst (pc := 107) X dX12_thing_107 ic_1 ?_
      refine ao_iadd (pc := 108) X dX12_thing_108 ?_
      refine ao_putI (pc := 109) X dX12_thing_109 fp_RX12_120 sf_122_21 ?_
      refine ao_lt (fun m18 => ?_)
      refine ao_aload_n (pc := 112) X dX12_thing_112 rfl ?_
      refine ao_getI (pc := 113) X dX12_thing_113 fl_RX12_205 sf_122_26 ?_
      refine ao_if_eq (pc := 116) (tgt := 131) X dX12_thing_116 (by decide) (fun _ => ?_) (fun _ => ?_)
      · refine ao_iconst (pc := 131) X dX12_thing_131 ic_0 ?_
        exact ao_iret (pc := 132) X hr dX12_thing_132
      · refine ao_aload_n (pc := 119) X dX12_thing_119 rfl ?_
        refine ao_getR (pc := 120) X dX12_thing_120 fl_RX12_59 sf_122_27 ?_
        refine ao_iload_n (pc := 123) X dX12_thing_123 rfl ?_
        refine ao_callSI (pc := 124) (As := [.int p2]) (st := [.ref (eAd E 137)]) X hl0 dX12_thing_124 yv_X12_letterOf ml_RX12_202 (mX12_letterOf hI p2 m18) (by omega) rfl rfl (Nat.le_of_ble_eq_true rfl) (fun r19 m20 => ?_)
        refine ao_iald (pc := 127) X dX12_thing_127 sa_137 ?_
        refine ao_goto (pc := 128) (tgt := 132) X dX12_thing_128 (by decide) ?_
        exact ao_iret (pc := 132) X hr dX12_thing_132
    · refine ao_aload_n (pc := 92) X dX12_thing_92 rfl ?_
      refine ao_aload_n (pc := 93) X dX12_thing_93 rfl ?_
      refine ao_getI (pc := 94) X dX12_thing_94 fl_RX12_120 sf_122_21 ?_
      refine ao_callVV (pc := 97) (As := [.int (gI m17 122 21)]) (st := []) X hl0 dX12_thing_97 yv_X12_fault so_122 ml_RX12_142 (mX12_fault_122 hI (gI m17 122 21) m17) (by omega) rfl rfl (Nat.le_of_ble_eq_true rfl) (fun r21 m22 => ?_)
      refine ao_iconst (pc := 100) X dX12_thing_100 ic_0 ?_
      exact ao_iret (pc := 101) X hr dX12_thing_101
  · refine ao_aload_n (pc := 78) X dX12_thing_78 rfl ?_
    refine ao_iconst (pc := 79) X dX12_thing_79 ic_3 ?_
    refine ao_callVI (pc := 80) (As := [.int (3 : Int32)]) (st := []) X hl0 dX12_thing_80 yv_X12_number so_122 ml_RX12_150 (mX12_number_122 hI (3 : Int32) m15) (by omega) rfl rfl (Nat.le_of_ble_eq_true rfl) (fun r23 m24 => ?_)
    exact ao_iret (pc := 83) X hr dX12_thing_83
def fX12_thing_122_r (rc : Int32 → Mem → Option (Int32 × Mem)) (v1 : Int32) (μ : Mem) : Option (Int32 × Mem) :=
  bnd (fX12_passes_122 (45 : Int32) μ) fun r1 m2 =>
  if r1 = 0 then (bnd (fX12_fine_122 m2) fun r3 m4 =>
    if r3 = 0 then (some ((0 : Int32), m4))
    else bnd (fX12_here_122 m4) fun r5 m6 =>
      if r5 = (40 : Int32) then (if (4 : Int32) ≤ v1 then (fX12_thing_122_b67 rc r5 m6)
        else lt (sI m6 122 21 ((gI m6 122 21) + (1 : Int32))) fun m7 =>
          bnd (fX12_held_122 rc (v1 + (1 : Int32)) m7) fun r8 m9 =>
          bnd (fX12_need_122 (41 : Int32) m9) fun r10 m11 =>
          some (r8, m11))
      else fX12_thing_122_b67 rc r5 m6)
  else bnd (rc v1 m2) fun r12 m13 =>
    some ((-r12), m13)
set_option maxRecDepth 100000 in
set_option maxHeartbeats 4000000 in
theorem mX12_thing_122_r {E : En} {l : Launch} (hI : Inj E) {dT : Nat} (hB : 5 ≤ dT) {rc : Int32 → Mem → Option (Int32 × Mem)} (hrc : ∀ (v1 : Int32) (m : Mem), MtI E l yX12_thing cX12_thing 4 (some .int) dT [.ref (eAd E 122), .int v1] m (rc v1 m)) (v1 : Int32) (μ : Mem) : MtI E l yX12_thing cX12_thing 4 (some .int) (dT + 4) [.ref (eAd E 122), .int v1] μ (fX12_thing_122_r rc v1 μ) := by
  refine mtI_of (own := RX12) [(0, .ref (eAd E 122)), (1, .int v1)] hI rfl (by decide) (by omega) (Nat.le_of_ble_eq_true rfl) rfl (fun Z hl0 X hr => ?_)
  unfold fX12_thing_122_r
  refine ao_aload_n (pc := 0) X dX12_thing_0 rfl ?_
  refine ao_bipush (pc := 1) X dX12_thing_1 bp_45 ?_
  refine ao_callVI (pc := 3) (As := [.int (45 : Int32)]) (st := []) X hl0 dX12_thing_3 yv_X12_passes so_122 ml_RX12_138 (mX12_passes_122 hI (45 : Int32) μ) (by omega) rfl rfl (Nat.le_of_ble_eq_true rfl) (fun r1 m2 => ?_)
  refine ao_if_eq (pc := 6) (tgt := 16) X dX12_thing_6 (by decide) (fun _ => ?_) (fun _ => ?_)
  · refine ao_aload_n (pc := 16) X dX12_thing_16 rfl ?_
    refine ao_callVI (pc := 17) (As := []) (st := []) X hl0 dX12_thing_17 yv_X12_fine so_122 ml_RX12_130 (mX12_fine_122 hI m2) (by omega) rfl rfl (Nat.le_of_ble_eq_true rfl) (fun r3 m4 => ?_)
    refine ao_if_ne (pc := 20) (tgt := 25) X dX12_thing_20 (by decide) (fun _ => ?_) (fun _ => ?_)
    · refine ao_aload_n (pc := 25) X dX12_thing_25 rfl ?_
      refine ao_callVI (pc := 26) (As := []) (st := []) X hl0 dX12_thing_26 yv_X12_here so_122 ml_RX12_134 (mX12_here_122 hI m4) (by omega) rfl rfl (Nat.le_of_ble_eq_true rfl) (fun r5 m6 => ?_)
      refine ao_istore_n (pc := 29) (lv' := [(2, .int r5), (0, .ref (eAd E 122)), (1, .int v1)]) X dX12_thing_29 rfl (by decide) rfl ?_
      refine ao_iload_n (pc := 30) X dX12_thing_30 rfl ?_
      refine ao_bipush (pc := 31) X dX12_thing_31 bp_40 ?_
      refine ao_icmp_ne (pc := 33) (tgt := 67) X dX12_thing_33 (by decide) (fun _ => ?_) (fun _ => ?_)
      · refine ao_sub [1, 0] rfl ?_
        exact bX12_thing_122_67 hI hl0 X hr hB hrc r5 m6
      · refine ao_iload_n (pc := 36) X dX12_thing_36 rfl ?_
        refine ao_iconst (pc := 37) X dX12_thing_37 ic_4 ?_
        refine ao_icmp_ge (pc := 38) (tgt := 67) X dX12_thing_38 (by decide) (fun _ => ?_) (fun _ => ?_)
        · refine ao_sub [1, 0] rfl ?_
          exact bX12_thing_122_67 hI hl0 X hr hB hrc r5 m6
        · refine ao_aload_n (pc := 41) X dX12_thing_41 rfl ?_
          refine ao_dup (pc := 42) X dX12_thing_42 rfl ?_
          refine ao_getI (pc := 43) X dX12_thing_43 fl_RX12_120 sf_122_21 ?_
          refine ao_iconst (pc := 46) X dX12_thing_46 ic_1 ?_
          refine ao_iadd (pc := 47) X dX12_thing_47 ?_
          refine ao_putI (pc := 48) X dX12_thing_48 fp_RX12_120 sf_122_21 ?_
          refine ao_lt (fun m7 => ?_)
          refine ao_aload_n (pc := 51) X dX12_thing_51 rfl ?_
          refine ao_iload_n (pc := 52) X dX12_thing_52 rfl ?_
          refine ao_iconst (pc := 53) X dX12_thing_53 ic_1 ?_
          refine ao_iadd (pc := 54) X dX12_thing_54 ?_
          refine ao_callVI (pc := 55) (As := [.int (v1 + (1 : Int32))]) (st := []) X hl0 dX12_thing_55 yv_X12_held so_122 ml_RX12_199 (mX12_held_122 hI hB hrc (v1 + (1 : Int32)) m7) (by omega) rfl rfl (Nat.le_of_ble_eq_true rfl) (fun r8 m9 => ?_)
          refine ao_istore_n (pc := 58) (lv' := [(3, .int r8), (2, .int r5), (0, .ref (eAd E 122)), (1, .int v1)]) X dX12_thing_58 rfl (by decide) rfl ?_
          refine ao_aload_n (pc := 59) X dX12_thing_59 rfl ?_
          refine ao_bipush (pc := 60) X dX12_thing_60 bp_41 ?_
          refine ao_callVV (pc := 62) (As := [.int (41 : Int32)]) (st := []) X hl0 dX12_thing_62 yv_X12_need so_122 ml_RX12_154 (mX12_need_122 hI (41 : Int32) m9) (by omega) rfl rfl (Nat.le_of_ble_eq_true rfl) (fun r10 m11 => ?_)
          refine ao_iload_n (pc := 65) X dX12_thing_65 rfl ?_
          exact ao_iret (pc := 66) X hr dX12_thing_66
    · refine ao_iconst (pc := 23) X dX12_thing_23 ic_0 ?_
      exact ao_iret (pc := 24) X hr dX12_thing_24
  · refine ao_aload_n (pc := 9) X dX12_thing_9 rfl ?_
    refine ao_iload_n (pc := 10) X dX12_thing_10 rfl ?_
    refine ao_callVI (pc := 11) (As := [.int v1]) (st := []) X hl0 dX12_thing_11 yv_X12_thing so_122 ml_RX12_196 (hrc v1 m2) (by omega) rfl rfl (Nat.le_of_ble_eq_true rfl) (fun r12 m13 => ?_)
    refine ao_ineg (pc := 14) X dX12_thing_14 ?_
    exact ao_iret (pc := 15) X hr dX12_thing_15
def fX12_thing_122 : Nat → Int32 → Mem → Option (Int32 × Mem)
  | 0, _, _ => none
  | n + 1, v1, μ => fX12_thing_122_r (fun v1 m => fX12_thing_122 n v1 m) v1 μ
theorem dBX12_thing_122 (n : Nat) : 5 ≤ 5 + 4 * n := Nat.le_add_right _ _
theorem mX12_thing_122 {E : En} {l : Launch} (hI : Inj E) : ∀ (n : Nat) (v1 : Int32) (μ : Mem), MtI E l yX12_thing cX12_thing 4 (some .int) (5 + 4 * n) [.ref (eAd E 122), .int v1] μ (fX12_thing_122 n v1 μ) := by
  intro n
  induction n with
  | zero =>
    intro v1 μ r μ' h
    cases h
  | succ n ih =>
    intro v1 μ
    exact mX12_thing_122_r hI (dBX12_thing_122 n) ih v1 μ
def fX12_rule_122_b47 : Nat → Int32 → Int32 → Mem → Option (Int32 × Mem)
  | 0, _, _, _ => none
  | n + 1, p1, p2, μ =>
  if p1 ≤ p2 then (lt (sI μ 122 25 p1) fun m10 =>
    some ((0 : Int32), m10))
  else gd (inb p2 80) (gd (inb p2 40) (lt (sI μ 136 (ix p2) (vp_nar .byte (gI μ 133 (ix p2)))) fun m11 =>
    fX12_rule_122_b47 n p1 (p2 + (1 : Int32)) m11))
set_option maxRecDepth 100000 in
set_option maxHeartbeats 4000000 in
theorem bX12_rule_122_47 {E : En} {l : Launch} {Z : Zt} (hI : Inj E) (hl0 : lZ l Z) (X : Cx E Z cX12_rule RX12 3 409) (hr : rtOf Z = some .int) : ∀ (n : Nat) (p1 : Int32) (p2 : Int32) (μ : Mem), AO E Z 3 (QI E Z) 47 [(0, .ref (eAd E 122)), (1, .int p1), (2, .int p2)] [] μ (fX12_rule_122_b47 n p1 p2 μ) := by
  intro n
  induction n with
  | zero =>
    intros
    exact ao_none
  | succ n ih =>
    intro p1 p2 μ
    rw [fX12_rule_122_b47]
    refine ao_iload_n (pc := 47) X dX12_rule_47 rfl ?_
    refine ao_iload_n (pc := 48) X dX12_rule_48 rfl ?_
    refine ao_icmp_ge (pc := 49) (tgt := 70) X dX12_rule_49 (by decide) (fun _ => ?_) (fun _ => ?_)
    · refine ao_aload_n (pc := 70) X dX12_rule_70 rfl ?_
      refine ao_iload_n (pc := 71) X dX12_rule_71 rfl ?_
      refine ao_putI (pc := 72) X dX12_rule_72 fp_RX12_209 sf_122_25 ?_
      refine ao_lt (fun m10 => ?_)
      refine ao_iconst (pc := 75) X dX12_rule_75 ic_0 ?_
      exact ao_iret (pc := 76) X hr dX12_rule_76
    · refine ao_aload_n (pc := 52) X dX12_rule_52 rfl ?_
      refine ao_getR (pc := 53) X dX12_rule_53 fl_RX12_56 sf_122_24 ?_
      refine ao_iload_n (pc := 56) X dX12_rule_56 rfl ?_
      refine ao_aload_n (pc := 57) X dX12_rule_57 rfl ?_
      refine ao_getR (pc := 58) X dX12_rule_58 fl_RX12_45 sf_122_13 ?_
      refine ao_iload_n (pc := 61) X dX12_rule_61 rfl ?_
      refine ao_bald (pc := 62) X dX12_rule_62 sa_133 ?_
      refine ao_bast (pc := 63) X dX12_rule_63 sa_136 ?_
      refine ao_lt (fun m11 => ?_)
      refine ao_iinc (pc := 64) (k := 2) (v := p2 + (1 : Int32)) (lv' := [(2, .int (p2 + (1 : Int32))), (0, .ref (eAd E 122)), (1, .int p1)]) X dX12_rule_64 rfl (ii_ic ic_1) (by decide) rfl ?_
      refine ao_goto (pc := 67) (tgt := 47) X dX12_rule_67 (by decide) ?_
      refine ao_sub [1, 2, 0] rfl ?_
      exact ih p1 (p2 + (1 : Int32)) m11
def fX12_rule_122_b31 (p1 : Int32) (μ : Mem) : Option (Int32 × Mem) :=
  bnd (fX12_wasRight_122 μ) fun r8 m9 =>
  if r8 = 0 then (some (((-1 : Int32) - (gI m9 122 22)), m9))
  else fX12_rule_122_b47 FU p1 (0 : Int32) m9
set_option maxRecDepth 100000 in
set_option maxHeartbeats 4000000 in
theorem bX12_rule_122_31 {E : En} {l : Launch} {Z : Zt} (hI : Inj E) (hl0 : lZ l Z) (X : Cx E Z cX12_rule RX12 3 409) (hr : rtOf Z = some .int) (p1 : Int32) (μ : Mem) : AO E Z 3 (QI E Z) 31 [(0, .ref (eAd E 122)), (1, .int p1)] [] μ (fX12_rule_122_b31 p1 μ) := by
  unfold fX12_rule_122_b31
  refine ao_aload_n (pc := 31) X dX12_rule_31 rfl ?_
  refine ao_callVI (pc := 32) (As := []) (st := []) X hl0 dX12_rule_32 yv_X12_wasRight so_122 ml_RX12_172 (mX12_wasRight_122 hI μ) (Nat.le_of_ble_eq_true rfl) rfl rfl (Nat.le_of_ble_eq_true rfl) (fun r8 m9 => ?_)
  refine ao_if_ne (pc := 35) (tgt := 45) X dX12_rule_35 (by decide) (fun _ => ?_) (fun _ => ?_)
  · refine ao_iconst (pc := 45) X dX12_rule_45 ic_0 ?_
    refine ao_istore_n (pc := 46) (lv' := [(2, .int (0 : Int32)), (0, .ref (eAd E 122)), (1, .int p1)]) X dX12_rule_46 rfl (by decide) rfl ?_
    refine ao_sub [1, 2, 0] rfl ?_
    exact bX12_rule_122_47 hI hl0 X hr FU p1 (0 : Int32) m9
  · refine ao_iconst (pc := 38) X dX12_rule_38 ic_m1 ?_
    refine ao_aload_n (pc := 39) X dX12_rule_39 rfl ?_
    refine ao_getI (pc := 40) X dX12_rule_40 fl_RX12_123 sf_122_22 ?_
    refine ao_isub (pc := 43) X dX12_rule_43 ?_
    exact ao_iret (pc := 44) X hr dX12_rule_44
def fX12_rule_122 (μ : Mem) : Option (Int32 × Mem) :=
  lt (sI μ 122 17 (0 : Int32)) fun m1 =>
  lt (gI m1 122 14) fun x2 =>
  bnd (fX12_beginText_122 (40 : Int32) m1) fun r3 m4 =>
  lt (sI m4 122 26 (0 : Int32)) fun m5 =>
  if x2 ≤ 0 then (fX12_rule_122_b31 x2 m5)
  else bnd (fX12_held_122 (fX12_thing_122 FR) (0 : Int32) m5) fun r6 m7 =>
    fX12_rule_122_b31 x2 m7
set_option maxRecDepth 100000 in
set_option maxHeartbeats 4000000 in
theorem mX12_rule_122 {E : En} {l : Launch} (hI : Inj E) (μ : Mem) : MtI E l yX12_rule cX12_rule 3 (some .int) 409 [.ref (eAd E 122)] μ (fX12_rule_122 μ) := by
  refine mtI_of (own := RX12) [(0, .ref (eAd E 122))] hI rfl (by decide) (Nat.le_of_ble_eq_true rfl) (Nat.le_of_ble_eq_true rfl) rfl (fun Z hl0 X hr => ?_)
  unfold fX12_rule_122
  refine ao_aload_n (pc := 0) X dX12_rule_0 rfl ?_
  refine ao_iconst (pc := 1) X dX12_rule_1 ic_0 ?_
  refine ao_putI (pc := 2) X dX12_rule_2 fp_RX12_95 sf_122_17 ?_
  refine ao_lt (fun m1 => ?_)
  refine ao_aload_n (pc := 5) X dX12_rule_5 rfl ?_
  refine ao_getI (pc := 6) X dX12_rule_6 fl_RX12_108 sf_122_14 ?_
  refine ao_ltI (fun x2 => ?_)
  refine ao_istore_n (pc := 9) (lv' := [(1, .int x2), (0, .ref (eAd E 122))]) X dX12_rule_9 rfl (by decide) rfl ?_
  refine ao_aload_n (pc := 10) X dX12_rule_10 rfl ?_
  refine ao_bipush (pc := 11) X dX12_rule_11 bp_40 ?_
  refine ao_callVV (pc := 13) (As := [.int (40 : Int32)]) (st := []) X hl0 dX12_rule_13 yv_X12_beginText so_122 ml_RX12_162 (mX12_beginText_122 hI (40 : Int32) m1) (Nat.le_of_ble_eq_true rfl) rfl rfl (Nat.le_of_ble_eq_true rfl) (fun r3 m4 => ?_)
  refine ao_aload_n (pc := 16) X dX12_rule_16 rfl ?_
  refine ao_iconst (pc := 17) X dX12_rule_17 ic_0 ?_
  refine ao_putZ (pc := 18) X dX12_rule_18 fp_RX12_205 sf_122_26 rfl rfl ?_
  refine ao_lt (fun m5 => ?_)
  refine ao_iload_n (pc := 21) X dX12_rule_21 rfl ?_
  refine ao_if_le (pc := 22) (tgt := 31) X dX12_rule_22 (by decide) (fun _ => ?_) (fun _ => ?_)
  · refine ao_sub [1, 0] rfl ?_
    exact bX12_rule_122_31 hI hl0 X hr x2 m5
  · refine ao_aload_n (pc := 25) X dX12_rule_25 rfl ?_
    refine ao_iconst (pc := 26) X dX12_rule_26 ic_0 ?_
    refine ao_callVI (pc := 27) (As := [.int (0 : Int32)]) (st := []) X hl0 dX12_rule_27 yv_X12_held so_122 ml_RX12_199 (mX12_held_122 hI (dBX12_thing_122 FR) (mX12_thing_122 hI FR) (0 : Int32) m5) (by decide) rfl rfl (Nat.le_of_ble_eq_true rfl) (fun r6 m7 => ?_)
    refine ao_pop (pc := 30) X dX12_rule_30 rfl ?_
    refine ao_sub [1, 0] rfl ?_
    exact bX12_rule_122_31 hI hl0 X hr x2 m7
def fX12_isMan_122 (v1 : Int32) (μ : Mem) : Option (Int32 × Mem) :=
  bnd (fX12_in v1 (0 : Int32) ((gI μ 122 1) - (1 : Int32)) μ) fun r1 m2 =>
  gd (isZ r1) (some (r1, m2))
set_option maxRecDepth 100000 in
set_option maxHeartbeats 4000000 in
theorem mX12_isMan_122 {E : En} {l : Launch} (hI : Inj E) (v1 : Int32) (μ : Mem) : MtI E l yX12_isMan cX12_isMan 2 (some .boolean) 2 [.ref (eAd E 122), .int v1] μ (fX12_isMan_122 v1 μ) := by
  refine mtI_of (own := RX12) [(0, .ref (eAd E 122)), (1, .int v1)] hI rfl (by decide) (Nat.le_of_ble_eq_true rfl) (Nat.le_of_ble_eq_true rfl) rfl (fun Z hl0 X hr => ?_)
  unfold fX12_isMan_122
  refine ao_iload_n (pc := 0) X dX12_isMan_0 rfl ?_
  refine ao_iconst (pc := 1) X dX12_isMan_1 ic_0 ?_
  refine ao_aload_n (pc := 2) X dX12_isMan_2 rfl ?_
  refine ao_getI (pc := 3) X dX12_isMan_3 fl_RX12_101 sf_122_1 ?_
  refine ao_iconst (pc := 6) X dX12_isMan_6 ic_1 ?_
  refine ao_isub (pc := 7) X dX12_isMan_7 ?_
  refine ao_callSI (pc := 8) (As := [.int v1, .int (0 : Int32), .int ((gI μ 122 1) - (1 : Int32))]) (st := []) X hl0 dX12_isMan_8 yv_X12_in ml_RX12_104 (mX12_in hI v1 (0 : Int32) ((gI μ 122 1) - (1 : Int32)) μ) (Nat.le_of_ble_eq_true rfl) rfl rfl (Nat.le_of_ble_eq_true rfl) (fun r1 m2 => ?_)
  exact ao_zretG (pc := 11) X hr dX12_isMan_11
def fX12_begin_122_136 (v2 : Int32) (v3 : Int32) (μ : Mem) : Option (Unit × Mem) :=
  lt (sI μ 122 18 (136 : Int32)) fun m1 =>
  lt (sI m1 122 19 v2) fun m2 =>
  lt (sI m2 122 20 v3) fun m3 =>
  lt (sI m3 122 21 (0 : Int32)) fun m4 =>
  lt (sI m4 122 22 (-1 : Int32)) fun m5 =>
  some ((), m5)
set_option maxRecDepth 100000 in
set_option maxHeartbeats 4000000 in
theorem mX12_begin_122_136 {E : En} {l : Launch} (hI : Inj E) (v2 : Int32) (v3 : Int32) (μ : Mem) : MtV E l yX12_begin cX12_begin 4 (none) 1 [.ref (eAd E 122), .ref (eAd E 136), .int v2, .int v3] μ (fX12_begin_122_136 v2 v3 μ) := by
  refine mtV_of (own := RX12) [(0, .ref (eAd E 122)), (1, .ref (eAd E 136)), (2, .int v2), (3, .int v3)] hI rfl (by decide) (Nat.le_of_ble_eq_true rfl) (Nat.le_of_ble_eq_true rfl) rfl (fun Z hl0 X hr => ?_)
  unfold fX12_begin_122_136
  refine ao_aload_n (pc := 0) X dX12_begin_0 rfl ?_
  refine ao_aload_n (pc := 1) X dX12_begin_1 rfl ?_
  refine ao_putD (pc := 2) (iv := (136 : Int32)) X dX12_begin_2 fp_RX12_111 sf_122_18 (by decide) (by decide) rfl rfl ?_
  refine ao_lt (fun m1 => ?_)
  refine ao_aload_n (pc := 5) X dX12_begin_5 rfl ?_
  refine ao_iload_n (pc := 6) X dX12_begin_6 rfl ?_
  refine ao_putI (pc := 7) X dX12_begin_7 fp_RX12_114 sf_122_19 ?_
  refine ao_lt (fun m2 => ?_)
  refine ao_aload_n (pc := 10) X dX12_begin_10 rfl ?_
  refine ao_iload_n (pc := 11) X dX12_begin_11 rfl ?_
  refine ao_putI (pc := 12) X dX12_begin_12 fp_RX12_117 sf_122_20 ?_
  refine ao_lt (fun m3 => ?_)
  refine ao_aload_n (pc := 15) X dX12_begin_15 rfl ?_
  refine ao_iconst (pc := 16) X dX12_begin_16 ic_0 ?_
  refine ao_putI (pc := 17) X dX12_begin_17 fp_RX12_120 sf_122_21 ?_
  refine ao_lt (fun m4 => ?_)
  refine ao_aload_n (pc := 20) X dX12_begin_20 rfl ?_
  refine ao_iconst (pc := 21) X dX12_begin_21 ic_m1 ?_
  refine ao_putI (pc := 22) X dX12_begin_22 fp_RX12_123 sf_122_22 ?_
  refine ao_lt (fun m5 => ?_)
  exact ao_vret (pc := 25) X hr dX12_begin_25
def fX12_leftOf_122_b114 (p5 : Int32) (μ : Mem) : Option (Int32 × Mem) :=
  some ((imax (-999 : Int32) (imin (999 : Int32) p5)), μ)
set_option maxRecDepth 100000 in
set_option maxHeartbeats 4000000 in
theorem bX12_leftOf_122_114 {E : En} {l : Launch} {Z : Zt} (hI : Inj E) (hl0 : lZ l Z) (X : Cx E Z cX12_leftOf RX12 6 409) (hr : rtOf Z = some .int) (p5 : Int32) (μ : Mem) : AO E Z 6 (QI E Z) 114 [(5, .int p5)] [] μ (fX12_leftOf_122_b114 p5 μ) := by
  unfold fX12_leftOf_122_b114
  refine ao_sipush (pc := 114) X dX12_leftOf_114 sp_m999 ?_
  refine ao_sipush (pc := 117) X dX12_leftOf_117 sp_999 ?_
  refine ao_iload (pc := 120) X dX12_leftOf_120 rfl ?_
  refine ao_min (pc := 122) X dX12_leftOf_122 ml_RX12_212 MinW_ok (Nat.le_of_ble_eq_true rfl) ?_
  refine ao_max (pc := 125) X dX12_leftOf_125 ml_RX12_217 MaxW_ok (Nat.le_of_ble_eq_true rfl) ?_
  exact ao_iret (pc := 128) X hr dX12_leftOf_128
def fX12_leftOf_122 (v1 : Int32) (v2 : Int32) (v3 : Int32) (v4 : Int32) (μ : Mem) : Option (Int32 × Mem) :=
  gd (inb v1 6) (gd (!((2 : Int32) == 0)) (lt ((((gI μ 124 (ix v1)) - v2) - ((5 : Int32) * v3)) - ((4 : Int32) * (v4 - v4 / (2 : Int32) * (2 : Int32)))) fun x1 =>
  if (gI μ 122 25) ≤ 0 then (fX12_leftOf_122_b114 x1 μ)
  else gd (inb v1 6) (gd (inb (0 : Int32) 6) (lt (sI μ 137 (ix (0 : Int32)) (gI μ 124 (ix v1))) fun m2 =>
    gd (inb (1 : Int32) 6) (lt (sI m2 137 (ix (1 : Int32)) v2) fun m3 =>
    gd (inb (2 : Int32) 6) (lt (sI m3 137 (ix (2 : Int32)) v3) fun m4 =>
    gd (!((2 : Int32) == 0)) (gd (inb (3 : Int32) 6) (lt (sI m4 137 (ix (3 : Int32)) (v4 - v4 / (2 : Int32) * (2 : Int32))) fun m5 =>
    gd (inb v1 6) (gd (inb (4 : Int32) 6) (lt (sI m5 137 (ix (4 : Int32)) (gI m5 125 (ix v1))) fun m6 =>
    gd (inb (5 : Int32) 6) (lt (sI m6 137 (ix (5 : Int32)) v1) fun m7 =>
    bnd (fX12_begin_122_136 (gI m7 122 25) (40 : Int32) m7) fun r8 m9 =>
    lt (sI m9 122 26 (1 : Int32)) fun m10 =>
    bnd (fX12_held_122 (fX12_thing_122 FR) (0 : Int32) m10) fun r11 m12 =>
    lt (sI m12 122 26 (0 : Int32)) fun m13 =>
    fX12_leftOf_122_b114 r11 m13)))))))))))
set_option maxRecDepth 100000 in
set_option maxHeartbeats 4000000 in
theorem mX12_leftOf_122 {E : En} {l : Launch} (hI : Inj E) (v1 : Int32) (v2 : Int32) (v3 : Int32) (v4 : Int32) (μ : Mem) : MtI E l yX12_leftOf cX12_leftOf 6 (some .int) 409 [.ref (eAd E 122), .int v1, .int v2, .int v3, .int v4] μ (fX12_leftOf_122 v1 v2 v3 v4 μ) := by
  refine mtI_of (own := RX12) [(0, .ref (eAd E 122)), (1, .int v1), (2, .int v2), (3, .int v3), (4, .int v4)] hI rfl (by decide) (Nat.le_of_ble_eq_true rfl) (Nat.le_of_ble_eq_true rfl) rfl (fun Z hl0 X hr => ?_)
  unfold fX12_leftOf_122
  refine ao_aload_n (pc := 0) X dX12_leftOf_0 rfl ?_
  refine ao_getR (pc := 1) X dX12_leftOf_1 fl_RX12_13 sf_122_2 ?_
  refine ao_iload_n (pc := 4) X dX12_leftOf_4 rfl ?_
  refine ao_iald (pc := 5) X dX12_leftOf_5 sa_124 ?_
  refine ao_iload_n (pc := 6) X dX12_leftOf_6 rfl ?_
  refine ao_isub (pc := 7) X dX12_leftOf_7 ?_
  refine ao_iconst (pc := 8) X dX12_leftOf_8 ic_5 ?_
  refine ao_iload_n (pc := 9) X dX12_leftOf_9 rfl ?_
  refine ao_imul (pc := 10) X dX12_leftOf_10 ?_
  refine ao_isub (pc := 11) X dX12_leftOf_11 ?_
  refine ao_iconst (pc := 12) X dX12_leftOf_12 ic_4 ?_
  refine ao_iload (pc := 13) X dX12_leftOf_13 rfl ?_
  refine ao_iconst (pc := 15) X dX12_leftOf_15 ic_2 ?_
  refine ao_irem (pc := 16) X dX12_leftOf_16 ?_
  refine ao_imul (pc := 17) X dX12_leftOf_17 ?_
  refine ao_isub (pc := 18) X dX12_leftOf_18 ?_
  refine ao_ltI (fun x1 => ?_)
  refine ao_istore (pc := 19) (lv' := [(5, .int x1), (0, .ref (eAd E 122)), (1, .int v1), (2, .int v2), (3, .int v3), (4, .int v4)]) X dX12_leftOf_19 (by decide) rfl ?_
  refine ao_aload_n (pc := 21) X dX12_leftOf_21 rfl ?_
  refine ao_getI (pc := 22) X dX12_leftOf_22 fl_RX12_209 sf_122_25 ?_
  refine ao_if_le (pc := 25) (tgt := 114) X dX12_leftOf_25 (by decide) (fun _ => ?_) (fun _ => ?_)
  · refine ao_sub [0] rfl ?_
    exact bX12_leftOf_122_114 hI hl0 X hr x1 μ
  · refine ao_aload_n (pc := 28) X dX12_leftOf_28 rfl ?_
    refine ao_getR (pc := 29) X dX12_leftOf_29 fl_RX12_59 sf_122_27 ?_
    refine ao_iconst (pc := 32) X dX12_leftOf_32 ic_0 ?_
    refine ao_aload_n (pc := 33) X dX12_leftOf_33 rfl ?_
    refine ao_getR (pc := 34) X dX12_leftOf_34 fl_RX12_13 sf_122_2 ?_
    refine ao_iload_n (pc := 37) X dX12_leftOf_37 rfl ?_
    refine ao_iald (pc := 38) X dX12_leftOf_38 sa_124 ?_
    refine ao_iast (pc := 39) X dX12_leftOf_39 sa_137 ?_
    refine ao_lt (fun m2 => ?_)
    refine ao_aload_n (pc := 40) X dX12_leftOf_40 rfl ?_
    refine ao_getR (pc := 41) X dX12_leftOf_41 fl_RX12_59 sf_122_27 ?_
    refine ao_iconst (pc := 44) X dX12_leftOf_44 ic_1 ?_
    refine ao_iload_n (pc := 45) X dX12_leftOf_45 rfl ?_
    refine ao_iast (pc := 46) X dX12_leftOf_46 sa_137 ?_
    refine ao_lt (fun m3 => ?_)
    refine ao_aload_n (pc := 47) X dX12_leftOf_47 rfl ?_
    refine ao_getR (pc := 48) X dX12_leftOf_48 fl_RX12_59 sf_122_27 ?_
    refine ao_iconst (pc := 51) X dX12_leftOf_51 ic_2 ?_
    refine ao_iload_n (pc := 52) X dX12_leftOf_52 rfl ?_
    refine ao_iast (pc := 53) X dX12_leftOf_53 sa_137 ?_
    refine ao_lt (fun m4 => ?_)
    refine ao_aload_n (pc := 54) X dX12_leftOf_54 rfl ?_
    refine ao_getR (pc := 55) X dX12_leftOf_55 fl_RX12_59 sf_122_27 ?_
    refine ao_iconst (pc := 58) X dX12_leftOf_58 ic_3 ?_
    refine ao_iload (pc := 59) X dX12_leftOf_59 rfl ?_
    refine ao_iconst (pc := 61) X dX12_leftOf_61 ic_2 ?_
    refine ao_irem (pc := 62) X dX12_leftOf_62 ?_
    refine ao_iast (pc := 63) X dX12_leftOf_63 sa_137 ?_
    refine ao_lt (fun m5 => ?_)
    refine ao_aload_n (pc := 64) X dX12_leftOf_64 rfl ?_
    refine ao_getR (pc := 65) X dX12_leftOf_65 fl_RX12_59 sf_122_27 ?_
    refine ao_iconst (pc := 68) X dX12_leftOf_68 ic_4 ?_
    refine ao_aload_n (pc := 69) X dX12_leftOf_69 rfl ?_
    refine ao_getR (pc := 70) X dX12_leftOf_70 fl_RX12_16 sf_122_3 ?_
    refine ao_iload_n (pc := 73) X dX12_leftOf_73 rfl ?_
    refine ao_iald (pc := 74) X dX12_leftOf_74 sa_125 ?_
    refine ao_iast (pc := 75) X dX12_leftOf_75 sa_137 ?_
    refine ao_lt (fun m6 => ?_)
    refine ao_aload_n (pc := 76) X dX12_leftOf_76 rfl ?_
    refine ao_getR (pc := 77) X dX12_leftOf_77 fl_RX12_59 sf_122_27 ?_
    refine ao_iconst (pc := 80) X dX12_leftOf_80 ic_5 ?_
    refine ao_iload_n (pc := 81) X dX12_leftOf_81 rfl ?_
    refine ao_iast (pc := 82) X dX12_leftOf_82 sa_137 ?_
    refine ao_lt (fun m7 => ?_)
    refine ao_aload_n (pc := 83) X dX12_leftOf_83 rfl ?_
    refine ao_aload_n (pc := 84) X dX12_leftOf_84 rfl ?_
    refine ao_getR (pc := 85) X dX12_leftOf_85 fl_RX12_56 sf_122_24 ?_
    refine ao_aload_n (pc := 88) X dX12_leftOf_88 rfl ?_
    refine ao_getI (pc := 89) X dX12_leftOf_89 fl_RX12_209 sf_122_25 ?_
    refine ao_bipush (pc := 92) X dX12_leftOf_92 bp_40 ?_
    refine ao_callVV (pc := 94) (As := [.ref (eAd E 136), .int (gI m7 122 25), .int (40 : Int32)]) (st := []) X hl0 dX12_leftOf_94 yv_X12_begin so_122 ml_RX12_126 (mX12_begin_122_136 hI (gI m7 122 25) (40 : Int32) m7) (Nat.le_of_ble_eq_true rfl) rfl rfl (Nat.le_of_ble_eq_true rfl) (fun r8 m9 => ?_)
    refine ao_aload_n (pc := 97) X dX12_leftOf_97 rfl ?_
    refine ao_iconst (pc := 98) X dX12_leftOf_98 ic_1 ?_
    refine ao_putZ (pc := 99) X dX12_leftOf_99 fp_RX12_205 sf_122_26 rfl rfl ?_
    refine ao_lt (fun m10 => ?_)
    refine ao_aload_n (pc := 102) X dX12_leftOf_102 rfl ?_
    refine ao_iconst (pc := 103) X dX12_leftOf_103 ic_0 ?_
    refine ao_callVI (pc := 104) (As := [.int (0 : Int32)]) (st := []) X hl0 dX12_leftOf_104 yv_X12_held so_122 ml_RX12_199 (mX12_held_122 hI (dBX12_thing_122 FR) (mX12_thing_122 hI FR) (0 : Int32) m10) (by decide) rfl rfl (Nat.le_of_ble_eq_true rfl) (fun r11 m12 => ?_)
    refine ao_istore (pc := 107) (lv' := [(5, .int r11), (0, .ref (eAd E 122)), (1, .int v1), (2, .int v2), (3, .int v3), (4, .int v4)]) X dX12_leftOf_107 (by decide) rfl ?_
    refine ao_aload_n (pc := 109) X dX12_leftOf_109 rfl ?_
    refine ao_iconst (pc := 110) X dX12_leftOf_110 ic_0 ?_
    refine ao_putZ (pc := 111) X dX12_leftOf_111 fp_RX12_205 sf_122_26 rfl rfl ?_
    refine ao_lt (fun m13 => ?_)
    refine ao_sub [0] rfl ?_
    exact bX12_leftOf_122_114 hI hl0 X hr r11 m13
def fX12_leftNow_122_123 (v2 : Int32) (μ : Mem) : Option (Int32 × Mem) :=
  gd (inb ((6 : Int32) + v2) 27) (gd (inb ((12 : Int32) + v2) 27) (gd (inb (26 : Int32) 27) (bnd (fX12_leftOf_122 v2 (gI μ 123 (ix ((6 : Int32) + v2))) (gI μ 123 (ix ((12 : Int32) + v2))) (gI μ 123 (ix (26 : Int32))) μ) fun r1 m2 =>
  some (r1, m2))))
set_option maxRecDepth 100000 in
set_option maxHeartbeats 4000000 in
theorem mX12_leftNow_122_123 {E : En} {l : Launch} (hI : Inj E) (v2 : Int32) (μ : Mem) : MtI E l yX12_leftNow cX12_leftNow 3 (some .int) 410 [.ref (eAd E 122), .ref (eAd E 123), .int v2] μ (fX12_leftNow_122_123 v2 μ) := by
  refine mtI_of (own := RX12) [(0, .ref (eAd E 122)), (1, .ref (eAd E 123)), (2, .int v2)] hI rfl (by decide) (Nat.le_of_ble_eq_true rfl) (Nat.le_of_ble_eq_true rfl) rfl (fun Z hl0 X hr => ?_)
  unfold fX12_leftNow_122_123
  refine ao_aload_n (pc := 0) X dX12_leftNow_0 rfl ?_
  refine ao_iload_n (pc := 1) X dX12_leftNow_1 rfl ?_
  refine ao_aload_n (pc := 2) X dX12_leftNow_2 rfl ?_
  refine ao_bipush (pc := 3) X dX12_leftNow_3 bp_6 ?_
  refine ao_iload_n (pc := 5) X dX12_leftNow_5 rfl ?_
  refine ao_iadd (pc := 6) X dX12_leftNow_6 ?_
  refine ao_iald (pc := 7) X dX12_leftNow_7 sa_123 ?_
  refine ao_aload_n (pc := 8) X dX12_leftNow_8 rfl ?_
  refine ao_bipush (pc := 9) X dX12_leftNow_9 bp_12 ?_
  refine ao_iload_n (pc := 11) X dX12_leftNow_11 rfl ?_
  refine ao_iadd (pc := 12) X dX12_leftNow_12 ?_
  refine ao_iald (pc := 13) X dX12_leftNow_13 sa_123 ?_
  refine ao_aload_n (pc := 14) X dX12_leftNow_14 rfl ?_
  refine ao_bipush (pc := 15) X dX12_leftNow_15 bp_26 ?_
  refine ao_iald (pc := 17) X dX12_leftNow_17 sa_123 ?_
  refine ao_callVI (pc := 18) (As := [.int v2, .int (gI μ 123 (ix ((6 : Int32) + v2))), .int (gI μ 123 (ix ((12 : Int32) + v2))), .int (gI μ 123 (ix (26 : Int32)))]) (st := []) X hl0 dX12_leftNow_18 yv_X12_leftOf so_122 ml_RX12_220 (mX12_leftOf_122 hI v2 (gI μ 123 (ix ((6 : Int32) + v2))) (gI μ 123 (ix ((12 : Int32) + v2))) (gI μ 123 (ix (26 : Int32))) μ) (Nat.le_of_ble_eq_true rfl) rfl rfl (Nat.le_of_ble_eq_true rfl) (fun r1 m2 => ?_)
  exact ao_iret (pc := 21) X hr dX12_leftNow_21
def fX12_lost_122 (μ : Mem) : Option (Int32 × Mem) :=
  lt (sI μ 122 17 (1 : Int32)) fun m1 =>
  some ((0 : Int32), m1)
set_option maxRecDepth 100000 in
set_option maxHeartbeats 4000000 in
theorem mX12_lost_122 {E : En} {l : Launch} (hI : Inj E) (μ : Mem) : MtI E l yX12_lost cX12_lost 1 (some .int) 1 [.ref (eAd E 122)] μ (fX12_lost_122 μ) := by
  refine mtI_of (own := RX12) [(0, .ref (eAd E 122))] hI rfl (by decide) (Nat.le_of_ble_eq_true rfl) (Nat.le_of_ble_eq_true rfl) rfl (fun Z hl0 X hr => ?_)
  unfold fX12_lost_122
  refine ao_aload_n (pc := 0) X dX12_lost_0 rfl ?_
  refine ao_iconst (pc := 1) X dX12_lost_1 ic_1 ?_
  refine ao_putI (pc := 2) X dX12_lost_2 fp_RX12_95 sf_122_17 ?_
  refine ao_lt (fun m1 => ?_)
  refine ao_iconst (pc := 5) X dX12_lost_5 ic_0 ?_
  exact ao_iret (pc := 6) X hr dX12_lost_6
def fX12_proofIn_122_123_b6 : Nat → Int32 → Int32 → Int32 → Int32 → Mem → Option (Int32 × Mem)
  | 0, _, _, _, _, _ => none
  | n + 1, p2, p3, p4, p5, μ =>
  if (gI μ 122 8) ≤ p5 then (some (p4, μ))
  else gd (inb p5 8) (if (gI μ 130 (ix p5)) = p2 then (gd (inb ((18 : Int32) + p5) 27) (gd (inb p5 8) (lt (p4 + (imax (0 : Int32) ((gI μ 123 (ix ((18 : Int32) + p5))) - (p3 * (gI μ 131 (ix p5)))))) fun x3 =>
      fX12_proofIn_122_123_b6 n p2 p3 x3 (p5 + (1 : Int32)) μ)))
    else lt (p4 + (0 : Int32)) fun x1 =>
      fX12_proofIn_122_123_b6 n p2 p3 x1 (p5 + (1 : Int32)) μ)
set_option maxRecDepth 100000 in
set_option maxHeartbeats 4000000 in
theorem bX12_proofIn_122_123_6 {E : En} {l : Launch} {Z : Zt} (hI : Inj E) (hl0 : lZ l Z) (X : Cx E Z cX12_proofIn RX12 6 1) (hr : rtOf Z = some .int) : ∀ (n : Nat) (p2 : Int32) (p3 : Int32) (p4 : Int32) (p5 : Int32) (μ : Mem), AO E Z 6 (QI E Z) 6 [(0, .ref (eAd E 122)), (1, .ref (eAd E 123)), (2, .int p2), (3, .int p3), (4, .int p4), (5, .int p5)] [] μ (fX12_proofIn_122_123_b6 n p2 p3 p4 p5 μ) := by
  intro n
  induction n with
  | zero =>
    intros
    exact ao_none
  | succ n ih =>
    intro p2 p3 p4 p5 μ
    rw [fX12_proofIn_122_123_b6]
    refine ao_iload (pc := 6) X dX12_proofIn_6 rfl ?_
    refine ao_aload_n (pc := 8) X dX12_proofIn_8 rfl ?_
    refine ao_getI (pc := 9) X dX12_proofIn_9 fl_RX12_181 sf_122_8 ?_
    refine ao_icmp_ge (pc := 12) (tgt := 62) X dX12_proofIn_12 (by decide) (fun _ => ?_) (fun _ => ?_)
    · refine ao_iload (pc := 62) X dX12_proofIn_62 rfl ?_
      exact ao_iret (pc := 64) X hr dX12_proofIn_64
    · refine ao_iload (pc := 15) X dX12_proofIn_15 rfl ?_
      refine ao_aload_n (pc := 17) X dX12_proofIn_17 rfl ?_
      refine ao_getR (pc := 18) X dX12_proofIn_18 fl_RX12_32 sf_122_9 ?_
      refine ao_iload (pc := 21) X dX12_proofIn_21 rfl ?_
      refine ao_iald (pc := 23) X dX12_proofIn_23 sa_130 ?_
      refine ao_iload_n (pc := 24) X dX12_proofIn_24 rfl ?_
      refine ao_icmp_ne (pc := 25) (tgt := 52) X dX12_proofIn_25 (by decide) (fun _ => ?_) (fun _ => ?_)
      · refine ao_iconst (pc := 52) X dX12_proofIn_52 ic_0 ?_
        refine ao_iadd (pc := 53) X dX12_proofIn_53 ?_
        refine ao_ltI (fun x1 => ?_)
        refine ao_istore (pc := 54) (lv' := [(4, .int x1), (0, .ref (eAd E 122)), (1, .ref (eAd E 123)), (2, .int p2), (3, .int p3), (5, .int p5)]) X dX12_proofIn_54 (by decide) rfl ?_
        refine ao_iinc (pc := 56) (k := 5) (v := p5 + (1 : Int32)) (lv' := [(5, .int (p5 + (1 : Int32))), (4, .int x1), (0, .ref (eAd E 122)), (1, .ref (eAd E 123)), (2, .int p2), (3, .int p3)]) X dX12_proofIn_56 rfl (ii_ic ic_1) (by decide) rfl ?_
        refine ao_goto (pc := 59) (tgt := 6) X dX12_proofIn_59 (by decide) ?_
        refine ao_sub [2, 3, 4, 5, 1, 0] rfl ?_
        exact ih p2 p3 x1 (p5 + (1 : Int32)) μ
      · refine ao_iconst (pc := 28) X dX12_proofIn_28 ic_0 ?_
        refine ao_aload_n (pc := 29) X dX12_proofIn_29 rfl ?_
        refine ao_bipush (pc := 30) X dX12_proofIn_30 bp_18 ?_
        refine ao_iload (pc := 32) X dX12_proofIn_32 rfl ?_
        refine ao_iadd (pc := 34) X dX12_proofIn_34 ?_
        refine ao_iald (pc := 35) X dX12_proofIn_35 sa_123 ?_
        refine ao_iload_n (pc := 36) X dX12_proofIn_36 rfl ?_
        refine ao_aload_n (pc := 37) X dX12_proofIn_37 rfl ?_
        refine ao_getR (pc := 38) X dX12_proofIn_38 fl_RX12_35 sf_122_10 ?_
        refine ao_iload (pc := 41) X dX12_proofIn_41 rfl ?_
        refine ao_iald (pc := 43) X dX12_proofIn_43 sa_131 ?_
        refine ao_imul (pc := 44) X dX12_proofIn_44 ?_
        refine ao_isub (pc := 45) X dX12_proofIn_45 ?_
        refine ao_max (pc := 46) X dX12_proofIn_46 ml_RX12_217 MaxW_ok (Nat.le_of_ble_eq_true rfl) ?_
        refine ao_goto (pc := 49) (tgt := 53) X dX12_proofIn_49 (by decide) ?_
        refine ao_iadd (pc := 53) X dX12_proofIn_53 ?_
        refine ao_ltI (fun x3 => ?_)
        refine ao_istore (pc := 54) (lv' := [(4, .int x3), (0, .ref (eAd E 122)), (1, .ref (eAd E 123)), (2, .int p2), (3, .int p3), (5, .int p5)]) X dX12_proofIn_54 (by decide) rfl ?_
        refine ao_iinc (pc := 56) (k := 5) (v := p5 + (1 : Int32)) (lv' := [(5, .int (p5 + (1 : Int32))), (4, .int x3), (0, .ref (eAd E 122)), (1, .ref (eAd E 123)), (2, .int p2), (3, .int p3)]) X dX12_proofIn_56 rfl (ii_ic ic_1) (by decide) rfl ?_
        refine ao_goto (pc := 59) (tgt := 6) X dX12_proofIn_59 (by decide) ?_
        refine ao_sub [2, 3, 4, 5, 1, 0] rfl ?_
        exact ih p2 p3 x3 (p5 + (1 : Int32)) μ
def fX12_proofIn_122_123 (v2 : Int32) (v3 : Int32) (μ : Mem) : Option (Int32 × Mem) :=
  fX12_proofIn_122_123_b6 FU v2 v3 (0 : Int32) (0 : Int32) μ
set_option maxRecDepth 100000 in
set_option maxHeartbeats 4000000 in
theorem mX12_proofIn_122_123 {E : En} {l : Launch} (hI : Inj E) (v2 : Int32) (v3 : Int32) (μ : Mem) : MtI E l yX12_proofIn cX12_proofIn 6 (some .int) 1 [.ref (eAd E 122), .ref (eAd E 123), .int v2, .int v3] μ (fX12_proofIn_122_123 v2 v3 μ) := by
  refine mtI_of (own := RX12) [(0, .ref (eAd E 122)), (1, .ref (eAd E 123)), (2, .int v2), (3, .int v3)] hI rfl (by decide) (Nat.le_of_ble_eq_true rfl) (Nat.le_of_ble_eq_true rfl) rfl (fun Z hl0 X hr => ?_)
  unfold fX12_proofIn_122_123
  refine ao_iconst (pc := 0) X dX12_proofIn_0 ic_0 ?_
  refine ao_istore (pc := 1) (lv' := [(4, .int (0 : Int32)), (0, .ref (eAd E 122)), (1, .ref (eAd E 123)), (2, .int v2), (3, .int v3)]) X dX12_proofIn_1 (by decide) rfl ?_
  refine ao_iconst (pc := 3) X dX12_proofIn_3 ic_0 ?_
  refine ao_istore (pc := 4) (lv' := [(5, .int (0 : Int32)), (4, .int (0 : Int32)), (0, .ref (eAd E 122)), (1, .ref (eAd E 123)), (2, .int v2), (3, .int v3)]) X dX12_proofIn_4 (by decide) rfl ?_
  refine ao_sub [2, 3, 4, 5, 1, 0] rfl ?_
  exact bX12_proofIn_122_123_6 hI hl0 X hr FU v2 v3 (0 : Int32) (0 : Int32) μ
def fX12_valuesOf_122_b4 : Nat → Int32 → Int32 → Int32 → Mem → Option (Int32 × Mem)
  | 0, _, _, _, _ => none
  | n + 1, p1, p2, p3, μ =>
  if (8 : Int32) ≤ p3 then (some (p2, μ))
  else bnd (fX12_has p1 p3 μ) fun r1 m2 =>
    if r1 = 0 then (lt (p2 + (0 : Int32)) fun x3 =>
      fX12_valuesOf_122_b4 n p1 x3 (p3 + (1 : Int32)) m2)
    else gd (inb p3 8) (lt (p2 + (gI m2 129 (ix p3))) fun x5 =>
      fX12_valuesOf_122_b4 n p1 x5 (p3 + (1 : Int32)) m2)
set_option maxRecDepth 100000 in
set_option maxHeartbeats 4000000 in
theorem bX12_valuesOf_122_4 {E : En} {l : Launch} {Z : Zt} (hI : Inj E) (hl0 : lZ l Z) (X : Cx E Z cX12_valuesOf RX12 4 2) (hr : rtOf Z = some .int) : ∀ (n : Nat) (p1 : Int32) (p2 : Int32) (p3 : Int32) (μ : Mem), AO E Z 4 (QI E Z) 4 [(0, .ref (eAd E 122)), (1, .int p1), (2, .int p2), (3, .int p3)] [] μ (fX12_valuesOf_122_b4 n p1 p2 p3 μ) := by
  intro n
  induction n with
  | zero =>
    intros
    exact ao_none
  | succ n ih =>
    intro p1 p2 p3 μ
    rw [fX12_valuesOf_122_b4]
    refine ao_iload_n (pc := 4) X dX12_valuesOf_4 rfl ?_
    refine ao_bipush (pc := 5) X dX12_valuesOf_5 bp_8 ?_
    refine ao_icmp_ge (pc := 7) (tgt := 37) X dX12_valuesOf_7 (by decide) (fun _ => ?_) (fun _ => ?_)
    · refine ao_iload_n (pc := 37) X dX12_valuesOf_37 rfl ?_
      exact ao_iret (pc := 38) X hr dX12_valuesOf_38
    · refine ao_iload_n (pc := 10) X dX12_valuesOf_10 rfl ?_
      refine ao_iload_n (pc := 11) X dX12_valuesOf_11 rfl ?_
      refine ao_iload_n (pc := 12) X dX12_valuesOf_12 rfl ?_
      refine ao_callSI (pc := 13) (As := [.int p1, .int p3]) (st := [.int p2]) X hl0 dX12_valuesOf_13 yv_X12_has ml_RX12_158 (mX12_has hI p1 p3 μ) (Nat.le_of_ble_eq_true rfl) rfl rfl (Nat.le_of_ble_eq_true rfl) (fun r1 m2 => ?_)
      refine ao_if_eq (pc := 16) (tgt := 28) X dX12_valuesOf_16 (by decide) (fun _ => ?_) (fun _ => ?_)
      · refine ao_iconst (pc := 28) X dX12_valuesOf_28 ic_0 ?_
        refine ao_iadd (pc := 29) X dX12_valuesOf_29 ?_
        refine ao_ltI (fun x3 => ?_)
        refine ao_istore_n (pc := 30) (lv' := [(2, .int x3), (0, .ref (eAd E 122)), (1, .int p1), (3, .int p3)]) X dX12_valuesOf_30 rfl (by decide) rfl ?_
        refine ao_iinc (pc := 31) (k := 3) (v := p3 + (1 : Int32)) (lv' := [(3, .int (p3 + (1 : Int32))), (2, .int x3), (0, .ref (eAd E 122)), (1, .int p1)]) X dX12_valuesOf_31 rfl (ii_ic ic_1) (by decide) rfl ?_
        refine ao_goto (pc := 34) (tgt := 4) X dX12_valuesOf_34 (by decide) ?_
        refine ao_sub [2, 3, 1, 0] rfl ?_
        exact ih p1 x3 (p3 + (1 : Int32)) m2
      · refine ao_aload_n (pc := 19) X dX12_valuesOf_19 rfl ?_
        refine ao_getR (pc := 20) X dX12_valuesOf_20 fl_RX12_29 sf_122_7 ?_
        refine ao_iload_n (pc := 23) X dX12_valuesOf_23 rfl ?_
        refine ao_iald (pc := 24) X dX12_valuesOf_24 sa_129 ?_
        refine ao_goto (pc := 25) (tgt := 29) X dX12_valuesOf_25 (by decide) ?_
        refine ao_iadd (pc := 29) X dX12_valuesOf_29 ?_
        refine ao_ltI (fun x5 => ?_)
        refine ao_istore_n (pc := 30) (lv' := [(2, .int x5), (0, .ref (eAd E 122)), (1, .int p1), (3, .int p3)]) X dX12_valuesOf_30 rfl (by decide) rfl ?_
        refine ao_iinc (pc := 31) (k := 3) (v := p3 + (1 : Int32)) (lv' := [(3, .int (p3 + (1 : Int32))), (2, .int x5), (0, .ref (eAd E 122)), (1, .int p1)]) X dX12_valuesOf_31 rfl (ii_ic ic_1) (by decide) rfl ?_
        refine ao_goto (pc := 34) (tgt := 4) X dX12_valuesOf_34 (by decide) ?_
        refine ao_sub [2, 3, 1, 0] rfl ?_
        exact ih p1 x5 (p3 + (1 : Int32)) m2
def fX12_valuesOf_122 (v1 : Int32) (μ : Mem) : Option (Int32 × Mem) :=
  fX12_valuesOf_122_b4 FU v1 (0 : Int32) (0 : Int32) μ
set_option maxRecDepth 100000 in
set_option maxHeartbeats 4000000 in
theorem mX12_valuesOf_122 {E : En} {l : Launch} (hI : Inj E) (v1 : Int32) (μ : Mem) : MtI E l yX12_valuesOf cX12_valuesOf 4 (some .int) 2 [.ref (eAd E 122), .int v1] μ (fX12_valuesOf_122 v1 μ) := by
  refine mtI_of (own := RX12) [(0, .ref (eAd E 122)), (1, .int v1)] hI rfl (by decide) (Nat.le_of_ble_eq_true rfl) (Nat.le_of_ble_eq_true rfl) rfl (fun Z hl0 X hr => ?_)
  unfold fX12_valuesOf_122
  refine ao_iconst (pc := 0) X dX12_valuesOf_0 ic_0 ?_
  refine ao_istore_n (pc := 1) (lv' := [(2, .int (0 : Int32)), (0, .ref (eAd E 122)), (1, .int v1)]) X dX12_valuesOf_1 rfl (by decide) rfl ?_
  refine ao_iconst (pc := 2) X dX12_valuesOf_2 ic_0 ?_
  refine ao_istore_n (pc := 3) (lv' := [(3, .int (0 : Int32)), (2, .int (0 : Int32)), (0, .ref (eAd E 122)), (1, .int v1)]) X dX12_valuesOf_3 rfl (by decide) rfl ?_
  refine ao_sub [2, 3, 1, 0] rfl ?_
  exact bX12_valuesOf_122_4 hI hl0 X hr FU v1 (0 : Int32) (0 : Int32) μ
def fX12_prisoner_122_b23 (μ : Mem) : Option (Int32 × Mem) :=
  bnd (fX12_lost_122 μ) fun r22 m23 =>
  some (r22, m23)
set_option maxRecDepth 100000 in
set_option maxHeartbeats 4000000 in
theorem bX12_prisoner_122_23 {E : En} {l : Launch} {Z : Zt} (hI : Inj E) (hl0 : lZ l Z) (X : Cx E Z cX12_prisoner RX12 3 411) (hr : rtOf Z = some .int) (μ : Mem) : AO E Z 3 (QI E Z) 23 [(0, .ref (eAd E 122))] [] μ (fX12_prisoner_122_b23 μ) := by
  unfold fX12_prisoner_122_b23
  refine ao_aload_n (pc := 23) X dX12_prisoner_23 rfl ?_
  refine ao_callVI (pc := 24) (As := []) (st := []) X hl0 dX12_prisoner_24 yv_X12_lost so_122 ml_RX12_228 (mX12_lost_122 hI μ) (Nat.le_of_ble_eq_true rfl) rfl rfl (Nat.le_of_ble_eq_true rfl) (fun r22 m23 => ?_)
  exact ao_iret (pc := 27) X hr dX12_prisoner_27
def fX12_prisoner_122 (v1 : Int32) (v2 : Int32) (μ : Mem) : Option (Int32 × Mem) :=
  lt (sI μ 122 17 (0 : Int32)) fun m1 =>
  bnd (fX12_isMan_122 v1 m1) fun r2 m3 =>
  if r2 = 0 then (fX12_prisoner_122_b23 m3)
  else bnd (fX12_in v2 (0 : Int32) (10 : Int32) m3) fun r4 m5 =>
    if r4 = 0 then (fX12_prisoner_122_b23 m5)
    else if v2 = (0 : Int32) then (gd (inb v1 6) (some ((gI m5 124 (ix v1)), m5)))
      else if v2 = (1 : Int32) then (gd (inb v1 6) (some ((gI m5 125 (ix v1)), m5)))
      else if v2 = (2 : Int32) then (gd (inb v1 6) (if (gI m5 126 (ix v1)) = 0 then (some ((0 : Int32), m5))
        else some ((1 : Int32), m5)))
      else if v2 = (3 : Int32) then (gd (inb v1 6) (some ((gI m5 127 (ix v1)), m5)))
      else if v2 = (4 : Int32) then (gd (inb v1 6) (some ((gI m5 128 (ix v1)), m5)))
      else if v2 = (5 : Int32) then (gd (inb v1 27) (some ((gI m5 123 (ix v1)), m5)))
      else if v2 = (6 : Int32) then (gd (inb ((6 : Int32) + v1) 27) (some ((gI m5 123 (ix ((6 : Int32) + v1))), m5)))
      else if v2 = (7 : Int32) then (gd (inb ((12 : Int32) + v1) 27) (some ((gI m5 123 (ix ((12 : Int32) + v1))), m5)))
      else if v2 = (8 : Int32) then (bnd (fX12_leftNow_122_123 v1 m5) fun r15 m16 =>
        some (r15, m16))
      else if v2 = (9 : Int32) then (bnd (fX12_proofIn_122_123 v1 (0 : Int32) m5) fun r18 m19 =>
        some (r18, m19))
      else gd (inb v1 6) (bnd (fX12_valuesOf_122 (gI m5 128 (ix v1)) m5) fun r20 m21 =>
      some (r20, m21))
set_option maxRecDepth 100000 in
set_option maxHeartbeats 4000000 in
theorem mX12_prisoner_122 {E : En} {l : Launch} (hI : Inj E) (v1 : Int32) (v2 : Int32) (μ : Mem) : MtI E l yX12_prisoner cX12_prisoner 3 (some .int) 411 [.ref (eAd E 122), .int v1, .int v2] μ (fX12_prisoner_122 v1 v2 μ) := by
  refine mtI_of (own := RX12) [(0, .ref (eAd E 122)), (1, .int v1), (2, .int v2)] hI rfl (by decide) (Nat.le_of_ble_eq_true rfl) (Nat.le_of_ble_eq_true rfl) rfl (fun Z hl0 X hr => ?_)
  unfold fX12_prisoner_122
  refine ao_aload_n (pc := 0) X dX12_prisoner_0 rfl ?_
  refine ao_iconst (pc := 1) X dX12_prisoner_1 ic_0 ?_
  refine ao_putI (pc := 2) X dX12_prisoner_2 fp_RX12_95 sf_122_17 ?_
  refine ao_lt (fun m1 => ?_)
  refine ao_aload_n (pc := 5) X dX12_prisoner_5 rfl ?_
  refine ao_iload_n (pc := 6) X dX12_prisoner_6 rfl ?_
  refine ao_callVI (pc := 7) (As := [.int v1]) (st := []) X hl0 dX12_prisoner_7 yv_X12_isMan so_122 ml_RX12_224 (mX12_isMan_122 hI v1 m1) (Nat.le_of_ble_eq_true rfl) rfl rfl (Nat.le_of_ble_eq_true rfl) (fun r2 m3 => ?_)
  refine ao_if_eq (pc := 10) (tgt := 23) X dX12_prisoner_10 (by decide) (fun _ => ?_) (fun _ => ?_)
  · refine ao_sub [0] rfl ?_
    exact bX12_prisoner_122_23 hI hl0 X hr m3
  · refine ao_iload_n (pc := 13) X dX12_prisoner_13 rfl ?_
    refine ao_iconst (pc := 14) X dX12_prisoner_14 ic_0 ?_
    refine ao_bipush (pc := 15) X dX12_prisoner_15 bp_10 ?_
    refine ao_callSI (pc := 17) (As := [.int v2, .int (0 : Int32), .int (10 : Int32)]) (st := []) X hl0 dX12_prisoner_17 yv_X12_in ml_RX12_104 (mX12_in hI v2 (0 : Int32) (10 : Int32) m3) (Nat.le_of_ble_eq_true rfl) rfl rfl (Nat.le_of_ble_eq_true rfl) (fun r4 m5 => ?_)
    refine ao_if_ne (pc := 20) (tgt := 28) X dX12_prisoner_20 (by decide) (fun _ => ?_) (fun _ => ?_)
    · refine ao_iload_n (pc := 28) X dX12_prisoner_28 rfl ?_
      refine ao_ite (cd := v2 = (0 : Int32)) (fun c => ao_tabIn (pc := 29) (k := (0 : Int32)) (tgt := 84) X dX12_prisoner_29 c (by decide) (by decide) rfl (by decide) ?_) (fun n6 => ?_)
      · refine ao_aload_n (pc := 84) X dX12_prisoner_84 rfl ?_
        refine ao_getR (pc := 85) X dX12_prisoner_85 fl_RX12_13 sf_122_2 ?_
        refine ao_iload_n (pc := 88) X dX12_prisoner_88 rfl ?_
        refine ao_iald (pc := 89) X dX12_prisoner_89 sa_124 ?_
        exact ao_iret (pc := 90) X hr dX12_prisoner_90
      refine ao_ite (cd := v2 = (1 : Int32)) (fun c => ao_tabIn (pc := 29) (k := (1 : Int32)) (tgt := 91) X dX12_prisoner_29 c (by decide) (by decide) rfl (by decide) ?_) (fun n7 => ?_)
      · refine ao_aload_n (pc := 91) X dX12_prisoner_91 rfl ?_
        refine ao_getR (pc := 92) X dX12_prisoner_92 fl_RX12_16 sf_122_3 ?_
        refine ao_iload_n (pc := 95) X dX12_prisoner_95 rfl ?_
        refine ao_iald (pc := 96) X dX12_prisoner_96 sa_125 ?_
        exact ao_iret (pc := 97) X hr dX12_prisoner_97
      refine ao_ite (cd := v2 = (2 : Int32)) (fun c => ao_tabIn (pc := 29) (k := (2 : Int32)) (tgt := 98) X dX12_prisoner_29 c (by decide) (by decide) rfl (by decide) ?_) (fun n8 => ?_)
      · refine ao_aload_n (pc := 98) X dX12_prisoner_98 rfl ?_
        refine ao_getR (pc := 99) X dX12_prisoner_99 fl_RX12_19 sf_122_4 ?_
        refine ao_iload_n (pc := 102) X dX12_prisoner_102 rfl ?_
        refine ao_zald (pc := 103) X dX12_prisoner_103 sa_126 ?_
        refine ao_if_eq (pc := 104) (tgt := 111) X dX12_prisoner_104 (by decide) (fun _ => ?_) (fun _ => ?_)
        · refine ao_iconst (pc := 111) X dX12_prisoner_111 ic_0 ?_
          exact ao_iret (pc := 112) X hr dX12_prisoner_112
        · refine ao_iconst (pc := 107) X dX12_prisoner_107 ic_1 ?_
          refine ao_goto (pc := 108) (tgt := 112) X dX12_prisoner_108 (by decide) ?_
          exact ao_iret (pc := 112) X hr dX12_prisoner_112
      refine ao_ite (cd := v2 = (3 : Int32)) (fun c => ao_tabIn (pc := 29) (k := (3 : Int32)) (tgt := 113) X dX12_prisoner_29 c (by decide) (by decide) rfl (by decide) ?_) (fun n9 => ?_)
      · refine ao_aload_n (pc := 113) X dX12_prisoner_113 rfl ?_
        refine ao_getR (pc := 114) X dX12_prisoner_114 fl_RX12_23 sf_122_5 ?_
        refine ao_iload_n (pc := 117) X dX12_prisoner_117 rfl ?_
        refine ao_iald (pc := 118) X dX12_prisoner_118 sa_127 ?_
        exact ao_iret (pc := 119) X hr dX12_prisoner_119
      refine ao_ite (cd := v2 = (4 : Int32)) (fun c => ao_tabIn (pc := 29) (k := (4 : Int32)) (tgt := 120) X dX12_prisoner_29 c (by decide) (by decide) rfl (by decide) ?_) (fun n10 => ?_)
      · refine ao_aload_n (pc := 120) X dX12_prisoner_120 rfl ?_
        refine ao_getR (pc := 121) X dX12_prisoner_121 fl_RX12_26 sf_122_6 ?_
        refine ao_iload_n (pc := 124) X dX12_prisoner_124 rfl ?_
        refine ao_iald (pc := 125) X dX12_prisoner_125 sa_128 ?_
        exact ao_iret (pc := 126) X hr dX12_prisoner_126
      refine ao_ite (cd := v2 = (5 : Int32)) (fun c => ao_tabIn (pc := 29) (k := (5 : Int32)) (tgt := 127) X dX12_prisoner_29 c (by decide) (by decide) rfl (by decide) ?_) (fun n11 => ?_)
      · refine ao_aload_n (pc := 127) X dX12_prisoner_127 rfl ?_
        refine ao_getR (pc := 128) X dX12_prisoner_128 fl_RX12_9 sf_122_0 ?_
        refine ao_iload_n (pc := 131) X dX12_prisoner_131 rfl ?_
        refine ao_iald (pc := 132) X dX12_prisoner_132 sa_123 ?_
        exact ao_iret (pc := 133) X hr dX12_prisoner_133
      refine ao_ite (cd := v2 = (6 : Int32)) (fun c => ao_tabIn (pc := 29) (k := (6 : Int32)) (tgt := 134) X dX12_prisoner_29 c (by decide) (by decide) rfl (by decide) ?_) (fun n12 => ?_)
      · refine ao_aload_n (pc := 134) X dX12_prisoner_134 rfl ?_
        refine ao_getR (pc := 135) X dX12_prisoner_135 fl_RX12_9 sf_122_0 ?_
        refine ao_bipush (pc := 138) X dX12_prisoner_138 bp_6 ?_
        refine ao_iload_n (pc := 140) X dX12_prisoner_140 rfl ?_
        refine ao_iadd (pc := 141) X dX12_prisoner_141 ?_
        refine ao_iald (pc := 142) X dX12_prisoner_142 sa_123 ?_
        exact ao_iret (pc := 143) X hr dX12_prisoner_143
      refine ao_ite (cd := v2 = (7 : Int32)) (fun c => ao_tabIn (pc := 29) (k := (7 : Int32)) (tgt := 144) X dX12_prisoner_29 c (by decide) (by decide) rfl (by decide) ?_) (fun n13 => ?_)
      · refine ao_aload_n (pc := 144) X dX12_prisoner_144 rfl ?_
        refine ao_getR (pc := 145) X dX12_prisoner_145 fl_RX12_9 sf_122_0 ?_
        refine ao_bipush (pc := 148) X dX12_prisoner_148 bp_12 ?_
        refine ao_iload_n (pc := 150) X dX12_prisoner_150 rfl ?_
        refine ao_iadd (pc := 151) X dX12_prisoner_151 ?_
        refine ao_iald (pc := 152) X dX12_prisoner_152 sa_123 ?_
        exact ao_iret (pc := 153) X hr dX12_prisoner_153
      refine ao_ite (cd := v2 = (8 : Int32)) (fun c => ao_tabIn (pc := 29) (k := (8 : Int32)) (tgt := 154) X dX12_prisoner_29 c (by decide) (by decide) rfl (by decide) ?_) (fun n14 => ?_)
      · refine ao_aload_n (pc := 154) X dX12_prisoner_154 rfl ?_
        refine ao_aload_n (pc := 155) X dX12_prisoner_155 rfl ?_
        refine ao_getR (pc := 156) X dX12_prisoner_156 fl_RX12_9 sf_122_0 ?_
        refine ao_iload_n (pc := 159) X dX12_prisoner_159 rfl ?_
        refine ao_callVI (pc := 160) (As := [.ref (eAd E 123), .int v1]) (st := []) X hl0 dX12_prisoner_160 yv_X12_leftNow so_122 ml_RX12_231 (mX12_leftNow_122_123 hI v1 m5) (Nat.le_of_ble_eq_true rfl) rfl rfl (Nat.le_of_ble_eq_true rfl) (fun r15 m16 => ?_)
        exact ao_iret (pc := 163) X hr dX12_prisoner_163
      refine ao_ite (cd := v2 = (9 : Int32)) (fun c => ao_tabIn (pc := 29) (k := (9 : Int32)) (tgt := 164) X dX12_prisoner_29 c (by decide) (by decide) rfl (by decide) ?_) (fun n17 => ?_)
      · refine ao_aload_n (pc := 164) X dX12_prisoner_164 rfl ?_
        refine ao_aload_n (pc := 165) X dX12_prisoner_165 rfl ?_
        refine ao_getR (pc := 166) X dX12_prisoner_166 fl_RX12_9 sf_122_0 ?_
        refine ao_iload_n (pc := 169) X dX12_prisoner_169 rfl ?_
        refine ao_iconst (pc := 170) X dX12_prisoner_170 ic_0 ?_
        refine ao_callVI (pc := 171) (As := [.ref (eAd E 123), .int v1, .int (0 : Int32)]) (st := []) X hl0 dX12_prisoner_171 yv_X12_proofIn so_122 ml_RX12_235 (mX12_proofIn_122_123 hI v1 (0 : Int32) m5) (Nat.le_of_ble_eq_true rfl) rfl rfl (Nat.le_of_ble_eq_true rfl) (fun r18 m19 => ?_)
        exact ao_iret (pc := 174) X hr dX12_prisoner_174
      refine ao_tabOut (pc := 29) (tgt := 175) X dX12_prisoner_29 (by have := lv_neT (a := 0) n6 (by decide); have := lv_neT (a := 1) n7 (by decide); have := lv_neT (a := 2) n8 (by decide); have := lv_neT (a := 3) n9 (by decide); have := lv_neT (a := 4) n10 (by decide); have := lv_neT (a := 5) n11 (by decide); have := lv_neT (a := 6) n12 (by decide); have := lv_neT (a := 7) n13 (by decide); have := lv_neT (a := 8) n14 (by decide); have := lv_neT (a := 9) n17 (by decide); omega) (by decide) ?_
      refine ao_aload_n (pc := 175) X dX12_prisoner_175 rfl ?_
      refine ao_aload_n (pc := 176) X dX12_prisoner_176 rfl ?_
      refine ao_getR (pc := 177) X dX12_prisoner_177 fl_RX12_26 sf_122_6 ?_
      refine ao_iload_n (pc := 180) X dX12_prisoner_180 rfl ?_
      refine ao_iald (pc := 181) X dX12_prisoner_181 sa_128 ?_
      refine ao_callVI (pc := 182) (As := [.int (gI m5 128 (ix v1))]) (st := []) X hl0 dX12_prisoner_182 yv_X12_valuesOf so_122 ml_RX12_239 (mX12_valuesOf_122 hI (gI m5 128 (ix v1)) m5) (Nat.le_of_ble_eq_true rfl) rfl rfl (Nat.le_of_ble_eq_true rfl) (fun r20 m21 => ?_)
      exact ao_iret (pc := 185) X hr dX12_prisoner_185
    · refine ao_sub [0] rfl ?_
      exact bX12_prisoner_122_23 hI hl0 X hr m5
def fX12_thrown_122 (μ : Mem) : Option (Int32 × Mem) :=
  some ((gI μ 122 17), μ)
set_option maxRecDepth 100000 in
set_option maxHeartbeats 4000000 in
theorem mX12_thrown_122 {E : En} {l : Launch} (hI : Inj E) (μ : Mem) : MtI E l yX12_thrown cX12_thrown 1 (some .int) 1 [.ref (eAd E 122)] μ (fX12_thrown_122 μ) := by
  refine mtI_of (own := RX12) [(0, .ref (eAd E 122))] hI rfl (by decide) (Nat.le_of_ble_eq_true rfl) (Nat.le_of_ble_eq_true rfl) rfl (fun Z hl0 X hr => ?_)
  unfold fX12_thrown_122
  refine ao_aload_n (pc := 0) X dX12_thrown_0 rfl ?_
  refine ao_getI (pc := 1) X dX12_thrown_1 fl_RX12_95 sf_122_17 ?_
  exact ao_iret (pc := 4) X hr dX12_thrown_4
def fX12_witness_122_b28 (μ : Mem) : Option (Int32 × Mem) :=
  bnd (fX12_lost_122 μ) fun r6 m7 =>
  some (r6, m7)
set_option maxRecDepth 100000 in
set_option maxHeartbeats 4000000 in
theorem bX12_witness_122_28 {E : En} {l : Launch} {Z : Zt} (hI : Inj E) (hl0 : lZ l Z) (X : Cx E Z cX12_witness RX12 3 2) (hr : rtOf Z = some .int) (μ : Mem) : AO E Z 3 (QI E Z) 28 [(0, .ref (eAd E 122))] [] μ (fX12_witness_122_b28 μ) := by
  unfold fX12_witness_122_b28
  refine ao_aload_n (pc := 28) X dX12_witness_28 rfl ?_
  refine ao_callVI (pc := 29) (As := []) (st := []) X hl0 dX12_witness_29 yv_X12_lost so_122 ml_RX12_228 (mX12_lost_122 hI μ) (Nat.le_of_ble_eq_true rfl) rfl rfl (Nat.le_of_ble_eq_true rfl) (fun r6 m7 => ?_)
  exact ao_iret (pc := 32) X hr dX12_witness_32
def fX12_witness_122 (v1 : Int32) (v2 : Int32) (μ : Mem) : Option (Int32 × Mem) :=
  lt (sI μ 122 17 (0 : Int32)) fun m1 =>
  bnd (fX12_in v1 (0 : Int32) ((gI m1 122 8) - (1 : Int32)) m1) fun r2 m3 =>
  if r2 = 0 then (fX12_witness_122_b28 m3)
  else bnd (fX12_in v2 (0 : Int32) (2 : Int32) m3) fun r4 m5 =>
    if r4 = 0 then (fX12_witness_122_b28 m5)
    else if v2 = 0 then (gd (inb v1 8) (some ((gI m5 130 (ix v1)), m5)))
      else if v2 = (1 : Int32) then (gd (inb ((18 : Int32) + v1) 27) (some ((gI m5 123 (ix ((18 : Int32) + v1))), m5)))
        else gd (inb v1 8) (some ((gI m5 131 (ix v1)), m5))
set_option maxRecDepth 100000 in
set_option maxHeartbeats 4000000 in
theorem mX12_witness_122 {E : En} {l : Launch} (hI : Inj E) (v1 : Int32) (v2 : Int32) (μ : Mem) : MtI E l yX12_witness cX12_witness 3 (some .int) 2 [.ref (eAd E 122), .int v1, .int v2] μ (fX12_witness_122 v1 v2 μ) := by
  refine mtI_of (own := RX12) [(0, .ref (eAd E 122)), (1, .int v1), (2, .int v2)] hI rfl (by decide) (Nat.le_of_ble_eq_true rfl) (Nat.le_of_ble_eq_true rfl) rfl (fun Z hl0 X hr => ?_)
  unfold fX12_witness_122
  refine ao_aload_n (pc := 0) X dX12_witness_0 rfl ?_
  refine ao_iconst (pc := 1) X dX12_witness_1 ic_0 ?_
  refine ao_putI (pc := 2) X dX12_witness_2 fp_RX12_95 sf_122_17 ?_
  refine ao_lt (fun m1 => ?_)
  refine ao_iload_n (pc := 5) X dX12_witness_5 rfl ?_
  refine ao_iconst (pc := 6) X dX12_witness_6 ic_0 ?_
  refine ao_aload_n (pc := 7) X dX12_witness_7 rfl ?_
  refine ao_getI (pc := 8) X dX12_witness_8 fl_RX12_181 sf_122_8 ?_
  refine ao_iconst (pc := 11) X dX12_witness_11 ic_1 ?_
  refine ao_isub (pc := 12) X dX12_witness_12 ?_
  refine ao_callSI (pc := 13) (As := [.int v1, .int (0 : Int32), .int ((gI m1 122 8) - (1 : Int32))]) (st := []) X hl0 dX12_witness_13 yv_X12_in ml_RX12_104 (mX12_in hI v1 (0 : Int32) ((gI m1 122 8) - (1 : Int32)) m1) (Nat.le_of_ble_eq_true rfl) rfl rfl (Nat.le_of_ble_eq_true rfl) (fun r2 m3 => ?_)
  refine ao_if_eq (pc := 16) (tgt := 28) X dX12_witness_16 (by decide) (fun _ => ?_) (fun _ => ?_)
  · refine ao_sub [0] rfl ?_
    exact bX12_witness_122_28 hI hl0 X hr m3
  · refine ao_iload_n (pc := 19) X dX12_witness_19 rfl ?_
    refine ao_iconst (pc := 20) X dX12_witness_20 ic_0 ?_
    refine ao_iconst (pc := 21) X dX12_witness_21 ic_2 ?_
    refine ao_callSI (pc := 22) (As := [.int v2, .int (0 : Int32), .int (2 : Int32)]) (st := []) X hl0 dX12_witness_22 yv_X12_in ml_RX12_104 (mX12_in hI v2 (0 : Int32) (2 : Int32) m3) (Nat.le_of_ble_eq_true rfl) rfl rfl (Nat.le_of_ble_eq_true rfl) (fun r4 m5 => ?_)
    refine ao_if_ne (pc := 25) (tgt := 33) X dX12_witness_25 (by decide) (fun _ => ?_) (fun _ => ?_)
    · refine ao_iload_n (pc := 33) X dX12_witness_33 rfl ?_
      refine ao_if_ne (pc := 34) (tgt := 46) X dX12_witness_34 (by decide) (fun _ => ?_) (fun _ => ?_)
      · refine ao_iload_n (pc := 46) X dX12_witness_46 rfl ?_
        refine ao_iconst (pc := 47) X dX12_witness_47 ic_1 ?_
        refine ao_icmp_ne (pc := 48) (tgt := 63) X dX12_witness_48 (by decide) (fun _ => ?_) (fun _ => ?_)
        · refine ao_aload_n (pc := 63) X dX12_witness_63 rfl ?_
          refine ao_getR (pc := 64) X dX12_witness_64 fl_RX12_35 sf_122_10 ?_
          refine ao_iload_n (pc := 67) X dX12_witness_67 rfl ?_
          refine ao_iald (pc := 68) X dX12_witness_68 sa_131 ?_
          exact ao_iret (pc := 69) X hr dX12_witness_69
        · refine ao_aload_n (pc := 51) X dX12_witness_51 rfl ?_
          refine ao_getR (pc := 52) X dX12_witness_52 fl_RX12_9 sf_122_0 ?_
          refine ao_bipush (pc := 55) X dX12_witness_55 bp_18 ?_
          refine ao_iload_n (pc := 57) X dX12_witness_57 rfl ?_
          refine ao_iadd (pc := 58) X dX12_witness_58 ?_
          refine ao_iald (pc := 59) X dX12_witness_59 sa_123 ?_
          refine ao_goto (pc := 60) (tgt := 69) X dX12_witness_60 (by decide) ?_
          exact ao_iret (pc := 69) X hr dX12_witness_69
      · refine ao_aload_n (pc := 37) X dX12_witness_37 rfl ?_
        refine ao_getR (pc := 38) X dX12_witness_38 fl_RX12_32 sf_122_9 ?_
        refine ao_iload_n (pc := 41) X dX12_witness_41 rfl ?_
        refine ao_iald (pc := 42) X dX12_witness_42 sa_130 ?_
        refine ao_goto (pc := 43) (tgt := 69) X dX12_witness_43 (by decide) ?_
        exact ao_iret (pc := 69) X hr dX12_witness_69
    · refine ao_sub [0] rfl ?_
      exact bX12_witness_122_28 hI hl0 X hr m5
def fX11_ends_0 (v1 : Int32) (μ : Mem) : Option (Int32 × Mem) :=
  if v1 ≤ (gI μ 33 4) then (some ((-1 : Int32), μ))
  else if v1 ≤ (99 : Int32) then (lt (gI μ 0 14) fun x1 =>
      lt (sI μ 0 14 v1) fun m2 =>
      some (x1, m2))
    else some ((-1 : Int32), μ)
set_option maxRecDepth 100000 in
set_option maxHeartbeats 4000000 in
theorem mX11_ends_0 {E : En} {l : Launch} (hI : Inj E) (v1 : Int32) (μ : Mem) : MtI E l yX11_ends cX11_ends 3 (some .int) 1 [.ref (eAd E 0), .int v1] μ (fX11_ends_0 v1 μ) := by
  refine mtI_of (own := RX11) [(0, .ref (eAd E 0)), (1, .int v1)] hI rfl (by decide) (Nat.le_of_ble_eq_true rfl) (Nat.le_of_ble_eq_true rfl) rfl (fun Z hl0 X hr => ?_)
  unfold fX11_ends_0
  refine ao_iload_n (pc := 0) X dX11_ends_0 rfl ?_
  refine ao_aload_n (pc := 1) X dX11_ends_1 rfl ?_
  refine ao_getR (pc := 2) X dX11_ends_2 fl_RX11_65 sf_0_7 ?_
  refine ao_getI (pc := 5) X dX11_ends_5 fl_RX11_206 sf_33_4 ?_
  refine ao_icmp_le (pc := 8) (tgt := 17) X dX11_ends_8 (by decide) (fun _ => ?_) (fun _ => ?_)
  · refine ao_iconst (pc := 17) X dX11_ends_17 ic_m1 ?_
    exact ao_iret (pc := 18) X hr dX11_ends_18
  · refine ao_iload_n (pc := 11) X dX11_ends_11 rfl ?_
    refine ao_bipush (pc := 12) X dX11_ends_12 bp_99 ?_
    refine ao_icmp_le (pc := 14) (tgt := 19) X dX11_ends_14 (by decide) (fun _ => ?_) (fun _ => ?_)
    · refine ao_aload_n (pc := 19) X dX11_ends_19 rfl ?_
      refine ao_getI (pc := 20) X dX11_ends_20 fl_RX11_100 sf_0_14 ?_
      refine ao_ltI (fun x1 => ?_)
      refine ao_istore_n (pc := 23) (lv' := [(2, .int x1), (0, .ref (eAd E 0)), (1, .int v1)]) X dX11_ends_23 rfl (by decide) rfl ?_
      refine ao_aload_n (pc := 24) X dX11_ends_24 rfl ?_
      refine ao_iload_n (pc := 25) X dX11_ends_25 rfl ?_
      refine ao_putI (pc := 26) X dX11_ends_26 fp_RX11_100 sf_0_14 ?_
      refine ao_lt (fun m2 => ?_)
      refine ao_iload_n (pc := 29) X dX11_ends_29 rfl ?_
      exact ao_iret (pc := 30) X hr dX11_ends_30
    · refine ao_iconst (pc := 17) X dX11_ends_17 ic_m1 ?_
      exact ao_iret (pc := 18) X hr dX11_ends_18
def fX12_ends_122 (v1 : Int32) (μ : Mem) : Option (Int32 × Mem) :=
  lt (sI μ 122 17 (0 : Int32)) fun m1 =>
  gd (inb (26 : Int32) 27) (if v1 ≤ (gI m1 123 (ix (26 : Int32))) then (some ((-1 : Int32), m1))
  else if v1 ≤ (99 : Int32) then (lt (gI m1 122 12) fun x2 =>
      lt (sI m1 122 12 v1) fun m3 =>
      some (x2, m3))
    else some ((-1 : Int32), m1))
set_option maxRecDepth 100000 in
set_option maxHeartbeats 4000000 in
theorem mX12_ends_122 {E : En} {l : Launch} (hI : Inj E) (v1 : Int32) (μ : Mem) : MtI E l yX12_ends cX12_ends 3 (some .int) 1 [.ref (eAd E 122), .int v1] μ (fX12_ends_122 v1 μ) := by
  refine mtI_of (own := RX12) [(0, .ref (eAd E 122)), (1, .int v1)] hI rfl (by decide) (Nat.le_of_ble_eq_true rfl) (Nat.le_of_ble_eq_true rfl) rfl (fun Z hl0 X hr => ?_)
  unfold fX12_ends_122
  refine ao_aload_n (pc := 0) X dX12_ends_0 rfl ?_
  refine ao_iconst (pc := 1) X dX12_ends_1 ic_0 ?_
  refine ao_putI (pc := 2) X dX12_ends_2 fp_RX12_95 sf_122_17 ?_
  refine ao_lt (fun m1 => ?_)
  refine ao_iload_n (pc := 5) X dX12_ends_5 rfl ?_
  refine ao_aload_n (pc := 6) X dX12_ends_6 rfl ?_
  refine ao_getR (pc := 7) X dX12_ends_7 fl_RX12_9 sf_122_0 ?_
  refine ao_bipush (pc := 10) X dX12_ends_10 bp_26 ?_
  refine ao_iald (pc := 12) X dX12_ends_12 sa_123 ?_
  refine ao_icmp_le (pc := 13) (tgt := 22) X dX12_ends_13 (by decide) (fun _ => ?_) (fun _ => ?_)
  · refine ao_iconst (pc := 22) X dX12_ends_22 ic_m1 ?_
    exact ao_iret (pc := 23) X hr dX12_ends_23
  · refine ao_iload_n (pc := 16) X dX12_ends_16 rfl ?_
    refine ao_bipush (pc := 17) X dX12_ends_17 bp_99 ?_
    refine ao_icmp_le (pc := 19) (tgt := 24) X dX12_ends_19 (by decide) (fun _ => ?_) (fun _ => ?_)
    · refine ao_aload_n (pc := 24) X dX12_ends_24 rfl ?_
      refine ao_getI (pc := 25) X dX12_ends_25 fl_RX12_41 sf_122_12 ?_
      refine ao_ltI (fun x2 => ?_)
      refine ao_istore_n (pc := 28) (lv' := [(2, .int x2), (0, .ref (eAd E 122)), (1, .int v1)]) X dX12_ends_28 rfl (by decide) rfl ?_
      refine ao_aload_n (pc := 29) X dX12_ends_29 rfl ?_
      refine ao_iload_n (pc := 30) X dX12_ends_30 rfl ?_
      refine ao_putI (pc := 31) X dX12_ends_31 fp_RX12_41 sf_122_12 ?_
      refine ao_lt (fun m3 => ?_)
      refine ao_iload_n (pc := 34) X dX12_ends_34 rfl ?_
      exact ao_iret (pc := 35) X hr dX12_ends_35
    · refine ao_iconst (pc := 22) X dX12_ends_22 ic_m1 ?_
      exact ao_iret (pc := 23) X hr dX12_ends_23
def fX11_fearOnSheet_b20 (p2 : Int32) (μ : Mem) : Option (Int32 × Mem) :=
  some ((imax (0 : Int32) (imin (99 : Int32) p2)), μ)
set_option maxRecDepth 100000 in
set_option maxHeartbeats 4000000 in
theorem bX11_fearOnSheet_20 {E : En} {l : Launch} {Z : Zt} (hI : Inj E) (hl0 : lZ l Z) (X : Cx E Z cX11_fearOnSheet RX11 3 1) (hr : rtOf Z = some .int) (p2 : Int32) (μ : Mem) : AO E Z 3 (QI E Z) 20 [(2, .int p2)] [] μ (fX11_fearOnSheet_b20 p2 μ) := by
  unfold fX11_fearOnSheet_b20
  refine ao_iconst (pc := 20) X dX11_fearOnSheet_20 ic_0 ?_
  refine ao_bipush (pc := 21) X dX11_fearOnSheet_21 bp_99 ?_
  refine ao_iload_n (pc := 23) X dX11_fearOnSheet_23 rfl ?_
  refine ao_min (pc := 24) X dX11_fearOnSheet_24 ml_RX11_418 MinW_ok (Nat.le_of_ble_eq_true rfl) ?_
  refine ao_max (pc := 27) X dX11_fearOnSheet_27 ml_RX11_378 MaxW_ok (Nat.le_of_ble_eq_true rfl) ?_
  exact ao_iret (pc := 30) X hr dX11_fearOnSheet_30
def fX11_fearOnSheet (v0 : Int32) (v1 : Int32) (μ : Mem) : Option (Int32 × Mem) :=
  if v0 = 0 then (lt (Int8.toInt32 (Int32.toInt8 v1)) fun x2 =>
    fX11_fearOnSheet_b20 x2 μ)
  else if v0 = (1 : Int32) then (lt (Int16.toInt32 (Int32.toInt16 v1)) fun x1 =>
      fX11_fearOnSheet_b20 x1 μ)
    else fX11_fearOnSheet_b20 v1 μ
set_option maxRecDepth 100000 in
set_option maxHeartbeats 4000000 in
theorem mX11_fearOnSheet {E : En} {l : Launch} (hI : Inj E) (v0 : Int32) (v1 : Int32) (μ : Mem) : MtI E l yX11_fearOnSheet cX11_fearOnSheet 3 (some .int) 1 [.int v0, .int v1] μ (fX11_fearOnSheet v0 v1 μ) := by
  refine mtI_of (own := RX11) [(0, .int v0), (1, .int v1)] hI rfl (by decide) (Nat.le_of_ble_eq_true rfl) (Nat.le_of_ble_eq_true rfl) rfl (fun Z hl0 X hr => ?_)
  unfold fX11_fearOnSheet
  refine ao_iload_n (pc := 0) X dX11_fearOnSheet_0 rfl ?_
  refine ao_istore_n (pc := 1) (lv' := [(2, .int v1), (0, .int v0), (1, .int v1)]) X dX11_fearOnSheet_1 rfl (by decide) rfl ?_
  refine ao_iload_n (pc := 2) X dX11_fearOnSheet_2 rfl ?_
  refine ao_if_ne (pc := 3) (tgt := 12) X dX11_fearOnSheet_3 (by decide) (fun _ => ?_) (fun _ => ?_)
  · refine ao_iload_n (pc := 12) X dX11_fearOnSheet_12 rfl ?_
    refine ao_iconst (pc := 13) X dX11_fearOnSheet_13 ic_1 ?_
    refine ao_icmp_ne (pc := 14) (tgt := 20) X dX11_fearOnSheet_14 (by decide) (fun _ => ?_) (fun _ => ?_)
    · refine ao_sub [0] rfl ?_
      exact bX11_fearOnSheet_20 hI hl0 X hr v1 μ
    · refine ao_iload_n (pc := 17) X dX11_fearOnSheet_17 rfl ?_
      refine ao_i2s (pc := 18) X dX11_fearOnSheet_18 ?_
      refine ao_ltI (fun x1 => ?_)
      refine ao_istore_n (pc := 19) (lv' := [(2, .int x1), (0, .int v0), (1, .int v1)]) X dX11_fearOnSheet_19 rfl (by decide) rfl ?_
      refine ao_sub [0] rfl ?_
      exact bX11_fearOnSheet_20 hI hl0 X hr x1 μ
  · refine ao_iload_n (pc := 6) X dX11_fearOnSheet_6 rfl ?_
    refine ao_i2b (pc := 7) X dX11_fearOnSheet_7 ?_
    refine ao_ltI (fun x2 => ?_)
    refine ao_istore_n (pc := 8) (lv' := [(2, .int x2), (0, .int v0), (1, .int v1)]) X dX11_fearOnSheet_8 rfl (by decide) rfl ?_
    refine ao_goto (pc := 9) (tgt := 20) X dX11_fearOnSheet_9 (by decide) ?_
    refine ao_sub [0] rfl ?_
    exact bX11_fearOnSheet_20 hI hl0 X hr x2 μ
def fX11_sheet_0_b106 (k47 : Int32 → Int32 → Int32 → Int32 → Int32 → Int32 → Int32 → Mem → Option (Int32 × Mem)) (p1 : Int32) (p2 : Int32) (p3 : Int32) (p4 : Int32) (p5 : Int32) (p6 : Int32) (p7 : Int32) (q0 : Int32) (q1 : Int32) (μ : Mem) : Option (Int32 × Mem) :=
  gd (inb q1 6) (lt (sI μ 7 (ix q1) q0) fun m3 =>
  gd (inb p7 6) (lt (p6 + (gI m3 7 (ix p7))) fun x4 =>
  k47 p1 p2 p3 p4 p5 x4 (p7 + (1 : Int32)) m3))
set_option maxRecDepth 100000 in
set_option maxHeartbeats 4000000 in
theorem bX11_sheet_0_106 {E : En} {l : Launch} {Z : Zt} (hI : Inj E) (hl0 : lZ l Z) (X : Cx E Z cX11_sheet RX11 9 2) (hr : rtOf Z = some .int) {k47 : Int32 → Int32 → Int32 → Int32 → Int32 → Int32 → Int32 → Mem → Option (Int32 × Mem)} (hk47 : ∀ (p1 : Int32) (p2 : Int32) (p3 : Int32) (p4 : Int32) (p5 : Int32) (p6 : Int32) (p7 : Int32) (m : Mem), AO E Z 9 (QI E Z) 47 [(0, .ref (eAd E 0)), (1, .int p1), (2, .int p2), (3, .int p3), (4, .int p4), (5, .int p5), (6, .int p6), (7, .int p7)] [] m (k47 p1 p2 p3 p4 p5 p6 p7 m)) (p1 : Int32) (p2 : Int32) (p3 : Int32) (p4 : Int32) (p5 : Int32) (p6 : Int32) (p7 : Int32) (q0 : Int32) (q1 : Int32) (μ : Mem) : AO E Z 9 (QI E Z) 106 [(0, .ref (eAd E 0)), (1, .int p1), (2, .int p2), (3, .int p3), (4, .int p4), (5, .int p5), (6, .int p6), (7, .int p7)] [.int q0, .int q1, .ref (eAd E 7)] μ (fX11_sheet_0_b106 k47 p1 p2 p3 p4 p5 p6 p7 q0 q1 μ) := by
  unfold fX11_sheet_0_b106
  refine ao_iast (pc := 106) X dX11_sheet_106 sa_7 ?_
  refine ao_lt (fun m3 => ?_)
  refine ao_iload (pc := 107) X dX11_sheet_107 rfl ?_
  refine ao_aload_n (pc := 109) X dX11_sheet_109 rfl ?_
  refine ao_getR (pc := 110) X dX11_sheet_110 fl_RX11_26 sf_0_2 ?_
  refine ao_getR (pc := 113) X dX11_sheet_113 fl_RX11_160 sf_5_1 ?_
  refine ao_iload (pc := 116) X dX11_sheet_116 rfl ?_
  refine ao_iald (pc := 118) X dX11_sheet_118 sa_7 ?_
  refine ao_iadd (pc := 119) X dX11_sheet_119 ?_
  refine ao_ltI (fun x4 => ?_)
  refine ao_istore (pc := 120) (lv' := [(6, .int x4), (0, .ref (eAd E 0)), (1, .int p1), (2, .int p2), (3, .int p3), (4, .int p4), (5, .int p5), (7, .int p7)]) X dX11_sheet_120 (by decide) rfl ?_
  refine ao_iinc (pc := 122) (k := 7) (v := p7 + (1 : Int32)) (lv' := [(7, .int (p7 + (1 : Int32))), (6, .int x4), (0, .ref (eAd E 0)), (1, .int p1), (2, .int p2), (3, .int p3), (4, .int p4), (5, .int p5)]) X dX11_sheet_122 rfl (ii_ic ic_1) (by decide) rfl ?_
  refine ao_goto (pc := 125) (tgt := 47) X dX11_sheet_125 (by decide) ?_
  refine ao_sub [2, 3, 4, 5, 6, 7, 1, 0] rfl ?_
  exact hk47 p1 p2 p3 p4 p5 x4 (p7 + (1 : Int32)) m3
def fX11_sheet_0_b75 (k47 : Int32 → Int32 → Int32 → Int32 → Int32 → Int32 → Int32 → Mem → Option (Int32 × Mem)) (p1 : Int32) (p2 : Int32) (p3 : Int32) (p4 : Int32) (p5 : Int32) (p6 : Int32) (p7 : Int32) (q0 : Int32) (μ : Mem) : Option (Int32 × Mem) :=
  if q0 = 0 then (fX11_sheet_0_b106 k47 p1 p2 p3 p4 p5 p6 p7 (0 : Int32) p7 μ)
  else bnd (fX11_fearOnSheet p1 (p3 + (p7 * p4)) μ) fun r1 m2 =>
    fX11_sheet_0_b106 k47 p1 p2 p3 p4 p5 p6 p7 r1 p7 m2
set_option maxRecDepth 100000 in
set_option maxHeartbeats 4000000 in
theorem bX11_sheet_0_75 {E : En} {l : Launch} {Z : Zt} (hI : Inj E) (hl0 : lZ l Z) (X : Cx E Z cX11_sheet RX11 9 2) (hr : rtOf Z = some .int) {k47 : Int32 → Int32 → Int32 → Int32 → Int32 → Int32 → Int32 → Mem → Option (Int32 × Mem)} (hk47 : ∀ (p1 : Int32) (p2 : Int32) (p3 : Int32) (p4 : Int32) (p5 : Int32) (p6 : Int32) (p7 : Int32) (m : Mem), AO E Z 9 (QI E Z) 47 [(0, .ref (eAd E 0)), (1, .int p1), (2, .int p2), (3, .int p3), (4, .int p4), (5, .int p5), (6, .int p6), (7, .int p7)] [] m (k47 p1 p2 p3 p4 p5 p6 p7 m)) (p1 : Int32) (p2 : Int32) (p3 : Int32) (p4 : Int32) (p5 : Int32) (p6 : Int32) (p7 : Int32) (q0 : Int32) (μ : Mem) : AO E Z 9 (QI E Z) 75 [(0, .ref (eAd E 0)), (1, .int p1), (2, .int p2), (3, .int p3), (4, .int p4), (5, .int p5), (6, .int p6), (7, .int p7)] [.int q0] μ (fX11_sheet_0_b75 k47 p1 p2 p3 p4 p5 p6 p7 q0 μ) := by
  unfold fX11_sheet_0_b75
  refine ao_istore (pc := 75) (lv' := [(8, .int q0), (0, .ref (eAd E 0)), (1, .int p1), (2, .int p2), (3, .int p3), (4, .int p4), (5, .int p5), (6, .int p6), (7, .int p7)]) X dX11_sheet_75 (by decide) rfl ?_
  refine ao_aload_n (pc := 77) X dX11_sheet_77 rfl ?_
  refine ao_getR (pc := 78) X dX11_sheet_78 fl_RX11_26 sf_0_2 ?_
  refine ao_getR (pc := 81) X dX11_sheet_81 fl_RX11_160 sf_5_1 ?_
  refine ao_iload (pc := 84) X dX11_sheet_84 rfl ?_
  refine ao_iload (pc := 86) X dX11_sheet_86 rfl ?_
  refine ao_if_eq (pc := 88) (tgt := 105) X dX11_sheet_88 (by decide) (fun _ => ?_) (fun _ => ?_)
  · refine ao_iconst (pc := 105) X dX11_sheet_105 ic_0 ?_
    refine ao_sub [1, 2, 3, 4, 5, 6, 7, 8] rfl ?_
    exact bX11_sheet_0_106 hI hl0 X hr hk47 p1 p2 p3 p4 p5 p6 p7 (0 : Int32) p7 μ
  · refine ao_iload_n (pc := 91) X dX11_sheet_91 rfl ?_
    refine ao_iload_n (pc := 92) X dX11_sheet_92 rfl ?_
    refine ao_iload (pc := 93) X dX11_sheet_93 rfl ?_
    refine ao_iload (pc := 95) X dX11_sheet_95 rfl ?_
    refine ao_imul (pc := 97) X dX11_sheet_97 ?_
    refine ao_iadd (pc := 98) X dX11_sheet_98 ?_
    refine ao_callSI (pc := 99) (As := [.int p1, .int (p3 + (p7 * p4))]) (st := [.int p7, .ref (eAd E 7)]) X hl0 dX11_sheet_99 yv_X11_fearOnSheet ml_RX11_209 (mX11_fearOnSheet hI p1 (p3 + (p7 * p4)) μ) (Nat.le_of_ble_eq_true rfl) rfl rfl (Nat.le_of_ble_eq_true rfl) (fun r1 m2 => ?_)
    refine ao_goto (pc := 102) (tgt := 106) X dX11_sheet_102 (by decide) ?_
    refine ao_sub [1, 2, 3, 4, 5, 6, 7, 8] rfl ?_
    exact bX11_sheet_0_106 hI hl0 X hr hk47 p1 p2 p3 p4 p5 p6 p7 r1 p7 m2
def fX11_sheet_0_b74 (k47 : Int32 → Int32 → Int32 → Int32 → Int32 → Int32 → Int32 → Mem → Option (Int32 × Mem)) (p1 : Int32) (p2 : Int32) (p3 : Int32) (p4 : Int32) (p5 : Int32) (p6 : Int32) (p7 : Int32) (μ : Mem) : Option (Int32 × Mem) :=
  fX11_sheet_0_b75 k47 p1 p2 p3 p4 p5 p6 p7 (0 : Int32) μ
set_option maxRecDepth 100000 in
set_option maxHeartbeats 4000000 in
theorem bX11_sheet_0_74 {E : En} {l : Launch} {Z : Zt} (hI : Inj E) (hl0 : lZ l Z) (X : Cx E Z cX11_sheet RX11 9 2) (hr : rtOf Z = some .int) {k47 : Int32 → Int32 → Int32 → Int32 → Int32 → Int32 → Int32 → Mem → Option (Int32 × Mem)} (hk47 : ∀ (p1 : Int32) (p2 : Int32) (p3 : Int32) (p4 : Int32) (p5 : Int32) (p6 : Int32) (p7 : Int32) (m : Mem), AO E Z 9 (QI E Z) 47 [(0, .ref (eAd E 0)), (1, .int p1), (2, .int p2), (3, .int p3), (4, .int p4), (5, .int p5), (6, .int p6), (7, .int p7)] [] m (k47 p1 p2 p3 p4 p5 p6 p7 m)) (p1 : Int32) (p2 : Int32) (p3 : Int32) (p4 : Int32) (p5 : Int32) (p6 : Int32) (p7 : Int32) (μ : Mem) : AO E Z 9 (QI E Z) 74 [(0, .ref (eAd E 0)), (1, .int p1), (2, .int p2), (3, .int p3), (4, .int p4), (5, .int p5), (6, .int p6), (7, .int p7)] [] μ (fX11_sheet_0_b74 k47 p1 p2 p3 p4 p5 p6 p7 μ) := by
  unfold fX11_sheet_0_b74
  refine ao_iconst (pc := 74) X dX11_sheet_74 ic_0 ?_
  refine ao_sub [0, 1, 2, 3, 4, 5, 6, 7] rfl ?_
  exact bX11_sheet_0_75 hI hl0 X hr hk47 p1 p2 p3 p4 p5 p6 p7 (0 : Int32) μ
def fX11_sheet_0_b47 : Nat → Int32 → Int32 → Int32 → Int32 → Int32 → Int32 → Int32 → Mem → Option (Int32 × Mem)
  | 0, _, _, _, _, _, _, _, _ => none
  | n + 1, p1, p2, p3, p4, p5, p6, p7, μ =>
  if (gI μ 5 5) ≤ p7 then (if p5 = 0 then (some (p6, μ))
    else some ((-3 : Int32), μ))
  else if p5 = 0 then (if p2 ≤ p7 then (fX11_sheet_0_b74 (fun p1 p2 p3 p4 p5 p6 p7 m => fX11_sheet_0_b47 n p1 p2 p3 p4 p5 p6 p7 m) p1 p2 p3 p4 p5 p6 p7 μ)
      else fX11_sheet_0_b75 (fun p1 p2 p3 p4 p5 p6 p7 m => fX11_sheet_0_b47 n p1 p2 p3 p4 p5 p6 p7 m) p1 p2 p3 p4 p5 p6 p7 (1 : Int32) μ)
    else fX11_sheet_0_b74 (fun p1 p2 p3 p4 p5 p6 p7 m => fX11_sheet_0_b47 n p1 p2 p3 p4 p5 p6 p7 m) p1 p2 p3 p4 p5 p6 p7 μ
set_option maxRecDepth 100000 in
set_option maxHeartbeats 4000000 in
theorem bX11_sheet_0_47 {E : En} {l : Launch} {Z : Zt} (hI : Inj E) (hl0 : lZ l Z) (X : Cx E Z cX11_sheet RX11 9 2) (hr : rtOf Z = some .int) : ∀ (n : Nat) (p1 : Int32) (p2 : Int32) (p3 : Int32) (p4 : Int32) (p5 : Int32) (p6 : Int32) (p7 : Int32) (μ : Mem), AO E Z 9 (QI E Z) 47 [(0, .ref (eAd E 0)), (1, .int p1), (2, .int p2), (3, .int p3), (4, .int p4), (5, .int p5), (6, .int p6), (7, .int p7)] [] μ (fX11_sheet_0_b47 n p1 p2 p3 p4 p5 p6 p7 μ) := by
  intro n
  induction n with
  | zero =>
    intros
    exact ao_none
  | succ n ih =>
    intro p1 p2 p3 p4 p5 p6 p7 μ
    rw [fX11_sheet_0_b47]
    refine ao_iload (pc := 47) X dX11_sheet_47 rfl ?_
    refine ao_aload_n (pc := 49) X dX11_sheet_49 rfl ?_
    refine ao_getR (pc := 50) X dX11_sheet_50 fl_RX11_26 sf_0_2 ?_
    refine ao_getI (pc := 53) X dX11_sheet_53 fl_RX11_119 sf_5_5 ?_
    refine ao_icmp_ge (pc := 56) (tgt := 128) X dX11_sheet_56 (by decide) (fun _ => ?_) (fun _ => ?_)
    · refine ao_iload (pc := 128) X dX11_sheet_128 rfl ?_
      refine ao_if_eq (pc := 130) (tgt := 138) X dX11_sheet_130 (by decide) (fun _ => ?_) (fun _ => ?_)
      · refine ao_iload (pc := 138) X dX11_sheet_138 rfl ?_
        exact ao_iret (pc := 140) X hr dX11_sheet_140
      · refine ao_bipush (pc := 133) X dX11_sheet_133 bp_m3 ?_
        refine ao_goto (pc := 135) (tgt := 140) X dX11_sheet_135 (by decide) ?_
        exact ao_iret (pc := 140) X hr dX11_sheet_140
    · refine ao_iload (pc := 59) X dX11_sheet_59 rfl ?_
      refine ao_if_ne (pc := 61) (tgt := 74) X dX11_sheet_61 (by decide) (fun _ => ?_) (fun _ => ?_)
      · refine ao_sub [0, 1, 2, 3, 4, 5, 6, 7] rfl ?_
        exact bX11_sheet_0_74 hI hl0 X hr ih p1 p2 p3 p4 p5 p6 p7 μ
      · refine ao_iload (pc := 64) X dX11_sheet_64 rfl ?_
        refine ao_iload_n (pc := 66) X dX11_sheet_66 rfl ?_
        refine ao_icmp_ge (pc := 67) (tgt := 74) X dX11_sheet_67 (by decide) (fun _ => ?_) (fun _ => ?_)
        · refine ao_sub [0, 1, 2, 3, 4, 5, 6, 7] rfl ?_
          exact bX11_sheet_0_74 hI hl0 X hr ih p1 p2 p3 p4 p5 p6 p7 μ
        · refine ao_iconst (pc := 70) X dX11_sheet_70 ic_1 ?_
          refine ao_goto (pc := 71) (tgt := 75) X dX11_sheet_71 (by decide) ?_
          refine ao_sub [0, 1, 2, 3, 4, 5, 6, 7] rfl ?_
          exact bX11_sheet_0_75 hI hl0 X hr ih p1 p2 p3 p4 p5 p6 p7 (1 : Int32) μ
def fX11_sheet_0_b27 (p1 : Int32) (p2 : Int32) (p3 : Int32) (p4 : Int32) (q0 : Int32) (μ : Mem) : Option (Int32 × Mem) :=
  if q0 = 0 then (if 0 ≤ p2 then (fX11_sheet_0_b47 FU p1 p2 p3 p4 q0 (0 : Int32) (0 : Int32) μ)
    else some ((-2 : Int32), μ))
  else fX11_sheet_0_b47 FU p1 p2 p3 p4 q0 (0 : Int32) (0 : Int32) μ
set_option maxRecDepth 100000 in
set_option maxHeartbeats 4000000 in
theorem bX11_sheet_0_27 {E : En} {l : Launch} {Z : Zt} (hI : Inj E) (hl0 : lZ l Z) (X : Cx E Z cX11_sheet RX11 9 2) (hr : rtOf Z = some .int) (p1 : Int32) (p2 : Int32) (p3 : Int32) (p4 : Int32) (q0 : Int32) (μ : Mem) : AO E Z 9 (QI E Z) 27 [(0, .ref (eAd E 0)), (1, .int p1), (2, .int p2), (3, .int p3), (4, .int p4)] [.int q0] μ (fX11_sheet_0_b27 p1 p2 p3 p4 q0 μ) := by
  unfold fX11_sheet_0_b27
  refine ao_istore (pc := 27) (lv' := [(5, .int q0), (0, .ref (eAd E 0)), (1, .int p1), (2, .int p2), (3, .int p3), (4, .int p4)]) X dX11_sheet_27 (by decide) rfl ?_
  refine ao_iload (pc := 29) X dX11_sheet_29 rfl ?_
  refine ao_if_ne (pc := 31) (tgt := 41) X dX11_sheet_31 (by decide) (fun _ => ?_) (fun _ => ?_)
  · refine ao_iconst (pc := 41) X dX11_sheet_41 ic_0 ?_
    refine ao_istore (pc := 42) (lv' := [(6, .int (0 : Int32)), (5, .int q0), (0, .ref (eAd E 0)), (1, .int p1), (2, .int p2), (3, .int p3), (4, .int p4)]) X dX11_sheet_42 (by decide) rfl ?_
    refine ao_iconst (pc := 44) X dX11_sheet_44 ic_0 ?_
    refine ao_istore (pc := 45) (lv' := [(7, .int (0 : Int32)), (6, .int (0 : Int32)), (5, .int q0), (0, .ref (eAd E 0)), (1, .int p1), (2, .int p2), (3, .int p3), (4, .int p4)]) X dX11_sheet_45 (by decide) rfl ?_
    refine ao_sub [3, 4, 5, 6, 7, 2, 1, 0] rfl ?_
    exact bX11_sheet_0_47 hI hl0 X hr FU p1 p2 p3 p4 q0 (0 : Int32) (0 : Int32) μ
  · refine ao_iload_n (pc := 34) X dX11_sheet_34 rfl ?_
    refine ao_if_ge (pc := 35) (tgt := 41) X dX11_sheet_35 (by decide) (fun _ => ?_) (fun _ => ?_)
    · refine ao_iconst (pc := 41) X dX11_sheet_41 ic_0 ?_
      refine ao_istore (pc := 42) (lv' := [(6, .int (0 : Int32)), (5, .int q0), (0, .ref (eAd E 0)), (1, .int p1), (2, .int p2), (3, .int p3), (4, .int p4)]) X dX11_sheet_42 (by decide) rfl ?_
      refine ao_iconst (pc := 44) X dX11_sheet_44 ic_0 ?_
      refine ao_istore (pc := 45) (lv' := [(7, .int (0 : Int32)), (6, .int (0 : Int32)), (5, .int q0), (0, .ref (eAd E 0)), (1, .int p1), (2, .int p2), (3, .int p3), (4, .int p4)]) X dX11_sheet_45 (by decide) rfl ?_
      refine ao_sub [3, 4, 5, 6, 7, 2, 1, 0] rfl ?_
      exact bX11_sheet_0_47 hI hl0 X hr FU p1 p2 p3 p4 q0 (0 : Int32) (0 : Int32) μ
    · refine ao_bipush (pc := 38) X dX11_sheet_38 bp_m2 ?_
      exact ao_iret (pc := 40) X hr dX11_sheet_40
def fX11_sheet_0 (v1 : Int32) (v2 : Int32) (v3 : Int32) (v4 : Int32) (μ : Mem) : Option (Int32 × Mem) :=
  if v1 < 0 then (some ((-1 : Int32), μ))
  else if (3 : Int32) < v1 then (some ((-1 : Int32), μ))
    else if v2 ≤ (6 : Int32) then (if v1 = (3 : Int32) then (fX11_sheet_0_b27 v1 v2 v3 v4 (1 : Int32) μ)
        else fX11_sheet_0_b27 v1 v2 v3 v4 (0 : Int32) μ)
      else some ((-1 : Int32), μ)
set_option maxRecDepth 100000 in
set_option maxHeartbeats 4000000 in
theorem mX11_sheet_0 {E : En} {l : Launch} (hI : Inj E) (v1 : Int32) (v2 : Int32) (v3 : Int32) (v4 : Int32) (μ : Mem) : MtI E l yX11_sheet cX11_sheet 9 (some .int) 2 [.ref (eAd E 0), .int v1, .int v2, .int v3, .int v4] μ (fX11_sheet_0 v1 v2 v3 v4 μ) := by
  refine mtI_of (own := RX11) [(0, .ref (eAd E 0)), (1, .int v1), (2, .int v2), (3, .int v3), (4, .int v4)] hI rfl (by decide) (Nat.le_of_ble_eq_true rfl) (Nat.le_of_ble_eq_true rfl) rfl (fun Z hl0 X hr => ?_)
  unfold fX11_sheet_0
  refine ao_iload_n (pc := 0) X dX11_sheet_0 rfl ?_
  refine ao_if_lt (pc := 1) (tgt := 15) X dX11_sheet_1 (by decide) (fun _ => ?_) (fun _ => ?_)
  · refine ao_iconst (pc := 15) X dX11_sheet_15 ic_m1 ?_
    exact ao_iret (pc := 16) X hr dX11_sheet_16
  · refine ao_iload_n (pc := 4) X dX11_sheet_4 rfl ?_
    refine ao_iconst (pc := 5) X dX11_sheet_5 ic_3 ?_
    refine ao_icmp_gt (pc := 6) (tgt := 15) X dX11_sheet_6 (by decide) (fun _ => ?_) (fun _ => ?_)
    · refine ao_iconst (pc := 15) X dX11_sheet_15 ic_m1 ?_
      exact ao_iret (pc := 16) X hr dX11_sheet_16
    · refine ao_iload_n (pc := 9) X dX11_sheet_9 rfl ?_
      refine ao_bipush (pc := 10) X dX11_sheet_10 bp_6 ?_
      refine ao_icmp_le (pc := 12) (tgt := 17) X dX11_sheet_12 (by decide) (fun _ => ?_) (fun _ => ?_)
      · refine ao_iload_n (pc := 17) X dX11_sheet_17 rfl ?_
        refine ao_iconst (pc := 18) X dX11_sheet_18 ic_3 ?_
        refine ao_icmp_ne (pc := 19) (tgt := 26) X dX11_sheet_19 (by decide) (fun _ => ?_) (fun _ => ?_)
        · refine ao_iconst (pc := 26) X dX11_sheet_26 ic_0 ?_
          refine ao_sub [0, 1, 2, 3, 4] rfl ?_
          exact bX11_sheet_0_27 hI hl0 X hr v1 v2 v3 v4 (0 : Int32) μ
        · refine ao_iconst (pc := 22) X dX11_sheet_22 ic_1 ?_
          refine ao_goto (pc := 23) (tgt := 27) X dX11_sheet_23 (by decide) ?_
          refine ao_sub [0, 1, 2, 3, 4] rfl ?_
          exact bX11_sheet_0_27 hI hl0 X hr v1 v2 v3 v4 (1 : Int32) μ
      · refine ao_iconst (pc := 15) X dX11_sheet_15 ic_m1 ?_
        exact ao_iret (pc := 16) X hr dX11_sheet_16
def fX12_sheet_122_b109 (k43 : Int32 → Int32 → Int32 → Int32 → Int32 → Int32 → Mem → Option (Int32 × Mem)) (p1 : Int32) (p2 : Int32) (p4 : Int32) (p5 : Int32) (p6 : Int32) (p7 : Int32) (q0 : Int32) (q1 : Int32) (μ : Mem) : Option (Int32 × Mem) :=
  gd (inb q1 6) (lt (sI μ 125 (ix q1) q0) fun m4 =>
  gd (inb p7 6) (lt (p5 + (gI m4 125 (ix p7))) fun x5 =>
  lt (p6 + p4) fun x6 =>
  k43 p1 p2 p4 x5 x6 (p7 + (1 : Int32)) m4))
set_option maxRecDepth 100000 in
set_option maxHeartbeats 4000000 in
theorem bX12_sheet_122_109 {E : En} {l : Launch} {Z : Zt} (hI : Inj E) (hl0 : lZ l Z) (X : Cx E Z cX12_sheet RX12 9 2) (hr : rtOf Z = some .int) {k43 : Int32 → Int32 → Int32 → Int32 → Int32 → Int32 → Mem → Option (Int32 × Mem)} (hk43 : ∀ (p1 : Int32) (p2 : Int32) (p4 : Int32) (p5 : Int32) (p6 : Int32) (p7 : Int32) (m : Mem), AO E Z 9 (QI E Z) 43 [(0, .ref (eAd E 122)), (1, .int p1), (2, .int p2), (4, .int p4), (5, .int p5), (6, .int p6), (7, .int p7)] [] m (k43 p1 p2 p4 p5 p6 p7 m)) (p1 : Int32) (p2 : Int32) (p4 : Int32) (p5 : Int32) (p6 : Int32) (p7 : Int32) (q0 : Int32) (q1 : Int32) (μ : Mem) : AO E Z 9 (QI E Z) 109 [(0, .ref (eAd E 122)), (1, .int p1), (2, .int p2), (4, .int p4), (5, .int p5), (6, .int p6), (7, .int p7)] [.int q0, .int q1, .ref (eAd E 125)] μ (fX12_sheet_122_b109 k43 p1 p2 p4 p5 p6 p7 q0 q1 μ) := by
  unfold fX12_sheet_122_b109
  refine ao_iast (pc := 109) X dX12_sheet_109 sa_125 ?_
  refine ao_lt (fun m4 => ?_)
  refine ao_iload (pc := 110) X dX12_sheet_110 rfl ?_
  refine ao_aload_n (pc := 112) X dX12_sheet_112 rfl ?_
  refine ao_getR (pc := 113) X dX12_sheet_113 fl_RX12_16 sf_122_3 ?_
  refine ao_iload (pc := 116) X dX12_sheet_116 rfl ?_
  refine ao_iald (pc := 118) X dX12_sheet_118 sa_125 ?_
  refine ao_iadd (pc := 119) X dX12_sheet_119 ?_
  refine ao_ltI (fun x5 => ?_)
  refine ao_istore (pc := 120) (lv' := [(5, .int x5), (0, .ref (eAd E 122)), (1, .int p1), (2, .int p2), (4, .int p4), (6, .int p6), (7, .int p7)]) X dX12_sheet_120 (by decide) rfl ?_
  refine ao_iload (pc := 122) X dX12_sheet_122 rfl ?_
  refine ao_iload (pc := 124) X dX12_sheet_124 rfl ?_
  refine ao_iadd (pc := 126) X dX12_sheet_126 ?_
  refine ao_ltI (fun x6 => ?_)
  refine ao_istore (pc := 127) (lv' := [(6, .int x6), (5, .int x5), (0, .ref (eAd E 122)), (1, .int p1), (2, .int p2), (4, .int p4), (7, .int p7)]) X dX12_sheet_127 (by decide) rfl ?_
  refine ao_iinc (pc := 129) (k := 6) (v := p7 + (1 : Int32)) (lv' := [(7, .int (p7 + (1 : Int32))), (6, .int x6), (5, .int x5), (0, .ref (eAd E 122)), (1, .int p1), (2, .int p2), (4, .int p4)]) X dX12_sheet_129 rfl (ii_ic ic_1) (by decide) rfl ?_
  refine ao_goto (pc := 132) (tgt := 43) X dX12_sheet_132 (by decide) ?_
  refine ao_sub [3, 4, 5, 6, 2, 1, 0] rfl ?_
  exact hk43 p1 p2 p4 x5 x6 (p7 + (1 : Int32)) m4
def fX12_sheet_122_b75 (k43 : Int32 → Int32 → Int32 → Int32 → Int32 → Int32 → Mem → Option (Int32 × Mem)) (p1 : Int32) (p2 : Int32) (p4 : Int32) (p5 : Int32) (p6 : Int32) (p7 : Int32) (q0 : Int32) (μ : Mem) : Option (Int32 × Mem) :=
  if p1 = (3 : Int32) then (fX12_sheet_122_b109 k43 p1 p2 p4 p5 p6 p7 (0 : Int32) p7 μ)
  else if p7 < p2 then (fX12_sheet_122_b109 k43 p1 p2 p4 p5 p6 p7 (imax (0 : Int32) (imin (99 : Int32) q0)) p7 μ)
    else fX12_sheet_122_b109 k43 p1 p2 p4 p5 p6 p7 (0 : Int32) p7 μ
set_option maxRecDepth 100000 in
set_option maxHeartbeats 4000000 in
theorem bX12_sheet_122_75 {E : En} {l : Launch} {Z : Zt} (hI : Inj E) (hl0 : lZ l Z) (X : Cx E Z cX12_sheet RX12 9 2) (hr : rtOf Z = some .int) {k43 : Int32 → Int32 → Int32 → Int32 → Int32 → Int32 → Mem → Option (Int32 × Mem)} (hk43 : ∀ (p1 : Int32) (p2 : Int32) (p4 : Int32) (p5 : Int32) (p6 : Int32) (p7 : Int32) (m : Mem), AO E Z 9 (QI E Z) 43 [(0, .ref (eAd E 122)), (1, .int p1), (2, .int p2), (4, .int p4), (5, .int p5), (6, .int p6), (7, .int p7)] [] m (k43 p1 p2 p4 p5 p6 p7 m)) (p1 : Int32) (p2 : Int32) (p4 : Int32) (p5 : Int32) (p6 : Int32) (p7 : Int32) (q0 : Int32) (μ : Mem) : AO E Z 9 (QI E Z) 75 [(0, .ref (eAd E 122)), (1, .int p1), (2, .int p2), (4, .int p4), (5, .int p5), (6, .int p6), (7, .int p7)] [.int q0] μ (fX12_sheet_122_b75 k43 p1 p2 p4 p5 p6 p7 q0 μ) := by
  unfold fX12_sheet_122_b75
  refine ao_istore (pc := 75) (lv' := [(8, .int q0), (0, .ref (eAd E 122)), (1, .int p1), (2, .int p2), (4, .int p4), (5, .int p5), (6, .int p6), (7, .int p7)]) X dX12_sheet_75 (by decide) rfl ?_
  refine ao_aload_n (pc := 77) X dX12_sheet_77 rfl ?_
  refine ao_getR (pc := 78) X dX12_sheet_78 fl_RX12_16 sf_122_3 ?_
  refine ao_iload (pc := 81) X dX12_sheet_81 rfl ?_
  refine ao_iload_n (pc := 83) X dX12_sheet_83 rfl ?_
  refine ao_iconst (pc := 84) X dX12_sheet_84 ic_3 ?_
  refine ao_icmp_eq (pc := 85) (tgt := 94) X dX12_sheet_85 (by decide) (fun _ => ?_) (fun _ => ?_)
  · refine ao_iconst (pc := 94) X dX12_sheet_94 ic_0 ?_
    refine ao_goto (pc := 95) (tgt := 109) X dX12_sheet_95 (by decide) ?_
    refine ao_sub [1, 2, 3, 4, 5, 6, 7] rfl ?_
    exact bX12_sheet_122_109 hI hl0 X hr hk43 p1 p2 p4 p5 p6 p7 (0 : Int32) p7 μ
  · refine ao_iload (pc := 88) X dX12_sheet_88 rfl ?_
    refine ao_iload_n (pc := 90) X dX12_sheet_90 rfl ?_
    refine ao_icmp_lt (pc := 91) (tgt := 98) X dX12_sheet_91 (by decide) (fun _ => ?_) (fun _ => ?_)
    · refine ao_iconst (pc := 98) X dX12_sheet_98 ic_0 ?_
      refine ao_bipush (pc := 99) X dX12_sheet_99 bp_99 ?_
      refine ao_iload (pc := 101) X dX12_sheet_101 rfl ?_
      refine ao_min (pc := 103) X dX12_sheet_103 ml_RX12_212 MinW_ok (Nat.le_of_ble_eq_true rfl) ?_
      refine ao_max (pc := 106) X dX12_sheet_106 ml_RX12_217 MaxW_ok (Nat.le_of_ble_eq_true rfl) ?_
      refine ao_sub [1, 2, 3, 4, 5, 6, 7] rfl ?_
      exact bX12_sheet_122_109 hI hl0 X hr hk43 p1 p2 p4 p5 p6 p7 (imax (0 : Int32) (imin (99 : Int32) q0)) p7 μ
    · refine ao_iconst (pc := 94) X dX12_sheet_94 ic_0 ?_
      refine ao_goto (pc := 95) (tgt := 109) X dX12_sheet_95 (by decide) ?_
      refine ao_sub [1, 2, 3, 4, 5, 6, 7] rfl ?_
      exact bX12_sheet_122_109 hI hl0 X hr hk43 p1 p2 p4 p5 p6 p7 (0 : Int32) p7 μ
def fX12_sheet_122_b43 : Nat → Int32 → Int32 → Int32 → Int32 → Int32 → Int32 → Mem → Option (Int32 × Mem)
  | 0, _, _, _, _, _, _, _ => none
  | n + 1, p1, p2, p4, p5, p6, p7, μ =>
  if (gI μ 122 1) ≤ p7 then (if p1 = (3 : Int32) then (some ((-3 : Int32), μ))
    else some (p5, μ))
  else if p1 = 0 then (fX12_sheet_122_b75 (fun p1 p2 p4 p5 p6 p7 m => fX12_sheet_122_b43 n p1 p2 p4 p5 p6 p7 m) p1 p2 p4 p5 p6 p7 (Int8.toInt32 (Int32.toInt8 p6)) μ)
    else if p1 = (1 : Int32) then (fX12_sheet_122_b75 (fun p1 p2 p4 p5 p6 p7 m => fX12_sheet_122_b43 n p1 p2 p4 p5 p6 p7 m) p1 p2 p4 p5 p6 p7 (Int16.toInt32 (Int32.toInt16 p6)) μ)
      else fX12_sheet_122_b75 (fun p1 p2 p4 p5 p6 p7 m => fX12_sheet_122_b43 n p1 p2 p4 p5 p6 p7 m) p1 p2 p4 p5 p6 p7 p6 μ
set_option maxRecDepth 100000 in
set_option maxHeartbeats 4000000 in
theorem bX12_sheet_122_43 {E : En} {l : Launch} {Z : Zt} (hI : Inj E) (hl0 : lZ l Z) (X : Cx E Z cX12_sheet RX12 9 2) (hr : rtOf Z = some .int) : ∀ (n : Nat) (p1 : Int32) (p2 : Int32) (p4 : Int32) (p5 : Int32) (p6 : Int32) (p7 : Int32) (μ : Mem), AO E Z 9 (QI E Z) 43 [(0, .ref (eAd E 122)), (1, .int p1), (2, .int p2), (4, .int p4), (5, .int p5), (6, .int p6), (7, .int p7)] [] μ (fX12_sheet_122_b43 n p1 p2 p4 p5 p6 p7 μ) := by
  intro n
  induction n with
  | zero =>
    intros
    exact ao_none
  | succ n ih =>
    intro p1 p2 p4 p5 p6 p7 μ
    rw [fX12_sheet_122_b43]
    refine ao_iload (pc := 43) X dX12_sheet_43 rfl ?_
    refine ao_aload_n (pc := 45) X dX12_sheet_45 rfl ?_
    refine ao_getI (pc := 46) X dX12_sheet_46 fl_RX12_101 sf_122_1 ?_
    refine ao_icmp_ge (pc := 49) (tgt := 135) X dX12_sheet_49 (by decide) (fun _ => ?_) (fun _ => ?_)
    · refine ao_iload_n (pc := 135) X dX12_sheet_135 rfl ?_
      refine ao_iconst (pc := 136) X dX12_sheet_136 ic_3 ?_
      refine ao_icmp_ne (pc := 137) (tgt := 145) X dX12_sheet_137 (by decide) (fun _ => ?_) (fun _ => ?_)
      · refine ao_iload (pc := 145) X dX12_sheet_145 rfl ?_
        exact ao_iret (pc := 147) X hr dX12_sheet_147
      · refine ao_bipush (pc := 140) X dX12_sheet_140 bp_m3 ?_
        refine ao_goto (pc := 142) (tgt := 147) X dX12_sheet_142 (by decide) ?_
        exact ao_iret (pc := 147) X hr dX12_sheet_147
    · refine ao_iload_n (pc := 52) X dX12_sheet_52 rfl ?_
      refine ao_if_ne (pc := 53) (tgt := 62) X dX12_sheet_53 (by decide) (fun _ => ?_) (fun _ => ?_)
      · refine ao_iload_n (pc := 62) X dX12_sheet_62 rfl ?_
        refine ao_iconst (pc := 63) X dX12_sheet_63 ic_1 ?_
        refine ao_icmp_ne (pc := 64) (tgt := 73) X dX12_sheet_64 (by decide) (fun _ => ?_) (fun _ => ?_)
        · refine ao_iload (pc := 73) X dX12_sheet_73 rfl ?_
          refine ao_sub [0, 1, 2, 3, 4, 5, 6] rfl ?_
          exact bX12_sheet_122_75 hI hl0 X hr ih p1 p2 p4 p5 p6 p7 p6 μ
        · refine ao_iload (pc := 67) X dX12_sheet_67 rfl ?_
          refine ao_i2s (pc := 69) X dX12_sheet_69 ?_
          refine ao_goto (pc := 70) (tgt := 75) X dX12_sheet_70 (by decide) ?_
          refine ao_sub [0, 1, 2, 3, 4, 5, 6] rfl ?_
          exact bX12_sheet_122_75 hI hl0 X hr ih p1 p2 p4 p5 p6 p7 (Int16.toInt32 (Int32.toInt16 p6)) μ
      · refine ao_iload (pc := 56) X dX12_sheet_56 rfl ?_
        refine ao_i2b (pc := 58) X dX12_sheet_58 ?_
        refine ao_goto (pc := 59) (tgt := 75) X dX12_sheet_59 (by decide) ?_
        refine ao_sub [0, 1, 2, 3, 4, 5, 6] rfl ?_
        exact bX12_sheet_122_75 hI hl0 X hr ih p1 p2 p4 p5 p6 p7 (Int8.toInt32 (Int32.toInt8 p6)) μ
def fX12_sheet_122_b34 (p1 : Int32) (p2 : Int32) (p3 : Int32) (p4 : Int32) (μ : Mem) : Option (Int32 × Mem) :=
  fX12_sheet_122_b43 FU p1 p2 p4 (0 : Int32) p3 (0 : Int32) μ
set_option maxRecDepth 100000 in
set_option maxHeartbeats 4000000 in
theorem bX12_sheet_122_34 {E : En} {l : Launch} {Z : Zt} (hI : Inj E) (hl0 : lZ l Z) (X : Cx E Z cX12_sheet RX12 9 2) (hr : rtOf Z = some .int) (p1 : Int32) (p2 : Int32) (p3 : Int32) (p4 : Int32) (μ : Mem) : AO E Z 9 (QI E Z) 34 [(0, .ref (eAd E 122)), (1, .int p1), (2, .int p2), (3, .int p3), (4, .int p4)] [] μ (fX12_sheet_122_b34 p1 p2 p3 p4 μ) := by
  unfold fX12_sheet_122_b34
  refine ao_iconst (pc := 34) X dX12_sheet_34 ic_0 ?_
  refine ao_istore (pc := 35) (lv' := [(5, .int (0 : Int32)), (0, .ref (eAd E 122)), (1, .int p1), (2, .int p2), (3, .int p3), (4, .int p4)]) X dX12_sheet_35 (by decide) rfl ?_
  refine ao_iload_n (pc := 37) X dX12_sheet_37 rfl ?_
  refine ao_istore (pc := 38) (lv' := [(6, .int p3), (5, .int (0 : Int32)), (0, .ref (eAd E 122)), (1, .int p1), (2, .int p2), (3, .int p3), (4, .int p4)]) X dX12_sheet_38 (by decide) rfl ?_
  refine ao_iconst (pc := 40) X dX12_sheet_40 ic_0 ?_
  refine ao_istore (pc := 41) (lv' := [(7, .int (0 : Int32)), (6, .int p3), (5, .int (0 : Int32)), (0, .ref (eAd E 122)), (1, .int p1), (2, .int p2), (3, .int p3), (4, .int p4)]) X dX12_sheet_41 (by decide) rfl ?_
  refine ao_sub [3, 4, 5, 7, 2, 1, 0] rfl ?_
  exact bX12_sheet_122_43 hI hl0 X hr FU p1 p2 p4 (0 : Int32) p3 (0 : Int32) μ
def fX12_sheet_122 (v1 : Int32) (v2 : Int32) (v3 : Int32) (v4 : Int32) (μ : Mem) : Option (Int32 × Mem) :=
  lt (sI μ 122 17 (0 : Int32)) fun m1 =>
  bnd (fX12_in v1 (0 : Int32) (3 : Int32) m1) fun r2 m3 =>
  if r2 = 0 then (some ((-1 : Int32), m3))
  else if v2 ≤ (6 : Int32) then (if (3 : Int32) ≤ v1 then (fX12_sheet_122_b34 v1 v2 v3 v4 m3)
      else if 0 ≤ v2 then (fX12_sheet_122_b34 v1 v2 v3 v4 m3)
        else some ((-2 : Int32), m3))
    else some ((-1 : Int32), m3)
set_option maxRecDepth 100000 in
set_option maxHeartbeats 4000000 in
theorem mX12_sheet_122 {E : En} {l : Launch} (hI : Inj E) (v1 : Int32) (v2 : Int32) (v3 : Int32) (v4 : Int32) (μ : Mem) : MtI E l yX12_sheet cX12_sheet 9 (some .int) 2 [.ref (eAd E 122), .int v1, .int v2, .int v3, .int v4] μ (fX12_sheet_122 v1 v2 v3 v4 μ) := by
  refine mtI_of (own := RX12) [(0, .ref (eAd E 122)), (1, .int v1), (2, .int v2), (3, .int v3), (4, .int v4)] hI rfl (by decide) (Nat.le_of_ble_eq_true rfl) (Nat.le_of_ble_eq_true rfl) rfl (fun Z hl0 X hr => ?_)
  unfold fX12_sheet_122
  refine ao_aload_n (pc := 0) X dX12_sheet_0 rfl ?_
  refine ao_iconst (pc := 1) X dX12_sheet_1 ic_0 ?_
  refine ao_putI (pc := 2) X dX12_sheet_2 fp_RX12_95 sf_122_17 ?_
  refine ao_lt (fun m1 => ?_)
  refine ao_iload_n (pc := 5) X dX12_sheet_5 rfl ?_
  refine ao_iconst (pc := 6) X dX12_sheet_6 ic_0 ?_
  refine ao_iconst (pc := 7) X dX12_sheet_7 ic_3 ?_
  refine ao_callSI (pc := 8) (As := [.int v1, .int (0 : Int32), .int (3 : Int32)]) (st := []) X hl0 dX12_sheet_8 yv_X12_in ml_RX12_104 (mX12_in hI v1 (0 : Int32) (3 : Int32) m1) (Nat.le_of_ble_eq_true rfl) rfl rfl (Nat.le_of_ble_eq_true rfl) (fun r2 m3 => ?_)
  refine ao_if_eq (pc := 11) (tgt := 20) X dX12_sheet_11 (by decide) (fun _ => ?_) (fun _ => ?_)
  · refine ao_iconst (pc := 20) X dX12_sheet_20 ic_m1 ?_
    exact ao_iret (pc := 21) X hr dX12_sheet_21
  · refine ao_iload_n (pc := 14) X dX12_sheet_14 rfl ?_
    refine ao_bipush (pc := 15) X dX12_sheet_15 bp_6 ?_
    refine ao_icmp_le (pc := 17) (tgt := 22) X dX12_sheet_17 (by decide) (fun _ => ?_) (fun _ => ?_)
    · refine ao_iload_n (pc := 22) X dX12_sheet_22 rfl ?_
      refine ao_iconst (pc := 23) X dX12_sheet_23 ic_3 ?_
      refine ao_icmp_ge (pc := 24) (tgt := 34) X dX12_sheet_24 (by decide) (fun _ => ?_) (fun _ => ?_)
      · refine ao_sub [0, 1, 2, 3, 4] rfl ?_
        exact bX12_sheet_122_34 hI hl0 X hr v1 v2 v3 v4 m3
      · refine ao_iload_n (pc := 27) X dX12_sheet_27 rfl ?_
        refine ao_if_ge (pc := 28) (tgt := 34) X dX12_sheet_28 (by decide) (fun _ => ?_) (fun _ => ?_)
        · refine ao_sub [0, 1, 2, 3, 4] rfl ?_
          exact bX12_sheet_122_34 hI hl0 X hr v1 v2 v3 v4 m3
        · refine ao_bipush (pc := 31) X dX12_sheet_31 bp_m2 ?_
          exact ao_iret (pc := 33) X hr dX12_sheet_33
    · refine ao_iconst (pc := 20) X dX12_sheet_20 ic_m1 ?_
      exact ao_iret (pc := 21) X hr dX12_sheet_21
def fX6_seal_29 (μ : Mem) : Option (Unit × Mem) :=
  gd (!((13 : Int32) == 0)) (lt (sI μ 29 1 (((gI μ 29 1) + (1 : Int32)) - ((gI μ 29 1) + (1 : Int32)) / (13 : Int32) * (13 : Int32))) fun m1 =>
  lt (sI m1 29 2 (imin (12 : Int32) ((gI m1 29 2) + (1 : Int32)))) fun m2 =>
  some ((), m2))
set_option maxRecDepth 100000 in
set_option maxHeartbeats 4000000 in
theorem mX6_seal_29 {E : En} {l : Launch} (hI : Inj E) (μ : Mem) : MtV E l yX6_seal cX6_seal 1 (none) 1 [.ref (eAd E 29)] μ (fX6_seal_29 μ) := by
  refine mtV_of (own := RX6) [(0, .ref (eAd E 29))] hI rfl (by decide) (Nat.le_of_ble_eq_true rfl) (Nat.le_of_ble_eq_true rfl) rfl (fun Z hl0 X hr => ?_)
  unfold fX6_seal_29
  refine ao_aload_n (pc := 0) X dX6_seal_0 rfl ?_
  refine ao_aload_n (pc := 1) X dX6_seal_1 rfl ?_
  refine ao_getI (pc := 2) X dX6_seal_2 fl_RX6_15 sf_29_1 ?_
  refine ao_iconst (pc := 5) X dX6_seal_5 ic_1 ?_
  refine ao_iadd (pc := 6) X dX6_seal_6 ?_
  refine ao_bipush (pc := 7) X dX6_seal_7 bp_13 ?_
  refine ao_irem (pc := 9) X dX6_seal_9 ?_
  refine ao_putI (pc := 10) X dX6_seal_10 fp_RX6_15 sf_29_1 ?_
  refine ao_lt (fun m1 => ?_)
  refine ao_aload_n (pc := 13) X dX6_seal_13 rfl ?_
  refine ao_bipush (pc := 14) X dX6_seal_14 bp_12 ?_
  refine ao_aload_n (pc := 16) X dX6_seal_16 rfl ?_
  refine ao_getI (pc := 17) X dX6_seal_17 fl_RX6_19 sf_29_2 ?_
  refine ao_iconst (pc := 20) X dX6_seal_20 ic_1 ?_
  refine ao_iadd (pc := 21) X dX6_seal_21 ?_
  refine ao_min (pc := 22) X dX6_seal_22 ml_RX6_29 MinW_ok (Nat.le_of_ble_eq_true rfl) ?_
  refine ao_putI (pc := 25) X dX6_seal_25 fp_RX6_19 sf_29_2 ?_
  refine ao_lt (fun m2 => ?_)
  exact ao_vret (pc := 28) X hr dX6_seal_28
def fX11_doneBy_0 (v1 : Int32) (μ : Mem) : Option (Int32 × Mem) :=
  if v1 < 0 then (some (v1, μ))
  else bnd (fX6_seal_29 μ) fun r1 m2 =>
    some (v1, m2)
set_option maxRecDepth 100000 in
set_option maxHeartbeats 4000000 in
theorem mX11_doneBy_0 {E : En} {l : Launch} (hI : Inj E) (v1 : Int32) (μ : Mem) : MtI E l yX11_doneBy cX11_doneBy 2 (some .int) 2 [.ref (eAd E 0), .int v1] μ (fX11_doneBy_0 v1 μ) := by
  refine mtI_of (own := RX11) [(0, .ref (eAd E 0)), (1, .int v1)] hI rfl (by decide) (Nat.le_of_ble_eq_true rfl) (Nat.le_of_ble_eq_true rfl) rfl (fun Z hl0 X hr => ?_)
  unfold fX11_doneBy_0
  refine ao_iload_n (pc := 0) X dX11_doneBy_0 rfl ?_
  refine ao_if_lt (pc := 1) (tgt := 11) X dX11_doneBy_1 (by decide) (fun _ => ?_) (fun _ => ?_)
  · refine ao_iload_n (pc := 11) X dX11_doneBy_11 rfl ?_
    exact ao_iret (pc := 12) X hr dX11_doneBy_12
  · refine ao_aload_n (pc := 4) X dX11_doneBy_4 rfl ?_
    refine ao_getR (pc := 5) X dX11_doneBy_5 fl_RX11_75 sf_0_9 ?_
    refine ao_callVV (pc := 8) (As := []) (st := []) X hl0 dX11_doneBy_8 yv_X6_seal so_29 ml_RX11_235 (mX6_seal_29 hI μ) (Nat.le_of_ble_eq_true rfl) rfl rfl (Nat.le_of_ble_eq_true rfl) (fun r1 m2 => ?_)
    refine ao_iload_n (pc := 11) X dX11_doneBy_11 rfl ?_
    exact ao_iret (pc := 12) X hr dX11_doneBy_12
def fX4_has_33 (v1 : Int32) (μ : Mem) : Option (Int32 × Mem) :=
  if v1 < 0 then (some ((0 : Int32), μ))
  else if (gI μ 5 5) ≤ v1 then (some ((0 : Int32), μ))
    else some ((1 : Int32), μ)
set_option maxRecDepth 100000 in
set_option maxHeartbeats 4000000 in
theorem mX4_has_33 {E : En} {l : Launch} (hI : Inj E) (v1 : Int32) (μ : Mem) : MtI E l yX4_has cX4_has 2 (some .boolean) 1 [.ref (eAd E 33), .int v1] μ (fX4_has_33 v1 μ) := by
  refine mtI_of (own := RX4) [(0, .ref (eAd E 33)), (1, .int v1)] hI rfl (by decide) (Nat.le_of_ble_eq_true rfl) (Nat.le_of_ble_eq_true rfl) rfl (fun Z hl0 X hr => ?_)
  unfold fX4_has_33
  refine ao_iload_n (pc := 0) X dX4_has_0 rfl ?_
  refine ao_if_lt (pc := 1) (tgt := 19) X dX4_has_1 (by decide) (fun _ => ?_) (fun _ => ?_)
  · refine ao_iconst (pc := 19) X dX4_has_19 ic_0 ?_
    exact ao_zret (pc := 20) X hr rfl dX4_has_20
  · refine ao_iload_n (pc := 4) X dX4_has_4 rfl ?_
    refine ao_aload_n (pc := 5) X dX4_has_5 rfl ?_
    refine ao_getR (pc := 6) X dX4_has_6 fl_RX4_31 sf_33_6 ?_
    refine ao_getI (pc := 9) X dX4_has_9 fl_RX4_54 sf_5_5 ?_
    refine ao_icmp_ge (pc := 12) (tgt := 19) X dX4_has_12 (by decide) (fun _ => ?_) (fun _ => ?_)
    · refine ao_iconst (pc := 19) X dX4_has_19 ic_0 ?_
      exact ao_zret (pc := 20) X hr rfl dX4_has_20
    · refine ao_iconst (pc := 15) X dX4_has_15 ic_1 ?_
      refine ao_goto (pc := 16) (tgt := 20) X dX4_has_16 (by decide) ?_
      exact ao_zret (pc := 20) X hr rfl dX4_has_20
def fX4_isSilent_33 (v1 : Int32) (μ : Mem) : Option (Int32 × Mem) :=
  gd (inb v1 6) (if (gI μ 34 (ix v1)) = 0 then (some ((1 : Int32), μ))
  else some ((0 : Int32), μ))
set_option maxRecDepth 100000 in
set_option maxHeartbeats 4000000 in
theorem mX4_isSilent_33 {E : En} {l : Launch} (hI : Inj E) (v1 : Int32) (μ : Mem) : MtI E l yX4_isSilent cX4_isSilent 2 (some .boolean) 1 [.ref (eAd E 33), .int v1] μ (fX4_isSilent_33 v1 μ) := by
  refine mtI_of (own := RX4) [(0, .ref (eAd E 33)), (1, .int v1)] hI rfl (by decide) (Nat.le_of_ble_eq_true rfl) (Nat.le_of_ble_eq_true rfl) rfl (fun Z hl0 X hr => ?_)
  unfold fX4_isSilent_33
  refine ao_aload_n (pc := 0) X dX4_isSilent_0 rfl ?_
  refine ao_getR (pc := 1) X dX4_isSilent_1 fl_RX4_9 sf_33_0 ?_
  refine ao_iload_n (pc := 4) X dX4_isSilent_4 rfl ?_
  refine ao_iald (pc := 5) X dX4_isSilent_5 sa_34 ?_
  refine ao_if_ne (pc := 6) (tgt := 13) X dX4_isSilent_6 (by decide) (fun _ => ?_) (fun _ => ?_)
  · refine ao_iconst (pc := 13) X dX4_isSilent_13 ic_0 ?_
    exact ao_zret (pc := 14) X hr rfl dX4_isSilent_14
  · refine ao_iconst (pc := 9) X dX4_isSilent_9 ic_1 ?_
    refine ao_goto (pc := 10) (tgt := 14) X dX4_isSilent_10 (by decide) ?_
    exact ao_zret (pc := 14) X hr rfl dX4_isSilent_14
def fX4_layOn_33 (v1 : Int32) (v2 : Int32) (μ : Mem) : Option (Int32 × Mem) :=
  bnd (fX4_has_33 v1 μ) fun r1 m2 =>
  if r1 = 0 then (some ((-1 : Int32), m2))
  else if v2 = 0 then (some ((-1 : Int32), m2))
    else if v2 < (-50 : Int32) then (some ((-1 : Int32), m2))
      else if v2 ≤ (50 : Int32) then (bnd (fX4_isSilent_33 v1 m2) fun r3 m4 =>
          if r3 = 0 then (some ((-2 : Int32), m4))
          else gd (inb v1 6) (gd (inb v1 6) (lt (sI m4 35 (ix v1) (imax (0 : Int32) (imin (99 : Int32) ((gI m4 35 (ix v1)) + v2)))) fun m5 =>
            gd (inb v1 6) (some ((gI m5 35 (ix v1)), m5)))))
        else some ((-1 : Int32), m2)
set_option maxRecDepth 100000 in
set_option maxHeartbeats 4000000 in
theorem mX4_layOn_33 {E : En} {l : Launch} (hI : Inj E) (v1 : Int32) (v2 : Int32) (μ : Mem) : MtI E l yX4_layOn cX4_layOn 3 (some .int) 2 [.ref (eAd E 33), .int v1, .int v2] μ (fX4_layOn_33 v1 v2 μ) := by
  refine mtI_of (own := RX4) [(0, .ref (eAd E 33)), (1, .int v1), (2, .int v2)] hI rfl (by decide) (Nat.le_of_ble_eq_true rfl) (Nat.le_of_ble_eq_true rfl) rfl (fun Z hl0 X hr => ?_)
  unfold fX4_layOn_33
  refine ao_aload_n (pc := 0) X dX4_layOn_0 rfl ?_
  refine ao_iload_n (pc := 1) X dX4_layOn_1 rfl ?_
  refine ao_callVI (pc := 2) (As := [.int v1]) (st := []) X hl0 dX4_layOn_2 yv_X4_has so_33 ml_RX4_59 (mX4_has_33 hI v1 μ) (Nat.le_of_ble_eq_true rfl) rfl rfl (Nat.le_of_ble_eq_true rfl) (fun r1 m2 => ?_)
  refine ao_if_eq (pc := 5) (tgt := 24) X dX4_layOn_5 (by decide) (fun _ => ?_) (fun _ => ?_)
  · refine ao_iconst (pc := 24) X dX4_layOn_24 ic_m1 ?_
    exact ao_iret (pc := 25) X hr dX4_layOn_25
  · refine ao_iload_n (pc := 8) X dX4_layOn_8 rfl ?_
    refine ao_if_eq (pc := 9) (tgt := 24) X dX4_layOn_9 (by decide) (fun _ => ?_) (fun _ => ?_)
    · refine ao_iconst (pc := 24) X dX4_layOn_24 ic_m1 ?_
      exact ao_iret (pc := 25) X hr dX4_layOn_25
    · refine ao_iload_n (pc := 12) X dX4_layOn_12 rfl ?_
      refine ao_bipush (pc := 13) X dX4_layOn_13 bp_m50 ?_
      refine ao_icmp_lt (pc := 15) (tgt := 24) X dX4_layOn_15 (by decide) (fun _ => ?_) (fun _ => ?_)
      · refine ao_iconst (pc := 24) X dX4_layOn_24 ic_m1 ?_
        exact ao_iret (pc := 25) X hr dX4_layOn_25
      · refine ao_iload_n (pc := 18) X dX4_layOn_18 rfl ?_
        refine ao_bipush (pc := 19) X dX4_layOn_19 bp_50 ?_
        refine ao_icmp_le (pc := 21) (tgt := 26) X dX4_layOn_21 (by decide) (fun _ => ?_) (fun _ => ?_)
        · refine ao_aload_n (pc := 26) X dX4_layOn_26 rfl ?_
          refine ao_iload_n (pc := 27) X dX4_layOn_27 rfl ?_
          refine ao_callVI (pc := 28) (As := [.int v1]) (st := []) X hl0 dX4_layOn_28 yv_X4_isSilent so_33 ml_RX4_63 (mX4_isSilent_33 hI v1 m2) (Nat.le_of_ble_eq_true rfl) rfl rfl (Nat.le_of_ble_eq_true rfl) (fun r3 m4 => ?_)
          refine ao_if_ne (pc := 31) (tgt := 37) X dX4_layOn_31 (by decide) (fun _ => ?_) (fun _ => ?_)
          · refine ao_aload_n (pc := 37) X dX4_layOn_37 rfl ?_
            refine ao_getR (pc := 38) X dX4_layOn_38 fl_RX4_15 sf_33_1 ?_
            refine ao_iload_n (pc := 41) X dX4_layOn_41 rfl ?_
            refine ao_iconst (pc := 42) X dX4_layOn_42 ic_0 ?_
            refine ao_bipush (pc := 43) X dX4_layOn_43 bp_99 ?_
            refine ao_aload_n (pc := 45) X dX4_layOn_45 rfl ?_
            refine ao_getR (pc := 46) X dX4_layOn_46 fl_RX4_15 sf_33_1 ?_
            refine ao_iload_n (pc := 49) X dX4_layOn_49 rfl ?_
            refine ao_iald (pc := 50) X dX4_layOn_50 sa_35 ?_
            refine ao_iload_n (pc := 51) X dX4_layOn_51 rfl ?_
            refine ao_iadd (pc := 52) X dX4_layOn_52 ?_
            refine ao_min (pc := 53) X dX4_layOn_53 ml_RX4_66 MinW_ok (Nat.le_of_ble_eq_true rfl) ?_
            refine ao_max (pc := 56) X dX4_layOn_56 ml_RX4_72 MaxW_ok (Nat.le_of_ble_eq_true rfl) ?_
            refine ao_iast (pc := 59) X dX4_layOn_59 sa_35 ?_
            refine ao_lt (fun m5 => ?_)
            refine ao_aload_n (pc := 60) X dX4_layOn_60 rfl ?_
            refine ao_getR (pc := 61) X dX4_layOn_61 fl_RX4_15 sf_33_1 ?_
            refine ao_iload_n (pc := 64) X dX4_layOn_64 rfl ?_
            refine ao_iald (pc := 65) X dX4_layOn_65 sa_35 ?_
            exact ao_iret (pc := 66) X hr dX4_layOn_66
          · refine ao_bipush (pc := 34) X dX4_layOn_34 bp_m2 ?_
            exact ao_iret (pc := 36) X hr dX4_layOn_36
        · refine ao_iconst (pc := 24) X dX4_layOn_24 ic_m1 ?_
          exact ao_iret (pc := 25) X hr dX4_layOn_25
