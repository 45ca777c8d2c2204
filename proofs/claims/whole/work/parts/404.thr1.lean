def fX11_prisoner_0 (v1 : Int32) (v2 : Int32) (μ : Mem) : Option (Option Int32 × Mem) :=
  bnd (fX11_isThere_0 v1 μ) fun r1 m2 =>
  if r1 = 0 then (some (none, m2))
  else if v2 = (0 : Int32) then (gd (inb v1 6) (some (some (gI m2 6 (ix v1)), m2)))
    else if v2 = (1 : Int32) then (gd (inb v1 6) (some (some (gI m2 7 (ix v1)), m2)))
    else if v2 = (2 : Int32) then (gd (inb v1 6) (if (gI m2 8 (ix v1)) = 0 then (some (some (0 : Int32), m2))
      else some (some (1 : Int32), m2)))
    else if v2 = (3 : Int32) then (gd (inb v1 6) (some (some (gI m2 9 (ix v1)), m2)))
    else if v2 = (4 : Int32) then (gd (inb v1 6) (some (some (gI m2 10 (ix v1)), m2)))
    else if v2 = (5 : Int32) then (gd (inb v1 6) (some (some (gI m2 34 (ix v1)), m2)))
    else if v2 = (6 : Int32) then (gd (inb v1 6) (some (some (gI m2 35 (ix v1)), m2)))
    else if v2 = (7 : Int32) then (gd (inb v1 6) (some (some (gI m2 36 (ix v1)), m2)))
    else if v2 = (8 : Int32) then (bnd (fX4_leftNow_33 v1 m2) fun r12 m13 =>
      some (some r12, m13))
    else if v2 = (9 : Int32) then (bnd (fX4_proofIn_33 v1 (0 : Int32) m2) fun r15 m16 =>
      some (some r15, m16))
    else if v2 = (10 : Int32) then (gd (inb v1 6) (bnd (fX2_worthOf_24 (gI m2 10 (ix v1)) m2) fun r18 m19 =>
      some (some r18, m19)))
    else some (none, m2)
set_option maxRecDepth 100000 in
set_option maxHeartbeats 4000000 in
theorem mX11_prisoner_0 {E : En} {l : Launch} (hI : Inj E) (hst : l.stackTraces = false) (v1 : Int32) (v2 : Int32) (μ : Mem) : MtX E l yX11_prisoner cX11_prisoner 3 8 [.ref (eAd E 0), .int v1, .int v2] μ (fX11_prisoner_0 v1 v2 μ) := by
  refine mtX_of (own := RX11) [(0, .ref (eAd E 0)), (1, .int v1), (2, .int v2)] hI rfl (by decide) (Nat.le_of_ble_eq_true rfl) (Nat.le_of_ble_eq_true rfl) rfl (fun Z hl0 X htab hT hz hr => ?_)
  unfold fX11_prisoner_0
  refine ao_aload_n (pc := 0) X dX11_prisoner_0 rfl ?_
  refine ao_iload_n (pc := 1) X dX11_prisoner_1 rfl ?_
  refine ao_callVI (pc := 2) (As := [.int v1]) (st := []) X hl0 dX11_prisoner_2 yv_X11_isThere so_0 ml_RX11_147 (mX11_isThere_0 hI v1 μ) (Nat.le_of_ble_eq_true rfl) rfl rfl (Nat.le_of_ble_eq_true rfl) (fun r1 m2 => ?_)
  refine ao_if_ne (pc := 5) (tgt := 18) X dX11_prisoner_5 (by decide) (fun _ => ?_) (fun _ => ?_)
  · refine ao_iload_n (pc := 18) X dX11_prisoner_18 rfl ?_
    refine ao_ite (cd := v2 = (0 : Int32)) (fun c => ao_tabIn (pc := 19) (k := (0 : Int32)) (tgt := 76) X dX11_prisoner_19 c (by decide) (by decide) rfl (by decide) ?_) (fun n3 => ?_)
    · refine ao_aload_n (pc := 76) X dX11_prisoner_76 rfl ?_
      refine ao_getR (pc := 77) X dX11_prisoner_77 fl_RX11_26 sf_0_2 ?_
      refine ao_getR (pc := 80) X dX11_prisoner_80 fl_RX11_157 sf_5_0 ?_
      refine ao_iload_n (pc := 83) X dX11_prisoner_83 rfl ?_
      refine ao_iald (pc := 84) X dX11_prisoner_84 sa_6 ?_
      exact ao_xret (pc := 85) X hz hr dX11_prisoner_85
    refine ao_ite (cd := v2 = (1 : Int32)) (fun c => ao_tabIn (pc := 19) (k := (1 : Int32)) (tgt := 86) X dX11_prisoner_19 c (by decide) (by decide) rfl (by decide) ?_) (fun n4 => ?_)
    · refine ao_aload_n (pc := 86) X dX11_prisoner_86 rfl ?_
      refine ao_getR (pc := 87) X dX11_prisoner_87 fl_RX11_26 sf_0_2 ?_
      refine ao_getR (pc := 90) X dX11_prisoner_90 fl_RX11_160 sf_5_1 ?_
      refine ao_iload_n (pc := 93) X dX11_prisoner_93 rfl ?_
      refine ao_iald (pc := 94) X dX11_prisoner_94 sa_7 ?_
      exact ao_xret (pc := 95) X hz hr dX11_prisoner_95
    refine ao_ite (cd := v2 = (2 : Int32)) (fun c => ao_tabIn (pc := 19) (k := (2 : Int32)) (tgt := 96) X dX11_prisoner_19 c (by decide) (by decide) rfl (by decide) ?_) (fun n5 => ?_)
    · refine ao_aload_n (pc := 96) X dX11_prisoner_96 rfl ?_
      refine ao_getR (pc := 97) X dX11_prisoner_97 fl_RX11_26 sf_0_2 ?_
      refine ao_getR (pc := 100) X dX11_prisoner_100 fl_RX11_163 sf_5_2 ?_
      refine ao_iload_n (pc := 103) X dX11_prisoner_103 rfl ?_
      refine ao_zald (pc := 104) X dX11_prisoner_104 sa_8 ?_
      refine ao_if_eq (pc := 105) (tgt := 112) X dX11_prisoner_105 (by decide) (fun _ => ?_) (fun _ => ?_)
      · refine ao_iconst (pc := 112) X dX11_prisoner_112 ic_0 ?_
        exact ao_xret (pc := 113) X hz hr dX11_prisoner_113
      · refine ao_iconst (pc := 108) X dX11_prisoner_108 ic_1 ?_
        refine ao_goto (pc := 109) (tgt := 113) X dX11_prisoner_109 (by decide) ?_
        exact ao_xret (pc := 113) X hz hr dX11_prisoner_113
    refine ao_ite (cd := v2 = (3 : Int32)) (fun c => ao_tabIn (pc := 19) (k := (3 : Int32)) (tgt := 114) X dX11_prisoner_19 c (by decide) (by decide) rfl (by decide) ?_) (fun n6 => ?_)
    · refine ao_aload_n (pc := 114) X dX11_prisoner_114 rfl ?_
      refine ao_getR (pc := 115) X dX11_prisoner_115 fl_RX11_26 sf_0_2 ?_
      refine ao_getR (pc := 118) X dX11_prisoner_118 fl_RX11_166 sf_5_3 ?_
      refine ao_iload_n (pc := 121) X dX11_prisoner_121 rfl ?_
      refine ao_iald (pc := 122) X dX11_prisoner_122 sa_9 ?_
      exact ao_xret (pc := 123) X hz hr dX11_prisoner_123
    refine ao_ite (cd := v2 = (4 : Int32)) (fun c => ao_tabIn (pc := 19) (k := (4 : Int32)) (tgt := 124) X dX11_prisoner_19 c (by decide) (by decide) rfl (by decide) ?_) (fun n7 => ?_)
    · refine ao_aload_n (pc := 124) X dX11_prisoner_124 rfl ?_
      refine ao_getR (pc := 125) X dX11_prisoner_125 fl_RX11_26 sf_0_2 ?_
      refine ao_getR (pc := 128) X dX11_prisoner_128 fl_RX11_169 sf_5_4 ?_
      refine ao_iload_n (pc := 131) X dX11_prisoner_131 rfl ?_
      refine ao_iald (pc := 132) X dX11_prisoner_132 sa_10 ?_
      exact ao_xret (pc := 133) X hz hr dX11_prisoner_133
    refine ao_ite (cd := v2 = (5 : Int32)) (fun c => ao_tabIn (pc := 19) (k := (5 : Int32)) (tgt := 134) X dX11_prisoner_19 c (by decide) (by decide) rfl (by decide) ?_) (fun n8 => ?_)
    · refine ao_aload_n (pc := 134) X dX11_prisoner_134 rfl ?_
      refine ao_getR (pc := 135) X dX11_prisoner_135 fl_RX11_65 sf_0_7 ?_
      refine ao_getR (pc := 138) X dX11_prisoner_138 fl_RX11_172 sf_33_0 ?_
      refine ao_iload_n (pc := 141) X dX11_prisoner_141 rfl ?_
      refine ao_iald (pc := 142) X dX11_prisoner_142 sa_34 ?_
      exact ao_xret (pc := 143) X hz hr dX11_prisoner_143
    refine ao_ite (cd := v2 = (6 : Int32)) (fun c => ao_tabIn (pc := 19) (k := (6 : Int32)) (tgt := 144) X dX11_prisoner_19 c (by decide) (by decide) rfl (by decide) ?_) (fun n9 => ?_)
    · refine ao_aload_n (pc := 144) X dX11_prisoner_144 rfl ?_
      refine ao_getR (pc := 145) X dX11_prisoner_145 fl_RX11_65 sf_0_7 ?_
      refine ao_getR (pc := 148) X dX11_prisoner_148 fl_RX11_175 sf_33_1 ?_
      refine ao_iload_n (pc := 151) X dX11_prisoner_151 rfl ?_
      refine ao_iald (pc := 152) X dX11_prisoner_152 sa_35 ?_
      exact ao_xret (pc := 153) X hz hr dX11_prisoner_153
    refine ao_ite (cd := v2 = (7 : Int32)) (fun c => ao_tabIn (pc := 19) (k := (7 : Int32)) (tgt := 154) X dX11_prisoner_19 c (by decide) (by decide) rfl (by decide) ?_) (fun n10 => ?_)
    · refine ao_aload_n (pc := 154) X dX11_prisoner_154 rfl ?_
      refine ao_getR (pc := 155) X dX11_prisoner_155 fl_RX11_65 sf_0_7 ?_
      refine ao_getR (pc := 158) X dX11_prisoner_158 fl_RX11_178 sf_33_2 ?_
      refine ao_iload_n (pc := 161) X dX11_prisoner_161 rfl ?_
      refine ao_iald (pc := 162) X dX11_prisoner_162 sa_36 ?_
      exact ao_xret (pc := 163) X hz hr dX11_prisoner_163
    refine ao_ite (cd := v2 = (8 : Int32)) (fun c => ao_tabIn (pc := 19) (k := (8 : Int32)) (tgt := 164) X dX11_prisoner_19 c (by decide) (by decide) rfl (by decide) ?_) (fun n11 => ?_)
    · refine ao_aload_n (pc := 164) X dX11_prisoner_164 rfl ?_
      refine ao_getR (pc := 165) X dX11_prisoner_165 fl_RX11_65 sf_0_7 ?_
      refine ao_iload_n (pc := 168) X dX11_prisoner_168 rfl ?_
      refine ao_callVI (pc := 169) (As := [.int v1]) (st := []) X hl0 dX11_prisoner_169 yv_X4_leftNow so_33 ml_RX11_181 (mX4_leftNow_33 hI v1 m2) (Nat.le_of_ble_eq_true rfl) rfl rfl (Nat.le_of_ble_eq_true rfl) (fun r12 m13 => ?_)
      exact ao_xret (pc := 172) X hz hr dX11_prisoner_172
    refine ao_ite (cd := v2 = (9 : Int32)) (fun c => ao_tabIn (pc := 19) (k := (9 : Int32)) (tgt := 173) X dX11_prisoner_19 c (by decide) (by decide) rfl (by decide) ?_) (fun n14 => ?_)
    · refine ao_aload_n (pc := 173) X dX11_prisoner_173 rfl ?_
      refine ao_getR (pc := 174) X dX11_prisoner_174 fl_RX11_65 sf_0_7 ?_
      refine ao_iload_n (pc := 177) X dX11_prisoner_177 rfl ?_
      refine ao_iconst (pc := 178) X dX11_prisoner_178 ic_0 ?_
      refine ao_callVI (pc := 179) (As := [.int v1, .int (0 : Int32)]) (st := []) X hl0 dX11_prisoner_179 yv_X4_proofIn so_33 ml_RX11_184 (mX4_proofIn_33 hI v1 (0 : Int32) m2) (Nat.le_of_ble_eq_true rfl) rfl rfl (Nat.le_of_ble_eq_true rfl) (fun r15 m16 => ?_)
      exact ao_xret (pc := 182) X hz hr dX11_prisoner_182
    refine ao_ite (cd := v2 = (10 : Int32)) (fun c => ao_tabIn (pc := 19) (k := (10 : Int32)) (tgt := 183) X dX11_prisoner_19 c (by decide) (by decide) rfl (by decide) ?_) (fun n17 => ?_)
    · refine ao_aload_n (pc := 183) X dX11_prisoner_183 rfl ?_
      refine ao_getR (pc := 184) X dX11_prisoner_184 fl_RX11_56 sf_0_6 ?_
      refine ao_aload_n (pc := 187) X dX11_prisoner_187 rfl ?_
      refine ao_getR (pc := 188) X dX11_prisoner_188 fl_RX11_26 sf_0_2 ?_
      refine ao_getR (pc := 191) X dX11_prisoner_191 fl_RX11_169 sf_5_4 ?_
      refine ao_iload_n (pc := 194) X dX11_prisoner_194 rfl ?_
      refine ao_iald (pc := 195) X dX11_prisoner_195 sa_10 ?_
      refine ao_callVI (pc := 196) (As := [.int (gI m2 10 (ix v1))]) (st := []) X hl0 dX11_prisoner_196 yv_X2_worthOf so_24 ml_RX11_188 (mX2_worthOf_24 hI (gI m2 10 (ix v1)) m2) (Nat.le_of_ble_eq_true rfl) rfl rfl (Nat.le_of_ble_eq_true rfl) (fun r18 m19 => ?_)
      exact ao_xret (pc := 199) X hz hr dX11_prisoner_199
    refine ao_tabOut (pc := 19) (tgt := 200) X dX11_prisoner_19 (by have := lv_neT (a := 0) n3 (by decide); have := lv_neT (a := 1) n4 (by decide); have := lv_neT (a := 2) n5 (by decide); have := lv_neT (a := 3) n6 (by decide); have := lv_neT (a := 4) n7 (by decide); have := lv_neT (a := 5) n8 (by decide); have := lv_neT (a := 6) n9 (by decide); have := lv_neT (a := 7) n10 (by decide); have := lv_neT (a := 8) n11 (by decide); have := lv_neT (a := 9) n14 (by decide); have := lv_neT (a := 10) n17 (by decide); omega) (by decide) ?_
    exact ao_xthrow (pc := 200) (tx := "a prisoner has no such number") (i := 8) X hz htab hT hl0 hst (by decide) (List.mem_of_getElem? (i := 8) rfl) dX11_prisoner_200 dX11_prisoner_203 dX11_prisoner_204 dX11_prisoner_206 dX11_prisoner_209 (Nat.le_of_ble_eq_true rfl)
  · exact ao_xthrow (pc := 8) (tx := "no such prisoner") (i := 7) X hz htab hT hl0 hst (by decide) (List.mem_of_getElem? (i := 7) rfl) dX11_prisoner_8 dX11_prisoner_11 dX11_prisoner_12 dX11_prisoner_14 dX11_prisoner_17 (Nat.le_of_ble_eq_true rfl)
def fX11_witness_0 (v1 : Int32) (v2 : Int32) (μ : Mem) : Option (Option Int32 × Mem) :=
  if v1 < 0 then (some (none, μ))
  else if v1 < (gI μ 11 3) then (if v2 = (0 : Int32) then (gd (inb v1 8) (some (some (gI μ 12 (ix v1)), μ)))
      else if v2 = (1 : Int32) then (gd (inb v1 8) (some (some (gI μ 37 (ix v1)), μ)))
      else if v2 = (2 : Int32) then (gd (inb v1 8) (some (some (gI μ 14 (ix v1)), μ)))
      else some (none, μ))
    else some (none, μ)
set_option maxRecDepth 100000 in
set_option maxHeartbeats 4000000 in
theorem mX11_witness_0 {E : En} {l : Launch} (hI : Inj E) (hst : l.stackTraces = false) (v1 : Int32) (v2 : Int32) (μ : Mem) : MtX E l yX11_witness cX11_witness 3 8 [.ref (eAd E 0), .int v1, .int v2] μ (fX11_witness_0 v1 v2 μ) := by
  refine mtX_of (own := RX11) [(0, .ref (eAd E 0)), (1, .int v1), (2, .int v2)] hI rfl (by decide) (Nat.le_of_ble_eq_true rfl) (Nat.le_of_ble_eq_true rfl) rfl (fun Z hl0 X htab hT hz hr => ?_)
  unfold fX11_witness_0
  refine ao_iload_n (pc := 0) X dX11_witness_0 rfl ?_
  refine ao_if_lt (pc := 1) (tgt := 15) X dX11_witness_1 (by decide) (fun _ => ?_) (fun _ => ?_)
  · exact ao_xthrow (pc := 15) (tx := "no such witness") (i := 9) X hz htab hT hl0 hst (by decide) (List.mem_of_getElem? (i := 9) rfl) dX11_witness_15 dX11_witness_18 dX11_witness_19 dX11_witness_21 dX11_witness_24 (Nat.le_of_ble_eq_true rfl)
  · refine ao_iload_n (pc := 4) X dX11_witness_4 rfl ?_
    refine ao_aload_n (pc := 5) X dX11_witness_5 rfl ?_
    refine ao_getR (pc := 6) X dX11_witness_6 fl_RX11_35 sf_0_3 ?_
    refine ao_getI (pc := 9) X dX11_witness_9 fl_RX11_134 sf_11_3 ?_
    refine ao_icmp_lt (pc := 12) (tgt := 25) X dX11_witness_12 (by decide) (fun _ => ?_) (fun _ => ?_)
    · refine ao_iload_n (pc := 25) X dX11_witness_25 rfl ?_
      refine ao_ite (cd := v2 = (0 : Int32)) (fun c => ao_tabIn (pc := 26) (k := (0 : Int32)) (tgt := 52) X dX11_witness_26 c (by decide) (by decide) rfl (by decide) ?_) (fun n1 => ?_)
      · refine ao_aload_n (pc := 52) X dX11_witness_52 rfl ?_
        refine ao_getR (pc := 53) X dX11_witness_53 fl_RX11_35 sf_0_3 ?_
        refine ao_getR (pc := 56) X dX11_witness_56 fl_RX11_195 sf_11_0 ?_
        refine ao_iload_n (pc := 59) X dX11_witness_59 rfl ?_
        refine ao_iald (pc := 60) X dX11_witness_60 sa_12 ?_
        exact ao_xret (pc := 61) X hz hr dX11_witness_61
      refine ao_ite (cd := v2 = (1 : Int32)) (fun c => ao_tabIn (pc := 26) (k := (1 : Int32)) (tgt := 62) X dX11_witness_26 c (by decide) (by decide) rfl (by decide) ?_) (fun n2 => ?_)
      · refine ao_aload_n (pc := 62) X dX11_witness_62 rfl ?_
        refine ao_getR (pc := 63) X dX11_witness_63 fl_RX11_65 sf_0_7 ?_
        refine ao_getR (pc := 66) X dX11_witness_66 fl_RX11_198 sf_33_3 ?_
        refine ao_iload_n (pc := 69) X dX11_witness_69 rfl ?_
        refine ao_iald (pc := 70) X dX11_witness_70 sa_37 ?_
        exact ao_xret (pc := 71) X hz hr dX11_witness_71
      refine ao_ite (cd := v2 = (2 : Int32)) (fun c => ao_tabIn (pc := 26) (k := (2 : Int32)) (tgt := 72) X dX11_witness_26 c (by decide) (by decide) rfl (by decide) ?_) (fun n3 => ?_)
      · refine ao_aload_n (pc := 72) X dX11_witness_72 rfl ?_
        refine ao_getR (pc := 73) X dX11_witness_73 fl_RX11_35 sf_0_3 ?_
        refine ao_getR (pc := 76) X dX11_witness_76 fl_RX11_201 sf_11_2 ?_
        refine ao_iload_n (pc := 79) X dX11_witness_79 rfl ?_
        refine ao_iald (pc := 80) X dX11_witness_80 sa_14 ?_
        exact ao_xret (pc := 81) X hz hr dX11_witness_81
      refine ao_tabOut (pc := 26) (tgt := 82) X dX11_witness_26 (by have := lv_neT (a := 0) n1 (by decide); have := lv_neT (a := 1) n2 (by decide); have := lv_neT (a := 2) n3 (by decide); omega) (by decide) ?_
      exact ao_xthrow (pc := 82) (tx := "a witness has no such number") (i := 10) X hz htab hT hl0 hst (by decide) (List.mem_of_getElem? (i := 10) rfl) dX11_witness_82 dX11_witness_85 dX11_witness_86 dX11_witness_88 dX11_witness_91 (Nat.le_of_ble_eq_true rfl)
    · exact ao_xthrow (pc := 15) (tx := "no such witness") (i := 9) X hz htab hT hl0 hst (by decide) (List.mem_of_getElem? (i := 9) rfl) dX11_witness_15 dX11_witness_18 dX11_witness_19 dX11_witness_21 dX11_witness_24 (Nat.le_of_ble_eq_true rfl)
def fX11_row_0 (v1 : Int32) (μ : Mem) : Option (Option Int64 × Mem) :=
  if v1 < 0 then (some (none, μ))
  else if v1 < (gI μ 3 1) then (gd (inb v1 8) (some (some (gL μ 4 (ix v1)), μ)))
    else some (none, μ)
set_option maxRecDepth 100000 in
set_option maxHeartbeats 4000000 in
theorem mX11_row_0 {E : En} {l : Launch} (hI : Inj E) (hst : l.stackTraces = false) (v1 : Int32) (μ : Mem) : MtXL E l yX11_row cX11_row 2 8 [.ref (eAd E 0), .int v1] μ (fX11_row_0 v1 μ) := by
  refine mtXL_of (own := RX11) [(0, .ref (eAd E 0)), (1, .int v1)] hI rfl (by decide) (Nat.le_of_ble_eq_true rfl) (Nat.le_of_ble_eq_true rfl) rfl (fun Z hl0 X htab hT hz hr => ?_)
  unfold fX11_row_0
  refine ao_iload_n (pc := 0) X dX11_row_0 rfl ?_
  refine ao_if_lt (pc := 1) (tgt := 15) X dX11_row_1 (by decide) (fun _ => ?_) (fun _ => ?_)
  · exact ao_xlthrow (pc := 15) (tx := "the row has no such number") (i := 11) X hz htab hT hl0 hst (by decide) (List.mem_of_getElem? (i := 11) rfl) dX11_row_15 dX11_row_18 dX11_row_19 dX11_row_22 dX11_row_25 (Nat.le_of_ble_eq_true rfl)
  · refine ao_iload_n (pc := 4) X dX11_row_4 rfl ?_
    refine ao_aload_n (pc := 5) X dX11_row_5 rfl ?_
    refine ao_getR (pc := 6) X dX11_row_6 fl_RX11_19 sf_0_1 ?_
    refine ao_getI (pc := 9) X dX11_row_9 fl_RX11_408 sf_3_1 ?_
    refine ao_icmp_lt (pc := 12) (tgt := 26) X dX11_row_12 (by decide) (fun _ => ?_) (fun _ => ?_)
    · refine ao_aload_n (pc := 26) X dX11_row_26 rfl ?_
      refine ao_getR (pc := 27) X dX11_row_27 fl_RX11_19 sf_0_1 ?_
      refine ao_getR (pc := 30) X dX11_row_30 fl_RX11_414 sf_3_0 ?_
      refine ao_iload_n (pc := 33) X dX11_row_33 rfl ?_
      refine ao_lald (pc := 34) X dX11_row_34 sa_4 ?_
      exact ao_xlret (pc := 35) X hz hr dX11_row_35
    · exact ao_xlthrow (pc := 15) (tx := "the row has no such number") (i := 11) X hz htab hT hl0 hst (by decide) (List.mem_of_getElem? (i := 11) rfl) dX11_row_15 dX11_row_18 dX11_row_19 dX11_row_22 dX11_row_25 (Nat.le_of_ble_eq_true rfl)
def fH_prisoner (v1 v2 : Int32) (μ : Mem) : Option (Int32 × Mem) := match fX11_prisoner_0 v1 v2 μ with
  | none => none
  | some (none, μ1) => some (1, μ1)
  | some (some v, μ1) => some (0, sL μ1 149 0 (v.toInt64))
set_option maxRecDepth 100000 in
set_option maxHeartbeats 4000000 in
theorem kH_prisoner {E : En} {l : Launch} (hI : Inj E) (hst : l.stackTraces = false) (v1 v2 : Int32) (μ : Mem) : MtH E l yL_prisoner cL_prisoner 5 9 [(0, 10, 13, 13)] [.ref (eAd E 0), .int v1, .int v2, .ref (eAd E 149)] μ (fH_prisoner v1 v2 μ) := by
  intro r μ' ho sz
  obtain ⟨o1, μ1, h1⟩ : ∃ o1 μ1, fX11_prisoner_0 v1 v2 μ = some (o1, μ1) := by
    cases h : fX11_prisoner_0 v1 v2 μ with
    | none => rw [fH_prisoner, h] at ho; cases ho
    | some q => exact ⟨q.1, q.2, rfl⟩
  refine vx_ofWH (cc := cL_prisoner) (maxL := 5) (ret := some .int) (hh := [(0, 10, 13, 13)]) (by decide) rfl ?_
  intro p e s m args below meth c s₁ B hml hv
  obtain ⟨rfl, hsz, hP, hK, hT⟩ := hv
  subst hsz
  have hx := B.exec
  have hb := B.bytes
  have hr := B.returns
  have hts0 := atoms_spec (ws := .codeWith yL_prisoner cL_prisoner 5 (some .int) [(0, 10, 13, 13)] :: gw) B.pre
  have hts : ∀ w ∈ gw, w.before _ s = true := fun w hw => hts0 w (List.mem_cons_of_mem _ hw)
  have htab := vx_table (x := yL_prisoner) B (hts0 _ List.mem_cons_self)
  have hown : s.vm.findClass RL = some m.cls := findClass_of_methodNamed B.named
  have hlocks := B.notSynchronized
  have hl := lv_entry ([.ref (eAd E 0), .int v1, .int v2, .ref (eAd E 149)]) (n := 5) (Nat.le_of_ble_eq_true rfl)
  rw [lg_entry_eq]
  generalize (lg_sl ([.ref (eAd E 0), .int v1, .int v2, .ref (eAd E 149)]) ++ List.replicate (5 - (lg_sl ([.ref (eAd E 0), .int v1, .int v2, .ref (eAd E 149)])).length) Slot.unset).toArray = ls at hl ⊢
  have hl : lv_has ls 5 [(0, .ref (eAd E 0)), (1, .int v1), (2, .int v2), (3, .ref (eAd E 149))] := hl
  have hS : va_S (Aw E s.heap.size) s.heap s.heap [] := va_S.rf
  refine lv_aload_n hx hb dL_prisoner_0 rfl (lv_at hl 3 rfl) ?_
  refine lv_iconst (v := 0) hx hb dL_prisoner_1 (by decide) ?_
  refine lv_aload_n hx hb dL_prisoner_2 rfl (lv_at hl 0 rfl) ?_
  refine lv_iload_n hx hb dL_prisoner_3 rfl (lv_at hl 1 rfl) ?_
  refine lv_iload_n hx hb dL_prisoner_4 rfl (lv_at hl 2 rfl) ?_
  have cwq := cwV (R := rmX 9) (rm := rmX 8) (mc := 1) (ms := 6) 2 hts (gw_V (own := RL) yv_X11_prisoner ml_RL_7) rfl rfl rfl yv_X11_prisoner.2.2.2.2.1 ⟨Nat.le_of_ble_eq_true rfl, Nat.le_of_ble_eq_true rfl⟩
  refine vx_calli (vx_runV (As := [.int v1, .int v2]) (rest := [.int 0, .ref (eAd E 149)]) ⟨hx, hb, hml, hown, hts⟩ (mX11_prisoner_0 hI hst v1 v2 μ o1 μ1 h1 s.heap.size) cwq ⟨PcT_blind, sho_recv hK hP so_0, fun U hU hW => ⟨rfl, by rw [hU], by rw [hU]; exact hP, hK.go hS hU hW, hT.go hS hU hW⟩⟩ rfl rfl hl.1 rfl (lv_room (Nat.le_of_ble_eq_true rfl)) dL_prisoner_5 ⟨Nat.le_refl _, Nat.le_refl _⟩) hS (fun q hq h9 => Aw_in hq h9) (fun q h9 => h9) (fun q hq h9 => Aw_in hq h9) (fun Ec ce q9 u t H1 locs1 ht hvm hw hB hz hk1 hS1 hce hcv hcl => ?_) (fun r2 u t H1 locs1 ht hvm hw hB hz hk1 hS1 => ?_)
  · obtain ⟨rfl, rfl⟩ := hw
    obtain ⟨rfl, hB⟩ := hB
    have hB : va_P (eD E) vwCl (cw E u) t.heap := hB
    rw [ht] at hB
    have e1 : r = 1 ∧ μ' = u := by
      rw [fH_prisoner, h1] at ho
      cases ho
      exact ⟨rfl, rfl⟩
    obtain ⟨rfl, rfl⟩ := e1
    refine vx_catch (name := NS) hown [] ⟨0, 10, 13, 13⟩ [] htab (fun z hz => nomatch hz) (by decide) (by decide) (hts _ ns_linkL) (va_Nw.use rfl hT.2.2.1) hce hcv hcl ?_
    refine lv_astore (lv' := _) hx hb dL_prisoner_13 hl (by decide) rfl (fun ls hl => ?_)
    refine lv_iconst (v := 1) hx hb dL_prisoner_15 (by decide) ?_
    exact vx_ret (W.iret (v := 1) hx hb hr (fun t ht hW => ⟨⟨1, _, rfl, ⟨rfl, rfl⟩, by show va_P _ _ _ t.heap; rw [ht]; exact hB⟩, hS1.F ht⟩) hS1.2.2 dL_prisoner_16)
  · obtain ⟨rfl, rfl⟩ := hw
    have hB : va_P (eD E) vwCl (cw E u) t.heap := hB
    rw [ht] at hB
    have e1 : r = 0 ∧ μ' = sL u 149 0 (r2.toInt64) := by
      rw [fH_prisoner, h1] at ho
      cases ho
      exact ⟨rfl, rfl⟩
    obtain ⟨rfl, rfl⟩ := e1
    refine lv_i2l hx hb dL_prisoner_8 rfl ?_
    refine va_last hx hb hK.1 hB (cw_D hI) hS1 149 4 (shl_at sa_149) rfl (inb_in (i := 0) (n := 1) (by decide)) dL_prisoner_9 (fun H2 locs2 hP2 _ hS2 => ?_)
    rw [show Int32.toNatClampNeg 0 = 0 from rfl, shl_set sa_149] at hP2
    refine lv_goto (tgt := 17) hx hb dL_prisoner_10 (by decide) ?_
    refine lv_iconst (v := 0) hx hb dL_prisoner_17 (by decide) ?_
    exact vx_ret (W.iret (v := 0) hx hb hr (fun t ht hW => ⟨⟨0, _, rfl, ⟨rfl, rfl⟩, by show va_P _ _ _ t.heap; rw [ht]; exact hP2⟩, hS2.F ht⟩) hS2.2.2 dL_prisoner_18)
def fH_witness (v1 v2 : Int32) (μ : Mem) : Option (Int32 × Mem) := match fX11_witness_0 v1 v2 μ with
  | none => none
  | some (none, μ1) => some (1, μ1)
  | some (some v, μ1) => some (0, sL μ1 149 0 (v.toInt64))
set_option maxRecDepth 100000 in
set_option maxHeartbeats 4000000 in
theorem kH_witness {E : En} {l : Launch} (hI : Inj E) (hst : l.stackTraces = false) (v1 v2 : Int32) (μ : Mem) : MtH E l yL_witness cL_witness 5 9 [(0, 10, 13, 13)] [.ref (eAd E 0), .int v1, .int v2, .ref (eAd E 149)] μ (fH_witness v1 v2 μ) := by
  intro r μ' ho sz
  obtain ⟨o1, μ1, h1⟩ : ∃ o1 μ1, fX11_witness_0 v1 v2 μ = some (o1, μ1) := by
    cases h : fX11_witness_0 v1 v2 μ with
    | none => rw [fH_witness, h] at ho; cases ho
    | some q => exact ⟨q.1, q.2, rfl⟩
  refine vx_ofWH (cc := cL_witness) (maxL := 5) (ret := some .int) (hh := [(0, 10, 13, 13)]) (by decide) rfl ?_
  intro p e s m args below meth c s₁ B hml hv
  obtain ⟨rfl, hsz, hP, hK, hT⟩ := hv
  subst hsz
  have hx := B.exec
  have hb := B.bytes
  have hr := B.returns
  have hts0 := atoms_spec (ws := .codeWith yL_witness cL_witness 5 (some .int) [(0, 10, 13, 13)] :: gw) B.pre
  have hts : ∀ w ∈ gw, w.before _ s = true := fun w hw => hts0 w (List.mem_cons_of_mem _ hw)
  have htab := vx_table (x := yL_witness) B (hts0 _ List.mem_cons_self)
  have hown : s.vm.findClass RL = some m.cls := findClass_of_methodNamed B.named
  have hlocks := B.notSynchronized
  have hl := lv_entry ([.ref (eAd E 0), .int v1, .int v2, .ref (eAd E 149)]) (n := 5) (Nat.le_of_ble_eq_true rfl)
  rw [lg_entry_eq]
  generalize (lg_sl ([.ref (eAd E 0), .int v1, .int v2, .ref (eAd E 149)]) ++ List.replicate (5 - (lg_sl ([.ref (eAd E 0), .int v1, .int v2, .ref (eAd E 149)])).length) Slot.unset).toArray = ls at hl ⊢
  have hl : lv_has ls 5 [(0, .ref (eAd E 0)), (1, .int v1), (2, .int v2), (3, .ref (eAd E 149))] := hl
  have hS : va_S (Aw E s.heap.size) s.heap s.heap [] := va_S.rf
  refine lv_aload_n hx hb dL_witness_0 rfl (lv_at hl 3 rfl) ?_
  refine lv_iconst (v := 0) hx hb dL_witness_1 (by decide) ?_
  refine lv_aload_n hx hb dL_witness_2 rfl (lv_at hl 0 rfl) ?_
  refine lv_iload_n hx hb dL_witness_3 rfl (lv_at hl 1 rfl) ?_
  refine lv_iload_n hx hb dL_witness_4 rfl (lv_at hl 2 rfl) ?_
  have cwq := cwV (R := rmX 9) (rm := rmX 8) (mc := 1) (ms := 6) 2 hts (gw_V (own := RL) yv_X11_witness ml_RL_15) rfl rfl rfl yv_X11_witness.2.2.2.2.1 ⟨Nat.le_of_ble_eq_true rfl, Nat.le_of_ble_eq_true rfl⟩
  refine vx_calli (vx_runV (As := [.int v1, .int v2]) (rest := [.int 0, .ref (eAd E 149)]) ⟨hx, hb, hml, hown, hts⟩ (mX11_witness_0 hI hst v1 v2 μ o1 μ1 h1 s.heap.size) cwq ⟨PcT_blind, sho_recv hK hP so_0, fun U hU hW => ⟨rfl, by rw [hU], by rw [hU]; exact hP, hK.go hS hU hW, hT.go hS hU hW⟩⟩ rfl rfl hl.1 rfl (lv_room (Nat.le_of_ble_eq_true rfl)) dL_witness_5 ⟨Nat.le_refl _, Nat.le_refl _⟩) hS (fun q hq h9 => Aw_in hq h9) (fun q h9 => h9) (fun q hq h9 => Aw_in hq h9) (fun Ec ce q9 u t H1 locs1 ht hvm hw hB hz hk1 hS1 hce hcv hcl => ?_) (fun r2 u t H1 locs1 ht hvm hw hB hz hk1 hS1 => ?_)
  · obtain ⟨rfl, rfl⟩ := hw
    obtain ⟨rfl, hB⟩ := hB
    have hB : va_P (eD E) vwCl (cw E u) t.heap := hB
    rw [ht] at hB
    have e1 : r = 1 ∧ μ' = u := by
      rw [fH_witness, h1] at ho
      cases ho
      exact ⟨rfl, rfl⟩
    obtain ⟨rfl, rfl⟩ := e1
    refine vx_catch (name := NS) hown [] ⟨0, 10, 13, 13⟩ [] htab (fun z hz => nomatch hz) (by decide) (by decide) (hts _ ns_linkL) (va_Nw.use rfl hT.2.2.1) hce hcv hcl ?_
    refine lv_astore (lv' := _) hx hb dL_witness_13 hl (by decide) rfl (fun ls hl => ?_)
    refine lv_iconst (v := 1) hx hb dL_witness_15 (by decide) ?_
    exact vx_ret (W.iret (v := 1) hx hb hr (fun t ht hW => ⟨⟨1, _, rfl, ⟨rfl, rfl⟩, by show va_P _ _ _ t.heap; rw [ht]; exact hB⟩, hS1.F ht⟩) hS1.2.2 dL_witness_16)
  · obtain ⟨rfl, rfl⟩ := hw
    have hB : va_P (eD E) vwCl (cw E u) t.heap := hB
    rw [ht] at hB
    have e1 : r = 0 ∧ μ' = sL u 149 0 (r2.toInt64) := by
      rw [fH_witness, h1] at ho
      cases ho
      exact ⟨rfl, rfl⟩
    obtain ⟨rfl, rfl⟩ := e1
    refine lv_i2l hx hb dL_witness_8 rfl ?_
    refine va_last hx hb hK.1 hB (cw_D hI) hS1 149 4 (shl_at sa_149) rfl (inb_in (i := 0) (n := 1) (by decide)) dL_witness_9 (fun H2 locs2 hP2 _ hS2 => ?_)
    rw [show Int32.toNatClampNeg 0 = 0 from rfl, shl_set sa_149] at hP2
    refine lv_goto (tgt := 17) hx hb dL_witness_10 (by decide) ?_
    refine lv_iconst (v := 0) hx hb dL_witness_17 (by decide) ?_
    exact vx_ret (W.iret (v := 0) hx hb hr (fun t ht hW => ⟨⟨0, _, rfl, ⟨rfl, rfl⟩, by show va_P _ _ _ t.heap; rw [ht]; exact hP2⟩, hS2.F ht⟩) hS2.2.2 dL_witness_18)
def fH_row (v1 : Int32) (μ : Mem) : Option (Int32 × Mem) := match fX11_row_0 v1 μ with
  | none => none
  | some (none, μ1) => some (1, μ1)
  | some (some v, μ1) => some (0, sL μ1 149 0 (v))
set_option maxRecDepth 100000 in
set_option maxHeartbeats 4000000 in
theorem kH_row {E : En} {l : Launch} (hI : Inj E) (hst : l.stackTraces = false) (v1 : Int32) (μ : Mem) : MtH E l yL_row cL_row 4 9 [(0, 8, 11, 13)] [.ref (eAd E 0), .int v1, .ref (eAd E 149)] μ (fH_row v1 μ) := by
  intro r μ' ho sz
  obtain ⟨o1, μ1, h1⟩ : ∃ o1 μ1, fX11_row_0 v1 μ = some (o1, μ1) := by
    cases h : fX11_row_0 v1 μ with
    | none => rw [fH_row, h] at ho; cases ho
    | some q => exact ⟨q.1, q.2, rfl⟩
  refine vx_ofWH (cc := cL_row) (maxL := 4) (ret := some .int) (hh := [(0, 8, 11, 13)]) (by decide) rfl ?_
  intro p e s m args below meth c s₁ B hml hv
  obtain ⟨rfl, hsz, hP, hK, hT⟩ := hv
  subst hsz
  have hx := B.exec
  have hb := B.bytes
  have hr := B.returns
  have hts0 := atoms_spec (ws := .codeWith yL_row cL_row 4 (some .int) [(0, 8, 11, 13)] :: gw) B.pre
  have hts : ∀ w ∈ gw, w.before _ s = true := fun w hw => hts0 w (List.mem_cons_of_mem _ hw)
  have htab := vx_table (x := yL_row) B (hts0 _ List.mem_cons_self)
  have hown : s.vm.findClass RL = some m.cls := findClass_of_methodNamed B.named
  have hlocks := B.notSynchronized
  have hl := lv_entry ([.ref (eAd E 0), .int v1, .ref (eAd E 149)]) (n := 4) (Nat.le_of_ble_eq_true rfl)
  rw [lg_entry_eq]
  generalize (lg_sl ([.ref (eAd E 0), .int v1, .ref (eAd E 149)]) ++ List.replicate (4 - (lg_sl ([.ref (eAd E 0), .int v1, .ref (eAd E 149)])).length) Slot.unset).toArray = ls at hl ⊢
  have hl : lv_has ls 4 [(0, .ref (eAd E 0)), (1, .int v1), (2, .ref (eAd E 149))] := hl
  have hS : va_S (Aw E s.heap.size) s.heap s.heap [] := va_S.rf
  refine lv_aload_n hx hb dL_row_0 rfl (lv_at hl 2 rfl) ?_
  refine lv_iconst (v := 0) hx hb dL_row_1 (by decide) ?_
  refine lv_aload_n hx hb dL_row_2 rfl (lv_at hl 0 rfl) ?_
  refine lv_iload_n hx hb dL_row_3 rfl (lv_at hl 1 rfl) ?_
  have cwq := cwV (R := rmX 9) (rm := rmX 8) (mc := 1) (ms := 6) 1 hts (gw_V (own := RL) yv_X11_row ml_RL_18) rfl rfl rfl yv_X11_row.2.2.2.2.1 ⟨Nat.le_of_ble_eq_true rfl, Nat.le_of_ble_eq_true rfl⟩
  refine vx_calll (vx_runV (As := [.int v1]) (rest := [.int 0, .ref (eAd E 149)]) ⟨hx, hb, hml, hown, hts⟩ (mX11_row_0 hI hst v1 μ o1 μ1 h1 s.heap.size) cwq ⟨PcT_blind, sho_recv hK hP so_0, fun U hU hW => ⟨rfl, by rw [hU], by rw [hU]; exact hP, hK.go hS hU hW, hT.go hS hU hW⟩⟩ rfl rfl hl.1 rfl (lv_room (Nat.le_of_ble_eq_true rfl)) dL_row_4 ⟨Nat.le_refl _, Nat.le_refl _⟩) hS (fun q hq h9 => Aw_in hq h9) (fun q h9 => h9) (fun q hq h9 => Aw_in hq h9) (fun Ec ce q9 u t H1 locs1 ht hvm hw hB hz hk1 hS1 hce hcv hcl => ?_) (fun r2 u t H1 locs1 ht hvm hw hB hz hk1 hS1 => ?_)
  · obtain ⟨rfl, rfl⟩ := hw
    obtain ⟨rfl, hB⟩ := hB
    have hB : va_P (eD E) vwCl (cw E u) t.heap := hB
    rw [ht] at hB
    have e1 : r = 1 ∧ μ' = u := by
      rw [fH_row, h1] at ho
      cases ho
      exact ⟨rfl, rfl⟩
    obtain ⟨rfl, rfl⟩ := e1
    refine vx_catch (name := NS) hown [] ⟨0, 8, 11, 13⟩ [] htab (fun z hz => nomatch hz) (by decide) (by decide) (hts _ ns_linkL) (va_Nw.use rfl hT.2.2.1) hce hcv hcl ?_
    refine lv_astore_n (lv' := _) hx hb dL_row_11 rfl hl (by decide) rfl (fun ls hl => ?_)
    refine lv_iconst (v := 1) hx hb dL_row_12 (by decide) ?_
    exact vx_ret (W.iret (v := 1) hx hb hr (fun t ht hW => ⟨⟨1, _, rfl, ⟨rfl, rfl⟩, by show va_P _ _ _ t.heap; rw [ht]; exact hB⟩, hS1.F ht⟩) hS1.2.2 dL_row_13)
  · obtain ⟨rfl, rfl⟩ := hw
    have hB : va_P (eD E) vwCl (cw E u) t.heap := hB
    rw [ht] at hB
    have e1 : r = 0 ∧ μ' = sL u 149 0 (r2) := by
      rw [fH_row, h1] at ho
      cases ho
      exact ⟨rfl, rfl⟩
    obtain ⟨rfl, rfl⟩ := e1
    refine va_last hx hb hK.1 hB (cw_D hI) hS1 149 4 (shl_at sa_149) rfl (inb_in (i := 0) (n := 1) (by decide)) dL_row_7 (fun H2 locs2 hP2 _ hS2 => ?_)
    rw [show Int32.toNatClampNeg 0 = 0 from rfl, shl_set sa_149] at hP2
    refine lv_goto (tgt := 14) hx hb dL_row_8 (by decide) ?_
    refine lv_iconst (v := 0) hx hb dL_row_14 (by decide) ?_
    exact vx_ret (W.iret (v := 0) hx hb hr (fun t ht hW => ⟨⟨0, _, rfl, ⟨rfl, rfl⟩, by show va_P _ _ _ t.heap; rw [ht]; exact hP2⟩, hS2.F ht⟩) hS2.2.2 dL_row_15)
