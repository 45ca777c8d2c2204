def FU : Nat := 1000
def FR : Nat := 100
abbrev ix (i : Int32) : Nat := i.toNatClampNeg
theorem ii_ic {n : Int} {c x : Int32} (h : Int32.ofInt n = c) : x + Int32.ofInt n = x + c := by rw [h]
theorem ic_m10 : Int32.ofInt (-10) = (-10 : Int32) := by decide
theorem ic_m8 : Int32.ofInt (-8) = (-8 : Int32) := by decide
theorem ic_m1 : Int32.ofInt (-1) = (-1 : Int32) := by decide
theorem ic_0 : Int32.ofInt (0) = (0 : Int32) := by decide
theorem ic_1 : Int32.ofInt (1) = (1 : Int32) := by decide
theorem ic_2 : Int32.ofInt (2) = (2 : Int32) := by decide
theorem ic_3 : Int32.ofInt (3) = (3 : Int32) := by decide
theorem ic_4 : Int32.ofInt (4) = (4 : Int32) := by decide
theorem ic_5 : Int32.ofInt (5) = (5 : Int32) := by decide
theorem ic_10 : Int32.ofInt (10) = (10 : Int32) := by decide
theorem bp_m50 : (Int8.ofInt (-50)).toInt32 = (-50 : Int32) := by decide
theorem bp_m10 : (Int8.ofInt (-10)).toInt32 = (-10 : Int32) := by decide
theorem bp_m3 : (Int8.ofInt (-3)).toInt32 = (-3 : Int32) := by decide
theorem bp_m2 : (Int8.ofInt (-2)).toInt32 = (-2 : Int32) := by decide
theorem bp_6 : (Int8.ofInt (6)).toInt32 = (6 : Int32) := by decide
theorem bp_8 : (Int8.ofInt (8)).toInt32 = (8 : Int32) := by decide
theorem bp_9 : (Int8.ofInt (9)).toInt32 = (9 : Int32) := by decide
theorem bp_10 : (Int8.ofInt (10)).toInt32 = (10 : Int32) := by decide
theorem bp_12 : (Int8.ofInt (12)).toInt32 = (12 : Int32) := by decide
theorem bp_13 : (Int8.ofInt (13)).toInt32 = (13 : Int32) := by decide
theorem bp_16 : (Int8.ofInt (16)).toInt32 = (16 : Int32) := by decide
theorem bp_18 : (Int8.ofInt (18)).toInt32 = (18 : Int32) := by decide
theorem bp_20 : (Int8.ofInt (20)).toInt32 = (20 : Int32) := by decide
theorem bp_24 : (Int8.ofInt (24)).toInt32 = (24 : Int32) := by decide
theorem bp_26 : (Int8.ofInt (26)).toInt32 = (26 : Int32) := by decide
theorem bp_27 : (Int8.ofInt (27)).toInt32 = (27 : Int32) := by decide
theorem bp_40 : (Int8.ofInt (40)).toInt32 = (40 : Int32) := by decide
theorem bp_41 : (Int8.ofInt (41)).toInt32 = (41 : Int32) := by decide
theorem bp_42 : (Int8.ofInt (42)).toInt32 = (42 : Int32) := by decide
theorem bp_43 : (Int8.ofInt (43)).toInt32 = (43 : Int32) := by decide
theorem bp_44 : (Int8.ofInt (44)).toInt32 = (44 : Int32) := by decide
theorem bp_45 : (Int8.ofInt (45)).toInt32 = (45 : Int32) := by decide
theorem bp_47 : (Int8.ofInt (47)).toInt32 = (47 : Int32) := by decide
theorem bp_48 : (Int8.ofInt (48)).toInt32 = (48 : Int32) := by decide
theorem bp_50 : (Int8.ofInt (50)).toInt32 = (50 : Int32) := by decide
theorem bp_57 : (Int8.ofInt (57)).toInt32 = (57 : Int32) := by decide
theorem bp_59 : (Int8.ofInt (59)).toInt32 = (59 : Int32) := by decide
theorem bp_60 : (Int8.ofInt (60)).toInt32 = (60 : Int32) := by decide
theorem bp_61 : (Int8.ofInt (61)).toInt32 = (61 : Int32) := by decide
theorem bp_62 : (Int8.ofInt (62)).toInt32 = (62 : Int32) := by decide
theorem bp_63 : (Int8.ofInt (63)).toInt32 = (63 : Int32) := by decide
theorem bp_76 : (Int8.ofInt (76)).toInt32 = (76 : Int32) := by decide
theorem bp_80 : (Int8.ofInt (80)).toInt32 = (80 : Int32) := by decide
theorem bp_81 : (Int8.ofInt (81)).toInt32 = (81 : Int32) := by decide
theorem bp_90 : (Int8.ofInt (90)).toInt32 = (90 : Int32) := by decide
theorem bp_97 : (Int8.ofInt (97)).toInt32 = (97 : Int32) := by decide
theorem bp_98 : (Int8.ofInt (98)).toInt32 = (98 : Int32) := by decide
theorem bp_99 : (Int8.ofInt (99)).toInt32 = (99 : Int32) := by decide
theorem bp_100 : (Int8.ofInt (100)).toInt32 = (100 : Int32) := by decide
theorem bp_102 : (Int8.ofInt (102)).toInt32 = (102 : Int32) := by decide
theorem bp_104 : (Int8.ofInt (104)).toInt32 = (104 : Int32) := by decide
theorem bp_105 : (Int8.ofInt (105)).toInt32 = (105 : Int32) := by decide
theorem bp_106 : (Int8.ofInt (106)).toInt32 = (106 : Int32) := by decide
theorem bp_107 : (Int8.ofInt (107)).toInt32 = (107 : Int32) := by decide
theorem bp_108 : (Int8.ofInt (108)).toInt32 = (108 : Int32) := by decide
theorem bp_110 : (Int8.ofInt (110)).toInt32 = (110 : Int32) := by decide
theorem bp_111 : (Int8.ofInt (111)).toInt32 = (111 : Int32) := by decide
theorem bp_115 : (Int8.ofInt (115)).toInt32 = (115 : Int32) := by decide
theorem bp_119 : (Int8.ofInt (119)).toInt32 = (119 : Int32) := by decide
theorem sp_m10000 : (Int16.ofInt (-10000)).toInt32 = (-10000 : Int32) := by decide
theorem sp_m999 : (Int16.ofInt (-999)).toInt32 = (-999 : Int32) := by decide
theorem sp_200 : (Int16.ofInt (200)).toInt32 = (200 : Int32) := by decide
theorem sp_255 : (Int16.ofInt (255)).toInt32 = (255 : Int32) := by decide
theorem sp_256 : (Int16.ofInt (256)).toInt32 = (256 : Int32) := by decide
theorem sp_297 : (Int16.ofInt (297)).toInt32 = (297 : Int32) := by decide
theorem sp_400 : (Int16.ofInt (400)).toInt32 = (400 : Int32) := by decide
theorem sp_999 : (Int16.ofInt (999)).toInt32 = (999 : Int32) := by decide
theorem sp_1000 : (Int16.ofInt (1000)).toInt32 = (1000 : Int32) := by decide
theorem sp_2000 : (Int16.ofInt (2000)).toInt32 = (2000 : Int32) := by decide
theorem sp_2003 : (Int16.ofInt (2003)).toInt32 = (2003 : Int32) := by decide
theorem sp_2005 : (Int16.ofInt (2005)).toInt32 = (2005 : Int32) := by decide
theorem sp_2007 : (Int16.ofInt (2007)).toInt32 = (2007 : Int32) := by decide
theorem sp_9999 : (Int16.ofInt (9999)).toInt32 = (9999 : Int32) := by decide
theorem sp_12345 : (Int16.ofInt (12345)).toInt32 = (12345 : Int32) := by decide
theorem lc_0 : Int64.ofNat ((0 : Fin 2) : Nat) = (0 : Int64) := by decide
theorem lc_1 : Int64.ofNat ((1 : Fin 2) : Nat) = (1 : Int64) := by decide
theorem kc_RX11_436 : Cond.constant RX11 436 (1103515245 : Int32) ∈ gw := gw_of (i := 1141) (by decide +kernel) rfl
theorem kc_RX12_368 : Cond.constant RX12 368 (1000000 : Int32) ∈ gw := gw_of (i := 1794) (by decide +kernel) rfl
theorem kc_RX12_382 : Cond.constant RX12 382 (1103515245 : Int32) ∈ gw := gw_of (i := 1816) (by decide +kernel) rfl
theorem kc_RJ6_265 : Cond.constant RJ6 265 (1431655765 : Int32) ∈ gw := gw_of (i := 947) (by decide +kernel) rfl
theorem kc_RJ6_266 : Cond.constant RJ6 266 (858993459 : Int32) ∈ gw := gw_of (i := 948) (by decide +kernel) rfl
theorem kc_RJ6_267 : Cond.constant RJ6 267 (252645135 : Int32) ∈ gw := gw_of (i := 949) (by decide +kernel) rfl
theorem kl_RX11_369 : Cond.constantLong RX11 369 (100 : Int64) ∈ gw := gw_of (i := 1104) (by decide +kernel) rfl
theorem kl_RX12_352 : Cond.constantLong RX12 352 (10 : Int64) ∈ gw := gw_of (i := 1771) (by decide +kernel) rfl
theorem kl_RX12_366 : Cond.constantLong RX12 366 (100 : Int64) ∈ gw := gw_of (i := 1785) (by decide +kernel) rfl
theorem MaxW_ok : MaxW := ⟨gw_of (i := 512) (by decide +kernel) rfl, gw_of (i := 93) (by decide +kernel) rfl, gw_of (i := 513) (by decide +kernel) rfl⟩
theorem MinW_ok : MinW := ⟨gw_of (i := 475) (by decide +kernel) rfl, gw_of (i := 93) (by decide +kernel) rfl, gw_of (i := 476) (by decide +kernel) rfl⟩
theorem CpyW_ok : CpyW := ⟨gw_of (i := 650) (by decide +kernel) rfl, gw_of (i := 649) (by decide +kernel) rfl, gw_of (i := 98) (by decide +kernel) rfl⟩
set_option maxRecDepth 100000 in
theorem uw_RX0 : ∀ w ∈ u_ws RX0 TX0 3, w ∈ gw := by decide +kernel
set_option maxRecDepth 100000 in
theorem uw_RX1 : ∀ w ∈ u_ws RX1 TX1 5, w ∈ gw := by decide +kernel
set_option maxRecDepth 100000 in
theorem uw_RX2 : ∀ w ∈ u_ws RX2 TX2 5, w ∈ gw := by decide +kernel
set_option maxRecDepth 100000 in
theorem uw_RX3 : ∀ w ∈ u_ws RX3 TX3 7, w ∈ gw := by decide +kernel
set_option maxRecDepth 100000 in
theorem uw_RX4 : ∀ w ∈ u_ws RX4 TX4 9, w ∈ gw := by decide +kernel
set_option maxRecDepth 100000 in
theorem uw_RX6 : ∀ w ∈ u_ws RX6 TX6 3, w ∈ gw := by decide +kernel
set_option maxRecDepth 100000 in
theorem uw_RX7 : ∀ w ∈ u_ws RX7 TX7 2, w ∈ gw := by decide +kernel
set_option maxRecDepth 100000 in
theorem uw_RX8 : ∀ w ∈ u_ws RX8 TX8 6, w ∈ gw := by decide +kernel
set_option maxRecDepth 100000 in
theorem uw_RX9 : ∀ w ∈ u_ws RX9 TX9 4, w ∈ gw := by decide +kernel
set_option maxRecDepth 100000 in
theorem uw_RX10 : ∀ w ∈ u_ws RX10 TX10 8, w ∈ gw := by decide +kernel
set_option maxRecDepth 100000 in
theorem uw_RX11 : ∀ w ∈ u_ws RX11 TX11 15, w ∈ gw := by decide +kernel
set_option maxRecDepth 100000 in
theorem uw_RX12 : ∀ w ∈ u_ws RX12 TX12 45, w ∈ gw := by decide +kernel
theorem fl_RX11_10 : FLk RX11 10 10 0 := ⟨RX11, TX11, 15, rfl, by decide, uw_RX11, gw_of (i := 398) (by decide +kernel) rfl⟩
theorem fl_RX11_19 : FLk RX11 19 10 1 := ⟨RX11, TX11, 15, rfl, by decide, uw_RX11, gw_of (i := 399) (by decide +kernel) rfl⟩
theorem fl_RX11_26 : FLk RX11 26 10 2 := ⟨RX11, TX11, 15, rfl, by decide, uw_RX11, gw_of (i := 400) (by decide +kernel) rfl⟩
theorem fl_RX11_35 : FLk RX11 35 10 3 := ⟨RX11, TX11, 15, rfl, by decide, uw_RX11, gw_of (i := 401) (by decide +kernel) rfl⟩
theorem fl_RX11_42 : FLk RX11 42 10 4 := ⟨RX11, TX11, 15, rfl, by decide, uw_RX11, gw_of (i := 402) (by decide +kernel) rfl⟩
theorem fl_RX11_49 : FLk RX11 49 10 5 := ⟨RX11, TX11, 15, rfl, by decide, uw_RX11, gw_of (i := 403) (by decide +kernel) rfl⟩
theorem fl_RX11_56 : FLk RX11 56 10 6 := ⟨RX11, TX11, 15, rfl, by decide, uw_RX11, gw_of (i := 404) (by decide +kernel) rfl⟩
theorem fl_RX11_65 : FLk RX11 65 10 7 := ⟨RX11, TX11, 15, rfl, by decide, uw_RX11, gw_of (i := 405) (by decide +kernel) rfl⟩
theorem fl_RX11_69 : FLk RX11 69 10 8 := ⟨RX11, TX11, 15, rfl, by decide, uw_RX11, gw_of (i := 406) (by decide +kernel) rfl⟩
theorem fl_RX11_75 : FLk RX11 75 10 9 := ⟨RX11, TX11, 15, rfl, by decide, uw_RX11, gw_of (i := 407) (by decide +kernel) rfl⟩
theorem fl_RX11_84 : FLk RX11 84 10 10 := ⟨RX11, TX11, 15, rfl, by decide, uw_RX11, gw_of (i := 408) (by decide +kernel) rfl⟩
theorem fl_RX11_88 : FLk RX11 88 10 11 := ⟨RX11, TX11, 15, rfl, by decide, uw_RX11, gw_of (i := 409) (by decide +kernel) rfl⟩
theorem fl_RX11_92 : FLk RX11 92 10 12 := ⟨RX11, TX11, 15, rfl, by decide, uw_RX11, gw_of (i := 410) (by decide +kernel) rfl⟩
theorem fl_RX11_96 : FLk RX11 96 10 13 := ⟨RX11, TX11, 15, rfl, by decide, uw_RX11, gw_of (i := 411) (by decide +kernel) rfl⟩
theorem fl_RX11_100 : FLk RX11 100 10 14 := ⟨RX11, TX11, 15, rfl, by decide, uw_RX11, gw_of (i := 412) (by decide +kernel) rfl⟩
theorem fp_RX11_100 : FPt RX11 100 10 14 .int := ⟨RX11, TX11, 15, rfl, by decide, uw_RX11, gw_of (i := 412) (by decide +kernel) rfl, rfl, by decide +kernel, ⟨tyX11, tyX11_ok⟩, nmX11⟩
theorem fl_RX11_119 : FLk RX11 119 3 5 := ⟨RX3, TX3, 7, rfl, by decide, uw_RX3, gw_of (i := 174) (by decide +kernel) rfl⟩
theorem fp_RX11_119 : FPt RX11 119 3 5 .int := ⟨RX3, TX3, 7, rfl, by decide, uw_RX3, gw_of (i := 174) (by decide +kernel) rfl, rfl, by decide +kernel, ⟨tyX3, tyX3_ok⟩, nmX3⟩
theorem fl_RX11_134 : FLk RX11 134 1 3 := ⟨RX1, TX1, 5, rfl, by decide, uw_RX1, gw_of (i := 209) (by decide +kernel) rfl⟩
theorem fp_RX11_134 : FPt RX11 134 1 3 .int := ⟨RX1, TX1, 5, rfl, by decide, uw_RX1, gw_of (i := 209) (by decide +kernel) rfl, rfl, by decide +kernel, ⟨tyX1, tyX1_ok⟩, nmX1⟩
theorem fl_RX11_160 : FLk RX11 160 3 1 := ⟨RX3, TX3, 7, rfl, by decide, uw_RX3, gw_of (i := 163) (by decide +kernel) rfl⟩
theorem fl_RX11_166 : FLk RX11 166 3 3 := ⟨RX3, TX3, 7, rfl, by decide, uw_RX3, gw_of (i := 168) (by decide +kernel) rfl⟩
theorem fl_RX11_169 : FLk RX11 169 3 4 := ⟨RX3, TX3, 7, rfl, by decide, uw_RX3, gw_of (i := 171) (by decide +kernel) rfl⟩
theorem fl_RX11_172 : FLk RX11 172 4 0 := ⟨RX4, TX4, 9, rfl, by decide, uw_RX4, gw_of (i := 311) (by decide +kernel) rfl⟩
theorem fl_RX11_175 : FLk RX11 175 4 1 := ⟨RX4, TX4, 9, rfl, by decide, uw_RX4, gw_of (i := 313) (by decide +kernel) rfl⟩
theorem fl_RX11_206 : FLk RX11 206 4 4 := ⟨RX4, TX4, 9, rfl, by decide, uw_RX4, gw_of (i := 319) (by decide +kernel) rfl⟩
theorem fl_RX11_256 : FLk RX11 256 5 2 := ⟨RX6, TX6, 3, rfl, by decide, uw_RX6, gw_of (i := 356) (by decide +kernel) rfl⟩
theorem fl_RX11_329 : FLk RX11 329 9 2 := ⟨RX10, TX10, 8, rfl, by decide, uw_RX10, gw_of (i := 375) (by decide +kernel) rfl⟩
theorem fl_RX11_335 : FLk RX11 335 2 0 := ⟨RX2, TX2, 5, rfl, by decide, uw_RX2, gw_of (i := 286) (by decide +kernel) rfl⟩
theorem fl_RX11_345 : FLk RX11 345 2 1 := ⟨RX2, TX2, 5, rfl, by decide, uw_RX2, gw_of (i := 288) (by decide +kernel) rfl⟩
theorem fl_RX11_399 : FLk RX11 399 4 5 := ⟨RX4, TX4, 9, rfl, by decide, uw_RX4, gw_of (i := 321) (by decide +kernel) rfl⟩
theorem fl_RX11_408 : FLk RX11 408 6 1 := ⟨RX7, TX7, 2, rfl, by decide, uw_RX7, gw_of (i := 142) (by decide +kernel) rfl⟩
theorem fl_RX11_409 : FLk RX11 409 8 1 := ⟨RX9, TX9, 4, rfl, by decide, uw_RX9, gw_of (i := 120) (by decide +kernel) rfl⟩
theorem fl_RX11_421 : FLk RX11 421 9 1 := ⟨RX10, TX10, 8, rfl, by decide, uw_RX10, gw_of (i := 373) (by decide +kernel) rfl⟩
theorem fl_RX11_424 : FLk RX11 424 9 0 := ⟨RX10, TX10, 8, rfl, by decide, uw_RX10, gw_of (i := 371) (by decide +kernel) rfl⟩
theorem fl_RX0_9 : FLk RX0 9 0 0 := ⟨RX0, TX0, 3, rfl, by decide, uw_RX0, gw_of (i := 229) (by decide +kernel) rfl⟩
theorem fl_RX0_13 : FLk RX0 13 0 1 := ⟨RX0, TX0, 3, rfl, by decide, uw_RX0, gw_of (i := 231) (by decide +kernel) rfl⟩
theorem fl_RX0_16 : FLk RX0 16 0 2 := ⟨RX0, TX0, 3, rfl, by decide, uw_RX0, gw_of (i := 233) (by decide +kernel) rfl⟩
theorem fl_RX1_9 : FLk RX1 9 1 0 := ⟨RX1, TX1, 5, rfl, by decide, uw_RX1, gw_of (i := 200) (by decide +kernel) rfl⟩
theorem fl_RX1_15 : FLk RX1 15 1 1 := ⟨RX1, TX1, 5, rfl, by decide, uw_RX1, gw_of (i := 203) (by decide +kernel) rfl⟩
theorem fl_RX1_18 : FLk RX1 18 1 2 := ⟨RX1, TX1, 5, rfl, by decide, uw_RX1, gw_of (i := 205) (by decide +kernel) rfl⟩
theorem fl_RX1_21 : FLk RX1 21 1 3 := ⟨RX1, TX1, 5, rfl, by decide, uw_RX1, gw_of (i := 208) (by decide +kernel) rfl⟩
theorem fl_RX1_25 : FLk RX1 25 1 4 := ⟨RX1, TX1, 5, rfl, by decide, uw_RX1, gw_of (i := 211) (by decide +kernel) rfl⟩
theorem fl_RX1_29 : FLk RX1 29 3 5 := ⟨RX3, TX3, 7, rfl, by decide, uw_RX3, gw_of (i := 173) (by decide +kernel) rfl⟩
theorem fl_RX2_9 : FLk RX2 9 2 0 := ⟨RX2, TX2, 5, rfl, by decide, uw_RX2, gw_of (i := 285) (by decide +kernel) rfl⟩
theorem fl_RX2_15 : FLk RX2 15 2 1 := ⟨RX2, TX2, 5, rfl, by decide, uw_RX2, gw_of (i := 287) (by decide +kernel) rfl⟩
theorem fl_RX2_18 : FLk RX2 18 2 2 := ⟨RX2, TX2, 5, rfl, by decide, uw_RX2, gw_of (i := 289) (by decide +kernel) rfl⟩
theorem fl_RX2_21 : FLk RX2 21 2 3 := ⟨RX2, TX2, 5, rfl, by decide, uw_RX2, gw_of (i := 290) (by decide +kernel) rfl⟩
theorem fl_RX2_24 : FLk RX2 24 2 4 := ⟨RX2, TX2, 5, rfl, by decide, uw_RX2, gw_of (i := 291) (by decide +kernel) rfl⟩
theorem fl_RX2_62 : FLk RX2 62 3 4 := ⟨RX3, TX3, 7, rfl, by decide, uw_RX3, gw_of (i := 170) (by decide +kernel) rfl⟩
theorem fl_RX3_9 : FLk RX3 9 3 0 := ⟨RX3, TX3, 7, rfl, by decide, uw_RX3, gw_of (i := 158) (by decide +kernel) rfl⟩
theorem fl_RX3_15 : FLk RX3 15 3 1 := ⟨RX3, TX3, 7, rfl, by decide, uw_RX3, gw_of (i := 161) (by decide +kernel) rfl⟩
theorem fl_RX3_18 : FLk RX3 18 3 2 := ⟨RX3, TX3, 7, rfl, by decide, uw_RX3, gw_of (i := 164) (by decide +kernel) rfl⟩
theorem fl_RX3_22 : FLk RX3 22 3 3 := ⟨RX3, TX3, 7, rfl, by decide, uw_RX3, gw_of (i := 167) (by decide +kernel) rfl⟩
theorem fl_RX3_25 : FLk RX3 25 3 4 := ⟨RX3, TX3, 7, rfl, by decide, uw_RX3, gw_of (i := 169) (by decide +kernel) rfl⟩
theorem fl_RX3_28 : FLk RX3 28 3 5 := ⟨RX3, TX3, 7, rfl, by decide, uw_RX3, gw_of (i := 172) (by decide +kernel) rfl⟩
theorem fl_RX3_32 : FLk RX3 32 3 6 := ⟨RX3, TX3, 7, rfl, by decide, uw_RX3, gw_of (i := 176) (by decide +kernel) rfl⟩
theorem fp_RX3_32 : FPt RX3 32 3 6 .int := ⟨RX3, TX3, 7, rfl, by decide, uw_RX3, gw_of (i := 176) (by decide +kernel) rfl, rfl, by decide +kernel, ⟨tyX3, tyX3_ok⟩, nmX3⟩
theorem fl_RX4_9 : FLk RX4 9 4 0 := ⟨RX4, TX4, 9, rfl, by decide, uw_RX4, gw_of (i := 309) (by decide +kernel) rfl⟩
theorem fl_RX4_15 : FLk RX4 15 4 1 := ⟨RX4, TX4, 9, rfl, by decide, uw_RX4, gw_of (i := 312) (by decide +kernel) rfl⟩
theorem fl_RX4_18 : FLk RX4 18 4 2 := ⟨RX4, TX4, 9, rfl, by decide, uw_RX4, gw_of (i := 314) (by decide +kernel) rfl⟩
theorem fl_RX4_21 : FLk RX4 21 4 3 := ⟨RX4, TX4, 9, rfl, by decide, uw_RX4, gw_of (i := 316) (by decide +kernel) rfl⟩
theorem fl_RX4_24 : FLk RX4 24 4 4 := ⟨RX4, TX4, 9, rfl, by decide, uw_RX4, gw_of (i := 318) (by decide +kernel) rfl⟩
theorem fp_RX4_24 : FPt RX4 24 4 4 .int := ⟨RX4, TX4, 9, rfl, by decide, uw_RX4, gw_of (i := 318) (by decide +kernel) rfl, rfl, by decide +kernel, ⟨tyX4, tyX4_ok⟩, nmX4⟩
theorem fl_RX4_28 : FLk RX4 28 4 5 := ⟨RX4, TX4, 9, rfl, by decide, uw_RX4, gw_of (i := 320) (by decide +kernel) rfl⟩
theorem fp_RX4_28 : FPt RX4 28 4 5 .int := ⟨RX4, TX4, 9, rfl, by decide, uw_RX4, gw_of (i := 320) (by decide +kernel) rfl, rfl, by decide +kernel, ⟨tyX4, tyX4_ok⟩, nmX4⟩
theorem fl_RX4_31 : FLk RX4 31 4 6 := ⟨RX4, TX4, 9, rfl, by decide, uw_RX4, gw_of (i := 322) (by decide +kernel) rfl⟩
theorem fl_RX4_35 : FLk RX4 35 4 7 := ⟨RX4, TX4, 9, rfl, by decide, uw_RX4, gw_of (i := 323) (by decide +kernel) rfl⟩
theorem fl_RX4_39 : FLk RX4 39 4 8 := ⟨RX4, TX4, 9, rfl, by decide, uw_RX4, gw_of (i := 324) (by decide +kernel) rfl⟩
theorem fl_RX4_49 : FLk RX4 49 1 1 := ⟨RX1, TX1, 5, rfl, by decide, uw_RX1, gw_of (i := 204) (by decide +kernel) rfl⟩
theorem fl_RX4_54 : FLk RX4 54 3 5 := ⟨RX3, TX3, 7, rfl, by decide, uw_RX3, gw_of (i := 175) (by decide +kernel) rfl⟩
theorem fl_RX4_75 : FLk RX4 75 3 2 := ⟨RX3, TX3, 7, rfl, by decide, uw_RX3, gw_of (i := 165) (by decide +kernel) rfl⟩
theorem fl_RX4_83 : FLk RX4 83 3 1 := ⟨RX3, TX3, 7, rfl, by decide, uw_RX3, gw_of (i := 162) (by decide +kernel) rfl⟩
theorem fl_RX4_89 : FLk RX4 89 0 0 := ⟨RX0, TX0, 3, rfl, by decide, uw_RX0, gw_of (i := 230) (by decide +kernel) rfl⟩
theorem fl_RX4_94 : FLk RX4 94 0 1 := ⟨RX0, TX0, 3, rfl, by decide, uw_RX0, gw_of (i := 232) (by decide +kernel) rfl⟩
theorem fl_RX4_97 : FLk RX4 97 0 2 := ⟨RX0, TX0, 3, rfl, by decide, uw_RX0, gw_of (i := 234) (by decide +kernel) rfl⟩
theorem fl_RX4_119 : FLk RX4 119 1 3 := ⟨RX1, TX1, 5, rfl, by decide, uw_RX1, gw_of (i := 210) (by decide +kernel) rfl⟩
theorem fl_RX4_120 : FLk RX4 120 1 2 := ⟨RX1, TX1, 5, rfl, by decide, uw_RX1, gw_of (i := 207) (by decide +kernel) rfl⟩
theorem fl_RX4_127 : FLk RX4 127 3 0 := ⟨RX3, TX3, 7, rfl, by decide, uw_RX3, gw_of (i := 160) (by decide +kernel) rfl⟩
theorem fl_RX4_143 : FLk RX4 143 1 0 := ⟨RX1, TX1, 5, rfl, by decide, uw_RX1, gw_of (i := 202) (by decide +kernel) rfl⟩
theorem fl_RX6_11 : FLk RX6 11 5 0 := ⟨RX6, TX6, 3, rfl, by decide, uw_RX6, gw_of (i := 353) (by decide +kernel) rfl⟩
theorem fl_RX6_15 : FLk RX6 15 5 1 := ⟨RX6, TX6, 3, rfl, by decide, uw_RX6, gw_of (i := 354) (by decide +kernel) rfl⟩
theorem fp_RX6_15 : FPt RX6 15 5 1 .int := ⟨RX6, TX6, 3, rfl, by decide, uw_RX6, gw_of (i := 354) (by decide +kernel) rfl, rfl, by decide +kernel, ⟨tyX6, tyX6_ok⟩, nmX6⟩
theorem fl_RX6_19 : FLk RX6 19 5 2 := ⟨RX6, TX6, 3, rfl, by decide, uw_RX6, gw_of (i := 355) (by decide +kernel) rfl⟩
theorem fp_RX6_19 : FPt RX6 19 5 2 .int := ⟨RX6, TX6, 3, rfl, by decide, uw_RX6, gw_of (i := 355) (by decide +kernel) rfl, rfl, by decide +kernel, ⟨tyX6, tyX6_ok⟩, nmX6⟩
theorem fl_RX7_7 : FLk RX7 7 6 0 := ⟨RX7, TX7, 2, rfl, by decide, uw_RX7, gw_of (i := 139) (by decide +kernel) rfl⟩
theorem fl_RX7_13 : FLk RX7 13 6 1 := ⟨RX7, TX7, 2, rfl, by decide, uw_RX7, gw_of (i := 141) (by decide +kernel) rfl⟩
theorem fp_RX7_13 : FPt RX7 13 6 1 .int := ⟨RX7, TX7, 2, rfl, by decide, uw_RX7, gw_of (i := 141) (by decide +kernel) rfl, rfl, by decide +kernel, ⟨tyX7, tyX7_ok⟩, nmX7⟩
theorem fl_RX8_11 : FLk RX8 11 7 0 := ⟨RX8, TX8, 6, rfl, by decide, uw_RX8, gw_of (i := 259) (by decide +kernel) rfl⟩
theorem fl_RX8_15 : FLk RX8 15 7 1 := ⟨RX8, TX8, 6, rfl, by decide, uw_RX8, gw_of (i := 260) (by decide +kernel) rfl⟩
theorem fp_RX8_15 : FPt RX8 15 7 1 .int := ⟨RX8, TX8, 6, rfl, by decide, uw_RX8, gw_of (i := 260) (by decide +kernel) rfl, rfl, by decide +kernel, ⟨tyX8, tyX8_ok⟩, nmX8⟩
theorem fl_RX8_19 : FLk RX8 19 7 2 := ⟨RX8, TX8, 6, rfl, by decide, uw_RX8, gw_of (i := 261) (by decide +kernel) rfl⟩
theorem fl_RX8_22 : FLk RX8 22 7 3 := ⟨RX8, TX8, 6, rfl, by decide, uw_RX8, gw_of (i := 262) (by decide +kernel) rfl⟩
theorem fp_RX8_22 : FPt RX8 22 7 3 .int := ⟨RX8, TX8, 6, rfl, by decide, uw_RX8, gw_of (i := 262) (by decide +kernel) rfl, rfl, by decide +kernel, ⟨tyX8, tyX8_ok⟩, nmX8⟩
theorem fl_RX8_32 : FLk RX8 32 7 4 := ⟨RX8, TX8, 6, rfl, by decide, uw_RX8, gw_of (i := 263) (by decide +kernel) rfl⟩
theorem fl_RX8_35 : FLk RX8 35 7 5 := ⟨RX8, TX8, 6, rfl, by decide, uw_RX8, gw_of (i := 264) (by decide +kernel) rfl⟩
theorem fl_RX9_11 : FLk RX9 11 8 0 := ⟨RX9, TX9, 4, rfl, by decide, uw_RX9, gw_of (i := 118) (by decide +kernel) rfl⟩
theorem fl_RX9_15 : FLk RX9 15 8 1 := ⟨RX9, TX9, 4, rfl, by decide, uw_RX9, gw_of (i := 119) (by decide +kernel) rfl⟩
theorem fp_RX9_15 : FPt RX9 15 8 1 .int := ⟨RX9, TX9, 4, rfl, by decide, uw_RX9, gw_of (i := 119) (by decide +kernel) rfl, rfl, by decide +kernel, ⟨tyX9, tyX9_ok⟩, nmX9⟩
theorem fl_RX9_19 : FLk RX9 19 8 2 := ⟨RX9, TX9, 4, rfl, by decide, uw_RX9, gw_of (i := 121) (by decide +kernel) rfl⟩
theorem fp_RX9_19 : FPt RX9 19 8 2 .int := ⟨RX9, TX9, 4, rfl, by decide, uw_RX9, gw_of (i := 121) (by decide +kernel) rfl, rfl, by decide +kernel, ⟨tyX9, tyX9_ok⟩, nmX9⟩
theorem fl_RX9_22 : FLk RX9 22 8 3 := ⟨RX9, TX9, 4, rfl, by decide, uw_RX9, gw_of (i := 122) (by decide +kernel) rfl⟩
theorem fp_RX9_22 : FPt RX9 22 8 3 .int := ⟨RX9, TX9, 4, rfl, by decide, uw_RX9, gw_of (i := 122) (by decide +kernel) rfl, rfl, by decide +kernel, ⟨tyX9, tyX9_ok⟩, nmX9⟩
theorem fl_RX10_9 : FLk RX10 9 9 0 := ⟨RX10, TX10, 8, rfl, by decide, uw_RX10, gw_of (i := 370) (by decide +kernel) rfl⟩
theorem fl_RX10_15 : FLk RX10 15 9 1 := ⟨RX10, TX10, 8, rfl, by decide, uw_RX10, gw_of (i := 372) (by decide +kernel) rfl⟩
theorem fp_RX10_15 : FPt RX10 15 9 1 .int := ⟨RX10, TX10, 8, rfl, by decide, uw_RX10, gw_of (i := 372) (by decide +kernel) rfl, rfl, by decide +kernel, ⟨tyX10, tyX10_ok⟩, nmX10⟩
theorem fl_RX10_19 : FLk RX10 19 9 2 := ⟨RX10, TX10, 8, rfl, by decide, uw_RX10, gw_of (i := 374) (by decide +kernel) rfl⟩
theorem fp_RX10_19 : FPt RX10 19 9 2 .int := ⟨RX10, TX10, 8, rfl, by decide, uw_RX10, gw_of (i := 374) (by decide +kernel) rfl, rfl, by decide +kernel, ⟨tyX10, tyX10_ok⟩, nmX10⟩
theorem fl_RX10_22 : FLk RX10 22 9 3 := ⟨RX10, TX10, 8, rfl, by decide, uw_RX10, gw_of (i := 376) (by decide +kernel) rfl⟩
theorem fl_RX10_25 : FLk RX10 25 9 4 := ⟨RX10, TX10, 8, rfl, by decide, uw_RX10, gw_of (i := 377) (by decide +kernel) rfl⟩
theorem fp_RX10_25 : FPt RX10 25 9 4 .int := ⟨RX10, TX10, 8, rfl, by decide, uw_RX10, gw_of (i := 377) (by decide +kernel) rfl, rfl, by decide +kernel, ⟨tyX10, tyX10_ok⟩, nmX10⟩
theorem fl_RX10_28 : FLk RX10 28 9 5 := ⟨RX10, TX10, 8, rfl, by decide, uw_RX10, gw_of (i := 378) (by decide +kernel) rfl⟩
theorem fp_RX10_28 : FPt RX10 28 9 5 .boolean := ⟨RX10, TX10, 8, rfl, by decide, uw_RX10, gw_of (i := 378) (by decide +kernel) rfl, rfl, by decide +kernel, ⟨tyX10, tyX10_ok⟩, nmX10⟩
theorem fl_RX10_32 : FLk RX10 32 9 6 := ⟨RX10, TX10, 8, rfl, by decide, uw_RX10, gw_of (i := 379) (by decide +kernel) rfl⟩
theorem fl_RX10_36 : FLk RX10 36 9 7 := ⟨RX10, TX10, 8, rfl, by decide, uw_RX10, gw_of (i := 380) (by decide +kernel) rfl⟩
theorem fl_RX10_64 : FLk RX10 64 4 0 := ⟨RX4, TX4, 9, rfl, by decide, uw_RX4, gw_of (i := 310) (by decide +kernel) rfl⟩
theorem fl_RX12_9 : FLk RX12 9 11 0 := ⟨RX12, TX12, 45, rfl, by decide, uw_RX12, gw_of (i := 1261) (by decide +kernel) rfl⟩
theorem fl_RX12_13 : FLk RX12 13 11 2 := ⟨RX12, TX12, 45, rfl, by decide, uw_RX12, gw_of (i := 1263) (by decide +kernel) rfl⟩
theorem fl_RX12_16 : FLk RX12 16 11 3 := ⟨RX12, TX12, 45, rfl, by decide, uw_RX12, gw_of (i := 1264) (by decide +kernel) rfl⟩
theorem fl_RX12_19 : FLk RX12 19 11 4 := ⟨RX12, TX12, 45, rfl, by decide, uw_RX12, gw_of (i := 1265) (by decide +kernel) rfl⟩
theorem fl_RX12_23 : FLk RX12 23 11 5 := ⟨RX12, TX12, 45, rfl, by decide, uw_RX12, gw_of (i := 1266) (by decide +kernel) rfl⟩
theorem fl_RX12_26 : FLk RX12 26 11 6 := ⟨RX12, TX12, 45, rfl, by decide, uw_RX12, gw_of (i := 1267) (by decide +kernel) rfl⟩
theorem fl_RX12_29 : FLk RX12 29 11 7 := ⟨RX12, TX12, 45, rfl, by decide, uw_RX12, gw_of (i := 1268) (by decide +kernel) rfl⟩
theorem fl_RX12_32 : FLk RX12 32 11 9 := ⟨RX12, TX12, 45, rfl, by decide, uw_RX12, gw_of (i := 1270) (by decide +kernel) rfl⟩
theorem fl_RX12_35 : FLk RX12 35 11 10 := ⟨RX12, TX12, 45, rfl, by decide, uw_RX12, gw_of (i := 1271) (by decide +kernel) rfl⟩
theorem fl_RX12_38 : FLk RX12 38 11 11 := ⟨RX12, TX12, 45, rfl, by decide, uw_RX12, gw_of (i := 1272) (by decide +kernel) rfl⟩
theorem fl_RX12_41 : FLk RX12 41 11 12 := ⟨RX12, TX12, 45, rfl, by decide, uw_RX12, gw_of (i := 1273) (by decide +kernel) rfl⟩
theorem fp_RX12_41 : FPt RX12 41 11 12 .int := ⟨RX12, TX12, 45, rfl, by decide, uw_RX12, gw_of (i := 1273) (by decide +kernel) rfl, rfl, by decide +kernel, ⟨tyX12, tyX12_ok⟩, nmX12⟩
theorem fl_RX12_45 : FLk RX12 45 11 13 := ⟨RX12, TX12, 45, rfl, by decide, uw_RX12, gw_of (i := 1274) (by decide +kernel) rfl⟩
theorem fl_RX12_49 : FLk RX12 49 11 15 := ⟨RX12, TX12, 45, rfl, by decide, uw_RX12, gw_of (i := 1276) (by decide +kernel) rfl⟩
theorem fl_RX12_53 : FLk RX12 53 11 23 := ⟨RX12, TX12, 45, rfl, by decide, uw_RX12, gw_of (i := 1284) (by decide +kernel) rfl⟩
theorem fl_RX12_56 : FLk RX12 56 11 24 := ⟨RX12, TX12, 45, rfl, by decide, uw_RX12, gw_of (i := 1285) (by decide +kernel) rfl⟩
theorem fl_RX12_59 : FLk RX12 59 11 27 := ⟨RX12, TX12, 45, rfl, by decide, uw_RX12, gw_of (i := 1288) (by decide +kernel) rfl⟩
theorem fl_RX12_62 : FLk RX12 62 11 28 := ⟨RX12, TX12, 45, rfl, by decide, uw_RX12, gw_of (i := 1289) (by decide +kernel) rfl⟩
theorem fl_RX12_65 : FLk RX12 65 11 30 := ⟨RX12, TX12, 45, rfl, by decide, uw_RX12, gw_of (i := 1291) (by decide +kernel) rfl⟩
theorem fl_RX12_68 : FLk RX12 68 11 31 := ⟨RX12, TX12, 45, rfl, by decide, uw_RX12, gw_of (i := 1292) (by decide +kernel) rfl⟩
theorem fl_RX12_71 : FLk RX12 71 11 32 := ⟨RX12, TX12, 45, rfl, by decide, uw_RX12, gw_of (i := 1293) (by decide +kernel) rfl⟩
theorem fl_RX12_74 : FLk RX12 74 11 34 := ⟨RX12, TX12, 45, rfl, by decide, uw_RX12, gw_of (i := 1295) (by decide +kernel) rfl⟩
theorem fl_RX12_77 : FLk RX12 77 11 35 := ⟨RX12, TX12, 45, rfl, by decide, uw_RX12, gw_of (i := 1296) (by decide +kernel) rfl⟩
theorem fl_RX12_80 : FLk RX12 80 11 36 := ⟨RX12, TX12, 45, rfl, by decide, uw_RX12, gw_of (i := 1297) (by decide +kernel) rfl⟩
theorem fl_RX12_83 : FLk RX12 83 11 39 := ⟨RX12, TX12, 45, rfl, by decide, uw_RX12, gw_of (i := 1300) (by decide +kernel) rfl⟩
theorem fl_RX12_86 : FLk RX12 86 11 42 := ⟨RX12, TX12, 45, rfl, by decide, uw_RX12, gw_of (i := 1303) (by decide +kernel) rfl⟩
theorem fl_RX12_89 : FLk RX12 89 11 43 := ⟨RX12, TX12, 45, rfl, by decide, uw_RX12, gw_of (i := 1304) (by decide +kernel) rfl⟩
theorem fl_RX12_92 : FLk RX12 92 11 44 := ⟨RX12, TX12, 45, rfl, by decide, uw_RX12, gw_of (i := 1305) (by decide +kernel) rfl⟩
theorem fl_RX12_95 : FLk RX12 95 11 17 := ⟨RX12, TX12, 45, rfl, by decide, uw_RX12, gw_of (i := 1278) (by decide +kernel) rfl⟩
theorem fp_RX12_95 : FPt RX12 95 11 17 .int := ⟨RX12, TX12, 45, rfl, by decide, uw_RX12, gw_of (i := 1278) (by decide +kernel) rfl, rfl, by decide +kernel, ⟨tyX12, tyX12_ok⟩, nmX12⟩
theorem fl_RX12_98 : FLk RX12 98 11 16 := ⟨RX12, TX12, 45, rfl, by decide, uw_RX12, gw_of (i := 1277) (by decide +kernel) rfl⟩
theorem fp_RX12_98 : FPt RX12 98 11 16 .int := ⟨RX12, TX12, 45, rfl, by decide, uw_RX12, gw_of (i := 1277) (by decide +kernel) rfl, rfl, by decide +kernel, ⟨tyX12, tyX12_ok⟩, nmX12⟩
theorem fl_RX12_101 : FLk RX12 101 11 1 := ⟨RX12, TX12, 45, rfl, by decide, uw_RX12, gw_of (i := 1262) (by decide +kernel) rfl⟩
theorem fp_RX12_101 : FPt RX12 101 11 1 .int := ⟨RX12, TX12, 45, rfl, by decide, uw_RX12, gw_of (i := 1262) (by decide +kernel) rfl, rfl, by decide +kernel, ⟨tyX12, tyX12_ok⟩, nmX12⟩
theorem fl_RX12_108 : FLk RX12 108 11 14 := ⟨RX12, TX12, 45, rfl, by decide, uw_RX12, gw_of (i := 1275) (by decide +kernel) rfl⟩
theorem fp_RX12_108 : FPt RX12 108 11 14 .int := ⟨RX12, TX12, 45, rfl, by decide, uw_RX12, gw_of (i := 1275) (by decide +kernel) rfl, rfl, by decide +kernel, ⟨tyX12, tyX12_ok⟩, nmX12⟩
theorem fl_RX12_111 : FLk RX12 111 11 18 := ⟨RX12, TX12, 45, rfl, by decide, uw_RX12, gw_of (i := 1279) (by decide +kernel) rfl⟩
theorem fp_RX12_111 : FPt RX12 111 11 18 (.array .byte) := ⟨RX12, TX12, 45, rfl, by decide, uw_RX12, gw_of (i := 1279) (by decide +kernel) rfl, rfl, by decide +kernel, ⟨tyX12, tyX12_ok⟩, nmX12⟩
theorem fl_RX12_114 : FLk RX12 114 11 19 := ⟨RX12, TX12, 45, rfl, by decide, uw_RX12, gw_of (i := 1280) (by decide +kernel) rfl⟩
theorem fp_RX12_114 : FPt RX12 114 11 19 .int := ⟨RX12, TX12, 45, rfl, by decide, uw_RX12, gw_of (i := 1280) (by decide +kernel) rfl, rfl, by decide +kernel, ⟨tyX12, tyX12_ok⟩, nmX12⟩
theorem fl_RX12_117 : FLk RX12 117 11 20 := ⟨RX12, TX12, 45, rfl, by decide, uw_RX12, gw_of (i := 1281) (by decide +kernel) rfl⟩
theorem fp_RX12_117 : FPt RX12 117 11 20 .int := ⟨RX12, TX12, 45, rfl, by decide, uw_RX12, gw_of (i := 1281) (by decide +kernel) rfl, rfl, by decide +kernel, ⟨tyX12, tyX12_ok⟩, nmX12⟩
theorem fl_RX12_120 : FLk RX12 120 11 21 := ⟨RX12, TX12, 45, rfl, by decide, uw_RX12, gw_of (i := 1282) (by decide +kernel) rfl⟩
theorem fp_RX12_120 : FPt RX12 120 11 21 .int := ⟨RX12, TX12, 45, rfl, by decide, uw_RX12, gw_of (i := 1282) (by decide +kernel) rfl, rfl, by decide +kernel, ⟨tyX12, tyX12_ok⟩, nmX12⟩
theorem fl_RX12_123 : FLk RX12 123 11 22 := ⟨RX12, TX12, 45, rfl, by decide, uw_RX12, gw_of (i := 1283) (by decide +kernel) rfl⟩
theorem fp_RX12_123 : FPt RX12 123 11 22 .int := ⟨RX12, TX12, 45, rfl, by decide, uw_RX12, gw_of (i := 1283) (by decide +kernel) rfl, rfl, by decide +kernel, ⟨tyX12, tyX12_ok⟩, nmX12⟩
theorem fl_RX12_175 : FLk RX12 175 11 29 := ⟨RX12, TX12, 45, rfl, by decide, uw_RX12, gw_of (i := 1290) (by decide +kernel) rfl⟩
theorem fp_RX12_175 : FPt RX12 175 11 29 .int := ⟨RX12, TX12, 45, rfl, by decide, uw_RX12, gw_of (i := 1290) (by decide +kernel) rfl, rfl, by decide +kernel, ⟨tyX12, tyX12_ok⟩, nmX12⟩
theorem fl_RX12_178 : FLk RX12 178 11 41 := ⟨RX12, TX12, 45, rfl, by decide, uw_RX12, gw_of (i := 1302) (by decide +kernel) rfl⟩
theorem fp_RX12_178 : FPt RX12 178 11 41 .int := ⟨RX12, TX12, 45, rfl, by decide, uw_RX12, gw_of (i := 1302) (by decide +kernel) rfl, rfl, by decide +kernel, ⟨tyX12, tyX12_ok⟩, nmX12⟩
theorem fl_RX12_181 : FLk RX12 181 11 8 := ⟨RX12, TX12, 45, rfl, by decide, uw_RX12, gw_of (i := 1269) (by decide +kernel) rfl⟩
theorem fp_RX12_181 : FPt RX12 181 11 8 .int := ⟨RX12, TX12, 45, rfl, by decide, uw_RX12, gw_of (i := 1269) (by decide +kernel) rfl, rfl, by decide +kernel, ⟨tyX12, tyX12_ok⟩, nmX12⟩
theorem fl_RX12_205 : FLk RX12 205 11 26 := ⟨RX12, TX12, 45, rfl, by decide, uw_RX12, gw_of (i := 1287) (by decide +kernel) rfl⟩
theorem fp_RX12_205 : FPt RX12 205 11 26 .boolean := ⟨RX12, TX12, 45, rfl, by decide, uw_RX12, gw_of (i := 1287) (by decide +kernel) rfl, rfl, by decide +kernel, ⟨tyX12, tyX12_ok⟩, nmX12⟩
theorem fl_RX12_209 : FLk RX12 209 11 25 := ⟨RX12, TX12, 45, rfl, by decide, uw_RX12, gw_of (i := 1286) (by decide +kernel) rfl⟩
theorem fp_RX12_209 : FPt RX12 209 11 25 .int := ⟨RX12, TX12, 45, rfl, by decide, uw_RX12, gw_of (i := 1286) (by decide +kernel) rfl, rfl, by decide +kernel, ⟨tyX12, tyX12_ok⟩, nmX12⟩
theorem fl_RX12_283 : FLk RX12 283 11 33 := ⟨RX12, TX12, 45, rfl, by decide, uw_RX12, gw_of (i := 1294) (by decide +kernel) rfl⟩
theorem fp_RX12_283 : FPt RX12 283 11 33 .int := ⟨RX12, TX12, 45, rfl, by decide, uw_RX12, gw_of (i := 1294) (by decide +kernel) rfl, rfl, by decide +kernel, ⟨tyX12, tyX12_ok⟩, nmX12⟩
theorem fl_RX12_316 : FLk RX12 316 11 37 := ⟨RX12, TX12, 45, rfl, by decide, uw_RX12, gw_of (i := 1298) (by decide +kernel) rfl⟩
theorem fp_RX12_316 : FPt RX12 316 11 37 .int := ⟨RX12, TX12, 45, rfl, by decide, uw_RX12, gw_of (i := 1298) (by decide +kernel) rfl, rfl, by decide +kernel, ⟨tyX12, tyX12_ok⟩, nmX12⟩
theorem fl_RX12_335 : FLk RX12 335 11 38 := ⟨RX12, TX12, 45, rfl, by decide, uw_RX12, gw_of (i := 1299) (by decide +kernel) rfl⟩
theorem fp_RX12_335 : FPt RX12 335 11 38 .int := ⟨RX12, TX12, 45, rfl, by decide, uw_RX12, gw_of (i := 1299) (by decide +kernel) rfl, rfl, by decide +kernel, ⟨tyX12, tyX12_ok⟩, nmX12⟩
theorem fl_RX12_379 : FLk RX12 379 11 40 := ⟨RX12, TX12, 45, rfl, by decide, uw_RX12, gw_of (i := 1301) (by decide +kernel) rfl⟩
theorem fp_RX12_379 : FPt RX12 379 11 40 .int := ⟨RX12, TX12, 45, rfl, by decide, uw_RX12, gw_of (i := 1301) (by decide +kernel) rfl, rfl, by decide +kernel, ⟨tyX12, tyX12_ok⟩, nmX12⟩
theorem fs_RJ0_9 : Cond.fieldLink RJ0 9 "java/lang/String" "value" "[B" ∈ gw := gw_of (i := 1849) (by decide +kernel) rfl
theorem fs_RJ0_15 : Cond.fieldLink RJ0 15 "java/lang/String" "coder" "B" ∈ gw := gw_of (i := 1850) (by decide +kernel) rfl
theorem fs_RJ0_38 : Cond.fieldLink RJ0 38 "java/lang/String" "COMPACT_STRINGS" "Z" ∈ gw := gw_of (i := 257) (by decide +kernel) rfl
theorem sf_0_0 : ShF 0 10 0 (.inl 1) := ⟨by decide, _, sh_0, rfl⟩
theorem sf_0_1 : ShF 0 10 1 (.inl 3) := ⟨by decide, _, sh_0, rfl⟩
theorem sf_0_2 : ShF 0 10 2 (.inl 5) := ⟨by decide, _, sh_0, rfl⟩
theorem sf_0_3 : ShF 0 10 3 (.inl 11) := ⟨by decide, _, sh_0, rfl⟩
theorem sf_0_4 : ShF 0 10 4 (.inl 15) := ⟨by decide, _, sh_0, rfl⟩
theorem sf_0_5 : ShF 0 10 5 (.inl 19) := ⟨by decide, _, sh_0, rfl⟩
theorem sf_0_6 : ShF 0 10 6 (.inl 24) := ⟨by decide, _, sh_0, rfl⟩
theorem sf_0_7 : ShF 0 10 7 (.inl 33) := ⟨by decide, _, sh_0, rfl⟩
theorem sf_0_8 : ShF 0 10 8 (.inl 38) := ⟨by decide, _, sh_0, rfl⟩
theorem sf_0_9 : ShF 0 10 9 (.inl 29) := ⟨by decide, _, sh_0, rfl⟩
theorem sf_0_10 : ShF 0 10 10 (.inl 31) := ⟨by decide, _, sh_0, rfl⟩
theorem sf_0_11 : ShF 0 10 11 (.inl 32) := ⟨by decide, _, sh_0, rfl⟩
theorem sf_0_12 : ShF 0 10 12 (.inl 120) := ⟨by decide, _, sh_0, rfl⟩
theorem sf_0_13 : ShF 0 10 13 (.inl 121) := ⟨by decide, _, sh_0, rfl⟩
theorem sf_0_14 : ShF 0 10 14 (.inr false) := ⟨by decide, _, sh_0, rfl⟩
theorem sf_1_0 : ShF 1 8 0 (.inl 2) := ⟨by decide, _, sh_1, rfl⟩
theorem sf_1_1 : ShF 1 8 1 (.inr false) := ⟨by decide, _, sh_1, rfl⟩
theorem sf_1_2 : ShF 1 8 2 (.inr false) := ⟨by decide, _, sh_1, rfl⟩
theorem sf_1_3 : ShF 1 8 3 (.inr false) := ⟨by decide, _, sh_1, rfl⟩
theorem sf_3_0 : ShF 3 6 0 (.inl 4) := ⟨by decide, _, sh_3, rfl⟩
theorem sf_3_1 : ShF 3 6 1 (.inr false) := ⟨by decide, _, sh_3, rfl⟩
theorem sf_5_0 : ShF 5 3 0 (.inl 6) := ⟨by decide, _, sh_5, rfl⟩
theorem sf_5_1 : ShF 5 3 1 (.inl 7) := ⟨by decide, _, sh_5, rfl⟩
theorem sf_5_2 : ShF 5 3 2 (.inl 8) := ⟨by decide, _, sh_5, rfl⟩
theorem sf_5_3 : ShF 5 3 3 (.inl 9) := ⟨by decide, _, sh_5, rfl⟩
theorem sf_5_4 : ShF 5 3 4 (.inl 10) := ⟨by decide, _, sh_5, rfl⟩
theorem sf_5_5 : ShF 5 3 5 (.inr false) := ⟨by decide, _, sh_5, rfl⟩
theorem sf_5_6 : ShF 5 3 6 (.inr false) := ⟨by decide, _, sh_5, rfl⟩
theorem sf_11_0 : ShF 11 1 0 (.inl 12) := ⟨by decide, _, sh_11, rfl⟩
theorem sf_11_1 : ShF 11 1 1 (.inl 13) := ⟨by decide, _, sh_11, rfl⟩
theorem sf_11_2 : ShF 11 1 2 (.inl 14) := ⟨by decide, _, sh_11, rfl⟩
theorem sf_11_3 : ShF 11 1 3 (.inr false) := ⟨by decide, _, sh_11, rfl⟩
theorem sf_11_4 : ShF 11 1 4 (.inl 5) := ⟨by decide, _, sh_11, rfl⟩
theorem sf_15_0 : ShF 15 0 0 (.inl 16) := ⟨by decide, _, sh_15, rfl⟩
theorem sf_15_1 : ShF 15 0 1 (.inl 17) := ⟨by decide, _, sh_15, rfl⟩
theorem sf_15_2 : ShF 15 0 2 (.inl 18) := ⟨by decide, _, sh_15, rfl⟩
theorem sf_19_0 : ShF 19 7 0 (.inl 20) := ⟨by decide, _, sh_19, rfl⟩
theorem sf_19_1 : ShF 19 7 1 (.inr false) := ⟨by decide, _, sh_19, rfl⟩
theorem sf_19_2 : ShF 19 7 2 (.inl 21) := ⟨by decide, _, sh_19, rfl⟩
theorem sf_19_3 : ShF 19 7 3 (.inr false) := ⟨by decide, _, sh_19, rfl⟩
theorem sf_19_4 : ShF 19 7 4 (.inl 22) := ⟨by decide, _, sh_19, rfl⟩
theorem sf_19_5 : ShF 19 7 5 (.inl 23) := ⟨by decide, _, sh_19, rfl⟩
theorem sf_24_0 : ShF 24 2 0 (.inl 25) := ⟨by decide, _, sh_24, rfl⟩
theorem sf_24_1 : ShF 24 2 1 (.inl 26) := ⟨by decide, _, sh_24, rfl⟩
theorem sf_24_2 : ShF 24 2 2 (.inl 27) := ⟨by decide, _, sh_24, rfl⟩
theorem sf_24_3 : ShF 24 2 3 (.inl 28) := ⟨by decide, _, sh_24, rfl⟩
theorem sf_24_4 : ShF 24 2 4 (.inl 5) := ⟨by decide, _, sh_24, rfl⟩
theorem sf_29_0 : ShF 29 5 0 (.inl 30) := ⟨by decide, _, sh_29, rfl⟩
theorem sf_29_1 : ShF 29 5 1 (.inr false) := ⟨by decide, _, sh_29, rfl⟩
theorem sf_29_2 : ShF 29 5 2 (.inr false) := ⟨by decide, _, sh_29, rfl⟩
theorem sf_31_0 : ShF 31 9 0 (.inl 118) := ⟨by decide, _, sh_31, rfl⟩
theorem sf_31_1 : ShF 31 9 1 (.inr false) := ⟨by decide, _, sh_31, rfl⟩
theorem sf_31_2 : ShF 31 9 2 (.inr false) := ⟨by decide, _, sh_31, rfl⟩
theorem sf_31_3 : ShF 31 9 3 (.inl 119) := ⟨by decide, _, sh_31, rfl⟩
theorem sf_31_4 : ShF 31 9 4 (.inr false) := ⟨by decide, _, sh_31, rfl⟩
theorem sf_31_5 : ShF 31 9 5 (.inr false) := ⟨by decide, _, sh_31, rfl⟩
theorem sf_31_6 : ShF 31 9 6 (.inl 33) := ⟨by decide, _, sh_31, rfl⟩
theorem sf_31_7 : ShF 31 9 7 (.inl 24) := ⟨by decide, _, sh_31, rfl⟩
theorem sf_33_0 : ShF 33 4 0 (.inl 34) := ⟨by decide, _, sh_33, rfl⟩
theorem sf_33_1 : ShF 33 4 1 (.inl 35) := ⟨by decide, _, sh_33, rfl⟩
theorem sf_33_2 : ShF 33 4 2 (.inl 36) := ⟨by decide, _, sh_33, rfl⟩
theorem sf_33_3 : ShF 33 4 3 (.inl 37) := ⟨by decide, _, sh_33, rfl⟩
theorem sf_33_4 : ShF 33 4 4 (.inr false) := ⟨by decide, _, sh_33, rfl⟩
theorem sf_33_5 : ShF 33 4 5 (.inr false) := ⟨by decide, _, sh_33, rfl⟩
theorem sf_33_6 : ShF 33 4 6 (.inl 5) := ⟨by decide, _, sh_33, rfl⟩
theorem sf_33_7 : ShF 33 4 7 (.inl 11) := ⟨by decide, _, sh_33, rfl⟩
theorem sf_33_8 : ShF 33 4 8 (.inl 19) := ⟨by decide, _, sh_33, rfl⟩
theorem sf_38_0 : ShF 38 4 0 (.inl 39) := ⟨by decide, _, sh_38, rfl⟩
theorem sf_38_1 : ShF 38 4 1 (.inl 40) := ⟨by decide, _, sh_38, rfl⟩
theorem sf_38_2 : ShF 38 4 2 (.inl 41) := ⟨by decide, _, sh_38, rfl⟩
theorem sf_38_3 : ShF 38 4 3 (.inl 42) := ⟨by decide, _, sh_38, rfl⟩
theorem sf_38_4 : ShF 38 4 4 (.inr false) := ⟨by decide, _, sh_38, rfl⟩
theorem sf_38_5 : ShF 38 4 5 (.inr false) := ⟨by decide, _, sh_38, rfl⟩
theorem sf_38_6 : ShF 38 4 6 (.inl 5) := ⟨by decide, _, sh_38, rfl⟩
theorem sf_38_7 : ShF 38 4 7 (.inl 11) := ⟨by decide, _, sh_38, rfl⟩
theorem sf_38_8 : ShF 38 4 8 (.inl 19) := ⟨by decide, _, sh_38, rfl⟩
theorem sf_43_0 : ShF 43 4 0 (.inl 44) := ⟨by decide, _, sh_43, rfl⟩
theorem sf_43_1 : ShF 43 4 1 (.inl 45) := ⟨by decide, _, sh_43, rfl⟩
theorem sf_43_2 : ShF 43 4 2 (.inl 46) := ⟨by decide, _, sh_43, rfl⟩
theorem sf_43_3 : ShF 43 4 3 (.inl 47) := ⟨by decide, _, sh_43, rfl⟩
theorem sf_43_4 : ShF 43 4 4 (.inr false) := ⟨by decide, _, sh_43, rfl⟩
theorem sf_43_5 : ShF 43 4 5 (.inr false) := ⟨by decide, _, sh_43, rfl⟩
theorem sf_48_0 : ShF 48 4 0 (.inl 49) := ⟨by decide, _, sh_48, rfl⟩
theorem sf_48_1 : ShF 48 4 1 (.inl 50) := ⟨by decide, _, sh_48, rfl⟩
theorem sf_48_2 : ShF 48 4 2 (.inl 51) := ⟨by decide, _, sh_48, rfl⟩
theorem sf_48_3 : ShF 48 4 3 (.inl 52) := ⟨by decide, _, sh_48, rfl⟩
theorem sf_48_4 : ShF 48 4 4 (.inr false) := ⟨by decide, _, sh_48, rfl⟩
theorem sf_48_5 : ShF 48 4 5 (.inr false) := ⟨by decide, _, sh_48, rfl⟩
theorem sf_53_0 : ShF 53 4 0 (.inl 54) := ⟨by decide, _, sh_53, rfl⟩
theorem sf_53_1 : ShF 53 4 1 (.inl 55) := ⟨by decide, _, sh_53, rfl⟩
theorem sf_53_2 : ShF 53 4 2 (.inl 56) := ⟨by decide, _, sh_53, rfl⟩
theorem sf_53_3 : ShF 53 4 3 (.inl 57) := ⟨by decide, _, sh_53, rfl⟩
theorem sf_53_4 : ShF 53 4 4 (.inr false) := ⟨by decide, _, sh_53, rfl⟩
theorem sf_53_5 : ShF 53 4 5 (.inr false) := ⟨by decide, _, sh_53, rfl⟩
theorem sf_58_0 : ShF 58 4 0 (.inl 59) := ⟨by decide, _, sh_58, rfl⟩
theorem sf_58_1 : ShF 58 4 1 (.inl 60) := ⟨by decide, _, sh_58, rfl⟩
theorem sf_58_2 : ShF 58 4 2 (.inl 61) := ⟨by decide, _, sh_58, rfl⟩
theorem sf_58_3 : ShF 58 4 3 (.inl 62) := ⟨by decide, _, sh_58, rfl⟩
theorem sf_58_4 : ShF 58 4 4 (.inr false) := ⟨by decide, _, sh_58, rfl⟩
theorem sf_58_5 : ShF 58 4 5 (.inr false) := ⟨by decide, _, sh_58, rfl⟩
theorem sf_63_0 : ShF 63 4 0 (.inl 64) := ⟨by decide, _, sh_63, rfl⟩
theorem sf_63_1 : ShF 63 4 1 (.inl 65) := ⟨by decide, _, sh_63, rfl⟩
theorem sf_63_2 : ShF 63 4 2 (.inl 66) := ⟨by decide, _, sh_63, rfl⟩
theorem sf_63_3 : ShF 63 4 3 (.inl 67) := ⟨by decide, _, sh_63, rfl⟩
theorem sf_63_4 : ShF 63 4 4 (.inr false) := ⟨by decide, _, sh_63, rfl⟩
theorem sf_63_5 : ShF 63 4 5 (.inr false) := ⟨by decide, _, sh_63, rfl⟩
theorem sf_68_0 : ShF 68 4 0 (.inl 69) := ⟨by decide, _, sh_68, rfl⟩
theorem sf_68_1 : ShF 68 4 1 (.inl 70) := ⟨by decide, _, sh_68, rfl⟩
theorem sf_68_2 : ShF 68 4 2 (.inl 71) := ⟨by decide, _, sh_68, rfl⟩
theorem sf_68_3 : ShF 68 4 3 (.inl 72) := ⟨by decide, _, sh_68, rfl⟩
theorem sf_68_4 : ShF 68 4 4 (.inr false) := ⟨by decide, _, sh_68, rfl⟩
theorem sf_68_5 : ShF 68 4 5 (.inr false) := ⟨by decide, _, sh_68, rfl⟩
theorem sf_73_0 : ShF 73 4 0 (.inl 74) := ⟨by decide, _, sh_73, rfl⟩
theorem sf_73_1 : ShF 73 4 1 (.inl 75) := ⟨by decide, _, sh_73, rfl⟩
theorem sf_73_2 : ShF 73 4 2 (.inl 76) := ⟨by decide, _, sh_73, rfl⟩
theorem sf_73_3 : ShF 73 4 3 (.inl 77) := ⟨by decide, _, sh_73, rfl⟩
theorem sf_73_4 : ShF 73 4 4 (.inr false) := ⟨by decide, _, sh_73, rfl⟩
theorem sf_73_5 : ShF 73 4 5 (.inr false) := ⟨by decide, _, sh_73, rfl⟩
theorem sf_78_0 : ShF 78 4 0 (.inl 79) := ⟨by decide, _, sh_78, rfl⟩
theorem sf_78_1 : ShF 78 4 1 (.inl 80) := ⟨by decide, _, sh_78, rfl⟩
theorem sf_78_2 : ShF 78 4 2 (.inl 81) := ⟨by decide, _, sh_78, rfl⟩
theorem sf_78_3 : ShF 78 4 3 (.inl 82) := ⟨by decide, _, sh_78, rfl⟩
theorem sf_78_4 : ShF 78 4 4 (.inr false) := ⟨by decide, _, sh_78, rfl⟩
theorem sf_78_5 : ShF 78 4 5 (.inr false) := ⟨by decide, _, sh_78, rfl⟩
theorem sf_83_0 : ShF 83 4 0 (.inl 84) := ⟨by decide, _, sh_83, rfl⟩
theorem sf_83_1 : ShF 83 4 1 (.inl 85) := ⟨by decide, _, sh_83, rfl⟩
theorem sf_83_2 : ShF 83 4 2 (.inl 86) := ⟨by decide, _, sh_83, rfl⟩
theorem sf_83_3 : ShF 83 4 3 (.inl 87) := ⟨by decide, _, sh_83, rfl⟩
theorem sf_83_4 : ShF 83 4 4 (.inr false) := ⟨by decide, _, sh_83, rfl⟩
theorem sf_83_5 : ShF 83 4 5 (.inr false) := ⟨by decide, _, sh_83, rfl⟩
theorem sf_88_0 : ShF 88 4 0 (.inl 89) := ⟨by decide, _, sh_88, rfl⟩
theorem sf_88_1 : ShF 88 4 1 (.inl 90) := ⟨by decide, _, sh_88, rfl⟩
theorem sf_88_2 : ShF 88 4 2 (.inl 91) := ⟨by decide, _, sh_88, rfl⟩
theorem sf_88_3 : ShF 88 4 3 (.inl 92) := ⟨by decide, _, sh_88, rfl⟩
theorem sf_88_4 : ShF 88 4 4 (.inr false) := ⟨by decide, _, sh_88, rfl⟩
theorem sf_88_5 : ShF 88 4 5 (.inr false) := ⟨by decide, _, sh_88, rfl⟩
theorem sf_93_0 : ShF 93 4 0 (.inl 94) := ⟨by decide, _, sh_93, rfl⟩
theorem sf_93_1 : ShF 93 4 1 (.inl 95) := ⟨by decide, _, sh_93, rfl⟩
theorem sf_93_2 : ShF 93 4 2 (.inl 96) := ⟨by decide, _, sh_93, rfl⟩
theorem sf_93_3 : ShF 93 4 3 (.inl 97) := ⟨by decide, _, sh_93, rfl⟩
theorem sf_93_4 : ShF 93 4 4 (.inr false) := ⟨by decide, _, sh_93, rfl⟩
theorem sf_93_5 : ShF 93 4 5 (.inr false) := ⟨by decide, _, sh_93, rfl⟩
theorem sf_98_0 : ShF 98 4 0 (.inl 99) := ⟨by decide, _, sh_98, rfl⟩
theorem sf_98_1 : ShF 98 4 1 (.inl 100) := ⟨by decide, _, sh_98, rfl⟩
theorem sf_98_2 : ShF 98 4 2 (.inl 101) := ⟨by decide, _, sh_98, rfl⟩
theorem sf_98_3 : ShF 98 4 3 (.inl 102) := ⟨by decide, _, sh_98, rfl⟩
theorem sf_98_4 : ShF 98 4 4 (.inr false) := ⟨by decide, _, sh_98, rfl⟩
theorem sf_98_5 : ShF 98 4 5 (.inr false) := ⟨by decide, _, sh_98, rfl⟩
theorem sf_103_0 : ShF 103 4 0 (.inl 104) := ⟨by decide, _, sh_103, rfl⟩
theorem sf_103_1 : ShF 103 4 1 (.inl 105) := ⟨by decide, _, sh_103, rfl⟩
theorem sf_103_2 : ShF 103 4 2 (.inl 106) := ⟨by decide, _, sh_103, rfl⟩
theorem sf_103_3 : ShF 103 4 3 (.inl 107) := ⟨by decide, _, sh_103, rfl⟩
theorem sf_103_4 : ShF 103 4 4 (.inr false) := ⟨by decide, _, sh_103, rfl⟩
theorem sf_103_5 : ShF 103 4 5 (.inr false) := ⟨by decide, _, sh_103, rfl⟩
theorem sf_108_0 : ShF 108 4 0 (.inl 109) := ⟨by decide, _, sh_108, rfl⟩
theorem sf_108_1 : ShF 108 4 1 (.inl 110) := ⟨by decide, _, sh_108, rfl⟩
theorem sf_108_2 : ShF 108 4 2 (.inl 111) := ⟨by decide, _, sh_108, rfl⟩
theorem sf_108_3 : ShF 108 4 3 (.inl 112) := ⟨by decide, _, sh_108, rfl⟩
theorem sf_108_4 : ShF 108 4 4 (.inr false) := ⟨by decide, _, sh_108, rfl⟩
theorem sf_108_5 : ShF 108 4 5 (.inr false) := ⟨by decide, _, sh_108, rfl⟩
theorem sf_113_0 : ShF 113 4 0 (.inl 114) := ⟨by decide, _, sh_113, rfl⟩
theorem sf_113_1 : ShF 113 4 1 (.inl 115) := ⟨by decide, _, sh_113, rfl⟩
theorem sf_113_2 : ShF 113 4 2 (.inl 116) := ⟨by decide, _, sh_113, rfl⟩
theorem sf_113_3 : ShF 113 4 3 (.inl 117) := ⟨by decide, _, sh_113, rfl⟩
theorem sf_113_4 : ShF 113 4 4 (.inr false) := ⟨by decide, _, sh_113, rfl⟩
theorem sf_113_5 : ShF 113 4 5 (.inr false) := ⟨by decide, _, sh_113, rfl⟩
theorem sf_122_0 : ShF 122 11 0 (.inl 123) := ⟨by decide, _, sh_122, rfl⟩
theorem sf_122_1 : ShF 122 11 1 (.inr false) := ⟨by decide, _, sh_122, rfl⟩
theorem sf_122_2 : ShF 122 11 2 (.inl 124) := ⟨by decide, _, sh_122, rfl⟩
theorem sf_122_3 : ShF 122 11 3 (.inl 125) := ⟨by decide, _, sh_122, rfl⟩
theorem sf_122_4 : ShF 122 11 4 (.inl 126) := ⟨by decide, _, sh_122, rfl⟩
theorem sf_122_5 : ShF 122 11 5 (.inl 127) := ⟨by decide, _, sh_122, rfl⟩
theorem sf_122_6 : ShF 122 11 6 (.inl 128) := ⟨by decide, _, sh_122, rfl⟩
theorem sf_122_7 : ShF 122 11 7 (.inl 129) := ⟨by decide, _, sh_122, rfl⟩
theorem sf_122_8 : ShF 122 11 8 (.inr false) := ⟨by decide, _, sh_122, rfl⟩
theorem sf_122_9 : ShF 122 11 9 (.inl 130) := ⟨by decide, _, sh_122, rfl⟩
theorem sf_122_10 : ShF 122 11 10 (.inl 131) := ⟨by decide, _, sh_122, rfl⟩
theorem sf_122_11 : ShF 122 11 11 (.inl 132) := ⟨by decide, _, sh_122, rfl⟩
theorem sf_122_12 : ShF 122 11 12 (.inr false) := ⟨by decide, _, sh_122, rfl⟩
theorem sf_122_13 : ShF 122 11 13 (.inl 133) := ⟨by decide, _, sh_122, rfl⟩
theorem sf_122_14 : ShF 122 11 14 (.inr false) := ⟨by decide, _, sh_122, rfl⟩
theorem sf_122_15 : ShF 122 11 15 (.inl 134) := ⟨by decide, _, sh_122, rfl⟩
theorem sf_122_16 : ShF 122 11 16 (.inr false) := ⟨by decide, _, sh_122, rfl⟩
theorem sf_122_17 : ShF 122 11 17 (.inr false) := ⟨by decide, _, sh_122, rfl⟩
theorem sf_122_18 : ShF 122 11 18 (.inr true) := ⟨by decide, _, sh_122, rfl⟩
theorem sf_122_19 : ShF 122 11 19 (.inr false) := ⟨by decide, _, sh_122, rfl⟩
theorem sf_122_20 : ShF 122 11 20 (.inr false) := ⟨by decide, _, sh_122, rfl⟩
theorem sf_122_21 : ShF 122 11 21 (.inr false) := ⟨by decide, _, sh_122, rfl⟩
theorem sf_122_22 : ShF 122 11 22 (.inr false) := ⟨by decide, _, sh_122, rfl⟩
theorem sf_122_23 : ShF 122 11 23 (.inl 135) := ⟨by decide, _, sh_122, rfl⟩
theorem sf_122_24 : ShF 122 11 24 (.inl 136) := ⟨by decide, _, sh_122, rfl⟩
theorem sf_122_25 : ShF 122 11 25 (.inr false) := ⟨by decide, _, sh_122, rfl⟩
theorem sf_122_26 : ShF 122 11 26 (.inr false) := ⟨by decide, _, sh_122, rfl⟩
theorem sf_122_27 : ShF 122 11 27 (.inl 137) := ⟨by decide, _, sh_122, rfl⟩
theorem sf_122_28 : ShF 122 11 28 (.inl 138) := ⟨by decide, _, sh_122, rfl⟩
theorem sf_122_29 : ShF 122 11 29 (.inr false) := ⟨by decide, _, sh_122, rfl⟩
theorem sf_122_30 : ShF 122 11 30 (.inl 139) := ⟨by decide, _, sh_122, rfl⟩
theorem sf_122_31 : ShF 122 11 31 (.inl 140) := ⟨by decide, _, sh_122, rfl⟩
theorem sf_122_32 : ShF 122 11 32 (.inl 141) := ⟨by decide, _, sh_122, rfl⟩
theorem sf_122_33 : ShF 122 11 33 (.inr false) := ⟨by decide, _, sh_122, rfl⟩
theorem sf_122_34 : ShF 122 11 34 (.inl 142) := ⟨by decide, _, sh_122, rfl⟩
theorem sf_122_35 : ShF 122 11 35 (.inl 143) := ⟨by decide, _, sh_122, rfl⟩
theorem sf_122_36 : ShF 122 11 36 (.inl 144) := ⟨by decide, _, sh_122, rfl⟩
theorem sf_122_37 : ShF 122 11 37 (.inr false) := ⟨by decide, _, sh_122, rfl⟩
theorem sf_122_38 : ShF 122 11 38 (.inr false) := ⟨by decide, _, sh_122, rfl⟩
theorem sf_122_39 : ShF 122 11 39 (.inl 145) := ⟨by decide, _, sh_122, rfl⟩
theorem sf_122_40 : ShF 122 11 40 (.inr false) := ⟨by decide, _, sh_122, rfl⟩
theorem sf_122_41 : ShF 122 11 41 (.inr false) := ⟨by decide, _, sh_122, rfl⟩
theorem sf_122_42 : ShF 122 11 42 (.inl 146) := ⟨by decide, _, sh_122, rfl⟩
theorem sf_122_43 : ShF 122 11 43 (.inl 147) := ⟨by decide, _, sh_122, rfl⟩
theorem sf_122_44 : ShF 122 11 44 (.inl 148) := ⟨by decide, _, sh_122, rfl⟩
theorem sa_2 : ShA 2 1 80 := ⟨by decide, sh_2⟩
theorem sa_4 : ShA 4 4 8 := ⟨by decide, sh_4⟩
theorem sa_6 : ShA 6 0 6 := ⟨by decide, sh_6⟩
theorem sa_7 : ShA 7 0 6 := ⟨by decide, sh_7⟩
theorem sa_8 : ShA 8 3 6 := ⟨by decide, sh_8⟩
theorem sa_9 : ShA 9 0 6 := ⟨by decide, sh_9⟩
theorem sa_10 : ShA 10 0 6 := ⟨by decide, sh_10⟩
theorem sa_12 : ShA 12 0 8 := ⟨by decide, sh_12⟩
theorem sa_13 : ShA 13 0 8 := ⟨by decide, sh_13⟩
theorem sa_14 : ShA 14 0 8 := ⟨by decide, sh_14⟩
theorem sa_16 : ShA 16 0 20 := ⟨by decide, sh_16⟩
theorem sa_17 : ShA 17 0 20 := ⟨by decide, sh_17⟩
theorem sa_18 : ShA 18 0 20 := ⟨by decide, sh_18⟩
theorem sa_20 : ShA 20 0 40 := ⟨by decide, sh_20⟩
theorem sa_21 : ShA 21 0 40 := ⟨by decide, sh_21⟩
theorem sa_22 : ShA 22 0 6 := ⟨by decide, sh_22⟩
theorem sa_23 : ShA 23 0 40 := ⟨by decide, sh_23⟩
theorem sa_25 : ShA 25 0 4 := ⟨by decide, sh_25⟩
theorem sa_26 : ShA 26 0 4 := ⟨by decide, sh_26⟩
theorem sa_27 : ShA 27 0 8 := ⟨by decide, sh_27⟩
theorem sa_28 : ShA 28 0 8 := ⟨by decide, sh_28⟩
theorem sa_34 : ShA 34 0 6 := ⟨by decide, sh_34⟩
theorem sa_35 : ShA 35 0 6 := ⟨by decide, sh_35⟩
theorem sa_36 : ShA 36 0 6 := ⟨by decide, sh_36⟩
theorem sa_37 : ShA 37 0 8 := ⟨by decide, sh_37⟩
theorem sa_39 : ShA 39 0 6 := ⟨by decide, sh_39⟩
theorem sa_40 : ShA 40 0 6 := ⟨by decide, sh_40⟩
theorem sa_41 : ShA 41 0 6 := ⟨by decide, sh_41⟩
theorem sa_42 : ShA 42 0 8 := ⟨by decide, sh_42⟩
theorem sa_44 : ShA 44 0 6 := ⟨by decide, sh_44⟩
theorem sa_45 : ShA 45 0 6 := ⟨by decide, sh_45⟩
theorem sa_46 : ShA 46 0 6 := ⟨by decide, sh_46⟩
theorem sa_47 : ShA 47 0 8 := ⟨by decide, sh_47⟩
theorem sa_49 : ShA 49 0 6 := ⟨by decide, sh_49⟩
theorem sa_50 : ShA 50 0 6 := ⟨by decide, sh_50⟩
theorem sa_51 : ShA 51 0 6 := ⟨by decide, sh_51⟩
theorem sa_52 : ShA 52 0 8 := ⟨by decide, sh_52⟩
theorem sa_54 : ShA 54 0 6 := ⟨by decide, sh_54⟩
theorem sa_55 : ShA 55 0 6 := ⟨by decide, sh_55⟩
theorem sa_56 : ShA 56 0 6 := ⟨by decide, sh_56⟩
theorem sa_57 : ShA 57 0 8 := ⟨by decide, sh_57⟩
theorem sa_59 : ShA 59 0 6 := ⟨by decide, sh_59⟩
theorem sa_60 : ShA 60 0 6 := ⟨by decide, sh_60⟩
theorem sa_61 : ShA 61 0 6 := ⟨by decide, sh_61⟩
theorem sa_62 : ShA 62 0 8 := ⟨by decide, sh_62⟩
theorem sa_64 : ShA 64 0 6 := ⟨by decide, sh_64⟩
theorem sa_65 : ShA 65 0 6 := ⟨by decide, sh_65⟩
theorem sa_66 : ShA 66 0 6 := ⟨by decide, sh_66⟩
theorem sa_67 : ShA 67 0 8 := ⟨by decide, sh_67⟩
theorem sa_69 : ShA 69 0 6 := ⟨by decide, sh_69⟩
theorem sa_70 : ShA 70 0 6 := ⟨by decide, sh_70⟩
theorem sa_71 : ShA 71 0 6 := ⟨by decide, sh_71⟩
theorem sa_72 : ShA 72 0 8 := ⟨by decide, sh_72⟩
theorem sa_74 : ShA 74 0 6 := ⟨by decide, sh_74⟩
theorem sa_75 : ShA 75 0 6 := ⟨by decide, sh_75⟩
theorem sa_76 : ShA 76 0 6 := ⟨by decide, sh_76⟩
theorem sa_77 : ShA 77 0 8 := ⟨by decide, sh_77⟩
theorem sa_79 : ShA 79 0 6 := ⟨by decide, sh_79⟩
theorem sa_80 : ShA 80 0 6 := ⟨by decide, sh_80⟩
theorem sa_81 : ShA 81 0 6 := ⟨by decide, sh_81⟩
theorem sa_82 : ShA 82 0 8 := ⟨by decide, sh_82⟩
theorem sa_84 : ShA 84 0 6 := ⟨by decide, sh_84⟩
theorem sa_85 : ShA 85 0 6 := ⟨by decide, sh_85⟩
theorem sa_86 : ShA 86 0 6 := ⟨by decide, sh_86⟩
theorem sa_87 : ShA 87 0 8 := ⟨by decide, sh_87⟩
theorem sa_89 : ShA 89 0 6 := ⟨by decide, sh_89⟩
theorem sa_90 : ShA 90 0 6 := ⟨by decide, sh_90⟩
theorem sa_91 : ShA 91 0 6 := ⟨by decide, sh_91⟩
theorem sa_92 : ShA 92 0 8 := ⟨by decide, sh_92⟩
theorem sa_94 : ShA 94 0 6 := ⟨by decide, sh_94⟩
theorem sa_95 : ShA 95 0 6 := ⟨by decide, sh_95⟩
theorem sa_96 : ShA 96 0 6 := ⟨by decide, sh_96⟩
theorem sa_97 : ShA 97 0 8 := ⟨by decide, sh_97⟩
theorem sa_99 : ShA 99 0 6 := ⟨by decide, sh_99⟩
theorem sa_100 : ShA 100 0 6 := ⟨by decide, sh_100⟩
theorem sa_101 : ShA 101 0 6 := ⟨by decide, sh_101⟩
theorem sa_102 : ShA 102 0 8 := ⟨by decide, sh_102⟩
theorem sa_104 : ShA 104 0 6 := ⟨by decide, sh_104⟩
theorem sa_105 : ShA 105 0 6 := ⟨by decide, sh_105⟩
theorem sa_106 : ShA 106 0 6 := ⟨by decide, sh_106⟩
theorem sa_107 : ShA 107 0 8 := ⟨by decide, sh_107⟩
theorem sa_109 : ShA 109 0 6 := ⟨by decide, sh_109⟩
theorem sa_110 : ShA 110 0 6 := ⟨by decide, sh_110⟩
theorem sa_111 : ShA 111 0 6 := ⟨by decide, sh_111⟩
theorem sa_112 : ShA 112 0 8 := ⟨by decide, sh_112⟩
theorem sa_114 : ShA 114 0 6 := ⟨by decide, sh_114⟩
theorem sa_115 : ShA 115 0 6 := ⟨by decide, sh_115⟩
theorem sa_116 : ShA 116 0 6 := ⟨by decide, sh_116⟩
theorem sa_117 : ShA 117 0 8 := ⟨by decide, sh_117⟩
theorem sa_118 : ShA 118 0 6 := ⟨by decide, sh_118⟩
theorem sa_119 : ShA 119 0 6 := ⟨by decide, sh_119⟩
theorem sa_120 : ShA 120 3 2 := ⟨by decide, sh_120⟩
theorem sa_121 : ShA 121 0 6 := ⟨by decide, sh_121⟩
theorem sa_123 : ShA 123 0 27 := ⟨by decide, sh_123⟩
theorem sa_124 : ShA 124 0 6 := ⟨by decide, sh_124⟩
theorem sa_125 : ShA 125 0 6 := ⟨by decide, sh_125⟩
theorem sa_126 : ShA 126 3 6 := ⟨by decide, sh_126⟩
theorem sa_127 : ShA 127 0 6 := ⟨by decide, sh_127⟩
theorem sa_128 : ShA 128 0 6 := ⟨by decide, sh_128⟩
theorem sa_129 : ShA 129 0 8 := ⟨by decide, sh_129⟩
theorem sa_130 : ShA 130 0 8 := ⟨by decide, sh_130⟩
theorem sa_131 : ShA 131 0 8 := ⟨by decide, sh_131⟩
theorem sa_132 : ShA 132 0 4 := ⟨by decide, sh_132⟩
theorem sa_133 : ShA 133 2 80 := ⟨by decide, sh_133⟩
theorem sa_134 : ShA 134 4 16 := ⟨by decide, sh_134⟩
theorem sa_135 : ShA 135 0 40 := ⟨by decide, sh_135⟩
theorem sa_136 : ShA 136 2 40 := ⟨by decide, sh_136⟩
theorem sa_137 : ShA 137 0 6 := ⟨by decide, sh_137⟩
theorem sa_138 : ShA 138 0 324 := ⟨by decide, sh_138⟩
theorem sa_139 : ShA 139 0 27 := ⟨by decide, sh_139⟩
theorem sa_140 : ShA 140 0 27 := ⟨by decide, sh_140⟩
theorem sa_141 : ShA 141 0 240 := ⟨by decide, sh_141⟩
theorem sa_142 : ShA 142 0 6 := ⟨by decide, sh_142⟩
theorem sa_143 : ShA 143 0 6 := ⟨by decide, sh_143⟩
theorem sa_144 : ShA 144 0 6 := ⟨by decide, sh_144⟩
theorem sa_145 : ShA 145 0 4 := ⟨by decide, sh_145⟩
theorem sa_146 : ShA 146 0 54 := ⟨by decide, sh_146⟩
theorem sa_147 : ShA 147 3 2 := ⟨by decide, sh_147⟩
theorem sa_148 : ShA 148 0 2 := ⟨by decide, sh_148⟩
theorem so_0 : ShO 0 RX11 := ⟨by decide, _, _, _, sh_0, rfl, rfl⟩
theorem so_1 : ShO 1 RX9 := ⟨by decide, _, _, _, sh_1, rfl, rfl⟩
theorem so_3 : ShO 3 RX7 := ⟨by decide, _, _, _, sh_3, rfl, rfl⟩
theorem so_5 : ShO 5 RX3 := ⟨by decide, _, _, _, sh_5, rfl, rfl⟩
theorem so_11 : ShO 11 RX1 := ⟨by decide, _, _, _, sh_11, rfl, rfl⟩
theorem so_15 : ShO 15 RX0 := ⟨by decide, _, _, _, sh_15, rfl, rfl⟩
theorem so_19 : ShO 19 RX8 := ⟨by decide, _, _, _, sh_19, rfl, rfl⟩
theorem so_24 : ShO 24 RX2 := ⟨by decide, _, _, _, sh_24, rfl, rfl⟩
theorem so_29 : ShO 29 RX6 := ⟨by decide, _, _, _, sh_29, rfl, rfl⟩
theorem so_31 : ShO 31 RX10 := ⟨by decide, _, _, _, sh_31, rfl, rfl⟩
theorem so_33 : ShO 33 RX4 := ⟨by decide, _, _, _, sh_33, rfl, rfl⟩
theorem so_38 : ShO 38 RX4 := ⟨by decide, _, _, _, sh_38, rfl, rfl⟩
theorem so_43 : ShO 43 RX4 := ⟨by decide, _, _, _, sh_43, rfl, rfl⟩
theorem so_48 : ShO 48 RX4 := ⟨by decide, _, _, _, sh_48, rfl, rfl⟩
theorem so_53 : ShO 53 RX4 := ⟨by decide, _, _, _, sh_53, rfl, rfl⟩
theorem so_58 : ShO 58 RX4 := ⟨by decide, _, _, _, sh_58, rfl, rfl⟩
theorem so_63 : ShO 63 RX4 := ⟨by decide, _, _, _, sh_63, rfl, rfl⟩
theorem so_68 : ShO 68 RX4 := ⟨by decide, _, _, _, sh_68, rfl, rfl⟩
theorem so_73 : ShO 73 RX4 := ⟨by decide, _, _, _, sh_73, rfl, rfl⟩
theorem so_78 : ShO 78 RX4 := ⟨by decide, _, _, _, sh_78, rfl, rfl⟩
theorem so_83 : ShO 83 RX4 := ⟨by decide, _, _, _, sh_83, rfl, rfl⟩
theorem so_88 : ShO 88 RX4 := ⟨by decide, _, _, _, sh_88, rfl, rfl⟩
theorem so_93 : ShO 93 RX4 := ⟨by decide, _, _, _, sh_93, rfl, rfl⟩
theorem so_98 : ShO 98 RX4 := ⟨by decide, _, _, _, sh_98, rfl, rfl⟩
theorem so_103 : ShO 103 RX4 := ⟨by decide, _, _, _, sh_103, rfl, rfl⟩
theorem so_108 : ShO 108 RX4 := ⟨by decide, _, _, _, sh_108, rfl, rfl⟩
theorem so_113 : ShO 113 RX4 := ⟨by decide, _, _, _, sh_113, rfl, rfl⟩
theorem so_122 : ShO 122 RX12 := ⟨by decide, _, _, _, sh_122, rfl, rfl⟩
theorem ml_RX11_104 : Cond.methodLink RX11 104 yX9_add ∈ gw := gw_of (i := 448) (by decide +kernel) rfl
theorem ml_RX11_108 : Cond.methodLink RX11 108 yX9_cut ∈ gw := gw_of (i := 456) (by decide +kernel) rfl
theorem ml_RX11_116 : Cond.methodLink RX11 116 yX9_empty ∈ gw := gw_of (i := 619) (by decide +kernel) rfl
theorem ml_RX11_122 : Cond.methodLink RX11 122 yX4_receive ∈ gw := gw_of (i := 623) (by decide +kernel) rfl
theorem ml_RX11_126 : Cond.methodLink RX11 126 yX11_forgetWhatWas ∈ gw := gw_of (i := 627) (by decide +kernel) rfl
theorem ml_RX11_129 : Cond.methodLink RX11 129 yX2_readValues ∈ gw := gw_of (i := 639) (by decide +kernel) rfl
theorem ml_RX11_135 : Cond.methodLink RX11 135 yX4_hear ∈ gw := gw_of (i := 658) (by decide +kernel) rfl
theorem ml_RX11_138 : Cond.methodLink RX11 138 yX2_readLaw ∈ gw := gw_of (i := 666) (by decide +kernel) rfl
theorem ml_RX11_141 : Cond.methodLink RX11 141 yX2_enact ∈ gw := gw_of (i := 672) (by decide +kernel) rfl
theorem ml_RX11_144 : Cond.methodLink RX11 144 yX8_read ∈ gw := gw_of (i := 680) (by decide +kernel) rfl
theorem ml_RX11_147 : Cond.methodLink RX11 147 yX11_isThere ∈ gw := gw_of (i := 877) (by decide +kernel) rfl
theorem ml_RX11_184 : Cond.methodLink RX11 184 yX4_proofIn ∈ gw := gw_of (i := 810) (by decide +kernel) rfl
theorem ml_RX11_188 : Cond.methodLink RX11 188 yX2_worthOf ∈ gw := gw_of (i := 1059) (by decide +kernel) rfl
theorem ml_RX11_209 : Cond.methodLink RX11 209 yX11_fearOnSheet ∈ gw := gw_of (i := 726) (by decide +kernel) rfl
theorem ml_RX11_212 : Cond.methodLink RX11 212 yX6_note ∈ gw := gw_of (i := 735) (by decide +kernel) rfl
theorem ml_RX11_216 : Cond.methodLink RX11 216 yX4_layOn ∈ gw := gw_of (i := 744) (by decide +kernel) rfl
theorem ml_RX11_219 : Cond.methodLink RX11 219 yX11_doneBy ∈ gw := gw_of (i := 758) (by decide +kernel) rfl
theorem ml_RX11_222 : Cond.methodLink RX11 222 yX4_askOf ∈ gw := gw_of (i := 771) (by decide +kernel) rfl
theorem ml_RX11_225 : Cond.methodLink RX11 225 yX4_tryNow ∈ gw := gw_of (i := 794) (by decide +kernel) rfl
theorem ml_RX11_228 : Cond.methodLink RX11 228 yX7_tell ∈ gw := gw_of (i := 811) (by decide +kernel) rfl
theorem ml_RX11_232 : Cond.methodLink RX11 232 yX4_pass ∈ gw := gw_of (i := 827) (by decide +kernel) rfl
theorem ml_RX11_235 : Cond.methodLink RX11 235 yX6_seal ∈ gw := gw_of (i := 762) (by decide +kernel) rfl
theorem ml_RX11_238 : Cond.methodLink RX11 238 yX11_diedOf ∈ gw := gw_of (i := 839) (by decide +kernel) rfl
theorem ml_RX11_241 : Cond.methodLink RX11 241 yX11_overOf ∈ gw := gw_of (i := 842) (by decide +kernel) rfl
theorem ml_RX11_244 : Cond.methodLink RX11 244 yX7_tell_ ∈ gw := gw_of (i := 845) (by decide +kernel) rfl
theorem ml_RX11_248 : Cond.methodLink RX11 248 yX4_perform ∈ gw := gw_of (i := 857) (by decide +kernel) rfl
theorem ml_RX11_252 : Cond.methodLink RX11 252 yX6_restore ∈ gw := gw_of (i := 869) (by decide +kernel) rfl
theorem ml_RX11_257 : Cond.methodLink RX11 257 yX4_leftIn ∈ gw := gw_of (i := 881) (by decide +kernel) rfl
theorem ml_RX11_261 : Cond.methodLink RX11 261 yX4_isSilent ∈ gw := gw_of (i := 889) (by decide +kernel) rfl
theorem ml_RX11_264 : Cond.methodLink RX11 264 yX4_diesIn ∈ gw := gw_of (i := 890) (by decide +kernel) rfl
theorem ml_RX11_268 : Cond.methodLink RX11 268 yX4_leftDying ∈ gw := gw_of (i := 898) (by decide +kernel) rfl
theorem ml_RX11_271 : Cond.methodLink RX11 271 yX4_pleadsIn ∈ gw := gw_of (i := 903) (by decide +kernel) rfl
theorem ml_RX11_274 : Cond.methodLink RX11 274 yX11_leastStones ∈ gw := gw_of (i := 928) (by decide +kernel) rfl
theorem ml_RX11_277 : Cond.methodLink RX11 277 yX11_stonesOn ∈ gw := gw_of (i := 932) (by decide +kernel) rfl
theorem ml_RX11_280 : Cond.methodLink RX11 280 yX11_isBetterLaid ∈ gw := gw_of (i := 940) (by decide +kernel) rfl
theorem ml_RX11_284 : Cond.methodLink RX11 284 yX7_clear ∈ gw := gw_of (i := 950) (by decide +kernel) rfl
theorem ml_RX11_287 : Cond.methodLink RX11 287 yX11_stonesOnOne ∈ gw := gw_of (i := 936) (by decide +kernel) rfl
theorem ml_RX11_290 : Cond.methodLink RX11 290 yX7_add ∈ gw := gw_of (i := 951) (by decide +kernel) rfl
theorem ml_RX11_292 : Cond.methodLink RX11 292 yJ6_bitCount_0f7a4 ∈ gw := gw_of (i := 944) (by decide +kernel) rfl
theorem ml_RX11_297 : Cond.methodLink RX11 297 yX4_take ∈ gw := gw_of (i := 956) (by decide +kernel) rfl
theorem ml_RX11_300 : Cond.methodLink RX11 300 yX4_thoseWho ∈ gw := gw_of (i := 957) (by decide +kernel) rfl
theorem ml_RX11_303 : Cond.methodLink RX11 303 yX4_speakersIn ∈ gw := gw_of (i := 965) (by decide +kernel) rfl
theorem ml_RX11_306 : Cond.methodLink RX11 306 yX4_verdictIn ∈ gw := gw_of (i := 977) (by decide +kernel) rfl
theorem ml_RX11_309 : Cond.methodLink RX11 309 yX2_heAndHeir ∈ gw := gw_of (i := 978) (by decide +kernel) rfl
theorem ml_RX11_312 : Cond.methodLink RX11 312 yX4_lackIn ∈ gw := gw_of (i := 994) (by decide +kernel) rfl
theorem ml_RX11_315 : Cond.methodLink RX11 315 yX11_daysLeft ∈ gw := gw_of (i := 1002) (by decide +kernel) rfl
theorem ml_RX11_319 : Cond.methodLink RX11 319 yX7_tell__ ∈ gw := gw_of (i := 1006) (by decide +kernel) rfl
theorem ml_RX11_322 : Cond.methodLink RX11 322 yX10_findMostConvicted ∈ gw := gw_of (i := 1015) (by decide +kernel) rfl
theorem ml_RX11_326 : Cond.methodLink RX11 326 yX11_tellTurns ∈ gw := gw_of (i := 1039) (by decide +kernel) rfl
theorem ml_RX11_332 : Cond.methodLink RX11 332 yX10_findMostForKing ∈ gw := gw_of (i := 1047) (by decide +kernel) rfl
theorem ml_RX11_338 : Cond.methodLink RX11 338 yX11_fallsTo ∈ gw := gw_of (i := 1055) (by decide +kernel) rfl
theorem ml_RX11_342 : Cond.methodLink RX11 342 yX2_has ∈ gw := gw_of (i := 1064) (by decide +kernel) rfl
theorem ml_RX11_348 : Cond.methodLink RX11 348 yX2_tellReading ∈ gw := gw_of (i := 1073) (by decide +kernel) rfl
theorem ml_RX11_351 : Cond.methodLink RX11 351 yX2_changedEndings ∈ gw := gw_of (i := 1077) (by decide +kernel) rfl
theorem ml_RX11_354 : Cond.methodLink RX11 354 yX11_isTenths ∈ gw := gw_of (i := 1085) (by decide +kernel) rfl
theorem ml_RX11_357 : Cond.methodLink RX11 357 yX11_likelyDumb ∈ gw := gw_of (i := 1088) (by decide +kernel) rfl
theorem ml_RX11_361 : Cond.methodLink RX11 361 yX11_likelyMute ∈ gw := gw_of (i := 1094) (by decide +kernel) rfl
theorem ml_RX11_365 : Cond.methodLink RX11 365 yX11_commonDivisor ∈ gw := gw_of (i := 1097) (by decide +kernel) rfl
theorem ml_RX11_371 : Cond.methodLink RX11 371 yX11_isSuchPart ∈ gw := gw_of (i := 1109) (by decide +kernel) rfl
theorem ml_RX11_375 : Cond.methodLink RX11 375 yX11_partsWith ∈ gw := gw_of (i := 1117) (by decide +kernel) rfl
theorem ml_RX11_378 : Cond.methodLink RX11 378 Lib.Math.max.name ∈ gw := gw_of (i := 730) (by decide +kernel) rfl
theorem ml_RX11_383 : Cond.methodLink RX11 383 yX11_isAtRest ∈ gw := gw_of (i := 1125) (by decide +kernel) rfl
theorem ml_RX11_387 : Cond.methodLink RX11 387 yX11_stirred ∈ gw := gw_of (i := 1138) (by decide +kernel) rfl
theorem ml_RX11_390 : Cond.methodLink RX11 390 yX11_drawn ∈ gw := gw_of (i := 1142) (by decide +kernel) rfl
theorem ml_RX11_393 : Cond.methodLink RX11 393 yX4_performDrawn ∈ gw := gw_of (i := 1145) (by decide +kernel) rfl
theorem ml_RX11_396 : Cond.methodLink RX11 396 yX4_night ∈ gw := gw_of (i := 1149) (by decide +kernel) rfl
theorem ml_RX11_402 : Cond.methodLink RX11 402 yX6_forget ∈ gw := gw_of (i := 631) (by decide +kernel) rfl
theorem ml_RX11_405 : Cond.methodLink RX11 405 yX3_allGoods ∈ gw := gw_of (i := 1162) (by decide +kernel) rfl
theorem ml_RX11_418 : Cond.methodLink RX11 418 Lib.Math.min.name ∈ gw := gw_of (i := 729) (by decide +kernel) rfl
theorem ml_RX11_427 : Cond.methodLink RX11 427 yX11_power ∈ gw := gw_of (i := 1091) (by decide +kernel) rfl
theorem ml_RX11_430 : Cond.methodLink RX11 430 yX11_ofJudge ∈ gw := gw_of (i := 1128) (by decide +kernel) rfl
theorem ml_RX11_433 : Cond.methodLink RX11 433 yX11_ofPrisoner ∈ gw := gw_of (i := 1131) (by decide +kernel) rfl
theorem ml_RX0_21 : Cond.methodLink RX0 21 yX9_takesOneOf ∈ gw := gw_of (i := 488) (by decide +kernel) rfl
theorem ml_RX0_27 : Cond.methodLink RX0 27 yX9_digit ∈ gw := gw_of (i := 567) (by decide +kernel) rfl
theorem ml_RX0_31 : Cond.methodLink RX0 31 yX9_number ∈ gw := gw_of (i := 571) (by decide +kernel) rfl
theorem ml_RX1_32 : Cond.methodLink RX1 32 yX9_digit ∈ gw := gw_of (i := 579) (by decide +kernel) rfl
theorem ml_RX1_38 : Cond.methodLink RX1 38 yX9_takes ∈ gw := gw_of (i := 580) (by decide +kernel) rfl
theorem ml_RX1_42 : Cond.methodLink RX1 42 yX9_number ∈ gw := gw_of (i := 584) (by decide +kernel) rfl
theorem ml_RX2_30 : Cond.methodLink RX2 30 yX9_open ∈ gw := gw_of (i := 643) (by decide +kernel) rfl
theorem ml_RX2_34 : Cond.methodLink RX2 34 yX9_takes ∈ gw := gw_of (i := 644) (by decide +kernel) rfl
theorem ml_RX2_38 : Cond.methodLink RX2 38 yX9_wrong ∈ gw := gw_of (i := 645) (by decide +kernel) rfl
theorem ml_RX2_42 : Cond.methodLink RX2 42 yX9_number ∈ gw := gw_of (i := 646) (by decide +kernel) rfl
theorem ml_RX2_46 : Cond.methodLink RX2 46 yX9_isRead ∈ gw := gw_of (i := 647) (by decide +kernel) rfl
theorem ml_RX2_50 : Cond.methodLink RX2 50 arraycopyName ∈ gw := gw_of (i := 648) (by decide +kernel) rfl
theorem ml_RX2_58 : Cond.methodLink RX2 58 yX9_takesOneOf ∈ gw := gw_of (i := 671) (by decide +kernel) rfl
theorem ml_RX2_67 : Cond.methodLink RX2 67 yX2_worthOf ∈ gw := gw_of (i := 986) (by decide +kernel) rfl
theorem ml_RX2_70 : Cond.methodLink RX2 70 yX2_has ∈ gw := gw_of (i := 982) (by decide +kernel) rfl
theorem ml_RX3_35 : Cond.methodLink RX3 35 yX3_allGoods ∈ gw := gw_of (i := 588) (by decide +kernel) rfl
theorem ml_RX3_39 : Cond.methodLink RX3 39 yX3_readsMan ∈ gw := gw_of (i := 592) (by decide +kernel) rfl
theorem ml_RX3_43 : Cond.methodLink RX3 43 yX3_readsRest ∈ gw := gw_of (i := 603) (by decide +kernel) rfl
theorem ml_RX3_46 : Cond.methodLink RX3 46 yX9_number ∈ gw := gw_of (i := 596) (by decide +kernel) rfl
theorem ml_RX3_52 : Cond.methodLink RX3 52 yX9_back ∈ gw := gw_of (i := 597) (by decide +kernel) rfl
theorem ml_RX3_55 : Cond.methodLink RX3 55 yX9_takes ∈ gw := gw_of (i := 602) (by decide +kernel) rfl
theorem ml_RX3_61 : Cond.methodLink RX3 61 yX9_takesOneOf ∈ gw := gw_of (i := 608) (by decide +kernel) rfl
theorem ml_RX3_65 : Cond.methodLink RX3 65 yX9_digit ∈ gw := gw_of (i := 609) (by decide +kernel) rfl
theorem ml_RX3_68 : Cond.methodLink RX3 68 yX3_readGoods ∈ gw := gw_of (i := 610) (by decide +kernel) rfl
theorem ml_RX4_43 : Cond.methodLink RX4 43 arraycopyName ∈ gw := gw_of (i := 743) (by decide +kernel) rfl
theorem ml_RX4_59 : Cond.methodLink RX4 59 yX4_has ∈ gw := gw_of (i := 748) (by decide +kernel) rfl
theorem ml_RX4_63 : Cond.methodLink RX4 63 yX4_isSilent ∈ gw := gw_of (i := 752) (by decide +kernel) rfl
theorem ml_RX4_66 : Cond.methodLink RX4 66 Lib.Math.min.name ∈ gw := gw_of (i := 756) (by decide +kernel) rfl
theorem ml_RX4_72 : Cond.methodLink RX4 72 Lib.Math.max.name ∈ gw := gw_of (i := 757) (by decide +kernel) rfl
theorem ml_RX4_79 : Cond.methodLink RX4 79 yX4_leftNow ∈ gw := gw_of (i := 775) (by decide +kernel) rfl
theorem ml_RX4_86 : Cond.methodLink RX4 86 yX4_verdictIn ∈ gw := gw_of (i := 798) (by decide +kernel) rfl
theorem ml_RX4_100 : Cond.methodLink RX4 100 yX4_layOn ∈ gw := gw_of (i := 861) (by decide +kernel) rfl
theorem ml_RX4_103 : Cond.methodLink RX4 103 yX4_askOf ∈ gw := gw_of (i := 862) (by decide +kernel) rfl
theorem ml_RX4_106 : Cond.methodLink RX4 106 yX4_tryNow ∈ gw := gw_of (i := 863) (by decide +kernel) rfl
theorem ml_RX4_109 : Cond.methodLink RX4 109 yX4_pass ∈ gw := gw_of (i := 864) (by decide +kernel) rfl
theorem ml_RX4_112 : Cond.methodLink RX4 112 yX4_night ∈ gw := gw_of (i := 831) (by decide +kernel) rfl
theorem ml_RX4_115 : Cond.methodLink RX4 115 yX4_leftWith ∈ gw := gw_of (i := 779) (by decide +kernel) rfl
theorem ml_RX4_123 : Cond.methodLink RX4 123 yX4_leaveOver ∈ gw := gw_of (i := 835) (by decide +kernel) rfl
theorem ml_RX4_130 : Cond.methodLink RX4 130 yX8_worth ∈ gw := gw_of (i := 783) (by decide +kernel) rfl
theorem ml_RX4_136 : Cond.methodLink RX4 136 yX4_leftDying ∈ gw := gw_of (i := 894) (by decide +kernel) rfl
theorem ml_RX4_140 : Cond.methodLink RX4 140 yX4_leftIn ∈ gw := gw_of (i := 907) (by decide +kernel) rfl
theorem ml_RX4_146 : Cond.methodLink RX4 146 yX4_wordIn ∈ gw := gw_of (i := 806) (by decide +kernel) rfl
theorem ml_RX4_149 : Cond.methodLink RX4 149 yX4_proofIn ∈ gw := gw_of (i := 802) (by decide +kernel) rfl
theorem ml_RX5_7 : Cond.methodLink RX5 7 yX9_open ∈ gw := gw_of (i := 470) (by decide +kernel) rfl
theorem ml_RX5_13 : Cond.methodLink RX5 13 yX9_isRead ∈ gw := gw_of (i := 477) (by decide +kernel) rfl
theorem ml_RX5_23 : Cond.methodLink RX5 23 yX9_wrong ∈ gw := gw_of (i := 614) (by decide +kernel) rfl
theorem ml_RX5_27 : Cond.methodLink RX5 27 yX9_takes ∈ gw := gw_of (i := 618) (by decide +kernel) rfl
theorem ml_RX6_25 : Cond.methodLink RX6 25 yX4_take ∈ gw := gw_of (i := 739) (by decide +kernel) rfl
theorem ml_RX6_29 : Cond.methodLink RX6 29 Lib.Math.min.name ∈ gw := gw_of (i := 766) (by decide +kernel) rfl
theorem ml_RX7_17 : Cond.methodLink RX7 17 yX7_clear ∈ gw := gw_of (i := 815) (by decide +kernel) rfl
theorem ml_RX7_20 : Cond.methodLink RX7 20 yX7_add ∈ gw := gw_of (i := 819) (by decide +kernel) rfl
theorem ml_RX7_24 : Cond.methodLink RX7 24 yX7_tell ∈ gw := gw_of (i := 849) (by decide +kernel) rfl
theorem ml_RX7_27 : Cond.methodLink RX7 27 yX7_tell_ ∈ gw := gw_of (i := 1010) (by decide +kernel) rfl
theorem ml_RX8_38 : Cond.methodLink RX8 38 yX9_open ∈ gw := gw_of (i := 684) (by decide +kernel) rfl
theorem ml_RX8_44 : Cond.methodLink RX8 44 yX9_isRead ∈ gw := gw_of (i := 685) (by decide +kernel) rfl
theorem ml_RX8_48 : Cond.methodLink RX8 48 yX8_readsExpression ∈ gw := gw_of (i := 686) (by decide +kernel) rfl
theorem ml_RX8_52 : Cond.methodLink RX8 52 yX9_wrong ∈ gw := gw_of (i := 716) (by decide +kernel) rfl
theorem ml_RX8_55 : Cond.methodLink RX8 55 arraycopyName ∈ gw := gw_of (i := 717) (by decide +kernel) rfl
theorem ml_RX8_61 : Cond.methodLink RX8 61 yX8_readsSum ∈ gw := gw_of (i := 690) (by decide +kernel) rfl
theorem ml_RX8_66 : Cond.methodLink RX8 66 yX9_takesOneOf ∈ gw := gw_of (i := 712) (by decide +kernel) rfl
theorem ml_RX8_70 : Cond.methodLink RX8 70 yX8_drafts ∈ gw := gw_of (i := 708) (by decide +kernel) rfl
theorem ml_RX8_74 : Cond.methodLink RX8 74 yX8_readsProduct ∈ gw := gw_of (i := 694) (by decide +kernel) rfl
theorem ml_RX8_79 : Cond.methodLink RX8 79 yX8_readsSigned ∈ gw := gw_of (i := 698) (by decide +kernel) rfl
theorem ml_RX8_84 : Cond.methodLink RX8 84 yX9_takes ∈ gw := gw_of (i := 702) (by decide +kernel) rfl
theorem ml_RX8_88 : Cond.methodLink RX8 88 yX8_readsThing ∈ gw := gw_of (i := 703) (by decide +kernel) rfl
theorem ml_RX8_91 : Cond.methodLink RX8 91 yX9_number ∈ gw := gw_of (i := 707) (by decide +kernel) rfl
theorem ml_RX8_95 : Cond.methodLink RX8 95 yX8_joined ∈ gw := gw_of (i := 787) (by decide +kernel) rfl
theorem ml_RX9_25 : Cond.methodLink RX9 25 Lib.Math.min.name ∈ gw := gw_of (i := 474) (by decide +kernel) rfl
theorem ml_RX9_31 : Cond.methodLink RX9 31 Lib.Math.max.name ∈ gw := gw_of (i := 601) (by decide +kernel) rfl
theorem ml_RX9_34 : Cond.methodLink RX9 34 yJ0_indexOf_0f7a4 ∈ gw := gw_of (i := 492) (by decide +kernel) rfl
theorem ml_RX9_40 : Cond.methodLink RX9 40 yX9_digit ∈ gw := gw_of (i := 575) (by decide +kernel) rfl
theorem ml_RX10_40 : Cond.methodLink RX10 40 yX10_find ∈ gw := gw_of (i := 1019) (by decide +kernel) rfl
theorem ml_RX10_44 : Cond.methodLink RX10 44 yX10_isPleaded ∈ gw := gw_of (i := 1029) (by decide +kernel) rfl
theorem ml_RX10_48 : Cond.methodLink RX10 48 yX2_has ∈ gw := gw_of (i := 1038) (by decide +kernel) rfl
theorem ml_RX10_54 : Cond.methodLink RX10 54 Lib.Math.min.name ∈ gw := gw_of (i := 1023) (by decide +kernel) rfl
theorem ml_RX10_60 : Cond.methodLink RX10 60 yX10_goOn ∈ gw := gw_of (i := 1024) (by decide +kernel) rfl
theorem ml_RX10_69 : Cond.methodLink RX10 69 arraycopyName ∈ gw := gw_of (i := 1028) (by decide +kernel) rfl
theorem ml_RX10_75 : Cond.methodLink RX10 75 yX4_verdictIn ∈ gw := gw_of (i := 1033) (by decide +kernel) rfl
theorem ml_RX10_78 : Cond.methodLink RX10 78 yX10_gainOf ∈ gw := gw_of (i := 1034) (by decide +kernel) rfl
theorem ml_RX12_104 : Cond.methodLink RX12 104 yX12_in ∈ gw := gw_of (i := 1409) (by decide +kernel) rfl
theorem ml_RX12_126 : Cond.methodLink RX12 126 yX12_begin ∈ gw := gw_of (i := 1420) (by decide +kernel) rfl
theorem ml_RX12_130 : Cond.methodLink RX12 130 yX12_fine ∈ gw := gw_of (i := 1428) (by decide +kernel) rfl
theorem ml_RX12_134 : Cond.methodLink RX12 134 yX12_here ∈ gw := gw_of (i := 1448) (by decide +kernel) rfl
theorem ml_RX12_138 : Cond.methodLink RX12 138 yX12_passes ∈ gw := gw_of (i := 1456) (by decide +kernel) rfl
theorem ml_RX12_142 : Cond.methodLink RX12 142 yX12_fault ∈ gw := gw_of (i := 1432) (by decide +kernel) rfl
theorem ml_RX12_146 : Cond.methodLink RX12 146 yX12_oneOf ∈ gw := gw_of (i := 1444) (by decide +kernel) rfl
theorem ml_RX12_150 : Cond.methodLink RX12 150 yX12_number ∈ gw := gw_of (i := 1440) (by decide +kernel) rfl
theorem ml_RX12_154 : Cond.methodLink RX12 154 yX12_need ∈ gw := gw_of (i := 1452) (by decide +kernel) rfl
theorem ml_RX12_158 : Cond.methodLink RX12 158 yX12_has ∈ gw := gw_of (i := 1460) (by decide +kernel) rfl
theorem ml_RX12_162 : Cond.methodLink RX12 162 yX12_beginText ∈ gw := gw_of (i := 1416) (by decide +kernel) rfl
theorem ml_RX12_165 : Cond.methodLink RX12 165 yX12_allGoods ∈ gw := gw_of (i := 1424) (by decide +kernel) rfl
theorem ml_RX12_168 : Cond.methodLink RX12 168 yX12_readMan ∈ gw := gw_of (i := 1436) (by decide +kernel) rfl
theorem ml_RX12_172 : Cond.methodLink RX12 172 yX12_wasRight ∈ gw := gw_of (i := 1463) (by decide +kernel) rfl
theorem ml_RX12_184 : Cond.methodLink RX12 184 yX12_whoseBy ∈ gw := gw_of (i := 1483) (by decide +kernel) rfl
theorem ml_RX12_187 : Cond.methodLink RX12 187 yX12_readLaw ∈ gw := gw_of (i := 1479) (by decide +kernel) rfl
theorem ml_RX12_190 : Cond.methodLink RX12 190 yX12_sum ∈ gw := gw_of (i := 1494) (by decide +kernel) rfl
theorem ml_RX12_193 : Cond.methodLink RX12 193 yX12_product ∈ gw := gw_of (i := 1498) (by decide +kernel) rfl
theorem ml_RX12_196 : Cond.methodLink RX12 196 yX12_thing ∈ gw := gw_of (i := 1502) (by decide +kernel) rfl
theorem ml_RX12_199 : Cond.methodLink RX12 199 yX12_held ∈ gw := gw_of (i := 1490) (by decide +kernel) rfl
theorem ml_RX12_202 : Cond.methodLink RX12 202 yX12_letterOf ∈ gw := gw_of (i := 1506) (by decide +kernel) rfl
theorem ml_RX12_212 : Cond.methodLink RX12 212 Lib.Math.min.name ∈ gw := gw_of (i := 1529) (by decide +kernel) rfl
theorem ml_RX12_217 : Cond.methodLink RX12 217 Lib.Math.max.name ∈ gw := gw_of (i := 1530) (by decide +kernel) rfl
theorem ml_RX12_220 : Cond.methodLink RX12 220 yX12_leftOf ∈ gw := gw_of (i := 1525) (by decide +kernel) rfl
theorem ml_RX12_224 : Cond.methodLink RX12 224 yX12_isMan ∈ gw := gw_of (i := 1513) (by decide +kernel) rfl
theorem ml_RX12_228 : Cond.methodLink RX12 228 yX12_lost ∈ gw := gw_of (i := 1517) (by decide +kernel) rfl
theorem ml_RX12_231 : Cond.methodLink RX12 231 yX12_leftNow ∈ gw := gw_of (i := 1521) (by decide +kernel) rfl
theorem ml_RX12_235 : Cond.methodLink RX12 235 yX12_proofIn ∈ gw := gw_of (i := 1531) (by decide +kernel) rfl
theorem ml_RX12_239 : Cond.methodLink RX12 239 yX12_valuesOf ∈ gw := gw_of (i := 1535) (by decide +kernel) rfl
theorem ml_RX12_242 : Cond.methodLink RX12 242 yX12_lay ∈ gw := gw_of (i := 1563) (by decide +kernel) rfl
theorem ml_RX12_246 : Cond.methodLink RX12 246 yX12_refusesLay ∈ gw := gw_of (i := 1555) (by decide +kernel) rfl
theorem ml_RX12_249 : Cond.methodLink RX12 249 yX12_remember ∈ gw := gw_of (i := 1559) (by decide +kernel) rfl
theorem ml_RX12_253 : Cond.methodLink RX12 253 yX12_goLay ∈ gw := gw_of (i := 1566) (by decide +kernel) rfl
theorem ml_RX12_257 : Cond.methodLink RX12 257 yX12_doesSpeak ∈ gw := gw_of (i := 1573) (by decide +kernel) rfl
theorem ml_RX12_260 : Cond.methodLink RX12 260 yX12_goPlead ∈ gw := gw_of (i := 1577) (by decide +kernel) rfl
theorem ml_RX12_264 : Cond.methodLink RX12 264 yX12_ending ∈ gw := gw_of (i := 1584) (by decide +kernel) rfl
theorem ml_RX12_267 : Cond.methodLink RX12 267 yX12_tell ∈ gw := gw_of (i := 1588) (by decide +kernel) rfl
theorem ml_RX12_271 : Cond.methodLink RX12 271 yX12_ofKind ∈ gw := gw_of (i := 1596) (by decide +kernel) rfl
theorem ml_RX12_274 : Cond.methodLink RX12 274 yX12_goNight ∈ gw := gw_of (i := 1600) (by decide +kernel) rfl
theorem ml_RX12_277 : Cond.methodLink RX12 277 yX12_readAct ∈ gw := gw_of (i := 1608) (by decide +kernel) rfl
theorem ml_RX12_280 : Cond.methodLink RX12 280 yX12_act ∈ gw := gw_of (i := 1612) (by decide +kernel) rfl
theorem ml_RX12_286 : Cond.methodLink RX12 286 yX12_dieNight ∈ gw := gw_of (i := 1628) (by decide +kernel) rfl
theorem ml_RX12_290 : Cond.methodLink RX12 290 yX12_speakNight ∈ gw := gw_of (i := 1636) (by decide +kernel) rfl
theorem ml_RX12_293 : Cond.methodLink RX12 293 yX12_stonesOf ∈ gw := gw_of (i := 1660) (by decide +kernel) rfl
theorem ml_RX12_296 : Cond.methodLink RX12 296 yJ6_bitCount_0f7a4 ∈ gw := gw_of (i := 1664) (by decide +kernel) rfl
theorem ml_RX12_301 : Cond.methodLink RX12 301 yX12_isLessRow ∈ gw := gw_of (i := 1665) (by decide +kernel) rfl
theorem ml_RX12_304 : Cond.methodLink RX12 304 yX12_whose ∈ gw := gw_of (i := 1689) (by decide +kernel) rfl
theorem ml_RX12_307 : Cond.methodLink RX12 307 yX12_theirs ∈ gw := gw_of (i := 1685) (by decide +kernel) rfl
theorem ml_RX12_310 : Cond.methodLink RX12 310 yX12_lackOf ∈ gw := gw_of (i := 1697) (by decide +kernel) rfl
theorem ml_RX12_313 : Cond.methodLink RX12 313 yX12_isAhead ∈ gw := gw_of (i := 1705) (by decide +kernel) rfl
theorem ml_RX12_319 : Cond.methodLink RX12 319 yX12_keepLine ∈ gw := gw_of (i := 1717) (by decide +kernel) rfl
theorem ml_RX12_322 : Cond.methodLink RX12 322 yX12_goTrials ∈ gw := gw_of (i := 1713) (by decide +kernel) rfl
theorem ml_RX12_326 : Cond.methodLink RX12 326 yX12_tellLine ∈ gw := gw_of (i := 1721) (by decide +kernel) rfl
theorem ml_RX12_329 : Cond.methodLink RX12 329 yX12_kingsBy ∈ gw := gw_of (i := 1737) (by decide +kernel) rfl
theorem ml_RX12_332 : Cond.methodLink RX12 332 yX12_kingsOf ∈ gw := gw_of (i := 1733) (by decide +kernel) rfl
theorem ml_RX12_338 : Cond.methodLink RX12 338 yX12_goDocket ∈ gw := gw_of (i := 1729) (by decide +kernel) rfl
theorem ml_RX12_342 : Cond.methodLink RX12 342 yX12_haveBy ∈ gw := gw_of (i := 1745) (by decide +kernel) rfl
theorem ml_RX12_345 : Cond.methodLink RX12 345 yX12_isHeir ∈ gw := gw_of (i := 1753) (by decide +kernel) rfl
theorem ml_RX12_348 : Cond.methodLink RX12 348 yX12_common ∈ gw := gw_of (i := 1778) (by decide +kernel) rfl
theorem ml_RX12_354 : Cond.methodLink RX12 354 yX12_power ∈ gw := gw_of (i := 1772) (by decide +kernel) rfl
theorem ml_RX12_358 : Cond.methodLink RX12 358 yX12_dumbPart ∈ gw := gw_of (i := 1768) (by decide +kernel) rfl
theorem ml_RX12_362 : Cond.methodLink RX12 362 yX12_wholePart ∈ gw := gw_of (i := 1775) (by decide +kernel) rfl
theorem ml_RX12_369 : Cond.methodLink RX12 369 yX12_judgeGets ∈ gw := gw_of (i := 1802) (by decide +kernel) rfl
theorem ml_RX12_372 : Cond.methodLink RX12 372 yX12_manGets ∈ gw := gw_of (i := 1805) (by decide +kernel) rfl
theorem ml_RX12_375 : Cond.methodLink RX12 375 yX12_isRest ∈ gw := gw_of (i := 1799) (by decide +kernel) rfl
theorem ml_RX12_383 : Cond.methodLink RX12 383 yX12_draw ∈ gw := gw_of (i := 1812) (by decide +kernel) rfl
theorem ml_RJ0_335 : Cond.methodLink RJ0 335 yJ0_coder_7d493 ∈ gw := gw_of (i := 253) (by decide +kernel) rfl
theorem ml_RJ0_492 : Cond.methodLink RJ0 492 yJ0_isLatin1_aae02 ∈ gw := gw_of (i := 500) (by decide +kernel) rfl
theorem ml_RJ0_505 : Cond.methodLink RJ0 505 yJ0_length_8abf5 ∈ gw := gw_of (i := 504) (by decide +kernel) rfl
theorem ml_RJ0_633 : Cond.methodLink RJ0 633 yJ0_indexOf_7cf53 ∈ gw := gw_of (i := 496) (by decide +kernel) rfl
theorem ml_RJ0_637 : Cond.methodLink RJ0 637 yJ1_indexOf_4cfef ∈ gw := gw_of (i := 505) (by decide +kernel) rfl
theorem ml_RJ1_38 : Cond.methodLink RJ1 38 Lib.Math.min.name ∈ gw := gw_of (i := 514) (by decide +kernel) rfl
theorem ml_RJ1_88 : Cond.methodLink RJ1 88 yJ1_canEncode_9a6ad ∈ gw := gw_of (i := 508) (by decide +kernel) rfl
theorem ml_RJ1_92 : Cond.methodLink RJ1 92 Lib.Math.max.name ∈ gw := gw_of (i := 511) (by decide +kernel) rfl
theorem ml_RJ1_95 : Cond.methodLink RJ1 95 yJ1_indexOfChar_4cfef ∈ gw := gw_of (i := 515) (by decide +kernel) rfl
theorem yv_X11_commonDivisor : YS yX11_commonDivisor cX11_commonDivisor 11 (some .long) 2 := ⟨gw_of (i := 1098) (by decide +kernel) rfl, gw_of (i := 79) (by decide +kernel) rfl, gw_of (i := 1099) (by decide +kernel) rfl, ⟨by decide +kernel, by decide +kernel, by decide +kernel⟩, by decide⟩
theorem yv_X11_daysLeft : YV RX11 yX11_daysLeft cX11_daysLeft 1 (some .int) 0 := ⟨gw_of (i := 1004) (by decide +kernel) rfl, gw_of (i := 20) (by decide +kernel) rfl, gw_of (i := 79) (by decide +kernel) rfl, gw_of (i := 1005) (by decide +kernel) rfl, ⟨rfl, by decide +kernel, by decide +kernel, by decide +kernel⟩, by decide⟩
theorem yv_X11_diedOf : YS yX11_diedOf cX11_diedOf 1 (some .int) 1 := ⟨gw_of (i := 840) (by decide +kernel) rfl, gw_of (i := 79) (by decide +kernel) rfl, gw_of (i := 841) (by decide +kernel) rfl, ⟨by decide +kernel, by decide +kernel, by decide +kernel⟩, by decide⟩
theorem yv_X11_doneBy : YV RX11 yX11_doneBy cX11_doneBy 2 (some .int) 1 := ⟨gw_of (i := 760) (by decide +kernel) rfl, gw_of (i := 11) (by decide +kernel) rfl, gw_of (i := 79) (by decide +kernel) rfl, gw_of (i := 761) (by decide +kernel) rfl, ⟨rfl, by decide +kernel, by decide +kernel, by decide +kernel⟩, by decide⟩
theorem yv_X11_drawn : YS yX11_drawn cX11_drawn 2 (some .int) 2 := ⟨gw_of (i := 1143) (by decide +kernel) rfl, gw_of (i := 79) (by decide +kernel) rfl, gw_of (i := 1144) (by decide +kernel) rfl, ⟨by decide +kernel, by decide +kernel, by decide +kernel⟩, by decide⟩
theorem yv_X11_fallsTo : YV RX11 yX11_fallsTo cX11_fallsTo 8 (some .int) 3 := ⟨gw_of (i := 1057) (by decide +kernel) rfl, gw_of (i := 26) (by decide +kernel) rfl, gw_of (i := 79) (by decide +kernel) rfl, gw_of (i := 1058) (by decide +kernel) rfl, ⟨rfl, by decide +kernel, by decide +kernel, by decide +kernel⟩, by decide⟩
theorem yv_X11_fearOnSheet : YS yX11_fearOnSheet cX11_fearOnSheet 3 (some .int) 2 := ⟨gw_of (i := 727) (by decide +kernel) rfl, gw_of (i := 79) (by decide +kernel) rfl, gw_of (i := 728) (by decide +kernel) rfl, ⟨by decide +kernel, by decide +kernel, by decide +kernel⟩, by decide⟩
theorem yv_X11_forgetWhatWas : YV RX11 yX11_forgetWhatWas cX11_forgetWhatWas 2 (none) 0 := ⟨gw_of (i := 629) (by decide +kernel) rfl, gw_of (i := 3) (by decide +kernel) rfl, gw_of (i := 79) (by decide +kernel) rfl, gw_of (i := 630) (by decide +kernel) rfl, ⟨rfl, by decide +kernel, by decide +kernel, by decide +kernel⟩, by decide⟩
theorem yv_X11_isAtRest : YS yX11_isAtRest cX11_isAtRest 7 (some .boolean) 4 := ⟨gw_of (i := 1126) (by decide +kernel) rfl, gw_of (i := 79) (by decide +kernel) rfl, gw_of (i := 1127) (by decide +kernel) rfl, ⟨by decide +kernel, by decide +kernel, by decide +kernel⟩, by decide⟩
theorem yv_X11_isBetterLaid : YV RX11 yX11_isBetterLaid cX11_isBetterLaid 7 (some .boolean) 2 := ⟨gw_of (i := 942) (by decide +kernel) rfl, gw_of (i := 19) (by decide +kernel) rfl, gw_of (i := 79) (by decide +kernel) rfl, gw_of (i := 943) (by decide +kernel) rfl, ⟨rfl, by decide +kernel, by decide +kernel, by decide +kernel⟩, by decide⟩
theorem yv_X11_isSuchPart : YV RX11 yX11_isSuchPart cX11_isSuchPart 4 (some .boolean) 3 := ⟨gw_of (i := 1111) (by decide +kernel) rfl, gw_of (i := 27) (by decide +kernel) rfl, gw_of (i := 79) (by decide +kernel) rfl, gw_of (i := 1112) (by decide +kernel) rfl, ⟨rfl, by decide +kernel, by decide +kernel, by decide +kernel⟩, by decide⟩
theorem yv_X11_isTenths : YS yX11_isTenths cX11_isTenths 1 (some .boolean) 1 := ⟨gw_of (i := 1086) (by decide +kernel) rfl, gw_of (i := 79) (by decide +kernel) rfl, gw_of (i := 1087) (by decide +kernel) rfl, ⟨by decide +kernel, by decide +kernel, by decide +kernel⟩, by decide⟩
theorem yv_X11_isThere : YV RX11 yX11_isThere cX11_isThere 2 (some .boolean) 1 := ⟨gw_of (i := 879) (by decide +kernel) rfl, gw_of (i := 15) (by decide +kernel) rfl, gw_of (i := 79) (by decide +kernel) rfl, gw_of (i := 880) (by decide +kernel) rfl, ⟨rfl, by decide +kernel, by decide +kernel, by decide +kernel⟩, by decide⟩
theorem yv_X11_leastStones : YV RX11 yX11_leastStones cX11_leastStones 3 (some .int) 1 := ⟨gw_of (i := 930) (by decide +kernel) rfl, gw_of (i := 16) (by decide +kernel) rfl, gw_of (i := 79) (by decide +kernel) rfl, gw_of (i := 931) (by decide +kernel) rfl, ⟨rfl, by decide +kernel, by decide +kernel, by decide +kernel⟩, by decide⟩
theorem yv_X11_likelyDumb : YS yX11_likelyDumb cX11_likelyDumb 2 (some .long) 2 := ⟨gw_of (i := 1089) (by decide +kernel) rfl, gw_of (i := 79) (by decide +kernel) rfl, gw_of (i := 1090) (by decide +kernel) rfl, ⟨by decide +kernel, by decide +kernel, by decide +kernel⟩, by decide⟩
theorem yv_X11_likelyMute : YS yX11_likelyMute cX11_likelyMute 3 (some .long) 3 := ⟨gw_of (i := 1095) (by decide +kernel) rfl, gw_of (i := 79) (by decide +kernel) rfl, gw_of (i := 1096) (by decide +kernel) rfl, ⟨by decide +kernel, by decide +kernel, by decide +kernel⟩, by decide⟩
theorem yv_X11_ofJudge : YS yX11_ofJudge cX11_ofJudge 4 (some .int) 4 := ⟨gw_of (i := 1129) (by decide +kernel) rfl, gw_of (i := 79) (by decide +kernel) rfl, gw_of (i := 1130) (by decide +kernel) rfl, ⟨by decide +kernel, by decide +kernel, by decide +kernel⟩, by decide⟩
theorem yv_X11_ofPrisoner : YS yX11_ofPrisoner cX11_ofPrisoner 4 (some .int) 4 := ⟨gw_of (i := 1132) (by decide +kernel) rfl, gw_of (i := 79) (by decide +kernel) rfl, gw_of (i := 1133) (by decide +kernel) rfl, ⟨by decide +kernel, by decide +kernel, by decide +kernel⟩, by decide⟩
theorem yv_X11_overOf : YS yX11_overOf cX11_overOf 1 (some .int) 1 := ⟨gw_of (i := 843) (by decide +kernel) rfl, gw_of (i := 79) (by decide +kernel) rfl, gw_of (i := 844) (by decide +kernel) rfl, ⟨by decide +kernel, by decide +kernel, by decide +kernel⟩, by decide⟩
theorem yv_X11_partsWith : YV RX11 yX11_partsWith cX11_partsWith 6 (some .int) 3 := ⟨gw_of (i := 1119) (by decide +kernel) rfl, gw_of (i := 28) (by decide +kernel) rfl, gw_of (i := 79) (by decide +kernel) rfl, gw_of (i := 1120) (by decide +kernel) rfl, ⟨rfl, by decide +kernel, by decide +kernel, by decide +kernel⟩, by decide⟩
theorem yv_X11_power : YS yX11_power cX11_power 5 (some .long) 2 := ⟨gw_of (i := 1092) (by decide +kernel) rfl, gw_of (i := 79) (by decide +kernel) rfl, gw_of (i := 1093) (by decide +kernel) rfl, ⟨by decide +kernel, by decide +kernel, by decide +kernel⟩, by decide⟩
theorem yv_X11_stirred : YS yX11_stirred cX11_stirred 1 (some .int) 1 := ⟨gw_of (i := 1139) (by decide +kernel) rfl, gw_of (i := 79) (by decide +kernel) rfl, gw_of (i := 1140) (by decide +kernel) rfl, ⟨by decide +kernel, by decide +kernel, by decide +kernel⟩, by decide⟩
theorem yv_X11_stonesOn : YV RX11 yX11_stonesOn cX11_stonesOn 4 (some .int) 1 := ⟨gw_of (i := 934) (by decide +kernel) rfl, gw_of (i := 17) (by decide +kernel) rfl, gw_of (i := 79) (by decide +kernel) rfl, gw_of (i := 935) (by decide +kernel) rfl, ⟨rfl, by decide +kernel, by decide +kernel, by decide +kernel⟩, by decide⟩
theorem yv_X11_stonesOnOne : YV RX11 yX11_stonesOnOne cX11_stonesOnOne 3 (some .int) 2 := ⟨gw_of (i := 938) (by decide +kernel) rfl, gw_of (i := 18) (by decide +kernel) rfl, gw_of (i := 79) (by decide +kernel) rfl, gw_of (i := 939) (by decide +kernel) rfl, ⟨rfl, by decide +kernel, by decide +kernel, by decide +kernel⟩, by decide⟩
theorem yv_X11_tellTurns : YV RX11 yX11_tellTurns cX11_tellTurns 2 (none) 0 := ⟨gw_of (i := 1041) (by decide +kernel) rfl, gw_of (i := 25) (by decide +kernel) rfl, gw_of (i := 79) (by decide +kernel) rfl, gw_of (i := 1042) (by decide +kernel) rfl, ⟨rfl, by decide +kernel, by decide +kernel, by decide +kernel⟩, by decide⟩
theorem yv_X2_changedEndings : YV RX2 yX2_changedEndings cX2_changedEndings 3 (some .int) 0 := ⟨gw_of (i := 1078) (by decide +kernel) rfl, gw_of (i := 1079) (by decide +kernel) rfl, gw_of (i := 88) (by decide +kernel) rfl, gw_of (i := 1080) (by decide +kernel) rfl, ⟨rfl, by decide +kernel, by decide +kernel, by decide +kernel⟩, by decide⟩
theorem yv_X2_enact : YV RX2 yX2_enact cX2_enact 1 (none) 0 := ⟨gw_of (i := 673) (by decide +kernel) rfl, gw_of (i := 674) (by decide +kernel) rfl, gw_of (i := 88) (by decide +kernel) rfl, gw_of (i := 675) (by decide +kernel) rfl, ⟨rfl, by decide +kernel, by decide +kernel, by decide +kernel⟩, by decide⟩
theorem yv_X2_has : YV RX2 yX2_has cX2_has 6 (some .int) 3 := ⟨gw_of (i := 983) (by decide +kernel) rfl, gw_of (i := 984) (by decide +kernel) rfl, gw_of (i := 88) (by decide +kernel) rfl, gw_of (i := 985) (by decide +kernel) rfl, ⟨rfl, by decide +kernel, by decide +kernel, by decide +kernel⟩, by decide⟩
theorem yv_X2_heAndHeir : YV RX2 yX2_heAndHeir cX2_heAndHeir 3 (some .int) 2 := ⟨gw_of (i := 979) (by decide +kernel) rfl, gw_of (i := 980) (by decide +kernel) rfl, gw_of (i := 88) (by decide +kernel) rfl, gw_of (i := 981) (by decide +kernel) rfl, ⟨rfl, by decide +kernel, by decide +kernel, by decide +kernel⟩, by decide⟩
theorem yv_X2_readLaw : YV RX2 yX2_readLaw cX2_readLaw 4 (some .int) 1 := ⟨gw_of (i := 667) (by decide +kernel) rfl, gw_of (i := 668) (by decide +kernel) rfl, gw_of (i := 88) (by decide +kernel) rfl, gw_of (i := 669) (by decide +kernel) rfl, ⟨rfl, by decide +kernel, by decide +kernel, by decide +kernel⟩, by decide⟩
theorem yv_X2_readValues : YV RX2 yX2_readValues cX2_readValues 4 (some .int) 1 := ⟨gw_of (i := 640) (by decide +kernel) rfl, gw_of (i := 641) (by decide +kernel) rfl, gw_of (i := 88) (by decide +kernel) rfl, gw_of (i := 642) (by decide +kernel) rfl, ⟨rfl, by decide +kernel, by decide +kernel, by decide +kernel⟩, by decide⟩
theorem yv_X2_tellReading : YV RX2 yX2_tellReading cX2_tellReading 4 (none) 1 := ⟨gw_of (i := 1074) (by decide +kernel) rfl, gw_of (i := 1075) (by decide +kernel) rfl, gw_of (i := 88) (by decide +kernel) rfl, gw_of (i := 1076) (by decide +kernel) rfl, ⟨rfl, by decide +kernel, by decide +kernel, by decide +kernel⟩, by decide⟩
theorem yv_X2_worthOf : YV RX2 yX2_worthOf cX2_worthOf 4 (some .int) 1 := ⟨gw_of (i := 987) (by decide +kernel) rfl, gw_of (i := 988) (by decide +kernel) rfl, gw_of (i := 88) (by decide +kernel) rfl, gw_of (i := 989) (by decide +kernel) rfl, ⟨rfl, by decide +kernel, by decide +kernel, by decide +kernel⟩, by decide⟩
theorem yv_X3_allGoods : YV RX3 yX3_allGoods cX3_allGoods 3 (some .int) 0 := ⟨gw_of (i := 589) (by decide +kernel) rfl, gw_of (i := 590) (by decide +kernel) rfl, gw_of (i := 83) (by decide +kernel) rfl, gw_of (i := 591) (by decide +kernel) rfl, ⟨rfl, by decide +kernel, by decide +kernel, by decide +kernel⟩, by decide⟩
theorem yv_X3_readGoods : YV RX3 yX3_readGoods cX3_readGoods 4 (some .int) 1 := ⟨gw_of (i := 612) (by decide +kernel) rfl, gw_of (i := 2) (by decide +kernel) rfl, gw_of (i := 83) (by decide +kernel) rfl, gw_of (i := 613) (by decide +kernel) rfl, ⟨rfl, by decide +kernel, by decide +kernel, by decide +kernel⟩, by decide⟩
theorem yv_X3_readsMan : YV RX3 yX3_readsMan cX3_readsMan 3 (some .boolean) 2 := ⟨gw_of (i := 594) (by decide +kernel) rfl, gw_of (i := 0) (by decide +kernel) rfl, gw_of (i := 83) (by decide +kernel) rfl, gw_of (i := 595) (by decide +kernel) rfl, ⟨rfl, by decide +kernel, by decide +kernel, by decide +kernel⟩, by decide⟩
theorem yv_X3_readsRest : YV RX3 yX3_readsRest cX3_readsRest 4 (some .boolean) 2 := ⟨gw_of (i := 605) (by decide +kernel) rfl, gw_of (i := 1) (by decide +kernel) rfl, gw_of (i := 83) (by decide +kernel) rfl, gw_of (i := 606) (by decide +kernel) rfl, ⟨rfl, by decide +kernel, by decide +kernel, by decide +kernel⟩, by decide⟩
theorem yv_X4_askOf : YV RX4 yX4_askOf cX4_askOf 2 (some .int) 1 := ⟨gw_of (i := 772) (by decide +kernel) rfl, gw_of (i := 773) (by decide +kernel) rfl, gw_of (i := 89) (by decide +kernel) rfl, gw_of (i := 774) (by decide +kernel) rfl, ⟨rfl, by decide +kernel, by decide +kernel, by decide +kernel⟩, by decide⟩
theorem yv_X4_diesIn : YV RX4 yX4_diesIn cX4_diesIn 6 (some .int) 4 := ⟨gw_of (i := 891) (by decide +kernel) rfl, gw_of (i := 892) (by decide +kernel) rfl, gw_of (i := 89) (by decide +kernel) rfl, gw_of (i := 893) (by decide +kernel) rfl, ⟨rfl, by decide +kernel, by decide +kernel, by decide +kernel⟩, by decide⟩
theorem yv_X4_has : YV RX4 yX4_has cX4_has 2 (some .boolean) 1 := ⟨gw_of (i := 750) (by decide +kernel) rfl, gw_of (i := 10) (by decide +kernel) rfl, gw_of (i := 89) (by decide +kernel) rfl, gw_of (i := 751) (by decide +kernel) rfl, ⟨rfl, by decide +kernel, by decide +kernel, by decide +kernel⟩, by decide⟩
theorem yv_X4_hear : YV RX4 yX4_hear cX4_hear 4 (none) 2 := ⟨gw_of (i := 659) (by decide +kernel) rfl, gw_of (i := 660) (by decide +kernel) rfl, gw_of (i := 89) (by decide +kernel) rfl, gw_of (i := 661) (by decide +kernel) rfl, ⟨rfl, by decide +kernel, by decide +kernel, by decide +kernel⟩, by decide⟩
theorem yv_X4_isSilent : YV RX4 yX4_isSilent cX4_isSilent 2 (some .boolean) 1 := ⟨gw_of (i := 753) (by decide +kernel) rfl, gw_of (i := 754) (by decide +kernel) rfl, gw_of (i := 89) (by decide +kernel) rfl, gw_of (i := 755) (by decide +kernel) rfl, ⟨rfl, by decide +kernel, by decide +kernel, by decide +kernel⟩, by decide⟩
theorem yv_X4_lackIn : YV RX4 yX4_lackIn cX4_lackIn 3 (some .int) 2 := ⟨gw_of (i := 995) (by decide +kernel) rfl, gw_of (i := 996) (by decide +kernel) rfl, gw_of (i := 89) (by decide +kernel) rfl, gw_of (i := 997) (by decide +kernel) rfl, ⟨rfl, by decide +kernel, by decide +kernel, by decide +kernel⟩, by decide⟩
theorem yv_X4_layOn : YV RX4 yX4_layOn cX4_layOn 3 (some .int) 2 := ⟨gw_of (i := 745) (by decide +kernel) rfl, gw_of (i := 746) (by decide +kernel) rfl, gw_of (i := 89) (by decide +kernel) rfl, gw_of (i := 747) (by decide +kernel) rfl, ⟨rfl, by decide +kernel, by decide +kernel, by decide +kernel⟩, by decide⟩
theorem yv_X4_leaveOver : YV RX4 yX4_leaveOver cX4_leaveOver 3 (some .int) 0 := ⟨gw_of (i := 837) (by decide +kernel) rfl, gw_of (i := 14) (by decide +kernel) rfl, gw_of (i := 89) (by decide +kernel) rfl, gw_of (i := 838) (by decide +kernel) rfl, ⟨rfl, by decide +kernel, by decide +kernel, by decide +kernel⟩, by decide⟩
theorem yv_X4_leftDying : YV RX4 yX4_leftDying cX4_leftDying 4 (some .int) 3 := ⟨gw_of (i := 895) (by decide +kernel) rfl, gw_of (i := 896) (by decide +kernel) rfl, gw_of (i := 89) (by decide +kernel) rfl, gw_of (i := 897) (by decide +kernel) rfl, ⟨rfl, by decide +kernel, by decide +kernel, by decide +kernel⟩, by decide⟩
theorem yv_X4_leftIn : YV RX4 yX4_leftIn cX4_leftIn 4 (some .int) 3 := ⟨gw_of (i := 882) (by decide +kernel) rfl, gw_of (i := 883) (by decide +kernel) rfl, gw_of (i := 89) (by decide +kernel) rfl, gw_of (i := 884) (by decide +kernel) rfl, ⟨rfl, by decide +kernel, by decide +kernel, by decide +kernel⟩, by decide⟩
theorem yv_X4_leftNow : YV RX4 yX4_leftNow cX4_leftNow 2 (some .int) 1 := ⟨gw_of (i := 776) (by decide +kernel) rfl, gw_of (i := 777) (by decide +kernel) rfl, gw_of (i := 89) (by decide +kernel) rfl, gw_of (i := 778) (by decide +kernel) rfl, ⟨rfl, by decide +kernel, by decide +kernel, by decide +kernel⟩, by decide⟩
theorem yv_X4_leftWith : YV RX4 yX4_leftWith cX4_leftWith 6 (some .int) 4 := ⟨gw_of (i := 781) (by decide +kernel) rfl, gw_of (i := 12) (by decide +kernel) rfl, gw_of (i := 89) (by decide +kernel) rfl, gw_of (i := 782) (by decide +kernel) rfl, ⟨rfl, by decide +kernel, by decide +kernel, by decide +kernel⟩, by decide⟩
theorem yv_X4_night : YV RX4 yX4_night cX4_night 4 (some .int) 1 := ⟨gw_of (i := 832) (by decide +kernel) rfl, gw_of (i := 833) (by decide +kernel) rfl, gw_of (i := 89) (by decide +kernel) rfl, gw_of (i := 834) (by decide +kernel) rfl, ⟨rfl, by decide +kernel, by decide +kernel, by decide +kernel⟩, by decide⟩
theorem yv_X4_pass : YV RX4 yX4_pass cX4_pass 5 (some .int) 2 := ⟨gw_of (i := 828) (by decide +kernel) rfl, gw_of (i := 829) (by decide +kernel) rfl, gw_of (i := 89) (by decide +kernel) rfl, gw_of (i := 830) (by decide +kernel) rfl, ⟨rfl, by decide +kernel, by decide +kernel, by decide +kernel⟩, by decide⟩
theorem yv_X4_perform : YV RX4 yX4_perform cX4_perform 6 (some .int) 3 := ⟨gw_of (i := 858) (by decide +kernel) rfl, gw_of (i := 859) (by decide +kernel) rfl, gw_of (i := 89) (by decide +kernel) rfl, gw_of (i := 860) (by decide +kernel) rfl, ⟨rfl, by decide +kernel, by decide +kernel, by decide +kernel⟩, by decide⟩
theorem yv_X4_performDrawn : YV RX4 yX4_performDrawn cX4_performDrawn 3 (none) 2 := ⟨gw_of (i := 1146) (by decide +kernel) rfl, gw_of (i := 1147) (by decide +kernel) rfl, gw_of (i := 89) (by decide +kernel) rfl, gw_of (i := 1148) (by decide +kernel) rfl, ⟨rfl, by decide +kernel, by decide +kernel, by decide +kernel⟩, by decide⟩
theorem yv_X4_pleadsIn : YV RX4 yX4_pleadsIn cX4_pleadsIn 6 (some .int) 3 := ⟨gw_of (i := 904) (by decide +kernel) rfl, gw_of (i := 905) (by decide +kernel) rfl, gw_of (i := 89) (by decide +kernel) rfl, gw_of (i := 906) (by decide +kernel) rfl, ⟨rfl, by decide +kernel, by decide +kernel, by decide +kernel⟩, by decide⟩
theorem yv_X4_proofIn : YV RX4 yX4_proofIn cX4_proofIn 5 (some .int) 2 := ⟨gw_of (i := 803) (by decide +kernel) rfl, gw_of (i := 804) (by decide +kernel) rfl, gw_of (i := 89) (by decide +kernel) rfl, gw_of (i := 805) (by decide +kernel) rfl, ⟨rfl, by decide +kernel, by decide +kernel, by decide +kernel⟩, by decide⟩
theorem yv_X4_receive : YV RX4 yX4_receive cX4_receive 4 (none) 2 := ⟨gw_of (i := 624) (by decide +kernel) rfl, gw_of (i := 625) (by decide +kernel) rfl, gw_of (i := 89) (by decide +kernel) rfl, gw_of (i := 626) (by decide +kernel) rfl, ⟨rfl, by decide +kernel, by decide +kernel, by decide +kernel⟩, by decide⟩
theorem yv_X4_speakersIn : YV RX4 yX4_speakersIn cX4_speakersIn 5 (some .int) 2 := ⟨gw_of (i := 966) (by decide +kernel) rfl, gw_of (i := 967) (by decide +kernel) rfl, gw_of (i := 89) (by decide +kernel) rfl, gw_of (i := 968) (by decide +kernel) rfl, ⟨rfl, by decide +kernel, by decide +kernel, by decide +kernel⟩, by decide⟩
theorem yv_X4_take : YV RX4 yX4_take cX4_take 2 (none) 1 := ⟨gw_of (i := 740) (by decide +kernel) rfl, gw_of (i := 741) (by decide +kernel) rfl, gw_of (i := 89) (by decide +kernel) rfl, gw_of (i := 742) (by decide +kernel) rfl, ⟨rfl, by decide +kernel, by decide +kernel, by decide +kernel⟩, by decide⟩
theorem yv_X4_thoseWho : YV RX4 yX4_thoseWho cX4_thoseWho 4 (some .int) 1 := ⟨gw_of (i := 958) (by decide +kernel) rfl, gw_of (i := 959) (by decide +kernel) rfl, gw_of (i := 89) (by decide +kernel) rfl, gw_of (i := 960) (by decide +kernel) rfl, ⟨rfl, by decide +kernel, by decide +kernel, by decide +kernel⟩, by decide⟩
theorem yv_X4_tryNow : YV RX4 yX4_tryNow cX4_tryNow 2 (some .int) 1 := ⟨gw_of (i := 795) (by decide +kernel) rfl, gw_of (i := 796) (by decide +kernel) rfl, gw_of (i := 89) (by decide +kernel) rfl, gw_of (i := 797) (by decide +kernel) rfl, ⟨rfl, by decide +kernel, by decide +kernel, by decide +kernel⟩, by decide⟩
theorem yv_X4_verdictIn : YV RX4 yX4_verdictIn cX4_verdictIn 3 (some .int) 2 := ⟨gw_of (i := 799) (by decide +kernel) rfl, gw_of (i := 800) (by decide +kernel) rfl, gw_of (i := 89) (by decide +kernel) rfl, gw_of (i := 801) (by decide +kernel) rfl, ⟨rfl, by decide +kernel, by decide +kernel, by decide +kernel⟩, by decide⟩
theorem yv_X4_wordIn : YV RX4 yX4_wordIn cX4_wordIn 3 (some .int) 2 := ⟨gw_of (i := 808) (by decide +kernel) rfl, gw_of (i := 13) (by decide +kernel) rfl, gw_of (i := 89) (by decide +kernel) rfl, gw_of (i := 809) (by decide +kernel) rfl, ⟨rfl, by decide +kernel, by decide +kernel, by decide +kernel⟩, by decide⟩
theorem yv_X6_forget : YV RX6 yX6_forget cX6_forget 1 (none) 0 := ⟨gw_of (i := 632) (by decide +kernel) rfl, gw_of (i := 633) (by decide +kernel) rfl, gw_of (i := 90) (by decide +kernel) rfl, gw_of (i := 634) (by decide +kernel) rfl, ⟨rfl, by decide +kernel, by decide +kernel, by decide +kernel⟩, by decide⟩
theorem yv_X6_note : YV RX6 yX6_note cX6_note 2 (none) 1 := ⟨gw_of (i := 736) (by decide +kernel) rfl, gw_of (i := 737) (by decide +kernel) rfl, gw_of (i := 90) (by decide +kernel) rfl, gw_of (i := 738) (by decide +kernel) rfl, ⟨rfl, by decide +kernel, by decide +kernel, by decide +kernel⟩, by decide⟩
theorem yv_X6_restore : YV RX6 yX6_restore cX6_restore 2 (some .boolean) 1 := ⟨gw_of (i := 870) (by decide +kernel) rfl, gw_of (i := 871) (by decide +kernel) rfl, gw_of (i := 90) (by decide +kernel) rfl, gw_of (i := 872) (by decide +kernel) rfl, ⟨rfl, by decide +kernel, by decide +kernel, by decide +kernel⟩, by decide⟩
theorem yv_X6_seal : YV RX6 yX6_seal cX6_seal 1 (none) 0 := ⟨gw_of (i := 763) (by decide +kernel) rfl, gw_of (i := 764) (by decide +kernel) rfl, gw_of (i := 90) (by decide +kernel) rfl, gw_of (i := 765) (by decide +kernel) rfl, ⟨rfl, by decide +kernel, by decide +kernel, by decide +kernel⟩, by decide⟩
theorem yv_X7_add : YV RX7 yX7_add cX7_add 3 (none) 1 := ⟨gw_of (i := 820) (by decide +kernel) rfl, gw_of (i := 821) (by decide +kernel) rfl, gw_of (i := 81) (by decide +kernel) rfl, gw_of (i := 822) (by decide +kernel) rfl, ⟨rfl, by decide +kernel, by decide +kernel, by decide +kernel⟩, by decide⟩
theorem yv_X7_clear : YV RX7 yX7_clear cX7_clear 1 (none) 0 := ⟨gw_of (i := 816) (by decide +kernel) rfl, gw_of (i := 817) (by decide +kernel) rfl, gw_of (i := 81) (by decide +kernel) rfl, gw_of (i := 818) (by decide +kernel) rfl, ⟨rfl, by decide +kernel, by decide +kernel, by decide +kernel⟩, by decide⟩
theorem yv_X7_tell : YV RX7 yX7_tell cX7_tell 3 (none) 1 := ⟨gw_of (i := 812) (by decide +kernel) rfl, gw_of (i := 813) (by decide +kernel) rfl, gw_of (i := 81) (by decide +kernel) rfl, gw_of (i := 814) (by decide +kernel) rfl, ⟨rfl, by decide +kernel, by decide +kernel, by decide +kernel⟩, by decide⟩
theorem yv_X7_tell_ : YV RX7 yX7_tell_ cX7_tell_ 5 (none) 2 := ⟨gw_of (i := 846) (by decide +kernel) rfl, gw_of (i := 847) (by decide +kernel) rfl, gw_of (i := 81) (by decide +kernel) rfl, gw_of (i := 848) (by decide +kernel) rfl, ⟨rfl, by decide +kernel, by decide +kernel, by decide +kernel⟩, by decide⟩
theorem yv_X7_tell__ : YV RX7 yX7_tell__ cX7_tell__ 7 (none) 3 := ⟨gw_of (i := 1007) (by decide +kernel) rfl, gw_of (i := 1008) (by decide +kernel) rfl, gw_of (i := 81) (by decide +kernel) rfl, gw_of (i := 1009) (by decide +kernel) rfl, ⟨rfl, by decide +kernel, by decide +kernel, by decide +kernel⟩, by decide⟩
theorem yv_X8_drafts : YV RX8 yX8_drafts cX8_drafts 2 (some .boolean) 1 := ⟨gw_of (i := 710) (by decide +kernel) rfl, gw_of (i := 9) (by decide +kernel) rfl, gw_of (i := 86) (by decide +kernel) rfl, gw_of (i := 711) (by decide +kernel) rfl, ⟨rfl, by decide +kernel, by decide +kernel, by decide +kernel⟩, by decide⟩
theorem yv_X8_joined : YS yX8_joined cX8_joined 3 (some .int) 3 := ⟨gw_of (i := 788) (by decide +kernel) rfl, gw_of (i := 86) (by decide +kernel) rfl, gw_of (i := 789) (by decide +kernel) rfl, ⟨by decide +kernel, by decide +kernel, by decide +kernel⟩, by decide⟩
theorem yv_X8_read : YV RX8 yX8_read cX8_read 2 (some .int) 1 := ⟨gw_of (i := 681) (by decide +kernel) rfl, gw_of (i := 682) (by decide +kernel) rfl, gw_of (i := 86) (by decide +kernel) rfl, gw_of (i := 683) (by decide +kernel) rfl, ⟨rfl, by decide +kernel, by decide +kernel, by decide +kernel⟩, by decide⟩
theorem yv_X8_readsExpression : YV RX8 yX8_readsExpression cX8_readsExpression 4 (some .boolean) 2 := ⟨gw_of (i := 688) (by decide +kernel) rfl, gw_of (i := 4) (by decide +kernel) rfl, gw_of (i := 86) (by decide +kernel) rfl, gw_of (i := 689) (by decide +kernel) rfl, ⟨rfl, by decide +kernel, by decide +kernel, by decide +kernel⟩, by decide⟩
theorem yv_X8_readsProduct : YV RX8 yX8_readsProduct cX8_readsProduct 6 (some .boolean) 2 := ⟨gw_of (i := 696) (by decide +kernel) rfl, gw_of (i := 6) (by decide +kernel) rfl, gw_of (i := 86) (by decide +kernel) rfl, gw_of (i := 697) (by decide +kernel) rfl, ⟨rfl, by decide +kernel, by decide +kernel, by decide +kernel⟩, by decide⟩
theorem yv_X8_readsSigned : YV RX8 yX8_readsSigned cX8_readsSigned 6 (some .boolean) 2 := ⟨gw_of (i := 700) (by decide +kernel) rfl, gw_of (i := 7) (by decide +kernel) rfl, gw_of (i := 86) (by decide +kernel) rfl, gw_of (i := 701) (by decide +kernel) rfl, ⟨rfl, by decide +kernel, by decide +kernel, by decide +kernel⟩, by decide⟩
theorem yv_X8_readsSum : YV RX8 yX8_readsSum cX8_readsSum 6 (some .boolean) 2 := ⟨gw_of (i := 692) (by decide +kernel) rfl, gw_of (i := 5) (by decide +kernel) rfl, gw_of (i := 86) (by decide +kernel) rfl, gw_of (i := 693) (by decide +kernel) rfl, ⟨rfl, by decide +kernel, by decide +kernel, by decide +kernel⟩, by decide⟩
theorem yv_X8_readsThing : YV RX8 yX8_readsThing cX8_readsThing 5 (some .boolean) 2 := ⟨gw_of (i := 705) (by decide +kernel) rfl, gw_of (i := 8) (by decide +kernel) rfl, gw_of (i := 86) (by decide +kernel) rfl, gw_of (i := 706) (by decide +kernel) rfl, ⟨rfl, by decide +kernel, by decide +kernel, by decide +kernel⟩, by decide⟩
theorem yv_X8_worth : YV RX8 yX8_worth cX8_worth 12 (some .int) 6 := ⟨gw_of (i := 784) (by decide +kernel) rfl, gw_of (i := 785) (by decide +kernel) rfl, gw_of (i := 86) (by decide +kernel) rfl, gw_of (i := 786) (by decide +kernel) rfl, ⟨rfl, by decide +kernel, by decide +kernel, by decide +kernel⟩, by decide⟩
theorem yv_X9_add : YV RX9 yX9_add cX9_add 3 (some .int) 1 := ⟨gw_of (i := 449) (by decide +kernel) rfl, gw_of (i := 450) (by decide +kernel) rfl, gw_of (i := 80) (by decide +kernel) rfl, gw_of (i := 451) (by decide +kernel) rfl, ⟨rfl, by decide +kernel, by decide +kernel, by decide +kernel⟩, by decide⟩
theorem yv_X9_back : YV RX9 yX9_back cX9_back 1 (none) 0 := ⟨gw_of (i := 598) (by decide +kernel) rfl, gw_of (i := 599) (by decide +kernel) rfl, gw_of (i := 80) (by decide +kernel) rfl, gw_of (i := 600) (by decide +kernel) rfl, ⟨rfl, by decide +kernel, by decide +kernel, by decide +kernel⟩, by decide⟩
theorem yv_X9_cut : YV RX9 yX9_cut cX9_cut 2 (some .boolean) 1 := ⟨gw_of (i := 457) (by decide +kernel) rfl, gw_of (i := 458) (by decide +kernel) rfl, gw_of (i := 80) (by decide +kernel) rfl, gw_of (i := 459) (by decide +kernel) rfl, ⟨rfl, by decide +kernel, by decide +kernel, by decide +kernel⟩, by decide⟩
theorem yv_X9_digit : YV RX9 yX9_digit cX9_digit 3 (some .int) 1 := ⟨gw_of (i := 568) (by decide +kernel) rfl, gw_of (i := 569) (by decide +kernel) rfl, gw_of (i := 80) (by decide +kernel) rfl, gw_of (i := 570) (by decide +kernel) rfl, ⟨rfl, by decide +kernel, by decide +kernel, by decide +kernel⟩, by decide⟩
theorem yv_X9_empty : YV RX9 yX9_empty cX9_empty 1 (none) 0 := ⟨gw_of (i := 620) (by decide +kernel) rfl, gw_of (i := 621) (by decide +kernel) rfl, gw_of (i := 80) (by decide +kernel) rfl, gw_of (i := 622) (by decide +kernel) rfl, ⟨rfl, by decide +kernel, by decide +kernel, by decide +kernel⟩, by decide⟩
theorem yv_X9_isRead : YV RX9 yX9_isRead cX9_isRead 1 (some .boolean) 0 := ⟨gw_of (i := 478) (by decide +kernel) rfl, gw_of (i := 479) (by decide +kernel) rfl, gw_of (i := 80) (by decide +kernel) rfl, gw_of (i := 480) (by decide +kernel) rfl, ⟨rfl, by decide +kernel, by decide +kernel, by decide +kernel⟩, by decide⟩
theorem yv_X9_number : YV RX9 yX9_number cX9_number 5 (some .int) 1 := ⟨gw_of (i := 572) (by decide +kernel) rfl, gw_of (i := 573) (by decide +kernel) rfl, gw_of (i := 80) (by decide +kernel) rfl, gw_of (i := 574) (by decide +kernel) rfl, ⟨rfl, by decide +kernel, by decide +kernel, by decide +kernel⟩, by decide⟩
theorem yv_X9_open : YV RX9 yX9_open cX9_open 2 (none) 1 := ⟨gw_of (i := 471) (by decide +kernel) rfl, gw_of (i := 472) (by decide +kernel) rfl, gw_of (i := 80) (by decide +kernel) rfl, gw_of (i := 473) (by decide +kernel) rfl, ⟨rfl, by decide +kernel, by decide +kernel, by decide +kernel⟩, by decide⟩
theorem yv_X9_takes : YV RX9 yX9_takes cX9_takes 2 (some .boolean) 1 := ⟨gw_of (i := 581) (by decide +kernel) rfl, gw_of (i := 582) (by decide +kernel) rfl, gw_of (i := 80) (by decide +kernel) rfl, gw_of (i := 583) (by decide +kernel) rfl, ⟨rfl, by decide +kernel, by decide +kernel, by decide +kernel⟩, by decide⟩
theorem yv_X9_takesOneOf : YV RX9 yX9_takesOneOf cX9_takesOneOf 3 (some .int) 1 := ⟨gw_of (i := 489) (by decide +kernel) rfl, gw_of (i := 490) (by decide +kernel) rfl, gw_of (i := 80) (by decide +kernel) rfl, gw_of (i := 491) (by decide +kernel) rfl, ⟨rfl, by decide +kernel, by decide +kernel, by decide +kernel⟩, by decide⟩
theorem yv_X9_wrong : YV RX9 yX9_wrong cX9_wrong 1 (some .int) 0 := ⟨gw_of (i := 615) (by decide +kernel) rfl, gw_of (i := 616) (by decide +kernel) rfl, gw_of (i := 80) (by decide +kernel) rfl, gw_of (i := 617) (by decide +kernel) rfl, ⟨rfl, by decide +kernel, by decide +kernel, by decide +kernel⟩, by decide⟩
theorem yv_X10_find : YV RX10 yX10_find cX10_find 3 (none) 2 := ⟨gw_of (i := 1021) (by decide +kernel) rfl, gw_of (i := 21) (by decide +kernel) rfl, gw_of (i := 91) (by decide +kernel) rfl, gw_of (i := 1022) (by decide +kernel) rfl, ⟨rfl, by decide +kernel, by decide +kernel, by decide +kernel⟩, by decide⟩
theorem yv_X10_findMostConvicted : YV RX10 yX10_findMostConvicted cX10_findMostConvicted 2 (none) 1 := ⟨gw_of (i := 1016) (by decide +kernel) rfl, gw_of (i := 1017) (by decide +kernel) rfl, gw_of (i := 91) (by decide +kernel) rfl, gw_of (i := 1018) (by decide +kernel) rfl, ⟨rfl, by decide +kernel, by decide +kernel, by decide +kernel⟩, by decide⟩
theorem yv_X10_findMostForKing : YV RX10 yX10_findMostForKing cX10_findMostForKing 4 (none) 1 := ⟨gw_of (i := 1048) (by decide +kernel) rfl, gw_of (i := 1049) (by decide +kernel) rfl, gw_of (i := 91) (by decide +kernel) rfl, gw_of (i := 1050) (by decide +kernel) rfl, ⟨rfl, by decide +kernel, by decide +kernel, by decide +kernel⟩, by decide⟩
theorem yv_X10_gainOf : YV RX10 yX10_gainOf cX10_gainOf 3 (some .int) 2 := ⟨gw_of (i := 1036) (by decide +kernel) rfl, gw_of (i := 24) (by decide +kernel) rfl, gw_of (i := 91) (by decide +kernel) rfl, gw_of (i := 1037) (by decide +kernel) rfl, ⟨rfl, by decide +kernel, by decide +kernel, by decide +kernel⟩, by decide⟩
theorem yv_X10_goOn : YV RX10 yX10_goOn cX10_goOn 7 (none) 3 := ⟨gw_of (i := 1026) (by decide +kernel) rfl, gw_of (i := 22) (by decide +kernel) rfl, gw_of (i := 91) (by decide +kernel) rfl, gw_of (i := 1027) (by decide +kernel) rfl, ⟨rfl, by decide +kernel, by decide +kernel, by decide +kernel⟩, by decide⟩
theorem yv_X10_isPleaded : YV RX10 yX10_isPleaded cX10_isPleaded 2 (some .boolean) 1 := ⟨gw_of (i := 1031) (by decide +kernel) rfl, gw_of (i := 23) (by decide +kernel) rfl, gw_of (i := 91) (by decide +kernel) rfl, gw_of (i := 1032) (by decide +kernel) rfl, ⟨rfl, by decide +kernel, by decide +kernel, by decide +kernel⟩, by decide⟩
theorem yv_X12_act : YV RX12 yX12_act cX12_act 5 (some .boolean) 3 := ⟨gw_of (i := 1614) (by decide +kernel) rfl, gw_of (i := 61) (by decide +kernel) rfl, gw_of (i := 92) (by decide +kernel) rfl, gw_of (i := 1615) (by decide +kernel) rfl, ⟨rfl, by decide +kernel, by decide +kernel, by decide +kernel⟩, by decide⟩
theorem yv_X12_allGoods : YV RX12 yX12_allGoods cX12_allGoods 3 (some .int) 0 := ⟨gw_of (i := 1426) (by decide +kernel) rfl, gw_of (i := 32) (by decide +kernel) rfl, gw_of (i := 92) (by decide +kernel) rfl, gw_of (i := 1427) (by decide +kernel) rfl, ⟨rfl, by decide +kernel, by decide +kernel, by decide +kernel⟩, by decide⟩
theorem yv_X12_begin : YV RX12 yX12_begin cX12_begin 4 (none) 3 := ⟨gw_of (i := 1422) (by decide +kernel) rfl, gw_of (i := 31) (by decide +kernel) rfl, gw_of (i := 92) (by decide +kernel) rfl, gw_of (i := 1423) (by decide +kernel) rfl, ⟨rfl, by decide +kernel, by decide +kernel, by decide +kernel⟩, by decide⟩
theorem yv_X12_beginText : YV RX12 yX12_beginText cX12_beginText 2 (none) 1 := ⟨gw_of (i := 1418) (by decide +kernel) rfl, gw_of (i := 30) (by decide +kernel) rfl, gw_of (i := 92) (by decide +kernel) rfl, gw_of (i := 1419) (by decide +kernel) rfl, ⟨rfl, by decide +kernel, by decide +kernel, by decide +kernel⟩, by decide⟩
theorem yv_X12_common : YS yX12_common cX12_common 4 (some .long) 2 := ⟨gw_of (i := 1779) (by decide +kernel) rfl, gw_of (i := 92) (by decide +kernel) rfl, gw_of (i := 1780) (by decide +kernel) rfl, ⟨by decide +kernel, by decide +kernel, by decide +kernel⟩, by decide⟩
theorem yv_X12_dieNight : YV RX12 yX12_dieNight cX12_dieNight 6 (some .int) 4 := ⟨gw_of (i := 1630) (by decide +kernel) rfl, gw_of (i := 62) (by decide +kernel) rfl, gw_of (i := 92) (by decide +kernel) rfl, gw_of (i := 1631) (by decide +kernel) rfl, ⟨rfl, by decide +kernel, by decide +kernel, by decide +kernel⟩, by decide⟩
theorem yv_X12_doesSpeak : YV RX12 yX12_doesSpeak cX12_doesSpeak 3 (some .boolean) 2 := ⟨gw_of (i := 1575) (by decide +kernel) rfl, gw_of (i := 55) (by decide +kernel) rfl, gw_of (i := 92) (by decide +kernel) rfl, gw_of (i := 1576) (by decide +kernel) rfl, ⟨rfl, by decide +kernel, by decide +kernel, by decide +kernel⟩, by decide⟩
theorem yv_X12_draw : YV RX12 yX12_draw cX12_draw 2 (some .int) 1 := ⟨gw_of (i := 1814) (by decide +kernel) rfl, gw_of (i := 77) (by decide +kernel) rfl, gw_of (i := 92) (by decide +kernel) rfl, gw_of (i := 1815) (by decide +kernel) rfl, ⟨rfl, by decide +kernel, by decide +kernel, by decide +kernel⟩, by decide⟩
theorem yv_X12_dumbPart : YS yX12_dumbPart cX12_dumbPart 2 (some .long) 2 := ⟨gw_of (i := 1769) (by decide +kernel) rfl, gw_of (i := 92) (by decide +kernel) rfl, gw_of (i := 1770) (by decide +kernel) rfl, ⟨by decide +kernel, by decide +kernel, by decide +kernel⟩, by decide⟩
theorem yv_X12_ending : YV RX12 yX12_ending cX12_ending 2 (some .int) 1 := ⟨gw_of (i := 1586) (by decide +kernel) rfl, gw_of (i := 56) (by decide +kernel) rfl, gw_of (i := 92) (by decide +kernel) rfl, gw_of (i := 1587) (by decide +kernel) rfl, ⟨rfl, by decide +kernel, by decide +kernel, by decide +kernel⟩, by decide⟩
theorem yv_X12_fault : YV RX12 yX12_fault cX12_fault 2 (none) 1 := ⟨gw_of (i := 1434) (by decide +kernel) rfl, gw_of (i := 34) (by decide +kernel) rfl, gw_of (i := 92) (by decide +kernel) rfl, gw_of (i := 1435) (by decide +kernel) rfl, ⟨rfl, by decide +kernel, by decide +kernel, by decide +kernel⟩, by decide⟩
theorem yv_X12_fine : YV RX12 yX12_fine cX12_fine 1 (some .boolean) 0 := ⟨gw_of (i := 1430) (by decide +kernel) rfl, gw_of (i := 33) (by decide +kernel) rfl, gw_of (i := 92) (by decide +kernel) rfl, gw_of (i := 1431) (by decide +kernel) rfl, ⟨rfl, by decide +kernel, by decide +kernel, by decide +kernel⟩, by decide⟩
theorem yv_X12_goDocket : YV RX12 yX12_goDocket cX12_goDocket 6 (none) 3 := ⟨gw_of (i := 1731) (by decide +kernel) rfl, gw_of (i := 73) (by decide +kernel) rfl, gw_of (i := 92) (by decide +kernel) rfl, gw_of (i := 1732) (by decide +kernel) rfl, ⟨rfl, by decide +kernel, by decide +kernel, by decide +kernel⟩, by decide⟩
theorem yv_X12_goLay : YS yX12_goLay cX12_goLay 3 (none) 3 := ⟨gw_of (i := 1567) (by decide +kernel) rfl, gw_of (i := 92) (by decide +kernel) rfl, gw_of (i := 1568) (by decide +kernel) rfl, ⟨by decide +kernel, by decide +kernel, by decide +kernel⟩, by decide⟩
theorem yv_X12_goNight : YV RX12 yX12_goNight cX12_goNight 3 (none) 1 := ⟨gw_of (i := 1602) (by decide +kernel) rfl, gw_of (i := 59) (by decide +kernel) rfl, gw_of (i := 92) (by decide +kernel) rfl, gw_of (i := 1603) (by decide +kernel) rfl, ⟨rfl, by decide +kernel, by decide +kernel, by decide +kernel⟩, by decide⟩
theorem yv_X12_goPlead : YS yX12_goPlead cX12_goPlead 2 (none) 2 := ⟨gw_of (i := 1578) (by decide +kernel) rfl, gw_of (i := 92) (by decide +kernel) rfl, gw_of (i := 1579) (by decide +kernel) rfl, ⟨by decide +kernel, by decide +kernel, by decide +kernel⟩, by decide⟩
theorem yv_X12_goTrials : YV RX12 yX12_goTrials cX12_goTrials 4 (none) 2 := ⟨gw_of (i := 1715) (by decide +kernel) rfl, gw_of (i := 70) (by decide +kernel) rfl, gw_of (i := 92) (by decide +kernel) rfl, gw_of (i := 1716) (by decide +kernel) rfl, ⟨rfl, by decide +kernel, by decide +kernel, by decide +kernel⟩, by decide⟩
theorem yv_X12_has : YS yX12_has cX12_has 2 (some .boolean) 2 := ⟨gw_of (i := 1461) (by decide +kernel) rfl, gw_of (i := 92) (by decide +kernel) rfl, gw_of (i := 1462) (by decide +kernel) rfl, ⟨by decide +kernel, by decide +kernel, by decide +kernel⟩, by decide⟩
theorem yv_X12_haveBy : YV RX12 yX12_haveBy cX12_haveBy 8 (some .int) 3 := ⟨gw_of (i := 1747) (by decide +kernel) rfl, gw_of (i := 76) (by decide +kernel) rfl, gw_of (i := 92) (by decide +kernel) rfl, gw_of (i := 1748) (by decide +kernel) rfl, ⟨rfl, by decide +kernel, by decide +kernel, by decide +kernel⟩, by decide⟩
theorem yv_X12_held : YV RX12 yX12_held cX12_held 3 (some .int) 1 := ⟨gw_of (i := 1492) (by decide +kernel) rfl, gw_of (i := 43) (by decide +kernel) rfl, gw_of (i := 92) (by decide +kernel) rfl, gw_of (i := 1493) (by decide +kernel) rfl, ⟨rfl, by decide +kernel, by decide +kernel, by decide +kernel⟩, by decide⟩
theorem yv_X12_here : YV RX12 yX12_here cX12_here 1 (some .int) 0 := ⟨gw_of (i := 1450) (by decide +kernel) rfl, gw_of (i := 38) (by decide +kernel) rfl, gw_of (i := 92) (by decide +kernel) rfl, gw_of (i := 1451) (by decide +kernel) rfl, ⟨rfl, by decide +kernel, by decide +kernel, by decide +kernel⟩, by decide⟩
theorem yv_X12_in : YS yX12_in cX12_in 3 (some .boolean) 3 := ⟨gw_of (i := 1410) (by decide +kernel) rfl, gw_of (i := 92) (by decide +kernel) rfl, gw_of (i := 1411) (by decide +kernel) rfl, ⟨by decide +kernel, by decide +kernel, by decide +kernel⟩, by decide⟩
theorem yv_X12_isAhead : YV RX12 yX12_isAhead cX12_isAhead 2 (some .boolean) 1 := ⟨gw_of (i := 1707) (by decide +kernel) rfl, gw_of (i := 69) (by decide +kernel) rfl, gw_of (i := 92) (by decide +kernel) rfl, gw_of (i := 1708) (by decide +kernel) rfl, ⟨rfl, by decide +kernel, by decide +kernel, by decide +kernel⟩, by decide⟩
theorem yv_X12_isHeir : YS yX12_isHeir cX12_isHeir 1 (some .boolean) 1 := ⟨gw_of (i := 1754) (by decide +kernel) rfl, gw_of (i := 92) (by decide +kernel) rfl, gw_of (i := 1755) (by decide +kernel) rfl, ⟨by decide +kernel, by decide +kernel, by decide +kernel⟩, by decide⟩
theorem yv_X12_isLessRow : YV RX12 yX12_isLessRow cX12_isLessRow 6 (some .boolean) 2 := ⟨gw_of (i := 1667) (by decide +kernel) rfl, gw_of (i := 65) (by decide +kernel) rfl, gw_of (i := 92) (by decide +kernel) rfl, gw_of (i := 1668) (by decide +kernel) rfl, ⟨rfl, by decide +kernel, by decide +kernel, by decide +kernel⟩, by decide⟩
theorem yv_X12_isMan : YV RX12 yX12_isMan cX12_isMan 2 (some .boolean) 1 := ⟨gw_of (i := 1515) (by decide +kernel) rfl, gw_of (i := 47) (by decide +kernel) rfl, gw_of (i := 92) (by decide +kernel) rfl, gw_of (i := 1516) (by decide +kernel) rfl, ⟨rfl, by decide +kernel, by decide +kernel, by decide +kernel⟩, by decide⟩
theorem yv_X12_isRest : YS yX12_isRest cX12_isRest 5 (some .boolean) 4 := ⟨gw_of (i := 1800) (by decide +kernel) rfl, gw_of (i := 92) (by decide +kernel) rfl, gw_of (i := 1801) (by decide +kernel) rfl, ⟨by decide +kernel, by decide +kernel, by decide +kernel⟩, by decide⟩
theorem yv_X12_judgeGets : YS yX12_judgeGets cX12_judgeGets 4 (some .int) 4 := ⟨gw_of (i := 1803) (by decide +kernel) rfl, gw_of (i := 92) (by decide +kernel) rfl, gw_of (i := 1804) (by decide +kernel) rfl, ⟨by decide +kernel, by decide +kernel, by decide +kernel⟩, by decide⟩
theorem yv_X12_keepLine : YV RX12 yX12_keepLine cX12_keepLine 3 (none) 1 := ⟨gw_of (i := 1719) (by decide +kernel) rfl, gw_of (i := 71) (by decide +kernel) rfl, gw_of (i := 92) (by decide +kernel) rfl, gw_of (i := 1720) (by decide +kernel) rfl, ⟨rfl, by decide +kernel, by decide +kernel, by decide +kernel⟩, by decide⟩
theorem yv_X12_kingsBy : YV RX12 yX12_kingsBy cX12_kingsBy 3 (some .int) 2 := ⟨gw_of (i := 1739) (by decide +kernel) rfl, gw_of (i := 75) (by decide +kernel) rfl, gw_of (i := 92) (by decide +kernel) rfl, gw_of (i := 1740) (by decide +kernel) rfl, ⟨rfl, by decide +kernel, by decide +kernel, by decide +kernel⟩, by decide⟩
theorem yv_X12_kingsOf : YV RX12 yX12_kingsOf cX12_kingsOf 4 (some .int) 1 := ⟨gw_of (i := 1735) (by decide +kernel) rfl, gw_of (i := 74) (by decide +kernel) rfl, gw_of (i := 92) (by decide +kernel) rfl, gw_of (i := 1736) (by decide +kernel) rfl, ⟨rfl, by decide +kernel, by decide +kernel, by decide +kernel⟩, by decide⟩
theorem yv_X12_lackOf : YV RX12 yX12_lackOf cX12_lackOf 3 (some .int) 2 := ⟨gw_of (i := 1699) (by decide +kernel) rfl, gw_of (i := 68) (by decide +kernel) rfl, gw_of (i := 92) (by decide +kernel) rfl, gw_of (i := 1700) (by decide +kernel) rfl, ⟨rfl, by decide +kernel, by decide +kernel, by decide +kernel⟩, by decide⟩
theorem yv_X12_lay : YS yX12_lay cX12_lay 4 (none) 3 := ⟨gw_of (i := 1564) (by decide +kernel) rfl, gw_of (i := 92) (by decide +kernel) rfl, gw_of (i := 1565) (by decide +kernel) rfl, ⟨by decide +kernel, by decide +kernel, by decide +kernel⟩, by decide⟩
theorem yv_X12_leftNow : YV RX12 yX12_leftNow cX12_leftNow 3 (some .int) 2 := ⟨gw_of (i := 1523) (by decide +kernel) rfl, gw_of (i := 49) (by decide +kernel) rfl, gw_of (i := 92) (by decide +kernel) rfl, gw_of (i := 1524) (by decide +kernel) rfl, ⟨rfl, by decide +kernel, by decide +kernel, by decide +kernel⟩, by decide⟩
theorem yv_X12_leftOf : YV RX12 yX12_leftOf cX12_leftOf 6 (some .int) 4 := ⟨gw_of (i := 1527) (by decide +kernel) rfl, gw_of (i := 50) (by decide +kernel) rfl, gw_of (i := 92) (by decide +kernel) rfl, gw_of (i := 1528) (by decide +kernel) rfl, ⟨rfl, by decide +kernel, by decide +kernel, by decide +kernel⟩, by decide⟩
theorem yv_X12_letterOf : YS yX12_letterOf cX12_letterOf 1 (some .int) 1 := ⟨gw_of (i := 1507) (by decide +kernel) rfl, gw_of (i := 92) (by decide +kernel) rfl, gw_of (i := 1508) (by decide +kernel) rfl, ⟨by decide +kernel, by decide +kernel, by decide +kernel⟩, by decide⟩
theorem yv_X12_lost : YV RX12 yX12_lost cX12_lost 1 (some .int) 0 := ⟨gw_of (i := 1519) (by decide +kernel) rfl, gw_of (i := 48) (by decide +kernel) rfl, gw_of (i := 92) (by decide +kernel) rfl, gw_of (i := 1520) (by decide +kernel) rfl, ⟨rfl, by decide +kernel, by decide +kernel, by decide +kernel⟩, by decide⟩
theorem yv_X12_manGets : YS yX12_manGets cX12_manGets 4 (some .int) 4 := ⟨gw_of (i := 1806) (by decide +kernel) rfl, gw_of (i := 92) (by decide +kernel) rfl, gw_of (i := 1807) (by decide +kernel) rfl, ⟨by decide +kernel, by decide +kernel, by decide +kernel⟩, by decide⟩
theorem yv_X12_need : YV RX12 yX12_need cX12_need 2 (none) 1 := ⟨gw_of (i := 1454) (by decide +kernel) rfl, gw_of (i := 39) (by decide +kernel) rfl, gw_of (i := 92) (by decide +kernel) rfl, gw_of (i := 1455) (by decide +kernel) rfl, ⟨rfl, by decide +kernel, by decide +kernel, by decide +kernel⟩, by decide⟩
theorem yv_X12_number : YV RX12 yX12_number cX12_number 4 (some .int) 1 := ⟨gw_of (i := 1442) (by decide +kernel) rfl, gw_of (i := 36) (by decide +kernel) rfl, gw_of (i := 92) (by decide +kernel) rfl, gw_of (i := 1443) (by decide +kernel) rfl, ⟨rfl, by decide +kernel, by decide +kernel, by decide +kernel⟩, by decide⟩
theorem yv_X12_ofKind : YV RX12 yX12_ofKind cX12_ofKind 5 (some .int) 2 := ⟨gw_of (i := 1598) (by decide +kernel) rfl, gw_of (i := 58) (by decide +kernel) rfl, gw_of (i := 92) (by decide +kernel) rfl, gw_of (i := 1599) (by decide +kernel) rfl, ⟨rfl, by decide +kernel, by decide +kernel, by decide +kernel⟩, by decide⟩
theorem yv_X12_oneOf : YV RX12 yX12_oneOf cX12_oneOf 3 (some .int) 2 := ⟨gw_of (i := 1446) (by decide +kernel) rfl, gw_of (i := 37) (by decide +kernel) rfl, gw_of (i := 92) (by decide +kernel) rfl, gw_of (i := 1447) (by decide +kernel) rfl, ⟨rfl, by decide +kernel, by decide +kernel, by decide +kernel⟩, by decide⟩
theorem yv_X12_passes : YV RX12 yX12_passes cX12_passes 2 (some .boolean) 1 := ⟨gw_of (i := 1458) (by decide +kernel) rfl, gw_of (i := 40) (by decide +kernel) rfl, gw_of (i := 92) (by decide +kernel) rfl, gw_of (i := 1459) (by decide +kernel) rfl, ⟨rfl, by decide +kernel, by decide +kernel, by decide +kernel⟩, by decide⟩
theorem yv_X12_power : YS yX12_power cX12_power 6 (some .long) 2 := ⟨gw_of (i := 1773) (by decide +kernel) rfl, gw_of (i := 92) (by decide +kernel) rfl, gw_of (i := 1774) (by decide +kernel) rfl, ⟨by decide +kernel, by decide +kernel, by decide +kernel⟩, by decide⟩
theorem yv_X12_product : YV RX12 yX12_product cX12_product 5 (some .int) 1 := ⟨gw_of (i := 1500) (by decide +kernel) rfl, gw_of (i := 45) (by decide +kernel) rfl, gw_of (i := 92) (by decide +kernel) rfl, gw_of (i := 1501) (by decide +kernel) rfl, ⟨rfl, by decide +kernel, by decide +kernel, by decide +kernel⟩, by decide⟩
theorem yv_X12_proofIn : YV RX12 yX12_proofIn cX12_proofIn 6 (some .int) 3 := ⟨gw_of (i := 1533) (by decide +kernel) rfl, gw_of (i := 51) (by decide +kernel) rfl, gw_of (i := 92) (by decide +kernel) rfl, gw_of (i := 1534) (by decide +kernel) rfl, ⟨rfl, by decide +kernel, by decide +kernel, by decide +kernel⟩, by decide⟩
theorem yv_X12_readAct : YV RX12 yX12_readAct cX12_readAct 3 (none) 1 := ⟨gw_of (i := 1610) (by decide +kernel) rfl, gw_of (i := 60) (by decide +kernel) rfl, gw_of (i := 92) (by decide +kernel) rfl, gw_of (i := 1611) (by decide +kernel) rfl, ⟨rfl, by decide +kernel, by decide +kernel, by decide +kernel⟩, by decide⟩
theorem yv_X12_readLaw : YV RX12 yX12_readLaw cX12_readLaw 2 (some .boolean) 0 := ⟨gw_of (i := 1481) (by decide +kernel) rfl, gw_of (i := 42) (by decide +kernel) rfl, gw_of (i := 92) (by decide +kernel) rfl, gw_of (i := 1482) (by decide +kernel) rfl, ⟨rfl, by decide +kernel, by decide +kernel, by decide +kernel⟩, by decide⟩
theorem yv_X12_readMan : YV RX12 yX12_readMan cX12_readMan 6 (some .int) 2 := ⟨gw_of (i := 1438) (by decide +kernel) rfl, gw_of (i := 35) (by decide +kernel) rfl, gw_of (i := 92) (by decide +kernel) rfl, gw_of (i := 1439) (by decide +kernel) rfl, ⟨rfl, by decide +kernel, by decide +kernel, by decide +kernel⟩, by decide⟩
theorem yv_X12_refusesLay : YV RX12 yX12_refusesLay cX12_refusesLay 3 (some .int) 2 := ⟨gw_of (i := 1557) (by decide +kernel) rfl, gw_of (i := 53) (by decide +kernel) rfl, gw_of (i := 92) (by decide +kernel) rfl, gw_of (i := 1558) (by decide +kernel) rfl, ⟨rfl, by decide +kernel, by decide +kernel, by decide +kernel⟩, by decide⟩
theorem yv_X12_remember : YV RX12 yX12_remember cX12_remember 3 (none) 1 := ⟨gw_of (i := 1561) (by decide +kernel) rfl, gw_of (i := 54) (by decide +kernel) rfl, gw_of (i := 92) (by decide +kernel) rfl, gw_of (i := 1562) (by decide +kernel) rfl, ⟨rfl, by decide +kernel, by decide +kernel, by decide +kernel⟩, by decide⟩
theorem yv_X12_speakNight : YV RX12 yX12_speakNight cX12_speakNight 5 (some .int) 2 := ⟨gw_of (i := 1638) (by decide +kernel) rfl, gw_of (i := 63) (by decide +kernel) rfl, gw_of (i := 92) (by decide +kernel) rfl, gw_of (i := 1639) (by decide +kernel) rfl, ⟨rfl, by decide +kernel, by decide +kernel, by decide +kernel⟩, by decide⟩
theorem yv_X12_stonesOf : YV RX12 yX12_stonesOf cX12_stonesOf 4 (some .int) 1 := ⟨gw_of (i := 1662) (by decide +kernel) rfl, gw_of (i := 64) (by decide +kernel) rfl, gw_of (i := 92) (by decide +kernel) rfl, gw_of (i := 1663) (by decide +kernel) rfl, ⟨rfl, by decide +kernel, by decide +kernel, by decide +kernel⟩, by decide⟩
theorem yv_X12_sum : YV RX12 yX12_sum cX12_sum 5 (some .int) 1 := ⟨gw_of (i := 1496) (by decide +kernel) rfl, gw_of (i := 44) (by decide +kernel) rfl, gw_of (i := 92) (by decide +kernel) rfl, gw_of (i := 1497) (by decide +kernel) rfl, ⟨rfl, by decide +kernel, by decide +kernel, by decide +kernel⟩, by decide⟩
theorem yv_X12_tell : YV RX12 yX12_tell cX12_tell 3 (none) 1 := ⟨gw_of (i := 1590) (by decide +kernel) rfl, gw_of (i := 57) (by decide +kernel) rfl, gw_of (i := 92) (by decide +kernel) rfl, gw_of (i := 1591) (by decide +kernel) rfl, ⟨rfl, by decide +kernel, by decide +kernel, by decide +kernel⟩, by decide⟩
theorem yv_X12_tellLine : YV RX12 yX12_tellLine cX12_tellLine 2 (none) 0 := ⟨gw_of (i := 1723) (by decide +kernel) rfl, gw_of (i := 72) (by decide +kernel) rfl, gw_of (i := 92) (by decide +kernel) rfl, gw_of (i := 1724) (by decide +kernel) rfl, ⟨rfl, by decide +kernel, by decide +kernel, by decide +kernel⟩, by decide⟩
theorem yv_X12_theirs : YV RX12 yX12_theirs cX12_theirs 3 (some .int) 2 := ⟨gw_of (i := 1687) (by decide +kernel) rfl, gw_of (i := 66) (by decide +kernel) rfl, gw_of (i := 92) (by decide +kernel) rfl, gw_of (i := 1688) (by decide +kernel) rfl, ⟨rfl, by decide +kernel, by decide +kernel, by decide +kernel⟩, by decide⟩
theorem yv_X12_thing : YV RX12 yX12_thing cX12_thing 4 (some .int) 1 := ⟨gw_of (i := 1504) (by decide +kernel) rfl, gw_of (i := 46) (by decide +kernel) rfl, gw_of (i := 92) (by decide +kernel) rfl, gw_of (i := 1505) (by decide +kernel) rfl, ⟨rfl, by decide +kernel, by decide +kernel, by decide +kernel⟩, by decide⟩
theorem yv_X12_valuesOf : YV RX12 yX12_valuesOf cX12_valuesOf 4 (some .int) 1 := ⟨gw_of (i := 1537) (by decide +kernel) rfl, gw_of (i := 52) (by decide +kernel) rfl, gw_of (i := 92) (by decide +kernel) rfl, gw_of (i := 1538) (by decide +kernel) rfl, ⟨rfl, by decide +kernel, by decide +kernel, by decide +kernel⟩, by decide⟩
theorem yv_X12_wasRight : YV RX12 yX12_wasRight cX12_wasRight 1 (some .boolean) 0 := ⟨gw_of (i := 1465) (by decide +kernel) rfl, gw_of (i := 41) (by decide +kernel) rfl, gw_of (i := 92) (by decide +kernel) rfl, gw_of (i := 1466) (by decide +kernel) rfl, ⟨rfl, by decide +kernel, by decide +kernel, by decide +kernel⟩, by decide⟩
theorem yv_X12_wholePart : YS yX12_wholePart cX12_wholePart 3 (some .long) 3 := ⟨gw_of (i := 1776) (by decide +kernel) rfl, gw_of (i := 92) (by decide +kernel) rfl, gw_of (i := 1777) (by decide +kernel) rfl, ⟨by decide +kernel, by decide +kernel, by decide +kernel⟩, by decide⟩
theorem yv_X12_whose : YV RX12 yX12_whose cX12_whose 2 (some .int) 1 := ⟨gw_of (i := 1691) (by decide +kernel) rfl, gw_of (i := 67) (by decide +kernel) rfl, gw_of (i := 92) (by decide +kernel) rfl, gw_of (i := 1692) (by decide +kernel) rfl, ⟨rfl, by decide +kernel, by decide +kernel, by decide +kernel⟩, by decide⟩
theorem yv_X12_whoseBy : YS yX12_whoseBy cX12_whoseBy 1 (some .int) 1 := ⟨gw_of (i := 1484) (by decide +kernel) rfl, gw_of (i := 92) (by decide +kernel) rfl, gw_of (i := 1485) (by decide +kernel) rfl, ⟨by decide +kernel, by decide +kernel, by decide +kernel⟩, by decide⟩
theorem yv_J6_bitCount_0f7a4 : YS yJ6_bitCount_0f7a4 cJ6_bitCount_0f7a4 1 (some .int) 1 := ⟨gw_of (i := 945) (by decide +kernel) rfl, gw_of (i := 103) (by decide +kernel) rfl, gw_of (i := 946) (by decide +kernel) rfl, ⟨by decide +kernel, by decide +kernel, by decide +kernel⟩, by decide⟩
theorem yv_J0_coder_7d493 : YV RJ0 yJ0_coder_7d493 cJ0_coder_7d493 1 (some .byte) 0 := ⟨gw_of (i := 254) (by decide +kernel) rfl, gw_of (i := 255) (by decide +kernel) rfl, gw_of (i := 87) (by decide +kernel) rfl, gw_of (i := 256) (by decide +kernel) rfl, ⟨rfl, by decide +kernel, by decide +kernel, by decide +kernel⟩, by decide⟩
theorem yv_J0_indexOf_0f7a4 : YV RJ0 yJ0_indexOf_0f7a4 cJ0_indexOf_0f7a4 2 (some .int) 1 := ⟨gw_of (i := 493) (by decide +kernel) rfl, gw_of (i := 494) (by decide +kernel) rfl, gw_of (i := 87) (by decide +kernel) rfl, gw_of (i := 495) (by decide +kernel) rfl, ⟨rfl, by decide +kernel, by decide +kernel, by decide +kernel⟩, by decide⟩
theorem yv_J0_indexOf_7cf53 : YV RJ0 yJ0_indexOf_7cf53 cJ0_indexOf_7cf53 3 (some .int) 2 := ⟨gw_of (i := 497) (by decide +kernel) rfl, gw_of (i := 498) (by decide +kernel) rfl, gw_of (i := 87) (by decide +kernel) rfl, gw_of (i := 499) (by decide +kernel) rfl, ⟨rfl, by decide +kernel, by decide +kernel, by decide +kernel⟩, by decide⟩
theorem yv_J0_isLatin1_aae02 : YV RJ0 yJ0_isLatin1_aae02 cJ0_isLatin1_aae02 1 (some .boolean) 0 := ⟨gw_of (i := 501) (by decide +kernel) rfl, gw_of (i := 502) (by decide +kernel) rfl, gw_of (i := 87) (by decide +kernel) rfl, gw_of (i := 503) (by decide +kernel) rfl, ⟨rfl, by decide +kernel, by decide +kernel, by decide +kernel⟩, by decide⟩
theorem yv_J0_length_8abf5 : YV RJ0 yJ0_length_8abf5 cJ0_length_8abf5 1 (some .int) 0 := ⟨gw_of (i := 250) (by decide +kernel) rfl, gw_of (i := 251) (by decide +kernel) rfl, gw_of (i := 87) (by decide +kernel) rfl, gw_of (i := 252) (by decide +kernel) rfl, ⟨rfl, by decide +kernel, by decide +kernel, by decide +kernel⟩, by decide⟩
theorem yv_J1_canEncode_9a6ad : YS yJ1_canEncode_9a6ad cJ1_canEncode_9a6ad 1 (some .boolean) 1 := ⟨gw_of (i := 509) (by decide +kernel) rfl, gw_of (i := 94) (by decide +kernel) rfl, gw_of (i := 510) (by decide +kernel) rfl, ⟨by decide +kernel, by decide +kernel, by decide +kernel⟩, by decide⟩
theorem yv_J1_indexOf_4cfef : YS yJ1_indexOf_4cfef cJ1_indexOf_4cfef 4 (some .int) 4 := ⟨gw_of (i := 506) (by decide +kernel) rfl, gw_of (i := 94) (by decide +kernel) rfl, gw_of (i := 507) (by decide +kernel) rfl, ⟨by decide +kernel, by decide +kernel, by decide +kernel⟩, by decide⟩
theorem yv_J1_indexOfChar_4cfef : YS yJ1_indexOfChar_4cfef cJ1_indexOfChar_4cfef 6 (some .int) 4 := ⟨gw_of (i := 516) (by decide +kernel) rfl, gw_of (i := 94) (by decide +kernel) rfl, gw_of (i := 517) (by decide +kernel) rfl, ⟨by decide +kernel, by decide +kernel, by decide +kernel⟩, by decide⟩
theorem yu_RX11_112_RX3 : YU RX11 112 RX3 "HeWillNotPlead$Lines" ⟨"HeWillNotPlead$Gang", "readAll", "(LHeWillNotPlead$Text;I)I"⟩ yX5_readAll cX5_readAll 4 (some .int) 2 := ⟨gw_of (i := 464) (by decide +kernel) rfl, gw_of (i := 465) (by decide +kernel) rfl, gw_of (i := 467) (by decide +kernel) rfl, gw_of (i := 468) (by decide +kernel) rfl, gw_of (i := 82) (by decide +kernel) rfl, gw_of (i := 469) (by decide +kernel) rfl, ⟨by decide +kernel, by decide +kernel, by decide +kernel⟩, by decide, Or.inl rfl⟩
theorem yu_RX11_133_RX1 : YU RX11 133 RX1 "HeWillNotPlead$Lines" ⟨"HeWillNotPlead$Bench", "readAll", "(LHeWillNotPlead$Text;I)I"⟩ yX5_readAll cX5_readAll 4 (some .int) 2 := ⟨gw_of (i := 655) (by decide +kernel) rfl, gw_of (i := 656) (by decide +kernel) rfl, gw_of (i := 657) (by decide +kernel) rfl, gw_of (i := 468) (by decide +kernel) rfl, gw_of (i := 82) (by decide +kernel) rfl, gw_of (i := 469) (by decide +kernel) rfl, ⟨by decide +kernel, by decide +kernel, by decide +kernel⟩, by decide, Or.inl rfl⟩
theorem yu_RX11_247_RX0 : YU RX11 247 RX0 "HeWillNotPlead$Lines" ⟨"HeWillNotPlead$Acts", "readAll", "(LHeWillNotPlead$Text;I)I"⟩ yX5_readAll cX5_readAll 4 (some .int) 2 := ⟨gw_of (i := 854) (by decide +kernel) rfl, gw_of (i := 855) (by decide +kernel) rfl, gw_of (i := 856) (by decide +kernel) rfl, gw_of (i := 468) (by decide +kernel) rfl, gw_of (i := 82) (by decide +kernel) rfl, gw_of (i := 469) (by decide +kernel) rfl, ⟨by decide +kernel, by decide +kernel, by decide +kernel⟩, by decide, Or.inl rfl⟩
theorem yu_RX5_17_RX0 : YU RX5 17 RX0 "HeWillNotPlead$Lines" ⟨"HeWillNotPlead$Lines", "readsOne", "(LHeWillNotPlead$Text;I)Z"⟩ yX0_readsOne cX0_readsOne 4 (some .boolean) 2 := ⟨gw_of (i := 481) (by decide +kernel) rfl, gw_of (i := 483) (by decide +kernel) rfl, gw_of (i := 484) (by decide +kernel) rfl, gw_of (i := 485) (by decide +kernel) rfl, gw_of (i := 85) (by decide +kernel) rfl, gw_of (i := 486) (by decide +kernel) rfl, ⟨by decide +kernel, by decide +kernel, by decide +kernel⟩, by decide, Or.inr rfl⟩
theorem yu_RX5_17_RX1 : YU RX5 17 RX1 "HeWillNotPlead$Lines" ⟨"HeWillNotPlead$Lines", "readsOne", "(LHeWillNotPlead$Text;I)Z"⟩ yX1_readsOne cX1_readsOne 4 (some .boolean) 2 := ⟨gw_of (i := 481) (by decide +kernel) rfl, gw_of (i := 483) (by decide +kernel) rfl, gw_of (i := 576) (by decide +kernel) rfl, gw_of (i := 577) (by decide +kernel) rfl, gw_of (i := 84) (by decide +kernel) rfl, gw_of (i := 578) (by decide +kernel) rfl, ⟨by decide +kernel, by decide +kernel, by decide +kernel⟩, by decide, Or.inr rfl⟩
theorem yu_RX5_17_RX3 : YU RX5 17 RX3 "HeWillNotPlead$Lines" ⟨"HeWillNotPlead$Lines", "readsOne", "(LHeWillNotPlead$Text;I)Z"⟩ yX3_readsOne cX3_readsOne 4 (some .boolean) 2 := ⟨gw_of (i := 481) (by decide +kernel) rfl, gw_of (i := 483) (by decide +kernel) rfl, gw_of (i := 585) (by decide +kernel) rfl, gw_of (i := 586) (by decide +kernel) rfl, gw_of (i := 83) (by decide +kernel) rfl, gw_of (i := 587) (by decide +kernel) rfl, ⟨by decide +kernel, by decide +kernel, by decide +kernel⟩, by decide, Or.inr rfl⟩
