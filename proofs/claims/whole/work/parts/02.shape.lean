abbrev Mem : Type := (Nat → Nat → Int32) × (Nat → Nat → Int64)
abbrev Shp : Type := (Nat × Nat) ⊕ ((Nat × List Nat) ⊕ (Nat × List (Nat ⊕ Bool)))
abbrev vwCl : List vw_C := [(RX0, TX0, 3), (RX1, TX1, 5), (RX2, TX2, 5), (RX3, TX3, 7), (RX4, TX4, 9), (RX6, TX6, 3), (RX7, TX7, 2), (RX8, TX8, 6), (RX9, TX9, 4), (RX10, TX10, 8), (RX11, TX11, 15), (RX12, TX12, 45)]
def SHl : List Shp := [
  .inr (.inr (10, [.inl 1, .inl 3, .inl 5, .inl 11, .inl 15, .inl 19, .inl 24, .inl 33, .inl 38, .inl 29, .inl 31, .inl 32, .inl 120, .inl 121, .inr false])),
  .inr (.inr (8, [.inl 2, .inr false, .inr false, .inr false])),
  .inl (1, 80),
  .inr (.inr (6, [.inl 4, .inr false])),
  .inl (4, 8),
  .inr (.inr (3, [.inl 6, .inl 7, .inl 8, .inl 9, .inl 10, .inr false, .inr false])),
  .inl (0, 6),
  .inl (0, 6),
  .inl (3, 6),
  .inl (0, 6),
  .inl (0, 6),
  .inr (.inr (1, [.inl 12, .inl 13, .inl 14, .inr false, .inl 5])),
  .inl (0, 8),
  .inl (0, 8),
  .inl (0, 8),
  .inr (.inr (0, [.inl 16, .inl 17, .inl 18])),
  .inl (0, 20),
  .inl (0, 20),
  .inl (0, 20),
  .inr (.inr (7, [.inl 20, .inr false, .inl 21, .inr false, .inl 22, .inl 23])),
  .inl (0, 40),
  .inl (0, 40),
  .inl (0, 6),
  .inl (0, 40),
  .inr (.inr (2, [.inl 25, .inl 26, .inl 27, .inl 28, .inl 5])),
  .inl (0, 4),
  .inl (0, 4),
  .inl (0, 8),
  .inl (0, 8),
  .inr (.inr (5, [.inl 30, .inr false, .inr false])),
  .inr (.inl (5, [43, 48, 53, 58, 63, 68, 73, 78, 83, 88, 93, 98, 103])),
  .inr (.inr (9, [.inl 118, .inr false, .inr false, .inl 119, .inr false, .inr false, .inl 33, .inl 24])),
  .inr (.inl (5, [108, 113])),
  .inr (.inr (4, [.inl 34, .inl 35, .inl 36, .inl 37, .inr false, .inr false, .inl 5, .inl 11, .inl 19])),
  .inl (0, 6),
  .inl (0, 6),
  .inl (0, 6),
  .inl (0, 8),
  .inr (.inr (4, [.inl 39, .inl 40, .inl 41, .inl 42, .inr false, .inr false, .inl 5, .inl 11, .inl 19])),
  .inl (0, 6),
  .inl (0, 6),
  .inl (0, 6),
  .inl (0, 8),
  .inr (.inr (4, [.inl 44, .inl 45, .inl 46, .inl 47, .inr false, .inr false, .inl 5, .inl 11, .inl 19])),
  .inl (0, 6),
  .inl (0, 6),
  .inl (0, 6),
  .inl (0, 8),
  .inr (.inr (4, [.inl 49, .inl 50, .inl 51, .inl 52, .inr false, .inr false, .inl 5, .inl 11, .inl 19])),
  .inl (0, 6),
  .inl (0, 6),
  .inl (0, 6),
  .inl (0, 8),
  .inr (.inr (4, [.inl 54, .inl 55, .inl 56, .inl 57, .inr false, .inr false, .inl 5, .inl 11, .inl 19])),
  .inl (0, 6),
  .inl (0, 6),
  .inl (0, 6),
  .inl (0, 8),
  .inr (.inr (4, [.inl 59, .inl 60, .inl 61, .inl 62, .inr false, .inr false, .inl 5, .inl 11, .inl 19])),
  .inl (0, 6),
  .inl (0, 6),
  .inl (0, 6),
  .inl (0, 8),
  .inr (.inr (4, [.inl 64, .inl 65, .inl 66, .inl 67, .inr false, .inr false, .inl 5, .inl 11, .inl 19])),
  .inl (0, 6),
  .inl (0, 6),
  .inl (0, 6),
  .inl (0, 8),
  .inr (.inr (4, [.inl 69, .inl 70, .inl 71, .inl 72, .inr false, .inr false, .inl 5, .inl 11, .inl 19])),
  .inl (0, 6),
  .inl (0, 6),
  .inl (0, 6),
  .inl (0, 8),
  .inr (.inr (4, [.inl 74, .inl 75, .inl 76, .inl 77, .inr false, .inr false, .inl 5, .inl 11, .inl 19])),
  .inl (0, 6),
  .inl (0, 6),
  .inl (0, 6),
  .inl (0, 8),
  .inr (.inr (4, [.inl 79, .inl 80, .inl 81, .inl 82, .inr false, .inr false, .inl 5, .inl 11, .inl 19])),
  .inl (0, 6),
  .inl (0, 6),
  .inl (0, 6),
  .inl (0, 8),
  .inr (.inr (4, [.inl 84, .inl 85, .inl 86, .inl 87, .inr false, .inr false, .inl 5, .inl 11, .inl 19])),
  .inl (0, 6),
  .inl (0, 6),
  .inl (0, 6),
  .inl (0, 8),
  .inr (.inr (4, [.inl 89, .inl 90, .inl 91, .inl 92, .inr false, .inr false, .inl 5, .inl 11, .inl 19])),
  .inl (0, 6),
  .inl (0, 6),
  .inl (0, 6),
  .inl (0, 8),
  .inr (.inr (4, [.inl 94, .inl 95, .inl 96, .inl 97, .inr false, .inr false, .inl 5, .inl 11, .inl 19])),
  .inl (0, 6),
  .inl (0, 6),
  .inl (0, 6),
  .inl (0, 8),
  .inr (.inr (4, [.inl 99, .inl 100, .inl 101, .inl 102, .inr false, .inr false, .inl 5, .inl 11, .inl 19])),
  .inl (0, 6),
  .inl (0, 6),
  .inl (0, 6),
  .inl (0, 8),
  .inr (.inr (4, [.inl 104, .inl 105, .inl 106, .inl 107, .inr false, .inr false, .inl 5, .inl 11, .inl 19])),
  .inl (0, 6),
  .inl (0, 6),
  .inl (0, 6),
  .inl (0, 8),
  .inr (.inr (4, [.inl 109, .inl 110, .inl 111, .inl 112, .inr false, .inr false, .inl 5, .inl 11, .inl 19])),
  .inl (0, 6),
  .inl (0, 6),
  .inl (0, 6),
  .inl (0, 8),
  .inr (.inr (4, [.inl 114, .inl 115, .inl 116, .inl 117, .inr false, .inr false, .inl 5, .inl 11, .inl 19])),
  .inl (0, 6),
  .inl (0, 6),
  .inl (0, 6),
  .inl (0, 8),
  .inl (0, 6),
  .inl (0, 6),
  .inl (3, 2),
  .inl (0, 6),
  .inr (.inr (11, [.inl 123, .inr false, .inl 124, .inl 125, .inl 126, .inl 127, .inl 128, .inl 129, .inr false, .inl 130, .inl 131, .inl 132, .inr false, .inl 133, .inr false, .inl 134, .inr false, .inr false, .inr true, .inr false, .inr false, .inr false, .inr false, .inl 135, .inl 136, .inr false, .inr false, .inl 137, .inl 138, .inr false, .inl 139, .inl 140, .inl 141, .inr false, .inl 142, .inl 143, .inl 144, .inr false, .inr false, .inl 145, .inr false, .inr false, .inl 146, .inl 147, .inl 148])),
  .inl (0, 27),
  .inl (0, 6),
  .inl (0, 6),
  .inl (3, 6),
  .inl (0, 6),
  .inl (0, 6),
  .inl (0, 8),
  .inl (0, 8),
  .inl (0, 8),
  .inl (0, 4),
  .inl (2, 80),
  .inl (4, 16),
  .inl (0, 40),
  .inl (2, 40),
  .inl (0, 6),
  .inl (0, 324),
  .inl (0, 27),
  .inl (0, 27),
  .inl (0, 240),
  .inl (0, 6),
  .inl (0, 6),
  .inl (0, 6),
  .inl (0, 4),
  .inl (0, 54),
  .inl (3, 2),
  .inl (0, 2),
  .inl (4, 1)]
def NC : Nat := 150
def SH (k : Nat) : Shp := SHl.getD k (.inl (0, 0))
theorem sh_0 : SH 0 = .inr (.inr (10, [.inl 1, .inl 3, .inl 5, .inl 11, .inl 15, .inl 19, .inl 24, .inl 33, .inl 38, .inl 29, .inl 31, .inl 32, .inl 120, .inl 121, .inr false])) := by decide +kernel
theorem sh_1 : SH 1 = .inr (.inr (8, [.inl 2, .inr false, .inr false, .inr false])) := by decide +kernel
theorem sh_2 : SH 2 = .inl (1, 80) := by decide +kernel
theorem sh_3 : SH 3 = .inr (.inr (6, [.inl 4, .inr false])) := by decide +kernel
theorem sh_4 : SH 4 = .inl (4, 8) := by decide +kernel
theorem sh_5 : SH 5 = .inr (.inr (3, [.inl 6, .inl 7, .inl 8, .inl 9, .inl 10, .inr false, .inr false])) := by decide +kernel
theorem sh_6 : SH 6 = .inl (0, 6) := by decide +kernel
theorem sh_7 : SH 7 = .inl (0, 6) := by decide +kernel
theorem sh_8 : SH 8 = .inl (3, 6) := by decide +kernel
theorem sh_9 : SH 9 = .inl (0, 6) := by decide +kernel
theorem sh_10 : SH 10 = .inl (0, 6) := by decide +kernel
theorem sh_11 : SH 11 = .inr (.inr (1, [.inl 12, .inl 13, .inl 14, .inr false, .inl 5])) := by decide +kernel
theorem sh_12 : SH 12 = .inl (0, 8) := by decide +kernel
theorem sh_13 : SH 13 = .inl (0, 8) := by decide +kernel
theorem sh_14 : SH 14 = .inl (0, 8) := by decide +kernel
theorem sh_15 : SH 15 = .inr (.inr (0, [.inl 16, .inl 17, .inl 18])) := by decide +kernel
theorem sh_16 : SH 16 = .inl (0, 20) := by decide +kernel
theorem sh_17 : SH 17 = .inl (0, 20) := by decide +kernel
theorem sh_18 : SH 18 = .inl (0, 20) := by decide +kernel
theorem sh_19 : SH 19 = .inr (.inr (7, [.inl 20, .inr false, .inl 21, .inr false, .inl 22, .inl 23])) := by decide +kernel
theorem sh_20 : SH 20 = .inl (0, 40) := by decide +kernel
theorem sh_21 : SH 21 = .inl (0, 40) := by decide +kernel
theorem sh_22 : SH 22 = .inl (0, 6) := by decide +kernel
theorem sh_23 : SH 23 = .inl (0, 40) := by decide +kernel
theorem sh_24 : SH 24 = .inr (.inr (2, [.inl 25, .inl 26, .inl 27, .inl 28, .inl 5])) := by decide +kernel
theorem sh_25 : SH 25 = .inl (0, 4) := by decide +kernel
theorem sh_26 : SH 26 = .inl (0, 4) := by decide +kernel
theorem sh_27 : SH 27 = .inl (0, 8) := by decide +kernel
theorem sh_28 : SH 28 = .inl (0, 8) := by decide +kernel
theorem sh_29 : SH 29 = .inr (.inr (5, [.inl 30, .inr false, .inr false])) := by decide +kernel
theorem sh_30 : SH 30 = .inr (.inl (5, [43, 48, 53, 58, 63, 68, 73, 78, 83, 88, 93, 98, 103])) := by decide +kernel
theorem sh_31 : SH 31 = .inr (.inr (9, [.inl 118, .inr false, .inr false, .inl 119, .inr false, .inr false, .inl 33, .inl 24])) := by decide +kernel
theorem sh_32 : SH 32 = .inr (.inl (5, [108, 113])) := by decide +kernel
theorem sh_33 : SH 33 = .inr (.inr (4, [.inl 34, .inl 35, .inl 36, .inl 37, .inr false, .inr false, .inl 5, .inl 11, .inl 19])) := by decide +kernel
theorem sh_34 : SH 34 = .inl (0, 6) := by decide +kernel
theorem sh_35 : SH 35 = .inl (0, 6) := by decide +kernel
theorem sh_36 : SH 36 = .inl (0, 6) := by decide +kernel
theorem sh_37 : SH 37 = .inl (0, 8) := by decide +kernel
theorem sh_38 : SH 38 = .inr (.inr (4, [.inl 39, .inl 40, .inl 41, .inl 42, .inr false, .inr false, .inl 5, .inl 11, .inl 19])) := by decide +kernel
theorem sh_39 : SH 39 = .inl (0, 6) := by decide +kernel
theorem sh_40 : SH 40 = .inl (0, 6) := by decide +kernel
theorem sh_41 : SH 41 = .inl (0, 6) := by decide +kernel
theorem sh_42 : SH 42 = .inl (0, 8) := by decide +kernel
theorem sh_43 : SH 43 = .inr (.inr (4, [.inl 44, .inl 45, .inl 46, .inl 47, .inr false, .inr false, .inl 5, .inl 11, .inl 19])) := by decide +kernel
theorem sh_44 : SH 44 = .inl (0, 6) := by decide +kernel
theorem sh_45 : SH 45 = .inl (0, 6) := by decide +kernel
theorem sh_46 : SH 46 = .inl (0, 6) := by decide +kernel
theorem sh_47 : SH 47 = .inl (0, 8) := by decide +kernel
theorem sh_48 : SH 48 = .inr (.inr (4, [.inl 49, .inl 50, .inl 51, .inl 52, .inr false, .inr false, .inl 5, .inl 11, .inl 19])) := by decide +kernel
theorem sh_49 : SH 49 = .inl (0, 6) := by decide +kernel
theorem sh_50 : SH 50 = .inl (0, 6) := by decide +kernel
theorem sh_51 : SH 51 = .inl (0, 6) := by decide +kernel
theorem sh_52 : SH 52 = .inl (0, 8) := by decide +kernel
theorem sh_53 : SH 53 = .inr (.inr (4, [.inl 54, .inl 55, .inl 56, .inl 57, .inr false, .inr false, .inl 5, .inl 11, .inl 19])) := by decide +kernel
theorem sh_54 : SH 54 = .inl (0, 6) := by decide +kernel
theorem sh_55 : SH 55 = .inl (0, 6) := by decide +kernel
theorem sh_56 : SH 56 = .inl (0, 6) := by decide +kernel
theorem sh_57 : SH 57 = .inl (0, 8) := by decide +kernel
theorem sh_58 : SH 58 = .inr (.inr (4, [.inl 59, .inl 60, .inl 61, .inl 62, .inr false, .inr false, .inl 5, .inl 11, .inl 19])) := by decide +kernel
theorem sh_59 : SH 59 = .inl (0, 6) := by decide +kernel
theorem sh_60 : SH 60 = .inl (0, 6) := by decide +kernel
theorem sh_61 : SH 61 = .inl (0, 6) := by decide +kernel
theorem sh_62 : SH 62 = .inl (0, 8) := by decide +kernel
theorem sh_63 : SH 63 = .inr (.inr (4, [.inl 64, .inl 65, .inl 66, .inl 67, .inr false, .inr false, .inl 5, .inl 11, .inl 19])) := by decide +kernel
theorem sh_64 : SH 64 = .inl (0, 6) := by decide +kernel
theorem sh_65 : SH 65 = .inl (0, 6) := by decide +kernel
theorem sh_66 : SH 66 = .inl (0, 6) := by decide +kernel
theorem sh_67 : SH 67 = .inl (0, 8) := by decide +kernel
theorem sh_68 : SH 68 = .inr (.inr (4, [.inl 69, .inl 70, .inl 71, .inl 72, .inr false, .inr false, .inl 5, .inl 11, .inl 19])) := by decide +kernel
theorem sh_69 : SH 69 = .inl (0, 6) := by decide +kernel
theorem sh_70 : SH 70 = .inl (0, 6) := by decide +kernel
theorem sh_71 : SH 71 = .inl (0, 6) := by decide +kernel
theorem sh_72 : SH 72 = .inl (0, 8) := by decide +kernel
theorem sh_73 : SH 73 = .inr (.inr (4, [.inl 74, .inl 75, .inl 76, .inl 77, .inr false, .inr false, .inl 5, .inl 11, .inl 19])) := by decide +kernel
theorem sh_74 : SH 74 = .inl (0, 6) := by decide +kernel
theorem sh_75 : SH 75 = .inl (0, 6) := by decide +kernel
theorem sh_76 : SH 76 = .inl (0, 6) := by decide +kernel
theorem sh_77 : SH 77 = .inl (0, 8) := by decide +kernel
theorem sh_78 : SH 78 = .inr (.inr (4, [.inl 79, .inl 80, .inl 81, .inl 82, .inr false, .inr false, .inl 5, .inl 11, .inl 19])) := by decide +kernel
theorem sh_79 : SH 79 = .inl (0, 6) := by decide +kernel
theorem sh_80 : SH 80 = .inl (0, 6) := by decide +kernel
theorem sh_81 : SH 81 = .inl (0, 6) := by decide +kernel
theorem sh_82 : SH 82 = .inl (0, 8) := by decide +kernel
theorem sh_83 : SH 83 = .inr (.inr (4, [.inl 84, .inl 85, .inl 86, .inl 87, .inr false, .inr false, .inl 5, .inl 11, .inl 19])) := by decide +kernel
theorem sh_84 : SH 84 = .inl (0, 6) := by decide +kernel
theorem sh_85 : SH 85 = .inl (0, 6) := by decide +kernel
theorem sh_86 : SH 86 = .inl (0, 6) := by decide +kernel
theorem sh_87 : SH 87 = .inl (0, 8) := by decide +kernel
theorem sh_88 : SH 88 = .inr (.inr (4, [.inl 89, .inl 90, .inl 91, .inl 92, .inr false, .inr false, .inl 5, .inl 11, .inl 19])) := by decide +kernel
theorem sh_89 : SH 89 = .inl (0, 6) := by decide +kernel
theorem sh_90 : SH 90 = .inl (0, 6) := by decide +kernel
theorem sh_91 : SH 91 = .inl (0, 6) := by decide +kernel
theorem sh_92 : SH 92 = .inl (0, 8) := by decide +kernel
theorem sh_93 : SH 93 = .inr (.inr (4, [.inl 94, .inl 95, .inl 96, .inl 97, .inr false, .inr false, .inl 5, .inl 11, .inl 19])) := by decide +kernel
theorem sh_94 : SH 94 = .inl (0, 6) := by decide +kernel
theorem sh_95 : SH 95 = .inl (0, 6) := by decide +kernel
theorem sh_96 : SH 96 = .inl (0, 6) := by decide +kernel
theorem sh_97 : SH 97 = .inl (0, 8) := by decide +kernel
theorem sh_98 : SH 98 = .inr (.inr (4, [.inl 99, .inl 100, .inl 101, .inl 102, .inr false, .inr false, .inl 5, .inl 11, .inl 19])) := by decide +kernel
theorem sh_99 : SH 99 = .inl (0, 6) := by decide +kernel
theorem sh_100 : SH 100 = .inl (0, 6) := by decide +kernel
theorem sh_101 : SH 101 = .inl (0, 6) := by decide +kernel
theorem sh_102 : SH 102 = .inl (0, 8) := by decide +kernel
theorem sh_103 : SH 103 = .inr (.inr (4, [.inl 104, .inl 105, .inl 106, .inl 107, .inr false, .inr false, .inl 5, .inl 11, .inl 19])) := by decide +kernel
theorem sh_104 : SH 104 = .inl (0, 6) := by decide +kernel
theorem sh_105 : SH 105 = .inl (0, 6) := by decide +kernel
theorem sh_106 : SH 106 = .inl (0, 6) := by decide +kernel
theorem sh_107 : SH 107 = .inl (0, 8) := by decide +kernel
theorem sh_108 : SH 108 = .inr (.inr (4, [.inl 109, .inl 110, .inl 111, .inl 112, .inr false, .inr false, .inl 5, .inl 11, .inl 19])) := by decide +kernel
theorem sh_109 : SH 109 = .inl (0, 6) := by decide +kernel
theorem sh_110 : SH 110 = .inl (0, 6) := by decide +kernel
theorem sh_111 : SH 111 = .inl (0, 6) := by decide +kernel
theorem sh_112 : SH 112 = .inl (0, 8) := by decide +kernel
theorem sh_113 : SH 113 = .inr (.inr (4, [.inl 114, .inl 115, .inl 116, .inl 117, .inr false, .inr false, .inl 5, .inl 11, .inl 19])) := by decide +kernel
theorem sh_114 : SH 114 = .inl (0, 6) := by decide +kernel
theorem sh_115 : SH 115 = .inl (0, 6) := by decide +kernel
theorem sh_116 : SH 116 = .inl (0, 6) := by decide +kernel
theorem sh_117 : SH 117 = .inl (0, 8) := by decide +kernel
theorem sh_118 : SH 118 = .inl (0, 6) := by decide +kernel
theorem sh_119 : SH 119 = .inl (0, 6) := by decide +kernel
theorem sh_120 : SH 120 = .inl (3, 2) := by decide +kernel
theorem sh_121 : SH 121 = .inl (0, 6) := by decide +kernel
theorem sh_122 : SH 122 = .inr (.inr (11, [.inl 123, .inr false, .inl 124, .inl 125, .inl 126, .inl 127, .inl 128, .inl 129, .inr false, .inl 130, .inl 131, .inl 132, .inr false, .inl 133, .inr false, .inl 134, .inr false, .inr false, .inr true, .inr false, .inr false, .inr false, .inr false, .inl 135, .inl 136, .inr false, .inr false, .inl 137, .inl 138, .inr false, .inl 139, .inl 140, .inl 141, .inr false, .inl 142, .inl 143, .inl 144, .inr false, .inr false, .inl 145, .inr false, .inr false, .inl 146, .inl 147, .inl 148])) := by decide +kernel
theorem sh_123 : SH 123 = .inl (0, 27) := by decide +kernel
theorem sh_124 : SH 124 = .inl (0, 6) := by decide +kernel
theorem sh_125 : SH 125 = .inl (0, 6) := by decide +kernel
theorem sh_126 : SH 126 = .inl (3, 6) := by decide +kernel
theorem sh_127 : SH 127 = .inl (0, 6) := by decide +kernel
theorem sh_128 : SH 128 = .inl (0, 6) := by decide +kernel
theorem sh_129 : SH 129 = .inl (0, 8) := by decide +kernel
theorem sh_130 : SH 130 = .inl (0, 8) := by decide +kernel
theorem sh_131 : SH 131 = .inl (0, 8) := by decide +kernel
theorem sh_132 : SH 132 = .inl (0, 4) := by decide +kernel
theorem sh_133 : SH 133 = .inl (2, 80) := by decide +kernel
theorem sh_134 : SH 134 = .inl (4, 16) := by decide +kernel
theorem sh_135 : SH 135 = .inl (0, 40) := by decide +kernel
theorem sh_136 : SH 136 = .inl (2, 40) := by decide +kernel
theorem sh_137 : SH 137 = .inl (0, 6) := by decide +kernel
theorem sh_138 : SH 138 = .inl (0, 324) := by decide +kernel
theorem sh_139 : SH 139 = .inl (0, 27) := by decide +kernel
theorem sh_140 : SH 140 = .inl (0, 27) := by decide +kernel
theorem sh_141 : SH 141 = .inl (0, 240) := by decide +kernel
theorem sh_142 : SH 142 = .inl (0, 6) := by decide +kernel
theorem sh_143 : SH 143 = .inl (0, 6) := by decide +kernel
theorem sh_144 : SH 144 = .inl (0, 6) := by decide +kernel
theorem sh_145 : SH 145 = .inl (0, 4) := by decide +kernel
theorem sh_146 : SH 146 = .inl (0, 54) := by decide +kernel
theorem sh_147 : SH 147 = .inl (3, 2) := by decide +kernel
theorem sh_148 : SH 148 = .inl (0, 2) := by decide +kernel
theorem sh_149 : SH 149 = .inl (4, 1) := by decide +kernel
def strTab : List (String × Nat × String × Nat) := [("HeWillNotPlead$Rule", 25, "bwdnfi", 0), ("HeWillNotPlead$Acts", 19, "loajn", 1), ("HeWillNotPlead$Gang", 59, "-+", 2), ("HeWillNotPlead$Estate", 56, "hks", 3), ("HeWillNotPlead$Rule", 82, "*/", 4), ("HeWillNotPlead$Rule", 77, "+-", 5), ("HeWillNotPlead$Rule", 64, "<>=", 6), ("HeWillNotPlead", 152, "no such prisoner", 7), ("HeWillNotPlead", 191, "a prisoner has no such number", 8), ("HeWillNotPlead", 193, "no such witness", 9), ("HeWillNotPlead", 204, "a witness has no such number", 10), ("HeWillNotPlead", 412, "the row has no such number", 11)]
def strLen : List Nat := [6, 5, 2, 3, 2, 2, 3, 16, 29, 15, 28, 26]
def strByt : List (List Int32) := [[98, 119, 100, 110, 102, 105], [108, 111, 97, 106, 110], [45, 43], [104, 107, 115], [42, 47], [43, 45], [60, 62, 61], [110, 111, 32, 115, 117, 99, 104, 32, 112, 114, 105, 115, 111, 110, 101, 114], [97, 32, 112, 114, 105, 115, 111, 110, 101, 114, 32, 104, 97, 115, 32, 110, 111, 32, 115, 117, 99, 104, 32, 110, 117, 109, 98, 101, 114], [110, 111, 32, 115, 117, 99, 104, 32, 119, 105, 116, 110, 101, 115, 115], [97, 32, 119, 105, 116, 110, 101, 115, 115, 32, 104, 97, 115, 32, 110, 111, 32, 115, 117, 99, 104, 32, 110, 117, 109, 98, 101, 114], [116, 104, 101, 32, 114, 111, 119, 32, 104, 97, 115, 32, 110, 111, 32, 115, 117, 99, 104, 32, 110, 117, 109, 98, 101, 114]]
