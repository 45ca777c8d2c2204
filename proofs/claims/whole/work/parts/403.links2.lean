theorem dX11_prisoner_0 : decode cX11_prisoner 0 = .ok (.aload_n 0, 1) := by decide +kernel
theorem dX11_prisoner_1 : decode cX11_prisoner 1 = .ok (.iload_n 1, 1) := by decide +kernel
theorem dX11_prisoner_2 : decode cX11_prisoner 2 = .ok (.invokevirtual 147, 3) := by decide +kernel
theorem dX11_prisoner_5 : decode cX11_prisoner 5 = .ok (.ifCond .ne 13, 3) := by decide +kernel
theorem dX11_prisoner_8 : decode cX11_prisoner 8 = .ok (.new 150, 3) := by decide +kernel
theorem dX11_prisoner_11 : decode cX11_prisoner 11 = .ok (.dup, 1) := by decide +kernel
theorem dX11_prisoner_12 : decode cX11_prisoner 12 = .ok (.ldc 152, 2) := by decide +kernel
theorem dX11_prisoner_14 : decode cX11_prisoner 14 = .ok (.invokespecial 154, 3) := by decide +kernel
theorem dX11_prisoner_17 : decode cX11_prisoner 17 = .ok (.athrow, 1) := by decide +kernel
theorem dX11_prisoner_18 : decode cX11_prisoner 18 = .ok (.iload_n 2, 1) := by decide +kernel
theorem dX11_prisoner_19 : decode cX11_prisoner 19 = .ok (.tableswitch 181 0 10 #[57, 67, 77, 95, 105, 115, 125, 135, 145, 154, 164], 57) := by decide +kernel
theorem dX11_prisoner_76 : decode cX11_prisoner 76 = .ok (.aload_n 0, 1) := by decide +kernel
theorem dX11_prisoner_77 : decode cX11_prisoner 77 = .ok (.getfield 26, 3) := by decide +kernel
theorem dX11_prisoner_80 : decode cX11_prisoner 80 = .ok (.getfield 157, 3) := by decide +kernel
theorem dX11_prisoner_83 : decode cX11_prisoner 83 = .ok (.iload_n 1, 1) := by decide +kernel
theorem dX11_prisoner_84 : decode cX11_prisoner 84 = .ok (.iaload, 1) := by decide +kernel
theorem dX11_prisoner_85 : decode cX11_prisoner 85 = .ok (.ireturn, 1) := by decide +kernel
theorem dX11_prisoner_86 : decode cX11_prisoner 86 = .ok (.aload_n 0, 1) := by decide +kernel
theorem dX11_prisoner_87 : decode cX11_prisoner 87 = .ok (.getfield 26, 3) := by decide +kernel
theorem dX11_prisoner_90 : decode cX11_prisoner 90 = .ok (.getfield 160, 3) := by decide +kernel
theorem dX11_prisoner_93 : decode cX11_prisoner 93 = .ok (.iload_n 1, 1) := by decide +kernel
theorem dX11_prisoner_94 : decode cX11_prisoner 94 = .ok (.iaload, 1) := by decide +kernel
theorem dX11_prisoner_95 : decode cX11_prisoner 95 = .ok (.ireturn, 1) := by decide +kernel
theorem dX11_prisoner_96 : decode cX11_prisoner 96 = .ok (.aload_n 0, 1) := by decide +kernel
theorem dX11_prisoner_97 : decode cX11_prisoner 97 = .ok (.getfield 26, 3) := by decide +kernel
theorem dX11_prisoner_100 : decode cX11_prisoner 100 = .ok (.getfield 163, 3) := by decide +kernel
theorem dX11_prisoner_103 : decode cX11_prisoner 103 = .ok (.iload_n 1, 1) := by decide +kernel
theorem dX11_prisoner_104 : decode cX11_prisoner 104 = .ok (.baload, 1) := by decide +kernel
theorem dX11_prisoner_105 : decode cX11_prisoner 105 = .ok (.ifCond .eq 7, 3) := by decide +kernel
theorem dX11_prisoner_108 : decode cX11_prisoner 108 = .ok (.iconst 1, 1) := by decide +kernel
theorem dX11_prisoner_109 : decode cX11_prisoner 109 = .ok (.goto 4, 3) := by decide +kernel
theorem dX11_prisoner_112 : decode cX11_prisoner 112 = .ok (.iconst 0, 1) := by decide +kernel
theorem dX11_prisoner_113 : decode cX11_prisoner 113 = .ok (.ireturn, 1) := by decide +kernel
theorem dX11_prisoner_114 : decode cX11_prisoner 114 = .ok (.aload_n 0, 1) := by decide +kernel
theorem dX11_prisoner_115 : decode cX11_prisoner 115 = .ok (.getfield 26, 3) := by decide +kernel
theorem dX11_prisoner_118 : decode cX11_prisoner 118 = .ok (.getfield 166, 3) := by decide +kernel
theorem dX11_prisoner_121 : decode cX11_prisoner 121 = .ok (.iload_n 1, 1) := by decide +kernel
theorem dX11_prisoner_122 : decode cX11_prisoner 122 = .ok (.iaload, 1) := by decide +kernel
theorem dX11_prisoner_123 : decode cX11_prisoner 123 = .ok (.ireturn, 1) := by decide +kernel
theorem dX11_prisoner_124 : decode cX11_prisoner 124 = .ok (.aload_n 0, 1) := by decide +kernel
theorem dX11_prisoner_125 : decode cX11_prisoner 125 = .ok (.getfield 26, 3) := by decide +kernel
theorem dX11_prisoner_128 : decode cX11_prisoner 128 = .ok (.getfield 169, 3) := by decide +kernel
theorem dX11_prisoner_131 : decode cX11_prisoner 131 = .ok (.iload_n 1, 1) := by decide +kernel
theorem dX11_prisoner_132 : decode cX11_prisoner 132 = .ok (.iaload, 1) := by decide +kernel
theorem dX11_prisoner_133 : decode cX11_prisoner 133 = .ok (.ireturn, 1) := by decide +kernel
theorem dX11_prisoner_134 : decode cX11_prisoner 134 = .ok (.aload_n 0, 1) := by decide +kernel
theorem dX11_prisoner_135 : decode cX11_prisoner 135 = .ok (.getfield 65, 3) := by decide +kernel
theorem dX11_prisoner_138 : decode cX11_prisoner 138 = .ok (.getfield 172, 3) := by decide +kernel
theorem dX11_prisoner_141 : decode cX11_prisoner 141 = .ok (.iload_n 1, 1) := by decide +kernel
theorem dX11_prisoner_142 : decode cX11_prisoner 142 = .ok (.iaload, 1) := by decide +kernel
theorem dX11_prisoner_143 : decode cX11_prisoner 143 = .ok (.ireturn, 1) := by decide +kernel
theorem dX11_prisoner_144 : decode cX11_prisoner 144 = .ok (.aload_n 0, 1) := by decide +kernel
theorem dX11_prisoner_145 : decode cX11_prisoner 145 = .ok (.getfield 65, 3) := by decide +kernel
theorem dX11_prisoner_148 : decode cX11_prisoner 148 = .ok (.getfield 175, 3) := by decide +kernel
theorem dX11_prisoner_151 : decode cX11_prisoner 151 = .ok (.iload_n 1, 1) := by decide +kernel
theorem dX11_prisoner_152 : decode cX11_prisoner 152 = .ok (.iaload, 1) := by decide +kernel
theorem dX11_prisoner_153 : decode cX11_prisoner 153 = .ok (.ireturn, 1) := by decide +kernel
theorem dX11_prisoner_154 : decode cX11_prisoner 154 = .ok (.aload_n 0, 1) := by decide +kernel
theorem dX11_prisoner_155 : decode cX11_prisoner 155 = .ok (.getfield 65, 3) := by decide +kernel
theorem dX11_prisoner_158 : decode cX11_prisoner 158 = .ok (.getfield 178, 3) := by decide +kernel
theorem dX11_prisoner_161 : decode cX11_prisoner 161 = .ok (.iload_n 1, 1) := by decide +kernel
theorem dX11_prisoner_162 : decode cX11_prisoner 162 = .ok (.iaload, 1) := by decide +kernel
theorem dX11_prisoner_163 : decode cX11_prisoner 163 = .ok (.ireturn, 1) := by decide +kernel
theorem dX11_prisoner_164 : decode cX11_prisoner 164 = .ok (.aload_n 0, 1) := by decide +kernel
theorem dX11_prisoner_165 : decode cX11_prisoner 165 = .ok (.getfield 65, 3) := by decide +kernel
theorem dX11_prisoner_168 : decode cX11_prisoner 168 = .ok (.iload_n 1, 1) := by decide +kernel
theorem dX11_prisoner_169 : decode cX11_prisoner 169 = .ok (.invokevirtual 181, 3) := by decide +kernel
theorem dX11_prisoner_172 : decode cX11_prisoner 172 = .ok (.ireturn, 1) := by decide +kernel
theorem dX11_prisoner_173 : decode cX11_prisoner 173 = .ok (.aload_n 0, 1) := by decide +kernel
theorem dX11_prisoner_174 : decode cX11_prisoner 174 = .ok (.getfield 65, 3) := by decide +kernel
theorem dX11_prisoner_177 : decode cX11_prisoner 177 = .ok (.iload_n 1, 1) := by decide +kernel
theorem dX11_prisoner_178 : decode cX11_prisoner 178 = .ok (.iconst 0, 1) := by decide +kernel
theorem dX11_prisoner_179 : decode cX11_prisoner 179 = .ok (.invokevirtual 184, 3) := by decide +kernel
theorem dX11_prisoner_182 : decode cX11_prisoner 182 = .ok (.ireturn, 1) := by decide +kernel
theorem dX11_prisoner_183 : decode cX11_prisoner 183 = .ok (.aload_n 0, 1) := by decide +kernel
theorem dX11_prisoner_184 : decode cX11_prisoner 184 = .ok (.getfield 56, 3) := by decide +kernel
theorem dX11_prisoner_187 : decode cX11_prisoner 187 = .ok (.aload_n 0, 1) := by decide +kernel
theorem dX11_prisoner_188 : decode cX11_prisoner 188 = .ok (.getfield 26, 3) := by decide +kernel
theorem dX11_prisoner_191 : decode cX11_prisoner 191 = .ok (.getfield 169, 3) := by decide +kernel
theorem dX11_prisoner_194 : decode cX11_prisoner 194 = .ok (.iload_n 1, 1) := by decide +kernel
theorem dX11_prisoner_195 : decode cX11_prisoner 195 = .ok (.iaload, 1) := by decide +kernel
theorem dX11_prisoner_196 : decode cX11_prisoner 196 = .ok (.invokevirtual 188, 3) := by decide +kernel
theorem dX11_prisoner_199 : decode cX11_prisoner 199 = .ok (.ireturn, 1) := by decide +kernel
theorem dX11_prisoner_200 : decode cX11_prisoner 200 = .ok (.new 150, 3) := by decide +kernel
theorem dX11_prisoner_203 : decode cX11_prisoner 203 = .ok (.dup, 1) := by decide +kernel
theorem dX11_prisoner_204 : decode cX11_prisoner 204 = .ok (.ldc 191, 2) := by decide +kernel
theorem dX11_prisoner_206 : decode cX11_prisoner 206 = .ok (.invokespecial 154, 3) := by decide +kernel
theorem dX11_prisoner_209 : decode cX11_prisoner 209 = .ok (.athrow, 1) := by decide +kernel
theorem dX11_witness_0 : decode cX11_witness 0 = .ok (.iload_n 1, 1) := by decide +kernel
theorem dX11_witness_1 : decode cX11_witness 1 = .ok (.ifCond .lt 14, 3) := by decide +kernel
theorem dX11_witness_4 : decode cX11_witness 4 = .ok (.iload_n 1, 1) := by decide +kernel
theorem dX11_witness_5 : decode cX11_witness 5 = .ok (.aload_n 0, 1) := by decide +kernel
theorem dX11_witness_6 : decode cX11_witness 6 = .ok (.getfield 35, 3) := by decide +kernel
theorem dX11_witness_9 : decode cX11_witness 9 = .ok (.getfield 134, 3) := by decide +kernel
theorem dX11_witness_12 : decode cX11_witness 12 = .ok (.if_icmp .lt 13, 3) := by decide +kernel
theorem dX11_witness_15 : decode cX11_witness 15 = .ok (.new 150, 3) := by decide +kernel
theorem dX11_witness_18 : decode cX11_witness 18 = .ok (.dup, 1) := by decide +kernel
theorem dX11_witness_19 : decode cX11_witness 19 = .ok (.ldc 193, 2) := by decide +kernel
theorem dX11_witness_21 : decode cX11_witness 21 = .ok (.invokespecial 154, 3) := by decide +kernel
theorem dX11_witness_24 : decode cX11_witness 24 = .ok (.athrow, 1) := by decide +kernel
theorem dX11_witness_25 : decode cX11_witness 25 = .ok (.iload_n 2, 1) := by decide +kernel
theorem dX11_witness_26 : decode cX11_witness 26 = .ok (.tableswitch 56 0 2 #[26, 36, 46], 26) := by decide +kernel
theorem dX11_witness_52 : decode cX11_witness 52 = .ok (.aload_n 0, 1) := by decide +kernel
theorem dX11_witness_53 : decode cX11_witness 53 = .ok (.getfield 35, 3) := by decide +kernel
theorem dX11_witness_56 : decode cX11_witness 56 = .ok (.getfield 195, 3) := by decide +kernel
theorem dX11_witness_59 : decode cX11_witness 59 = .ok (.iload_n 1, 1) := by decide +kernel
theorem dX11_witness_60 : decode cX11_witness 60 = .ok (.iaload, 1) := by decide +kernel
theorem dX11_witness_61 : decode cX11_witness 61 = .ok (.ireturn, 1) := by decide +kernel
theorem dX11_witness_62 : decode cX11_witness 62 = .ok (.aload_n 0, 1) := by decide +kernel
theorem dX11_witness_63 : decode cX11_witness 63 = .ok (.getfield 65, 3) := by decide +kernel
theorem dX11_witness_66 : decode cX11_witness 66 = .ok (.getfield 198, 3) := by decide +kernel
theorem dX11_witness_69 : decode cX11_witness 69 = .ok (.iload_n 1, 1) := by decide +kernel
theorem dX11_witness_70 : decode cX11_witness 70 = .ok (.iaload, 1) := by decide +kernel
theorem dX11_witness_71 : decode cX11_witness 71 = .ok (.ireturn, 1) := by decide +kernel
theorem dX11_witness_72 : decode cX11_witness 72 = .ok (.aload_n 0, 1) := by decide +kernel
theorem dX11_witness_73 : decode cX11_witness 73 = .ok (.getfield 35, 3) := by decide +kernel
theorem dX11_witness_76 : decode cX11_witness 76 = .ok (.getfield 201, 3) := by decide +kernel
theorem dX11_witness_79 : decode cX11_witness 79 = .ok (.iload_n 1, 1) := by decide +kernel
theorem dX11_witness_80 : decode cX11_witness 80 = .ok (.iaload, 1) := by decide +kernel
theorem dX11_witness_81 : decode cX11_witness 81 = .ok (.ireturn, 1) := by decide +kernel
theorem dX11_witness_82 : decode cX11_witness 82 = .ok (.new 150, 3) := by decide +kernel
theorem dX11_witness_85 : decode cX11_witness 85 = .ok (.dup, 1) := by decide +kernel
theorem dX11_witness_86 : decode cX11_witness 86 = .ok (.ldc 204, 2) := by decide +kernel
theorem dX11_witness_88 : decode cX11_witness 88 = .ok (.invokespecial 154, 3) := by decide +kernel
theorem dX11_witness_91 : decode cX11_witness 91 = .ok (.athrow, 1) := by decide +kernel
theorem dX11_row_0 : decode cX11_row 0 = .ok (.iload_n 1, 1) := by decide +kernel
theorem dX11_row_1 : decode cX11_row 1 = .ok (.ifCond .lt 14, 3) := by decide +kernel
theorem dX11_row_4 : decode cX11_row 4 = .ok (.iload_n 1, 1) := by decide +kernel
theorem dX11_row_5 : decode cX11_row 5 = .ok (.aload_n 0, 1) := by decide +kernel
theorem dX11_row_6 : decode cX11_row 6 = .ok (.getfield 19, 3) := by decide +kernel
theorem dX11_row_9 : decode cX11_row 9 = .ok (.getfield 408, 3) := by decide +kernel
theorem dX11_row_12 : decode cX11_row 12 = .ok (.if_icmp .lt 14, 3) := by decide +kernel
theorem dX11_row_15 : decode cX11_row 15 = .ok (.new 150, 3) := by decide +kernel
theorem dX11_row_18 : decode cX11_row 18 = .ok (.dup, 1) := by decide +kernel
theorem dX11_row_19 : decode cX11_row 19 = .ok (.ldc_w 412, 3) := by decide +kernel
theorem dX11_row_22 : decode cX11_row 22 = .ok (.invokespecial 154, 3) := by decide +kernel
theorem dX11_row_25 : decode cX11_row 25 = .ok (.athrow, 1) := by decide +kernel
theorem dX11_row_26 : decode cX11_row 26 = .ok (.aload_n 0, 1) := by decide +kernel
theorem dX11_row_27 : decode cX11_row 27 = .ok (.getfield 19, 3) := by decide +kernel
theorem dX11_row_30 : decode cX11_row 30 = .ok (.getfield 414, 3) := by decide +kernel
theorem dX11_row_33 : decode cX11_row 33 = .ok (.iload_n 1, 1) := by decide +kernel
theorem dX11_row_34 : decode cX11_row 34 = .ok (.laload, 1) := by decide +kernel
theorem dX11_row_35 : decode cX11_row 35 = .ok (.lreturn, 1) := by decide +kernel
theorem dL_prisoner_0 : decode cL_prisoner 0 = .ok (.aload_n 3, 1) := by decide +kernel
theorem dL_prisoner_1 : decode cL_prisoner 1 = .ok (.iconst 0, 1) := by decide +kernel
theorem dL_prisoner_2 : decode cL_prisoner 2 = .ok (.aload_n 0, 1) := by decide +kernel
theorem dL_prisoner_3 : decode cL_prisoner 3 = .ok (.iload_n 1, 1) := by decide +kernel
theorem dL_prisoner_4 : decode cL_prisoner 4 = .ok (.iload_n 2, 1) := by decide +kernel
theorem dL_prisoner_5 : decode cL_prisoner 5 = .ok (.invokevirtual 7, 3) := by decide +kernel
theorem dL_prisoner_8 : decode cL_prisoner 8 = .ok (.i2l, 1) := by decide +kernel
theorem dL_prisoner_9 : decode cL_prisoner 9 = .ok (.lastore, 1) := by decide +kernel
theorem dL_prisoner_10 : decode cL_prisoner 10 = .ok (.goto 7, 3) := by decide +kernel
theorem dL_prisoner_13 : decode cL_prisoner 13 = .ok (.astore 4, 2) := by decide +kernel
theorem dL_prisoner_15 : decode cL_prisoner 15 = .ok (.iconst 1, 1) := by decide +kernel
theorem dL_prisoner_16 : decode cL_prisoner 16 = .ok (.ireturn, 1) := by decide +kernel
theorem dL_prisoner_17 : decode cL_prisoner 17 = .ok (.iconst 0, 1) := by decide +kernel
theorem dL_prisoner_18 : decode cL_prisoner 18 = .ok (.ireturn, 1) := by decide +kernel
theorem dL_witness_0 : decode cL_witness 0 = .ok (.aload_n 3, 1) := by decide +kernel
theorem dL_witness_1 : decode cL_witness 1 = .ok (.iconst 0, 1) := by decide +kernel
theorem dL_witness_2 : decode cL_witness 2 = .ok (.aload_n 0, 1) := by decide +kernel
theorem dL_witness_3 : decode cL_witness 3 = .ok (.iload_n 1, 1) := by decide +kernel
theorem dL_witness_4 : decode cL_witness 4 = .ok (.iload_n 2, 1) := by decide +kernel
theorem dL_witness_5 : decode cL_witness 5 = .ok (.invokevirtual 15, 3) := by decide +kernel
theorem dL_witness_8 : decode cL_witness 8 = .ok (.i2l, 1) := by decide +kernel
theorem dL_witness_9 : decode cL_witness 9 = .ok (.lastore, 1) := by decide +kernel
theorem dL_witness_10 : decode cL_witness 10 = .ok (.goto 7, 3) := by decide +kernel
theorem dL_witness_13 : decode cL_witness 13 = .ok (.astore 4, 2) := by decide +kernel
theorem dL_witness_15 : decode cL_witness 15 = .ok (.iconst 1, 1) := by decide +kernel
theorem dL_witness_16 : decode cL_witness 16 = .ok (.ireturn, 1) := by decide +kernel
theorem dL_witness_17 : decode cL_witness 17 = .ok (.iconst 0, 1) := by decide +kernel
theorem dL_witness_18 : decode cL_witness 18 = .ok (.ireturn, 1) := by decide +kernel
theorem dL_row_0 : decode cL_row 0 = .ok (.aload_n 2, 1) := by decide +kernel
theorem dL_row_1 : decode cL_row 1 = .ok (.iconst 0, 1) := by decide +kernel
theorem dL_row_2 : decode cL_row 2 = .ok (.aload_n 0, 1) := by decide +kernel
theorem dL_row_3 : decode cL_row 3 = .ok (.iload_n 1, 1) := by decide +kernel
theorem dL_row_4 : decode cL_row 4 = .ok (.invokevirtual 18, 3) := by decide +kernel
theorem dL_row_7 : decode cL_row 7 = .ok (.lastore, 1) := by decide +kernel
theorem dL_row_8 : decode cL_row 8 = .ok (.goto 6, 3) := by decide +kernel
theorem dL_row_11 : decode cL_row 11 = .ok (.astore_n 3, 1) := by decide +kernel
theorem dL_row_12 : decode cL_row 12 = .ok (.iconst 1, 1) := by decide +kernel
theorem dL_row_13 : decode cL_row 13 = .ok (.ireturn, 1) := by decide +kernel
theorem dL_row_14 : decode cL_row 14 = .ok (.iconst 0, 1) := by decide +kernel
theorem dL_row_15 : decode cL_row 15 = .ok (.ireturn, 1) := by decide +kernel
theorem dL_law_0 : decode cL_law 0 = .ok (.new 8, 3) := by decide +kernel
theorem dL_law_3 : decode cL_law 3 = .ok (.dup, 1) := by decide +kernel
theorem dL_law_4 : decode cL_law 4 = .ok (.invokespecial 22, 3) := by decide +kernel
theorem dL_law_7 : decode cL_law 7 = .ok (.astore_n 1, 1) := by decide +kernel
theorem dL_law_8 : decode cL_law 8 = .ok (.new 23, 3) := by decide +kernel
theorem dL_law_11 : decode cL_law 11 = .ok (.dup, 1) := by decide +kernel
theorem dL_law_12 : decode cL_law 12 = .ok (.invokespecial 25, 3) := by decide +kernel
theorem dL_law_15 : decode cL_law 15 = .ok (.astore_n 2, 1) := by decide +kernel
theorem dL_law_16 : decode cL_law 16 = .ok (.iconst 1, 1) := by decide +kernel
theorem dL_law_17 : decode cL_law 17 = .ok (.newarray .long, 2) := by decide +kernel
theorem dL_law_19 : decode cL_law 19 = .ok (.astore_n 3, 1) := by decide +kernel
theorem dL_law_20 : decode cL_law 20 = .ok (.iconst 0, 1) := by decide +kernel
theorem dL_law_21 : decode cL_law 21 = .ok (.istore 4, 2) := by decide +kernel
theorem dL_law_23 : decode cL_law 23 = .ok (.iload 4, 2) := by decide +kernel
theorem dL_law_25 : decode cL_law 25 = .ok (.aload_n 0, 1) := by decide +kernel
theorem dL_law_26 : decode cL_law 26 = .ok (.arraylength, 1) := by decide +kernel
theorem dL_law_27 : decode cL_law 27 = .ok (.iconst 5, 1) := by decide +kernel
theorem dL_law_28 : decode cL_law 28 = .ok (.isub, 1) := by decide +kernel
theorem dL_law_29 : decode cL_law 29 = .ok (.if_icmp .gt 1616, 3) := by decide +kernel
theorem dL_law_32 : decode cL_law 32 = .ok (.aload_n 0, 1) := by decide +kernel
theorem dL_law_33 : decode cL_law 33 = .ok (.iload 4, 2) := by decide +kernel
theorem dL_law_35 : decode cL_law 35 = .ok (.iaload, 1) := by decide +kernel
theorem dL_law_36 : decode cL_law 36 = .ok (.bipush 63, 2) := by decide +kernel
theorem dL_law_38 : decode cL_law 38 = .ok (.iand, 1) := by decide +kernel
theorem dL_law_39 : decode cL_law 39 = .ok (.tableswitch 1600 0 46 #[201, 226, 251, 264, 277, 290, 303, 316, 384, 452, 477, 538, 575, 600, 625, 650, 663, 676, 713, 738, 775, 812, 849, 874, 911, 936, 961, 998, 1023, 1060, 1097, 1122, 1135, 1148, 1161, 1186, 1199, 1224, 1273, 1322, 1359, 1396, 1433, 1470, 1495, 1520, 1545], 201) := by decide +kernel
theorem dL_law_240 : decode cL_law 240 = .ok (.aload_n 1, 1) := by decide +kernel
theorem dL_law_241 : decode cL_law 241 = .ok (.aload_n 0, 1) := by decide +kernel
theorem dL_law_242 : decode cL_law 242 = .ok (.iload 4, 2) := by decide +kernel
theorem dL_law_244 : decode cL_law 244 = .ok (.iconst 1, 1) := by decide +kernel
theorem dL_law_245 : decode cL_law 245 = .ok (.iadd, 1) := by decide +kernel
theorem dL_law_246 : decode cL_law 246 = .ok (.iaload, 1) := by decide +kernel
theorem dL_law_247 : decode cL_law 247 = .ok (.invokevirtual 26, 3) := by decide +kernel
theorem dL_law_250 : decode cL_law 250 = .ok (.aload_n 2, 1) := by decide +kernel
theorem dL_law_251 : decode cL_law 251 = .ok (.aload_n 0, 1) := by decide +kernel
theorem dL_law_252 : decode cL_law 252 = .ok (.iload 4, 2) := by decide +kernel
theorem dL_law_254 : decode cL_law 254 = .ok (.iconst 1, 1) := by decide +kernel
theorem dL_law_255 : decode cL_law 255 = .ok (.iadd, 1) := by decide +kernel
theorem dL_law_256 : decode cL_law 256 = .ok (.iaload, 1) := by decide +kernel
theorem dL_law_257 : decode cL_law 257 = .ok (.invokevirtual 30, 3) := by decide +kernel
theorem dL_law_260 : decode cL_law 260 = .ok (.if_icmp .eq 1379, 3) := by decide +kernel
theorem dL_law_263 : decode cL_law 263 = .ok (.iconst 0, 1) := by decide +kernel
theorem dL_law_264 : decode cL_law 264 = .ok (.ireturn, 1) := by decide +kernel
theorem dL_law_265 : decode cL_law 265 = .ok (.aload_n 1, 1) := by decide +kernel
theorem dL_law_266 : decode cL_law 266 = .ok (.aload_n 0, 1) := by decide +kernel
theorem dL_law_267 : decode cL_law 267 = .ok (.iload 4, 2) := by decide +kernel
theorem dL_law_269 : decode cL_law 269 = .ok (.iconst 1, 1) := by decide +kernel
theorem dL_law_270 : decode cL_law 270 = .ok (.iadd, 1) := by decide +kernel
theorem dL_law_271 : decode cL_law 271 = .ok (.iaload, 1) := by decide +kernel
theorem dL_law_272 : decode cL_law 272 = .ok (.invokevirtual 31, 3) := by decide +kernel
theorem dL_law_275 : decode cL_law 275 = .ok (.aload_n 2, 1) := by decide +kernel
theorem dL_law_276 : decode cL_law 276 = .ok (.aload_n 0, 1) := by decide +kernel
theorem dL_law_277 : decode cL_law 277 = .ok (.iload 4, 2) := by decide +kernel
theorem dL_law_279 : decode cL_law 279 = .ok (.iconst 1, 1) := by decide +kernel
theorem dL_law_280 : decode cL_law 280 = .ok (.iadd, 1) := by decide +kernel
theorem dL_law_281 : decode cL_law 281 = .ok (.iaload, 1) := by decide +kernel
theorem dL_law_282 : decode cL_law 282 = .ok (.invokevirtual 35, 3) := by decide +kernel
theorem dL_law_285 : decode cL_law 285 = .ok (.if_icmp .eq 1354, 3) := by decide +kernel
theorem dL_law_288 : decode cL_law 288 = .ok (.iconst 0, 1) := by decide +kernel
theorem dL_law_289 : decode cL_law 289 = .ok (.ireturn, 1) := by decide +kernel
theorem dL_law_290 : decode cL_law 290 = .ok (.aload_n 1, 1) := by decide +kernel
theorem dL_law_291 : decode cL_law 291 = .ok (.invokevirtual 36, 3) := by decide +kernel
theorem dL_law_294 : decode cL_law 294 = .ok (.aload_n 2, 1) := by decide +kernel
theorem dL_law_295 : decode cL_law 295 = .ok (.invokevirtual 40, 3) := by decide +kernel
theorem dL_law_298 : decode cL_law 298 = .ok (.if_icmp .eq 1341, 3) := by decide +kernel
theorem dL_law_301 : decode cL_law 301 = .ok (.iconst 0, 1) := by decide +kernel
theorem dL_law_302 : decode cL_law 302 = .ok (.ireturn, 1) := by decide +kernel
theorem dL_law_303 : decode cL_law 303 = .ok (.aload_n 1, 1) := by decide +kernel
theorem dL_law_304 : decode cL_law 304 = .ok (.invokevirtual 41, 3) := by decide +kernel
theorem dL_law_307 : decode cL_law 307 = .ok (.aload_n 2, 1) := by decide +kernel
theorem dL_law_308 : decode cL_law 308 = .ok (.invokevirtual 44, 3) := by decide +kernel
theorem dL_law_311 : decode cL_law 311 = .ok (.if_icmp .eq 1328, 3) := by decide +kernel
theorem dL_law_314 : decode cL_law 314 = .ok (.iconst 0, 1) := by decide +kernel
theorem dL_law_315 : decode cL_law 315 = .ok (.ireturn, 1) := by decide +kernel
theorem dL_law_316 : decode cL_law 316 = .ok (.aload_n 1, 1) := by decide +kernel
theorem dL_law_317 : decode cL_law 317 = .ok (.invokevirtual 45, 3) := by decide +kernel
theorem dL_law_320 : decode cL_law 320 = .ok (.aload_n 2, 1) := by decide +kernel
theorem dL_law_321 : decode cL_law 321 = .ok (.invokevirtual 48, 3) := by decide +kernel
theorem dL_law_324 : decode cL_law 324 = .ok (.if_icmp .eq 1315, 3) := by decide +kernel
theorem dL_law_327 : decode cL_law 327 = .ok (.iconst 0, 1) := by decide +kernel
theorem dL_law_328 : decode cL_law 328 = .ok (.ireturn, 1) := by decide +kernel
theorem dL_law_329 : decode cL_law 329 = .ok (.aload_n 1, 1) := by decide +kernel
theorem dL_law_330 : decode cL_law 330 = .ok (.invokevirtual 49, 3) := by decide +kernel
theorem dL_law_333 : decode cL_law 333 = .ok (.aload_n 2, 1) := by decide +kernel
theorem dL_law_334 : decode cL_law 334 = .ok (.invokevirtual 52, 3) := by decide +kernel
theorem dL_law_337 : decode cL_law 337 = .ok (.if_icmp .eq 1302, 3) := by decide +kernel
theorem dL_law_340 : decode cL_law 340 = .ok (.iconst 0, 1) := by decide +kernel
theorem dL_law_341 : decode cL_law 341 = .ok (.ireturn, 1) := by decide +kernel
theorem dL_law_342 : decode cL_law 342 = .ok (.aload_n 1, 1) := by decide +kernel
theorem dL_law_343 : decode cL_law 343 = .ok (.invokevirtual 53, 3) := by decide +kernel
theorem dL_law_346 : decode cL_law 346 = .ok (.aload_n 2, 1) := by decide +kernel
theorem dL_law_347 : decode cL_law 347 = .ok (.invokevirtual 56, 3) := by decide +kernel
theorem dL_law_350 : decode cL_law 350 = .ok (.if_icmp .eq 1289, 3) := by decide +kernel
theorem dL_law_353 : decode cL_law 353 = .ok (.iconst 0, 1) := by decide +kernel
theorem dL_law_354 : decode cL_law 354 = .ok (.ireturn, 1) := by decide +kernel
theorem dL_law_355 : decode cL_law 355 = .ok (.aload_n 1, 1) := by decide +kernel
theorem dL_law_356 : decode cL_law 356 = .ok (.aload_n 0, 1) := by decide +kernel
theorem dL_law_357 : decode cL_law 357 = .ok (.iload 4, 2) := by decide +kernel
theorem dL_law_359 : decode cL_law 359 = .ok (.iconst 1, 1) := by decide +kernel
theorem dL_law_360 : decode cL_law 360 = .ok (.iadd, 1) := by decide +kernel
theorem dL_law_361 : decode cL_law 361 = .ok (.iaload, 1) := by decide +kernel
theorem dL_law_362 : decode cL_law 362 = .ok (.aload_n 0, 1) := by decide +kernel
theorem dL_law_363 : decode cL_law 363 = .ok (.iload 4, 2) := by decide +kernel
theorem dL_law_365 : decode cL_law 365 = .ok (.iconst 2, 1) := by decide +kernel
theorem dL_law_366 : decode cL_law 366 = .ok (.iadd, 1) := by decide +kernel
theorem dL_law_367 : decode cL_law 367 = .ok (.iaload, 1) := by decide +kernel
theorem dL_law_368 : decode cL_law 368 = .ok (.aload_n 3, 1) := by decide +kernel
theorem dL_law_369 : decode cL_law 369 = .ok (.invokestatic 57, 3) := by decide +kernel
theorem dL_law_372 : decode cL_law 372 = .ok (.istore 5, 2) := by decide +kernel
theorem dL_law_374 : decode cL_law 374 = .ok (.aload_n 2, 1) := by decide +kernel
theorem dL_law_375 : decode cL_law 375 = .ok (.aload_n 0, 1) := by decide +kernel
theorem dL_law_376 : decode cL_law 376 = .ok (.iload 4, 2) := by decide +kernel
theorem dL_law_378 : decode cL_law 378 = .ok (.iconst 1, 1) := by decide +kernel
theorem dL_law_379 : decode cL_law 379 = .ok (.iadd, 1) := by decide +kernel
theorem dL_law_380 : decode cL_law 380 = .ok (.iaload, 1) := by decide +kernel
theorem dL_law_381 : decode cL_law 381 = .ok (.aload_n 0, 1) := by decide +kernel
theorem dL_law_382 : decode cL_law 382 = .ok (.iload 4, 2) := by decide +kernel
theorem dL_law_384 : decode cL_law 384 = .ok (.iconst 2, 1) := by decide +kernel
theorem dL_law_385 : decode cL_law 385 = .ok (.iadd, 1) := by decide +kernel
theorem dL_law_386 : decode cL_law 386 = .ok (.iaload, 1) := by decide +kernel
theorem dL_law_387 : decode cL_law 387 = .ok (.invokevirtual 62, 3) := by decide +kernel
theorem dL_law_390 : decode cL_law 390 = .ok (.istore 6, 2) := by decide +kernel
theorem dL_law_392 : decode cL_law 392 = .ok (.aload_n 2, 1) := by decide +kernel
theorem dL_law_393 : decode cL_law 393 = .ok (.invokevirtual 63, 3) := by decide +kernel
theorem dL_law_396 : decode cL_law 396 = .ok (.iload 5, 2) := by decide +kernel
theorem dL_law_398 : decode cL_law 398 = .ok (.if_icmp .eq 5, 3) := by decide +kernel
theorem dL_law_401 : decode cL_law 401 = .ok (.iconst 0, 1) := by decide +kernel
theorem dL_law_402 : decode cL_law 402 = .ok (.ireturn, 1) := by decide +kernel
theorem dL_law_403 : decode cL_law 403 = .ok (.iload 5, 2) := by decide +kernel
theorem dL_law_405 : decode cL_law 405 = .ok (.ifCond .ne 15, 3) := by decide +kernel
theorem dL_law_408 : decode cL_law 408 = .ok (.aload_n 3, 1) := by decide +kernel
theorem dL_law_409 : decode cL_law 409 = .ok (.iconst 0, 1) := by decide +kernel
theorem dL_law_410 : decode cL_law 410 = .ok (.laload, 1) := by decide +kernel
theorem dL_law_411 : decode cL_law 411 = .ok (.iload 6, 2) := by decide +kernel
theorem dL_law_413 : decode cL_law 413 = .ok (.i2l, 1) := by decide +kernel
theorem dL_law_414 : decode cL_law 414 = .ok (.lcmp, 1) := by decide +kernel
theorem dL_law_415 : decode cL_law 415 = .ok (.ifCond .eq 5, 3) := by decide +kernel
theorem dL_law_418 : decode cL_law 418 = .ok (.iconst 0, 1) := by decide +kernel
theorem dL_law_419 : decode cL_law 419 = .ok (.ireturn, 1) := by decide +kernel
theorem dL_law_420 : decode cL_law 420 = .ok (.goto 1219, 3) := by decide +kernel
theorem dL_law_423 : decode cL_law 423 = .ok (.aload_n 1, 1) := by decide +kernel
theorem dL_law_424 : decode cL_law 424 = .ok (.aload_n 0, 1) := by decide +kernel
theorem dL_law_425 : decode cL_law 425 = .ok (.iload 4, 2) := by decide +kernel
theorem dL_law_427 : decode cL_law 427 = .ok (.iconst 1, 1) := by decide +kernel
theorem dL_law_428 : decode cL_law 428 = .ok (.iadd, 1) := by decide +kernel
theorem dL_law_429 : decode cL_law 429 = .ok (.iaload, 1) := by decide +kernel
theorem dL_law_430 : decode cL_law 430 = .ok (.aload_n 0, 1) := by decide +kernel
theorem dL_law_431 : decode cL_law 431 = .ok (.iload 4, 2) := by decide +kernel
theorem dL_law_433 : decode cL_law 433 = .ok (.iconst 2, 1) := by decide +kernel
theorem dL_law_434 : decode cL_law 434 = .ok (.iadd, 1) := by decide +kernel
theorem dL_law_435 : decode cL_law 435 = .ok (.iaload, 1) := by decide +kernel
theorem dL_law_436 : decode cL_law 436 = .ok (.aload_n 3, 1) := by decide +kernel
theorem dL_law_437 : decode cL_law 437 = .ok (.invokestatic 66, 3) := by decide +kernel
theorem dL_law_440 : decode cL_law 440 = .ok (.istore 5, 2) := by decide +kernel
theorem dL_law_442 : decode cL_law 442 = .ok (.aload_n 2, 1) := by decide +kernel
theorem dL_law_443 : decode cL_law 443 = .ok (.aload_n 0, 1) := by decide +kernel
theorem dL_law_444 : decode cL_law 444 = .ok (.iload 4, 2) := by decide +kernel
theorem dL_law_446 : decode cL_law 446 = .ok (.iconst 1, 1) := by decide +kernel
theorem dL_law_447 : decode cL_law 447 = .ok (.iadd, 1) := by decide +kernel
theorem dL_law_448 : decode cL_law 448 = .ok (.iaload, 1) := by decide +kernel
theorem dL_law_449 : decode cL_law 449 = .ok (.aload_n 0, 1) := by decide +kernel
theorem dL_law_450 : decode cL_law 450 = .ok (.iload 4, 2) := by decide +kernel
theorem dL_law_452 : decode cL_law 452 = .ok (.iconst 2, 1) := by decide +kernel
theorem dL_law_453 : decode cL_law 453 = .ok (.iadd, 1) := by decide +kernel
theorem dL_law_454 : decode cL_law 454 = .ok (.iaload, 1) := by decide +kernel
theorem dL_law_455 : decode cL_law 455 = .ok (.invokevirtual 68, 3) := by decide +kernel
theorem dL_law_458 : decode cL_law 458 = .ok (.istore 6, 2) := by decide +kernel
theorem dL_law_460 : decode cL_law 460 = .ok (.aload_n 2, 1) := by decide +kernel
theorem dL_law_461 : decode cL_law 461 = .ok (.invokevirtual 63, 3) := by decide +kernel
theorem dL_law_464 : decode cL_law 464 = .ok (.iload 5, 2) := by decide +kernel
theorem dL_law_466 : decode cL_law 466 = .ok (.if_icmp .eq 5, 3) := by decide +kernel
theorem dL_law_469 : decode cL_law 469 = .ok (.iconst 0, 1) := by decide +kernel
theorem dL_law_470 : decode cL_law 470 = .ok (.ireturn, 1) := by decide +kernel
theorem dL_law_471 : decode cL_law 471 = .ok (.iload 5, 2) := by decide +kernel
theorem dL_law_473 : decode cL_law 473 = .ok (.ifCond .ne 15, 3) := by decide +kernel
theorem dL_law_476 : decode cL_law 476 = .ok (.aload_n 3, 1) := by decide +kernel
theorem dL_law_477 : decode cL_law 477 = .ok (.iconst 0, 1) := by decide +kernel
theorem dL_law_478 : decode cL_law 478 = .ok (.laload, 1) := by decide +kernel
theorem dL_law_479 : decode cL_law 479 = .ok (.iload 6, 2) := by decide +kernel
theorem dL_law_481 : decode cL_law 481 = .ok (.i2l, 1) := by decide +kernel
theorem dL_law_482 : decode cL_law 482 = .ok (.lcmp, 1) := by decide +kernel
theorem dL_law_483 : decode cL_law 483 = .ok (.ifCond .eq 5, 3) := by decide +kernel
theorem dL_law_486 : decode cL_law 486 = .ok (.iconst 0, 1) := by decide +kernel
theorem dL_law_487 : decode cL_law 487 = .ok (.ireturn, 1) := by decide +kernel
theorem dL_law_488 : decode cL_law 488 = .ok (.goto 1151, 3) := by decide +kernel
theorem dL_law_491 : decode cL_law 491 = .ok (.aload_n 1, 1) := by decide +kernel
theorem dL_law_492 : decode cL_law 492 = .ok (.aload_n 0, 1) := by decide +kernel
theorem dL_law_493 : decode cL_law 493 = .ok (.iload 4, 2) := by decide +kernel
theorem dL_law_495 : decode cL_law 495 = .ok (.iconst 1, 1) := by decide +kernel
theorem dL_law_496 : decode cL_law 496 = .ok (.iadd, 1) := by decide +kernel
theorem dL_law_497 : decode cL_law 497 = .ok (.iaload, 1) := by decide +kernel
theorem dL_law_498 : decode cL_law 498 = .ok (.invokevirtual 69, 3) := by decide +kernel
theorem dL_law_501 : decode cL_law 501 = .ok (.aload_n 2, 1) := by decide +kernel
theorem dL_law_502 : decode cL_law 502 = .ok (.aload_n 0, 1) := by decide +kernel
theorem dL_law_503 : decode cL_law 503 = .ok (.iload 4, 2) := by decide +kernel
theorem dL_law_505 : decode cL_law 505 = .ok (.iconst 1, 1) := by decide +kernel
theorem dL_law_506 : decode cL_law 506 = .ok (.iadd, 1) := by decide +kernel
theorem dL_law_507 : decode cL_law 507 = .ok (.iaload, 1) := by decide +kernel
theorem dL_law_508 : decode cL_law 508 = .ok (.invokevirtual 72, 3) := by decide +kernel
theorem dL_law_511 : decode cL_law 511 = .ok (.if_icmp .eq 1128, 3) := by decide +kernel
theorem dL_law_514 : decode cL_law 514 = .ok (.iconst 0, 1) := by decide +kernel
theorem dL_law_515 : decode cL_law 515 = .ok (.ireturn, 1) := by decide +kernel
theorem dL_law_516 : decode cL_law 516 = .ok (.aload_n 1, 1) := by decide +kernel
theorem dL_law_517 : decode cL_law 517 = .ok (.aload_n 0, 1) := by decide +kernel
theorem dL_law_518 : decode cL_law 518 = .ok (.iload 4, 2) := by decide +kernel
theorem dL_law_520 : decode cL_law 520 = .ok (.iconst 1, 1) := by decide +kernel
theorem dL_law_521 : decode cL_law 521 = .ok (.iadd, 1) := by decide +kernel
theorem dL_law_522 : decode cL_law 522 = .ok (.iaload, 1) := by decide +kernel
theorem dL_law_523 : decode cL_law 523 = .ok (.aload_n 0, 1) := by decide +kernel
theorem dL_law_524 : decode cL_law 524 = .ok (.iload 4, 2) := by decide +kernel
theorem dL_law_526 : decode cL_law 526 = .ok (.iconst 2, 1) := by decide +kernel
theorem dL_law_527 : decode cL_law 527 = .ok (.iadd, 1) := by decide +kernel
theorem dL_law_528 : decode cL_law 528 = .ok (.iaload, 1) := by decide +kernel
theorem dL_law_529 : decode cL_law 529 = .ok (.aload_n 0, 1) := by decide +kernel
theorem dL_law_530 : decode cL_law 530 = .ok (.iload 4, 2) := by decide +kernel
theorem dL_law_532 : decode cL_law 532 = .ok (.iconst 3, 1) := by decide +kernel
theorem dL_law_533 : decode cL_law 533 = .ok (.iadd, 1) := by decide +kernel
theorem dL_law_534 : decode cL_law 534 = .ok (.iaload, 1) := by decide +kernel
theorem dL_law_535 : decode cL_law 535 = .ok (.aload_n 0, 1) := by decide +kernel
theorem dL_law_536 : decode cL_law 536 = .ok (.iload 4, 2) := by decide +kernel
theorem dL_law_538 : decode cL_law 538 = .ok (.iconst 4, 1) := by decide +kernel
theorem dL_law_539 : decode cL_law 539 = .ok (.iadd, 1) := by decide +kernel
theorem dL_law_540 : decode cL_law 540 = .ok (.iaload, 1) := by decide +kernel
theorem dL_law_541 : decode cL_law 541 = .ok (.invokevirtual 73, 3) := by decide +kernel
theorem dL_law_544 : decode cL_law 544 = .ok (.aload_n 2, 1) := by decide +kernel
theorem dL_law_545 : decode cL_law 545 = .ok (.aload_n 0, 1) := by decide +kernel
theorem dL_law_546 : decode cL_law 546 = .ok (.iload 4, 2) := by decide +kernel
theorem dL_law_548 : decode cL_law 548 = .ok (.iconst 1, 1) := by decide +kernel
theorem dL_law_549 : decode cL_law 549 = .ok (.iadd, 1) := by decide +kernel
theorem dL_law_550 : decode cL_law 550 = .ok (.iaload, 1) := by decide +kernel
theorem dL_law_551 : decode cL_law 551 = .ok (.aload_n 0, 1) := by decide +kernel
theorem dL_law_552 : decode cL_law 552 = .ok (.iload 4, 2) := by decide +kernel
theorem dL_law_554 : decode cL_law 554 = .ok (.iconst 2, 1) := by decide +kernel
theorem dL_law_555 : decode cL_law 555 = .ok (.iadd, 1) := by decide +kernel
theorem dL_law_556 : decode cL_law 556 = .ok (.iaload, 1) := by decide +kernel
theorem dL_law_557 : decode cL_law 557 = .ok (.aload_n 0, 1) := by decide +kernel
theorem dL_law_558 : decode cL_law 558 = .ok (.iload 4, 2) := by decide +kernel
theorem dL_law_560 : decode cL_law 560 = .ok (.iconst 3, 1) := by decide +kernel
theorem dL_law_561 : decode cL_law 561 = .ok (.iadd, 1) := by decide +kernel
theorem dL_law_562 : decode cL_law 562 = .ok (.iaload, 1) := by decide +kernel
theorem dL_law_563 : decode cL_law 563 = .ok (.aload_n 0, 1) := by decide +kernel
theorem dL_law_564 : decode cL_law 564 = .ok (.iload 4, 2) := by decide +kernel
theorem dL_law_566 : decode cL_law 566 = .ok (.iconst 4, 1) := by decide +kernel
theorem dL_law_567 : decode cL_law 567 = .ok (.iadd, 1) := by decide +kernel
theorem dL_law_568 : decode cL_law 568 = .ok (.iaload, 1) := by decide +kernel
theorem dL_law_569 : decode cL_law 569 = .ok (.invokevirtual 77, 3) := by decide +kernel
theorem dL_law_572 : decode cL_law 572 = .ok (.if_icmp .eq 1067, 3) := by decide +kernel
theorem dL_law_575 : decode cL_law 575 = .ok (.iconst 0, 1) := by decide +kernel
theorem dL_law_576 : decode cL_law 576 = .ok (.ireturn, 1) := by decide +kernel
theorem dL_law_577 : decode cL_law 577 = .ok (.aload_n 1, 1) := by decide +kernel
theorem dL_law_578 : decode cL_law 578 = .ok (.aload_n 0, 1) := by decide +kernel
theorem dL_law_579 : decode cL_law 579 = .ok (.iload 4, 2) := by decide +kernel
theorem dL_law_581 : decode cL_law 581 = .ok (.iconst 1, 1) := by decide +kernel
theorem dL_law_582 : decode cL_law 582 = .ok (.iadd, 1) := by decide +kernel
theorem dL_law_583 : decode cL_law 583 = .ok (.iaload, 1) := by decide +kernel
theorem dL_law_584 : decode cL_law 584 = .ok (.aload_n 0, 1) := by decide +kernel
theorem dL_law_585 : decode cL_law 585 = .ok (.iload 4, 2) := by decide +kernel
theorem dL_law_587 : decode cL_law 587 = .ok (.iconst 2, 1) := by decide +kernel
theorem dL_law_588 : decode cL_law 588 = .ok (.iadd, 1) := by decide +kernel
theorem dL_law_589 : decode cL_law 589 = .ok (.iaload, 1) := by decide +kernel
theorem dL_law_590 : decode cL_law 590 = .ok (.invokevirtual 78, 3) := by decide +kernel
theorem dL_law_593 : decode cL_law 593 = .ok (.aload_n 2, 1) := by decide +kernel
theorem dL_law_594 : decode cL_law 594 = .ok (.aload_n 0, 1) := by decide +kernel
theorem dL_law_595 : decode cL_law 595 = .ok (.iload 4, 2) := by decide +kernel
theorem dL_law_597 : decode cL_law 597 = .ok (.iconst 1, 1) := by decide +kernel
theorem dL_law_598 : decode cL_law 598 = .ok (.iadd, 1) := by decide +kernel
theorem dL_law_599 : decode cL_law 599 = .ok (.iaload, 1) := by decide +kernel
theorem dL_law_600 : decode cL_law 600 = .ok (.aload_n 0, 1) := by decide +kernel
theorem dL_law_601 : decode cL_law 601 = .ok (.iload 4, 2) := by decide +kernel
theorem dL_law_603 : decode cL_law 603 = .ok (.iconst 2, 1) := by decide +kernel
theorem dL_law_604 : decode cL_law 604 = .ok (.iadd, 1) := by decide +kernel
theorem dL_law_605 : decode cL_law 605 = .ok (.iaload, 1) := by decide +kernel
theorem dL_law_606 : decode cL_law 606 = .ok (.invokevirtual 81, 3) := by decide +kernel
theorem dL_law_609 : decode cL_law 609 = .ok (.if_icmp .eq 1030, 3) := by decide +kernel
theorem dL_law_612 : decode cL_law 612 = .ok (.iconst 0, 1) := by decide +kernel
theorem dL_law_613 : decode cL_law 613 = .ok (.ireturn, 1) := by decide +kernel
theorem dL_law_614 : decode cL_law 614 = .ok (.aload_n 1, 1) := by decide +kernel
theorem dL_law_615 : decode cL_law 615 = .ok (.aload_n 0, 1) := by decide +kernel
theorem dL_law_616 : decode cL_law 616 = .ok (.iload 4, 2) := by decide +kernel
theorem dL_law_618 : decode cL_law 618 = .ok (.iconst 1, 1) := by decide +kernel
theorem dL_law_619 : decode cL_law 619 = .ok (.iadd, 1) := by decide +kernel
theorem dL_law_620 : decode cL_law 620 = .ok (.iaload, 1) := by decide +kernel
theorem dL_law_621 : decode cL_law 621 = .ok (.invokevirtual 82, 3) := by decide +kernel
theorem dL_law_624 : decode cL_law 624 = .ok (.aload_n 2, 1) := by decide +kernel
theorem dL_law_625 : decode cL_law 625 = .ok (.aload_n 0, 1) := by decide +kernel
theorem dL_law_626 : decode cL_law 626 = .ok (.iload 4, 2) := by decide +kernel
theorem dL_law_628 : decode cL_law 628 = .ok (.iconst 1, 1) := by decide +kernel
theorem dL_law_629 : decode cL_law 629 = .ok (.iadd, 1) := by decide +kernel
theorem dL_law_630 : decode cL_law 630 = .ok (.iaload, 1) := by decide +kernel
theorem dL_law_631 : decode cL_law 631 = .ok (.invokevirtual 85, 3) := by decide +kernel
theorem dL_law_634 : decode cL_law 634 = .ok (.if_icmp .eq 1005, 3) := by decide +kernel
theorem dL_law_637 : decode cL_law 637 = .ok (.iconst 0, 1) := by decide +kernel
theorem dL_law_638 : decode cL_law 638 = .ok (.ireturn, 1) := by decide +kernel
theorem dL_law_639 : decode cL_law 639 = .ok (.aload_n 1, 1) := by decide +kernel
theorem dL_law_640 : decode cL_law 640 = .ok (.aload_n 0, 1) := by decide +kernel
theorem dL_law_641 : decode cL_law 641 = .ok (.iload 4, 2) := by decide +kernel
theorem dL_law_643 : decode cL_law 643 = .ok (.iconst 1, 1) := by decide +kernel
theorem dL_law_644 : decode cL_law 644 = .ok (.iadd, 1) := by decide +kernel
theorem dL_law_645 : decode cL_law 645 = .ok (.iaload, 1) := by decide +kernel
theorem dL_law_646 : decode cL_law 646 = .ok (.invokevirtual 86, 3) := by decide +kernel
theorem dL_law_649 : decode cL_law 649 = .ok (.aload_n 2, 1) := by decide +kernel
theorem dL_law_650 : decode cL_law 650 = .ok (.aload_n 0, 1) := by decide +kernel
theorem dL_law_651 : decode cL_law 651 = .ok (.iload 4, 2) := by decide +kernel
theorem dL_law_653 : decode cL_law 653 = .ok (.iconst 1, 1) := by decide +kernel
theorem dL_law_654 : decode cL_law 654 = .ok (.iadd, 1) := by decide +kernel
theorem dL_law_655 : decode cL_law 655 = .ok (.iaload, 1) := by decide +kernel
theorem dL_law_656 : decode cL_law 656 = .ok (.invokevirtual 89, 3) := by decide +kernel
theorem dL_law_659 : decode cL_law 659 = .ok (.if_icmp .eq 980, 3) := by decide +kernel
theorem dL_law_662 : decode cL_law 662 = .ok (.iconst 0, 1) := by decide +kernel
theorem dL_law_663 : decode cL_law 663 = .ok (.ireturn, 1) := by decide +kernel
theorem dL_law_664 : decode cL_law 664 = .ok (.aload_n 1, 1) := by decide +kernel
theorem dL_law_665 : decode cL_law 665 = .ok (.aload_n 0, 1) := by decide +kernel
theorem dL_law_666 : decode cL_law 666 = .ok (.iload 4, 2) := by decide +kernel
theorem dL_law_668 : decode cL_law 668 = .ok (.iconst 1, 1) := by decide +kernel
theorem dL_law_669 : decode cL_law 669 = .ok (.iadd, 1) := by decide +kernel
theorem dL_law_670 : decode cL_law 670 = .ok (.iaload, 1) := by decide +kernel
theorem dL_law_671 : decode cL_law 671 = .ok (.invokevirtual 90, 3) := by decide +kernel
theorem dL_law_674 : decode cL_law 674 = .ok (.aload_n 2, 1) := by decide +kernel
theorem dL_law_675 : decode cL_law 675 = .ok (.aload_n 0, 1) := by decide +kernel
theorem dL_law_676 : decode cL_law 676 = .ok (.iload 4, 2) := by decide +kernel
theorem dL_law_678 : decode cL_law 678 = .ok (.iconst 1, 1) := by decide +kernel
theorem dL_law_679 : decode cL_law 679 = .ok (.iadd, 1) := by decide +kernel
theorem dL_law_680 : decode cL_law 680 = .ok (.iaload, 1) := by decide +kernel
theorem dL_law_681 : decode cL_law 681 = .ok (.invokevirtual 93, 3) := by decide +kernel
theorem dL_law_684 : decode cL_law 684 = .ok (.if_icmp .eq 955, 3) := by decide +kernel
theorem dL_law_687 : decode cL_law 687 = .ok (.iconst 0, 1) := by decide +kernel
theorem dL_law_688 : decode cL_law 688 = .ok (.ireturn, 1) := by decide +kernel
theorem dL_law_689 : decode cL_law 689 = .ok (.aload_n 1, 1) := by decide +kernel
theorem dL_law_690 : decode cL_law 690 = .ok (.invokevirtual 94, 3) := by decide +kernel
theorem dL_law_693 : decode cL_law 693 = .ok (.aload_n 2, 1) := by decide +kernel
theorem dL_law_694 : decode cL_law 694 = .ok (.invokevirtual 97, 3) := by decide +kernel
theorem dL_law_697 : decode cL_law 697 = .ok (.if_icmp .eq 942, 3) := by decide +kernel
theorem dL_law_700 : decode cL_law 700 = .ok (.iconst 0, 1) := by decide +kernel
theorem dL_law_701 : decode cL_law 701 = .ok (.ireturn, 1) := by decide +kernel
theorem dL_law_702 : decode cL_law 702 = .ok (.aload_n 1, 1) := by decide +kernel
theorem dL_law_703 : decode cL_law 703 = .ok (.invokevirtual 98, 3) := by decide +kernel
theorem dL_law_706 : decode cL_law 706 = .ok (.aload_n 2, 1) := by decide +kernel
theorem dL_law_707 : decode cL_law 707 = .ok (.invokevirtual 101, 3) := by decide +kernel
theorem dL_law_710 : decode cL_law 710 = .ok (.if_icmp .eq 929, 3) := by decide +kernel
theorem dL_law_713 : decode cL_law 713 = .ok (.iconst 0, 1) := by decide +kernel
theorem dL_law_714 : decode cL_law 714 = .ok (.ireturn, 1) := by decide +kernel
theorem dL_law_715 : decode cL_law 715 = .ok (.aload_n 1, 1) := by decide +kernel
theorem dL_law_716 : decode cL_law 716 = .ok (.aload_n 0, 1) := by decide +kernel
theorem dL_law_717 : decode cL_law 717 = .ok (.iload 4, 2) := by decide +kernel
theorem dL_law_719 : decode cL_law 719 = .ok (.iconst 1, 1) := by decide +kernel
theorem dL_law_720 : decode cL_law 720 = .ok (.iadd, 1) := by decide +kernel
theorem dL_law_721 : decode cL_law 721 = .ok (.iaload, 1) := by decide +kernel
theorem dL_law_722 : decode cL_law 722 = .ok (.aload_n 0, 1) := by decide +kernel
theorem dL_law_723 : decode cL_law 723 = .ok (.iload 4, 2) := by decide +kernel
theorem dL_law_725 : decode cL_law 725 = .ok (.iconst 2, 1) := by decide +kernel
theorem dL_law_726 : decode cL_law 726 = .ok (.iadd, 1) := by decide +kernel
theorem dL_law_727 : decode cL_law 727 = .ok (.iaload, 1) := by decide +kernel
theorem dL_law_728 : decode cL_law 728 = .ok (.invokevirtual 102, 3) := by decide +kernel
theorem dL_law_731 : decode cL_law 731 = .ok (.aload_n 2, 1) := by decide +kernel
theorem dL_law_732 : decode cL_law 732 = .ok (.aload_n 0, 1) := by decide +kernel
theorem dL_law_733 : decode cL_law 733 = .ok (.iload 4, 2) := by decide +kernel
theorem dL_law_735 : decode cL_law 735 = .ok (.iconst 1, 1) := by decide +kernel
theorem dL_law_736 : decode cL_law 736 = .ok (.iadd, 1) := by decide +kernel
theorem dL_law_737 : decode cL_law 737 = .ok (.iaload, 1) := by decide +kernel
theorem dL_law_738 : decode cL_law 738 = .ok (.aload_n 0, 1) := by decide +kernel
theorem dL_law_739 : decode cL_law 739 = .ok (.iload 4, 2) := by decide +kernel
theorem dL_law_741 : decode cL_law 741 = .ok (.iconst 2, 1) := by decide +kernel
theorem dL_law_742 : decode cL_law 742 = .ok (.iadd, 1) := by decide +kernel
theorem dL_law_743 : decode cL_law 743 = .ok (.iaload, 1) := by decide +kernel
theorem dL_law_744 : decode cL_law 744 = .ok (.invokevirtual 105, 3) := by decide +kernel
theorem dL_law_747 : decode cL_law 747 = .ok (.if_icmp .eq 892, 3) := by decide +kernel
theorem dL_law_750 : decode cL_law 750 = .ok (.iconst 0, 1) := by decide +kernel
theorem dL_law_751 : decode cL_law 751 = .ok (.ireturn, 1) := by decide +kernel
theorem dL_law_752 : decode cL_law 752 = .ok (.aload_n 1, 1) := by decide +kernel
theorem dL_law_753 : decode cL_law 753 = .ok (.aload_n 0, 1) := by decide +kernel
theorem dL_law_754 : decode cL_law 754 = .ok (.iload 4, 2) := by decide +kernel
theorem dL_law_756 : decode cL_law 756 = .ok (.iconst 1, 1) := by decide +kernel
theorem dL_law_757 : decode cL_law 757 = .ok (.iadd, 1) := by decide +kernel
theorem dL_law_758 : decode cL_law 758 = .ok (.iaload, 1) := by decide +kernel
theorem dL_law_759 : decode cL_law 759 = .ok (.invokevirtual 106, 3) := by decide +kernel
theorem dL_law_762 : decode cL_law 762 = .ok (.aload_n 2, 1) := by decide +kernel
theorem dL_law_763 : decode cL_law 763 = .ok (.aload_n 0, 1) := by decide +kernel
theorem dL_law_764 : decode cL_law 764 = .ok (.iload 4, 2) := by decide +kernel
theorem dL_law_766 : decode cL_law 766 = .ok (.iconst 1, 1) := by decide +kernel
theorem dL_law_767 : decode cL_law 767 = .ok (.iadd, 1) := by decide +kernel
theorem dL_law_768 : decode cL_law 768 = .ok (.iaload, 1) := by decide +kernel
theorem dL_law_769 : decode cL_law 769 = .ok (.invokevirtual 109, 3) := by decide +kernel
theorem dL_law_772 : decode cL_law 772 = .ok (.if_icmp .eq 867, 3) := by decide +kernel
theorem dL_law_775 : decode cL_law 775 = .ok (.iconst 0, 1) := by decide +kernel
theorem dL_law_776 : decode cL_law 776 = .ok (.ireturn, 1) := by decide +kernel
theorem dL_law_777 : decode cL_law 777 = .ok (.aload_n 1, 1) := by decide +kernel
theorem dL_law_778 : decode cL_law 778 = .ok (.aload_n 0, 1) := by decide +kernel
theorem dL_law_779 : decode cL_law 779 = .ok (.iload 4, 2) := by decide +kernel
theorem dL_law_781 : decode cL_law 781 = .ok (.iconst 1, 1) := by decide +kernel
theorem dL_law_782 : decode cL_law 782 = .ok (.iadd, 1) := by decide +kernel
theorem dL_law_783 : decode cL_law 783 = .ok (.iaload, 1) := by decide +kernel
theorem dL_law_784 : decode cL_law 784 = .ok (.aload_n 0, 1) := by decide +kernel
theorem dL_law_785 : decode cL_law 785 = .ok (.iload 4, 2) := by decide +kernel
theorem dL_law_787 : decode cL_law 787 = .ok (.iconst 2, 1) := by decide +kernel
theorem dL_law_788 : decode cL_law 788 = .ok (.iadd, 1) := by decide +kernel
theorem dL_law_789 : decode cL_law 789 = .ok (.iaload, 1) := by decide +kernel
theorem dL_law_790 : decode cL_law 790 = .ok (.invokevirtual 110, 3) := by decide +kernel
theorem dL_law_793 : decode cL_law 793 = .ok (.aload_n 2, 1) := by decide +kernel
theorem dL_law_794 : decode cL_law 794 = .ok (.aload_n 0, 1) := by decide +kernel
theorem dL_law_795 : decode cL_law 795 = .ok (.iload 4, 2) := by decide +kernel
theorem dL_law_797 : decode cL_law 797 = .ok (.iconst 1, 1) := by decide +kernel
theorem dL_law_798 : decode cL_law 798 = .ok (.iadd, 1) := by decide +kernel
theorem dL_law_799 : decode cL_law 799 = .ok (.iaload, 1) := by decide +kernel
theorem dL_law_800 : decode cL_law 800 = .ok (.aload_n 0, 1) := by decide +kernel
theorem dL_law_801 : decode cL_law 801 = .ok (.iload 4, 2) := by decide +kernel
theorem dL_law_803 : decode cL_law 803 = .ok (.iconst 2, 1) := by decide +kernel
theorem dL_law_804 : decode cL_law 804 = .ok (.iadd, 1) := by decide +kernel
theorem dL_law_805 : decode cL_law 805 = .ok (.iaload, 1) := by decide +kernel
theorem dL_law_806 : decode cL_law 806 = .ok (.invokevirtual 113, 3) := by decide +kernel
theorem dL_law_809 : decode cL_law 809 = .ok (.if_icmp .eq 830, 3) := by decide +kernel
theorem dL_law_812 : decode cL_law 812 = .ok (.iconst 0, 1) := by decide +kernel
theorem dL_law_813 : decode cL_law 813 = .ok (.ireturn, 1) := by decide +kernel
theorem dL_law_814 : decode cL_law 814 = .ok (.aload_n 1, 1) := by decide +kernel
theorem dL_law_815 : decode cL_law 815 = .ok (.aload_n 0, 1) := by decide +kernel
theorem dL_law_816 : decode cL_law 816 = .ok (.iload 4, 2) := by decide +kernel
theorem dL_law_818 : decode cL_law 818 = .ok (.iconst 1, 1) := by decide +kernel
theorem dL_law_819 : decode cL_law 819 = .ok (.iadd, 1) := by decide +kernel
theorem dL_law_820 : decode cL_law 820 = .ok (.iaload, 1) := by decide +kernel
theorem dL_law_821 : decode cL_law 821 = .ok (.aload_n 0, 1) := by decide +kernel
theorem dL_law_822 : decode cL_law 822 = .ok (.iload 4, 2) := by decide +kernel
theorem dL_law_824 : decode cL_law 824 = .ok (.iconst 2, 1) := by decide +kernel
theorem dL_law_825 : decode cL_law 825 = .ok (.iadd, 1) := by decide +kernel
theorem dL_law_826 : decode cL_law 826 = .ok (.iaload, 1) := by decide +kernel
theorem dL_law_827 : decode cL_law 827 = .ok (.invokevirtual 114, 3) := by decide +kernel
theorem dL_law_830 : decode cL_law 830 = .ok (.aload_n 2, 1) := by decide +kernel
theorem dL_law_831 : decode cL_law 831 = .ok (.aload_n 0, 1) := by decide +kernel
theorem dL_law_832 : decode cL_law 832 = .ok (.iload 4, 2) := by decide +kernel
theorem dL_law_834 : decode cL_law 834 = .ok (.iconst 1, 1) := by decide +kernel
theorem dL_law_835 : decode cL_law 835 = .ok (.iadd, 1) := by decide +kernel
theorem dL_law_836 : decode cL_law 836 = .ok (.iaload, 1) := by decide +kernel
theorem dL_law_837 : decode cL_law 837 = .ok (.aload_n 0, 1) := by decide +kernel
theorem dL_law_838 : decode cL_law 838 = .ok (.iload 4, 2) := by decide +kernel
theorem dL_law_840 : decode cL_law 840 = .ok (.iconst 2, 1) := by decide +kernel
theorem dL_law_841 : decode cL_law 841 = .ok (.iadd, 1) := by decide +kernel
theorem dL_law_842 : decode cL_law 842 = .ok (.iaload, 1) := by decide +kernel
theorem dL_law_843 : decode cL_law 843 = .ok (.invokevirtual 117, 3) := by decide +kernel
theorem dL_law_846 : decode cL_law 846 = .ok (.if_icmp .eq 793, 3) := by decide +kernel
theorem dL_law_849 : decode cL_law 849 = .ok (.iconst 0, 1) := by decide +kernel
theorem dL_law_850 : decode cL_law 850 = .ok (.ireturn, 1) := by decide +kernel
theorem dL_law_851 : decode cL_law 851 = .ok (.aload_n 1, 1) := by decide +kernel
theorem dL_law_852 : decode cL_law 852 = .ok (.aload_n 0, 1) := by decide +kernel
theorem dL_law_853 : decode cL_law 853 = .ok (.iload 4, 2) := by decide +kernel
theorem dL_law_855 : decode cL_law 855 = .ok (.iconst 1, 1) := by decide +kernel
theorem dL_law_856 : decode cL_law 856 = .ok (.iadd, 1) := by decide +kernel
theorem dL_law_857 : decode cL_law 857 = .ok (.iaload, 1) := by decide +kernel
theorem dL_law_858 : decode cL_law 858 = .ok (.aload_n 0, 1) := by decide +kernel
theorem dL_law_859 : decode cL_law 859 = .ok (.iload 4, 2) := by decide +kernel
theorem dL_law_861 : decode cL_law 861 = .ok (.iconst 2, 1) := by decide +kernel
theorem dL_law_862 : decode cL_law 862 = .ok (.iadd, 1) := by decide +kernel
theorem dL_law_863 : decode cL_law 863 = .ok (.iaload, 1) := by decide +kernel
theorem dL_law_864 : decode cL_law 864 = .ok (.invokevirtual 118, 3) := by decide +kernel
theorem dL_law_867 : decode cL_law 867 = .ok (.aload_n 2, 1) := by decide +kernel
theorem dL_law_868 : decode cL_law 868 = .ok (.aload_n 0, 1) := by decide +kernel
theorem dL_law_869 : decode cL_law 869 = .ok (.iload 4, 2) := by decide +kernel
theorem dL_law_871 : decode cL_law 871 = .ok (.iconst 1, 1) := by decide +kernel
theorem dL_law_872 : decode cL_law 872 = .ok (.iadd, 1) := by decide +kernel
theorem dL_law_873 : decode cL_law 873 = .ok (.iaload, 1) := by decide +kernel
theorem dL_law_874 : decode cL_law 874 = .ok (.aload_n 0, 1) := by decide +kernel
theorem dL_law_875 : decode cL_law 875 = .ok (.iload 4, 2) := by decide +kernel
theorem dL_law_877 : decode cL_law 877 = .ok (.iconst 2, 1) := by decide +kernel
theorem dL_law_878 : decode cL_law 878 = .ok (.iadd, 1) := by decide +kernel
theorem dL_law_879 : decode cL_law 879 = .ok (.iaload, 1) := by decide +kernel
theorem dL_law_880 : decode cL_law 880 = .ok (.invokevirtual 121, 3) := by decide +kernel
theorem dL_law_883 : decode cL_law 883 = .ok (.if_icmp .eq 756, 3) := by decide +kernel
theorem dL_law_886 : decode cL_law 886 = .ok (.iconst 0, 1) := by decide +kernel
theorem dL_law_887 : decode cL_law 887 = .ok (.ireturn, 1) := by decide +kernel
theorem dL_law_888 : decode cL_law 888 = .ok (.aload_n 1, 1) := by decide +kernel
theorem dL_law_889 : decode cL_law 889 = .ok (.aload_n 0, 1) := by decide +kernel
theorem dL_law_890 : decode cL_law 890 = .ok (.iload 4, 2) := by decide +kernel
theorem dL_law_892 : decode cL_law 892 = .ok (.iconst 1, 1) := by decide +kernel
theorem dL_law_893 : decode cL_law 893 = .ok (.iadd, 1) := by decide +kernel
theorem dL_law_894 : decode cL_law 894 = .ok (.iaload, 1) := by decide +kernel
theorem dL_law_895 : decode cL_law 895 = .ok (.invokevirtual 122, 3) := by decide +kernel
theorem dL_law_898 : decode cL_law 898 = .ok (.aload_n 2, 1) := by decide +kernel
theorem dL_law_899 : decode cL_law 899 = .ok (.aload_n 0, 1) := by decide +kernel
theorem dL_law_900 : decode cL_law 900 = .ok (.iload 4, 2) := by decide +kernel
theorem dL_law_902 : decode cL_law 902 = .ok (.iconst 1, 1) := by decide +kernel
theorem dL_law_903 : decode cL_law 903 = .ok (.iadd, 1) := by decide +kernel
theorem dL_law_904 : decode cL_law 904 = .ok (.iaload, 1) := by decide +kernel
theorem dL_law_905 : decode cL_law 905 = .ok (.invokevirtual 125, 3) := by decide +kernel
theorem dL_law_908 : decode cL_law 908 = .ok (.if_icmp .eq 731, 3) := by decide +kernel
theorem dL_law_911 : decode cL_law 911 = .ok (.iconst 0, 1) := by decide +kernel
theorem dL_law_912 : decode cL_law 912 = .ok (.ireturn, 1) := by decide +kernel
theorem dL_law_913 : decode cL_law 913 = .ok (.aload_n 1, 1) := by decide +kernel
theorem dL_law_914 : decode cL_law 914 = .ok (.aload_n 0, 1) := by decide +kernel
theorem dL_law_915 : decode cL_law 915 = .ok (.iload 4, 2) := by decide +kernel
theorem dL_law_917 : decode cL_law 917 = .ok (.iconst 1, 1) := by decide +kernel
theorem dL_law_918 : decode cL_law 918 = .ok (.iadd, 1) := by decide +kernel
theorem dL_law_919 : decode cL_law 919 = .ok (.iaload, 1) := by decide +kernel
theorem dL_law_920 : decode cL_law 920 = .ok (.aload_n 0, 1) := by decide +kernel
theorem dL_law_921 : decode cL_law 921 = .ok (.iload 4, 2) := by decide +kernel
theorem dL_law_923 : decode cL_law 923 = .ok (.iconst 2, 1) := by decide +kernel
theorem dL_law_924 : decode cL_law 924 = .ok (.iadd, 1) := by decide +kernel
theorem dL_law_925 : decode cL_law 925 = .ok (.iaload, 1) := by decide +kernel
theorem dL_law_926 : decode cL_law 926 = .ok (.invokevirtual 126, 3) := by decide +kernel
theorem dL_law_929 : decode cL_law 929 = .ok (.aload_n 2, 1) := by decide +kernel
theorem dL_law_930 : decode cL_law 930 = .ok (.aload_n 0, 1) := by decide +kernel
theorem dL_law_931 : decode cL_law 931 = .ok (.iload 4, 2) := by decide +kernel
theorem dL_law_933 : decode cL_law 933 = .ok (.iconst 1, 1) := by decide +kernel
theorem dL_law_934 : decode cL_law 934 = .ok (.iadd, 1) := by decide +kernel
theorem dL_law_935 : decode cL_law 935 = .ok (.iaload, 1) := by decide +kernel
theorem dL_law_936 : decode cL_law 936 = .ok (.aload_n 0, 1) := by decide +kernel
theorem dL_law_937 : decode cL_law 937 = .ok (.iload 4, 2) := by decide +kernel
theorem dL_law_939 : decode cL_law 939 = .ok (.iconst 2, 1) := by decide +kernel
theorem dL_law_940 : decode cL_law 940 = .ok (.iadd, 1) := by decide +kernel
theorem dL_law_941 : decode cL_law 941 = .ok (.iaload, 1) := by decide +kernel
theorem dL_law_942 : decode cL_law 942 = .ok (.invokevirtual 129, 3) := by decide +kernel
theorem dL_law_945 : decode cL_law 945 = .ok (.if_icmp .eq 694, 3) := by decide +kernel
theorem dL_law_948 : decode cL_law 948 = .ok (.iconst 0, 1) := by decide +kernel
theorem dL_law_949 : decode cL_law 949 = .ok (.ireturn, 1) := by decide +kernel
theorem dL_law_950 : decode cL_law 950 = .ok (.aload_n 1, 1) := by decide +kernel
theorem dL_law_951 : decode cL_law 951 = .ok (.aload_n 0, 1) := by decide +kernel
theorem dL_law_952 : decode cL_law 952 = .ok (.iload 4, 2) := by decide +kernel
theorem dL_law_954 : decode cL_law 954 = .ok (.iconst 1, 1) := by decide +kernel
theorem dL_law_955 : decode cL_law 955 = .ok (.iadd, 1) := by decide +kernel
theorem dL_law_956 : decode cL_law 956 = .ok (.iaload, 1) := by decide +kernel
theorem dL_law_957 : decode cL_law 957 = .ok (.invokevirtual 130, 3) := by decide +kernel
theorem dL_law_960 : decode cL_law 960 = .ok (.aload_n 2, 1) := by decide +kernel
theorem dL_law_961 : decode cL_law 961 = .ok (.aload_n 0, 1) := by decide +kernel
theorem dL_law_962 : decode cL_law 962 = .ok (.iload 4, 2) := by decide +kernel
theorem dL_law_964 : decode cL_law 964 = .ok (.iconst 1, 1) := by decide +kernel
theorem dL_law_965 : decode cL_law 965 = .ok (.iadd, 1) := by decide +kernel
theorem dL_law_966 : decode cL_law 966 = .ok (.iaload, 1) := by decide +kernel
theorem dL_law_967 : decode cL_law 967 = .ok (.invokevirtual 133, 3) := by decide +kernel
theorem dL_law_970 : decode cL_law 970 = .ok (.if_icmp .eq 669, 3) := by decide +kernel
theorem dL_law_973 : decode cL_law 973 = .ok (.iconst 0, 1) := by decide +kernel
theorem dL_law_974 : decode cL_law 974 = .ok (.ireturn, 1) := by decide +kernel
theorem dL_law_975 : decode cL_law 975 = .ok (.aload_n 1, 1) := by decide +kernel
theorem dL_law_976 : decode cL_law 976 = .ok (.aload_n 0, 1) := by decide +kernel
theorem dL_law_977 : decode cL_law 977 = .ok (.iload 4, 2) := by decide +kernel
theorem dL_law_979 : decode cL_law 979 = .ok (.iconst 1, 1) := by decide +kernel
theorem dL_law_980 : decode cL_law 980 = .ok (.iadd, 1) := by decide +kernel
theorem dL_law_981 : decode cL_law 981 = .ok (.iaload, 1) := by decide +kernel
theorem dL_law_982 : decode cL_law 982 = .ok (.invokevirtual 134, 3) := by decide +kernel
theorem dL_law_985 : decode cL_law 985 = .ok (.aload_n 2, 1) := by decide +kernel
theorem dL_law_986 : decode cL_law 986 = .ok (.aload_n 0, 1) := by decide +kernel
theorem dL_law_987 : decode cL_law 987 = .ok (.iload 4, 2) := by decide +kernel
theorem dL_law_989 : decode cL_law 989 = .ok (.iconst 1, 1) := by decide +kernel
theorem dL_law_990 : decode cL_law 990 = .ok (.iadd, 1) := by decide +kernel
theorem dL_law_991 : decode cL_law 991 = .ok (.iaload, 1) := by decide +kernel
theorem dL_law_992 : decode cL_law 992 = .ok (.invokevirtual 137, 3) := by decide +kernel
theorem dL_law_995 : decode cL_law 995 = .ok (.if_icmp .eq 644, 3) := by decide +kernel
theorem dL_law_998 : decode cL_law 998 = .ok (.iconst 0, 1) := by decide +kernel
theorem dL_law_999 : decode cL_law 999 = .ok (.ireturn, 1) := by decide +kernel
theorem dL_law_1000 : decode cL_law 1000 = .ok (.aload_n 1, 1) := by decide +kernel
theorem dL_law_1001 : decode cL_law 1001 = .ok (.aload_n 0, 1) := by decide +kernel
theorem dL_law_1002 : decode cL_law 1002 = .ok (.iload 4, 2) := by decide +kernel
theorem dL_law_1004 : decode cL_law 1004 = .ok (.iconst 1, 1) := by decide +kernel
theorem dL_law_1005 : decode cL_law 1005 = .ok (.iadd, 1) := by decide +kernel
theorem dL_law_1006 : decode cL_law 1006 = .ok (.iaload, 1) := by decide +kernel
theorem dL_law_1007 : decode cL_law 1007 = .ok (.aload_n 0, 1) := by decide +kernel
theorem dL_law_1008 : decode cL_law 1008 = .ok (.iload 4, 2) := by decide +kernel
theorem dL_law_1010 : decode cL_law 1010 = .ok (.iconst 2, 1) := by decide +kernel
theorem dL_law_1011 : decode cL_law 1011 = .ok (.iadd, 1) := by decide +kernel
theorem dL_law_1012 : decode cL_law 1012 = .ok (.iaload, 1) := by decide +kernel
theorem dL_law_1013 : decode cL_law 1013 = .ok (.invokevirtual 138, 3) := by decide +kernel
theorem dL_law_1016 : decode cL_law 1016 = .ok (.aload_n 2, 1) := by decide +kernel
theorem dL_law_1017 : decode cL_law 1017 = .ok (.aload_n 0, 1) := by decide +kernel
theorem dL_law_1018 : decode cL_law 1018 = .ok (.iload 4, 2) := by decide +kernel
theorem dL_law_1020 : decode cL_law 1020 = .ok (.iconst 1, 1) := by decide +kernel
theorem dL_law_1021 : decode cL_law 1021 = .ok (.iadd, 1) := by decide +kernel
theorem dL_law_1022 : decode cL_law 1022 = .ok (.iaload, 1) := by decide +kernel
theorem dL_law_1023 : decode cL_law 1023 = .ok (.aload_n 0, 1) := by decide +kernel
theorem dL_law_1024 : decode cL_law 1024 = .ok (.iload 4, 2) := by decide +kernel
theorem dL_law_1026 : decode cL_law 1026 = .ok (.iconst 2, 1) := by decide +kernel
theorem dL_law_1027 : decode cL_law 1027 = .ok (.iadd, 1) := by decide +kernel
theorem dL_law_1028 : decode cL_law 1028 = .ok (.iaload, 1) := by decide +kernel
theorem dL_law_1029 : decode cL_law 1029 = .ok (.invokevirtual 141, 3) := by decide +kernel
theorem dL_law_1032 : decode cL_law 1032 = .ok (.if_icmp .eq 607, 3) := by decide +kernel
theorem dL_law_1035 : decode cL_law 1035 = .ok (.iconst 0, 1) := by decide +kernel
theorem dL_law_1036 : decode cL_law 1036 = .ok (.ireturn, 1) := by decide +kernel
theorem dL_law_1037 : decode cL_law 1037 = .ok (.aload_n 1, 1) := by decide +kernel
theorem dL_law_1038 : decode cL_law 1038 = .ok (.aload_n 0, 1) := by decide +kernel
theorem dL_law_1039 : decode cL_law 1039 = .ok (.iload 4, 2) := by decide +kernel
theorem dL_law_1041 : decode cL_law 1041 = .ok (.iconst 1, 1) := by decide +kernel
theorem dL_law_1042 : decode cL_law 1042 = .ok (.iadd, 1) := by decide +kernel
theorem dL_law_1043 : decode cL_law 1043 = .ok (.iaload, 1) := by decide +kernel
theorem dL_law_1044 : decode cL_law 1044 = .ok (.invokevirtual 142, 3) := by decide +kernel
theorem dL_law_1047 : decode cL_law 1047 = .ok (.aload_n 2, 1) := by decide +kernel
theorem dL_law_1048 : decode cL_law 1048 = .ok (.aload_n 0, 1) := by decide +kernel
theorem dL_law_1049 : decode cL_law 1049 = .ok (.iload 4, 2) := by decide +kernel
theorem dL_law_1051 : decode cL_law 1051 = .ok (.iconst 1, 1) := by decide +kernel
theorem dL_law_1052 : decode cL_law 1052 = .ok (.iadd, 1) := by decide +kernel
theorem dL_law_1053 : decode cL_law 1053 = .ok (.iaload, 1) := by decide +kernel
theorem dL_law_1054 : decode cL_law 1054 = .ok (.invokevirtual 145, 3) := by decide +kernel
theorem dL_law_1057 : decode cL_law 1057 = .ok (.if_icmp .eq 582, 3) := by decide +kernel
theorem dL_law_1060 : decode cL_law 1060 = .ok (.iconst 0, 1) := by decide +kernel
theorem dL_law_1061 : decode cL_law 1061 = .ok (.ireturn, 1) := by decide +kernel
theorem dL_law_1062 : decode cL_law 1062 = .ok (.aload_n 1, 1) := by decide +kernel
theorem dL_law_1063 : decode cL_law 1063 = .ok (.aload_n 0, 1) := by decide +kernel
theorem dL_law_1064 : decode cL_law 1064 = .ok (.iload 4, 2) := by decide +kernel
theorem dL_law_1066 : decode cL_law 1066 = .ok (.iconst 1, 1) := by decide +kernel
theorem dL_law_1067 : decode cL_law 1067 = .ok (.iadd, 1) := by decide +kernel
theorem dL_law_1068 : decode cL_law 1068 = .ok (.iaload, 1) := by decide +kernel
theorem dL_law_1069 : decode cL_law 1069 = .ok (.aload_n 0, 1) := by decide +kernel
theorem dL_law_1070 : decode cL_law 1070 = .ok (.iload 4, 2) := by decide +kernel
theorem dL_law_1072 : decode cL_law 1072 = .ok (.iconst 2, 1) := by decide +kernel
theorem dL_law_1073 : decode cL_law 1073 = .ok (.iadd, 1) := by decide +kernel
theorem dL_law_1074 : decode cL_law 1074 = .ok (.iaload, 1) := by decide +kernel
theorem dL_law_1075 : decode cL_law 1075 = .ok (.invokevirtual 146, 3) := by decide +kernel
theorem dL_law_1078 : decode cL_law 1078 = .ok (.aload_n 2, 1) := by decide +kernel
theorem dL_law_1079 : decode cL_law 1079 = .ok (.aload_n 0, 1) := by decide +kernel
theorem dL_law_1080 : decode cL_law 1080 = .ok (.iload 4, 2) := by decide +kernel
theorem dL_law_1082 : decode cL_law 1082 = .ok (.iconst 1, 1) := by decide +kernel
theorem dL_law_1083 : decode cL_law 1083 = .ok (.iadd, 1) := by decide +kernel
theorem dL_law_1084 : decode cL_law 1084 = .ok (.iaload, 1) := by decide +kernel
theorem dL_law_1085 : decode cL_law 1085 = .ok (.aload_n 0, 1) := by decide +kernel
theorem dL_law_1086 : decode cL_law 1086 = .ok (.iload 4, 2) := by decide +kernel
theorem dL_law_1088 : decode cL_law 1088 = .ok (.iconst 2, 1) := by decide +kernel
theorem dL_law_1089 : decode cL_law 1089 = .ok (.iadd, 1) := by decide +kernel
theorem dL_law_1090 : decode cL_law 1090 = .ok (.iaload, 1) := by decide +kernel
theorem dL_law_1091 : decode cL_law 1091 = .ok (.invokevirtual 149, 3) := by decide +kernel
theorem dL_law_1094 : decode cL_law 1094 = .ok (.if_icmp .eq 545, 3) := by decide +kernel
theorem dL_law_1097 : decode cL_law 1097 = .ok (.iconst 0, 1) := by decide +kernel
theorem dL_law_1098 : decode cL_law 1098 = .ok (.ireturn, 1) := by decide +kernel
theorem dL_law_1099 : decode cL_law 1099 = .ok (.aload_n 1, 1) := by decide +kernel
theorem dL_law_1100 : decode cL_law 1100 = .ok (.aload_n 0, 1) := by decide +kernel
theorem dL_law_1101 : decode cL_law 1101 = .ok (.iload 4, 2) := by decide +kernel
theorem dL_law_1103 : decode cL_law 1103 = .ok (.iconst 1, 1) := by decide +kernel
theorem dL_law_1104 : decode cL_law 1104 = .ok (.iadd, 1) := by decide +kernel
theorem dL_law_1105 : decode cL_law 1105 = .ok (.iaload, 1) := by decide +kernel
theorem dL_law_1106 : decode cL_law 1106 = .ok (.aload_n 0, 1) := by decide +kernel
theorem dL_law_1107 : decode cL_law 1107 = .ok (.iload 4, 2) := by decide +kernel
theorem dL_law_1109 : decode cL_law 1109 = .ok (.iconst 2, 1) := by decide +kernel
theorem dL_law_1110 : decode cL_law 1110 = .ok (.iadd, 1) := by decide +kernel
theorem dL_law_1111 : decode cL_law 1111 = .ok (.iaload, 1) := by decide +kernel
theorem dL_law_1112 : decode cL_law 1112 = .ok (.invokevirtual 150, 3) := by decide +kernel
theorem dL_law_1115 : decode cL_law 1115 = .ok (.aload_n 2, 1) := by decide +kernel
theorem dL_law_1116 : decode cL_law 1116 = .ok (.aload_n 0, 1) := by decide +kernel
theorem dL_law_1117 : decode cL_law 1117 = .ok (.iload 4, 2) := by decide +kernel
theorem dL_law_1119 : decode cL_law 1119 = .ok (.iconst 1, 1) := by decide +kernel
theorem dL_law_1120 : decode cL_law 1120 = .ok (.iadd, 1) := by decide +kernel
theorem dL_law_1121 : decode cL_law 1121 = .ok (.iaload, 1) := by decide +kernel
theorem dL_law_1122 : decode cL_law 1122 = .ok (.aload_n 0, 1) := by decide +kernel
theorem dL_law_1123 : decode cL_law 1123 = .ok (.iload 4, 2) := by decide +kernel
theorem dL_law_1125 : decode cL_law 1125 = .ok (.iconst 2, 1) := by decide +kernel
theorem dL_law_1126 : decode cL_law 1126 = .ok (.iadd, 1) := by decide +kernel
theorem dL_law_1127 : decode cL_law 1127 = .ok (.iaload, 1) := by decide +kernel
theorem dL_law_1128 : decode cL_law 1128 = .ok (.invokevirtual 153, 3) := by decide +kernel
theorem dL_law_1131 : decode cL_law 1131 = .ok (.if_icmp .eq 508, 3) := by decide +kernel
theorem dL_law_1134 : decode cL_law 1134 = .ok (.iconst 0, 1) := by decide +kernel
theorem dL_law_1135 : decode cL_law 1135 = .ok (.ireturn, 1) := by decide +kernel
theorem dL_law_1136 : decode cL_law 1136 = .ok (.aload_n 1, 1) := by decide +kernel
theorem dL_law_1137 : decode cL_law 1137 = .ok (.aload_n 0, 1) := by decide +kernel
theorem dL_law_1138 : decode cL_law 1138 = .ok (.iload 4, 2) := by decide +kernel
theorem dL_law_1140 : decode cL_law 1140 = .ok (.iconst 1, 1) := by decide +kernel
theorem dL_law_1141 : decode cL_law 1141 = .ok (.iadd, 1) := by decide +kernel
theorem dL_law_1142 : decode cL_law 1142 = .ok (.iaload, 1) := by decide +kernel
theorem dL_law_1143 : decode cL_law 1143 = .ok (.invokevirtual 154, 3) := by decide +kernel
theorem dL_law_1146 : decode cL_law 1146 = .ok (.aload_n 2, 1) := by decide +kernel
theorem dL_law_1147 : decode cL_law 1147 = .ok (.aload_n 0, 1) := by decide +kernel
theorem dL_law_1148 : decode cL_law 1148 = .ok (.iload 4, 2) := by decide +kernel
theorem dL_law_1150 : decode cL_law 1150 = .ok (.iconst 1, 1) := by decide +kernel
theorem dL_law_1151 : decode cL_law 1151 = .ok (.iadd, 1) := by decide +kernel
theorem dL_law_1152 : decode cL_law 1152 = .ok (.iaload, 1) := by decide +kernel
theorem dL_law_1153 : decode cL_law 1153 = .ok (.invokevirtual 157, 3) := by decide +kernel
theorem dL_law_1156 : decode cL_law 1156 = .ok (.if_icmp .eq 483, 3) := by decide +kernel
theorem dL_law_1159 : decode cL_law 1159 = .ok (.iconst 0, 1) := by decide +kernel
theorem dL_law_1160 : decode cL_law 1160 = .ok (.ireturn, 1) := by decide +kernel
theorem dL_law_1161 : decode cL_law 1161 = .ok (.aload_n 1, 1) := by decide +kernel
theorem dL_law_1162 : decode cL_law 1162 = .ok (.invokevirtual 158, 3) := by decide +kernel
theorem dL_law_1165 : decode cL_law 1165 = .ok (.aload_n 2, 1) := by decide +kernel
theorem dL_law_1166 : decode cL_law 1166 = .ok (.invokevirtual 161, 3) := by decide +kernel
theorem dL_law_1169 : decode cL_law 1169 = .ok (.if_icmp .eq 470, 3) := by decide +kernel
theorem dL_law_1172 : decode cL_law 1172 = .ok (.iconst 0, 1) := by decide +kernel
theorem dL_law_1173 : decode cL_law 1173 = .ok (.ireturn, 1) := by decide +kernel
theorem dL_law_1174 : decode cL_law 1174 = .ok (.aload_n 1, 1) := by decide +kernel
theorem dL_law_1175 : decode cL_law 1175 = .ok (.invokevirtual 162, 3) := by decide +kernel
theorem dL_law_1178 : decode cL_law 1178 = .ok (.aload_n 2, 1) := by decide +kernel
theorem dL_law_1179 : decode cL_law 1179 = .ok (.invokevirtual 165, 3) := by decide +kernel
theorem dL_law_1182 : decode cL_law 1182 = .ok (.if_icmp .eq 457, 3) := by decide +kernel
theorem dL_law_1185 : decode cL_law 1185 = .ok (.iconst 0, 1) := by decide +kernel
theorem dL_law_1186 : decode cL_law 1186 = .ok (.ireturn, 1) := by decide +kernel
theorem dL_law_1187 : decode cL_law 1187 = .ok (.aload_n 1, 1) := by decide +kernel
theorem dL_law_1188 : decode cL_law 1188 = .ok (.invokevirtual 166, 3) := by decide +kernel
theorem dL_law_1191 : decode cL_law 1191 = .ok (.aload_n 2, 1) := by decide +kernel
theorem dL_law_1192 : decode cL_law 1192 = .ok (.invokevirtual 169, 3) := by decide +kernel
theorem dL_law_1195 : decode cL_law 1195 = .ok (.if_icmp .eq 444, 3) := by decide +kernel
theorem dL_law_1198 : decode cL_law 1198 = .ok (.iconst 0, 1) := by decide +kernel
theorem dL_law_1199 : decode cL_law 1199 = .ok (.ireturn, 1) := by decide +kernel
theorem dL_law_1200 : decode cL_law 1200 = .ok (.aload_n 1, 1) := by decide +kernel
theorem dL_law_1201 : decode cL_law 1201 = .ok (.aload_n 0, 1) := by decide +kernel
theorem dL_law_1202 : decode cL_law 1202 = .ok (.iload 4, 2) := by decide +kernel
theorem dL_law_1204 : decode cL_law 1204 = .ok (.iconst 1, 1) := by decide +kernel
theorem dL_law_1205 : decode cL_law 1205 = .ok (.iadd, 1) := by decide +kernel
theorem dL_law_1206 : decode cL_law 1206 = .ok (.iaload, 1) := by decide +kernel
theorem dL_law_1207 : decode cL_law 1207 = .ok (.invokevirtual 170, 3) := by decide +kernel
theorem dL_law_1210 : decode cL_law 1210 = .ok (.aload_n 2, 1) := by decide +kernel
theorem dL_law_1211 : decode cL_law 1211 = .ok (.aload_n 0, 1) := by decide +kernel
theorem dL_law_1212 : decode cL_law 1212 = .ok (.iload 4, 2) := by decide +kernel
theorem dL_law_1214 : decode cL_law 1214 = .ok (.iconst 1, 1) := by decide +kernel
theorem dL_law_1215 : decode cL_law 1215 = .ok (.iadd, 1) := by decide +kernel
theorem dL_law_1216 : decode cL_law 1216 = .ok (.iaload, 1) := by decide +kernel
theorem dL_law_1217 : decode cL_law 1217 = .ok (.invokevirtual 173, 3) := by decide +kernel
theorem dL_law_1220 : decode cL_law 1220 = .ok (.if_icmp .eq 419, 3) := by decide +kernel
theorem dL_law_1223 : decode cL_law 1223 = .ok (.iconst 0, 1) := by decide +kernel
theorem dL_law_1224 : decode cL_law 1224 = .ok (.ireturn, 1) := by decide +kernel
theorem dL_law_1225 : decode cL_law 1225 = .ok (.aload_n 1, 1) := by decide +kernel
theorem dL_law_1226 : decode cL_law 1226 = .ok (.invokevirtual 174, 3) := by decide +kernel
theorem dL_law_1229 : decode cL_law 1229 = .ok (.aload_n 2, 1) := by decide +kernel
theorem dL_law_1230 : decode cL_law 1230 = .ok (.invokevirtual 177, 3) := by decide +kernel
theorem dL_law_1233 : decode cL_law 1233 = .ok (.if_icmp .eq 406, 3) := by decide +kernel
theorem dL_law_1236 : decode cL_law 1236 = .ok (.iconst 0, 1) := by decide +kernel
theorem dL_law_1237 : decode cL_law 1237 = .ok (.ireturn, 1) := by decide +kernel
theorem dL_law_1238 : decode cL_law 1238 = .ok (.aload_n 1, 1) := by decide +kernel
theorem dL_law_1239 : decode cL_law 1239 = .ok (.aload_n 0, 1) := by decide +kernel
theorem dL_law_1240 : decode cL_law 1240 = .ok (.iload 4, 2) := by decide +kernel
theorem dL_law_1242 : decode cL_law 1242 = .ok (.iconst 1, 1) := by decide +kernel
theorem dL_law_1243 : decode cL_law 1243 = .ok (.iadd, 1) := by decide +kernel
theorem dL_law_1244 : decode cL_law 1244 = .ok (.iaload, 1) := by decide +kernel
theorem dL_law_1245 : decode cL_law 1245 = .ok (.invokevirtual 178, 3) := by decide +kernel
theorem dL_law_1248 : decode cL_law 1248 = .ok (.aload_n 2, 1) := by decide +kernel
theorem dL_law_1249 : decode cL_law 1249 = .ok (.aload_n 0, 1) := by decide +kernel
theorem dL_law_1250 : decode cL_law 1250 = .ok (.iload 4, 2) := by decide +kernel
theorem dL_law_1252 : decode cL_law 1252 = .ok (.iconst 1, 1) := by decide +kernel
theorem dL_law_1253 : decode cL_law 1253 = .ok (.iadd, 1) := by decide +kernel
theorem dL_law_1254 : decode cL_law 1254 = .ok (.iaload, 1) := by decide +kernel
theorem dL_law_1255 : decode cL_law 1255 = .ok (.invokevirtual 181, 3) := by decide +kernel
theorem dL_law_1258 : decode cL_law 1258 = .ok (.if_icmp .eq 381, 3) := by decide +kernel
theorem dL_law_1261 : decode cL_law 1261 = .ok (.iconst 0, 1) := by decide +kernel
theorem dL_law_1262 : decode cL_law 1262 = .ok (.ireturn, 1) := by decide +kernel
theorem dL_law_1263 : decode cL_law 1263 = .ok (.aload_n 1, 1) := by decide +kernel
theorem dL_law_1264 : decode cL_law 1264 = .ok (.aload_n 0, 1) := by decide +kernel
theorem dL_law_1265 : decode cL_law 1265 = .ok (.iload 4, 2) := by decide +kernel
theorem dL_law_1267 : decode cL_law 1267 = .ok (.iconst 1, 1) := by decide +kernel
theorem dL_law_1268 : decode cL_law 1268 = .ok (.iadd, 1) := by decide +kernel
theorem dL_law_1269 : decode cL_law 1269 = .ok (.iaload, 1) := by decide +kernel
theorem dL_law_1270 : decode cL_law 1270 = .ok (.aload_n 0, 1) := by decide +kernel
theorem dL_law_1271 : decode cL_law 1271 = .ok (.iload 4, 2) := by decide +kernel
theorem dL_law_1273 : decode cL_law 1273 = .ok (.iconst 2, 1) := by decide +kernel
theorem dL_law_1274 : decode cL_law 1274 = .ok (.iadd, 1) := by decide +kernel
theorem dL_law_1275 : decode cL_law 1275 = .ok (.iaload, 1) := by decide +kernel
theorem dL_law_1276 : decode cL_law 1276 = .ok (.aload_n 0, 1) := by decide +kernel
theorem dL_law_1277 : decode cL_law 1277 = .ok (.iload 4, 2) := by decide +kernel
theorem dL_law_1279 : decode cL_law 1279 = .ok (.iconst 3, 1) := by decide +kernel
theorem dL_law_1280 : decode cL_law 1280 = .ok (.iadd, 1) := by decide +kernel
theorem dL_law_1281 : decode cL_law 1281 = .ok (.iaload, 1) := by decide +kernel
theorem dL_law_1282 : decode cL_law 1282 = .ok (.invokevirtual 182, 3) := by decide +kernel
theorem dL_law_1285 : decode cL_law 1285 = .ok (.aload_n 2, 1) := by decide +kernel
theorem dL_law_1286 : decode cL_law 1286 = .ok (.aload_n 0, 1) := by decide +kernel
theorem dL_law_1287 : decode cL_law 1287 = .ok (.iload 4, 2) := by decide +kernel
theorem dL_law_1289 : decode cL_law 1289 = .ok (.iconst 1, 1) := by decide +kernel
theorem dL_law_1290 : decode cL_law 1290 = .ok (.iadd, 1) := by decide +kernel
theorem dL_law_1291 : decode cL_law 1291 = .ok (.iaload, 1) := by decide +kernel
theorem dL_law_1292 : decode cL_law 1292 = .ok (.aload_n 0, 1) := by decide +kernel
theorem dL_law_1293 : decode cL_law 1293 = .ok (.iload 4, 2) := by decide +kernel
theorem dL_law_1295 : decode cL_law 1295 = .ok (.iconst 2, 1) := by decide +kernel
theorem dL_law_1296 : decode cL_law 1296 = .ok (.iadd, 1) := by decide +kernel
theorem dL_law_1297 : decode cL_law 1297 = .ok (.iaload, 1) := by decide +kernel
theorem dL_law_1298 : decode cL_law 1298 = .ok (.aload_n 0, 1) := by decide +kernel
theorem dL_law_1299 : decode cL_law 1299 = .ok (.iload 4, 2) := by decide +kernel
theorem dL_law_1301 : decode cL_law 1301 = .ok (.iconst 3, 1) := by decide +kernel
theorem dL_law_1302 : decode cL_law 1302 = .ok (.iadd, 1) := by decide +kernel
theorem dL_law_1303 : decode cL_law 1303 = .ok (.iaload, 1) := by decide +kernel
theorem dL_law_1304 : decode cL_law 1304 = .ok (.invokevirtual 186, 3) := by decide +kernel
theorem dL_law_1307 : decode cL_law 1307 = .ok (.if_icmp .eq 332, 3) := by decide +kernel
theorem dL_law_1310 : decode cL_law 1310 = .ok (.iconst 0, 1) := by decide +kernel
theorem dL_law_1311 : decode cL_law 1311 = .ok (.ireturn, 1) := by decide +kernel
theorem dL_law_1312 : decode cL_law 1312 = .ok (.aload_n 1, 1) := by decide +kernel
theorem dL_law_1313 : decode cL_law 1313 = .ok (.aload_n 0, 1) := by decide +kernel
theorem dL_law_1314 : decode cL_law 1314 = .ok (.iload 4, 2) := by decide +kernel
theorem dL_law_1316 : decode cL_law 1316 = .ok (.iconst 1, 1) := by decide +kernel
theorem dL_law_1317 : decode cL_law 1317 = .ok (.iadd, 1) := by decide +kernel
theorem dL_law_1318 : decode cL_law 1318 = .ok (.iaload, 1) := by decide +kernel
theorem dL_law_1319 : decode cL_law 1319 = .ok (.aload_n 0, 1) := by decide +kernel
theorem dL_law_1320 : decode cL_law 1320 = .ok (.iload 4, 2) := by decide +kernel
theorem dL_law_1322 : decode cL_law 1322 = .ok (.iconst 2, 1) := by decide +kernel
theorem dL_law_1323 : decode cL_law 1323 = .ok (.iadd, 1) := by decide +kernel
theorem dL_law_1324 : decode cL_law 1324 = .ok (.iaload, 1) := by decide +kernel
theorem dL_law_1325 : decode cL_law 1325 = .ok (.aload_n 0, 1) := by decide +kernel
theorem dL_law_1326 : decode cL_law 1326 = .ok (.iload 4, 2) := by decide +kernel
theorem dL_law_1328 : decode cL_law 1328 = .ok (.iconst 3, 1) := by decide +kernel
theorem dL_law_1329 : decode cL_law 1329 = .ok (.iadd, 1) := by decide +kernel
theorem dL_law_1330 : decode cL_law 1330 = .ok (.iaload, 1) := by decide +kernel
theorem dL_law_1331 : decode cL_law 1331 = .ok (.invokevirtual 187, 3) := by decide +kernel
theorem dL_law_1334 : decode cL_law 1334 = .ok (.aload_n 2, 1) := by decide +kernel
theorem dL_law_1335 : decode cL_law 1335 = .ok (.aload_n 0, 1) := by decide +kernel
theorem dL_law_1336 : decode cL_law 1336 = .ok (.iload 4, 2) := by decide +kernel
theorem dL_law_1338 : decode cL_law 1338 = .ok (.iconst 1, 1) := by decide +kernel
theorem dL_law_1339 : decode cL_law 1339 = .ok (.iadd, 1) := by decide +kernel
theorem dL_law_1340 : decode cL_law 1340 = .ok (.iaload, 1) := by decide +kernel
theorem dL_law_1341 : decode cL_law 1341 = .ok (.aload_n 0, 1) := by decide +kernel
theorem dL_law_1342 : decode cL_law 1342 = .ok (.iload 4, 2) := by decide +kernel
theorem dL_law_1344 : decode cL_law 1344 = .ok (.iconst 2, 1) := by decide +kernel
theorem dL_law_1345 : decode cL_law 1345 = .ok (.iadd, 1) := by decide +kernel
theorem dL_law_1346 : decode cL_law 1346 = .ok (.iaload, 1) := by decide +kernel
theorem dL_law_1347 : decode cL_law 1347 = .ok (.aload_n 0, 1) := by decide +kernel
theorem dL_law_1348 : decode cL_law 1348 = .ok (.iload 4, 2) := by decide +kernel
theorem dL_law_1350 : decode cL_law 1350 = .ok (.iconst 3, 1) := by decide +kernel
theorem dL_law_1351 : decode cL_law 1351 = .ok (.iadd, 1) := by decide +kernel
theorem dL_law_1352 : decode cL_law 1352 = .ok (.iaload, 1) := by decide +kernel
theorem dL_law_1353 : decode cL_law 1353 = .ok (.invokevirtual 190, 3) := by decide +kernel
theorem dL_law_1356 : decode cL_law 1356 = .ok (.if_icmp .eq 283, 3) := by decide +kernel
theorem dL_law_1359 : decode cL_law 1359 = .ok (.iconst 0, 1) := by decide +kernel
theorem dL_law_1360 : decode cL_law 1360 = .ok (.ireturn, 1) := by decide +kernel
theorem dL_law_1361 : decode cL_law 1361 = .ok (.aload_n 1, 1) := by decide +kernel
theorem dL_law_1362 : decode cL_law 1362 = .ok (.aload_n 0, 1) := by decide +kernel
theorem dL_law_1363 : decode cL_law 1363 = .ok (.iload 4, 2) := by decide +kernel
theorem dL_law_1365 : decode cL_law 1365 = .ok (.iconst 1, 1) := by decide +kernel
theorem dL_law_1366 : decode cL_law 1366 = .ok (.iadd, 1) := by decide +kernel
theorem dL_law_1367 : decode cL_law 1367 = .ok (.iaload, 1) := by decide +kernel
theorem dL_law_1368 : decode cL_law 1368 = .ok (.aload_n 0, 1) := by decide +kernel
theorem dL_law_1369 : decode cL_law 1369 = .ok (.iload 4, 2) := by decide +kernel
theorem dL_law_1371 : decode cL_law 1371 = .ok (.iconst 2, 1) := by decide +kernel
theorem dL_law_1372 : decode cL_law 1372 = .ok (.iadd, 1) := by decide +kernel
theorem dL_law_1373 : decode cL_law 1373 = .ok (.iaload, 1) := by decide +kernel
theorem dL_law_1374 : decode cL_law 1374 = .ok (.invokevirtual 191, 3) := by decide +kernel
theorem dL_law_1377 : decode cL_law 1377 = .ok (.aload_n 2, 1) := by decide +kernel
theorem dL_law_1378 : decode cL_law 1378 = .ok (.aload_n 0, 1) := by decide +kernel
theorem dL_law_1379 : decode cL_law 1379 = .ok (.iload 4, 2) := by decide +kernel
theorem dL_law_1381 : decode cL_law 1381 = .ok (.iconst 1, 1) := by decide +kernel
theorem dL_law_1382 : decode cL_law 1382 = .ok (.iadd, 1) := by decide +kernel
theorem dL_law_1383 : decode cL_law 1383 = .ok (.iaload, 1) := by decide +kernel
theorem dL_law_1384 : decode cL_law 1384 = .ok (.aload_n 0, 1) := by decide +kernel
theorem dL_law_1385 : decode cL_law 1385 = .ok (.iload 4, 2) := by decide +kernel
theorem dL_law_1387 : decode cL_law 1387 = .ok (.iconst 2, 1) := by decide +kernel
theorem dL_law_1388 : decode cL_law 1388 = .ok (.iadd, 1) := by decide +kernel
theorem dL_law_1389 : decode cL_law 1389 = .ok (.iaload, 1) := by decide +kernel
theorem dL_law_1390 : decode cL_law 1390 = .ok (.invokevirtual 194, 3) := by decide +kernel
theorem dL_law_1393 : decode cL_law 1393 = .ok (.if_icmp .eq 246, 3) := by decide +kernel
theorem dL_law_1396 : decode cL_law 1396 = .ok (.iconst 0, 1) := by decide +kernel
theorem dL_law_1397 : decode cL_law 1397 = .ok (.ireturn, 1) := by decide +kernel
theorem dL_law_1398 : decode cL_law 1398 = .ok (.aload_n 1, 1) := by decide +kernel
theorem dL_law_1399 : decode cL_law 1399 = .ok (.aload_n 0, 1) := by decide +kernel
theorem dL_law_1400 : decode cL_law 1400 = .ok (.iload 4, 2) := by decide +kernel
theorem dL_law_1402 : decode cL_law 1402 = .ok (.iconst 1, 1) := by decide +kernel
theorem dL_law_1403 : decode cL_law 1403 = .ok (.iadd, 1) := by decide +kernel
theorem dL_law_1404 : decode cL_law 1404 = .ok (.iaload, 1) := by decide +kernel
theorem dL_law_1405 : decode cL_law 1405 = .ok (.aload_n 0, 1) := by decide +kernel
theorem dL_law_1406 : decode cL_law 1406 = .ok (.iload 4, 2) := by decide +kernel
theorem dL_law_1408 : decode cL_law 1408 = .ok (.iconst 2, 1) := by decide +kernel
theorem dL_law_1409 : decode cL_law 1409 = .ok (.iadd, 1) := by decide +kernel
theorem dL_law_1410 : decode cL_law 1410 = .ok (.iaload, 1) := by decide +kernel
theorem dL_law_1411 : decode cL_law 1411 = .ok (.invokevirtual 195, 3) := by decide +kernel
theorem dL_law_1414 : decode cL_law 1414 = .ok (.aload_n 2, 1) := by decide +kernel
theorem dL_law_1415 : decode cL_law 1415 = .ok (.aload_n 0, 1) := by decide +kernel
theorem dL_law_1416 : decode cL_law 1416 = .ok (.iload 4, 2) := by decide +kernel
theorem dL_law_1418 : decode cL_law 1418 = .ok (.iconst 1, 1) := by decide +kernel
theorem dL_law_1419 : decode cL_law 1419 = .ok (.iadd, 1) := by decide +kernel
theorem dL_law_1420 : decode cL_law 1420 = .ok (.iaload, 1) := by decide +kernel
theorem dL_law_1421 : decode cL_law 1421 = .ok (.aload_n 0, 1) := by decide +kernel
theorem dL_law_1422 : decode cL_law 1422 = .ok (.iload 4, 2) := by decide +kernel
theorem dL_law_1424 : decode cL_law 1424 = .ok (.iconst 2, 1) := by decide +kernel
theorem dL_law_1425 : decode cL_law 1425 = .ok (.iadd, 1) := by decide +kernel
theorem dL_law_1426 : decode cL_law 1426 = .ok (.iaload, 1) := by decide +kernel
theorem dL_law_1427 : decode cL_law 1427 = .ok (.invokevirtual 198, 3) := by decide +kernel
theorem dL_law_1430 : decode cL_law 1430 = .ok (.if_icmp .eq 209, 3) := by decide +kernel
theorem dL_law_1433 : decode cL_law 1433 = .ok (.iconst 0, 1) := by decide +kernel
theorem dL_law_1434 : decode cL_law 1434 = .ok (.ireturn, 1) := by decide +kernel
theorem dL_law_1435 : decode cL_law 1435 = .ok (.aload_n 1, 1) := by decide +kernel
theorem dL_law_1436 : decode cL_law 1436 = .ok (.aload_n 0, 1) := by decide +kernel
theorem dL_law_1437 : decode cL_law 1437 = .ok (.iload 4, 2) := by decide +kernel
theorem dL_law_1439 : decode cL_law 1439 = .ok (.iconst 1, 1) := by decide +kernel
theorem dL_law_1440 : decode cL_law 1440 = .ok (.iadd, 1) := by decide +kernel
theorem dL_law_1441 : decode cL_law 1441 = .ok (.iaload, 1) := by decide +kernel
theorem dL_law_1442 : decode cL_law 1442 = .ok (.aload_n 0, 1) := by decide +kernel
theorem dL_law_1443 : decode cL_law 1443 = .ok (.iload 4, 2) := by decide +kernel
theorem dL_law_1445 : decode cL_law 1445 = .ok (.iconst 2, 1) := by decide +kernel
theorem dL_law_1446 : decode cL_law 1446 = .ok (.iadd, 1) := by decide +kernel
theorem dL_law_1447 : decode cL_law 1447 = .ok (.iaload, 1) := by decide +kernel
theorem dL_law_1448 : decode cL_law 1448 = .ok (.invokevirtual 199, 3) := by decide +kernel
theorem dL_law_1451 : decode cL_law 1451 = .ok (.aload_n 2, 1) := by decide +kernel
theorem dL_law_1452 : decode cL_law 1452 = .ok (.aload_n 0, 1) := by decide +kernel
theorem dL_law_1453 : decode cL_law 1453 = .ok (.iload 4, 2) := by decide +kernel
theorem dL_law_1455 : decode cL_law 1455 = .ok (.iconst 1, 1) := by decide +kernel
theorem dL_law_1456 : decode cL_law 1456 = .ok (.iadd, 1) := by decide +kernel
theorem dL_law_1457 : decode cL_law 1457 = .ok (.iaload, 1) := by decide +kernel
theorem dL_law_1458 : decode cL_law 1458 = .ok (.aload_n 0, 1) := by decide +kernel
theorem dL_law_1459 : decode cL_law 1459 = .ok (.iload 4, 2) := by decide +kernel
theorem dL_law_1461 : decode cL_law 1461 = .ok (.iconst 2, 1) := by decide +kernel
theorem dL_law_1462 : decode cL_law 1462 = .ok (.iadd, 1) := by decide +kernel
theorem dL_law_1463 : decode cL_law 1463 = .ok (.iaload, 1) := by decide +kernel
theorem dL_law_1464 : decode cL_law 1464 = .ok (.invokevirtual 202, 3) := by decide +kernel
theorem dL_law_1467 : decode cL_law 1467 = .ok (.if_icmp .eq 172, 3) := by decide +kernel
theorem dL_law_1470 : decode cL_law 1470 = .ok (.iconst 0, 1) := by decide +kernel
theorem dL_law_1471 : decode cL_law 1471 = .ok (.ireturn, 1) := by decide +kernel
theorem dL_law_1472 : decode cL_law 1472 = .ok (.aload_n 1, 1) := by decide +kernel
theorem dL_law_1473 : decode cL_law 1473 = .ok (.aload_n 0, 1) := by decide +kernel
theorem dL_law_1474 : decode cL_law 1474 = .ok (.iload 4, 2) := by decide +kernel
theorem dL_law_1476 : decode cL_law 1476 = .ok (.iconst 1, 1) := by decide +kernel
theorem dL_law_1477 : decode cL_law 1477 = .ok (.iadd, 1) := by decide +kernel
theorem dL_law_1478 : decode cL_law 1478 = .ok (.iaload, 1) := by decide +kernel
theorem dL_law_1479 : decode cL_law 1479 = .ok (.aload_n 0, 1) := by decide +kernel
theorem dL_law_1480 : decode cL_law 1480 = .ok (.iload 4, 2) := by decide +kernel
theorem dL_law_1482 : decode cL_law 1482 = .ok (.iconst 2, 1) := by decide +kernel
theorem dL_law_1483 : decode cL_law 1483 = .ok (.iadd, 1) := by decide +kernel
theorem dL_law_1484 : decode cL_law 1484 = .ok (.iaload, 1) := by decide +kernel
theorem dL_law_1485 : decode cL_law 1485 = .ok (.invokevirtual 203, 3) := by decide +kernel
theorem dL_law_1488 : decode cL_law 1488 = .ok (.aload_n 2, 1) := by decide +kernel
theorem dL_law_1489 : decode cL_law 1489 = .ok (.aload_n 0, 1) := by decide +kernel
theorem dL_law_1490 : decode cL_law 1490 = .ok (.iload 4, 2) := by decide +kernel
theorem dL_law_1492 : decode cL_law 1492 = .ok (.iconst 1, 1) := by decide +kernel
theorem dL_law_1493 : decode cL_law 1493 = .ok (.iadd, 1) := by decide +kernel
theorem dL_law_1494 : decode cL_law 1494 = .ok (.iaload, 1) := by decide +kernel
theorem dL_law_1495 : decode cL_law 1495 = .ok (.aload_n 0, 1) := by decide +kernel
theorem dL_law_1496 : decode cL_law 1496 = .ok (.iload 4, 2) := by decide +kernel
theorem dL_law_1498 : decode cL_law 1498 = .ok (.iconst 2, 1) := by decide +kernel
theorem dL_law_1499 : decode cL_law 1499 = .ok (.iadd, 1) := by decide +kernel
theorem dL_law_1500 : decode cL_law 1500 = .ok (.iaload, 1) := by decide +kernel
theorem dL_law_1501 : decode cL_law 1501 = .ok (.invokevirtual 206, 3) := by decide +kernel
theorem dL_law_1504 : decode cL_law 1504 = .ok (.if_icmp .eq 135, 3) := by decide +kernel
theorem dL_law_1507 : decode cL_law 1507 = .ok (.iconst 0, 1) := by decide +kernel
theorem dL_law_1508 : decode cL_law 1508 = .ok (.ireturn, 1) := by decide +kernel
theorem dL_law_1509 : decode cL_law 1509 = .ok (.aload_n 1, 1) := by decide +kernel
theorem dL_law_1510 : decode cL_law 1510 = .ok (.aload_n 0, 1) := by decide +kernel
theorem dL_law_1511 : decode cL_law 1511 = .ok (.iload 4, 2) := by decide +kernel
theorem dL_law_1513 : decode cL_law 1513 = .ok (.iconst 1, 1) := by decide +kernel
theorem dL_law_1514 : decode cL_law 1514 = .ok (.iadd, 1) := by decide +kernel
theorem dL_law_1515 : decode cL_law 1515 = .ok (.iaload, 1) := by decide +kernel
theorem dL_law_1516 : decode cL_law 1516 = .ok (.invokevirtual 207, 3) := by decide +kernel
theorem dL_law_1519 : decode cL_law 1519 = .ok (.aload_n 2, 1) := by decide +kernel
theorem dL_law_1520 : decode cL_law 1520 = .ok (.aload_n 0, 1) := by decide +kernel
theorem dL_law_1521 : decode cL_law 1521 = .ok (.iload 4, 2) := by decide +kernel
theorem dL_law_1523 : decode cL_law 1523 = .ok (.iconst 1, 1) := by decide +kernel
theorem dL_law_1524 : decode cL_law 1524 = .ok (.iadd, 1) := by decide +kernel
theorem dL_law_1525 : decode cL_law 1525 = .ok (.iaload, 1) := by decide +kernel
theorem dL_law_1526 : decode cL_law 1526 = .ok (.invokevirtual 210, 3) := by decide +kernel
theorem dL_law_1529 : decode cL_law 1529 = .ok (.if_icmp .eq 110, 3) := by decide +kernel
theorem dL_law_1532 : decode cL_law 1532 = .ok (.iconst 0, 1) := by decide +kernel
theorem dL_law_1533 : decode cL_law 1533 = .ok (.ireturn, 1) := by decide +kernel
theorem dL_law_1534 : decode cL_law 1534 = .ok (.aload_n 1, 1) := by decide +kernel
theorem dL_law_1535 : decode cL_law 1535 = .ok (.aload_n 0, 1) := by decide +kernel
theorem dL_law_1536 : decode cL_law 1536 = .ok (.iload 4, 2) := by decide +kernel
theorem dL_law_1538 : decode cL_law 1538 = .ok (.iconst 1, 1) := by decide +kernel
theorem dL_law_1539 : decode cL_law 1539 = .ok (.iadd, 1) := by decide +kernel
theorem dL_law_1540 : decode cL_law 1540 = .ok (.iaload, 1) := by decide +kernel
theorem dL_law_1541 : decode cL_law 1541 = .ok (.invokevirtual 211, 3) := by decide +kernel
theorem dL_law_1544 : decode cL_law 1544 = .ok (.aload_n 2, 1) := by decide +kernel
theorem dL_law_1545 : decode cL_law 1545 = .ok (.aload_n 0, 1) := by decide +kernel
theorem dL_law_1546 : decode cL_law 1546 = .ok (.iload 4, 2) := by decide +kernel
theorem dL_law_1548 : decode cL_law 1548 = .ok (.iconst 1, 1) := by decide +kernel
theorem dL_law_1549 : decode cL_law 1549 = .ok (.iadd, 1) := by decide +kernel
theorem dL_law_1550 : decode cL_law 1550 = .ok (.iaload, 1) := by decide +kernel
theorem dL_law_1551 : decode cL_law 1551 = .ok (.invokevirtual 214, 3) := by decide +kernel
theorem dL_law_1554 : decode cL_law 1554 = .ok (.if_icmp .eq 85, 3) := by decide +kernel
theorem dL_law_1557 : decode cL_law 1557 = .ok (.iconst 0, 1) := by decide +kernel
theorem dL_law_1558 : decode cL_law 1558 = .ok (.ireturn, 1) := by decide +kernel
theorem dL_law_1559 : decode cL_law 1559 = .ok (.aload_n 1, 1) := by decide +kernel
theorem dL_law_1560 : decode cL_law 1560 = .ok (.aload_n 0, 1) := by decide +kernel
theorem dL_law_1561 : decode cL_law 1561 = .ok (.iload 4, 2) := by decide +kernel
theorem dL_law_1563 : decode cL_law 1563 = .ok (.iconst 1, 1) := by decide +kernel
theorem dL_law_1564 : decode cL_law 1564 = .ok (.iadd, 1) := by decide +kernel
theorem dL_law_1565 : decode cL_law 1565 = .ok (.iaload, 1) := by decide +kernel
theorem dL_law_1566 : decode cL_law 1566 = .ok (.invokevirtual 215, 3) := by decide +kernel
theorem dL_law_1569 : decode cL_law 1569 = .ok (.aload_n 2, 1) := by decide +kernel
theorem dL_law_1570 : decode cL_law 1570 = .ok (.aload_n 0, 1) := by decide +kernel
theorem dL_law_1571 : decode cL_law 1571 = .ok (.iload 4, 2) := by decide +kernel
theorem dL_law_1573 : decode cL_law 1573 = .ok (.iconst 1, 1) := by decide +kernel
theorem dL_law_1574 : decode cL_law 1574 = .ok (.iadd, 1) := by decide +kernel
theorem dL_law_1575 : decode cL_law 1575 = .ok (.iaload, 1) := by decide +kernel
theorem dL_law_1576 : decode cL_law 1576 = .ok (.invokevirtual 218, 3) := by decide +kernel
theorem dL_law_1579 : decode cL_law 1579 = .ok (.if_icmp .eq 60, 3) := by decide +kernel
theorem dL_law_1582 : decode cL_law 1582 = .ok (.iconst 0, 1) := by decide +kernel
theorem dL_law_1583 : decode cL_law 1583 = .ok (.ireturn, 1) := by decide +kernel
theorem dL_law_1584 : decode cL_law 1584 = .ok (.aload_n 1, 1) := by decide +kernel
theorem dL_law_1585 : decode cL_law 1585 = .ok (.aload_n 0, 1) := by decide +kernel
theorem dL_law_1586 : decode cL_law 1586 = .ok (.iload 4, 2) := by decide +kernel
theorem dL_law_1588 : decode cL_law 1588 = .ok (.iconst 1, 1) := by decide +kernel
theorem dL_law_1589 : decode cL_law 1589 = .ok (.iadd, 1) := by decide +kernel
theorem dL_law_1590 : decode cL_law 1590 = .ok (.iaload, 1) := by decide +kernel
theorem dL_law_1591 : decode cL_law 1591 = .ok (.aload_n 3, 1) := by decide +kernel
theorem dL_law_1592 : decode cL_law 1592 = .ok (.invokestatic 219, 3) := by decide +kernel
theorem dL_law_1595 : decode cL_law 1595 = .ok (.istore 5, 2) := by decide +kernel
theorem dL_law_1597 : decode cL_law 1597 = .ok (.aload_n 2, 1) := by decide +kernel
theorem dL_law_1598 : decode cL_law 1598 = .ok (.aload_n 0, 1) := by decide +kernel
theorem dL_law_1599 : decode cL_law 1599 = .ok (.iload 4, 2) := by decide +kernel
theorem dL_law_1601 : decode cL_law 1601 = .ok (.iconst 1, 1) := by decide +kernel
theorem dL_law_1602 : decode cL_law 1602 = .ok (.iadd, 1) := by decide +kernel
theorem dL_law_1603 : decode cL_law 1603 = .ok (.iaload, 1) := by decide +kernel
theorem dL_law_1604 : decode cL_law 1604 = .ok (.invokevirtual 222, 3) := by decide +kernel
theorem dL_law_1607 : decode cL_law 1607 = .ok (.lstore 6, 2) := by decide +kernel
theorem dL_law_1609 : decode cL_law 1609 = .ok (.aload_n 2, 1) := by decide +kernel
theorem dL_law_1610 : decode cL_law 1610 = .ok (.invokevirtual 63, 3) := by decide +kernel
theorem dL_law_1613 : decode cL_law 1613 = .ok (.iload 5, 2) := by decide +kernel
theorem dL_law_1615 : decode cL_law 1615 = .ok (.if_icmp .eq 5, 3) := by decide +kernel
theorem dL_law_1618 : decode cL_law 1618 = .ok (.iconst 0, 1) := by decide +kernel
theorem dL_law_1619 : decode cL_law 1619 = .ok (.ireturn, 1) := by decide +kernel
theorem dL_law_1620 : decode cL_law 1620 = .ok (.iload 5, 2) := by decide +kernel
theorem dL_law_1622 : decode cL_law 1622 = .ok (.ifCond .ne 14, 3) := by decide +kernel
theorem dL_law_1625 : decode cL_law 1625 = .ok (.aload_n 3, 1) := by decide +kernel
theorem dL_law_1626 : decode cL_law 1626 = .ok (.iconst 0, 1) := by decide +kernel
theorem dL_law_1627 : decode cL_law 1627 = .ok (.laload, 1) := by decide +kernel
theorem dL_law_1628 : decode cL_law 1628 = .ok (.lload 6, 2) := by decide +kernel
theorem dL_law_1630 : decode cL_law 1630 = .ok (.lcmp, 1) := by decide +kernel
theorem dL_law_1631 : decode cL_law 1631 = .ok (.ifCond .eq 5, 3) := by decide +kernel
theorem dL_law_1634 : decode cL_law 1634 = .ok (.iconst 0, 1) := by decide +kernel
theorem dL_law_1635 : decode cL_law 1635 = .ok (.ireturn, 1) := by decide +kernel
theorem dL_law_1636 : decode cL_law 1636 = .ok (.goto 3, 3) := by decide +kernel
theorem dL_law_1639 : decode cL_law 1639 = .ok (.iinc 4 5, 3) := by decide +kernel
theorem dL_law_1642 : decode cL_law 1642 = .ok (.goto (-1619), 3) := by decide +kernel
theorem dL_law_1645 : decode cL_law 1645 = .ok (.iconst 1, 1) := by decide +kernel
theorem dL_law_1646 : decode cL_law 1646 = .ok (.ireturn, 1) := by decide +kernel
theorem fl_RX11_157 : FLk RX11 157 3 0 := ⟨RX3, TX3, 7, rfl, by decide, uw_RX3, gw_of (i := 159) (by decide +kernel) rfl⟩
theorem fl_RX11_163 : FLk RX11 163 3 2 := ⟨RX3, TX3, 7, rfl, by decide, uw_RX3, gw_of (i := 166) (by decide +kernel) rfl⟩
theorem fl_RX11_178 : FLk RX11 178 4 2 := ⟨RX4, TX4, 9, rfl, by decide, uw_RX4, gw_of (i := 315) (by decide +kernel) rfl⟩
theorem fl_RX11_195 : FLk RX11 195 1 0 := ⟨RX1, TX1, 5, rfl, by decide, uw_RX1, gw_of (i := 201) (by decide +kernel) rfl⟩
theorem fl_RX11_198 : FLk RX11 198 4 3 := ⟨RX4, TX4, 9, rfl, by decide, uw_RX4, gw_of (i := 317) (by decide +kernel) rfl⟩
theorem fl_RX11_201 : FLk RX11 201 1 2 := ⟨RX1, TX1, 5, rfl, by decide, uw_RX1, gw_of (i := 206) (by decide +kernel) rfl⟩
theorem fl_RX11_414 : FLk RX11 414 6 0 := ⟨RX7, TX7, 2, rfl, by decide, uw_RX7, gw_of (i := 140) (by decide +kernel) rfl⟩
theorem sa_149 : ShA 149 4 1 := ⟨by decide, sh_149⟩
theorem ml_RX11_181 : Cond.methodLink RX11 181 yX4_leftNow ∈ gw := gw_of (i := 1236) (by decide +kernel) rfl
theorem ml_RL_7 : Cond.methodLink RL 7 yX11_prisoner ∈ gw := gw_of (i := 1167) (by decide +kernel) rfl
theorem ml_RL_15 : Cond.methodLink RL 15 yX11_witness ∈ gw := gw_of (i := 1241) (by decide +kernel) rfl
theorem ml_RL_18 : Cond.methodLink RL 18 yX11_row ∈ gw := gw_of (i := 1250) (by decide +kernel) rfl
theorem ml_RL_26 : Cond.methodLink RL 26 yX11_sign ∈ gw := gw_of (i := 444) (by decide +kernel) rfl
theorem ml_RL_30 : Cond.methodLink RL 30 yX12_sign ∈ gw := gw_of (i := 1401) (by decide +kernel) rfl
theorem ml_RL_31 : Cond.methodLink RL 31 yX11_end ∈ gw := gw_of (i := 452) (by decide +kernel) rfl
theorem ml_RL_35 : Cond.methodLink RL 35 yX12_end ∈ gw := gw_of (i := 1405) (by decide +kernel) rfl
theorem ml_RL_36 : Cond.methodLink RL 36 yX11_prisoners ∈ gw := gw_of (i := 460) (by decide +kernel) rfl
theorem ml_RL_40 : Cond.methodLink RL 40 yX12_prisoners ∈ gw := gw_of (i := 1412) (by decide +kernel) rfl
theorem ml_RL_41 : Cond.methodLink RL 41 yX11_values ∈ gw := gw_of (i := 635) (by decide +kernel) rfl
theorem ml_RL_44 : Cond.methodLink RL 44 yX12_values ∈ gw := gw_of (i := 1467) (by decide +kernel) rfl
theorem ml_RL_45 : Cond.methodLink RL 45 yX11_witnesses ∈ gw := gw_of (i := 651) (by decide +kernel) rfl
theorem ml_RL_48 : Cond.methodLink RL 48 yX12_witnesses ∈ gw := gw_of (i := 1471) (by decide +kernel) rfl
theorem ml_RL_49 : Cond.methodLink RL 49 yX11_law ∈ gw := gw_of (i := 662) (by decide +kernel) rfl
theorem ml_RL_52 : Cond.methodLink RL 52 yX12_law ∈ gw := gw_of (i := 1475) (by decide +kernel) rfl
theorem ml_RL_53 : Cond.methodLink RL 53 yX11_rule ∈ gw := gw_of (i := 676) (by decide +kernel) rfl
theorem ml_RL_56 : Cond.methodLink RL 56 yX12_rule ∈ gw := gw_of (i := 1486) (by decide +kernel) rfl
theorem ml_RL_57 : Cond.methodLink RL 57 yL_prisoner ∈ gw := gw_of (i := 1163) (by decide +kernel) rfl
theorem ml_RL_62 : Cond.methodLink RL 62 yX12_prisoner ∈ gw := gw_of (i := 1509) (by decide +kernel) rfl
theorem ml_RL_63 : Cond.methodLink RL 63 yX12_thrown ∈ gw := gw_of (i := 1397) (by decide +kernel) rfl
theorem ml_RL_66 : Cond.methodLink RL 66 yL_witness ∈ gw := gw_of (i := 1238) (by decide +kernel) rfl
theorem ml_RL_68 : Cond.methodLink RL 68 yX12_witness ∈ gw := gw_of (i := 1539) (by decide +kernel) rfl
theorem ml_RL_69 : Cond.methodLink RL 69 yX11_ends ∈ gw := gw_of (i := 718) (by decide +kernel) rfl
theorem ml_RL_72 : Cond.methodLink RL 72 yX12_ends ∈ gw := gw_of (i := 1543) (by decide +kernel) rfl
theorem ml_RL_73 : Cond.methodLink RL 73 yX11_sheet ∈ gw := gw_of (i := 722) (by decide +kernel) rfl
theorem ml_RL_77 : Cond.methodLink RL 77 yX12_sheet ∈ gw := gw_of (i := 1547) (by decide +kernel) rfl
theorem ml_RL_78 : Cond.methodLink RL 78 yX11_lay ∈ gw := gw_of (i := 731) (by decide +kernel) rfl
theorem ml_RL_81 : Cond.methodLink RL 81 yX12_lay_ ∈ gw := gw_of (i := 1551) (by decide +kernel) rfl
theorem ml_RL_82 : Cond.methodLink RL 82 yX11_ask ∈ gw := gw_of (i := 767) (by decide +kernel) rfl
theorem ml_RL_85 : Cond.methodLink RL 85 yX12_ask ∈ gw := gw_of (i := 1569) (by decide +kernel) rfl
theorem ml_RL_86 : Cond.methodLink RL 86 yX11_judge ∈ gw := gw_of (i := 790) (by decide +kernel) rfl
theorem ml_RL_89 : Cond.methodLink RL 89 yX12_judge ∈ gw := gw_of (i := 1580) (by decide +kernel) rfl
theorem ml_RL_90 : Cond.methodLink RL 90 yX11_nights ∈ gw := gw_of (i := 823) (by decide +kernel) rfl
theorem ml_RL_93 : Cond.methodLink RL 93 yX12_nights ∈ gw := gw_of (i := 1592) (by decide +kernel) rfl
theorem ml_RL_94 : Cond.methodLink RL 94 yX11_assize ∈ gw := gw_of (i := 850) (by decide +kernel) rfl
theorem ml_RL_97 : Cond.methodLink RL 97 yX12_assize ∈ gw := gw_of (i := 1604) (by decide +kernel) rfl
theorem ml_RL_98 : Cond.methodLink RL 98 yX11_undo ∈ gw := gw_of (i := 865) (by decide +kernel) rfl
theorem ml_RL_101 : Cond.methodLink RL 101 yX12_undo ∈ gw := gw_of (i := 1616) (by decide +kernel) rfl
theorem ml_RL_102 : Cond.methodLink RL 102 yX11_left ∈ gw := gw_of (i := 873) (by decide +kernel) rfl
theorem ml_RL_105 : Cond.methodLink RL 105 yX12_left ∈ gw := gw_of (i := 1620) (by decide +kernel) rfl
theorem ml_RL_106 : Cond.methodLink RL 106 yX11_dies ∈ gw := gw_of (i := 885) (by decide +kernel) rfl
theorem ml_RL_109 : Cond.methodLink RL 109 yX12_dies ∈ gw := gw_of (i := 1624) (by decide +kernel) rfl
theorem ml_RL_110 : Cond.methodLink RL 110 yX11_speaks ∈ gw := gw_of (i := 899) (by decide +kernel) rfl
theorem ml_RL_113 : Cond.methodLink RL 113 yX12_speaks ∈ gw := gw_of (i := 1632) (by decide +kernel) rfl
theorem ml_RL_114 : Cond.methodLink RL 114 yX11_least ∈ gw := gw_of (i := 908) (by decide +kernel) rfl
theorem ml_RL_117 : Cond.methodLink RL 117 yX12_least ∈ gw := gw_of (i := 1640) (by decide +kernel) rfl
theorem ml_RL_118 : Cond.methodLink RL 118 yX11_mercy ∈ gw := gw_of (i := 912) (by decide +kernel) rfl
theorem ml_RL_121 : Cond.methodLink RL 121 yX12_mercy ∈ gw := gw_of (i := 1644) (by decide +kernel) rfl
theorem ml_RL_122 : Cond.methodLink RL 122 yX11_longest ∈ gw := gw_of (i := 916) (by decide +kernel) rfl
theorem ml_RL_125 : Cond.methodLink RL 125 yX12_longest ∈ gw := gw_of (i := 1648) (by decide +kernel) rfl
theorem ml_RL_126 : Cond.methodLink RL 126 yX11_alike ∈ gw := gw_of (i := 920) (by decide +kernel) rfl
theorem ml_RL_129 : Cond.methodLink RL 129 yX12_alike ∈ gw := gw_of (i := 1652) (by decide +kernel) rfl
theorem ml_RL_130 : Cond.methodLink RL 130 yX11_stones ∈ gw := gw_of (i := 924) (by decide +kernel) rfl
theorem ml_RL_133 : Cond.methodLink RL 133 yX12_stones ∈ gw := gw_of (i := 1656) (by decide +kernel) rfl
theorem ml_RL_134 : Cond.methodLink RL 134 yX11_silent ∈ gw := gw_of (i := 952) (by decide +kernel) rfl
theorem ml_RL_137 : Cond.methodLink RL 137 yX12_silent ∈ gw := gw_of (i := 1669) (by decide +kernel) rfl
theorem ml_RL_138 : Cond.methodLink RL 138 yX11_proof ∈ gw := gw_of (i := 961) (by decide +kernel) rfl
theorem ml_RL_141 : Cond.methodLink RL 141 yX12_proof ∈ gw := gw_of (i := 1673) (by decide +kernel) rfl
theorem ml_RL_142 : Cond.methodLink RL 142 yX11_till ∈ gw := gw_of (i := 969) (by decide +kernel) rfl
theorem ml_RL_145 : Cond.methodLink RL 145 yX12_till ∈ gw := gw_of (i := 1677) (by decide +kernel) rfl
theorem ml_RL_146 : Cond.methodLink RL 146 yX11_gains ∈ gw := gw_of (i := 973) (by decide +kernel) rfl
theorem ml_RL_149 : Cond.methodLink RL 149 yX12_gains ∈ gw := gw_of (i := 1681) (by decide +kernel) rfl
theorem ml_RL_150 : Cond.methodLink RL 150 yX11_lacks ∈ gw := gw_of (i := 990) (by decide +kernel) rfl
theorem ml_RL_153 : Cond.methodLink RL 153 yX12_lacks ∈ gw := gw_of (i := 1693) (by decide +kernel) rfl
theorem ml_RL_154 : Cond.methodLink RL 154 yX11_best ∈ gw := gw_of (i := 998) (by decide +kernel) rfl
theorem ml_RL_157 : Cond.methodLink RL 157 yX12_best ∈ gw := gw_of (i := 1701) (by decide +kernel) rfl
theorem ml_RL_158 : Cond.methodLink RL 158 yX11_trials ∈ gw := gw_of (i := 1011) (by decide +kernel) rfl
theorem ml_RL_161 : Cond.methodLink RL 161 yX12_trials ∈ gw := gw_of (i := 1709) (by decide +kernel) rfl
theorem ml_RL_162 : Cond.methodLink RL 162 yX11_docket ∈ gw := gw_of (i := 1043) (by decide +kernel) rfl
theorem ml_RL_165 : Cond.methodLink RL 165 yX12_docket ∈ gw := gw_of (i := 1725) (by decide +kernel) rfl
theorem ml_RL_166 : Cond.methodLink RL 166 yX11_parts ∈ gw := gw_of (i := 1051) (by decide +kernel) rfl
theorem ml_RL_169 : Cond.methodLink RL 169 yX12_parts ∈ gw := gw_of (i := 1741) (by decide +kernel) rfl
theorem ml_RL_170 : Cond.methodLink RL 170 yX11_hopes ∈ gw := gw_of (i := 1060) (by decide +kernel) rfl
theorem ml_RL_173 : Cond.methodLink RL 173 yX12_hopes ∈ gw := gw_of (i := 1749) (by decide +kernel) rfl
theorem ml_RL_174 : Cond.methodLink RL 174 yX11_reading ∈ gw := gw_of (i := 1065) (by decide +kernel) rfl
theorem ml_RL_177 : Cond.methodLink RL 177 yX12_reading ∈ gw := gw_of (i := 1756) (by decide +kernel) rfl
theorem ml_RL_178 : Cond.methodLink RL 178 yX11_wants ∈ gw := gw_of (i := 1069) (by decide +kernel) rfl
theorem ml_RL_181 : Cond.methodLink RL 181 yX12_wants ∈ gw := gw_of (i := 1760) (by decide +kernel) rfl
theorem ml_RL_182 : Cond.methodLink RL 182 yX11_dumb ∈ gw := gw_of (i := 1081) (by decide +kernel) rfl
theorem ml_RL_186 : Cond.methodLink RL 186 yX12_dumb ∈ gw := gw_of (i := 1764) (by decide +kernel) rfl
theorem ml_RL_187 : Cond.methodLink RL 187 yX11_sure ∈ gw := gw_of (i := 1100) (by decide +kernel) rfl
theorem ml_RL_190 : Cond.methodLink RL 190 yX12_sure ∈ gw := gw_of (i := 1781) (by decide +kernel) rfl
theorem ml_RL_191 : Cond.methodLink RL 191 yX11_house ∈ gw := gw_of (i := 1105) (by decide +kernel) rfl
theorem ml_RL_194 : Cond.methodLink RL 194 yX12_house ∈ gw := gw_of (i := 1786) (by decide +kernel) rfl
theorem ml_RL_195 : Cond.methodLink RL 195 yX11_search ∈ gw := gw_of (i := 1113) (by decide +kernel) rfl
theorem ml_RL_198 : Cond.methodLink RL 198 yX12_search ∈ gw := gw_of (i := 1790) (by decide +kernel) rfl
theorem ml_RL_199 : Cond.methodLink RL 199 yX11_rests ∈ gw := gw_of (i := 1121) (by decide +kernel) rfl
theorem ml_RL_202 : Cond.methodLink RL 202 yX12_rests ∈ gw := gw_of (i := 1795) (by decide +kernel) rfl
theorem ml_RL_203 : Cond.methodLink RL 203 yX11_years ∈ gw := gw_of (i := 1134) (by decide +kernel) rfl
theorem ml_RL_206 : Cond.methodLink RL 206 yX12_years ∈ gw := gw_of (i := 1808) (by decide +kernel) rfl
theorem ml_RL_207 : Cond.methodLink RL 207 yX11_keep ∈ gw := gw_of (i := 1150) (by decide +kernel) rfl
theorem ml_RL_210 : Cond.methodLink RL 210 yX12_keep ∈ gw := gw_of (i := 1817) (by decide +kernel) rfl
theorem ml_RL_211 : Cond.methodLink RL 211 yX11_again ∈ gw := gw_of (i := 1154) (by decide +kernel) rfl
theorem ml_RL_214 : Cond.methodLink RL 214 yX12_again ∈ gw := gw_of (i := 1821) (by decide +kernel) rfl
theorem ml_RL_215 : Cond.methodLink RL 215 yX11_count ∈ gw := gw_of (i := 1158) (by decide +kernel) rfl
theorem ml_RL_218 : Cond.methodLink RL 218 yX12_count ∈ gw := gw_of (i := 1825) (by decide +kernel) rfl
theorem ml_RL_219 : Cond.methodLink RL 219 yL_row ∈ gw := gw_of (i := 1247) (by decide +kernel) rfl
theorem ml_RL_222 : Cond.methodLink RL 222 yX12_row ∈ gw := gw_of (i := 1829) (by decide +kernel) rfl
theorem yv_X11_again : YV RX11 yX11_again cX11_again 2 (some .boolean) 1 := ⟨gw_of (i := 1155) (by decide +kernel) rfl, gw_of (i := 1156) (by decide +kernel) rfl, gw_of (i := 79) (by decide +kernel) rfl, gw_of (i := 1157) (by decide +kernel) rfl, ⟨rfl, by decide +kernel, by decide +kernel, by decide +kernel⟩, by decide⟩
theorem yv_X11_alike : YV RX11 yX11_alike cX11_alike 6 (some .int) 2 := ⟨gw_of (i := 921) (by decide +kernel) rfl, gw_of (i := 922) (by decide +kernel) rfl, gw_of (i := 79) (by decide +kernel) rfl, gw_of (i := 923) (by decide +kernel) rfl, ⟨rfl, by decide +kernel, by decide +kernel, by decide +kernel⟩, by decide⟩
theorem yv_X11_ask : YV RX11 yX11_ask cX11_ask 2 (some .int) 1 := ⟨gw_of (i := 768) (by decide +kernel) rfl, gw_of (i := 769) (by decide +kernel) rfl, gw_of (i := 79) (by decide +kernel) rfl, gw_of (i := 770) (by decide +kernel) rfl, ⟨rfl, by decide +kernel, by decide +kernel, by decide +kernel⟩, by decide⟩
theorem yv_X11_assize : YV RX11 yX11_assize cX11_assize 3 (some .int) 0 := ⟨gw_of (i := 851) (by decide +kernel) rfl, gw_of (i := 852) (by decide +kernel) rfl, gw_of (i := 79) (by decide +kernel) rfl, gw_of (i := 853) (by decide +kernel) rfl, ⟨rfl, by decide +kernel, by decide +kernel, by decide +kernel⟩, by decide⟩
theorem yv_X11_best : YV RX11 yX11_best cX11_best 6 (some .int) 1 := ⟨gw_of (i := 999) (by decide +kernel) rfl, gw_of (i := 1000) (by decide +kernel) rfl, gw_of (i := 79) (by decide +kernel) rfl, gw_of (i := 1001) (by decide +kernel) rfl, ⟨rfl, by decide +kernel, by decide +kernel, by decide +kernel⟩, by decide⟩
theorem yv_X11_count : YV RX11 yX11_count cX11_count 2 (some .int) 1 := ⟨gw_of (i := 1159) (by decide +kernel) rfl, gw_of (i := 1160) (by decide +kernel) rfl, gw_of (i := 79) (by decide +kernel) rfl, gw_of (i := 1161) (by decide +kernel) rfl, ⟨rfl, by decide +kernel, by decide +kernel, by decide +kernel⟩, by decide⟩
theorem yv_X11_dies : YV RX11 yX11_dies cX11_dies 4 (some .int) 1 := ⟨gw_of (i := 886) (by decide +kernel) rfl, gw_of (i := 887) (by decide +kernel) rfl, gw_of (i := 79) (by decide +kernel) rfl, gw_of (i := 888) (by decide +kernel) rfl, ⟨rfl, by decide +kernel, by decide +kernel, by decide +kernel⟩, by decide⟩
theorem yv_X11_docket : YV RX11 yX11_docket cX11_docket 1 (some .int) 0 := ⟨gw_of (i := 1044) (by decide +kernel) rfl, gw_of (i := 1045) (by decide +kernel) rfl, gw_of (i := 79) (by decide +kernel) rfl, gw_of (i := 1046) (by decide +kernel) rfl, ⟨rfl, by decide +kernel, by decide +kernel, by decide +kernel⟩, by decide⟩
theorem yv_X11_dumb : YV RX11 yX11_dumb cX11_dumb 10 (some .int) 3 := ⟨gw_of (i := 1082) (by decide +kernel) rfl, gw_of (i := 1083) (by decide +kernel) rfl, gw_of (i := 79) (by decide +kernel) rfl, gw_of (i := 1084) (by decide +kernel) rfl, ⟨rfl, by decide +kernel, by decide +kernel, by decide +kernel⟩, by decide⟩
theorem yv_X11_end : YV RX11 yX11_end cX11_end 2 (some .boolean) 1 := ⟨gw_of (i := 453) (by decide +kernel) rfl, gw_of (i := 454) (by decide +kernel) rfl, gw_of (i := 79) (by decide +kernel) rfl, gw_of (i := 455) (by decide +kernel) rfl, ⟨rfl, by decide +kernel, by decide +kernel, by decide +kernel⟩, by decide⟩
theorem yv_X11_ends : YV RX11 yX11_ends cX11_ends 3 (some .int) 1 := ⟨gw_of (i := 719) (by decide +kernel) rfl, gw_of (i := 720) (by decide +kernel) rfl, gw_of (i := 79) (by decide +kernel) rfl, gw_of (i := 721) (by decide +kernel) rfl, ⟨rfl, by decide +kernel, by decide +kernel, by decide +kernel⟩, by decide⟩
theorem yv_X11_gains : YV RX11 yX11_gains cX11_gains 5 (some .int) 2 := ⟨gw_of (i := 974) (by decide +kernel) rfl, gw_of (i := 975) (by decide +kernel) rfl, gw_of (i := 79) (by decide +kernel) rfl, gw_of (i := 976) (by decide +kernel) rfl, ⟨rfl, by decide +kernel, by decide +kernel, by decide +kernel⟩, by decide⟩
theorem yv_X11_hopes : YV RX11 yX11_hopes cX11_hopes 6 (some .int) 1 := ⟨gw_of (i := 1061) (by decide +kernel) rfl, gw_of (i := 1062) (by decide +kernel) rfl, gw_of (i := 79) (by decide +kernel) rfl, gw_of (i := 1063) (by decide +kernel) rfl, ⟨rfl, by decide +kernel, by decide +kernel, by decide +kernel⟩, by decide⟩
theorem yv_X11_house : YV RX11 yX11_house cX11_house 8 (some .int) 2 := ⟨gw_of (i := 1106) (by decide +kernel) rfl, gw_of (i := 1107) (by decide +kernel) rfl, gw_of (i := 79) (by decide +kernel) rfl, gw_of (i := 1108) (by decide +kernel) rfl, ⟨rfl, by decide +kernel, by decide +kernel, by decide +kernel⟩, by decide⟩
theorem yv_X11_judge : YV RX11 yX11_judge cX11_judge 3 (some .int) 1 := ⟨gw_of (i := 791) (by decide +kernel) rfl, gw_of (i := 792) (by decide +kernel) rfl, gw_of (i := 79) (by decide +kernel) rfl, gw_of (i := 793) (by decide +kernel) rfl, ⟨rfl, by decide +kernel, by decide +kernel, by decide +kernel⟩, by decide⟩
theorem yv_X11_keep : YV RX11 yX11_keep cX11_keep 2 (some .boolean) 1 := ⟨gw_of (i := 1151) (by decide +kernel) rfl, gw_of (i := 1152) (by decide +kernel) rfl, gw_of (i := 79) (by decide +kernel) rfl, gw_of (i := 1153) (by decide +kernel) rfl, ⟨rfl, by decide +kernel, by decide +kernel, by decide +kernel⟩, by decide⟩
theorem yv_X11_lacks : YV RX11 yX11_lacks cX11_lacks 6 (some .int) 2 := ⟨gw_of (i := 991) (by decide +kernel) rfl, gw_of (i := 992) (by decide +kernel) rfl, gw_of (i := 79) (by decide +kernel) rfl, gw_of (i := 993) (by decide +kernel) rfl, ⟨rfl, by decide +kernel, by decide +kernel, by decide +kernel⟩, by decide⟩
theorem yv_X11_law : YV RX11 yX11_law cX11_law 2 (some .int) 0 := ⟨gw_of (i := 663) (by decide +kernel) rfl, gw_of (i := 664) (by decide +kernel) rfl, gw_of (i := 79) (by decide +kernel) rfl, gw_of (i := 665) (by decide +kernel) rfl, ⟨rfl, by decide +kernel, by decide +kernel, by decide +kernel⟩, by decide⟩
theorem yv_X11_lay : YV RX11 yX11_lay cX11_lay 3 (some .int) 2 := ⟨gw_of (i := 732) (by decide +kernel) rfl, gw_of (i := 733) (by decide +kernel) rfl, gw_of (i := 79) (by decide +kernel) rfl, gw_of (i := 734) (by decide +kernel) rfl, ⟨rfl, by decide +kernel, by decide +kernel, by decide +kernel⟩, by decide⟩
theorem yv_X11_least : YV RX11 yX11_least cX11_least 5 (some .int) 2 := ⟨gw_of (i := 909) (by decide +kernel) rfl, gw_of (i := 910) (by decide +kernel) rfl, gw_of (i := 79) (by decide +kernel) rfl, gw_of (i := 911) (by decide +kernel) rfl, ⟨rfl, by decide +kernel, by decide +kernel, by decide +kernel⟩, by decide⟩
theorem yv_X11_left : YV RX11 yX11_left cX11_left 3 (some .int) 2 := ⟨gw_of (i := 874) (by decide +kernel) rfl, gw_of (i := 875) (by decide +kernel) rfl, gw_of (i := 79) (by decide +kernel) rfl, gw_of (i := 876) (by decide +kernel) rfl, ⟨rfl, by decide +kernel, by decide +kernel, by decide +kernel⟩, by decide⟩
theorem yv_X11_longest : YV RX11 yX11_longest cX11_longest 6 (some .int) 1 := ⟨gw_of (i := 917) (by decide +kernel) rfl, gw_of (i := 918) (by decide +kernel) rfl, gw_of (i := 79) (by decide +kernel) rfl, gw_of (i := 919) (by decide +kernel) rfl, ⟨rfl, by decide +kernel, by decide +kernel, by decide +kernel⟩, by decide⟩
theorem yv_X11_mercy : YV RX11 yX11_mercy cX11_mercy 4 (some .int) 2 := ⟨gw_of (i := 913) (by decide +kernel) rfl, gw_of (i := 914) (by decide +kernel) rfl, gw_of (i := 79) (by decide +kernel) rfl, gw_of (i := 915) (by decide +kernel) rfl, ⟨rfl, by decide +kernel, by decide +kernel, by decide +kernel⟩, by decide⟩
theorem yv_X11_nights : YV RX11 yX11_nights cX11_nights 3 (some .int) 1 := ⟨gw_of (i := 824) (by decide +kernel) rfl, gw_of (i := 825) (by decide +kernel) rfl, gw_of (i := 79) (by decide +kernel) rfl, gw_of (i := 826) (by decide +kernel) rfl, ⟨rfl, by decide +kernel, by decide +kernel, by decide +kernel⟩, by decide⟩
theorem yv_X11_parts : YV RX11 yX11_parts cX11_parts 2 (some .int) 0 := ⟨gw_of (i := 1052) (by decide +kernel) rfl, gw_of (i := 1053) (by decide +kernel) rfl, gw_of (i := 79) (by decide +kernel) rfl, gw_of (i := 1054) (by decide +kernel) rfl, ⟨rfl, by decide +kernel, by decide +kernel, by decide +kernel⟩, by decide⟩
theorem yv_X11_prisoner : YV RX11 yX11_prisoner cX11_prisoner 3 (some .int) 2 := ⟨gw_of (i := 1168) (by decide +kernel) rfl, gw_of (i := 1169) (by decide +kernel) rfl, gw_of (i := 79) (by decide +kernel) rfl, gw_of (i := 1170) (by decide +kernel) rfl, ⟨rfl, by decide +kernel, by decide +kernel, by decide +kernel⟩, by decide⟩
theorem yv_X11_prisoners : YV RX11 yX11_prisoners cX11_prisoners 2 (some .int) 0 := ⟨gw_of (i := 461) (by decide +kernel) rfl, gw_of (i := 462) (by decide +kernel) rfl, gw_of (i := 79) (by decide +kernel) rfl, gw_of (i := 463) (by decide +kernel) rfl, ⟨rfl, by decide +kernel, by decide +kernel, by decide +kernel⟩, by decide⟩
theorem yv_X11_proof : YV RX11 yX11_proof cX11_proof 4 (some .int) 2 := ⟨gw_of (i := 962) (by decide +kernel) rfl, gw_of (i := 963) (by decide +kernel) rfl, gw_of (i := 79) (by decide +kernel) rfl, gw_of (i := 964) (by decide +kernel) rfl, ⟨rfl, by decide +kernel, by decide +kernel, by decide +kernel⟩, by decide⟩
theorem yv_X11_reading : YV RX11 yX11_reading cX11_reading 4 (some .int) 0 := ⟨gw_of (i := 1066) (by decide +kernel) rfl, gw_of (i := 1067) (by decide +kernel) rfl, gw_of (i := 79) (by decide +kernel) rfl, gw_of (i := 1068) (by decide +kernel) rfl, ⟨rfl, by decide +kernel, by decide +kernel, by decide +kernel⟩, by decide⟩
theorem yv_X11_rests : YV RX11 yX11_rests cX11_rests 6 (some .int) 2 := ⟨gw_of (i := 1122) (by decide +kernel) rfl, gw_of (i := 1123) (by decide +kernel) rfl, gw_of (i := 79) (by decide +kernel) rfl, gw_of (i := 1124) (by decide +kernel) rfl, ⟨rfl, by decide +kernel, by decide +kernel, by decide +kernel⟩, by decide⟩
theorem yv_X11_row : YV RX11 yX11_row cX11_row 2 (some .long) 1 := ⟨gw_of (i := 1251) (by decide +kernel) rfl, gw_of (i := 1252) (by decide +kernel) rfl, gw_of (i := 79) (by decide +kernel) rfl, gw_of (i := 1253) (by decide +kernel) rfl, ⟨rfl, by decide +kernel, by decide +kernel, by decide +kernel⟩, by decide⟩
theorem yv_X11_rule : YV RX11 yX11_rule cX11_rule 2 (some .int) 0 := ⟨gw_of (i := 677) (by decide +kernel) rfl, gw_of (i := 678) (by decide +kernel) rfl, gw_of (i := 79) (by decide +kernel) rfl, gw_of (i := 679) (by decide +kernel) rfl, ⟨rfl, by decide +kernel, by decide +kernel, by decide +kernel⟩, by decide⟩
theorem yv_X11_search : YV RX11 yX11_search cX11_search 10 (some .int) 2 := ⟨gw_of (i := 1114) (by decide +kernel) rfl, gw_of (i := 1115) (by decide +kernel) rfl, gw_of (i := 79) (by decide +kernel) rfl, gw_of (i := 1116) (by decide +kernel) rfl, ⟨rfl, by decide +kernel, by decide +kernel, by decide +kernel⟩, by decide⟩
theorem yv_X11_sheet : YV RX11 yX11_sheet cX11_sheet 9 (some .int) 4 := ⟨gw_of (i := 723) (by decide +kernel) rfl, gw_of (i := 724) (by decide +kernel) rfl, gw_of (i := 79) (by decide +kernel) rfl, gw_of (i := 725) (by decide +kernel) rfl, ⟨rfl, by decide +kernel, by decide +kernel, by decide +kernel⟩, by decide⟩
theorem yv_X11_sign : YV RX11 yX11_sign cX11_sign 2 (some .int) 1 := ⟨gw_of (i := 445) (by decide +kernel) rfl, gw_of (i := 446) (by decide +kernel) rfl, gw_of (i := 79) (by decide +kernel) rfl, gw_of (i := 447) (by decide +kernel) rfl, ⟨rfl, by decide +kernel, by decide +kernel, by decide +kernel⟩, by decide⟩
theorem yv_X11_silent : YV RX11 yX11_silent cX11_silent 3 (some .int) 1 := ⟨gw_of (i := 953) (by decide +kernel) rfl, gw_of (i := 954) (by decide +kernel) rfl, gw_of (i := 79) (by decide +kernel) rfl, gw_of (i := 955) (by decide +kernel) rfl, ⟨rfl, by decide +kernel, by decide +kernel, by decide +kernel⟩, by decide⟩
theorem yv_X11_speaks : YV RX11 yX11_speaks cX11_speaks 4 (some .int) 2 := ⟨gw_of (i := 900) (by decide +kernel) rfl, gw_of (i := 901) (by decide +kernel) rfl, gw_of (i := 79) (by decide +kernel) rfl, gw_of (i := 902) (by decide +kernel) rfl, ⟨rfl, by decide +kernel, by decide +kernel, by decide +kernel⟩, by decide⟩
theorem yv_X11_stones : YV RX11 yX11_stones cX11_stones 5 (some .int) 1 := ⟨gw_of (i := 925) (by decide +kernel) rfl, gw_of (i := 926) (by decide +kernel) rfl, gw_of (i := 79) (by decide +kernel) rfl, gw_of (i := 927) (by decide +kernel) rfl, ⟨rfl, by decide +kernel, by decide +kernel, by decide +kernel⟩, by decide⟩
theorem yv_X11_sure : YV RX11 yX11_sure cX11_sure 7 (some .int) 3 := ⟨gw_of (i := 1101) (by decide +kernel) rfl, gw_of (i := 1102) (by decide +kernel) rfl, gw_of (i := 79) (by decide +kernel) rfl, gw_of (i := 1103) (by decide +kernel) rfl, ⟨rfl, by decide +kernel, by decide +kernel, by decide +kernel⟩, by decide⟩
theorem yv_X11_till : YV RX11 yX11_till cX11_till 4 (some .int) 1 := ⟨gw_of (i := 970) (by decide +kernel) rfl, gw_of (i := 971) (by decide +kernel) rfl, gw_of (i := 79) (by decide +kernel) rfl, gw_of (i := 972) (by decide +kernel) rfl, ⟨rfl, by decide +kernel, by decide +kernel, by decide +kernel⟩, by decide⟩
theorem yv_X11_trials : YV RX11 yX11_trials cX11_trials 1 (some .int) 0 := ⟨gw_of (i := 1012) (by decide +kernel) rfl, gw_of (i := 1013) (by decide +kernel) rfl, gw_of (i := 79) (by decide +kernel) rfl, gw_of (i := 1014) (by decide +kernel) rfl, ⟨rfl, by decide +kernel, by decide +kernel, by decide +kernel⟩, by decide⟩
theorem yv_X11_undo : YV RX11 yX11_undo cX11_undo 1 (some .int) 0 := ⟨gw_of (i := 866) (by decide +kernel) rfl, gw_of (i := 867) (by decide +kernel) rfl, gw_of (i := 79) (by decide +kernel) rfl, gw_of (i := 868) (by decide +kernel) rfl, ⟨rfl, by decide +kernel, by decide +kernel, by decide +kernel⟩, by decide⟩
theorem yv_X11_values : YV RX11 yX11_values cX11_values 2 (some .int) 0 := ⟨gw_of (i := 636) (by decide +kernel) rfl, gw_of (i := 637) (by decide +kernel) rfl, gw_of (i := 79) (by decide +kernel) rfl, gw_of (i := 638) (by decide +kernel) rfl, ⟨rfl, by decide +kernel, by decide +kernel, by decide +kernel⟩, by decide⟩
theorem yv_X11_wants : YV RX11 yX11_wants cX11_wants 8 (some .int) 1 := ⟨gw_of (i := 1070) (by decide +kernel) rfl, gw_of (i := 1071) (by decide +kernel) rfl, gw_of (i := 79) (by decide +kernel) rfl, gw_of (i := 1072) (by decide +kernel) rfl, ⟨rfl, by decide +kernel, by decide +kernel, by decide +kernel⟩, by decide⟩
theorem yv_X11_witness : YV RX11 yX11_witness cX11_witness 3 (some .int) 2 := ⟨gw_of (i := 1242) (by decide +kernel) rfl, gw_of (i := 1243) (by decide +kernel) rfl, gw_of (i := 79) (by decide +kernel) rfl, gw_of (i := 1244) (by decide +kernel) rfl, ⟨rfl, by decide +kernel, by decide +kernel, by decide +kernel⟩, by decide⟩
theorem yv_X11_witnesses : YV RX11 yX11_witnesses cX11_witnesses 2 (some .int) 0 := ⟨gw_of (i := 652) (by decide +kernel) rfl, gw_of (i := 653) (by decide +kernel) rfl, gw_of (i := 79) (by decide +kernel) rfl, gw_of (i := 654) (by decide +kernel) rfl, ⟨rfl, by decide +kernel, by decide +kernel, by decide +kernel⟩, by decide⟩
theorem yv_X11_years : YV RX11 yX11_years cX11_years 6 (some .int) 2 := ⟨gw_of (i := 1135) (by decide +kernel) rfl, gw_of (i := 1136) (by decide +kernel) rfl, gw_of (i := 79) (by decide +kernel) rfl, gw_of (i := 1137) (by decide +kernel) rfl, ⟨rfl, by decide +kernel, by decide +kernel, by decide +kernel⟩, by decide⟩
theorem yv_X12_again : YV RX12 yX12_again cX12_again 3 (some .boolean) 1 := ⟨gw_of (i := 1822) (by decide +kernel) rfl, gw_of (i := 1823) (by decide +kernel) rfl, gw_of (i := 92) (by decide +kernel) rfl, gw_of (i := 1824) (by decide +kernel) rfl, ⟨rfl, by decide +kernel, by decide +kernel, by decide +kernel⟩, by decide⟩
theorem yv_X12_alike : YV RX12 yX12_alike cX12_alike 6 (some .int) 2 := ⟨gw_of (i := 1653) (by decide +kernel) rfl, gw_of (i := 1654) (by decide +kernel) rfl, gw_of (i := 92) (by decide +kernel) rfl, gw_of (i := 1655) (by decide +kernel) rfl, ⟨rfl, by decide +kernel, by decide +kernel, by decide +kernel⟩, by decide⟩
theorem yv_X12_ask : YV RX12 yX12_ask cX12_ask 2 (some .int) 1 := ⟨gw_of (i := 1570) (by decide +kernel) rfl, gw_of (i := 1571) (by decide +kernel) rfl, gw_of (i := 92) (by decide +kernel) rfl, gw_of (i := 1572) (by decide +kernel) rfl, ⟨rfl, by decide +kernel, by decide +kernel, by decide +kernel⟩, by decide⟩
theorem yv_X12_assize : YV RX12 yX12_assize cX12_assize 4 (some .int) 0 := ⟨gw_of (i := 1605) (by decide +kernel) rfl, gw_of (i := 1606) (by decide +kernel) rfl, gw_of (i := 92) (by decide +kernel) rfl, gw_of (i := 1607) (by decide +kernel) rfl, ⟨rfl, by decide +kernel, by decide +kernel, by decide +kernel⟩, by decide⟩
theorem yv_X12_best : YV RX12 yX12_best cX12_best 6 (some .int) 1 := ⟨gw_of (i := 1702) (by decide +kernel) rfl, gw_of (i := 1703) (by decide +kernel) rfl, gw_of (i := 92) (by decide +kernel) rfl, gw_of (i := 1704) (by decide +kernel) rfl, ⟨rfl, by decide +kernel, by decide +kernel, by decide +kernel⟩, by decide⟩
theorem yv_X12_count : YV RX12 yX12_count cX12_count 2 (some .int) 1 := ⟨gw_of (i := 1826) (by decide +kernel) rfl, gw_of (i := 1827) (by decide +kernel) rfl, gw_of (i := 92) (by decide +kernel) rfl, gw_of (i := 1828) (by decide +kernel) rfl, ⟨rfl, by decide +kernel, by decide +kernel, by decide +kernel⟩, by decide⟩
theorem yv_X12_dies : YV RX12 yX12_dies cX12_dies 3 (some .int) 1 := ⟨gw_of (i := 1625) (by decide +kernel) rfl, gw_of (i := 1626) (by decide +kernel) rfl, gw_of (i := 92) (by decide +kernel) rfl, gw_of (i := 1627) (by decide +kernel) rfl, ⟨rfl, by decide +kernel, by decide +kernel, by decide +kernel⟩, by decide⟩
theorem yv_X12_docket : YV RX12 yX12_docket cX12_docket 1 (some .int) 0 := ⟨gw_of (i := 1726) (by decide +kernel) rfl, gw_of (i := 1727) (by decide +kernel) rfl, gw_of (i := 92) (by decide +kernel) rfl, gw_of (i := 1728) (by decide +kernel) rfl, ⟨rfl, by decide +kernel, by decide +kernel, by decide +kernel⟩, by decide⟩
theorem yv_X12_dumb : YV RX12 yX12_dumb cX12_dumb 10 (some .int) 3 := ⟨gw_of (i := 1765) (by decide +kernel) rfl, gw_of (i := 1766) (by decide +kernel) rfl, gw_of (i := 92) (by decide +kernel) rfl, gw_of (i := 1767) (by decide +kernel) rfl, ⟨rfl, by decide +kernel, by decide +kernel, by decide +kernel⟩, by decide⟩
theorem yv_X12_end : YV RX12 yX12_end cX12_end 2 (some .boolean) 1 := ⟨gw_of (i := 1406) (by decide +kernel) rfl, gw_of (i := 1407) (by decide +kernel) rfl, gw_of (i := 92) (by decide +kernel) rfl, gw_of (i := 1408) (by decide +kernel) rfl, ⟨rfl, by decide +kernel, by decide +kernel, by decide +kernel⟩, by decide⟩
theorem yv_X12_ends : YV RX12 yX12_ends cX12_ends 3 (some .int) 1 := ⟨gw_of (i := 1544) (by decide +kernel) rfl, gw_of (i := 1545) (by decide +kernel) rfl, gw_of (i := 92) (by decide +kernel) rfl, gw_of (i := 1546) (by decide +kernel) rfl, ⟨rfl, by decide +kernel, by decide +kernel, by decide +kernel⟩, by decide⟩
theorem yv_X12_gains : YV RX12 yX12_gains cX12_gains 5 (some .int) 2 := ⟨gw_of (i := 1682) (by decide +kernel) rfl, gw_of (i := 1683) (by decide +kernel) rfl, gw_of (i := 92) (by decide +kernel) rfl, gw_of (i := 1684) (by decide +kernel) rfl, ⟨rfl, by decide +kernel, by decide +kernel, by decide +kernel⟩, by decide⟩
theorem yv_X12_hopes : YV RX12 yX12_hopes cX12_hopes 3 (some .int) 1 := ⟨gw_of (i := 1750) (by decide +kernel) rfl, gw_of (i := 1751) (by decide +kernel) rfl, gw_of (i := 92) (by decide +kernel) rfl, gw_of (i := 1752) (by decide +kernel) rfl, ⟨rfl, by decide +kernel, by decide +kernel, by decide +kernel⟩, by decide⟩
theorem yv_X12_house : YV RX12 yX12_house cX12_house 7 (some .int) 2 := ⟨gw_of (i := 1787) (by decide +kernel) rfl, gw_of (i := 1788) (by decide +kernel) rfl, gw_of (i := 92) (by decide +kernel) rfl, gw_of (i := 1789) (by decide +kernel) rfl, ⟨rfl, by decide +kernel, by decide +kernel, by decide +kernel⟩, by decide⟩
theorem yv_X12_judge : YV RX12 yX12_judge cX12_judge 3 (some .int) 1 := ⟨gw_of (i := 1581) (by decide +kernel) rfl, gw_of (i := 1582) (by decide +kernel) rfl, gw_of (i := 92) (by decide +kernel) rfl, gw_of (i := 1583) (by decide +kernel) rfl, ⟨rfl, by decide +kernel, by decide +kernel, by decide +kernel⟩, by decide⟩
theorem yv_X12_keep : YV RX12 yX12_keep cX12_keep 2 (some .boolean) 1 := ⟨gw_of (i := 1818) (by decide +kernel) rfl, gw_of (i := 1819) (by decide +kernel) rfl, gw_of (i := 92) (by decide +kernel) rfl, gw_of (i := 1820) (by decide +kernel) rfl, ⟨rfl, by decide +kernel, by decide +kernel, by decide +kernel⟩, by decide⟩
theorem yv_X12_lacks : YV RX12 yX12_lacks cX12_lacks 5 (some .int) 2 := ⟨gw_of (i := 1694) (by decide +kernel) rfl, gw_of (i := 1695) (by decide +kernel) rfl, gw_of (i := 92) (by decide +kernel) rfl, gw_of (i := 1696) (by decide +kernel) rfl, ⟨rfl, by decide +kernel, by decide +kernel, by decide +kernel⟩, by decide⟩
theorem yv_X12_law : YV RX12 yX12_law cX12_law 3 (some .int) 0 := ⟨gw_of (i := 1476) (by decide +kernel) rfl, gw_of (i := 1477) (by decide +kernel) rfl, gw_of (i := 92) (by decide +kernel) rfl, gw_of (i := 1478) (by decide +kernel) rfl, ⟨rfl, by decide +kernel, by decide +kernel, by decide +kernel⟩, by decide⟩
theorem yv_X12_lay_ : YV RX12 yX12_lay_ cX12_lay_ 4 (some .int) 2 := ⟨gw_of (i := 1552) (by decide +kernel) rfl, gw_of (i := 1553) (by decide +kernel) rfl, gw_of (i := 92) (by decide +kernel) rfl, gw_of (i := 1554) (by decide +kernel) rfl, ⟨rfl, by decide +kernel, by decide +kernel, by decide +kernel⟩, by decide⟩
theorem yv_X12_least : YV RX12 yX12_least cX12_least 5 (some .int) 2 := ⟨gw_of (i := 1641) (by decide +kernel) rfl, gw_of (i := 1642) (by decide +kernel) rfl, gw_of (i := 92) (by decide +kernel) rfl, gw_of (i := 1643) (by decide +kernel) rfl, ⟨rfl, by decide +kernel, by decide +kernel, by decide +kernel⟩, by decide⟩
theorem yv_X12_left : YV RX12 yX12_left cX12_left 4 (some .int) 2 := ⟨gw_of (i := 1621) (by decide +kernel) rfl, gw_of (i := 1622) (by decide +kernel) rfl, gw_of (i := 92) (by decide +kernel) rfl, gw_of (i := 1623) (by decide +kernel) rfl, ⟨rfl, by decide +kernel, by decide +kernel, by decide +kernel⟩, by decide⟩
theorem yv_X12_longest : YV RX12 yX12_longest cX12_longest 6 (some .int) 1 := ⟨gw_of (i := 1649) (by decide +kernel) rfl, gw_of (i := 1650) (by decide +kernel) rfl, gw_of (i := 92) (by decide +kernel) rfl, gw_of (i := 1651) (by decide +kernel) rfl, ⟨rfl, by decide +kernel, by decide +kernel, by decide +kernel⟩, by decide⟩
theorem yv_X12_mercy : YV RX12 yX12_mercy cX12_mercy 4 (some .int) 2 := ⟨gw_of (i := 1645) (by decide +kernel) rfl, gw_of (i := 1646) (by decide +kernel) rfl, gw_of (i := 92) (by decide +kernel) rfl, gw_of (i := 1647) (by decide +kernel) rfl, ⟨rfl, by decide +kernel, by decide +kernel, by decide +kernel⟩, by decide⟩
theorem yv_X12_nights : YV RX12 yX12_nights cX12_nights 5 (some .int) 1 := ⟨gw_of (i := 1593) (by decide +kernel) rfl, gw_of (i := 1594) (by decide +kernel) rfl, gw_of (i := 92) (by decide +kernel) rfl, gw_of (i := 1595) (by decide +kernel) rfl, ⟨rfl, by decide +kernel, by decide +kernel, by decide +kernel⟩, by decide⟩
theorem yv_X12_parts : YV RX12 yX12_parts cX12_parts 2 (some .int) 0 := ⟨gw_of (i := 1742) (by decide +kernel) rfl, gw_of (i := 1743) (by decide +kernel) rfl, gw_of (i := 92) (by decide +kernel) rfl, gw_of (i := 1744) (by decide +kernel) rfl, ⟨rfl, by decide +kernel, by decide +kernel, by decide +kernel⟩, by decide⟩
theorem yv_X12_prisoner : YV RX12 yX12_prisoner cX12_prisoner 3 (some .int) 2 := ⟨gw_of (i := 1510) (by decide +kernel) rfl, gw_of (i := 1511) (by decide +kernel) rfl, gw_of (i := 92) (by decide +kernel) rfl, gw_of (i := 1512) (by decide +kernel) rfl, ⟨rfl, by decide +kernel, by decide +kernel, by decide +kernel⟩, by decide⟩
theorem yv_X12_prisoners : YV RX12 yX12_prisoners cX12_prisoners 5 (some .int) 0 := ⟨gw_of (i := 1413) (by decide +kernel) rfl, gw_of (i := 1414) (by decide +kernel) rfl, gw_of (i := 92) (by decide +kernel) rfl, gw_of (i := 1415) (by decide +kernel) rfl, ⟨rfl, by decide +kernel, by decide +kernel, by decide +kernel⟩, by decide⟩
theorem yv_X12_proof : YV RX12 yX12_proof cX12_proof 5 (some .int) 2 := ⟨gw_of (i := 1674) (by decide +kernel) rfl, gw_of (i := 1675) (by decide +kernel) rfl, gw_of (i := 92) (by decide +kernel) rfl, gw_of (i := 1676) (by decide +kernel) rfl, ⟨rfl, by decide +kernel, by decide +kernel, by decide +kernel⟩, by decide⟩
theorem yv_X12_reading : YV RX12 yX12_reading cX12_reading 3 (some .int) 0 := ⟨gw_of (i := 1757) (by decide +kernel) rfl, gw_of (i := 1758) (by decide +kernel) rfl, gw_of (i := 92) (by decide +kernel) rfl, gw_of (i := 1759) (by decide +kernel) rfl, ⟨rfl, by decide +kernel, by decide +kernel, by decide +kernel⟩, by decide⟩
theorem yv_X12_rests : YV RX12 yX12_rests cX12_rests 6 (some .int) 2 := ⟨gw_of (i := 1796) (by decide +kernel) rfl, gw_of (i := 1797) (by decide +kernel) rfl, gw_of (i := 92) (by decide +kernel) rfl, gw_of (i := 1798) (by decide +kernel) rfl, ⟨rfl, by decide +kernel, by decide +kernel, by decide +kernel⟩, by decide⟩
theorem yv_X12_row : YV RX12 yX12_row cX12_row 2 (some .long) 1 := ⟨gw_of (i := 1830) (by decide +kernel) rfl, gw_of (i := 1831) (by decide +kernel) rfl, gw_of (i := 92) (by decide +kernel) rfl, gw_of (i := 1832) (by decide +kernel) rfl, ⟨rfl, by decide +kernel, by decide +kernel, by decide +kernel⟩, by decide⟩
theorem yv_X12_rule : YV RX12 yX12_rule cX12_rule 3 (some .int) 0 := ⟨gw_of (i := 1487) (by decide +kernel) rfl, gw_of (i := 1488) (by decide +kernel) rfl, gw_of (i := 92) (by decide +kernel) rfl, gw_of (i := 1489) (by decide +kernel) rfl, ⟨rfl, by decide +kernel, by decide +kernel, by decide +kernel⟩, by decide⟩
theorem yv_X12_search : YV RX12 yX12_search cX12_search 9 (some .int) 2 := ⟨gw_of (i := 1791) (by decide +kernel) rfl, gw_of (i := 1792) (by decide +kernel) rfl, gw_of (i := 92) (by decide +kernel) rfl, gw_of (i := 1793) (by decide +kernel) rfl, ⟨rfl, by decide +kernel, by decide +kernel, by decide +kernel⟩, by decide⟩
theorem yv_X12_sheet : YV RX12 yX12_sheet cX12_sheet 9 (some .int) 4 := ⟨gw_of (i := 1548) (by decide +kernel) rfl, gw_of (i := 1549) (by decide +kernel) rfl, gw_of (i := 92) (by decide +kernel) rfl, gw_of (i := 1550) (by decide +kernel) rfl, ⟨rfl, by decide +kernel, by decide +kernel, by decide +kernel⟩, by decide⟩
theorem yv_X12_sign : YV RX12 yX12_sign cX12_sign 3 (some .int) 1 := ⟨gw_of (i := 1402) (by decide +kernel) rfl, gw_of (i := 1403) (by decide +kernel) rfl, gw_of (i := 92) (by decide +kernel) rfl, gw_of (i := 1404) (by decide +kernel) rfl, ⟨rfl, by decide +kernel, by decide +kernel, by decide +kernel⟩, by decide⟩
theorem yv_X12_silent : YV RX12 yX12_silent cX12_silent 3 (some .int) 1 := ⟨gw_of (i := 1670) (by decide +kernel) rfl, gw_of (i := 1671) (by decide +kernel) rfl, gw_of (i := 92) (by decide +kernel) rfl, gw_of (i := 1672) (by decide +kernel) rfl, ⟨rfl, by decide +kernel, by decide +kernel, by decide +kernel⟩, by decide⟩
theorem yv_X12_speaks : YV RX12 yX12_speaks cX12_speaks 4 (some .int) 2 := ⟨gw_of (i := 1633) (by decide +kernel) rfl, gw_of (i := 1634) (by decide +kernel) rfl, gw_of (i := 92) (by decide +kernel) rfl, gw_of (i := 1635) (by decide +kernel) rfl, ⟨rfl, by decide +kernel, by decide +kernel, by decide +kernel⟩, by decide⟩
theorem yv_X12_stones : YV RX12 yX12_stones cX12_stones 7 (some .int) 1 := ⟨gw_of (i := 1657) (by decide +kernel) rfl, gw_of (i := 1658) (by decide +kernel) rfl, gw_of (i := 92) (by decide +kernel) rfl, gw_of (i := 1659) (by decide +kernel) rfl, ⟨rfl, by decide +kernel, by decide +kernel, by decide +kernel⟩, by decide⟩
theorem yv_X12_sure : YV RX12 yX12_sure cX12_sure 7 (some .int) 3 := ⟨gw_of (i := 1782) (by decide +kernel) rfl, gw_of (i := 1783) (by decide +kernel) rfl, gw_of (i := 92) (by decide +kernel) rfl, gw_of (i := 1784) (by decide +kernel) rfl, ⟨rfl, by decide +kernel, by decide +kernel, by decide +kernel⟩, by decide⟩
theorem yv_X12_thrown : YV RX12 yX12_thrown cX12_thrown 1 (some .int) 0 := ⟨gw_of (i := 1398) (by decide +kernel) rfl, gw_of (i := 1399) (by decide +kernel) rfl, gw_of (i := 92) (by decide +kernel) rfl, gw_of (i := 1400) (by decide +kernel) rfl, ⟨rfl, by decide +kernel, by decide +kernel, by decide +kernel⟩, by decide⟩
theorem yv_X12_till : YV RX12 yX12_till cX12_till 3 (some .int) 1 := ⟨gw_of (i := 1678) (by decide +kernel) rfl, gw_of (i := 1679) (by decide +kernel) rfl, gw_of (i := 92) (by decide +kernel) rfl, gw_of (i := 1680) (by decide +kernel) rfl, ⟨rfl, by decide +kernel, by decide +kernel, by decide +kernel⟩, by decide⟩
theorem yv_X12_trials : YV RX12 yX12_trials cX12_trials 1 (some .int) 0 := ⟨gw_of (i := 1710) (by decide +kernel) rfl, gw_of (i := 1711) (by decide +kernel) rfl, gw_of (i := 92) (by decide +kernel) rfl, gw_of (i := 1712) (by decide +kernel) rfl, ⟨rfl, by decide +kernel, by decide +kernel, by decide +kernel⟩, by decide⟩
theorem yv_X12_undo : YV RX12 yX12_undo cX12_undo 2 (some .int) 0 := ⟨gw_of (i := 1617) (by decide +kernel) rfl, gw_of (i := 1618) (by decide +kernel) rfl, gw_of (i := 92) (by decide +kernel) rfl, gw_of (i := 1619) (by decide +kernel) rfl, ⟨rfl, by decide +kernel, by decide +kernel, by decide +kernel⟩, by decide⟩
theorem yv_X12_values : YV RX12 yX12_values cX12_values 3 (some .int) 0 := ⟨gw_of (i := 1468) (by decide +kernel) rfl, gw_of (i := 1469) (by decide +kernel) rfl, gw_of (i := 92) (by decide +kernel) rfl, gw_of (i := 1470) (by decide +kernel) rfl, ⟨rfl, by decide +kernel, by decide +kernel, by decide +kernel⟩, by decide⟩
theorem yv_X12_wants : YV RX12 yX12_wants cX12_wants 9 (some .int) 1 := ⟨gw_of (i := 1761) (by decide +kernel) rfl, gw_of (i := 1762) (by decide +kernel) rfl, gw_of (i := 92) (by decide +kernel) rfl, gw_of (i := 1763) (by decide +kernel) rfl, ⟨rfl, by decide +kernel, by decide +kernel, by decide +kernel⟩, by decide⟩
theorem yv_X12_witness : YV RX12 yX12_witness cX12_witness 3 (some .int) 2 := ⟨gw_of (i := 1540) (by decide +kernel) rfl, gw_of (i := 1541) (by decide +kernel) rfl, gw_of (i := 92) (by decide +kernel) rfl, gw_of (i := 1542) (by decide +kernel) rfl, ⟨rfl, by decide +kernel, by decide +kernel, by decide +kernel⟩, by decide⟩
theorem yv_X12_witnesses : YV RX12 yX12_witnesses cX12_witnesses 4 (some .int) 0 := ⟨gw_of (i := 1472) (by decide +kernel) rfl, gw_of (i := 1473) (by decide +kernel) rfl, gw_of (i := 92) (by decide +kernel) rfl, gw_of (i := 1474) (by decide +kernel) rfl, ⟨rfl, by decide +kernel, by decide +kernel, by decide +kernel⟩, by decide⟩
theorem yv_X12_years : YV RX12 yX12_years cX12_years 7 (some .int) 2 := ⟨gw_of (i := 1809) (by decide +kernel) rfl, gw_of (i := 1810) (by decide +kernel) rfl, gw_of (i := 92) (by decide +kernel) rfl, gw_of (i := 1811) (by decide +kernel) rfl, ⟨rfl, by decide +kernel, by decide +kernel, by decide +kernel⟩, by decide⟩
theorem yw_prisoner : YW yL_prisoner cL_prisoner 5 4 [(0, 10, 13, 13)] := ⟨gw_of (i := 1164) (by decide +kernel) rfl, gw_of (i := 78) (by decide +kernel) rfl, gw_of (i := 1165) (by decide +kernel) rfl, ⟨by decide +kernel, by decide +kernel, by decide +kernel⟩, by decide⟩
theorem yw_witness : YW yL_witness cL_witness 5 4 [(0, 10, 13, 13)] := ⟨gw_of (i := 1239) (by decide +kernel) rfl, gw_of (i := 78) (by decide +kernel) rfl, gw_of (i := 1240) (by decide +kernel) rfl, ⟨by decide +kernel, by decide +kernel, by decide +kernel⟩, by decide⟩
theorem yw_row : YW yL_row cL_row 4 3 [(0, 8, 11, 13)] := ⟨gw_of (i := 1248) (by decide +kernel) rfl, gw_of (i := 78) (by decide +kernel) rfl, gw_of (i := 1249) (by decide +kernel) rfl, ⟨by decide +kernel, by decide +kernel, by decide +kernel⟩, by decide⟩
theorem ns_linkL : Cond.classLink RL 13 NS ∈ gw := by decide +kernel
theorem zx_bump {Z : Zt} {E : En} {b L : Nat} {xs : Nat → Int32} (h : zX Z E b L xs) : zX (Zi Z) E b L xs := by
  obtain ⟨l, p, e, R, s, m, args, below, meth, c, cs, ss⟩ := Z
  exact h
